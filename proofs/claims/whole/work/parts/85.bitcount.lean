section
/-! 85.bitcount.lean.txt -/
/-- n bytes of x, each through g -/
def byN (g : Nat → Nat) : Nat → Nat → Nat
  | 0, _ => 0
  | n + 1, x => g (x % 256) + 256 * byN g n (x / 256)
/-- a byte n times -/
def rpN (c : Nat) : Nat → Nat
  | 0 => 0
  | n + 1 => c + 256 * rpN c n
theorem byN_lt {g : Nat → Nat} (hg : ∀ b, b < 256 → g b < 256) : ∀ n x, byN g n x < 256 ^ n
  | 0, _ => by show 0 < 1; decide
  | n + 1, x => by
    have h1 := hg (x % 256) (Nat.mod_lt _ (by decide))
    have h2 := byN_lt hg n (x / 256)
    show g (x % 256) + 256 * byN g n (x / 256) < 256 ^ (n + 1)
    rw [Nat.pow_succ]
    omega
theorem byN_comp {g k : Nat → Nat} (hk : ∀ b, b < 256 → k b < 256) : ∀ n x, byN g n (byN k n x) = byN (fun b => g (k b)) n x
  | 0, _ => rfl
  | n + 1, x => by
    have h1 := hk (x % 256) (Nat.mod_lt _ (by decide))
    show g ((k (x % 256) + 256 * byN k n (x / 256)) % 256) + 256 * byN g n ((k (x % 256) + 256 * byN k n (x / 256)) / 256) = g (k (x % 256)) + 256 * byN (fun b => g (k b)) n (x / 256)
    rw [show (k (x % 256) + 256 * byN k n (x / 256)) % 256 = k (x % 256) by omega, show (k (x % 256) + 256 * byN k n (x / 256)) / 256 = byN k n (x / 256) by omega, byN_comp hk n]
theorem and_byte (x c r : Nat) (hc : c < 256) : x &&& (c + 256 * r) = (x % 256 &&& c) + 256 * (x / 256 &&& r) := by
  have h := Nat.div_add_mod (x &&& (c + 256 * r)) 256
  rw [show 256 = 2 ^ 8 from rfl, Nat.and_mod_two_pow, Nat.and_div_two_pow] at h
  rw [← h, show (c + 2 ^ 8 * r) % 2 ^ 8 = c by omega, show (c + 2 ^ 8 * r) / 2 ^ 8 = r by omega]
  exact Nat.add_comm _ _
theorem bc_m1 : ∀ b, b < 256 → ∀ r, r < 2 → (b / 2 + 128 * r) &&& 85 = b / 2 &&& 85 := by decide +kernel
theorem bc_m2 : ∀ b, b < 256 → ∀ r, r < 4 → (b / 4 + 64 * r) &&& 51 = b / 4 &&& 51 := by decide +kernel
theorem bc_l1 : ∀ b, b < 256 → (b / 2 &&& 85) ≤ b := by decide +kernel
theorem bc_s1 : ∀ n x, x / 2 &&& rpN 85 n = byN (fun b => b / 2 &&& 85) n x
  | 0, x => Nat.and_zero _
  | n + 1, x => by
    show x / 2 &&& (85 + 256 * rpN 85 n) = (x % 256 / 2 &&& 85) + 256 * byN (fun b => b / 2 &&& 85) n (x / 256)
    rw [and_byte _ _ _ (by decide), show x / 2 % 256 = x % 256 / 2 + 128 * (x / 256 % 2) by omega, bc_m1 _ (Nat.mod_lt _ (by decide)) _ (Nat.mod_lt _ (by decide)), show x / 2 / 256 = x / 256 / 2 by omega, bc_s1 n]
theorem bc_d1 : ∀ n x, x < 256 ^ n → byN (fun b => b / 2 &&& 85) n x ≤ x ∧ x - byN (fun b => b / 2 &&& 85) n x = byN (fun b => b - (b / 2 &&& 85)) n x
  | 0, x, h => by have : x < 1 := h; constructor; exact Nat.zero_le _; show x - 0 = 0; omega
  | n + 1, x, h => by
    rw [Nat.pow_succ] at h
    obtain ⟨h1, h2⟩ := bc_d1 n (x / 256) (by omega)
    have h3 := bc_l1 (x % 256) (Nat.mod_lt _ (by decide))
    show (x % 256 / 2 &&& 85) + 256 * byN (fun b => b / 2 &&& 85) n (x / 256) ≤ x ∧ x - ((x % 256 / 2 &&& 85) + 256 * byN (fun b => b / 2 &&& 85) n (x / 256)) = (x % 256 - (x % 256 / 2 &&& 85)) + 256 * byN (fun b => b - (b / 2 &&& 85)) n (x / 256)
    rw [← h2]
    omega
theorem bc_s2 : ∀ n x, (x &&& rpN 51 n) + (x / 4 &&& rpN 51 n) = byN (fun b => (b &&& 51) + (b / 4 &&& 51)) n x
  | 0, x => by show (x &&& 0) + (x / 4 &&& 0) = 0; rw [Nat.and_zero, Nat.and_zero]
  | n + 1, x => by
    have ih := bc_s2 n (x / 256)
    show (x &&& (51 + 256 * rpN 51 n)) + (x / 4 &&& (51 + 256 * rpN 51 n)) = ((x % 256 &&& 51) + (x % 256 / 4 &&& 51)) + 256 * byN (fun b => (b &&& 51) + (b / 4 &&& 51)) n (x / 256)
    rw [and_byte _ _ _ (by decide), and_byte _ _ _ (by decide), show x / 4 % 256 = x % 256 / 4 + 64 * (x / 256 % 4) by omega, bc_m2 _ (Nat.mod_lt _ (by decide)) _ (Nat.mod_lt _ (by decide)), show x / 4 / 256 = x / 256 / 4 by omega, ← ih]
    omega
theorem byN_low {g : Nat → Nat} (hg : ∀ b, b < 256 → g b % 16 ≤ 4 ∧ g b / 16 ≤ 4) : ∀ n y, byN g n y % 16 ≤ 4
  | 0, _ => by show 0 % 16 ≤ 4; decide
  | n + 1, y => by
    have := hg (y % 256) (Nat.mod_lt _ (by decide))
    show (g (y % 256) + 256 * byN g n (y / 256)) % 16 ≤ 4
    omega
theorem bc_s3 {g : Nat → Nat} (hg : ∀ b, b < 256 → g b % 16 ≤ 4 ∧ g b / 16 ≤ 4) : ∀ n y, (byN g n y + byN g n y / 16) &&& rpN 15 n = byN (fun b => (g b + g b / 16) % 16) n y
  | 0, _ => Nat.and_zero _
  | n + 1, y => by
    have ih := bc_s3 hg n (y / 256)
    have h1 := hg (y % 256) (Nat.mod_lt _ (by decide))
    have h2 := byN_low hg n (y / 256)
    show (g (y % 256) + 256 * byN g n (y / 256) + (g (y % 256) + 256 * byN g n (y / 256)) / 16) &&& (15 + 256 * rpN 15 n) = (g (y % 256) + g (y % 256) / 16) % 16 + 256 * byN (fun b => (g b + g b / 16) % 16) n (y / 256)
    generalize byN g n (y / 256) = X at *
    generalize g (y % 256) = a at *
    rw [and_byte _ _ _ (by decide), ← ih, show (15 : Nat) = 2 ^ 4 - 1 from rfl, Nat.and_two_pow_sub_one_eq_mod, show (a + 256 * X + (a + 256 * X) / 16) / 256 = X + X / 16 by omega]
    have : (a + 256 * X + (a + 256 * X) / 16) % 256 % 2 ^ 4 = (a + a / 16) % 16 := by
      show (a + 256 * X + (a + 256 * X) / 16) % 256 % 16 = (a + a / 16) % 16
      omega
    rw [this]
theorem bc_g12 : ∀ b, b < 256 → b - (b / 2 &&& 85) < 256 ∧ ((b - (b / 2 &&& 85) &&& 51) + ((b - (b / 2 &&& 85)) / 4 &&& 51)) % 16 ≤ 4 ∧ ((b - (b / 2 &&& 85) &&& 51) + ((b - (b / 2 &&& 85)) / 4 &&& 51)) / 16 ≤ 4 := by decide +kernel
/-- how many of the first n bits of x are set -/
def pb (x : Nat) : Nat → Nat
  | 0 => 0
  | n + 1 => pb x n + (if x.testBit n then 1 else 0)
theorem bc_p8 : ∀ b, b < 256 → (((b - (b / 2 &&& 85) &&& 51) + ((b - (b / 2 &&& 85)) / 4 &&& 51)) + ((b - (b / 2 &&& 85) &&& 51) + ((b - (b / 2 &&& 85)) / 4 &&& 51)) / 16) % 16 = pb b 8 := by decide +kernel
theorem pb_le (x : Nat) : ∀ n, pb x n ≤ n
  | 0 => Nat.le_refl _
  | n + 1 => by
    have := pb_le x n
    show pb x n + (if x.testBit n then 1 else 0) ≤ n + 1
    split <;> omega
theorem pb_congr {x y : Nat} : ∀ n, (∀ i, i < n → x.testBit i = y.testBit i) → pb x n = pb y n
  | 0, _ => rfl
  | n + 1, h => by
    show pb x n + (if x.testBit n then 1 else 0) = pb y n + (if y.testBit n then 1 else 0)
    rw [pb_congr n (fun i z => h i (by omega)), h n (by omega)]
theorem pb_byte (x n : Nat) : pb x (8 + n) = pb (x % 256) 8 + pb (x / 256) n := by
  induction n with
  | zero =>
    have h : pb x 8 = pb (x % 256) 8 := pb_congr 8 (fun i hi => by
      have := Nat.testBit_mod_two_pow x 8 i
      rw [show (2 : Nat) ^ 8 = 256 from rfl] at this
      rw [this]; simp [hi])
    exact h
  | succ n ih =>
    have h := Nat.testBit_div_two_pow (n := 8) x n
    rw [show (2 : Nat) ^ 8 = 256 from rfl] at h
    have e1 : pb x (8 + (n + 1)) = pb x (8 + n) + (if x.testBit (8 + n) then 1 else 0) := rfl
    have e2 : pb (x / 256) (n + 1) = pb (x / 256) n + (if (x / 256).testBit n then 1 else 0) := rfl
    rw [e1, e2, ih, h, Nat.add_comm n 8, Nat.add_assoc]
/-- the bytes of what bitCount has after three steps -/
theorem bc_123 (x : Nat) (hx : x < 256 ^ 8) : (((x - (x / 2 &&& rpN 85 8) &&& rpN 51 8) + ((x - (x / 2 &&& rpN 85 8)) / 4 &&& rpN 51 8)) + ((x - (x / 2 &&& rpN 85 8) &&& rpN 51 8) + ((x - (x / 2 &&& rpN 85 8)) / 4 &&& rpN 51 8)) / 16) &&& rpN 15 8 = byN (fun b => pb b 8) 8 x := by
  rw [bc_s1, (bc_d1 8 x hx).2, bc_s2, byN_comp (fun b hb => (bc_g12 b hb).1)]
  have h := bc_s3 (g := fun b => (b - (b / 2 &&& 85) &&& 51) + ((b - (b / 2 &&& 85)) / 4 &&& 51)) (fun b hb => (bc_g12 b hb).2) 8 x
  rw [h]
  have e : ∀ n y, byN (fun b => (((b - (b / 2 &&& 85) &&& 51) + ((b - (b / 2 &&& 85)) / 4 &&& 51)) + ((b - (b / 2 &&& 85) &&& 51) + ((b - (b / 2 &&& 85)) / 4 &&& 51)) / 16) % 16) n y = byN (fun b => pb b 8) n y := by
    intro n
    induction n with
    | zero => intro y; rfl
    | succ n ih =>
      intro y
      show (((y % 256 - (y % 256 / 2 &&& 85) &&& 51) + ((y % 256 - (y % 256 / 2 &&& 85)) / 4 &&& 51)) + ((y % 256 - (y % 256 / 2 &&& 85) &&& 51) + ((y % 256 - (y % 256 / 2 &&& 85)) / 4 &&& 51)) / 16) % 16 + 256 * _ = pb (y % 256) 8 + 256 * _
      rw [bc_p8 _ (Nat.mod_lt _ (by decide)), ih]
  exact e 8 x
theorem bc_ar1 {c0 c1 c2 c3 c4 c5 c6 c7 z : Nat} (h0 : c0 ≤ 8) (hz : z = c0 + 256 * (c1 + 256 * (c2 + 256 * (c3 + 256 * (c4 + 256 * (c5 + 256 * (c6 + 256 * c7))))))) : z + z / 256 = (c0 + c1) + 256 * ((c1 + c2) + 256 * ((c2 + c3) + 256 * ((c3 + c4) + 256 * ((c4 + c5) + 256 * ((c5 + c6) + 256 * ((c6 + c7) + 256 * c7)))))) := by
  have : z / 256 = c1 + 256 * (c2 + 256 * (c3 + 256 * (c4 + 256 * (c5 + 256 * (c6 + 256 * c7))))) := by omega
  omega
theorem bc_ar2 {d0 d1 d2 d3 d4 d5 d6 d7 z : Nat} (h0 : d0 ≤ 16) (h1 : d1 ≤ 16) (hz : z = d0 + 256 * (d1 + 256 * (d2 + 256 * (d3 + 256 * (d4 + 256 * (d5 + 256 * (d6 + 256 * d7))))))) : z + z / 65536 = (d0 + d2) + 256 * ((d1 + d3) + 256 * ((d2 + d4) + 256 * ((d3 + d5) + 256 * ((d4 + d6) + 256 * ((d5 + d7) + 256 * (d6 + 256 * d7)))))) := by
  have : z / 65536 = d2 + 256 * (d3 + 256 * (d4 + 256 * (d5 + 256 * (d6 + 256 * d7)))) := by omega
  omega
theorem bc_ar3 {d0 d1 d2 d3 d4 d5 d6 d7 z : Nat} (h0 : d0 ≤ 32) (h1 : d1 ≤ 32) (h2 : d2 ≤ 32) (h3 : d3 ≤ 32) (_ : d4 ≤ 32) (hz : z = d0 + 256 * (d1 + 256 * (d2 + 256 * (d3 + 256 * (d4 + 256 * (d5 + 256 * (d6 + 256 * d7))))))) : (z + z / 4294967296) % 128 = (d0 + d4) % 128 := by
  have : z / 4294967296 = d4 + 256 * (d5 + 256 * (d6 + 256 * d7)) := by omega
  omega
theorem bc_ar {c0 c1 c2 c3 c4 c5 c6 c7 z : Nat} (h0 : c0 ≤ 8) (h1 : c1 ≤ 8) (h2 : c2 ≤ 8) (h3 : c3 ≤ 8) (h4 : c4 ≤ 8) (h5 : c5 ≤ 8) (h6 : c6 ≤ 8) (h7 : c7 ≤ 8) (hz : z = c0 + 256 * (c1 + 256 * (c2 + 256 * (c3 + 256 * (c4 + 256 * (c5 + 256 * (c6 + 256 * c7))))))) : z + z / 256 < 2 ^ 64 ∧ (z + z / 256) + (z + z / 256) / 65536 < 2 ^ 64 ∧ ((z + z / 256) + (z + z / 256) / 65536) + ((z + z / 256) + (z + z / 256) / 65536) / 4294967296 < 2 ^ 64 ∧ (((z + z / 256) + (z + z / 256) / 65536) + ((z + z / 256) + (z + z / 256) / 65536) / 4294967296) % 128 = c0 + (c1 + (c2 + (c3 + (c4 + (c5 + (c6 + c7)))))) := by
  have e1 := bc_ar1 h0 hz
  generalize z + z / 256 = w at *
  have e2 := bc_ar2 (by omega) (by omega) e1
  generalize w + w / 65536 = v at *
  have e3 := bc_ar3 (by omega) (by omega) (by omega) (by omega) (by omega) e2
  exact ⟨by omega, by omega, by omega, by rw [e3]; omega⟩
theorem pb_64 (x : Nat) : pb x 64 = pb (x % 256) 8 + (pb (x / 256 % 256) 8 + (pb (x / 256 / 256 % 256) 8 + (pb (x / 256 / 256 / 256 % 256) 8 + (pb (x / 256 / 256 / 256 / 256 % 256) 8 + (pb (x / 256 / 256 / 256 / 256 / 256 % 256) 8 + (pb (x / 256 / 256 / 256 / 256 / 256 / 256 % 256) 8 + pb (x / 256 / 256 / 256 / 256 / 256 / 256 / 256 % 256) 8)))))) := by
  rw [show (64 : Nat) = 8 + 56 from rfl, pb_byte x 56, show (56 : Nat) = 8 + 48 from rfl, pb_byte _ 48, show (48 : Nat) = 8 + 40 from rfl, pb_byte _ 40, show (40 : Nat) = 8 + 32 from rfl, pb_byte _ 32, show (32 : Nat) = 8 + 24 from rfl, pb_byte _ 24, show (24 : Nat) = 8 + 16 from rfl, pb_byte _ 16, show (16 : Nat) = 8 + 8 from rfl, pb_byte _ 8]
  have h := pb_byte (x / 256 / 256 / 256 / 256 / 256 / 256 / 256) 0
  rw [show pb (x / 256 / 256 / 256 / 256 / 256 / 256 / 256) 8 = pb (x / 256 / 256 / 256 / 256 / 256 / 256 / 256 % 256) 8 from h]
theorem byN_8 (g : Nat → Nat) (x : Nat) : byN g 8 x = g (x % 256) + 256 * (g (x / 256 % 256) + 256 * (g (x / 256 / 256 % 256) + 256 * (g (x / 256 / 256 / 256 % 256) + 256 * (g (x / 256 / 256 / 256 / 256 % 256) + 256 * (g (x / 256 / 256 / 256 / 256 / 256 % 256) + 256 * (g (x / 256 / 256 / 256 / 256 / 256 / 256 % 256) + 256 * g (x / 256 / 256 / 256 / 256 / 256 / 256 / 256 % 256))))))) := rfl
theorem bc_456 (x z : Nat) (hz : z = byN (fun b => pb b 8) 8 x) : z + z / 256 < 2 ^ 64 ∧ (z + z / 256) + (z + z / 256) / 65536 < 2 ^ 64 ∧ ((z + z / 256) + (z + z / 256) / 65536) + ((z + z / 256) + (z + z / 256) / 65536) / 4294967296 < 2 ^ 64 ∧ (((z + z / 256) + (z + z / 256) / 65536) + ((z + z / 256) + (z + z / 256) / 65536) / 4294967296) % 128 = pb x 64 := by
  rw [pb_64]
  rw [byN_8] at hz
  exact bc_ar (pb_le _ 8) (pb_le _ 8) (pb_le _ 8) (pb_le _ 8) (pb_le _ 8) (pb_le _ 8) (pb_le _ 8) (pb_le _ 8) hz
theorem bc_shN (x : Int64) (k : Int32) (j : Nat) (h : (k.toInt64.toUInt64 &&& Int64.toUInt64 63).toBitVec.toNat % 64 = j) : (bc_sh x k).toBitVec.toNat = x.toBitVec.toNat / 2 ^ j := by
  unfold bc_sh
  show (x.toUInt64 >>> (k.toInt64.toUInt64 &&& Int64.toUInt64 63)).toBitVec.toNat = _
  rw [UInt64.toBitVec_shiftRight]
  rw [BitVec.ushiftRight_eq', BitVec.toNat_ushiftRight, Nat.shiftRight_eq_div_pow, BitVec.toNat_umod]
  show x.toBitVec.toNat / 2 ^ ((k.toInt64.toUInt64 &&& Int64.toUInt64 63).toBitVec.toNat % 64) = _
  rw [h]
theorem bc_andN (x c : Int64) : (x &&& c).toBitVec.toNat = x.toBitVec.toNat &&& c.toBitVec.toNat := by
  rw [Int64.toBitVec_and, BitVec.toNat_and]
theorem bc_addN {x y : Int64} (h : x.toBitVec.toNat + y.toBitVec.toNat < 2 ^ 64) : (x + y).toBitVec.toNat = x.toBitVec.toNat + y.toBitVec.toNat := by
  rw [Int64.toBitVec_add, BitVec.toNat_add, Nat.mod_eq_of_lt h]
theorem bc_subN {x y : Int64} (h : y.toBitVec.toNat ≤ x.toBitVec.toNat) : (x - y).toBitVec.toNat = x.toBitVec.toNat - y.toBitVec.toNat := by
  rw [Int64.toBitVec_sub, BitVec.toNat_sub]
  have h1 := x.toBitVec.isLt
  have h2 := y.toBitVec.isLt
  omega
theorem bc_num (x : Int64) : bc x = nI (pb x.toBitVec.toNat 64) := by
  have hN := x.toBitVec.isLt
  have k1 : (6148914691236517205 : Int64).toBitVec.toNat = rpN 85 8 := by decide
  have k2 : (3689348814741910323 : Int64).toBitVec.toNat = rpN 51 8 := by decide
  have k3 : (1085102592571150095 : Int64).toBitVec.toNat = rpN 15 8 := by decide
  have s1 : ∀ y : Int64, (bc_sh y 1).toBitVec.toNat = y.toBitVec.toNat / 2 := fun y => bc_shN y 1 1 (by decide)
  have s2 : ∀ y : Int64, (bc_sh y 2).toBitVec.toNat = y.toBitVec.toNat / 4 := fun y => bc_shN y 2 2 (by decide)
  have s4 : ∀ y : Int64, (bc_sh y 4).toBitVec.toNat = y.toBitVec.toNat / 16 := fun y => bc_shN y 4 4 (by decide)
  have s8 : ∀ y : Int64, (bc_sh y 8).toBitVec.toNat = y.toBitVec.toNat / 256 := fun y => bc_shN y 8 8 (by decide)
  have s16 : ∀ y : Int64, (bc_sh y 16).toBitVec.toNat = y.toBitVec.toNat / 65536 := fun y => bc_shN y 16 16 (by decide)
  have s32 : ∀ y : Int64, (bc_sh y 32).toBitVec.toNat = y.toBitVec.toNat / 4294967296 := fun y => bc_shN y 32 32 (by decide)
  have h256 : (256 : Nat) ^ 8 = 2 ^ 64 := by decide
  have e1 : (bc_1 x).toBitVec.toNat = x.toBitVec.toNat - (x.toBitVec.toNat / 2 &&& rpN 85 8) := by
    unfold bc_1
    rw [bc_subN, bc_andN, s1, k1]
    rw [bc_andN, s1, k1, bc_s1]
    exact (bc_d1 8 _ (by rw [h256]; exact hN)).1
  have e2 : (bc_2 (bc_1 x)).toBitVec.toNat = ((bc_1 x).toBitVec.toNat &&& rpN 51 8) + ((bc_1 x).toBitVec.toNat / 4 &&& rpN 51 8) := by
    unfold bc_2
    have hs : ((bc_1 x).toBitVec.toNat &&& rpN 51 8) + ((bc_1 x).toBitVec.toNat / 4 &&& rpN 51 8) < 2 ^ 64 := by
      rw [bc_s2, ← h256]
      refine byN_lt (fun b hb => ?_) 8 _
      have a1 := Nat.and_le_right (n := b) (m := 51)
      have a2 := Nat.and_le_right (n := b / 4) (m := 51)
      omega
    rw [bc_addN, bc_andN, bc_andN, s2, k2]
    rw [bc_andN, bc_andN, s2, k2]
    exact hs
  have e3 : (bc_3 (bc_2 (bc_1 x))).toBitVec.toNat = ((bc_2 (bc_1 x)).toBitVec.toNat + (bc_2 (bc_1 x)).toBitVec.toNat / 16) &&& rpN 15 8 := by
    unfold bc_3
    rw [bc_andN, k3, Int64.toBitVec_add, BitVec.toNat_add, s4]
    have a : (((bc_2 (bc_1 x)).toBitVec.toNat + (bc_2 (bc_1 x)).toBitVec.toNat / 16) &&& rpN 15 8) % 2 ^ 64 = ((bc_2 (bc_1 x)).toBitVec.toNat + (bc_2 (bc_1 x)).toBitVec.toNat / 16) % 2 ^ 64 &&& rpN 15 8 % 2 ^ 64 := Nat.and_mod_two_pow
    rw [show rpN 15 8 % 2 ^ 64 = rpN 15 8 by decide] at a
    rw [← a]
    refine Nat.mod_eq_of_lt (Nat.lt_of_le_of_lt Nat.and_le_right ?_)
    decide
  have e4 : (bc_3 (bc_2 (bc_1 x))).toBitVec.toNat = byN (fun b => pb b 8) 8 x.toBitVec.toNat := by
    rw [e3, e2, e1]
    exact bc_123 _ (by rw [h256]; exact hN)
  obtain ⟨q1, q2, q3, q4⟩ := bc_456 x.toBitVec.toNat _ e4
  have f1 : (bc_4 (bc_3 (bc_2 (bc_1 x))) 8).toBitVec.toNat = (bc_3 (bc_2 (bc_1 x))).toBitVec.toNat + (bc_3 (bc_2 (bc_1 x))).toBitVec.toNat / 256 := by
    unfold bc_4
    rw [bc_addN, s8]
    rw [s8]; exact q1
  have f2 : (bc_4 (bc_4 (bc_3 (bc_2 (bc_1 x))) 8) 16).toBitVec.toNat = (bc_4 (bc_3 (bc_2 (bc_1 x))) 8).toBitVec.toNat + (bc_4 (bc_3 (bc_2 (bc_1 x))) 8).toBitVec.toNat / 65536 := by
    show (bc_4 (bc_3 (bc_2 (bc_1 x))) 8 + bc_sh (bc_4 (bc_3 (bc_2 (bc_1 x))) 8) 16).toBitVec.toNat = _
    rw [bc_addN, s16]
    rw [s16, f1]; exact q2
  have f3 : (bc_4 (bc_4 (bc_4 (bc_3 (bc_2 (bc_1 x))) 8) 16) 32).toBitVec.toNat = (bc_4 (bc_4 (bc_3 (bc_2 (bc_1 x))) 8) 16).toBitVec.toNat + (bc_4 (bc_4 (bc_3 (bc_2 (bc_1 x))) 8) 16).toBitVec.toNat / 4294967296 := by
    show (bc_4 (bc_4 (bc_3 (bc_2 (bc_1 x))) 8) 16 + bc_sh (bc_4 (bc_4 (bc_3 (bc_2 (bc_1 x))) 8) 16) 32).toBitVec.toNat = _
    rw [bc_addN, s32]
    rw [s32, f2, f1]; exact q3
  unfold bc
  have hp := pb_le x.toBitVec.toNat 64
  apply Int32.toBitVec_inj.mp
  apply BitVec.eq_of_toNat_eq
  rw [Int32.toBitVec_and, BitVec.toNat_and, Int64.toBitVec_toInt32, BitVec.signExtend_eq_setWidth_of_le _ (by decide), BitVec.toNat_setWidth, f3, f2, f1]
  rw [show (127 : Int32).toBitVec.toNat = 2 ^ 7 - 1 by decide, Nat.and_two_pow_sub_one_eq_mod, Nat.mod_mod_of_dvd _ (by decide)]
  show _ % 128 = _
  rw [q4]
  show _ = (BitVec.ofNat 32 _).toNat
  rw [BitVec.toNat_ofNat, Nat.mod_eq_of_lt (by omega)]
end
section
/-! 86.count.lean.txt -/
/-- how many of the first n are so -/
def cnt (b : Nat → Bool) : Nat → Nat
  | 0 => 0
  | n + 1 => cnt b n + (if b n then 1 else 0)
theorem cnt_congr {b c : Nat → Bool} : ∀ n, (∀ i, i < n → b i = c i) → cnt b n = cnt c n
  | 0, _ => rfl
  | n + 1, h => by
    show cnt b n + (if b n then 1 else 0) = cnt c n + (if c n then 1 else 0)
    rw [cnt_congr n (fun i z => h i (by omega)), h n (by omega)]
theorem cnt_le (b : Nat → Bool) : ∀ n, cnt b n ≤ n
  | 0 => Nat.le_refl _
  | n + 1 => by
    have := cnt_le b n
    show cnt b n + (if b n then 1 else 0) ≤ n + 1
    split <;> omega
theorem cnt_add (b : Nat → Bool) (m : Nat) : ∀ n, cnt b (m + n) = cnt b m + cnt (fun i => b (m + i)) n
  | 0 => rfl
  | n + 1 => by
    show cnt b (m + n) + (if b (m + n) then 1 else 0) = cnt b m + (cnt (fun i => b (m + i)) n + (if b (m + n) then 1 else 0))
    rw [cnt_add b m n, Nat.add_assoc]
theorem cnt_zero {b : Nat → Bool} : ∀ n, (∀ i, i < n → b i = false) → cnt b n = 0
  | 0, _ => rfl
  | n + 1, h => by
    show cnt b n + (if b n then 1 else 0) = 0
    rw [cnt_zero n (fun i z => h i (by omega)), h n (by omega)]
    rfl
theorem cnt_pos {b : Nat → Bool} : ∀ {n}, 0 < cnt b n → ∃ i, i < n ∧ b i = true
  | 0, h => absurd h (Nat.not_lt_zero _)
  | n + 1, h => by
    have h : 0 < cnt b n + (if b n then 1 else 0) := h
    cases hb : b n with
    | true => exact ⟨n, by omega, hb⟩
    | false =>
      rw [hb] at h
      obtain ⟨i, h1, h2⟩ := cnt_pos (b := b) (n := n) h
      exact ⟨i, by omega, h2⟩
theorem cnt_of {b : Nat → Bool} {i : Nat} : ∀ {n}, i < n → b i = true → 0 < cnt b n
  | 0, h, _ => absurd h (Nat.not_lt_zero _)
  | n + 1, h, hb => by
    show 0 < cnt b n + (if b n then 1 else 0)
    by_cases e : i = n
    · subst e; rw [hb]; simp
    · have := cnt_of (b := b) (n := n) (i := i) (by omega) hb
      omega
/-- those that come newly -/
theorem cnt_or (b c : Nat → Bool) : ∀ n, cnt (fun i => b i || c i) n = cnt b n + cnt (fun i => c i && !b i) n
  | 0 => rfl
  | n + 1 => by
    have ih := cnt_or b c n
    show cnt (fun i => b i || c i) n + (if (b n || c n) then 1 else 0) = (cnt b n + (if b n then 1 else 0)) + (cnt (fun i => c i && !b i) n + (if (c n && !b n) then 1 else 0))
    rw [ih]
    cases b n <;> cases c n <;> simp <;> omega
theorem cnt_in {b c : Nat → Bool} {k : Nat} (h : ∀ i, c i = (b i || decide (i = k))) (hb : b k = false) : ∀ n, cnt c n = cnt b n + (if k < n then 1 else 0)
  | 0 => rfl
  | n + 1 => by
    have ih := cnt_in h hb n
    show cnt c n + (if c n then 1 else 0) = cnt b n + (if b n then 1 else 0) + (if k < n + 1 then 1 else 0)
    rw [ih, h n]
    have hk : (if k < n + 1 then 1 else 0) = (if k < n then 1 else 0) + (if n = k then 1 else 0) := by
      by_cases e : n = k
      · rw [if_pos e, if_neg (show ¬ k < n by omega), if_pos (show k < n + 1 by omega)]
      · by_cases z : k < n
        · rw [if_neg e, if_pos z, if_pos (show k < n + 1 by omega)]
        · rw [if_neg e, if_neg z, if_neg (show ¬ k < n + 1 by omega)]
    rw [hk]
    by_cases e : n = k
    · subst e; rw [hb]; simp
    · simp [e]; omega
theorem cnt_un {b c : Nat → Bool} {k : Nat} (h : ∀ i, c i = (b i && !decide (i = k))) (hb : b k = true) : ∀ n, cnt b n = cnt c n + (if k < n then 1 else 0) := by
  refine cnt_in (fun i => ?_) (by rw [h]; simp)
  rw [h i]
  by_cases e : i = k
  · subst e; simp [hb]
  · simp [e]
theorem pb_cnt (x : Nat) : ∀ n, pb x n = cnt (fun i => x.testBit i) n
  | 0 => rfl
  | n + 1 => by
    show pb x n + _ = cnt _ n + _
    rw [pb_cnt x n]
theorem nI_addc (a b : Nat) : nI a + nI b = nI (a + b) := nI_add a b
theorem bcs_num (w : Nat → Int64) : ∀ n, bcs w n = nI (cnt (bt w) (64 * n))
  | 0 => rfl
  | n + 1 => by
    show bcs w n + bc (w n) = _
    rw [bcs_num w n, bc_num, nI_addc, show 64 * (n + 1) = 64 * n + 64 from rfl, cnt_add, pb_cnt]
    congr 2
    refine cnt_congr 64 (fun i hi => ?_)
    show (w n).toBitVec.toNat.testBit i = (w ((64 * n + i) / 64)).toBitVec.getLsbD ((64 * n + i) % 64)
    rw [show (64 * n + i) / 64 = n by omega, show (64 * n + i) % 64 = i by omega]
    rfl
end
section
/-! 87.lists.lean.txt -/
/-- the sum of w over the first n -/
def sumN (w : Nat → Nat) : Nat → Nat
  | 0 => 0
  | n + 1 => sumN w n + w n
theorem sumN_congr {w v : Nat → Nat} : ∀ n, (∀ i, i < n → w i = v i) → sumN w n = sumN v n
  | 0, _ => rfl
  | n + 1, h => by
    show sumN w n + w n = sumN v n + v n
    rw [sumN_congr n (fun i z => h i (by omega)), h n (by omega)]
theorem sumN_out {w : Nat → Nat} {k : Nat} : ∀ n, k < n → sumN w n = sumN (fun i => if i = k then 0 else w i) n + w k
  | 0, h => absurd h (Nat.not_lt_zero _)
  | n + 1, h => by
    show sumN w n + w n = sumN (fun i => if i = k then 0 else w i) n + (if n = k then 0 else w n) + w k
    by_cases e : n = k
    · subst e
      rw [if_pos rfl, sumN_congr n (v := fun i => if i = n then 0 else w i) (fun i z => (if_neg (by omega)).symm)]
      omega
    · rw [if_neg e, sumN_out (w := w) (k := k) n (by omega)]
      omega
/-- a sum over different ones is no more than the sum over all -/
theorem sumN_inj {w B : Nat → Nat} {P : Nat} : ∀ n, (∀ i, i < n → B i < P) → (∀ i k, i < k → k < n → ¬ B i = B k) → sumN (fun i => w (B i)) n ≤ sumN w P := by
  intro n
  induction n generalizing w with
  | zero => intro _ _; exact Nat.zero_le _
  | succ n ih =>
    intro h1 h2
    have e := sumN_out (w := w) P (h1 n (by omega))
    have h := ih (w := fun i => if i = B n then 0 else w i) (fun i z => h1 i (by omega)) (fun i k z1 z2 => h2 i k z1 (by omega))
    have e2 : sumN (fun i => (fun i => if i = B n then 0 else w i) (B i)) n = sumN (fun i => w (B i)) n := sumN_congr n (fun i z => if_neg (h2 i n z (by omega)))
    rw [e2] at h
    show sumN (fun i => w (B i)) n + w (B n) ≤ _
    omega
theorem sInv.inj {S : Stk} (I : sInv S) : ∀ i k, i < k → k < S.P → ¬ S.BH i = S.BH k := fun i k h1 h2 e => by
  have := I.up i k h1 h2
  rw [e] at this
  exact absurd this (List.lt_irrefl _)
/-- the array holds the list -/
def arrL (A : Nat → Int32) (L : List Nat) : Prop := ∀ i, i < L.length → A i = nI (L.getD i 0)
theorem arrL.nil (A : Nat → Int32) : arrL A [] := fun i h => absurd h (Nat.not_lt_zero _)
theorem arrL.push {A : Nat → Int32} {L : List Nat} (x : Nat) (h : arrL A L) : arrL (upd A L.length (nI x)) (L ++ [x]) := by
  intro i hi
  rw [List.length_append] at hi
  have hi : i < L.length + 1 := hi
  by_cases e : i = L.length
  · subst e
    rw [upd_eq, List.getD_eq_getElem?_getD, List.getElem?_append_right (Nat.le_refl _), Nat.sub_self]
    rfl
  · rw [upd_ne _ e, h i (by omega), List.getD_eq_getElem?_getD, List.getD_eq_getElem?_getD, List.getElem?_append_left (by omega)]
/-- n numbers from a on -/
def seqL (a : Nat) : Nat → List Nat
  | 0 => []
  | n + 1 => seqL a n ++ [a + n]
theorem seqL_len (a : Nat) : ∀ n, (seqL a n).length = n
  | 0 => rfl
  | n + 1 => by
    show (seqL a n ++ [a + n]).length = n + 1
    rw [List.length_append, seqL_len a n]; rfl
theorem seqL_mem {a x : Nat} : ∀ {n}, x ∈ seqL a n ↔ a ≤ x ∧ x < a + n
  | 0 => by
    show x ∈ [] ↔ _
    constructor
    · intro h; cases h
    · intro h; omega
  | n + 1 => by
    show x ∈ seqL a n ++ [a + n] ↔ _
    rw [List.mem_append, seqL_mem (n := n), List.mem_singleton]
    omega
/-- the changes of the patches of the set, by hash: those of the first i patches -/
def allU (S : Stk) (mw : Nat → Int64) : Nat → List Nat
  | 0 => []
  | i + 1 => allU S mw i ++ (if bt mw (S.BH i) = true then seqL (S.FC (S.BH i)) (S.nT (S.BH i)) else [])
/-- the change adds a file -/
def adB (S : Stk) (c : Nat) : Bool := S.f (S.CA c) == 0
/-- the change is a naming -/
def nmB (S : Stk) (c : Nat) : Bool := S.f (S.CA c) == 0 || (S.f (S.CA c) == 1 && !(S.f (nmAt S.f (S.CA c)) == 0))
theorem nmB_iff {S : Stk} {c : Nat} : nmB S c = true ↔ isNm S.f (S.CA c) := by
  unfold nmB isNm
  simp
theorem adB_iff {S : Stk} {c : Nat} : adB S c = true ↔ S.f (S.CA c) = 0 := by
  unfold adB
  simp
theorem ad_nm {S : Stk} {c : Nat} (h : adB S c = true) : nmB S c = true := nmB_iff.mpr (Or.inl (adB_iff.mp h))
/-- the number of those of a list that are so -/
def numL (b : Nat → Bool) (L : List Nat) : Nat := (L.filter b).length
theorem numL_app (b : Nat → Bool) (L M : List Nat) : numL b (L ++ M) = numL b L + numL b M := by
  unfold numL
  rw [List.filter_append, List.length_append]
theorem numL_one (b : Nat → Bool) (x : Nat) : numL b [x] = if b x then 1 else 0 := by
  unfold numL
  cases h : b x <;> simp [h]
theorem numL_ad {S : Stk} {NF0 c0 : Nat} : ∀ n, NF0 + numL (adB S) (seqL c0 n) = NFs S.f S.CA c0 NF0 n
  | 0 => rfl
  | n + 1 => by
    show NF0 + numL (adB S) (seqL c0 n ++ [c0 + n]) = NFX S.f (NFs S.f S.CA c0 NF0 n) (S.CA (c0 + n))
    rw [numL_app, numL_one, ← numL_ad n]
    unfold NFX
    by_cases e : S.f (S.CA (c0 + n)) = 0
    · rw [if_pos (adB_iff.mpr e), if_pos e]; rfl
    · rw [if_neg (fun z => e (adB_iff.mp z)), if_neg e]; rfl
theorem calR.len {f : Nat → Int32} {en a b : Nat} (h : calR f en a b) (hn : ¬ f (nmAt f a) = 0) (h1 : f a = 1) (hz : b8 (f (a + 5)) = 0 → f (a + 5) = 0) : a + 12 ≤ b := by
  obtain ⟨q1, q2, q3, n, q4, q5, q6, q7, q8, q9⟩ := h
  have e : nmAt f a = a + 6 + 4 * b8 (f (a + 5)) := if_neg (by rw [h1]; decide)
  rw [e, q5] at hn
  have h5 : 1 ≤ n := by
    rcases Nat.eq_zero_or_pos n with z | z
    · rw [z] at hn; exact absurd rfl hn
    · exact z
  have h6 : 1 ≤ b8 (f (a + 5)) := by
    rcases Nat.eq_zero_or_pos (b8 (f (a + 5))) with z | z
    · exact absurd (hz z) q2
    · exact z
  omega
/-- no more namings than the bytes have room for -/
theorem numL_nm {S : Stk} {en a c0 T : Nat} (h : chain S.f en a T) (hA : ∀ j, j < T → S.CA (c0 + j) = sS S.f en a j) (hb : ∀ j, j < en → b8 (S.f j) = 0 → S.f j = 0) : ∀ n, n ≤ T → 12 * numL (nmB S) (seqL c0 n) + a ≤ sS S.f en a n + 5 * numL (adB S) (seqL c0 n)
  | 0, _ => by show 12 * 0 + a ≤ a + 5 * 0; omega
  | n + 1, hn => by
    have ih := numL_nm h hA hb n (by omega)
    have hc := (h n (by omega)).2
    have hl := hc.le
    have hw := hc.W.1
    show 12 * numL (nmB S) (seqL c0 n ++ [c0 + n]) + a ≤ sS S.f en a (n + 1) + 5 * numL (adB S) (seqL c0 n ++ [c0 + n])
    rw [numL_app, numL_app, numL_one, numL_one]
    by_cases e0 : S.f (S.CA (c0 + n)) = 0
    · rw [if_pos (adB_iff.mpr e0), if_pos (ad_nm (adB_iff.mpr e0))]
      omega
    · rw [if_neg (fun z => e0 (adB_iff.mp z))]
      by_cases e1 : nmB S (c0 + n) = true
      · rw [if_pos e1]
        rcases nmB_iff.mp e1 with z | ⟨z1, z2⟩
        · exact absurd z e0
        · rw [hA n (by omega)] at z1 z2
          have := (chR_1 z1 hc).len z2 z1 (hb _ hw)
          omega
      · rw [if_neg e1]
        omega
theorem allU_num {S : Stk} {mw : Nat → Int64} (b : Nat → Bool) : ∀ i, numL b (allU S mw i) ≤ sumN (fun k => numL b (seqL (S.FC (S.BH k)) (S.nT (S.BH k)))) i
  | 0 => Nat.le_refl _
  | i + 1 => by
    have ih := allU_num (S := S) (mw := mw) b i
    show numL b (allU S mw i ++ _) ≤ sumN _ i + numL b (seqL (S.FC (S.BH i)) (S.nT (S.BH i)))
    rw [numL_app]
    by_cases e : bt mw (S.BH i) = true
    · rw [if_pos e]; omega
    · rw [if_neg e]
      show _ + 0 ≤ _
      omega
theorem sInv.adsum {S : Stk} (I : sInv S) : ∀ n, n ≤ S.P → sumN (fun p => numL (adB S) (seqL (S.FC p) (S.nT p))) n = S.NFp n
  | 0, _ => I.nf0.symm
  | n + 1, h => by
    have ih := I.adsum n (by omega)
    have e := (I.pi n (by omega)).nf
    have e2 := numL_ad (S := S) (NF0 := S.NFp n) (c0 := S.FC n) (S.nT n)
    show sumN _ n + numL (adB S) (seqL (S.FC n) (S.nT n)) = _
    rw [ih, e2, e]
theorem sInv.nmsum {S : Stk} (I : sInv S) (hb : ∀ j, j < S.FR S.P → b8 (S.f j) = 0 → S.f j = 0) : ∀ n, n ≤ S.P → 12 * sumN (fun p => numL (nmB S) (seqL (S.FC p) (S.nT p))) n ≤ S.FR n + 5 * sumN (fun p => numL (adB S) (seqL (S.FC p) (S.nT p))) n
  | 0, _ => Nat.zero_le _
  | n + 1, h => by
    have ih := I.nmsum hb n (by omega)
    have p := I.pi n (by omega)
    have m1 := I.frm (i := n + 1) (k := S.P) h (Nat.le_refl _)
    have h1 := numL_nm (c0 := S.FC n) p.kept.2.2.2.2.1 p.ca (fun j z => hb j (by omega)) (S.nT n) (Nat.le_refl _)
    have h2 : sS S.f (S.FR (n + 1)) (S.FR n + 2 + tw S.f (S.FR n) * 32 + 2) (S.nT n) = S.FR (n + 1) := p.kept.2.2.2.2.2
    rw [h2] at h1
    show 12 * (sumN _ n + numL (nmB S) (seqL (S.FC n) (S.nT n))) ≤ S.FR (n + 1) + 5 * (sumN _ n + numL (adB S) (seqL (S.FC n) (S.nT n)))
    omega
/-- there is room for the files and for the namings of a set -/
theorem sInv.fits {S : Stk} (I : sInv S) (hb : ∀ j, j < S.FR S.P → b8 (S.f j) = 0 → S.f j = 0) {mw : Nat → Int64} {i j : Nat} (hi : i < S.P) (hj : j ≤ S.nT (S.BH i)) : numL (adB S) (allU S mw i ++ seqL (S.FC (S.BH i)) j) ≤ 200 ∧ numL (nmB S) (allU S mw i ++ seqL (S.FC (S.BH i)) j) ≤ 16750 := by
  have mono : ∀ (b : Nat → Bool) (a n m : Nat), n ≤ m → numL b (seqL a n) ≤ numL b (seqL a m) := by
    intro b a n m h
    induction m with
    | zero => rw [show n = 0 by omega]; exact Nat.le_refl _
    | succ m ih =>
      by_cases e : n = m + 1
      · rw [e]; exact Nat.le_refl _
      · have := ih (by omega)
        show _ ≤ numL b (seqL a m ++ [a + m])
        rw [numL_app]; omega
  have key : ∀ b : Nat → Bool, numL b (allU S mw i ++ seqL (S.FC (S.BH i)) j) ≤ sumN (fun p => numL b (seqL (S.FC p) (S.nT p))) S.P := by
    intro b
    rw [numL_app]
    have h1 := allU_num (S := S) (mw := mw) b i
    have h2 := mono b (S.FC (S.BH i)) j _ hj
    have h3 := sumN_inj (w := fun p => numL b (seqL (S.FC p) (S.nT p))) (B := S.BH) (P := S.P) (i + 1) (fun k z => I.bh k (by omega)) (fun a k z1 z2 => I.inj a k z1 (by omega))
    have h4 : sumN (fun k => numL b (seqL (S.FC (S.BH k)) (S.nT (S.BH k)))) i + numL b (seqL (S.FC (S.BH i)) (S.nT (S.BH i))) ≤ sumN (fun p => numL b (seqL (S.FC p) (S.nT p))) S.P := h3
    omega
  have k1 := key (adB S)
  have k2 := key (nmB S)
  have e1 := I.adsum S.P (Nat.le_refl _)
  have e2 := I.nmsum hb S.P (Nat.le_refl _)
  have e3 := I.nfP
  have e4 := I.frP
  constructor
  · omega
  · omega
end
section
/-! 88.over.lean.txt -/
/-- the stock with other bytes behind it -/
def Stk.wf (S : Stk) (g : Nat → Int32) : Stk := Stk.mk S.P S.FR S.FD S.FC S.NFp S.NLp S.LOp S.DP S.CA S.CF S.CL S.BH g S.hf S.lo S.lb S.la S.ll S.lc S.lp S.lu S.ld S.ad
theorem sInv.wfp {S : Stk} (I : sInv S) {g : Nat → Int32} (hb : ∀ i, i < S.FR S.P → S.f i = g i) {p : Nat} (hp : p < S.P) : pInv (S.wf g) p := by
  have h := I.pi p hp
  have m1 := I.frm (i := p + 1) (k := S.P) (by omega) (Nat.le_refl _)
  have m2 := I.fcm (i := p + 1) (k := S.P) (by omega) (Nat.le_refl _)
  have l1 := I.le1 hp
  have l2 := h.fc
  have kc : chain S.f (S.FR (p + 1)) (S.st p + 2) (S.nT p) := h.kept.2.2.2.2.1
  have hg : ∀ i, i < S.FR (p + 1) → S.f i = g i := fun i z => hb i (by omega)
  have en1 : (S.wf g).nd p = S.nd p := by
    show tw g (S.FR p) = tw S.f (S.FR p)
    exact (tw_cg hg (by omega)).symm
  have est : (S.wf g).st p = S.st p := by
    unfold Stk.st
    rw [en1]; rfl
  have eT : (S.wf g).nT p = S.nT p := by
    unfold Stk.nT
    rw [est]
    show tw g (S.st p) = tw S.f (S.st p)
    exact (tw_cg hg (by unfold Stk.st; omega)).symm
  have AG : ∀ j, j ≤ S.nT p → Agr S.f g (S.dp p) (S.dp p) S.FC S.FC S.CA S.CA S.CF S.CF S.CL S.CL (S.FR (p + 1)) p (S.nd p) (S.FC p + j) := fun j hj => ⟨hg, fun _ _ => rfl, fun i z => (h.dep i z).1, fun _ _ => rfl, fun _ _ => rfl, fun _ _ => rfl, fun _ _ => rfl, fun i z => I.chw (k := p + 1) (by omega) (by omega), fun i z => Nat.le_trans (I.fcm (i := i + 1) (k := p) (by omega) (by omega)) (by omega)⟩
  have CH : ∀ j, j < S.nT p → chR S.f (S.FR (p + 1)) (S.CA (S.FC p + j)) (sS S.f (S.FR (p + 1)) (S.st p + 2) (j + 1)) ∧ S.f (S.CA (S.FC p + j)) = g (S.CA (S.FC p + j)) ∧ (S.f (S.CA (S.FC p + j)) = 2 → tw S.f (lnAt S.f (S.CA (S.FC p + j))) = tw g (lnAt g (S.CA (S.FC p + j)))) := fun j hj => by
    have c := I.chg hp hj
    have w := c.W
    refine ⟨c, hg _ (by have := w.1; omega), fun e => ?_⟩
    obtain ⟨w1, w2, w3, w4⟩ := w.2.2.1 e
    rw [← lnAt_cg hg w.1 w2]
    exact tw_cg hg w4
  have eNF : ∀ j, j ≤ S.nT p → NFs S.f S.CA (S.FC p) (S.NFp p) j = NFs g S.CA (S.FC p) (S.NFp p) j := fun j hj => NFs_cg (fun i z => ⟨rfl, (CH i (by omega)).2.1⟩)
  have eNL : ∀ j, j ≤ S.nT p → NLs S.f S.CA (S.FC p) (S.NLp p) j = NLs g S.CA (S.FC p) (S.NLp p) j := fun j hj => NLs_cg (fun i z => ⟨rfl, (CH i (by omega)).2⟩)
  refine ⟨h.kept.cg hg, ?_, ?_, ?_, ?_, ?_, ?_, ?_, ?_, ?_, ?_, ?_, ?_, ?_, ?_⟩
  · rw [en1]; exact h.fd
  · rw [eT]; exact l2
  · intro j hj
    rw [eT] at hj
    show S.CA (S.FC p + j) = sS g (S.FR (p + 1)) ((S.wf g).st p + 2) j
    rw [est, ← sS_cg hg kc j (by omega)]
    exact h.ca j hj
  · intro k hk
    rw [en1] at hk
    obtain ⟨d1, d2⟩ := h.dep k hk
    refine ⟨d1, ?_⟩
    show sq S.hf (S.dp p k * 32) 32 = sq g (S.FR p + 2 + k * 32) 32
    rw [← sq_congr (f := S.f) (g := g) 32 (S.FR p + 2 + k * 32) (S.FR p + 2 + k * 32) (fun i z => hg _ (by omega))]
    exact d2
  · rw [eT, en1]
    intro j hj
    have r := (AG j (by omega)).rs (CH j hj).1.W (Nat.le_trans (I.ndl hp) (by have := I.hP; omega)) (h.rs j hj)
    show rsR g (S.dp p) S.FC S.CA S.CF S.CL p (S.nd p) (S.FC p + j) (NFs g S.CA (S.FC p) (S.NFp p) j) (S.CA (S.FC p + j)) (S.CF (S.FC p + j))
    rw [← eNF j (by omega)]
    exact r
  · intro j hj
    rw [eT] at hj
    show S.CL (S.FC p + j) = NLs g S.CA (S.FC p) (S.NLp p) j
    rw [← eNL j (by omega)]
    exact h.cl j hj
  · rw [eT]
    show S.NFp (p + 1) = NFs g S.CA (S.FC p) (S.NFp p) (S.nT p)
    rw [← eNF _ (Nat.le_refl _)]; exact h.nf
  · rw [eT]
    show S.NLp (p + 1) = NLs g S.CA (S.FC p) (S.NLp p) (S.nT p)
    rw [← eNL _ (Nat.le_refl _)]; exact h.nl
  · rw [eT]
    show S.LOp (p + 1) = lcs g S.CA S.CF (S.FC p) (S.nT p) (S.LOp p)
    rw [h.lo]
    exact lcs_cg (fun i z => ⟨rfl, rfl, (CH i z).2⟩)
  · intro j hj e
    rw [eT] at hj
    have e : g (S.CA (S.FC p + j)) = 2 := e
    rw [← (CH j hj).2.1] at e
    have r := (h.li j hj e).cg (AG j (by omega)) e (CH j hj).1
    rw [en1]
    exact r
  · intro j hj e
    rw [eT] at hj
    have e : g (S.CA (S.FC p + j)) = 0 := e
    rw [← (CH j hj).2.1] at e
    show S.ad (NFs g S.CA (S.FC p) (S.NFp p) j) = nI (S.FC p + j)
    rw [← eNF j (by omega)]
    exact h.ad j hj e
  · intro k hk
    rw [en1] at hk
    rw [en1, eT]
    show ¬ nmXs g (S.nd p) S.CA (S.FC p) (S.nT p) (fun _ => 0) k = 0
    rw [← nmXs_cg hg (fun i z => ⟨rfl, (CH i z).1.W, (CH i z).1.kd⟩)]
    exact h.nm k hk
  · intro k hk
    show S.hf (p * 32 + k) = sh_outb (dg g (S.FR p) (S.FR (p + 1) - S.FR p)) k
    rw [h.hs k hk]
    exact sh_outb_congr (dg_congr (fun i z => hg _ (by omega))) hk
  · intro n hn
    rw [en1]
    exact h.ln n hn
theorem sInv.wf {S : Stk} (I : sInv S) {g : Nat → Int32} (hb : ∀ i, i < S.FR S.P → S.f i = g i) : sInv (S.wf g) := ⟨I.hP, I.fr0, I.fd0, I.fc0, I.nf0, I.nl0, I.lo0, fun _ z => I.wfp hb z, I.frP, I.nfP, I.nlP, I.loP, I.bh, I.up, I.sur, I.lz, I.lbz⟩
/-- the k-th ref of the j-th change of patch p, a call, names x -/
def ovK (S : Stk) (p j k x : Nat) : Prop := cnR S.f (S.dp p) S.FC p (S.nd p) (S.FC p + j) (S.CA (S.FC p + j) + 6 + 4 * k) x
def ovJ (S : Stk) (p j n x : Nat) : Prop := ∃ k, k < n ∧ ovK S p j k x
def ovN (S : Stk) (p n x : Nat) : Prop := ∃ j, j < n ∧ S.f (S.CA (S.FC p + j)) = 1 ∧ ovJ S p j (b8 (S.f (S.CA (S.FC p + j) + 5))) x
/-- patch p has a call over the naming x -/
def ovX (S : Stk) (p x : Nat) : Prop := ovN S p (S.nT p) x
/-- the set has a call over the naming x -/
def ovS (S : Stk) (mw : Nat → Int64) (n x : Nat) : Prop := ∃ p, p < n ∧ bt mw p = true ∧ ovX S p x
/-- A is v where Q holds, else as B -/
def setR (A B : Nat → Int32) (Q : Nat → Prop) (v : Int32) : Prop := ∀ x, (Q x → A x = v) ∧ (¬ Q x → A x = B x)
theorem setR.nil {A : Nat → Int32} {Q : Nat → Prop} {v : Int32} (h : ∀ x, ¬ Q x) : setR A A Q v := fun x => ⟨fun z => absurd z (h x), fun _ => rfl⟩
theorem setR.iff {A B : Nat → Int32} {Q Q₇ : Nat → Prop} {v : Int32} (h : setR A B Q v) (e : ∀ x, Q x ↔ Q₇ x) : setR A B Q₇ v := fun x => ⟨fun z => (h x).1 ((e x).mpr z), fun z => (h x).2 (fun y => z ((e x).mp y))⟩
theorem setR.upd {A B : Nat → Int32} {Q Q₇ : Nat → Prop} {v : Int32} {y : Nat} (h : setR A B Q v) (e : ∀ x, Q₇ x ↔ Q x ∨ x = y) : setR (upd A y v) B Q₇ v := fun x => by
  by_cases z : x = y
  · subst z
    rw [upd_eq]
    exact ⟨fun _ => rfl, fun w => absurd ((e x).mpr (Or.inr rfl)) w⟩
  · rw [upd_ne _ z]
    refine ⟨fun w => (h x).1 (((e x).mp w).resolve_right z), fun w => (h x).2 (fun q => w ((e x).mpr (Or.inl q)))⟩
theorem setR.trans {A B C : Nat → Int32} {Q Q₇ : Nat → Prop} {v : Int32} (h : setR A B Q v) (h' : setR B C Q₇ v) : setR A C (fun x => Q₇ x ∨ Q x) v := fun x => by
  by_cases z : Q x
  · exact ⟨fun _ => (h x).1 z, fun w => absurd (Or.inr z) w⟩
  · rw [(h x).2 z]
    exact ⟨fun w => (h' x).1 (w.resolve_right z), fun w => (h' x).2 (fun q => w (Or.inl q))⟩
theorem ovJ_step {S : Stk} {p j k y : Nat} (hnd : S.nd p ≤ 2048) (hy : ovK S p j k y) (x : Nat) : ovJ S p j (k + 1) x ↔ ovJ S p j k x ∨ x = y := by
  constructor
  · rintro ⟨q, h1, h2⟩
    by_cases e : q = k
    · subst e; exact Or.inr (cnR.uniq hnd h2 hy)
    · exact Or.inl ⟨q, by omega, h2⟩
  · rintro (⟨q, h1, h2⟩ | rfl)
    · exact ⟨q, by omega, h2⟩
    · exact ⟨k, by omega, hy⟩
theorem ovN_no {S : Stk} {p j : Nat} (h : ¬ S.f (S.CA (S.FC p + j)) = 1) (x : Nat) : ovN S p (j + 1) x ↔ ovN S p j x := by
  constructor
  · rintro ⟨q, h1, h2, h3⟩
    by_cases e : q = j
    · subst e; exact absurd h2 h
    · exact ⟨q, by omega, h2, h3⟩
  · rintro ⟨q, h1, h2, h3⟩
    exact ⟨q, by omega, h2, h3⟩
theorem ovN_yes {S : Stk} {p j : Nat} (h : S.f (S.CA (S.FC p + j)) = 1) (x : Nat) : ovN S p (j + 1) x ↔ ovN S p j x ∨ ovJ S p j (b8 (S.f (S.CA (S.FC p + j) + 5))) x := by
  constructor
  · rintro ⟨q, h1, h2, h3⟩
    by_cases e : q = j
    · subst e; exact Or.inr h3
    · exact Or.inl ⟨q, by omega, h2, h3⟩
  · rintro (⟨q, h1, h2, h3⟩ | h3)
    · exact ⟨q, by omega, h2, h3⟩
    · exact ⟨j, by omega, h, h3⟩
/-- what a call's ref names -/
theorem sInv.ref {S : Stk} (I : sInv S) {p j k : Nat} (hp : p < S.P) (hj : j < S.nT p) (h1 : S.f (S.CA (S.FC p + j)) = 1) (hk : k < b8 (S.f (S.CA (S.FC p + j) + 5))) : ∃ x, ovK S p j k x ∧ x < S.FC p + j ∧ isNm S.f (S.CA x) ∧ S.CF x = S.CF (S.FC p + j) := by
  have h := I.pi p hp
  obtain ⟨x, z1, z2, z3, -⟩ := (rsR_1 h1 (h.rs j hj)).2 k hk
  have hL : ∀ q, q < p → S.FC (q + 1) ≤ S.FC p + j := fun q z => Nat.le_trans (I.fcm (i := q + 1) (k := p) (by omega) (by omega)) (by omega)
  exact ⟨x, z1, cnR.lt (fun q z => (h.dep q z).1) hL z1, z2, z3⟩
theorem ovN_step {S : Stk} {p j k mm : Nat} (hm : (S.f (S.CA (S.FC p + j)) = 1 ∧ mm = b8 (S.f (S.CA (S.FC p + j) + 5))) ∨ (¬ S.f (S.CA (S.FC p + j)) = 1 ∧ mm = 0)) (hk : k = mm) (x : Nat) : (ovN S p j x ∨ ovJ S p j k x) ↔ ovN S p (j + 1) x := by
  rcases hm with ⟨z1, z2⟩ | ⟨z1, z2⟩
  · rw [ovN_yes z1 x, hk, z2]
  · rw [ovN_no z1 x, hk, z2]
    exact ⟨fun z => z.elim id (fun ⟨q, a, _⟩ => absurd a (Nat.not_lt_zero _)), Or.inl⟩
theorem ovJ_0 {S : Stk} {p j : Nat} (x : Nat) : ovN S p j x ↔ (ovN S p j x ∨ ovJ S p j 0 x) := ⟨Or.inl, fun z => z.elim id (fun ⟨q, a, _⟩ => absurd a (Nat.not_lt_zero _))⟩
theorem ovS_0 {S : Stk} {mw : Nat → Int64} (x : Nat) : ¬ ovS S mw 0 x := fun ⟨q, a, _⟩ => absurd a (Nat.not_lt_zero _)
theorem ovS_no {S : Stk} {mw : Nat → Int64} {n : Nat} (h : ¬ bt mw n = true) (x : Nat) : ovS S mw n x ↔ ovS S mw (n + 1) x := by
  constructor
  · rintro ⟨p, h1, h2, h3⟩
    exact ⟨p, by omega, h2, h3⟩
  · rintro ⟨p, h1, h2, h3⟩
    by_cases e : p = n
    · subst e; exact absurd h2 h
    · exact ⟨p, by omega, h2, h3⟩
theorem ovS_yes {S : Stk} {mw : Nat → Int64} {n : Nat} (h : bt mw n = true) (x : Nat) : (ovS S mw n x ∨ ovX S n x) ↔ ovS S mw (n + 1) x := by
  constructor
  · rintro (⟨p, h1, h2, h3⟩ | h3)
    · exact ⟨p, by omega, h2, h3⟩
    · exact ⟨n, by omega, h, h3⟩
  · rintro ⟨p, h1, h2, h3⟩
    by_cases e : p = n
    · subst e; exact Or.inr h3
    · exact Or.inl ⟨p, by omega, h2, h3⟩
theorem sInv.bounds {S : Stk} (I : sInv S) {p : Nat} (hp : p < S.P) : S.FC p + S.nT p ≤ S.FC S.P ∧ S.FC S.P ≤ 28571 ∧ S.FD p + S.nd p ≤ 8400 ∧ S.nd p ≤ 500 ∧ S.FR (p + 1) ≤ 200000 := by
  have h := I.pi p hp
  have a1 := I.fcm (i := p + 1) (k := S.P) (by omega) (Nat.le_refl _)
  have a2 := I.fdm (i := p + 1) (k := S.P) (by omega) (Nat.le_refl _)
  have a3 := I.frm (i := p + 1) (k := S.P) (by omega) (Nat.le_refl _)
  have a4 := I.room (Nat.le_refl _)
  have a5 := I.frP
  have a6 := I.ndl hp
  have a7 := I.hP
  rw [h.fc] at a1
  rw [h.fd] at a2
  omega
end
section
/-! 89.markOver.lean.txt -/
theorem gw_87 : (Jvm.Cond.fieldLink "PatchStore$View" (94 : Nat) "PatchStore$Changes" "at" "[I") ∈ xg_1 := xg_s1 87 rfl rfl
theorem gw_183 : (Jvm.Cond.fieldLink "PatchStore$View" (103 : Nat) "PatchStore$Stock" "bytes" "[B") ∈ xg_1 := xg_s1 183 rfl rfl
theorem gw_197 : (Jvm.Cond.fieldLink "PatchStore$View" (91 : Nat) "PatchStore$Stock" "firstChange" "[I") ∈ xg_1 := xg_s1 197 rfl rfl
theorem gw_1004 : (Jvm.Cond.methodLink "PatchStore$View" (99 : Nat) ({ cls := "PatchStore$Stock", name := "kind", desc := "(I)I" } : Jvm.MethodName)) ∈ xg_1 := xg_s5 44 rfl rfl
theorem gw_1005 : (Jvm.Cond.methodLink "PatchStore$View" (107 : Nat) ({ cls := "PatchStore$Stock", name := "changeNamed", desc := "(II)I" } : Jvm.MethodName)) ∈ xg_1 := xg_s5 45 rfl rfl
def y_Vw_markOver : MethodName := ⟨"PatchStore$View", "markOver", "(I)V"⟩
abbrev c_Vw_markOver : Cond := (Jvm.Cond.code ({ cls := "PatchStore$View", name := "markOver", desc := "(I)V" } : Jvm.MethodName) prog_12_method_3_code (6 : Nat) (Option.none : Option Jvm.ClassFile.FieldType))
abbrev ws_Vw_markOver : List Cond := c_Vw_markOver :: xg_1
theorem d_Vw_markOver_0 : decode prog_12_method_3_code 0 = .ok (.aload_n 0, 1) := by decide +kernel
theorem d_Vw_markOver_1 : decode prog_12_method_3_code 1 = .ok (.getfield 34, 3) := by decide +kernel
theorem d_Vw_markOver_4 : decode prog_12_method_3_code 4 = .ok (.getfield 91, 3) := by decide +kernel
theorem d_Vw_markOver_7 : decode prog_12_method_3_code 7 = .ok (.iload_n 1, 1) := by decide +kernel
theorem d_Vw_markOver_8 : decode prog_12_method_3_code 8 = .ok (.iaload, 1) := by decide +kernel
theorem d_Vw_markOver_9 : decode prog_12_method_3_code 9 = .ok (.istore_n 2, 1) := by decide +kernel
theorem d_Vw_markOver_10 : decode prog_12_method_3_code 10 = .ok (.iload_n 2, 1) := by decide +kernel
theorem d_Vw_markOver_11 : decode prog_12_method_3_code 11 = .ok (.aload_n 0, 1) := by decide +kernel
theorem d_Vw_markOver_12 : decode prog_12_method_3_code 12 = .ok (.getfield 34, 3) := by decide +kernel
theorem d_Vw_markOver_15 : decode prog_12_method_3_code 15 = .ok (.getfield 91, 3) := by decide +kernel
theorem d_Vw_markOver_18 : decode prog_12_method_3_code 18 = .ok (.iload_n 1, 1) := by decide +kernel
theorem d_Vw_markOver_19 : decode prog_12_method_3_code 19 = .ok (.iconst 1, 1) := by decide +kernel
theorem d_Vw_markOver_20 : decode prog_12_method_3_code 20 = .ok (.iadd, 1) := by decide +kernel
theorem d_Vw_markOver_21 : decode prog_12_method_3_code 21 = .ok (.iaload, 1) := by decide +kernel
theorem d_Vw_markOver_22 : decode prog_12_method_3_code 22 = .ok (.if_icmp .ge 94, 3) := by decide +kernel
theorem d_Vw_markOver_25 : decode prog_12_method_3_code 25 = .ok (.aload_n 0, 1) := by decide +kernel
theorem d_Vw_markOver_26 : decode prog_12_method_3_code 26 = .ok (.getfield 44, 3) := by decide +kernel
theorem d_Vw_markOver_29 : decode prog_12_method_3_code 29 = .ok (.getfield 94, 3) := by decide +kernel
theorem d_Vw_markOver_32 : decode prog_12_method_3_code 32 = .ok (.iload_n 2, 1) := by decide +kernel
theorem d_Vw_markOver_33 : decode prog_12_method_3_code 33 = .ok (.iaload, 1) := by decide +kernel
theorem d_Vw_markOver_34 : decode prog_12_method_3_code 34 = .ok (.istore_n 3, 1) := by decide +kernel
theorem d_Vw_markOver_35 : decode prog_12_method_3_code 35 = .ok (.aload_n 0, 1) := by decide +kernel
theorem d_Vw_markOver_36 : decode prog_12_method_3_code 36 = .ok (.getfield 34, 3) := by decide +kernel
theorem d_Vw_markOver_39 : decode prog_12_method_3_code 39 = .ok (.iload_n 2, 1) := by decide +kernel
theorem d_Vw_markOver_40 : decode prog_12_method_3_code 40 = .ok (.invokevirtual 99, 3) := by decide +kernel
theorem d_Vw_markOver_43 : decode prog_12_method_3_code 43 = .ok (.iconst 1, 1) := by decide +kernel
theorem d_Vw_markOver_44 : decode prog_12_method_3_code 44 = .ok (.if_icmp .ne 21, 3) := by decide +kernel
theorem d_Vw_markOver_47 : decode prog_12_method_3_code 47 = .ok (.aload_n 0, 1) := by decide +kernel
theorem d_Vw_markOver_48 : decode prog_12_method_3_code 48 = .ok (.getfield 34, 3) := by decide +kernel
theorem d_Vw_markOver_51 : decode prog_12_method_3_code 51 = .ok (.getfield 103, 3) := by decide +kernel
theorem d_Vw_markOver_54 : decode prog_12_method_3_code 54 = .ok (.iload_n 3, 1) := by decide +kernel
theorem d_Vw_markOver_55 : decode prog_12_method_3_code 55 = .ok (.iconst 5, 1) := by decide +kernel
theorem d_Vw_markOver_56 : decode prog_12_method_3_code 56 = .ok (.iadd, 1) := by decide +kernel
theorem d_Vw_markOver_57 : decode prog_12_method_3_code 57 = .ok (.baload, 1) := by decide +kernel
theorem d_Vw_markOver_58 : decode prog_12_method_3_code 58 = .ok (.sipush 255, 3) := by decide +kernel
theorem d_Vw_markOver_61 : decode prog_12_method_3_code 61 = .ok (.iand, 1) := by decide +kernel
theorem d_Vw_markOver_62 : decode prog_12_method_3_code 62 = .ok (.goto 4, 3) := by decide +kernel
theorem d_Vw_markOver_65 : decode prog_12_method_3_code 65 = .ok (.iconst 0, 1) := by decide +kernel
theorem d_Vw_markOver_66 : decode prog_12_method_3_code 66 = .ok (.istore 4, 2) := by decide +kernel
theorem d_Vw_markOver_68 : decode prog_12_method_3_code 68 = .ok (.iconst 0, 1) := by decide +kernel
theorem d_Vw_markOver_69 : decode prog_12_method_3_code 69 = .ok (.istore 5, 2) := by decide +kernel
theorem d_Vw_markOver_71 : decode prog_12_method_3_code 71 = .ok (.iload 5, 2) := by decide +kernel
theorem d_Vw_markOver_73 : decode prog_12_method_3_code 73 = .ok (.iload 4, 2) := by decide +kernel
theorem d_Vw_markOver_75 : decode prog_12_method_3_code 75 = .ok (.if_icmp .ge 35, 3) := by decide +kernel
theorem d_Vw_markOver_78 : decode prog_12_method_3_code 78 = .ok (.aload_n 0, 1) := by decide +kernel
theorem d_Vw_markOver_79 : decode prog_12_method_3_code 79 = .ok (.getfield 22, 3) := by decide +kernel
theorem d_Vw_markOver_82 : decode prog_12_method_3_code 82 = .ok (.aload_n 0, 1) := by decide +kernel
theorem d_Vw_markOver_83 : decode prog_12_method_3_code 83 = .ok (.getfield 34, 3) := by decide +kernel
theorem d_Vw_markOver_86 : decode prog_12_method_3_code 86 = .ok (.iload_n 1, 1) := by decide +kernel
theorem d_Vw_markOver_87 : decode prog_12_method_3_code 87 = .ok (.iload_n 3, 1) := by decide +kernel
theorem d_Vw_markOver_88 : decode prog_12_method_3_code 88 = .ok (.bipush 6, 2) := by decide +kernel
theorem d_Vw_markOver_90 : decode prog_12_method_3_code 90 = .ok (.iadd, 1) := by decide +kernel
theorem d_Vw_markOver_91 : decode prog_12_method_3_code 91 = .ok (.iconst 4, 1) := by decide +kernel
theorem d_Vw_markOver_92 : decode prog_12_method_3_code 92 = .ok (.iload 5, 2) := by decide +kernel
theorem d_Vw_markOver_94 : decode prog_12_method_3_code 94 = .ok (.imul, 1) := by decide +kernel
theorem d_Vw_markOver_95 : decode prog_12_method_3_code 95 = .ok (.iadd, 1) := by decide +kernel
theorem d_Vw_markOver_96 : decode prog_12_method_3_code 96 = .ok (.invokevirtual 107, 3) := by decide +kernel
theorem d_Vw_markOver_99 : decode prog_12_method_3_code 99 = .ok (.aload_n 0, 1) := by decide +kernel
theorem d_Vw_markOver_100 : decode prog_12_method_3_code 100 = .ok (.getfield 56, 3) := by decide +kernel
theorem d_Vw_markOver_103 : decode prog_12_method_3_code 103 = .ok (.iastore, 1) := by decide +kernel
theorem d_Vw_markOver_104 : decode prog_12_method_3_code 104 = .ok (.iinc 5 1, 3) := by decide +kernel
theorem d_Vw_markOver_107 : decode prog_12_method_3_code 107 = .ok (.goto (-36), 3) := by decide +kernel
theorem d_Vw_markOver_110 : decode prog_12_method_3_code 110 = .ok (.iinc 2 1, 3) := by decide +kernel
theorem d_Vw_markOver_113 : decode prog_12_method_3_code 113 = .ok (.goto (-103), 3) := by decide +kernel
theorem d_Vw_markOver_116 : decode prog_12_method_3_code 116 = .ok (.return_, 1) := by decide +kernel
set_option maxHeartbeats 4000000 in
set_option maxRecDepth 100000 in
/-- the namings that the calls of a patch are over -/
theorem m_Vw_markOver (l : Launch) (dC : Nat → ClassId) (dI : Nat → Nat → Nat) (cI cB cL cZ cR : ClassId) (h sk b_y fdA dpA fcA ch cat ovA : Nat) (vw_files vw_namingsOf vw_namings vw_fileTotal vw_namingTotal vw_loaded vw_version vw_heads vw_nexts vw_sharing sk_from sk_hashes sk_byHash sk_leansOn sk_leantBy sk_lines sk_patches ch_patch ch_file ch_firstLine ch_adds ch_files : Value) (Z : StkA) (S : Stk) (ov : Nat → Int32) (rd pp : Nat) (sz : Nat) (I : sInv S) (R : rep S Z) (hp9 : pp < S.P) : Met l y_Vw_markOver ws_Vw_markOver ({ frames := 2, cells := 0, slots := 0, locals := 120 }) (xw_Pc dC dI [(cI, .int), (cB, .byte), (cL, .long), (cZ, .boolean), (cR, .object "PatchStore$Repository")] [.ref h, .int (nI pp)] [(h, .inr (11, [vw_files, vw_namingsOf, vw_namings, vw_fileTotal, vw_namingTotal, .ref sk, .ref ch, vw_loaded, vw_version, .ref ovA, .int (nI rd), vw_heads, vw_nexts, vw_sharing])), (sk, .inr (9, [.ref b_y, sk_from, .ref fdA, .ref fcA, .ref dpA, sk_hashes, sk_byHash, sk_leansOn, sk_leantBy, .ref ch, sk_lines, sk_patches])), (b_y, .inl (cB, 290000, .inl S.f)), (fdA, .inl (cI, 502, .inl Z.fd)), (dpA, .inl (cI, 8400, .inl Z.dp)), (fcA, .inl (cI, 502, .inl Z.fc)), (ch, .inr (1, [.ref cat, ch_patch, ch_file, ch_firstLine, ch_adds, ch_files])), (cat, .inl (cI, 38000, .inl Z.ca)), (ovA, .inl (cI, 38000, .inl ov))] sz) (va_Qv (fun u : Nat → Int32 => setR u ov (ovX S pp) (nI rd)) (fun u t => xw_B dC dI [(cI, .int), (cB, .byte), (cL, .long), (cZ, .boolean), (cR, .object "PatchStore$Repository")] (va_A [(h, .inr (11, [vw_files, vw_namingsOf, vw_namings, vw_fileTotal, vw_namingTotal, .ref sk, .ref ch, vw_loaded, vw_version, .ref ovA, .int (nI rd), vw_heads, vw_nexts, vw_sharing])), (sk, .inr (9, [.ref b_y, sk_from, .ref fdA, .ref fcA, .ref dpA, sk_hashes, sk_byHash, sk_leansOn, sk_leantBy, .ref ch, sk_lines, sk_patches])), (b_y, .inl (cB, 290000, .inl S.f)), (fdA, .inl (cI, 502, .inl Z.fd)), (dpA, .inl (cI, 8400, .inl Z.dp)), (fcA, .inl (cI, 502, .inl Z.fc)), (ch, .inr (1, [.ref cat, ch_patch, ch_file, ch_firstLine, ch_adds, ch_files])), (cat, .inl (cI, 38000, .inl Z.ca)), (ovA, .inl (cI, 38000, .inl ov))] sz) [(h, .inr (11, [vw_files, vw_namingsOf, vw_namings, vw_fileTotal, vw_namingTotal, .ref sk, .ref ch, vw_loaded, vw_version, .ref ovA, .int (nI rd), vw_heads, vw_nexts, vw_sharing])), (sk, .inr (9, [.ref b_y, sk_from, .ref fdA, .ref fcA, .ref dpA, sk_hashes, sk_byHash, sk_leansOn, sk_leantBy, .ref ch, sk_lines, sk_patches])), (b_y, .inl (cB, 290000, .inl S.f)), (fdA, .inl (cI, 502, .inl Z.fd)), (dpA, .inl (cI, 8400, .inl Z.dp)), (fcA, .inl (cI, 502, .inl Z.fc)), (ch, .inr (1, [.ref cat, ch_patch, ch_file, ch_firstLine, ch_adds, ch_files])), (cat, .inl (cI, 38000, .inl Z.ca)), (ovA, .inl (cI, 38000, .inl u))] t) (va_A [(h, .inr (11, [vw_files, vw_namingsOf, vw_namings, vw_fileTotal, vw_namingTotal, .ref sk, .ref ch, vw_loaded, vw_version, .ref ovA, .int (nI rd), vw_heads, vw_nexts, vw_sharing])), (sk, .inr (9, [.ref b_y, sk_from, .ref fdA, .ref fcA, .ref dpA, sk_hashes, sk_byHash, sk_leansOn, sk_leantBy, .ref ch, sk_lines, sk_patches])), (b_y, .inl (cB, 290000, .inl S.f)), (fdA, .inl (cI, 502, .inl Z.fd)), (dpA, .inl (cI, 8400, .inl Z.dp)), (fcA, .inl (cI, 502, .inl Z.fc)), (ch, .inr (1, [.ref cat, ch_patch, ch_file, ch_firstLine, ch_adds, ch_files])), (cat, .inl (cI, 38000, .inl Z.ca)), (ovA, .inl (cI, 38000, .inl ov))] sz)) 0 0 (va_A [(h, .inr (11, [vw_files, vw_namingsOf, vw_namings, vw_fileTotal, vw_namingTotal, .ref sk, .ref ch, vw_loaded, vw_version, .ref ovA, .int (nI rd), vw_heads, vw_nexts, vw_sharing])), (sk, .inr (9, [.ref b_y, sk_from, .ref fdA, .ref fcA, .ref dpA, sk_hashes, sk_byHash, sk_leansOn, sk_leantBy, .ref ch, sk_lines, sk_patches])), (b_y, .inl (cB, 290000, .inl S.f)), (fdA, .inl (cI, 502, .inl Z.fd)), (dpA, .inl (cI, 8400, .inl Z.dp)), (fcA, .inl (cI, 502, .inl Z.fc)), (ch, .inr (1, [.ref cat, ch_patch, ch_file, ch_firstLine, ch_adds, ch_files])), (cat, .inl (cI, 38000, .inl Z.ca)), (ovA, .inl (cI, 38000, .inl ov))] sz) := by
  refine Met.ofW (cc := prog_12_method_3_code) (maxL := 6) (ret := none) (by decide) rfl ?_
  intro p e s m args below meth c s₁ B hml hv
  obtain ⟨rfl, hsz, hP, hK, hD0⟩ := hv
  have hx := B.exec
  have hb := B.bytes
  have hr := B.returns
  have hts0 := atoms_spec (ws := ws_Vw_markOver) B.pre
  have hts : ∀ w ∈ xg_1, w.before _ s = true := fun w h => hts0 w (List.mem_cons_of_mem _ h)
  have hown : s.vm.findClass "PatchStore$View" = some m.cls := findClass_of_methodNamed B.named
  have hlocks := B.notSynchronized
  subst hsz
  have hD := hD0.self (sz := s.heap.size)
  generalize hAe : va_A [(h, .inr (11, [vw_files, vw_namingsOf, vw_namings, vw_fileTotal, vw_namingTotal, .ref sk, .ref ch, vw_loaded, vw_version, .ref ovA, .int (nI rd), vw_heads, vw_nexts, vw_sharing])), (sk, .inr (9, [.ref b_y, sk_from, .ref fdA, .ref fcA, .ref dpA, sk_hashes, sk_byHash, sk_leansOn, sk_leantBy, .ref ch, sk_lines, sk_patches])), (b_y, .inl (cB, 290000, .inl S.f)), (fdA, .inl (cI, 502, .inl Z.fd)), (dpA, .inl (cI, 8400, .inl Z.dp)), (fcA, .inl (cI, 502, .inl Z.fc)), (ch, .inr (1, [.ref cat, ch_patch, ch_file, ch_firstLine, ch_adds, ch_files])), (cat, .inl (cI, 38000, .inl Z.ca)), (ovA, .inl (cI, 38000, .inl ov))] s.heap.size = A at hD ⊢
  have hA : ∀ q : Nat, s.heap.size ≤ q → A q := fun q h => by rw [← hAe]; exact Or.inr h
  have hS : va_S A s.heap s.heap [] := va_S.rf
  have hl := lv_entry ([.ref h, .int (nI pp)]) (n := 6) (Nat.le_of_ble_eq_true rfl)
  rw [lg_entry_eq]
  generalize (lg_sl ([.ref h, .int (nI pp)]) ++ List.replicate (6 - (lg_sl ([.ref h, .int (nI pp)])).length) Slot.unset).toArray = ls at hl ⊢
  have hl : lv_has ls 6 [(0, .ref h), (1, .int (nI pp))] := hl
  generalize hQe : MQ _ _ _ _ _ _ _ = Q
  obtain ⟨hb1, hb2, hb3, hb4, hb5⟩ := I.bounds hp9
  have hb6 := I.hP
  have hnd5 : S.nd pp ≤ 2048 := by omega
  have hpi := I.pi pp hp9
  have hgD : ∀ i, i < S.nd pp → Z.dp (S.FD pp + i) = nI (S.dp pp i) ∧ S.dp pp i < pp := fun i z => ⟨R.dp _ (by have := hpi.fd; have := I.fdm (i := pp + 1) (k := S.P) (by omega) (Nat.le_refl _); omega), (hpi.dep i z).1⟩
  refine lv_aload_n hx hb d_Vw_markOver_0 rfl (lv_at hl 0 rfl) ?_
  refine va_get (D := (dC, dI)) (ci := 11) (v := .ref sk) (C := R_Vw) (T := F_Vw) (N := 14) hx hb hts i_Vw hown hK hP 0 rfl rfl 5 (by decide) (hts _ gw_330) (fun _ h9 => h9) rfl d_Vw_markOver_1 ?_
  refine va_get (D := (dC, dI)) (ci := 9) (v := .ref fcA) (C := R_St) (T := F_St) (N := 12) hx hb hts i_St hown hK hP 1 rfl rfl 3 (by decide) (hts _ gw_197) (fun _ h9 => h9) rfl d_Vw_markOver_4 ?_
  refine lv_iload_n hx hb d_Vw_markOver_7 rfl (lv_at hl 1 rfl) ?_
  refine va_iald hx hb hK hP 5 0 rfl rfl (vp_in_nI (by omega) (by omega)) d_Vw_markOver_8 ?_
  rw [show (nI pp).toNatClampNeg = pp from nI_clamp (by omega)]
  refine lv_topi (fun x_1 ex_1 => ?_)
  obtain rfl : x_1 = nI (S.FC pp) := by rw [ex_1]; first | done | (exact R.fc pp (by omega))
  refine lv_istore_n (lv' := [(2, .int (nI (S.FC pp))), (0, .ref h), (1, .int (nI pp))]) hx hb d_Vw_markOver_9 rfl hl (by decide) rfl (fun ls hl => ?_)
  have loop_10 : ∀ (n9 : Nat) (j : Nat) (ovu : Nat → Int32) (H : Heap) (locs : List Loc) (ls : Array Slot), S.nT pp - j < n9 → (j ≤ S.nT pp) → (setR ovu ov (ovN S pp j) (nI rd)) → va_P (dC, dI) classes [(h, .inr (11, [vw_files, vw_namingsOf, vw_namings, vw_fileTotal, vw_namingTotal, .ref sk, .ref ch, vw_loaded, vw_version, .ref ovA, .int (nI rd), vw_heads, vw_nexts, vw_sharing])), (sk, .inr (9, [.ref b_y, sk_from, .ref fdA, .ref fcA, .ref dpA, sk_hashes, sk_byHash, sk_leansOn, sk_leantBy, .ref ch, sk_lines, sk_patches])), (b_y, .inl (cB, 290000, .inl S.f)), (fdA, .inl (cI, 502, .inl Z.fd)), (dpA, .inl (cI, 8400, .inl Z.dp)), (fcA, .inl (cI, 502, .inl Z.fc)), (ch, .inr (1, [.ref cat, ch_patch, ch_file, ch_firstLine, ch_adds, ch_files])), (cat, .inl (cI, 38000, .inl Z.ca)), (ovA, .inl (cI, 38000, .inl ovu))] H → va_D A [(h, .inr (11, [vw_files, vw_namingsOf, vw_namings, vw_fileTotal, vw_namingTotal, .ref sk, .ref ch, vw_loaded, vw_version, .ref ovA, .int (nI rd), vw_heads, vw_nexts, vw_sharing])), (sk, .inr (9, [.ref b_y, sk_from, .ref fdA, .ref fcA, .ref dpA, sk_hashes, sk_byHash, sk_leansOn, sk_leantBy, .ref ch, sk_lines, sk_patches])), (b_y, .inl (cB, 290000, .inl S.f)), (fdA, .inl (cI, 502, .inl Z.fd)), (dpA, .inl (cI, 8400, .inl Z.dp)), (fcA, .inl (cI, 502, .inl Z.fc)), (ch, .inr (1, [.ref cat, ch_patch, ch_file, ch_firstLine, ch_adds, ch_files])), (cat, .inl (cI, 38000, .inl Z.ca)), (ovA, .inl (cI, 38000, .inl ovu))] → va_S A s.heap H locs → lv_has ls 6 [(0, .ref h), (1, .int (nI pp)), (2, .int (nI (S.FC pp + j)))] → W p l e (headSpec ws_Vw_markOver ({ frames := 2, cells := 0, slots := 0, locals := 120 })).room s m ([.ref h, .int (nI pp)] : List Value).toArray below meth c H locs 0 0 Q (F0 m 10 ls []) := by
    intro n9
    induction n9 with
    | zero => intro j ovu H locs ls hm; exact absurd hm (Nat.not_lt_zero _)
    | succ n9 ih_10 =>
      intro j ovu H locs ls hm hj hq1 hP hD hS hl
      refine lv_iload_n hx hb d_Vw_markOver_10 rfl (lv_at hl 2 rfl) ?_
      refine lv_aload_n hx hb d_Vw_markOver_11 rfl (lv_at hl 0 rfl) ?_
      refine va_get (D := (dC, dI)) (ci := 11) (v := .ref sk) (C := R_Vw) (T := F_Vw) (N := 14) hx hb hts i_Vw hown hK hP 0 rfl rfl 5 (by decide) (hts _ gw_330) (fun _ h9 => h9) rfl d_Vw_markOver_12 ?_
      refine va_get (D := (dC, dI)) (ci := 9) (v := .ref fcA) (C := R_St) (T := F_St) (N := 12) hx hb hts i_St hown hK hP 1 rfl rfl 3 (by decide) (hts _ gw_197) (fun _ h9 => h9) rfl d_Vw_markOver_15 ?_
      refine lv_iload_n hx hb d_Vw_markOver_18 rfl (lv_at hl 1 rfl) ?_
      refine lv_iconst (v := 1) hx hb d_Vw_markOver_19 (by decide) ?_
      refine lv_iadd hx hb d_Vw_markOver_20 ?_
      refine lv_topi (fun x_2 ex_2 => ?_)
      obtain rfl : x_2 = nI (pp + 1) := by rw [ex_2]; first | done | (exact nI_add _ _)
      refine va_iald hx hb hK hP 5 0 rfl rfl (vp_in_nI (by omega) (by omega)) d_Vw_markOver_21 ?_
      rw [show (nI (pp + 1)).toNatClampNeg = (pp + 1) from nI_clamp (by omega)]
      refine lv_topi (fun x_3 ex_3 => ?_)
      obtain rfl : x_3 = nI (S.FC pp + S.nT pp) := by rw [ex_3]; first | done | (rw [R.fc (pp + 1) (by omega), hpi.fc])
      refine lv_icmp_ge (tgt := 116) hx hb d_Vw_markOver_22 (by decide) (fun c_22 => ?_) (fun c_22 => ?_)
      · have n_22 : (S.FC pp + S.nT pp) ≤ (S.FC pp + j) := (nI_leI (a := (S.FC pp + S.nT pp)) (b := (S.FC pp + j)) (by omega) (by omega)).mp c_22
        rw [← hQe]
        exact W.vret hx hb hr (fun t ht hW => ⟨⟨ovu, rfl, (by rw [show j = S.nT pp by omega] at hq1; exact hq1), by rw [ht]; exact hP, va_K.moved hW.alike hK, hD⟩, hS.F ht⟩) hS.2.2 d_Vw_markOver_116
      · have n_22 : (S.FC pp + j) < (S.FC pp + S.nT pp) := Nat.lt_of_not_le (fun z => c_22 ((nI_leI (a := (S.FC pp + S.nT pp)) (b := (S.FC pp + j)) (by omega) (by omega)).mpr z))
        have hga := R.ca (S.FC pp + j) (by omega)
        have hcw := I.chw (k := pp + 1) (by omega) (x := (S.FC pp + j)) (by rw [hpi.fc]; omega)
        have hcw1 := hcw.1
        refine lv_aload_n hx hb d_Vw_markOver_25 rfl (lv_at hl 0 rfl) ?_
        refine va_get (D := (dC, dI)) (ci := 11) (v := .ref ch) (C := R_Vw) (T := F_Vw) (N := 14) hx hb hts i_Vw hown hK hP 0 rfl rfl 6 (by decide) (hts _ gw_331) (fun _ h9 => h9) rfl d_Vw_markOver_26 ?_
        refine va_get (D := (dC, dI)) (ci := 1) (v := .ref cat) (C := R_Ch) (T := F_Ch) (N := 6) hx hb hts i_Ch hown hK hP 6 rfl rfl 0 (by decide) (hts _ gw_87) (fun _ h9 => h9) rfl d_Vw_markOver_29 ?_
        refine lv_iload_n hx hb d_Vw_markOver_32 rfl (lv_at hl 2 rfl) ?_
        refine va_iald hx hb hK hP 7 0 rfl rfl (vp_in_nI (by omega) (by omega)) d_Vw_markOver_33 ?_
        rw [show (nI (S.FC pp + j)).toNatClampNeg = (S.FC pp + j) from nI_clamp (by omega)]
        refine lv_topi (fun x_4 ex_4 => ?_)
        obtain rfl : x_4 = nI (S.CA (S.FC pp + j)) := by rw [ex_4]; first | done | (exact hga)
        refine lv_istore_n (lv' := [(3, .int (nI (S.CA (S.FC pp + j)))), (0, .ref h), (1, .int (nI pp)), (2, .int (nI (S.FC pp + j)))]) hx hb d_Vw_markOver_34 rfl hl (by decide) rfl (fun ls hl => ?_)
        refine lv_aload_n hx hb d_Vw_markOver_35 rfl (lv_at hl 1 rfl) ?_
        refine va_get (D := (dC, dI)) (ci := 11) (v := .ref sk) (C := R_Vw) (T := F_Vw) (N := 14) hx hb hts i_Vw hown hK hP 0 rfl rfl 5 (by decide) (hts _ gw_330) (fun _ h9 => h9) rfl d_Vw_markOver_36 ?_
        refine lv_iload_n hx hb d_Vw_markOver_39 rfl (lv_at hl 3 rfl) ?_
        have hPc := hP.sub (ws' := [(sk, .inr (9, [.ref b_y, sk_from, .ref fdA, .ref fcA, .ref dpA, sk_hashes, sk_byHash, sk_leansOn, sk_leantBy, .ref ch, sk_lines, sk_patches])), (b_y, .inl (cB, 290000, .inl S.f)), (ch, .inr (1, [.ref cat, ch_patch, ch_file, ch_firstLine, ch_adds, ch_files])), (cat, .inl (cI, 38000, .inl Z.ca))]) [1, 2, 6, 7] rfl
        have hDc := hD.sub (ws' := [(sk, .inr (9, [.ref b_y, sk_from, .ref fdA, .ref fcA, .ref dpA, sk_hashes, sk_byHash, sk_leansOn, sk_leantBy, .ref ch, sk_lines, sk_patches])), (b_y, .inl (cB, 290000, .inl S.f)), (ch, .inr (1, [.ref cat, ch_patch, ch_file, ch_firstLine, ch_adds, ch_files])), (cat, .inl (cI, 38000, .inl Z.ca))]) [1, 2, 6, 7] (by decide) rfl
        have hFc := va_free (wc := [(sk, .inr (9, [.ref b_y, sk_from, .ref fdA, .ref fcA, .ref dpA, sk_hashes, sk_byHash, sk_leansOn, sk_leantBy, .ref ch, sk_lines, sk_patches])), (b_y, .inl (cB, 290000, .inl S.f)), (ch, .inr (1, [.ref cat, ch_patch, ch_file, ch_firstLine, ch_adds, ch_files])), (cat, .inl (cI, 38000, .inl Z.ca))]) hD hS hA [1, 2, 6, 7] rfl
        refine va_calli (va_runV (As := [.int (nI (S.FC pp + j))]) (rest := []) ⟨hx, hb, hml, hown, hts⟩ (m_St_kind l dC dI cI cB cL cZ cR sk b_y ch cat (sk_from) (.ref fdA) (.ref fcA) (.ref dpA) (sk_hashes) (sk_byHash) (sk_leansOn) (sk_leantBy) (sk_lines) (sk_patches) (ch_patch) (ch_file) (ch_firstLine) (ch_adds) (ch_files) S.f Z.ca (S.FC pp + j) (S.CA (S.FC pp + j)) H.size (by omega) hga (by omega)) (cwV 1 hts (xg_V gw_1004 gw_890 gw_891 gw_3 gw_892) rfl rfl rfl (by decide +kernel) ⟨Nat.le_of_ble_eq_true rfl, Nat.le_of_ble_eq_true rfl⟩) ⟨xw_blind, va_recv hK hPc (ci := 9) (q0 := 0) rfl rfl, fun U hU hW => ⟨rfl, by rw [hU], by rw [hU]; exact hPc, va_K.moved hW.alike hK, hDc.weaken (fun _ _ _ _ => trivial)⟩⟩ rfl rfl hl.1 rfl (lv_room (Nat.le_of_ble_eq_true rfl)) d_Vw_markOver_40 ⟨Nat.le_of_ble_eq_true rfl, Nat.le_of_ble_eq_true rfl⟩) hS (fun q _ h => hFc q h) hFc (fun r9 u t H1 locs ht hvm hw hB hz1 hk1 hS => ?_)
        obtain ⟨hP1, hK1, hD1⟩ := hB
        rw [ht] at hP1
        obtain ⟨hP, hD⟩ := va_join (wr := [(h, .inr (11, [vw_files, vw_namingsOf, vw_namings, vw_fileTotal, vw_namingTotal, .ref sk, .ref ch, vw_loaded, vw_version, .ref ovA, .int (nI rd), vw_heads, vw_nexts, vw_sharing])), (fdA, .inl (cI, 502, .inl Z.fd)), (dpA, .inl (cI, 8400, .inl Z.dp)), (fcA, .inl (cI, 502, .inl Z.fc)), (ovA, .inl (cI, 38000, .inl ovu))]) (w1 := [(sk, .inr (9, [.ref b_y, sk_from, .ref fdA, .ref fcA, .ref dpA, sk_hashes, sk_byHash, sk_leansOn, sk_leantBy, .ref ch, sk_lines, sk_patches])), (b_y, .inl (cB, 290000, .inl S.f)), (ch, .inr (1, [.ref cat, ch_patch, ch_file, ch_firstLine, ch_adds, ch_files])), (cat, .inl (cI, 38000, .inl Z.ca))]) hP hD [1, 2, 6, 7] [0, 3, 4, 5, 8] rfl rfl (by decide) (by decide) hk1 hFc hP1 hD1
        generalize H1 = H at hP hS ⊢
        have hP : va_P (dC, dI) classes [(h, .inr (11, [vw_files, vw_namingsOf, vw_namings, vw_fileTotal, vw_namingTotal, .ref sk, .ref ch, vw_loaded, vw_version, .ref ovA, .int (nI rd), vw_heads, vw_nexts, vw_sharing])), (fdA, .inl (cI, 502, .inl Z.fd)), (dpA, .inl (cI, 8400, .inl Z.dp)), (fcA, .inl (cI, 502, .inl Z.fc)), (ovA, .inl (cI, 38000, .inl ovu)), (sk, .inr (9, [.ref b_y, sk_from, .ref fdA, .ref fcA, .ref dpA, sk_hashes, sk_byHash, sk_leansOn, sk_leantBy, .ref ch, sk_lines, sk_patches])), (b_y, .inl (cB, 290000, .inl S.f)), (ch, .inr (1, [.ref cat, ch_patch, ch_file, ch_firstLine, ch_adds, ch_files])), (cat, .inl (cI, 38000, .inl Z.ca))] H := hP
        have hD : va_D A [(h, .inr (11, [vw_files, vw_namingsOf, vw_namings, vw_fileTotal, vw_namingTotal, .ref sk, .ref ch, vw_loaded, vw_version, .ref ovA, .int (nI rd), vw_heads, vw_nexts, vw_sharing])), (fdA, .inl (cI, 502, .inl Z.fd)), (dpA, .inl (cI, 8400, .inl Z.dp)), (fcA, .inl (cI, 502, .inl Z.fc)), (ovA, .inl (cI, 38000, .inl ovu)), (sk, .inr (9, [.ref b_y, sk_from, .ref fdA, .ref fcA, .ref dpA, sk_hashes, sk_byHash, sk_leansOn, sk_leantBy, .ref ch, sk_lines, sk_patches])), (b_y, .inl (cB, 290000, .inl S.f)), (ch, .inr (1, [.ref cat, ch_patch, ch_file, ch_firstLine, ch_adds, ch_files])), (cat, .inl (cI, 38000, .inl Z.ca))] := hD
        subst hw
        refine lv_iconst (v := 1) hx hb d_Vw_markOver_43 (by decide) ?_
        refine lv_icmp_ne (tgt := 65) hx hb d_Vw_markOver_44 (by decide) (fun c_44 => ?_) (fun c_44 => ?_)
        · refine lv_iconst (v := 0) hx hb d_Vw_markOver_65 (by decide) ?_
          refine lv_istore (lv' := [(4, .int 0), (3, .int (nI (S.CA (S.FC pp + j)))), (0, .ref h), (1, .int (nI pp)), (2, .int (nI (S.FC pp + j)))]) hx hb d_Vw_markOver_66 hl (by decide) rfl (fun ls hl => ?_)
          refine lv_iconst (v := 0) hx hb d_Vw_markOver_68 (by decide) ?_
          refine lv_istore (lv' := [(5, .int 0), (4, .int 0), (3, .int (nI (S.CA (S.FC pp + j)))), (0, .ref h), (1, .int (nI pp)), (2, .int (nI (S.FC pp + j)))]) hx hb d_Vw_markOver_69 hl (by decide) rfl (fun ls hl => ?_)
          have loop_71 : ∀ (n9 : Nat) (k : Nat) (mm : Nat) (ovv : Nat → Int32) (H : Heap) (locs : List Loc) (ls : Array Slot), mm - k < n9 → (k ≤ mm) → ((S.f (S.CA (S.FC pp + j)) = 1 ∧ mm = (b8 (S.f (S.CA (S.FC pp + j) + 5)))) ∨ (¬ S.f (S.CA (S.FC pp + j)) = 1 ∧ mm = 0)) → (setR ovv ov (fun x => ovN S pp j x ∨ ovJ S pp j k x) (nI rd)) → va_P (dC, dI) classes [(h, .inr (11, [vw_files, vw_namingsOf, vw_namings, vw_fileTotal, vw_namingTotal, .ref sk, .ref ch, vw_loaded, vw_version, .ref ovA, .int (nI rd), vw_heads, vw_nexts, vw_sharing])), (sk, .inr (9, [.ref b_y, sk_from, .ref fdA, .ref fcA, .ref dpA, sk_hashes, sk_byHash, sk_leansOn, sk_leantBy, .ref ch, sk_lines, sk_patches])), (b_y, .inl (cB, 290000, .inl S.f)), (fdA, .inl (cI, 502, .inl Z.fd)), (dpA, .inl (cI, 8400, .inl Z.dp)), (fcA, .inl (cI, 502, .inl Z.fc)), (ch, .inr (1, [.ref cat, ch_patch, ch_file, ch_firstLine, ch_adds, ch_files])), (cat, .inl (cI, 38000, .inl Z.ca)), (ovA, .inl (cI, 38000, .inl ovv))] H → va_D A [(h, .inr (11, [vw_files, vw_namingsOf, vw_namings, vw_fileTotal, vw_namingTotal, .ref sk, .ref ch, vw_loaded, vw_version, .ref ovA, .int (nI rd), vw_heads, vw_nexts, vw_sharing])), (sk, .inr (9, [.ref b_y, sk_from, .ref fdA, .ref fcA, .ref dpA, sk_hashes, sk_byHash, sk_leansOn, sk_leantBy, .ref ch, sk_lines, sk_patches])), (b_y, .inl (cB, 290000, .inl S.f)), (fdA, .inl (cI, 502, .inl Z.fd)), (dpA, .inl (cI, 8400, .inl Z.dp)), (fcA, .inl (cI, 502, .inl Z.fc)), (ch, .inr (1, [.ref cat, ch_patch, ch_file, ch_firstLine, ch_adds, ch_files])), (cat, .inl (cI, 38000, .inl Z.ca)), (ovA, .inl (cI, 38000, .inl ovv))] → va_S A s.heap H locs → lv_has ls 6 [(0, .ref h), (1, .int (nI pp)), (2, .int (nI (S.FC pp + j))), (3, .int (nI (S.CA (S.FC pp + j)))), (4, .int (nI mm)), (5, .int (nI k))] → W p l e (headSpec ws_Vw_markOver ({ frames := 2, cells := 0, slots := 0, locals := 120 })).room s m ([.ref h, .int (nI pp)] : List Value).toArray below meth c H locs 0 0 Q (F0 m 71 ls []) := by
            intro n9
            induction n9 with
            | zero => intro k mm ovv H locs ls hm; exact absurd hm (Nat.not_lt_zero _)
            | succ n9 ih_71 =>
              intro k mm ovv H locs ls hm hk hmm hq2 hP hD hS hl
              have hmb : mm < 256 := by rcases hmm with ⟨_, z⟩ | ⟨_, z⟩; exact z ▸ b8_lt _; omega
              refine lv_iload hx hb d_Vw_markOver_71 (lv_at hl 5 rfl) ?_
              refine lv_iload hx hb d_Vw_markOver_73 (lv_at hl 4 rfl) ?_
              refine lv_icmp_ge (tgt := 110) hx hb d_Vw_markOver_75 (by decide) (fun c_75 => ?_) (fun c_75 => ?_)
              · have n_75 : mm ≤ k := (nI_leI (a := mm) (b := k) (by omega) (by omega)).mp c_75
                refine lv_iinc (v := nI (S.FC pp + j + 1)) (lv' := [(2, .int (nI (S.FC pp + j + 1))), (0, .ref h), (1, .int (nI pp)), (3, .int (nI (S.CA (S.FC pp + j)))), (4, .int (nI mm)), (5, .int (nI k))]) hx hb d_Vw_markOver_110 hl (k := 2) rfl (by exact nI_add _ _) (by decide) rfl (fun ls hl => ?_)
                refine lv_goto (tgt := 10) hx hb d_Vw_markOver_113 (by decide) ?_
                exact ih_10 (j + 1) ovv _ _ _ (by omega) (by omega) (hq2.iff (ovN_step hmm (by omega))) hP hD hS (lv_sub hl [1, 2, 0] rfl)
              · have n_75 : k < mm := Nat.lt_of_not_le (fun z => c_75 ((nI_leI (a := mm) (b := k) (by omega) (by omega)).mpr z))
                have hk1 : S.f (S.CA (S.FC pp + j)) = 1 := hmm.elim (fun z => z.1) (fun z => absurd n_75 (by have := z.2; omega))
                have hmM : mm = (b8 (S.f (S.CA (S.FC pp + j) + 5))) := hmm.elim (fun z => z.2) (fun z => absurd hk1 z.1)
                have hcw2 := hcw.2.1 hk1
                refine lv_aload_n hx hb d_Vw_markOver_78 rfl (lv_at hl 0 rfl) ?_
                refine va_get (D := (dC, dI)) (ci := 11) (v := .ref ovA) (C := R_Vw) (T := F_Vw) (N := 14) hx hb hts i_Vw hown hK hP 0 rfl rfl 9 (by decide) (hts _ gw_334) (fun _ h9 => h9) rfl d_Vw_markOver_79 ?_
                refine lv_aload_n hx hb d_Vw_markOver_82 rfl (lv_at hl 0 rfl) ?_
                refine va_get (D := (dC, dI)) (ci := 11) (v := .ref sk) (C := R_Vw) (T := F_Vw) (N := 14) hx hb hts i_Vw hown hK hP 0 rfl rfl 5 (by decide) (hts _ gw_330) (fun _ h9 => h9) rfl d_Vw_markOver_83 ?_
                refine lv_iload_n hx hb d_Vw_markOver_86 rfl (lv_at hl 1 rfl) ?_
                refine lv_iload_n hx hb d_Vw_markOver_87 rfl (lv_at hl 3 rfl) ?_
                refine lv_bipush (v := 6) hx hb d_Vw_markOver_88 (by decide) ?_
                refine lv_iadd hx hb d_Vw_markOver_90 ?_
                refine lv_topi (fun x_5 ex_5 => ?_)
                obtain rfl : x_5 = nI ((S.CA (S.FC pp + j)) + 6) := by rw [ex_5]; first | done | (exact nI_add _ _)
                refine lv_iconst (v := 4) hx hb d_Vw_markOver_91 (by decide) ?_
                refine lv_iload hx hb d_Vw_markOver_92 (lv_at hl 5 rfl) ?_
                refine lv_imul hx hb d_Vw_markOver_94 ?_
                refine lv_topi (fun x_6 ex_6 => ?_)
                obtain rfl : x_6 = nI (4 * k) := by rw [ex_6]; first | done | (exact nI_mul _ _)
                refine lv_iadd hx hb d_Vw_markOver_95 ?_
                refine lv_topi (fun x_7 ex_7 => ?_)
                obtain rfl : x_7 = nI (((S.CA (S.FC pp + j)) + 6) + (4 * k)) := by rw [ex_7]; first | done | (exact nI_add _ _)
                obtain ⟨xx, hxk, hxl, hxn, hxf⟩ := I.ref hp9 (by omega) hk1 (by omega : k < (b8 (S.f (S.CA (S.FC pp + j) + 5))))
                obtain ⟨ow1, ow2, ow3⟩ := cnR.own (fdf := Z.fd) (dpf := Z.dp) (D0 := S.FD pp) (by omega) (R.fd pp (by omega)) (by omega) hgD (show cnR S.f (S.dp pp) S.FC pp (S.nd pp) (S.FC pp + j) (S.CA (S.FC pp + j) + 6 + 4 * k) xx from hxk)
                have hPc := hP.sub (ws' := [(sk, .inr (9, [.ref b_y, sk_from, .ref fdA, .ref fcA, .ref dpA, sk_hashes, sk_byHash, sk_leansOn, sk_leantBy, .ref ch, sk_lines, sk_patches])), (b_y, .inl (cB, 290000, .inl S.f)), (fdA, .inl (cI, 502, .inl Z.fd)), (dpA, .inl (cI, 8400, .inl Z.dp)), (fcA, .inl (cI, 502, .inl Z.fc))]) [1, 2, 3, 4, 5] rfl
                have hDc := hD.sub (ws' := [(sk, .inr (9, [.ref b_y, sk_from, .ref fdA, .ref fcA, .ref dpA, sk_hashes, sk_byHash, sk_leansOn, sk_leantBy, .ref ch, sk_lines, sk_patches])), (b_y, .inl (cB, 290000, .inl S.f)), (fdA, .inl (cI, 502, .inl Z.fd)), (dpA, .inl (cI, 8400, .inl Z.dp)), (fcA, .inl (cI, 502, .inl Z.fc))]) [1, 2, 3, 4, 5] (by decide) rfl
                have hFc := va_free (wc := [(sk, .inr (9, [.ref b_y, sk_from, .ref fdA, .ref fcA, .ref dpA, sk_hashes, sk_byHash, sk_leansOn, sk_leantBy, .ref ch, sk_lines, sk_patches])), (b_y, .inl (cB, 290000, .inl S.f)), (fdA, .inl (cI, 502, .inl Z.fd)), (dpA, .inl (cI, 8400, .inl Z.dp)), (fcA, .inl (cI, 502, .inl Z.fc))]) hD hS hA [1, 2, 3, 4, 5] rfl
                refine va_calli (va_runV (As := [.int (nI pp), .int (nI (((S.CA (S.FC pp + j)) + 6) + (4 * k)))]) (rest := [.ref ovA]) ⟨hx, hb, hml, hown, hts⟩ (m_St_changeNamed l dC dI cI cB cL cZ cR sk b_y fdA dpA fcA (sk_from) (sk_hashes) (sk_byHash) (sk_leansOn) (sk_leantBy) (.ref ch) (sk_lines) (sk_patches) S.f Z.fd Z.dp Z.fc pp (S.CA (S.FC pp + j) + 6 + 4 * k) (owN S.f (S.dp pp) pp (S.CA (S.FC pp + j) + 6 + 4 * k)) (S.FC (owN S.f (S.dp pp) pp (S.CA (S.FC pp + j) + 6 + 4 * k))) H.size (by omega) (by omega) ow1 (by omega) (R.fc _ (by omega))) (cwV 2 hts (xg_V gw_1005 gw_932 gw_933 gw_3 gw_934) rfl rfl rfl (by decide +kernel) ⟨Nat.le_of_ble_eq_true rfl, Nat.le_of_ble_eq_true rfl⟩) ⟨xw_blind, va_recv hK hPc (ci := 9) (q0 := 0) rfl rfl, fun U hU hW => ⟨rfl, by rw [hU], by rw [hU]; exact hPc, va_K.moved hW.alike hK, hDc.weaken (fun _ _ _ _ => trivial)⟩⟩ rfl rfl hl.1 rfl (lv_room (Nat.le_of_ble_eq_true rfl)) d_Vw_markOver_96 ⟨Nat.le_of_ble_eq_true rfl, Nat.le_of_ble_eq_true rfl⟩) hS (fun q _ h => hFc q h) hFc (fun r9 u t H1 locs ht hvm hw hB hz1 hk1 hS => ?_)
                obtain ⟨hP1, hK1, hD1⟩ := hB
                rw [ht] at hP1
                obtain ⟨hP, hD⟩ := va_join (wr := [(h, .inr (11, [vw_files, vw_namingsOf, vw_namings, vw_fileTotal, vw_namingTotal, .ref sk, .ref ch, vw_loaded, vw_version, .ref ovA, .int (nI rd), vw_heads, vw_nexts, vw_sharing])), (ch, .inr (1, [.ref cat, ch_patch, ch_file, ch_firstLine, ch_adds, ch_files])), (cat, .inl (cI, 38000, .inl Z.ca)), (ovA, .inl (cI, 38000, .inl ovv))]) (w1 := [(sk, .inr (9, [.ref b_y, sk_from, .ref fdA, .ref fcA, .ref dpA, sk_hashes, sk_byHash, sk_leansOn, sk_leantBy, .ref ch, sk_lines, sk_patches])), (b_y, .inl (cB, 290000, .inl S.f)), (fdA, .inl (cI, 502, .inl Z.fd)), (dpA, .inl (cI, 8400, .inl Z.dp)), (fcA, .inl (cI, 502, .inl Z.fc))]) hP hD [1, 2, 3, 4, 5] [0, 6, 7, 8] rfl rfl (by decide) (by decide) hk1 hFc hP1 hD1
                generalize H1 = H at hP hS ⊢
                have hP : va_P (dC, dI) classes [(h, .inr (11, [vw_files, vw_namingsOf, vw_namings, vw_fileTotal, vw_namingTotal, .ref sk, .ref ch, vw_loaded, vw_version, .ref ovA, .int (nI rd), vw_heads, vw_nexts, vw_sharing])), (ch, .inr (1, [.ref cat, ch_patch, ch_file, ch_firstLine, ch_adds, ch_files])), (cat, .inl (cI, 38000, .inl Z.ca)), (ovA, .inl (cI, 38000, .inl ovv)), (sk, .inr (9, [.ref b_y, sk_from, .ref fdA, .ref fcA, .ref dpA, sk_hashes, sk_byHash, sk_leansOn, sk_leantBy, .ref ch, sk_lines, sk_patches])), (b_y, .inl (cB, 290000, .inl S.f)), (fdA, .inl (cI, 502, .inl Z.fd)), (dpA, .inl (cI, 8400, .inl Z.dp)), (fcA, .inl (cI, 502, .inl Z.fc))] H := hP
                have hD : va_D A [(h, .inr (11, [vw_files, vw_namingsOf, vw_namings, vw_fileTotal, vw_namingTotal, .ref sk, .ref ch, vw_loaded, vw_version, .ref ovA, .int (nI rd), vw_heads, vw_nexts, vw_sharing])), (ch, .inr (1, [.ref cat, ch_patch, ch_file, ch_firstLine, ch_adds, ch_files])), (cat, .inl (cI, 38000, .inl Z.ca)), (ovA, .inl (cI, 38000, .inl ovv)), (sk, .inr (9, [.ref b_y, sk_from, .ref fdA, .ref fcA, .ref dpA, sk_hashes, sk_byHash, sk_leansOn, sk_leantBy, .ref ch, sk_lines, sk_patches])), (b_y, .inl (cB, 290000, .inl S.f)), (fdA, .inl (cI, 502, .inl Z.fd)), (dpA, .inl (cI, 8400, .inl Z.dp)), (fcA, .inl (cI, 502, .inl Z.fc))] := hD
                obtain rfl : r9 = nI xx := hw.trans (congrArg nI ow3.symm)
                refine lv_aload_n hx hb d_Vw_markOver_99 rfl (lv_at hl 0 rfl) ?_
                refine va_get (D := (dC, dI)) (ci := 11) (v := .int (nI rd)) (C := R_Vw) (T := F_Vw) (N := 14) hx hb hts i_Vw hown hK hP 0 rfl rfl 10 (by decide) (hts _ gw_335) (fun _ h9 => h9) rfl d_Vw_markOver_100 ?_
                refine va_iast hx hb hK hP hD hS 3 0 rfl rfl (vp_in_nI (by omega) (by omega)) d_Vw_markOver_103 (fun H locs hP hD hS => ?_)
                rw [show (nI xx).toNatClampNeg = xx from nI_clamp (by omega)] at hP hD
                have hP : va_P (dC, dI) classes [(h, .inr (11, [vw_files, vw_namingsOf, vw_namings, vw_fileTotal, vw_namingTotal, .ref sk, .ref ch, vw_loaded, vw_version, .ref ovA, .int (nI rd), vw_heads, vw_nexts, vw_sharing])), (ch, .inr (1, [.ref cat, ch_patch, ch_file, ch_firstLine, ch_adds, ch_files])), (cat, .inl (cI, 38000, .inl Z.ca)), (ovA, .inl (cI, 38000, .inl (upd ovv xx (nI rd)))), (sk, .inr (9, [.ref b_y, sk_from, .ref fdA, .ref fcA, .ref dpA, sk_hashes, sk_byHash, sk_leansOn, sk_leantBy, .ref ch, sk_lines, sk_patches])), (b_y, .inl (cB, 290000, .inl S.f)), (fdA, .inl (cI, 502, .inl Z.fd)), (dpA, .inl (cI, 8400, .inl Z.dp)), (fcA, .inl (cI, 502, .inl Z.fc))] H := hP
                have hD : va_D A [(h, .inr (11, [vw_files, vw_namingsOf, vw_namings, vw_fileTotal, vw_namingTotal, .ref sk, .ref ch, vw_loaded, vw_version, .ref ovA, .int (nI rd), vw_heads, vw_nexts, vw_sharing])), (ch, .inr (1, [.ref cat, ch_patch, ch_file, ch_firstLine, ch_adds, ch_files])), (cat, .inl (cI, 38000, .inl Z.ca)), (ovA, .inl (cI, 38000, .inl (upd ovv xx (nI rd)))), (sk, .inr (9, [.ref b_y, sk_from, .ref fdA, .ref fcA, .ref dpA, sk_hashes, sk_byHash, sk_leansOn, sk_leantBy, .ref ch, sk_lines, sk_patches])), (b_y, .inl (cB, 290000, .inl S.f)), (fdA, .inl (cI, 502, .inl Z.fd)), (dpA, .inl (cI, 8400, .inl Z.dp)), (fcA, .inl (cI, 502, .inl Z.fc))] := hD
                refine lv_iinc (v := nI (k + 1)) (lv' := [(5, .int (nI (k + 1))), (0, .ref h), (1, .int (nI pp)), (2, .int (nI (S.FC pp + j))), (3, .int (nI (S.CA (S.FC pp + j)))), (4, .int (nI mm))]) hx hb d_Vw_markOver_104 hl (k := 5) rfl (by exact nI_add _ _) (by decide) rfl (fun ls hl => ?_)
                refine lv_goto (tgt := 71) hx hb d_Vw_markOver_107 (by decide) ?_
                exact ih_71 (k + 1) mm (upd ovv xx (nI rd)) _ _ _ (by omega) (by omega) (hmm) (hq2.upd (fun x => by rw [ovJ_step hnd5 hxk x]; exact or_assoc.symm)) (hP.sub [0, 4, 5, 6, 7, 8, 1, 2, 3] rfl) (hD.sub [0, 4, 5, 6, 7, 8, 1, 2, 3] (by decide) rfl) hS (lv_sub hl [1, 2, 3, 4, 5, 0] rfl)
          exact loop_71 _ 0 0 ovu _ _ _ (Nat.lt_succ_self _) (Nat.le_refl _) (Or.inr ⟨c_44, rfl⟩) (hq1.iff ovJ_0) (hP.sub [0, 5, 6, 1, 2, 3, 7, 8, 4] rfl) (hD.sub [0, 5, 6, 1, 2, 3, 7, 8, 4] (by decide) rfl) hS (lv_sub hl [3, 4, 5, 2, 1, 0] rfl)
        · refine lv_aload_n hx hb d_Vw_markOver_47 rfl (lv_at hl 1 rfl) ?_
          refine va_get (D := (dC, dI)) (ci := 11) (v := .ref sk) (C := R_Vw) (T := F_Vw) (N := 14) hx hb hts i_Vw hown hK hP 0 rfl rfl 5 (by decide) (hts _ gw_330) (fun _ h9 => h9) rfl d_Vw_markOver_48 ?_
          refine va_get (D := (dC, dI)) (ci := 9) (v := .ref b_y) (C := R_St) (T := F_St) (N := 12) hx hb hts i_St hown hK hP 5 rfl rfl 0 (by decide) (hts _ gw_183) (fun _ h9 => h9) rfl d_Vw_markOver_51 ?_
          refine lv_iload_n hx hb d_Vw_markOver_54 rfl (lv_at hl 0 rfl) ?_
          refine lv_iconst (v := 5) hx hb d_Vw_markOver_55 (by decide) ?_
          refine lv_iadd hx hb d_Vw_markOver_56 ?_
          refine lv_topi (fun x_8 ex_8 => ?_)
          obtain rfl : x_8 = nI ((S.CA (S.FC pp + j)) + 5) := by rw [ex_8]; first | done | (exact nI_add _ _)
          refine va_bald hx hb hK hP 6 1 rfl rfl (vp_in_nI (by omega) (by omega)) d_Vw_markOver_57 ?_
          rw [show (nI ((S.CA (S.FC pp + j)) + 5)).toNatClampNeg = ((S.CA (S.FC pp + j)) + 5) from nI_clamp (by omega)]
          refine lv_sipush (v := 255) hx hb d_Vw_markOver_58 (by decide) ?_
          refine lv_iand hx hb d_Vw_markOver_61 ?_
          refine lv_topi (fun x_9 ex_9 => ?_)
          obtain rfl : x_9 = nI (b8 (S.f ((S.CA (S.FC pp + j)) + 5))) := by rw [ex_9]; first | done | (exact b8_eq _)
          refine lv_goto (tgt := 66) hx hb d_Vw_markOver_62 (by decide) ?_
          refine lv_istore (lv' := [(4, .int (nI (b8 (S.f ((S.CA (S.FC pp + j)) + 5))))), (3, .int (nI (S.CA (S.FC pp + j)))), (0, .ref h), (1, .int (nI pp)), (2, .int (nI (S.FC pp + j)))]) hx hb d_Vw_markOver_66 hl (by decide) rfl (fun ls hl => ?_)
          refine lv_iconst (v := 0) hx hb d_Vw_markOver_68 (by decide) ?_
          refine lv_istore (lv' := [(5, .int 0), (4, .int (nI (b8 (S.f ((S.CA (S.FC pp + j)) + 5))))), (3, .int (nI (S.CA (S.FC pp + j)))), (0, .ref h), (1, .int (nI pp)), (2, .int (nI (S.FC pp + j)))]) hx hb d_Vw_markOver_69 hl (by decide) rfl (fun ls hl => ?_)
          have loop_71 : ∀ (n9 : Nat) (k : Nat) (mm : Nat) (ovv : Nat → Int32) (H : Heap) (locs : List Loc) (ls : Array Slot), mm - k < n9 → (k ≤ mm) → ((S.f (S.CA (S.FC pp + j)) = 1 ∧ mm = (b8 (S.f (S.CA (S.FC pp + j) + 5)))) ∨ (¬ S.f (S.CA (S.FC pp + j)) = 1 ∧ mm = 0)) → (setR ovv ov (fun x => ovN S pp j x ∨ ovJ S pp j k x) (nI rd)) → va_P (dC, dI) classes [(h, .inr (11, [vw_files, vw_namingsOf, vw_namings, vw_fileTotal, vw_namingTotal, .ref sk, .ref ch, vw_loaded, vw_version, .ref ovA, .int (nI rd), vw_heads, vw_nexts, vw_sharing])), (sk, .inr (9, [.ref b_y, sk_from, .ref fdA, .ref fcA, .ref dpA, sk_hashes, sk_byHash, sk_leansOn, sk_leantBy, .ref ch, sk_lines, sk_patches])), (b_y, .inl (cB, 290000, .inl S.f)), (fdA, .inl (cI, 502, .inl Z.fd)), (dpA, .inl (cI, 8400, .inl Z.dp)), (fcA, .inl (cI, 502, .inl Z.fc)), (ch, .inr (1, [.ref cat, ch_patch, ch_file, ch_firstLine, ch_adds, ch_files])), (cat, .inl (cI, 38000, .inl Z.ca)), (ovA, .inl (cI, 38000, .inl ovv))] H → va_D A [(h, .inr (11, [vw_files, vw_namingsOf, vw_namings, vw_fileTotal, vw_namingTotal, .ref sk, .ref ch, vw_loaded, vw_version, .ref ovA, .int (nI rd), vw_heads, vw_nexts, vw_sharing])), (sk, .inr (9, [.ref b_y, sk_from, .ref fdA, .ref fcA, .ref dpA, sk_hashes, sk_byHash, sk_leansOn, sk_leantBy, .ref ch, sk_lines, sk_patches])), (b_y, .inl (cB, 290000, .inl S.f)), (fdA, .inl (cI, 502, .inl Z.fd)), (dpA, .inl (cI, 8400, .inl Z.dp)), (fcA, .inl (cI, 502, .inl Z.fc)), (ch, .inr (1, [.ref cat, ch_patch, ch_file, ch_firstLine, ch_adds, ch_files])), (cat, .inl (cI, 38000, .inl Z.ca)), (ovA, .inl (cI, 38000, .inl ovv))] → va_S A s.heap H locs → lv_has ls 6 [(0, .ref h), (1, .int (nI pp)), (2, .int (nI (S.FC pp + j))), (3, .int (nI (S.CA (S.FC pp + j)))), (4, .int (nI mm)), (5, .int (nI k))] → W p l e (headSpec ws_Vw_markOver ({ frames := 2, cells := 0, slots := 0, locals := 120 })).room s m ([.ref h, .int (nI pp)] : List Value).toArray below meth c H locs 0 0 Q (F0 m 71 ls []) := by
            intro n9
            induction n9 with
            | zero => intro k mm ovv H locs ls hm; exact absurd hm (Nat.not_lt_zero _)
            | succ n9 ih_71 =>
              intro k mm ovv H locs ls hm hk hmm hq2 hP hD hS hl
              have hmb : mm < 256 := by rcases hmm with ⟨_, z⟩ | ⟨_, z⟩; exact z ▸ b8_lt _; omega
              refine lv_iload hx hb d_Vw_markOver_71 (lv_at hl 5 rfl) ?_
              refine lv_iload hx hb d_Vw_markOver_73 (lv_at hl 4 rfl) ?_
              refine lv_icmp_ge (tgt := 110) hx hb d_Vw_markOver_75 (by decide) (fun c_75 => ?_) (fun c_75 => ?_)
              · have n_75 : mm ≤ k := (nI_leI (a := mm) (b := k) (by omega) (by omega)).mp c_75
                refine lv_iinc (v := nI (S.FC pp + j + 1)) (lv' := [(2, .int (nI (S.FC pp + j + 1))), (0, .ref h), (1, .int (nI pp)), (3, .int (nI (S.CA (S.FC pp + j)))), (4, .int (nI mm)), (5, .int (nI k))]) hx hb d_Vw_markOver_110 hl (k := 2) rfl (by exact nI_add _ _) (by decide) rfl (fun ls hl => ?_)
                refine lv_goto (tgt := 10) hx hb d_Vw_markOver_113 (by decide) ?_
                exact ih_10 (j + 1) ovv _ _ _ (by omega) (by omega) (hq2.iff (ovN_step hmm (by omega))) hP hD hS (lv_sub hl [1, 2, 0] rfl)
              · have n_75 : k < mm := Nat.lt_of_not_le (fun z => c_75 ((nI_leI (a := mm) (b := k) (by omega) (by omega)).mpr z))
                have hk1 : S.f (S.CA (S.FC pp + j)) = 1 := hmm.elim (fun z => z.1) (fun z => absurd n_75 (by have := z.2; omega))
                have hmM : mm = (b8 (S.f (S.CA (S.FC pp + j) + 5))) := hmm.elim (fun z => z.2) (fun z => absurd hk1 z.1)
                have hcw2 := hcw.2.1 hk1
                refine lv_aload_n hx hb d_Vw_markOver_78 rfl (lv_at hl 0 rfl) ?_
                refine va_get (D := (dC, dI)) (ci := 11) (v := .ref ovA) (C := R_Vw) (T := F_Vw) (N := 14) hx hb hts i_Vw hown hK hP 0 rfl rfl 9 (by decide) (hts _ gw_334) (fun _ h9 => h9) rfl d_Vw_markOver_79 ?_
                refine lv_aload_n hx hb d_Vw_markOver_82 rfl (lv_at hl 0 rfl) ?_
                refine va_get (D := (dC, dI)) (ci := 11) (v := .ref sk) (C := R_Vw) (T := F_Vw) (N := 14) hx hb hts i_Vw hown hK hP 0 rfl rfl 5 (by decide) (hts _ gw_330) (fun _ h9 => h9) rfl d_Vw_markOver_83 ?_
                refine lv_iload_n hx hb d_Vw_markOver_86 rfl (lv_at hl 1 rfl) ?_
                refine lv_iload_n hx hb d_Vw_markOver_87 rfl (lv_at hl 3 rfl) ?_
                refine lv_bipush (v := 6) hx hb d_Vw_markOver_88 (by decide) ?_
                refine lv_iadd hx hb d_Vw_markOver_90 ?_
                refine lv_topi (fun x_10 ex_10 => ?_)
                obtain rfl : x_10 = nI ((S.CA (S.FC pp + j)) + 6) := by rw [ex_10]; first | done | (exact nI_add _ _)
                refine lv_iconst (v := 4) hx hb d_Vw_markOver_91 (by decide) ?_
                refine lv_iload hx hb d_Vw_markOver_92 (lv_at hl 5 rfl) ?_
                refine lv_imul hx hb d_Vw_markOver_94 ?_
                refine lv_topi (fun x_11 ex_11 => ?_)
                obtain rfl : x_11 = nI (4 * k) := by rw [ex_11]; first | done | (exact nI_mul _ _)
                refine lv_iadd hx hb d_Vw_markOver_95 ?_
                refine lv_topi (fun x_12 ex_12 => ?_)
                obtain rfl : x_12 = nI (((S.CA (S.FC pp + j)) + 6) + (4 * k)) := by rw [ex_12]; first | done | (exact nI_add _ _)
                obtain ⟨xx, hxk, hxl, hxn, hxf⟩ := I.ref hp9 (by omega) hk1 (by omega : k < (b8 (S.f (S.CA (S.FC pp + j) + 5))))
                obtain ⟨ow1, ow2, ow3⟩ := cnR.own (fdf := Z.fd) (dpf := Z.dp) (D0 := S.FD pp) (by omega) (R.fd pp (by omega)) (by omega) hgD (show cnR S.f (S.dp pp) S.FC pp (S.nd pp) (S.FC pp + j) (S.CA (S.FC pp + j) + 6 + 4 * k) xx from hxk)
                have hPc := hP.sub (ws' := [(sk, .inr (9, [.ref b_y, sk_from, .ref fdA, .ref fcA, .ref dpA, sk_hashes, sk_byHash, sk_leansOn, sk_leantBy, .ref ch, sk_lines, sk_patches])), (b_y, .inl (cB, 290000, .inl S.f)), (fdA, .inl (cI, 502, .inl Z.fd)), (dpA, .inl (cI, 8400, .inl Z.dp)), (fcA, .inl (cI, 502, .inl Z.fc))]) [1, 2, 3, 4, 5] rfl
                have hDc := hD.sub (ws' := [(sk, .inr (9, [.ref b_y, sk_from, .ref fdA, .ref fcA, .ref dpA, sk_hashes, sk_byHash, sk_leansOn, sk_leantBy, .ref ch, sk_lines, sk_patches])), (b_y, .inl (cB, 290000, .inl S.f)), (fdA, .inl (cI, 502, .inl Z.fd)), (dpA, .inl (cI, 8400, .inl Z.dp)), (fcA, .inl (cI, 502, .inl Z.fc))]) [1, 2, 3, 4, 5] (by decide) rfl
                have hFc := va_free (wc := [(sk, .inr (9, [.ref b_y, sk_from, .ref fdA, .ref fcA, .ref dpA, sk_hashes, sk_byHash, sk_leansOn, sk_leantBy, .ref ch, sk_lines, sk_patches])), (b_y, .inl (cB, 290000, .inl S.f)), (fdA, .inl (cI, 502, .inl Z.fd)), (dpA, .inl (cI, 8400, .inl Z.dp)), (fcA, .inl (cI, 502, .inl Z.fc))]) hD hS hA [1, 2, 3, 4, 5] rfl
                refine va_calli (va_runV (As := [.int (nI pp), .int (nI (((S.CA (S.FC pp + j)) + 6) + (4 * k)))]) (rest := [.ref ovA]) ⟨hx, hb, hml, hown, hts⟩ (m_St_changeNamed l dC dI cI cB cL cZ cR sk b_y fdA dpA fcA (sk_from) (sk_hashes) (sk_byHash) (sk_leansOn) (sk_leantBy) (.ref ch) (sk_lines) (sk_patches) S.f Z.fd Z.dp Z.fc pp (S.CA (S.FC pp + j) + 6 + 4 * k) (owN S.f (S.dp pp) pp (S.CA (S.FC pp + j) + 6 + 4 * k)) (S.FC (owN S.f (S.dp pp) pp (S.CA (S.FC pp + j) + 6 + 4 * k))) H.size (by omega) (by omega) ow1 (by omega) (R.fc _ (by omega))) (cwV 2 hts (xg_V gw_1005 gw_932 gw_933 gw_3 gw_934) rfl rfl rfl (by decide +kernel) ⟨Nat.le_of_ble_eq_true rfl, Nat.le_of_ble_eq_true rfl⟩) ⟨xw_blind, va_recv hK hPc (ci := 9) (q0 := 0) rfl rfl, fun U hU hW => ⟨rfl, by rw [hU], by rw [hU]; exact hPc, va_K.moved hW.alike hK, hDc.weaken (fun _ _ _ _ => trivial)⟩⟩ rfl rfl hl.1 rfl (lv_room (Nat.le_of_ble_eq_true rfl)) d_Vw_markOver_96 ⟨Nat.le_of_ble_eq_true rfl, Nat.le_of_ble_eq_true rfl⟩) hS (fun q _ h => hFc q h) hFc (fun r9 u t H1 locs ht hvm hw hB hz1 hk1 hS => ?_)
                obtain ⟨hP1, hK1, hD1⟩ := hB
                rw [ht] at hP1
                obtain ⟨hP, hD⟩ := va_join (wr := [(h, .inr (11, [vw_files, vw_namingsOf, vw_namings, vw_fileTotal, vw_namingTotal, .ref sk, .ref ch, vw_loaded, vw_version, .ref ovA, .int (nI rd), vw_heads, vw_nexts, vw_sharing])), (ch, .inr (1, [.ref cat, ch_patch, ch_file, ch_firstLine, ch_adds, ch_files])), (cat, .inl (cI, 38000, .inl Z.ca)), (ovA, .inl (cI, 38000, .inl ovv))]) (w1 := [(sk, .inr (9, [.ref b_y, sk_from, .ref fdA, .ref fcA, .ref dpA, sk_hashes, sk_byHash, sk_leansOn, sk_leantBy, .ref ch, sk_lines, sk_patches])), (b_y, .inl (cB, 290000, .inl S.f)), (fdA, .inl (cI, 502, .inl Z.fd)), (dpA, .inl (cI, 8400, .inl Z.dp)), (fcA, .inl (cI, 502, .inl Z.fc))]) hP hD [1, 2, 3, 4, 5] [0, 6, 7, 8] rfl rfl (by decide) (by decide) hk1 hFc hP1 hD1
                generalize H1 = H at hP hS ⊢
                have hP : va_P (dC, dI) classes [(h, .inr (11, [vw_files, vw_namingsOf, vw_namings, vw_fileTotal, vw_namingTotal, .ref sk, .ref ch, vw_loaded, vw_version, .ref ovA, .int (nI rd), vw_heads, vw_nexts, vw_sharing])), (ch, .inr (1, [.ref cat, ch_patch, ch_file, ch_firstLine, ch_adds, ch_files])), (cat, .inl (cI, 38000, .inl Z.ca)), (ovA, .inl (cI, 38000, .inl ovv)), (sk, .inr (9, [.ref b_y, sk_from, .ref fdA, .ref fcA, .ref dpA, sk_hashes, sk_byHash, sk_leansOn, sk_leantBy, .ref ch, sk_lines, sk_patches])), (b_y, .inl (cB, 290000, .inl S.f)), (fdA, .inl (cI, 502, .inl Z.fd)), (dpA, .inl (cI, 8400, .inl Z.dp)), (fcA, .inl (cI, 502, .inl Z.fc))] H := hP
                have hD : va_D A [(h, .inr (11, [vw_files, vw_namingsOf, vw_namings, vw_fileTotal, vw_namingTotal, .ref sk, .ref ch, vw_loaded, vw_version, .ref ovA, .int (nI rd), vw_heads, vw_nexts, vw_sharing])), (ch, .inr (1, [.ref cat, ch_patch, ch_file, ch_firstLine, ch_adds, ch_files])), (cat, .inl (cI, 38000, .inl Z.ca)), (ovA, .inl (cI, 38000, .inl ovv)), (sk, .inr (9, [.ref b_y, sk_from, .ref fdA, .ref fcA, .ref dpA, sk_hashes, sk_byHash, sk_leansOn, sk_leantBy, .ref ch, sk_lines, sk_patches])), (b_y, .inl (cB, 290000, .inl S.f)), (fdA, .inl (cI, 502, .inl Z.fd)), (dpA, .inl (cI, 8400, .inl Z.dp)), (fcA, .inl (cI, 502, .inl Z.fc))] := hD
                obtain rfl : r9 = nI xx := hw.trans (congrArg nI ow3.symm)
                refine lv_aload_n hx hb d_Vw_markOver_99 rfl (lv_at hl 0 rfl) ?_
                refine va_get (D := (dC, dI)) (ci := 11) (v := .int (nI rd)) (C := R_Vw) (T := F_Vw) (N := 14) hx hb hts i_Vw hown hK hP 0 rfl rfl 10 (by decide) (hts _ gw_335) (fun _ h9 => h9) rfl d_Vw_markOver_100 ?_
                refine va_iast hx hb hK hP hD hS 3 0 rfl rfl (vp_in_nI (by omega) (by omega)) d_Vw_markOver_103 (fun H locs hP hD hS => ?_)
                rw [show (nI xx).toNatClampNeg = xx from nI_clamp (by omega)] at hP hD
                have hP : va_P (dC, dI) classes [(h, .inr (11, [vw_files, vw_namingsOf, vw_namings, vw_fileTotal, vw_namingTotal, .ref sk, .ref ch, vw_loaded, vw_version, .ref ovA, .int (nI rd), vw_heads, vw_nexts, vw_sharing])), (ch, .inr (1, [.ref cat, ch_patch, ch_file, ch_firstLine, ch_adds, ch_files])), (cat, .inl (cI, 38000, .inl Z.ca)), (ovA, .inl (cI, 38000, .inl (upd ovv xx (nI rd)))), (sk, .inr (9, [.ref b_y, sk_from, .ref fdA, .ref fcA, .ref dpA, sk_hashes, sk_byHash, sk_leansOn, sk_leantBy, .ref ch, sk_lines, sk_patches])), (b_y, .inl (cB, 290000, .inl S.f)), (fdA, .inl (cI, 502, .inl Z.fd)), (dpA, .inl (cI, 8400, .inl Z.dp)), (fcA, .inl (cI, 502, .inl Z.fc))] H := hP
                have hD : va_D A [(h, .inr (11, [vw_files, vw_namingsOf, vw_namings, vw_fileTotal, vw_namingTotal, .ref sk, .ref ch, vw_loaded, vw_version, .ref ovA, .int (nI rd), vw_heads, vw_nexts, vw_sharing])), (ch, .inr (1, [.ref cat, ch_patch, ch_file, ch_firstLine, ch_adds, ch_files])), (cat, .inl (cI, 38000, .inl Z.ca)), (ovA, .inl (cI, 38000, .inl (upd ovv xx (nI rd)))), (sk, .inr (9, [.ref b_y, sk_from, .ref fdA, .ref fcA, .ref dpA, sk_hashes, sk_byHash, sk_leansOn, sk_leantBy, .ref ch, sk_lines, sk_patches])), (b_y, .inl (cB, 290000, .inl S.f)), (fdA, .inl (cI, 502, .inl Z.fd)), (dpA, .inl (cI, 8400, .inl Z.dp)), (fcA, .inl (cI, 502, .inl Z.fc))] := hD
                refine lv_iinc (v := nI (k + 1)) (lv' := [(5, .int (nI (k + 1))), (0, .ref h), (1, .int (nI pp)), (2, .int (nI (S.FC pp + j))), (3, .int (nI (S.CA (S.FC pp + j)))), (4, .int (nI mm))]) hx hb d_Vw_markOver_104 hl (k := 5) rfl (by exact nI_add _ _) (by decide) rfl (fun ls hl => ?_)
                refine lv_goto (tgt := 71) hx hb d_Vw_markOver_107 (by decide) ?_
                exact ih_71 (k + 1) mm (upd ovv xx (nI rd)) _ _ _ (by omega) (by omega) (hmm) (hq2.upd (fun x => by rw [ovJ_step hnd5 hxk x]; exact or_assoc.symm)) (hP.sub [0, 4, 5, 6, 7, 8, 1, 2, 3] rfl) (hD.sub [0, 4, 5, 6, 7, 8, 1, 2, 3] (by decide) rfl) hS (lv_sub hl [1, 2, 3, 4, 5, 0] rfl)
          exact loop_71 _ 0 (b8 (S.f (S.CA (S.FC pp + j) + 5))) ovu _ _ _ (Nat.lt_succ_self _) (Nat.zero_le _) (Or.inl ⟨c_44, rfl⟩) (hq1.iff ovJ_0) (hP.sub [0, 5, 6, 1, 2, 3, 7, 8, 4] rfl) (hD.sub [0, 5, 6, 1, 2, 3, 7, 8, 4] (by decide) rfl) hS (lv_sub hl [3, 4, 5, 2, 1, 0] rfl)
  exact loop_10 _ 0 ov _ _ _ (Nat.lt_succ_self _) (Nat.zero_le _) (setR.nil (fun x ⟨q, a, _⟩ => absurd a (Nat.not_lt_zero _))) hP hD hS (lv_sub hl [1, 2, 0] rfl)
end
