/-! 85.bitcount.lean.txt -/
/-- n bytes of x, each through g -/
def byN (g : Nat → Nat) : Nat → Nat → Nat
  | 0, _ => 0
  | n + 1, x => g (x % 256) + 256 * byN g n (x / 256)
/-- a byte n times -/
def rpN (c : Nat) : Nat → Nat
  | 0 => 0
  | n + 1 => c + 256 * rpN c n
theorem byN_lt {g : Nat → Nat} (hg : ∀ b, b < 256 → g b < 256) : ∀ n x, byN g n x < 256 ^ n
  | 0, _ => by show 0 < 1; decide
  | n + 1, x => by
    have h1 := hg (x % 256) (Nat.mod_lt _ (by decide))
    have h2 := byN_lt hg n (x / 256)
    show g (x % 256) + 256 * byN g n (x / 256) < 256 ^ (n + 1)
    rw [Nat.pow_succ]
    omega
theorem byN_id : ∀ n x, x < 256 ^ n → byN (fun b => b) n x = x
  | 0, x, h => by have : x < 1 := h; show 0 = x; omega
  | n + 1, x, h => by
    rw [Nat.pow_succ] at h
    have := byN_id n (x / 256) (by omega)
    show x % 256 + 256 * byN (fun b => b) n (x / 256) = x
    omega
theorem byN_comp {g k : Nat → Nat} (hk : ∀ b, b < 256 → k b < 256) : ∀ n x, byN g n (byN k n x) = byN (fun b => g (k b)) n x
  | 0, _ => rfl
  | n + 1, x => by
    have h1 := hk (x % 256) (Nat.mod_lt _ (by decide))
    show g ((k (x % 256) + 256 * byN k n (x / 256)) % 256) + 256 * byN g n ((k (x % 256) + 256 * byN k n (x / 256)) / 256) = g (k (x % 256)) + 256 * byN (fun b => g (k b)) n (x / 256)
    rw [show (k (x % 256) + 256 * byN k n (x / 256)) % 256 = k (x % 256) by omega, show (k (x % 256) + 256 * byN k n (x / 256)) / 256 = byN k n (x / 256) by omega, byN_comp hk n]
theorem and_byte (x c r : Nat) (hc : c < 256) : x &&& (c + 256 * r) = (x % 256 &&& c) + 256 * (x / 256 &&& r) := by
  have h := Nat.div_add_mod (x &&& (c + 256 * r)) 256
  rw [show 256 = 2 ^ 8 from rfl, Nat.and_mod_two_pow, Nat.and_div_two_pow] at h
  rw [← h, show (c + 2 ^ 8 * r) % 2 ^ 8 = c by omega, show (c + 2 ^ 8 * r) / 2 ^ 8 = r by omega]
  exact Nat.add_comm _ _
theorem bc_m1 : ∀ b, b < 256 → ∀ r, r < 2 → (b / 2 + 128 * r) &&& 85 = b / 2 &&& 85 := by decide +kernel
theorem bc_m2 : ∀ b, b < 256 → ∀ r, r < 4 → (b / 4 + 64 * r) &&& 51 = b / 4 &&& 51 := by decide +kernel
theorem bc_l1 : ∀ b, b < 256 → (b / 2 &&& 85) ≤ b := by decide +kernel
theorem bc_s1 : ∀ n x, x / 2 &&& rpN 85 n = byN (fun b => b / 2 &&& 85) n x
  | 0, x => Nat.and_zero _
  | n + 1, x => by
    show x / 2 &&& (85 + 256 * rpN 85 n) = (x % 256 / 2 &&& 85) + 256 * byN (fun b => b / 2 &&& 85) n (x / 256)
    rw [and_byte _ _ _ (by decide), show x / 2 % 256 = x % 256 / 2 + 128 * (x / 256 % 2) by omega, bc_m1 _ (Nat.mod_lt _ (by decide)) _ (Nat.mod_lt _ (by decide)), show x / 2 / 256 = x / 256 / 2 by omega, bc_s1 n]
theorem bc_d1 : ∀ n x, x < 256 ^ n → byN (fun b => b / 2 &&& 85) n x ≤ x ∧ x - byN (fun b => b / 2 &&& 85) n x = byN (fun b => b - (b / 2 &&& 85)) n x
  | 0, x, h => by have : x < 1 := h; constructor; exact Nat.zero_le _; show x - 0 = 0; omega
  | n + 1, x, h => by
    rw [Nat.pow_succ] at h
    obtain ⟨h1, h2⟩ := bc_d1 n (x / 256) (by omega)
    have h3 := bc_l1 (x % 256) (Nat.mod_lt _ (by decide))
    show (x % 256 / 2 &&& 85) + 256 * byN (fun b => b / 2 &&& 85) n (x / 256) ≤ x ∧ x - ((x % 256 / 2 &&& 85) + 256 * byN (fun b => b / 2 &&& 85) n (x / 256)) = (x % 256 - (x % 256 / 2 &&& 85)) + 256 * byN (fun b => b - (b / 2 &&& 85)) n (x / 256)
    rw [← h2]
    omega
theorem bc_s2 : ∀ n x, (x &&& rpN 51 n) + (x / 4 &&& rpN 51 n) = byN (fun b => (b &&& 51) + (b / 4 &&& 51)) n x
  | 0, x => by show (x &&& 0) + (x / 4 &&& 0) = 0; rw [Nat.and_zero, Nat.and_zero]
  | n + 1, x => by
    have ih := bc_s2 n (x / 256)
    show (x &&& (51 + 256 * rpN 51 n)) + (x / 4 &&& (51 + 256 * rpN 51 n)) = ((x % 256 &&& 51) + (x % 256 / 4 &&& 51)) + 256 * byN (fun b => (b &&& 51) + (b / 4 &&& 51)) n (x / 256)
    rw [and_byte _ _ _ (by decide), and_byte _ _ _ (by decide), show x / 4 % 256 = x % 256 / 4 + 64 * (x / 256 % 4) by omega, bc_m2 _ (Nat.mod_lt _ (by decide)) _ (Nat.mod_lt _ (by decide)), show x / 4 / 256 = x / 256 / 4 by omega, ← ih]
    omega
theorem byN_low {g : Nat → Nat} (hg : ∀ b, b < 256 → g b % 16 ≤ 4 ∧ g b / 16 ≤ 4) : ∀ n y, byN g n y % 16 ≤ 4
  | 0, _ => by show 0 % 16 ≤ 4; decide
  | n + 1, y => by
    have := hg (y % 256) (Nat.mod_lt _ (by decide))
    show (g (y % 256) + 256 * byN g n (y / 256)) % 16 ≤ 4
    omega
theorem bc_s3 {g : Nat → Nat} (hg : ∀ b, b < 256 → g b % 16 ≤ 4 ∧ g b / 16 ≤ 4) : ∀ n y, (byN g n y + byN g n y / 16) &&& rpN 15 n = byN (fun b => (g b + g b / 16) % 16) n y
  | 0, _ => Nat.and_zero _
  | n + 1, y => by
    have ih := bc_s3 hg n (y / 256)
    have h1 := hg (y % 256) (Nat.mod_lt _ (by decide))
    have h2 := byN_low hg n (y / 256)
    show (g (y % 256) + 256 * byN g n (y / 256) + (g (y % 256) + 256 * byN g n (y / 256)) / 16) &&& (15 + 256 * rpN 15 n) = (g (y % 256) + g (y % 256) / 16) % 16 + 256 * byN (fun b => (g b + g b / 16) % 16) n (y / 256)
    generalize byN g n (y / 256) = X at *
    generalize g (y % 256) = a at *
    rw [and_byte _ _ _ (by decide), ← ih, show (15 : Nat) = 2 ^ 4 - 1 from rfl, Nat.and_two_pow_sub_one_eq_mod, show (a + 256 * X + (a + 256 * X) / 16) / 256 = X + X / 16 by omega]
    have : (a + 256 * X + (a + 256 * X) / 16) % 256 % 2 ^ 4 = (a + a / 16) % 16 := by
      show (a + 256 * X + (a + 256 * X) / 16) % 256 % 16 = (a + a / 16) % 16
      omega
    rw [this]
theorem bc_g12 : ∀ b, b < 256 → b - (b / 2 &&& 85) < 256 ∧ ((b - (b / 2 &&& 85) &&& 51) + ((b - (b / 2 &&& 85)) / 4 &&& 51)) % 16 ≤ 4 ∧ ((b - (b / 2 &&& 85) &&& 51) + ((b - (b / 2 &&& 85)) / 4 &&& 51)) / 16 ≤ 4 := by decide +kernel
/-- how many of the first n bits of x are set -/
def pb (x : Nat) : Nat → Nat
  | 0 => 0
  | n + 1 => pb x n + (if x.testBit n then 1 else 0)
theorem bc_p8 : ∀ b, b < 256 → (((b - (b / 2 &&& 85) &&& 51) + ((b - (b / 2 &&& 85)) / 4 &&& 51)) + ((b - (b / 2 &&& 85) &&& 51) + ((b - (b / 2 &&& 85)) / 4 &&& 51)) / 16) % 16 = pb b 8 := by decide +kernel
theorem pb_le (x : Nat) : ∀ n, pb x n ≤ n
  | 0 => Nat.le_refl _
  | n + 1 => by
    have := pb_le x n
    show pb x n + (if x.testBit n then 1 else 0) ≤ n + 1
    split <;> omega
theorem pb_congr {x y : Nat} : ∀ n, (∀ i, i < n → x.testBit i = y.testBit i) → pb x n = pb y n
  | 0, _ => rfl
  | n + 1, h => by
    show pb x n + (if x.testBit n then 1 else 0) = pb y n + (if y.testBit n then 1 else 0)
    rw [pb_congr n (fun i z => h i (by omega)), h n (by omega)]
theorem pb_byte (x n : Nat) : pb x (8 + n) = pb (x % 256) 8 + pb (x / 256) n := by
  induction n with
  | zero =>
    have h : pb x 8 = pb (x % 256) 8 := pb_congr 8 (fun i hi => by
      have := Nat.testBit_mod_two_pow x 8 i
      rw [show (2 : Nat) ^ 8 = 256 from rfl] at this
      rw [this]; simp [hi])
    exact h
  | succ n ih =>
    have h := Nat.testBit_div_two_pow (n := 8) x n
    rw [show (2 : Nat) ^ 8 = 256 from rfl] at h
    have e1 : pb x (8 + (n + 1)) = pb x (8 + n) + (if x.testBit (8 + n) then 1 else 0) := rfl
    have e2 : pb (x / 256) (n + 1) = pb (x / 256) n + (if (x / 256).testBit n then 1 else 0) := rfl
    rw [e1, e2, ih, h, Nat.add_comm n 8, Nat.add_assoc]
/-- the bytes of what bitCount has after three steps -/
theorem bc_123 (x : Nat) (hx : x < 256 ^ 8) : (((x - (x / 2 &&& rpN 85 8) &&& rpN 51 8) + ((x - (x / 2 &&& rpN 85 8)) / 4 &&& rpN 51 8)) + ((x - (x / 2 &&& rpN 85 8) &&& rpN 51 8) + ((x - (x / 2 &&& rpN 85 8)) / 4 &&& rpN 51 8)) / 16) &&& rpN 15 8 = byN (fun b => pb b 8) 8 x := by
  rw [bc_s1, (bc_d1 8 x hx).2, bc_s2, byN_comp (fun b hb => (bc_g12 b hb).1)]
  have h := bc_s3 (g := fun b => (b - (b / 2 &&& 85) &&& 51) + ((b - (b / 2 &&& 85)) / 4 &&& 51)) (fun b hb => (bc_g12 b hb).2) 8 x
  rw [h]
  have e : ∀ n y, byN (fun b => (((b - (b / 2 &&& 85) &&& 51) + ((b - (b / 2 &&& 85)) / 4 &&& 51)) + ((b - (b / 2 &&& 85) &&& 51) + ((b - (b / 2 &&& 85)) / 4 &&& 51)) / 16) % 16) n y = byN (fun b => pb b 8) n y := by
    intro n
    induction n with
    | zero => intro y; rfl
    | succ n ih =>
      intro y
      show (((y % 256 - (y % 256 / 2 &&& 85) &&& 51) + ((y % 256 - (y % 256 / 2 &&& 85)) / 4 &&& 51)) + ((y % 256 - (y % 256 / 2 &&& 85) &&& 51) + ((y % 256 - (y % 256 / 2 &&& 85)) / 4 &&& 51)) / 16) % 16 + 256 * _ = pb (y % 256) 8 + 256 * _
      rw [bc_p8 _ (Nat.mod_lt _ (by decide)), ih]
  exact e 8 x
theorem bc_ar1 {c0 c1 c2 c3 c4 c5 c6 c7 z : Nat} (h0 : c0 ≤ 8) (hz : z = c0 + 256 * (c1 + 256 * (c2 + 256 * (c3 + 256 * (c4 + 256 * (c5 + 256 * (c6 + 256 * c7))))))) : z + z / 256 = (c0 + c1) + 256 * ((c1 + c2) + 256 * ((c2 + c3) + 256 * ((c3 + c4) + 256 * ((c4 + c5) + 256 * ((c5 + c6) + 256 * ((c6 + c7) + 256 * c7)))))) := by
  have : z / 256 = c1 + 256 * (c2 + 256 * (c3 + 256 * (c4 + 256 * (c5 + 256 * (c6 + 256 * c7))))) := by omega
  omega
theorem bc_ar2 {d0 d1 d2 d3 d4 d5 d6 d7 z : Nat} (h0 : d0 ≤ 16) (h1 : d1 ≤ 16) (hz : z = d0 + 256 * (d1 + 256 * (d2 + 256 * (d3 + 256 * (d4 + 256 * (d5 + 256 * (d6 + 256 * d7))))))) : z + z / 65536 = (d0 + d2) + 256 * ((d1 + d3) + 256 * ((d2 + d4) + 256 * ((d3 + d5) + 256 * ((d4 + d6) + 256 * ((d5 + d7) + 256 * (d6 + 256 * d7)))))) := by
  have : z / 65536 = d2 + 256 * (d3 + 256 * (d4 + 256 * (d5 + 256 * (d6 + 256 * d7)))) := by omega
  omega
theorem bc_ar3 {d0 d1 d2 d3 d4 d5 d6 d7 z : Nat} (h0 : d0 ≤ 32) (h1 : d1 ≤ 32) (h2 : d2 ≤ 32) (h3 : d3 ≤ 32) (_ : d4 ≤ 32) (hz : z = d0 + 256 * (d1 + 256 * (d2 + 256 * (d3 + 256 * (d4 + 256 * (d5 + 256 * (d6 + 256 * d7))))))) : (z + z / 4294967296) % 128 = (d0 + d4) % 128 := by
  have : z / 4294967296 = d4 + 256 * (d5 + 256 * (d6 + 256 * d7)) := by omega
  omega
theorem bc_ar {c0 c1 c2 c3 c4 c5 c6 c7 z : Nat} (h0 : c0 ≤ 8) (h1 : c1 ≤ 8) (h2 : c2 ≤ 8) (h3 : c3 ≤ 8) (h4 : c4 ≤ 8) (h5 : c5 ≤ 8) (h6 : c6 ≤ 8) (h7 : c7 ≤ 8) (hz : z = c0 + 256 * (c1 + 256 * (c2 + 256 * (c3 + 256 * (c4 + 256 * (c5 + 256 * (c6 + 256 * c7))))))) : z + z / 256 < 2 ^ 64 ∧ (z + z / 256) + (z + z / 256) / 65536 < 2 ^ 64 ∧ ((z + z / 256) + (z + z / 256) / 65536) + ((z + z / 256) + (z + z / 256) / 65536) / 4294967296 < 2 ^ 64 ∧ (((z + z / 256) + (z + z / 256) / 65536) + ((z + z / 256) + (z + z / 256) / 65536) / 4294967296) % 128 = c0 + (c1 + (c2 + (c3 + (c4 + (c5 + (c6 + c7)))))) := by
  have e1 := bc_ar1 h0 hz
  generalize z + z / 256 = w at *
  have e2 := bc_ar2 (by omega) (by omega) e1
  generalize w + w / 65536 = v at *
  have e3 := bc_ar3 (by omega) (by omega) (by omega) (by omega) (by omega) e2
  exact ⟨by omega, by omega, by omega, by rw [e3]; omega⟩
theorem pb_64 (x : Nat) : pb x 64 = pb (x % 256) 8 + (pb (x / 256 % 256) 8 + (pb (x / 256 / 256 % 256) 8 + (pb (x / 256 / 256 / 256 % 256) 8 + (pb (x / 256 / 256 / 256 / 256 % 256) 8 + (pb (x / 256 / 256 / 256 / 256 / 256 % 256) 8 + (pb (x / 256 / 256 / 256 / 256 / 256 / 256 % 256) 8 + pb (x / 256 / 256 / 256 / 256 / 256 / 256 / 256 % 256) 8)))))) := by
  rw [show (64 : Nat) = 8 + 56 from rfl, pb_byte x 56, show (56 : Nat) = 8 + 48 from rfl, pb_byte _ 48, show (48 : Nat) = 8 + 40 from rfl, pb_byte _ 40, show (40 : Nat) = 8 + 32 from rfl, pb_byte _ 32, show (32 : Nat) = 8 + 24 from rfl, pb_byte _ 24, show (24 : Nat) = 8 + 16 from rfl, pb_byte _ 16, show (16 : Nat) = 8 + 8 from rfl, pb_byte _ 8]
  have h := pb_byte (x / 256 / 256 / 256 / 256 / 256 / 256 / 256) 0
  rw [show pb (x / 256 / 256 / 256 / 256 / 256 / 256 / 256) 8 = pb (x / 256 / 256 / 256 / 256 / 256 / 256 / 256 % 256) 8 from h]
theorem byN_8 (g : Nat → Nat) (x : Nat) : byN g 8 x = g (x % 256) + 256 * (g (x / 256 % 256) + 256 * (g (x / 256 / 256 % 256) + 256 * (g (x / 256 / 256 / 256 % 256) + 256 * (g (x / 256 / 256 / 256 / 256 % 256) + 256 * (g (x / 256 / 256 / 256 / 256 / 256 % 256) + 256 * (g (x / 256 / 256 / 256 / 256 / 256 / 256 % 256) + 256 * g (x / 256 / 256 / 256 / 256 / 256 / 256 / 256 % 256))))))) := rfl
theorem bc_456 (x z : Nat) (hz : z = byN (fun b => pb b 8) 8 x) : z + z / 256 < 2 ^ 64 ∧ (z + z / 256) + (z + z / 256) / 65536 < 2 ^ 64 ∧ ((z + z / 256) + (z + z / 256) / 65536) + ((z + z / 256) + (z + z / 256) / 65536) / 4294967296 < 2 ^ 64 ∧ (((z + z / 256) + (z + z / 256) / 65536) + ((z + z / 256) + (z + z / 256) / 65536) / 4294967296) % 128 = pb x 64 := by
  rw [pb_64]
  rw [byN_8] at hz
  exact bc_ar (pb_le _ 8) (pb_le _ 8) (pb_le _ 8) (pb_le _ 8) (pb_le _ 8) (pb_le _ 8) (pb_le _ 8) (pb_le _ 8) hz
theorem bc_shN (x : Int64) (k : Int32) (j : Nat) (h : (k.toInt64.toUInt64 &&& Int64.toUInt64 63).toBitVec.toNat % 64 = j) : (bc_sh x k).toBitVec.toNat = x.toBitVec.toNat / 2 ^ j := by
  unfold bc_sh
  show (x.toUInt64 >>> (k.toInt64.toUInt64 &&& Int64.toUInt64 63)).toBitVec.toNat = _
  rw [UInt64.toBitVec_shiftRight]
  rw [BitVec.ushiftRight_eq', BitVec.toNat_ushiftRight, Nat.shiftRight_eq_div_pow, BitVec.toNat_umod]
  show x.toBitVec.toNat / 2 ^ ((k.toInt64.toUInt64 &&& Int64.toUInt64 63).toBitVec.toNat % 64) = _
  rw [h]
theorem bc_andN (x c : Int64) : (x &&& c).toBitVec.toNat = x.toBitVec.toNat &&& c.toBitVec.toNat := by
  rw [Int64.toBitVec_and, BitVec.toNat_and]
theorem bc_addN {x y : Int64} (h : x.toBitVec.toNat + y.toBitVec.toNat < 2 ^ 64) : (x + y).toBitVec.toNat = x.toBitVec.toNat + y.toBitVec.toNat := by
  rw [Int64.toBitVec_add, BitVec.toNat_add, Nat.mod_eq_of_lt h]
theorem bc_subN {x y : Int64} (h : y.toBitVec.toNat ≤ x.toBitVec.toNat) : (x - y).toBitVec.toNat = x.toBitVec.toNat - y.toBitVec.toNat := by
  rw [Int64.toBitVec_sub, BitVec.toNat_sub]
  have h1 := x.toBitVec.isLt
  have h2 := y.toBitVec.isLt
  omega
theorem bc_num (x : Int64) : bc x = nI (pb x.toBitVec.toNat 64) := by
  have hN := x.toBitVec.isLt
  have k1 : (6148914691236517205 : Int64).toBitVec.toNat = rpN 85 8 := by decide
  have k2 : (3689348814741910323 : Int64).toBitVec.toNat = rpN 51 8 := by decide
  have k3 : (1085102592571150095 : Int64).toBitVec.toNat = rpN 15 8 := by decide
  have s1 : ∀ y : Int64, (bc_sh y 1).toBitVec.toNat = y.toBitVec.toNat / 2 := fun y => bc_shN y 1 1 (by decide)
  have s2 : ∀ y : Int64, (bc_sh y 2).toBitVec.toNat = y.toBitVec.toNat / 4 := fun y => bc_shN y 2 2 (by decide)
  have s4 : ∀ y : Int64, (bc_sh y 4).toBitVec.toNat = y.toBitVec.toNat / 16 := fun y => bc_shN y 4 4 (by decide)
  have s8 : ∀ y : Int64, (bc_sh y 8).toBitVec.toNat = y.toBitVec.toNat / 256 := fun y => bc_shN y 8 8 (by decide)
  have s16 : ∀ y : Int64, (bc_sh y 16).toBitVec.toNat = y.toBitVec.toNat / 65536 := fun y => bc_shN y 16 16 (by decide)
  have s32 : ∀ y : Int64, (bc_sh y 32).toBitVec.toNat = y.toBitVec.toNat / 4294967296 := fun y => bc_shN y 32 32 (by decide)
  have h256 : (256 : Nat) ^ 8 = 2 ^ 64 := by decide
  have e1 : (bc_1 x).toBitVec.toNat = x.toBitVec.toNat - (x.toBitVec.toNat / 2 &&& rpN 85 8) := by
    unfold bc_1
    rw [bc_subN, bc_andN, s1, k1]
    rw [bc_andN, s1, k1, bc_s1]
    exact (bc_d1 8 _ (by rw [h256]; exact hN)).1
  have e2 : (bc_2 (bc_1 x)).toBitVec.toNat = ((bc_1 x).toBitVec.toNat &&& rpN 51 8) + ((bc_1 x).toBitVec.toNat / 4 &&& rpN 51 8) := by
    unfold bc_2
    have hs : ((bc_1 x).toBitVec.toNat &&& rpN 51 8) + ((bc_1 x).toBitVec.toNat / 4 &&& rpN 51 8) < 2 ^ 64 := by
      rw [bc_s2, ← h256]
      refine byN_lt (fun b hb => ?_) 8 _
      have a1 := Nat.and_le_right (n := b) (m := 51)
      have a2 := Nat.and_le_right (n := b / 4) (m := 51)
      omega
    rw [bc_addN, bc_andN, bc_andN, s2, k2]
    rw [bc_andN, bc_andN, s2, k2]
    exact hs
  have e3 : (bc_3 (bc_2 (bc_1 x))).toBitVec.toNat = ((bc_2 (bc_1 x)).toBitVec.toNat + (bc_2 (bc_1 x)).toBitVec.toNat / 16) &&& rpN 15 8 := by
    unfold bc_3
    rw [bc_andN, k3, Int64.toBitVec_add, BitVec.toNat_add, s4]
    have a : (((bc_2 (bc_1 x)).toBitVec.toNat + (bc_2 (bc_1 x)).toBitVec.toNat / 16) &&& rpN 15 8) % 2 ^ 64 = ((bc_2 (bc_1 x)).toBitVec.toNat + (bc_2 (bc_1 x)).toBitVec.toNat / 16) % 2 ^ 64 &&& rpN 15 8 % 2 ^ 64 := Nat.and_mod_two_pow
    rw [show rpN 15 8 % 2 ^ 64 = rpN 15 8 by decide] at a
    rw [← a]
    refine Nat.mod_eq_of_lt (Nat.lt_of_le_of_lt Nat.and_le_right ?_)
    decide
  have e4 : (bc_3 (bc_2 (bc_1 x))).toBitVec.toNat = byN (fun b => pb b 8) 8 x.toBitVec.toNat := by
    rw [e3, e2, e1]
    exact bc_123 _ (by rw [h256]; exact hN)
  obtain ⟨q1, q2, q3, q4⟩ := bc_456 x.toBitVec.toNat _ e4
  have f1 : (bc_4 (bc_3 (bc_2 (bc_1 x))) 8).toBitVec.toNat = (bc_3 (bc_2 (bc_1 x))).toBitVec.toNat + (bc_3 (bc_2 (bc_1 x))).toBitVec.toNat / 256 := by
    unfold bc_4
    rw [bc_addN, s8]
    rw [s8]; exact q1
  have f2 : (bc_4 (bc_4 (bc_3 (bc_2 (bc_1 x))) 8) 16).toBitVec.toNat = (bc_4 (bc_3 (bc_2 (bc_1 x))) 8).toBitVec.toNat + (bc_4 (bc_3 (bc_2 (bc_1 x))) 8).toBitVec.toNat / 65536 := by
    show (bc_4 (bc_3 (bc_2 (bc_1 x))) 8 + bc_sh (bc_4 (bc_3 (bc_2 (bc_1 x))) 8) 16).toBitVec.toNat = _
    rw [bc_addN, s16]
    rw [s16, f1]; exact q2
  have f3 : (bc_4 (bc_4 (bc_4 (bc_3 (bc_2 (bc_1 x))) 8) 16) 32).toBitVec.toNat = (bc_4 (bc_4 (bc_3 (bc_2 (bc_1 x))) 8) 16).toBitVec.toNat + (bc_4 (bc_4 (bc_3 (bc_2 (bc_1 x))) 8) 16).toBitVec.toNat / 4294967296 := by
    show (bc_4 (bc_4 (bc_3 (bc_2 (bc_1 x))) 8) 16 + bc_sh (bc_4 (bc_4 (bc_3 (bc_2 (bc_1 x))) 8) 16) 32).toBitVec.toNat = _
    rw [bc_addN, s32]
    rw [s32, f2, f1]; exact q3
  unfold bc
  have hp := pb_le x.toBitVec.toNat 64
  apply Int32.toBitVec_inj.mp
  apply BitVec.eq_of_toNat_eq
  rw [Int32.toBitVec_and, BitVec.toNat_and, Int64.toBitVec_toInt32, BitVec.signExtend_eq_setWidth_of_le _ (by decide), BitVec.toNat_setWidth, f3, f2, f1]
  rw [show (127 : Int32).toBitVec.toNat = 2 ^ 7 - 1 by decide, Nat.and_two_pow_sub_one_eq_mod, Nat.mod_mod_of_dvd _ (by decide)]
  show _ % 128 = _
  rw [q4]
  show _ = (BitVec.ofNat 32 _).toNat
  rw [BitVec.toNat_ofNat, Nat.mod_eq_of_lt (by omega)]

