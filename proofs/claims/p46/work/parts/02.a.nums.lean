/-! NUMBERS: an int, a long, by the whole number that it is -/
def zI (z : Int) : Int32 := Int32.ofInt z
def zL (z : Int) : Int64 := Int64.ofInt z
theorem zI_add (a b : Int) : zI a + zI b = zI (a + b) := (Int32.ofInt_add a b).symm
theorem zI_sub (a b : Int) : zI a - zI b = zI (a - b) := (Int32.ofInt_sub a b).symm
theorem zI_mul (a b : Int) : zI a * zI b = zI (a * b) := (Int32.ofInt_mul a b).symm
theorem zI_neg (a : Int) : - zI a = zI (-a) := (Int32.ofInt_neg a).symm
theorem zL_add (a b : Int) : zL a + zL b = zL (a + b) := (Int64.ofInt_add a b).symm
theorem zL_sub (a b : Int) : zL a - zL b = zL (a - b) := (Int64.ofInt_sub a b).symm
theorem zL_mul (a b : Int) : zL a * zL b = zL (a * b) := (Int64.ofInt_mul a b).symm
theorem zL_neg (a : Int) : - zL a = zL (-a) := (Int64.ofInt_neg a).symm
theorem zI_toInt {z : Int} (h : -2147483648 ≤ z ∧ z < 2147483648) : (zI z).toInt = z := Int32.toInt_ofInt_of_le h.1 h.2
theorem zL_toInt {z : Int} (h : -9223372036854775808 ≤ z ∧ z < 9223372036854775808) : (zL z).toInt = z := Int64.toInt_ofInt_of_le h.1 h.2
theorem zI_as (x : Int32) : zI x.toInt = x := Int32.ofInt_toInt x
theorem zL_as (x : Int64) : zL x.toInt = x := Int64.ofInt_toInt x
theorem zI_rg (x : Int32) : -2147483648 ≤ x.toInt ∧ x.toInt < 2147483648 := by
  have h1 := Int32.le_toInt x
  have h2 := Int32.toInt_lt x
  omega
theorem zL_rg (x : Int64) : -9223372036854775808 ≤ x.toInt ∧ x.toInt < 9223372036854775808 := by
  have h1 := Int64.le_toInt x
  have h2 := Int64.toInt_lt x
  omega
/-- any int is some number in the range -/
theorem zI_ex (x : Int32) : ∃ z : Int, x = zI z ∧ (-2147483648 ≤ z ∧ z < 2147483648) := ⟨x.toInt, (zI_as x).symm, zI_rg x⟩
theorem zL_ex (x : Int64) : ∃ z : Int, x = zL z ∧ (-9223372036854775808 ≤ z ∧ z < 9223372036854775808) := ⟨x.toInt, (zL_as x).symm, zL_rg x⟩
theorem zI_lt {a b : Int} (ha : -2147483648 ≤ a ∧ a < 2147483648) (hb : -2147483648 ≤ b ∧ b < 2147483648) : zI a < zI b ↔ a < b := by
  rw [Int32.lt_iff_toInt_lt, zI_toInt ha, zI_toInt hb]
theorem zI_le {a b : Int} (ha : -2147483648 ≤ a ∧ a < 2147483648) (hb : -2147483648 ≤ b ∧ b < 2147483648) : zI a ≤ zI b ↔ a ≤ b := by
  rw [Int32.le_iff_toInt_le, zI_toInt ha, zI_toInt hb]
theorem zI_eq {a b : Int} (ha : -2147483648 ≤ a ∧ a < 2147483648) (hb : -2147483648 ≤ b ∧ b < 2147483648) : zI a = zI b ↔ a = b := by
  rw [← Int32.toInt_inj, zI_toInt ha, zI_toInt hb]
theorem zL_lt {a b : Int} (ha : -9223372036854775808 ≤ a ∧ a < 9223372036854775808) (hb : -9223372036854775808 ≤ b ∧ b < 9223372036854775808) : zL a < zL b ↔ a < b := by
  rw [Int64.lt_iff_toInt_lt, zL_toInt ha, zL_toInt hb]
theorem zL_le {a b : Int} (ha : -9223372036854775808 ≤ a ∧ a < 9223372036854775808) (hb : -9223372036854775808 ≤ b ∧ b < 9223372036854775808) : zL a ≤ zL b ↔ a ≤ b := by
  rw [Int64.le_iff_toInt_le, zL_toInt ha, zL_toInt hb]
theorem zL_eq {a b : Int} (ha : -9223372036854775808 ≤ a ∧ a < 9223372036854775808) (hb : -9223372036854775808 ≤ b ∧ b < 9223372036854775808) : zL a = zL b ↔ a = b := by
  rw [← Int64.toInt_inj, zL_toInt ha, zL_toInt hb]
theorem zI_0 : (0 : Int32) = zI 0 := rfl
theorem zI_clamp {z : Int} (h : 0 ≤ z ∧ z < 2147483648) : (zI z).toNatClampNeg = z.toNat := by
  rw [← Int32.toNat_toInt, zI_toInt (by omega)]
theorem zI_in {z : Int} {n : Nat} (h : 0 ≤ z ∧ z < (n : Int)) (hn : n ≤ 2147483648) : vp_in (zI z) n := by
  rw [vp_in_iff, zI_toInt (by omega)]
  exact h
theorem zI_wide {z : Int} (h : -2147483648 ≤ z ∧ z < 2147483648) : (zI z).toInt64 = zL z := by
  rw [← Int64.toInt_inj, Int32.toInt_toInt64, zI_toInt h, zL_toInt (by omega)]
theorem zI_nat (n : Nat) : Int32.ofNat n = zI (n : Int) := by
  show Int32.ofNat n = Int32.ofInt (n : Int)
  rw [Int32.ofInt_eq_ofNat]
theorem zI_bmod (z : Int) : zI (z.bmod 4294967296) = zI z := by
  rw [← Int32.toInt_inj]
  show (Int32.ofInt _).toInt = (Int32.ofInt _).toInt
  rw [Int32.toInt_ofInt, Int32.toInt_ofInt]
  show (Int.bmod (Int.bmod z 4294967296) 4294967296) = _
  rw [Int.bmod_bmod]
theorem zI_congr {a b : Int} (h : a = b) : zI a = zI b := by rw [h]
theorem zL_congr {a b : Int} (h : a = b) : zL a = zL b := by rw [h]
theorem zI_div {a b : Int} (ha : 0 ≤ a ∧ a < 2147483648) (hb : 0 < b ∧ b < 2147483648) : zI a / zI b = zI (a / b) := by
  have h0 : 0 ≤ a / b := Int.ediv_nonneg ha.1 (by omega)
  have h1 : a / b ≤ a := Int.ediv_le_self b ha.1
  have hm : zI a ≠ Int32.minValue := fun h => by
    have h9 := congrArg Int32.toInt h
    rw [zI_toInt (by omega)] at h9
    have h8 : Int32.minValue.toInt = -2147483648 := by decide
    omega
  rw [← Int32.toInt_inj, Int32.toInt_div_of_ne_left _ _ hm, zI_toInt (by omega), zI_toInt (by omega), zI_toInt (by omega), Int.tdiv_eq_ediv_of_nonneg ha.1]
theorem zL_div {a b : Int} (ha : 0 ≤ a ∧ a < 9223372036854775808) (hb : 0 < b ∧ b < 9223372036854775808) : zL a / zL b = zL (a / b) := by
  have h0 : 0 ≤ a / b := Int.ediv_nonneg ha.1 (by omega)
  have h1 : a / b ≤ a := Int.ediv_le_self b ha.1
  have hm : zL a ≠ Int64.minValue := fun h => by
    have h9 := congrArg Int64.toInt h
    rw [zL_toInt (by omega)] at h9
    have h8 : Int64.minValue.toInt = -9223372036854775808 := by decide
    omega
  rw [← Int64.toInt_inj, Int64.toInt_div_of_ne_left _ _ hm, zL_toInt (by omega), zL_toInt (by omega), zL_toInt (by omega), Int.tdiv_eq_ediv_of_nonneg ha.1]
/-! rows of ints, of longs -/
def aI (b : Int → Int) : Nat → Int32 := fun k => zI (b k)
def aL (b : Int → Int) : Nat → Int64 := fun k => zL (b k)
def up (b : Int → Int) (k v : Int) : Int → Int := fun j => if j = k then v else b j
theorem up_s (b : Int → Int) (k v : Int) : up b k v k = v := by simp [up]
theorem up_n (b : Int → Int) {k j : Int} (v : Int) (h : j ≠ k) : up b k v j = b j := by simp [up, h]
theorem up_same {b : Int → Int} {k v : Int} (h : b k = v) : up b k v = b := by
  funext j
  by_cases q : j = k
  · subst q; rw [up_s, h]
  · rw [up_n _ _ q]
theorem up_up (b : Int → Int) (k v w : Int) : up (up b k v) k w = up b k w := by
  funext j
  by_cases q : j = k
  · subst q; rw [up_s, up_s]
  · rw [up_n _ _ q, up_n _ _ q, up_n _ _ q]
theorem aI_at {b : Int → Int} {z : Int} (h : 0 ≤ z ∧ z < 2147483648) : aI b (zI z).toNatClampNeg = zI (b z) := by
  rw [zI_clamp h]
  show zI (b _) = _
  rw [Int.toNat_of_nonneg h.1]
theorem aL_at {b : Int → Int} {z : Int} (h : 0 ≤ z ∧ z < 2147483648) : aL b (zI z).toNatClampNeg = zL (b z) := by
  rw [zI_clamp h]
  show zL (b _) = _
  rw [Int.toNat_of_nonneg h.1]
theorem aI_up {b : Int → Int} {z v : Int} (h : 0 ≤ z ∧ z < 2147483648) : upd (aI b) (zI z).toNatClampNeg (zI v) = aI (up b z v) := by
  rw [zI_clamp h]
  funext j
  show (if j = z.toNat then zI v else zI (b j)) = zI (if (j : Int) = z then v else b j)
  by_cases q : j = z.toNat
  · rw [if_pos q, if_pos (by omega)]
  · rw [if_neg q, if_neg (by omega)]
theorem aL_up {b : Int → Int} {z v : Int} (h : 0 ≤ z ∧ z < 2147483648) : vp_updL (aL b) (zI z).toNatClampNeg (zL v) = aL (up b z v) := by
  rw [zI_clamp h]
  funext j
  show (if j = z.toNat then zL v else zL (b j)) = zL (if (j : Int) = z then v else b j)
  by_cases q : j = z.toNat
  · rw [if_pos q, if_pos (by omega)]
  · rw [if_neg q, if_neg (by omega)]
/-- rows of doubles -/
def aD (b : Int → UInt64) : Nat → UInt64 := fun k => b k
def upD (b : Int → UInt64) (k : Int) (v : UInt64) : Int → UInt64 := fun j => if j = k then v else b j
theorem aD_at {b : Int → UInt64} {z : Int} (h : 0 ≤ z ∧ z < 2147483648) : aD b (zI z).toNatClampNeg = b z := by
  rw [zI_clamp h]
  show b _ = _
  rw [Int.toNat_of_nonneg h.1]
theorem aI_eq {n : Nat} {b b' : Int → Int} (h : ∀ k : Int, 0 ≤ k → k < n → b k = b' k) : ∀ k : Nat, k < n → aI b k = aI b' k := fun k hk => by
  show zI _ = zI _
  rw [h k (by omega) (by omega)]
