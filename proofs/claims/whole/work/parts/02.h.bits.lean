/-! BITS of numbers that are not negative -/
theorem zI_nI {z : Int} (h : 0 ≤ z) : zI z = nI z.toNat := by
  obtain ⟨n, rfl⟩ : ∃ n : Nat, z = n := ⟨z.toNat, by omega⟩
  rw [Int.toNat_natCast]
  exact (zI_nat n).symm
theorem zI_ofN (n : Nat) : nI n = zI (n : Int) := zI_nat n
theorem sh_l : ∀ n, n < 32 → ((nI n &&& 31).toBitVec.smod 32).toNat = n := by decide +kernel
theorem sh_u : ∀ n, n < 32 → (((nI n).toUInt32 &&& Int32.toUInt32 31).toBitVec % 32).toNat = n := by decide +kernel
theorem zI_ushr {z k : Int} (h : 0 ≤ z ∧ z < 4294967296) (hk : 0 ≤ k ∧ k < 32) : ((zI z).toUInt32 >>> ((zI k).toUInt32 &&& Int32.toUInt32 31)).toInt32 = zI (z / (2 ^ k.toNat : Nat)) := by
  rw [zI_nI h.1, zI_nI hk.1, pk_ushrN (by omega) _ k.toNat (sh_u _ (by omega)), zI_ofN]
  congr 1
  rw [Int.natCast_ediv, Int.toNat_of_nonneg h.1]
theorem zI_and {z : Int} (h : 0 ≤ z ∧ z < 4294967296) (k : Nat) (hm : (zI ((2 ^ k : Nat) - 1)).toBitVec.toNat = 2 ^ k - 1) : zI z &&& zI ((2 ^ k : Nat) - 1) = zI (z % (2 ^ k : Nat)) := by
  rw [zI_nI h.1, pk_andN (by omega) k hm, zI_ofN]
  congr 1
  rw [Int.natCast_emod, Int.toNat_of_nonneg h.1]
theorem zI_and255 {z : Int} (h : 0 ≤ z ∧ z < 4294967296) : zI z &&& zI 255 = zI (z % 256) := zI_and h 8 (by decide)
theorem zI_and7 {z : Int} (h : 0 ≤ z ∧ z < 4294967296) : zI z &&& zI 7 = zI (z % 8) := zI_and h 3 (by decide)
theorem zI_shl {z k : Int} (h : 0 ≤ z) (hk : 0 ≤ k ∧ k < 32) (hz : z * (2 ^ k.toNat : Nat) < 4294967296) : zI z <<< (zI k &&& 31) = zI (z * (2 ^ k.toNat : Nat)) := by
  have e : ((z.toNat * 2 ^ k.toNat : Nat) : Int) = z * (2 ^ k.toNat : Nat) := by rw [Int.natCast_mul, Int.toNat_of_nonneg h]
  rw [zI_nI h, zI_nI hk.1, pk_shlN _ k.toNat (sh_l _ (by omega)) (by omega), zI_ofN, e]
theorem nI_or (a b : Nat) : nI a ||| nI b = nI (a ||| b) := by
  apply Int32.toBitVec_inj.mp
  rw [Int32.toBitVec_or]
  apply BitVec.eq_of_toNat_eq
  show (BitVec.ofNat 32 a ||| BitVec.ofNat 32 b).toNat = (BitVec.ofNat 32 (a ||| b)).toNat
  rw [BitVec.toNat_or, BitVec.toNat_ofNat, BitVec.toNat_ofNat, BitVec.toNat_ofNat, Nat.or_mod_two_pow]
theorem zI_or {a b : Int} (k : Nat) (ha : 0 ≤ a ∧ a < (2 ^ k : Nat)) (hb : 0 ≤ b) : zI (b * (2 ^ k : Nat)) ||| zI a = zI (b * (2 ^ k : Nat) + a) := by
  obtain ⟨m, rfl⟩ : ∃ n : Nat, a = n := ⟨a.toNat, by omega⟩
  obtain ⟨n, rfl⟩ : ∃ n : Nat, b = n := ⟨b.toNat, by omega⟩
  rw [← Int.natCast_mul, ← Int.natCast_add, ← zI_ofN, ← zI_ofN, ← zI_ofN, nI_or, Nat.mul_comm, Nat.two_pow_add_eq_or_of_lt (by omega)]
theorem zI_or' {a b : Int} (k : Nat) (ha : 0 ≤ a ∧ a < (2 ^ k : Nat)) (hb : 0 ≤ b) : zI a ||| zI (b * (2 ^ k : Nat)) = zI (a + b * (2 ^ k : Nat)) := by
  rw [Int32.or_comm, zI_or k ha hb, Int.add_comm]
/-- by eights -/
def p8 (i : Int) : Int := if i = 0 then 1 else if i = 1 then 256 else if i = 2 then 65536 else 16777216
theorem zI_ushr8 {z i : Int} (h : 0 ≤ z ∧ z < 4294967296) (hi : 0 ≤ i ∧ i ≤ 3) : ((zI z).toUInt32 >>> ((zI (8 * i)).toUInt32 &&& Int32.toUInt32 31)).toInt32 = zI (z / p8 i) := by
  rcases (show i = 0 ∨ i = 1 ∨ i = 2 ∨ i = 3 by omega) with q | q | q | q <;> subst q <;> exact zI_ushr h (by omega)
theorem zI_shl8 {z i : Int} (h : 0 ≤ z ∧ z < 256) (hi : 0 ≤ i ∧ i ≤ 3) : zI z <<< (zI (8 * i) &&& 31) = zI (z * p8 i) := by
  rcases (show i = 0 ∨ i = 1 ∨ i = 2 ∨ i = 3 by omega) with q | q | q | q <;> subst q
  · exact zI_shl h.1 (by omega) (by show z * 1 < _; omega)
  · exact zI_shl h.1 (by omega) (by show z * 256 < _; omega)
  · exact zI_shl h.1 (by omega) (by show z * 65536 < _; omega)
  · exact zI_shl h.1 (by omega) (by show z * 16777216 < _; omega)
theorem zI_or8 {a b i : Int} (hi : 0 ≤ i ∧ i ≤ 3) (ha : 0 ≤ a ∧ a < p8 i) (hb : 0 ≤ b) : zI a ||| zI (b * p8 i) = zI (a + b * p8 i) := by
  rcases (show i = 0 ∨ i = 1 ∨ i = 2 ∨ i = 3 by omega) with q | q | q | q <;> subst q
  · exact zI_or' 0 ha hb
  · exact zI_or' 8 ha hb
  · exact zI_or' 16 ha hb
  · exact zI_or' 24 ha hb
theorem p8_pos (i : Int) : 0 < p8 i := by unfold p8; split <;> (try split) <;> (try split) <;> omega
