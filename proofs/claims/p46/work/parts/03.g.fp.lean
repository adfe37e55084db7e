/-! NUMBERS WITH A POINT, from 0 on: by their bits; what is used of their sums stands in one bundle (FPL), proved at the very end -/
def fK (k : Nat) : UInt64 := FP.i2d (Int32.ofNat k)
def d36 : UInt64 := 4630263366890291200
def d2p : UInt64 := 4611686018427387904
def dm1 : UInt64 := 13830554455654793216
/-- from 0 to k -/
def dB (k : Nat) (x : UInt64) : Prop := x.toNat ≤ (fK k).toNat
def bI (x : UInt64) : Int := (x.toNat : Int)
def FPL : Prop :=
  (∀ (x y : UInt64), dB 36 x → dB 36 y → FP.dcmp x y = some (compare (bI x) (bI y))) ∧
  (∀ (j k : Nat) (x y : UInt64), dB j x → dB k y → j + k ≤ 36 → dB (j + k) (FP.dadd x y)) ∧
  (∀ x : UInt64, dB 1 x → dB 1 (FP.dsub FP.dconst1 x)) ∧
  (∀ x : UInt64, dB 1 x → FP.dmul x FP.dconst1 = x) ∧
  (∀ x : UInt64, dB 1 x → dB 2 (FP.dmul x d2p)) ∧
  (∀ x : UInt64, dB 36 x → dB 1 (FP.ddiv x d36)) ∧
  (∀ a b : Int, 0 ≤ a → a < 2147483648 → 0 < b → b < 2147483648 → vf_n32 (FP.fdiv (FP.i2f (zI a)) (FP.i2f (zI b))) ∧ vf_n64 (FP.f2d (FP.fdiv (FP.i2f (zI a)) (FP.i2f (zI b))))) ∧
  (∀ (a : Int64) (b : Int), 0 < b → b < 2147483648 → vf_n64 (FP.ddiv (FP.l2d a) (FP.i2d (zI b)))) ∧
  (∀ x : UInt64, vf_n64 x → FP.dcmp x x = some .eq)
theorem fK_0 : fK 0 = FP.dconst0 := by decide +kernel
theorem fK_1 : fK 1 = FP.dconst1 := by decide +kernel
theorem fK_2 : fK 2 = d2p := by decide +kernel
theorem fK_36 : fK 36 = d36 := by decide +kernel
theorem fK_mono : ∀ j k : Fin 37, j ≤ k → (fK j).toNat ≤ (fK k).toNat := by decide +kernel
theorem dB.mono {j k : Nat} {x : UInt64} (h : dB j x) (hk : j ≤ k) (h36 : k ≤ 36) : dB k x :=
  Nat.le_trans h (fK_mono ⟨j, by omega⟩ ⟨k, by omega⟩ hk)
theorem dB.no {k : Nat} {x : UInt64} (h : dB k x) (hk : k ≤ 36) : vf_n64 x := by
  have h1 : x.toNat ≤ (fK 36).toNat := h.mono hk (by decide)
  rw [fK_36, show d36.toNat = 4630263366890291200 by decide +kernel] at h1
  unfold vf_n64
  rw [UInt64.le_iff_toNat_le, UInt64.toNat_and, show (0x7fffffffffffffff : UInt64).toNat = 2 ^ 63 - 1 by decide +kernel, Nat.and_two_pow_sub_one_eq_mod]
  have h2 : (0x7ff0000000000000 : UInt64).toNat = 9218868437227405312 := by decide +kernel
  omega
theorem dB_0 : dB 0 FP.dconst0 := by rw [← fK_0]; exact Nat.le_refl _
theorem dB_1 : dB 1 FP.dconst1 := by rw [← fK_1]; exact Nat.le_refl _
theorem bI_inj {x y : UInt64} (h : bI x = bI y) : x = y := UInt64.toNat.inj (by unfold bI at h; omega)
theorem bI_rg (x : UInt64) : 0 ≤ bI x := Int.natCast_nonneg _
theorem bI_0 : bI FP.dconst0 = 0 := by decide +kernel
theorem cv_of {a b : Int} {r : Option Ordering} {op : CmpOp} (h : r = some (compare a b)) : Op.cmpValue r op = zI (cmZ a b) := by
  subst h
  rcases cmZ_cs a b with ⟨h1, h2⟩ | ⟨h1, h2⟩ | ⟨h1, h2⟩
  · rw [h2, show compare a b = .gt by show compareOfLessAndEq a b = _; unfold compareOfLessAndEq; rw [if_neg (by omega), if_neg (by omega)]]; rfl
  · rw [h2, show compare a b = .eq by show compareOfLessAndEq a b = _; unfold compareOfLessAndEq; rw [if_neg (by omega), if_pos h1]]; rfl
  · rw [h2, show compare a b = .lt by show compareOfLessAndEq a b = _; unfold compareOfLessAndEq; rw [if_pos h1]]; rfl
theorem z_dcmp {x y : UInt64} {op : CmpOp} (hfp : FPL) (hx : dB 36 x) (hy : dB 36 y) : Op.cmpValue (FP.dcmp x y) op = zI (cmZ (bI x) (bI y)) := cv_of (hfp.1 x y hx hy)
theorem z_dcmp0 {x : UInt64} {op : CmpOp} (hfp : FPL) (hx : dB 1 x) : Op.cmpValue (FP.dcmp x FP.dconst0) op = zI (cmZ (bI x) 0) := by
  rw [z_dcmp hfp (hx.mono (by decide) (by decide)) (dB_0.mono (by decide) (by decide)), bI_0]
theorem z_dcmpm {op : CmpOp} : Op.cmpValue (FP.dcmp dm1 FP.dconst0) op = zI (-1) := by
  rw [show FP.dcmp dm1 FP.dconst0 = some .lt by decide +kernel]
  rfl
/-- the greater of two -/
def mx (x y : UInt64) : UInt64 := if bI y ≤ bI x then x else y
theorem mx_B {k : Nat} {x y : UInt64} (hx : dB k x) (hy : dB k y) : dB k (mx x y) := by
  unfold mx
  split
  · exact hx
  · exact hy
