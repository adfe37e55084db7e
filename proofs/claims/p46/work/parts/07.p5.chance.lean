/-! CHANCES are more than nothing: a roll of two sixes takes both men off -/
def FPM : Prop := (∀ x : UInt64, dB 35 x → (fK 1).toNat ≤ (FP.dadd x FP.dconst1).toNat) ∧ (∀ y : UInt64, dB 36 y → (fK 1).toNat ≤ y.toNat → 0 < (FP.ddiv y d36).toNat)
theorem grC_66 {ch : Int → Int → UInt64} {own ot : Int} (h7 : v7 own) (h0 : own ≠ 0) : grC ch ot 4 own 6 6 = FP.dconst1 := by
  have h9 := v7_rg h7
  have h8 : own % 7 ≤ own / 7 := h7.2.1
  have hz : zmax (own / 7 - 6) 0 = 0 := by rw [zmx0, if_neg (by omega)]
  show grC ch ot (3 + 1) own 6 6 = _
  rw [grC, if_neg h0, if_pos (by omega), hz]
  by_cases q : own % 7 = 0
  · rw [q, show pr7 0 0 = 0 by decide]
    show grC ch ot (2 + 1) 0 6 6 = _
    rw [grC, if_pos rfl]
  · have e : pr7 0 (own % 7) = 7 * (own % 7) := by
      unfold pr7 zmax zmin
      rw [if_pos (by omega), if_neg (by omega)]
      omega
    rw [e]
    show grC ch ot (2 + 1) (7 * (own % 7)) 6 6 = _
    have e2 : 7 * (own % 7) / 7 = own % 7 := by omega
    have e3 : 7 * (own % 7) % 7 = 0 := by omega
    have hz2 : zmax (own % 7 - 6) 0 = 0 := by rw [zmx0, if_neg (by omega)]
    rw [grC, if_neg (by omega), e2, e3, if_pos (by omega), hz2, show pr7 0 0 = 0 by decide]
    show grC ch ot (1 + 1) 0 6 6 = _
    rw [grC, if_pos rfl]
theorem ouS5_B (hfp : FPL) {v w : Int} (h1 : v7 v) (h3 : v7 w) (h4 : w ≠ 0) : dB 35 (ouS chV v w 5) := by
  have hr : ∀ g l : Int, 1 ≤ g → 1 ≤ l → dB 1 (rlC chV v w g l) := fun g l hg hl => rlC_D hfp h1 h3 h4 hg hl
  have hi : ∀ (l : Int) (acc : UInt64), 1 ≤ l ∧ l ≤ 6 → dB (bd2 l l) acc → ∀ k : Nat, l + k ≤ 7 → dB (bd2 l (l + k)) (inZ chV v w l acc (l + k)) := by
    intro l acc hl ha k
    induction k with
    | zero =>
      intro _
      rw [show l + ((0 : Nat) : Int) = l by omega, inZ_0]
      exact ha
    | succ k ihk =>
      intro hk
      have h5 := ihk (by omega)
      have h6 := inZ_B hfp hl (by omega) h5 (hr (l + k) l (by omega) hl.1)
      rw [show l + ((k + 1 : Nat) : Int) = l + k + 1 by omega, inZ_s (by omega)]
      exact h6
  have ho : ∀ k : Nat, k ≤ 6 → dB (bd2 (k + 1) (k + 1)) (ouZ chV v w (k + 1)) := by
    intro k
    induction k with
    | zero => intro _; exact dB_0
    | succ k ihk =>
      intro hk
      have h5 := hi ((k + 1 : Nat) : Int) _ (by omega) (ihk (by omega)) (6 - k) (by omega)
      rw [show ((k + 1 : Nat) : Int) + ((6 - k : Nat) : Int) = 7 by omega, (bd2_r (by omega)).1] at h5
      rw [ouZ_s (l := ((k + 1 : Nat) : Int)) (by omega)]
      exact h5
  have h6 := ho 5 (by decide)
  exact h6
theorem chV_pos (hfp : FPL) (hfm : FPM) {v w : Int} (h1 : v7 v) (h2 : v ≠ 0) (h3 : v7 w) (h4 : w ≠ 0) : dB 1 (chV v w) ∧ 0 < (chV v w).toNat := by
  refine ⟨chV_D hfp h1 h2 h3 h4, ?_⟩
  rw [chV_eq h1 h2 h3 h4]
  have h5 := ouS5_B hfp h1 h3 h4
  have e1 : rlC chV v w (((5 + 1 : Nat) : Int) + ((0 : Nat) : Int)) ((5 + 1 : Nat) : Int) = FP.dconst1 := by
    unfold rlC
    rw [if_pos (by decide)]
    exact grC_66 h1 h2
  have e2 : wt2 (((5 + 1 : Nat) : Int) + ((0 : Nat) : Int)) ((5 + 1 : Nat) : Int) = FP.dconst1 := by
    unfold wt2
    rw [if_pos (by decide)]
  have e3 : ouS chV v w 6 = FP.dadd (ouS chV v w 5) (FP.dmul (rlC chV v w (((5 + 1 : Nat) : Int) + ((0 : Nat) : Int)) ((5 + 1 : Nat) : Int)) (wt2 (((5 + 1 : Nat) : Int) + ((0 : Nat) : Int)) ((5 + 1 : Nat) : Int))) := rfl
  rw [e1, e2, hfp.2.2.2.1 _ dB_1] at e3
  rw [e3]
  exact hfm.2 _ (hfp.2.1 35 1 _ _ h5 dB_1 (by decide)) (hfm.1 _ h5)
theorem isE_mv {b : Int → Int} {sd : Int} (hs : 0 ≤ sd ∧ sd ≤ 1) (h0 : isE b 0) (h1 : isE b 1) : isE b sd := by
  rcases (show sd = 0 ∨ sd = 1 by omega) with q | q <;> subst q
  · exact h0
  · exact h1
theorem dc_eq (hfp : FPL) : Op.cmpValue (FP.dcmp dUN dUN) .l = zI 0 := by
  rw [hfp.2.2.2.2.2.2.2.2 dUN (by unfold vf_n64 dUN; decide +kernel)]
  rfl
theorem dc_pos (hfp : FPL) {x : UInt64} (h : dB 1 x ∧ 0 < x.toNat) : Op.cmpValue (FP.dcmp x FP.dconst0) .g = zI 1 := by
  rw [z_dcmp0 hfp h.1]
  have h2 : (0 : Int) < bI x := by unfold bI; omega
  unfold cmZ
  rw [if_pos h2]
theorem dc_one (hfp : FPL) {x : UInt64} (h : dB 1 x ∧ 0 < x.toNat) : ∃ w : Int, Op.cmpValue (FP.dcmp x FP.dconst1) .l = zI w ∧ -1 ≤ w ∧ w ≤ 0 := by
  have h2 : bI x ≤ bI FP.dconst1 := by
    have h3 := h.1
    unfold dB at h3
    rw [fK_1] at h3
    unfold bI
    omega
  refine ⟨cmZ (bI x) (bI FP.dconst1), z_dcmp hfp (h.1.mono (by decide) (by decide)) (dB_1.mono (by decide) (by decide)), ?_⟩
  have h4 := cmZ_cs (bI x) (bI FP.dconst1)
  omega
