/-! what the bundle says, by the library -/
abbrev fV (x : UInt64) : FP.Core.Datum := FP.Core.val64 x
abbrev fZ (x : UInt64) : Int := FP.Core.zval FP.Core.b64 (FP.Core.val64 x)
abbrev f1 : Int := (FP.Core.one64 : Int)
/-- from 0 to k -/
def dQ (k : Nat) (x : UInt64) : Prop := (∃ c q, fV x = .fin false c q) ∧ fZ x ≤ (k : Int) * f1
theorem fQ_int (k : Nat) (h : k ≤ 1000) : FP.Core.DInt (k : Int) (fK k) := by
  have h1 := FP.Core.i2d_int (Int32.ofNat k)
  rw [Int32.toInt_ofNat_of_lt (by omega)] at h1
  exact h1
theorem fK_z (k : Nat) (h : k ≤ 1000) : fZ (fK k) = (k : Int) * f1 := FP.Core.DInt_zval (fQ_int k h)
theorem fK_n (k : Nat) (h : k ≤ 1000) : fV (fK k) ≠ .nan := FP.Core.DInt_ne_nan (fQ_int k h)
theorem fK_fin (k : Nat) (h : k ≤ 1000) : ∃ s c q, fV (fK k) = .fin s c q := by
  have h1 := fQ_int k h
  unfold FP.Core.DInt at h1
  cases e : FP.Core.val64 (fK k) with
  | nan => rw [e] at h1; exact h1.elim
  | inf s => rw [e] at h1; exact h1.elim
  | fin s c q => exact ⟨s, c, q, e⟩
theorem dQ.n {k : Nat} {x : UInt64} (h : dQ k x) : fV x ≠ .nan := by
  obtain ⟨⟨c, q, e⟩, -⟩ := h
  rw [e]
  exact FP.Core.Datum.noConfusion
theorem dQ.fin {k : Nat} {x : UInt64} (h : dQ k x) : ∃ s c q, fV x = .fin s c q := by
  obtain ⟨⟨c, q, e⟩, -⟩ := h
  exact ⟨_, c, q, e⟩
theorem dQ.pos {k : Nat} {x : UInt64} (h : dQ k x) : 0 ≤ fZ x := by
  obtain ⟨⟨c, q, e⟩, -⟩ := h
  unfold fZ
  rw [show FP.Core.val64 x = .fin false c q from e]
  exact Int.natCast_nonneg _
theorem dQ.bits {k : Nat} {x : UInt64} (h : dQ k x) : x.toNat < 9223372036854775808 := by
  have h1 := FP.Core.sgn_bits h.n
  obtain ⟨⟨c, q, e⟩, -⟩ := h
  rw [show FP.Core.val64 x = .fin false c q from e] at h1
  have h2 : decide (2 ^ 63 ≤ x.toNat) = false := h1.symm
  have h3 := of_decide_eq_false h2
  omega
theorem dQ.no {k : Nat} {x : UInt64} (h : dQ k x) : vf_n64 x := by
  have h1 := h.bits
  have h2 := (FP.Core.ne_nan x).mp h.n
  unfold vf_n64
  rw [UInt64.le_iff_toNat_le, FP.Core.mask_toNat]
  exact h2
theorem dQ.mono {j k : Nat} {x : UInt64} (h : dQ j x) (hk : j ≤ k) : dQ k x := by
  refine ⟨h.1, Int.le_trans h.2 ?_⟩
  exact Int.mul_le_mul_of_nonneg_right (by omega) (by unfold f1; exact Int.natCast_nonneg _)
theorem f1_pos : 0 < f1 := by
  have := FP.Core.one64_pos
  unfold f1
  omega
/-- rounded from 0 on, not above k -/
theorem dQ_of {x : UInt64} {k A B : Nat} {e : Int} (hk : k ≤ 1000) (hv : fV x = FP.Core.roundRatio FP.Core.b64 false A B e) (hz : fZ x ≤ (k : Int) * f1) : dQ k x := by
  have hs := FP.Core.sgn_roundRatio FP.Core.b64 false A B e
  rcases FP.Core.roundRatio_cases FP.Core.b64 false A B e with ⟨c, q, h⟩ | h
  · exact ⟨⟨c, q, hv.trans h⟩, hz⟩
  · exfalso
    rw [← fK_z k hk] at hz
    obtain ⟨s, c, q, h2⟩ := fK_fin k hk
    have h3 := FP.Core.DFin.zval_lt (a := fK k) ⟨s, c, q, h2⟩
    have h4 : fZ x = ((FP.Core.b64.tails * 2 ^ (FP.Core.b64.exps - 2) : Nat) : Int) := by
      unfold fZ
      rw [show FP.Core.val64 x = .inf false from hv.trans h]
      rfl
    have h5 : fZ (fK k) ≤ ((FP.Core.zmag FP.Core.b64 (FP.Core.val64 (fK k)) : Nat) : Int) := by
      unfold fZ FP.Core.zval FP.Core.signed
      split
      · have := Int.natCast_nonneg (FP.Core.zmag FP.Core.b64 (FP.Core.val64 (fK k)))
        omega
      · exact Int.le_refl _
    omega
theorem dQ_add {a b : UInt64} {j k : Nat} (ha : dQ j a) (hb : dQ k b) (hk : j + k ≤ 1000) : dQ (j + k) (FP.dadd a b) := by
  obtain ⟨⟨c, q, e⟩, za⟩ := id ha
  obtain ⟨⟨d, r, e'⟩, zb⟩ := id hb
  have hv : fV (FP.dadd a b) = FP.Core.round FP.Core.b64 (FP.Core.exactSum (fV a) (fV b)) := FP.Core.val64_dadd a b
  have hz : fZ (FP.dadd a b) ≤ ((j + k : Nat) : Int) * f1 := by
    rw [← fK_z (j + k) hk]
    have h1 : fZ (FP.dadd a b) = FP.Core.zval FP.Core.b64 (FP.Core.round FP.Core.b64 (FP.Core.exactSum (fV a) (fV b))) := congrArg (FP.Core.zval FP.Core.b64) hv
    rw [h1]
    refine FP.Core.sum_le FP.Core.good_b64 ha.fin hb.fin (FP.Core.val64_fits a) (FP.Core.val64_fits b) (FP.Core.val64_fits (fK (j + k))) (fK_n _ hk) ?_
    have h2 := fK_z (j + k) hk
    have h3 : ((j + k : Nat) : Int) * f1 = (j : Int) * f1 + (k : Int) * f1 := by rw [Int.natCast_add, Int.add_mul]
    show fZ a + fZ b ≤ fZ (fK (j + k))
    omega
  rw [e, e'] at hv
  have h0 : FP.Core.exactSum (.fin false c q) (.fin false d r) = .fin (FP.Core.sumSign false false (FP.Core.sumUnits false c q false d r (min q r))) (FP.Core.sumUnits false c q false d r (min q r)).natAbs (min q r) := rfl
  have hs : FP.Core.sumSign false false (FP.Core.sumUnits false c q false d r (min q r)) = false := by
    have h1 : 0 ≤ FP.Core.sumUnits false c q false d r (min q r) := by
      show (0 : Int) ≤ (FP.Core.inUnits c q (min q r) : Int) + (FP.Core.inUnits d r (min q r) : Int)
      omega
    unfold FP.Core.sumSign
    split
    · rfl
    · exact decide_eq_false (by omega)
  rw [h0, hs] at hv
  exact dQ_of hk hv hz
theorem dQ_sub {a b : UInt64} {k : Nat} (ha : dQ k a) (hb : dQ k b) (hle : fZ b ≤ fZ a) (hk : k ≤ 1000) : dQ k (FP.dsub a b) := by
  obtain ⟨⟨c, q, e⟩, za⟩ := id ha
  obtain ⟨⟨d, r, e'⟩, zb⟩ := id hb
  have hv : fV (FP.dsub a b) = FP.Core.round FP.Core.b64 (FP.Core.exactSum (fV a) (FP.Core.negate (fV b))) := FP.Core.val64_dsub a b
  have hn : FP.Core.negate (fV b) = .fin true d r := by rw [e']; rfl
  have fb : FP.Core.fits FP.Core.b64 (FP.Core.negate (fV b)) := FP.Core.negate_fits (FP.Core.val64_fits b)
  have zn : FP.Core.zval FP.Core.b64 (FP.Core.negate (fV b)) = - fZ b := FP.Core.zval_negate _ _
  have hp := hb.pos
  have hz : fZ (FP.dsub a b) ≤ (k : Int) * f1 := by
    rw [← fK_z k hk]
    have h1 : fZ (FP.dsub a b) = FP.Core.zval FP.Core.b64 (FP.Core.round FP.Core.b64 (FP.Core.exactSum (fV a) (FP.Core.negate (fV b)))) := congrArg (FP.Core.zval FP.Core.b64) hv
    rw [h1]
    refine FP.Core.sum_le FP.Core.good_b64 ha.fin ⟨_, _, _, hn⟩ (FP.Core.val64_fits a) fb (FP.Core.val64_fits (fK k)) (fK_n _ hk) ?_
    have h2 := fK_z k hk
    show fZ a + FP.Core.zval FP.Core.b64 (FP.Core.negate (fV b)) ≤ fZ (fK k)
    omega
  have hu := FP.Core.sum_units (f := FP.Core.b64) (s := false) (t := true) (c := c) (d := d) (q := q) (r := r) (by rw [← e]; exact FP.Core.val64_fits a) (by rw [← hn]; exact fb)
  rw [← hn, ← e] at hu
  obtain ⟨sg, n, ex, h1, h2, h3⟩ := hu
  have h3' : FP.Core.signed sg (FP.Core.inUnits n ex FP.Core.b64.qmin) = fZ a - fZ b := by
    rw [h3, zn]
    show fZ a + -fZ b = _
    omega
  have hsg : sg = false := by
    rw [e, hn] at h1
    have h0 : FP.Core.exactSum (.fin false c q) (.fin true d r) = .fin (FP.Core.sumSign false true (FP.Core.sumUnits false c q true d r (min q r))) (FP.Core.sumUnits false c q true d r (min q r)).natAbs (min q r) := rfl
    rw [h0] at h1
    injection h1 with h4 h5 h6
    by_cases q0 : FP.Core.sumUnits false c q true d r (min q r) = 0
    · rw [← h4, q0]
      rfl
    · by_cases q1 : FP.Core.sumUnits false c q true d r (min q r) < 0
      · exfalso
        have h7 : sg = true := by
          rw [← h4]
          unfold FP.Core.sumSign
          rw [if_neg q0]
          exact decide_eq_true q1
        rw [h7] at h3'
        have h8 : 0 < FP.Core.inUnits n ex FP.Core.b64.qmin := by
          unfold FP.Core.inUnits
          exact Nat.mul_pos (by omega) (Nat.two_pow_pos _)
        have h9 : FP.Core.signed true (FP.Core.inUnits n ex FP.Core.b64.qmin) = -(FP.Core.inUnits n ex FP.Core.b64.qmin : Int) := rfl
        omega
      · rw [← h4]
        unfold FP.Core.sumSign
        rw [if_neg q0]
        exact decide_eq_false q1
  subst hsg
  rw [h1] at hv
  exact dQ_of hk hv hz
theorem dQ_mul {a b : UInt64} {j k : Nat} (ha : dQ j a) (hb : dQ k b) (hk : j * k ≤ 1000) : dQ (j * k) (FP.dmul a b) := by
  obtain ⟨⟨c, q, e⟩, za⟩ := id ha
  obtain ⟨⟨d, r, e'⟩, zb⟩ := id hb
  have hv : fV (FP.dmul a b) = FP.Core.round FP.Core.b64 (FP.Core.exactProduct (fV a) (fV b)) := FP.Core.val64_dmul a b
  have hu := FP.Core.product_units (f := FP.Core.b64) (s := false) (t := false) (c := c) (d := d) (q := q) (r := r) (by rw [← e]; exact FP.Core.val64_fits a) (by rw [← e']; exact FP.Core.val64_fits b)
  rw [e, e'] at hv
  rw [hu.1] at hv
  have hz : fZ (FP.dmul a b) ≤ ((j * k : Nat) : Int) * f1 := by
    have h1 : fZ (FP.dmul a b) = FP.Core.zval FP.Core.b64 (FP.Core.round FP.Core.b64 (.fin (false != false) (c * d) (q + r))) := congrArg (FP.Core.zval FP.Core.b64) hv
    rw [h1, ← fK_z (j * k) hk]
    refine FP.Core.zval_round_le FP.Core.good_b64 (FP.Core.val64_fits (fK (j * k))) (fK_n _ hk) (e0 := 2 * FP.Core.b64.qmin) (by decide) hu.2.1 ?_
    rw [hu.2.2]
    have h2 : (2 : Nat) ^ (FP.Core.b64.qmin - 2 * FP.Core.b64.qmin).toNat = FP.Core.one64 := by
      rw [show FP.Core.b64.qmin - 2 * FP.Core.b64.qmin = -FP.Core.b64.qmin by omega]
      exact FP.Core.pow_qmin64
    rw [h2]
    have h3 := fK_z (j * k) hk
    have za' : ((FP.Core.zmag FP.Core.b64 (.fin false c q) : Nat) : Int) ≤ (j : Int) * f1 := by
      have h4 : fZ a = ((FP.Core.zmag FP.Core.b64 (.fin false c q) : Nat) : Int) := by unfold fZ; rw [show FP.Core.val64 a = .fin false c q from e]; rfl
      omega
    have zb' : ((FP.Core.zmag FP.Core.b64 (.fin false d r) : Nat) : Int) ≤ (k : Int) * f1 := by
      have h4 : fZ b = ((FP.Core.zmag FP.Core.b64 (.fin false d r) : Nat) : Int) := by unfold fZ; rw [show FP.Core.val64 b = .fin false d r from e']; rfl
      omega
    show ((FP.Core.zmag FP.Core.b64 (.fin false c q) * FP.Core.zmag FP.Core.b64 (.fin false d r) : Nat) : Int) ≤ fZ (fK (j * k)) * f1
    rw [h3, Int.natCast_mul]
    have h5 := Int.mul_le_mul za' zb' (Int.natCast_nonneg _) (Int.mul_nonneg (Int.natCast_nonneg _) (Int.le_of_lt f1_pos))
    have h6 : (j : Int) * f1 * ((k : Int) * f1) = ((j * k : Nat) : Int) * f1 * f1 := by
      rw [Int.natCast_mul, Int.mul_assoc (j : Int) f1, Int.mul_left_comm f1 (k : Int), ← Int.mul_assoc, ← Int.mul_assoc]
    rw [h6] at h5
    exact h5
  have hr : fV (FP.dmul a b) = FP.Core.roundRatio FP.Core.b64 false (c * d) 1 (q + r) := hv
  exact dQ_of hk hr hz
theorem d36_v : fV d36 = .fin false 5066549580791808 (-47) := by decide +kernel
theorem dQ_div {a : UInt64} (ha : dQ 36 a) : dQ 1 (FP.ddiv a d36) := by
  obtain ⟨⟨c, q, e⟩, za⟩ := id ha
  have hv : fV (FP.ddiv a d36) = FP.Core.quotient FP.Core.b64 (fV a) (fV d36) := FP.Core.val64_ddiv a d36
  rw [e, d36_v] at hv
  have h0 : FP.Core.quotient FP.Core.b64 (.fin false c q) (.fin false 5066549580791808 (-47)) = FP.Core.roundRatio FP.Core.b64 false c 5066549580791808 (q - (-47)) := rfl
  rw [h0] at hv
  have hq : FP.Core.b64.qmin ≤ q := by
    have h1 := FP.Core.val64_fits a
    rw [show FP.Core.val64 a = .fin false c q from e] at h1
    exact h1.2.1
  have hz : fZ (FP.ddiv a d36) ≤ ((1 : Nat) : Int) * f1 := by
    have h1 : FP.Core.zmag FP.Core.b64 (fV (FP.ddiv a d36)) ≤ FP.Core.zmag FP.Core.b64 (fV (fK 1)) := by
      rw [hv]
      refine FP.Core.zmag_roundRatio_le FP.Core.good_b64 (by decide) (FP.Core.val64_fits (fK 1)) (fK_n 1 (by decide)) (e0 := FP.Core.b64.qmin) (Int.le_refl _) (by omega) ?_
      have h2 : FP.Core.zmag FP.Core.b64 (fV (fK 1)) = FP.Core.one64 := by
        have h3 := fK_z 1 (by decide)
        obtain ⟨s, c', q', h4⟩ := fK_fin 1 (by decide)
        have h5 := FP.Core.one64_pos
        unfold fZ FP.Core.zval FP.Core.signed f1 at h3
        split at h3
        · have := Int.natCast_nonneg (FP.Core.zmag FP.Core.b64 (FP.Core.val64 (fK 1)))
          omega
        · unfold fV
          omega
      rw [h2, Int.sub_self, show (0 : Int).toNat = 0 from rfl, Nat.pow_zero, Nat.mul_one]
      have h6 : (FP.Core.inUnits c q FP.Core.b64.qmin : Int) ≤ 36 * f1 := by
        have h7 : fZ a = ((FP.Core.zmag FP.Core.b64 (.fin false c q) : Nat) : Int) := by unfold fZ; rw [show FP.Core.val64 a = .fin false c q from e]; rfl
        have h8 : FP.Core.zmag FP.Core.b64 (.fin false c q) = FP.Core.inUnits c q FP.Core.b64.qmin := rfl
        rw [h8] at h7
        have h9 : ((36 : Nat) : Int) = 36 := rfl
        rw [h9] at za
        omega
      have h10 : FP.Core.inUnits c (q - -47) FP.Core.b64.qmin = FP.Core.inUnits c q FP.Core.b64.qmin * 140737488355328 := by
        unfold FP.Core.inUnits
        rw [show (q - -47 - FP.Core.b64.qmin).toNat = (q - FP.Core.b64.qmin).toNat + 47 by omega, Nat.pow_add, ← Nat.mul_assoc]
      rw [h10]
      unfold f1 at h6
      omega
    have h3 := fK_z 1 (by decide)
    have h4 : fZ (FP.ddiv a d36) ≤ ((FP.Core.zmag FP.Core.b64 (fV (FP.ddiv a d36)) : Nat) : Int) := by
      unfold fZ FP.Core.zval FP.Core.signed
      split
      · have := Int.natCast_nonneg (FP.Core.zmag FP.Core.b64 (FP.Core.val64 (FP.ddiv a d36)))
        show _ ≤ ((FP.Core.zmag FP.Core.b64 (FP.Core.val64 (FP.ddiv a d36)) : Nat) : Int)
        omega
      · exact Int.le_refl _
    have h5 : ((FP.Core.zmag FP.Core.b64 (fV (fK 1)) : Nat) : Int) = f1 := by
      obtain ⟨s, c', q', h6⟩ := fK_fin 1 (by decide)
      have h7 := FP.Core.one64_pos
      unfold fZ FP.Core.zval FP.Core.signed f1 at h3
      split at h3
      · have := Int.natCast_nonneg (FP.Core.zmag FP.Core.b64 (FP.Core.val64 (fK 1)))
        omega
      · unfold fV f1
        omega
    omega
  exact dQ_of (by decide) hv hz
theorem d1_v : fV FP.dconst1 = .fin false 4503599627370496 (-52) := by decide +kernel
theorem d2_v : fV d2p = .fin false 4503599627370496 (-51) := by decide +kernel
theorem dQ_0 : dQ 0 FP.dconst0 := by
  refine ⟨⟨0, FP.Core.b64.qmin, by decide +kernel⟩, ?_⟩
  have h : fZ FP.dconst0 = 0 := FP.Core.zval64_zero
  rw [h]
  omega
theorem dQ_1 : dQ 1 FP.dconst1 := by
  refine ⟨⟨_, _, d1_v⟩, ?_⟩
  have h : fZ FP.dconst1 = 1 * f1 := FP.Core.DInt_zval FP.Core.dint_one
  rw [h]
  exact Int.le_refl _
theorem z1 : fZ FP.dconst1 = f1 := by
  have h : fZ FP.dconst1 = 1 * f1 := FP.Core.DInt_zval FP.Core.dint_one
  rw [h, Int.one_mul]
theorem dQ_2 : dQ 2 d2p := by
  refine ⟨⟨_, _, d2_v⟩, ?_⟩
  have h1 := fK_z 2 (by decide)
  have h2 : fK 2 = d2p := by decide +kernel
  rw [h2] at h1
  rw [h1]
  exact Int.le_refl _
theorem dQ_1m {x : UInt64} (h : dQ 1 x) : dQ 1 (FP.dsub FP.dconst1 x) := dQ_sub dQ_1 h (by rw [z1]; have := h.2; rw [show ((1 : Nat) : Int) = 1 from rfl, Int.one_mul] at this; exact this) (by decide)
theorem dQ_x1 {k : Nat} {x : UInt64} (h : dQ k x) : FP.dmul x FP.dconst1 = x := FP.Core.dmul_one h.n
theorem dQ_x2 {x : UInt64} (h : dQ 1 x) : dQ 2 (FP.dmul x d2p) := by
  have h1 := dQ_mul h dQ_2 (by decide)
  rw [show 1 * 2 = 2 from rfl] at h1
  exact h1

theorem fK_rg (k : Nat) (h : k ≤ 36) : (fK k).toNat ≤ 4630263366890291200 := by
  have h1 := fK_mono ⟨k, by omega⟩ ⟨36, by omega⟩ h
  rw [show fK ((⟨36, by omega⟩ : Fin 37) : Nat) = d36 from fK_36, show d36.toNat = 4630263366890291200 by decide +kernel] at h1
  exact h1
theorem dB_n {k : Nat} {x : UInt64} (hk : k ≤ 36) (h : dB k x) : x.toNat < 2 ^ 63 ∧ FP.Core.DFin x := by
  have h1 := fK_rg k hk
  have h2 : x.toNat ≤ (fK k).toNat := h
  refine ⟨by omega, (FP.Core.fin_bits x).mpr ?_⟩
  omega
theorem dB_cmp {x y : UInt64} (hx : dB 36 x) (hy : dB 36 y) : FP.dcmp x y = some (compare (bI x) (bI y)) := by
  obtain ⟨h1, h2⟩ := dB_n (by decide) hx
  obtain ⟨h3, h4⟩ := dB_n (by decide) hy
  have h5 := FP.Core.dcmp_key h2.ne_nan h4.ne_nan
  have h6 : FP.Core.dkey x = bI x := by unfold FP.Core.dkey bI; rw [if_neg (by omega)]
  have h7 : FP.Core.dkey y = bI y := by unfold FP.Core.dkey bI; rw [if_neg (by omega)]
  rw [h6, h7] at h5
  exact h5
theorem dQ_of_dB {k : Nat} {x : UInt64} (hk : k ≤ 36) (h : dB k x) : dQ k x := by
  obtain ⟨h1, h2⟩ := dB_n hk h
  obtain ⟨s, c, q, e⟩ := id h2
  have h3 := FP.Core.sgn_bits h2.ne_nan
  rw [e] at h3
  have h4 : s = decide (2 ^ 63 ≤ x.toNat) := h3
  rw [decide_eq_false (by omega)] at h4
  subst h4
  refine ⟨⟨c, q, e⟩, ?_⟩
  rw [← fK_z k (by omega)]
  have hk2 : dB k (fK k) := Nat.le_refl _
  obtain ⟨h5, h6⟩ := dB_n hk hk2
  have h7 := FP.Core.mono_bits h2.ne_nan h6.ne_nan h1 h5
  have h8 : x.toNat ≤ (fK k).toNat := h
  exact (FP.Core.dcmp_le.mp (by
    by_cases q : x.toNat < (fK k).toNat
    · exact Or.inl (h7.1.mpr q)
    · exact Or.inr (h7.2.1.mpr (by omega)))).2.2
theorem dB_of_dQ {k : Nat} {x : UInt64} (hk : k ≤ 36) (h : dQ k x) : dB k x := by
  have h1 := h.bits
  have hk2 : dB k (fK k) := Nat.le_refl _
  obtain ⟨h5, h6⟩ := dB_n hk hk2
  have h7 := FP.Core.mono_bits h.n h6.ne_nan (by omega) h5
  have h8 : fZ x ≤ fZ (fK k) := by rw [fK_z k (by omega)]; exact h.2
  have h9 := FP.Core.dcmp_le.mpr ⟨h.n, h6.ne_nan, h8⟩
  show x.toNat ≤ (fK k).toNat
  rcases h9 with q | q
  · have := h7.1.mp q; omega
  · have := h7.2.1.mp q; omega
theorem n64_iff (x : UInt64) : vf_n64 x ↔ FP.Core.dIsNaN x = false := by
  unfold vf_n64
  rw [UInt64.le_iff_toNat_le, FP.Core.mask_toNat, FP.Core.notNaN_iff, FP.Core.ne_nan]
  exact Iff.rfl
theorem n32_of {x : UInt32} (h : FP.Core.fIsNaN x = false) : vf_n32 x := by
  have h1 := (FP.Core.ne_nan32 x).mp ((FP.Core.notNaN_iff32 x).mp h)
  unfold vf_n32
  rw [UInt32.le_iff_toNat_le, FP.Core.mask_toNat32]
  exact h1
theorem zI_ne {b : Int} (h : 0 < b) (h2 : b < 2147483648) : zI b ≠ 0 := by
  intro h3
  have h4 := congrArg Int32.toInt h3
  unfold zI at h4
  rw [Int32.toInt_ofInt_of_le (by omega) (by omega)] at h4
  have h5 : (0 : Int32).toInt = 0 := rfl
  omega
theorem fpl : FPL := by
  refine ⟨fun x y => dB_cmp, fun j k x y hx hy hjk => ?_, fun x hx => ?_, fun x hx => ?_, fun x hx => ?_, fun x hx => ?_, fun a b _ _ hb hb2 => ?_, fun a b hb hb2 => ?_, fun x hx => ?_⟩
  · exact dB_of_dQ hjk (dQ_add (dQ_of_dB (by omega) hx) (dQ_of_dB (by omega) hy) (by omega))
  · exact dB_of_dQ (by decide) (dQ_1m (dQ_of_dB (by decide) hx))
  · exact dQ_x1 (dQ_of_dB (by decide) hx)
  · exact dB_of_dQ (by decide) (dQ_x2 (dQ_of_dB (by decide) hx))
  · exact dB_of_dQ (by decide) (dQ_div (dQ_of_dB (by decide) hx))
  · have h0 := FP.Core.i2f_ne_zero (zI_ne hb hb2)
    have h1 : FP.Core.fIsNaN (FP.fdiv (FP.i2f (zI a)) (FP.i2f (zI b))) = false := FP.Core.fdiv_out (FP.Core.FFin.notNaN (FP.Core.i2f_fin _)) (FP.Core.i2f_fin _) (fun h9 => h0 ((FP.Core.zero_bits232 _).mp h9))
    refine ⟨n32_of h1, (n64_iff _).mpr ?_⟩
    exact (FP.f2d_nan _).trans h1
  · have h0 := FP.Core.i2d_ne_zero (zI_ne hb hb2)
    exact (n64_iff _).mpr (FP.Core.ddiv_out (FP.Core.DFin.notNaN (FP.Core.l2d_fin _)) (FP.Core.i2d_fin _) (fun h9 => h0 ((FP.Core.zero_bits2 _).mp h9)))
  · exact FP.Core.dcmp_refl ((n64_iff x).mp hx)

/-- bits in the order of the numbers, from 0 on -/
theorem dQ_le {j k : Nat} {x y : UInt64} (hx : dQ j x) (hy : dQ k y) (h : fZ x ≤ fZ y) : x.toNat ≤ y.toNat := by
  have h1 := hx.bits
  have h2 := hy.bits
  have h7 := FP.Core.mono_bits hx.n hy.n (by omega) (by omega)
  have h9 := FP.Core.dcmp_le.mpr ⟨hx.n, hy.n, h⟩
  rcases h9 with q | q
  · have := h7.1.mp q; omega
  · have := h7.2.1.mp q; omega
theorem fm_add {x : UInt64} (hx : dQ 35 x) : (fK 1).toNat ≤ (FP.dadd x FP.dconst1).toNat := by
  have hr := dQ_add hx dQ_1 (by decide)
  have h1 : fZ (FP.dadd x FP.dconst1) = FP.Core.zval FP.Core.b64 (FP.Core.round FP.Core.b64 (FP.Core.exactSum (fV x) (fV FP.dconst1))) := congrArg (FP.Core.zval FP.Core.b64) (FP.Core.val64_dadd x FP.dconst1)
  have hz : fZ FP.dconst1 ≤ fZ (FP.dadd x FP.dconst1) := by
    rw [h1]
    refine FP.Core.sum_ge FP.Core.good_b64 hx.fin dQ_1.fin (FP.Core.val64_fits x) (FP.Core.val64_fits _) (FP.Core.val64_fits FP.dconst1) dQ_1.n ?_
    have h3 := hx.pos
    show fZ FP.dconst1 ≤ fZ x + fZ FP.dconst1
    omega
  rw [fK_1]
  exact dQ_le dQ_1 hr hz
/-- one of sixty-four parts -/
def dsm : UInt64 := 4580160821035794432
theorem dsm_v : fV dsm = .fin false 4503599627370496 (-58) := by decide +kernel
theorem dsm_z : 64 * FP.Core.zmag FP.Core.b64 (fV dsm) = FP.Core.one64 := by decide +kernel
theorem fm_div {y : UInt64} (hy : dQ 36 y) (h1 : (fK 1).toNat ≤ y.toNat) : 0 < (FP.ddiv y d36).toNat := by
  obtain ⟨⟨c, q, e⟩, za⟩ := id hy
  have hv : fV (FP.ddiv y d36) = FP.Core.quotient FP.Core.b64 (fV y) (fV d36) := FP.Core.val64_ddiv y d36
  rw [e, d36_v] at hv
  have h0 : FP.Core.quotient FP.Core.b64 (.fin false c q) (.fin false 5066549580791808 (-47)) = FP.Core.roundRatio FP.Core.b64 false c 5066549580791808 (q - (-47)) := rfl
  rw [h0] at hv
  have hq : FP.Core.b64.qmin ≤ q := by
    have h1 := FP.Core.val64_fits y
    rw [show FP.Core.val64 y = .fin false c q from e] at h1
    exact h1.2.1
  have hz1 : f1 ≤ fZ y := by
    rw [← z1]
    have h2 := dQ_1.bits
    have h3 := hy.bits
    rw [fK_1] at h1
    have h7 := FP.Core.mono_bits dQ_1.n hy.n (by omega) (by omega)
    exact (FP.Core.dcmp_le.mp (by
      by_cases q : FP.dconst1.toNat < y.toNat
      · exact Or.inl (h7.1.mpr q)
      · exact Or.inr (h7.2.1.mpr (by omega)))).2.2
  have hy2 : fZ y = ((FP.Core.inUnits c q FP.Core.b64.qmin : Nat) : Int) := by unfold fZ; rw [show FP.Core.val64 y = .fin false c q from e]; rfl
  have hge : FP.Core.zmag FP.Core.b64 (fV dsm) ≤ FP.Core.zmag FP.Core.b64 (fV (FP.ddiv y d36)) := by
    rw [hv]
    refine FP.Core.zmag_roundRatio_ge FP.Core.good_b64 (by decide) (FP.Core.val64_fits dsm) (e0 := FP.Core.b64.qmin) (Int.le_refl _) (by omega) ?_
    rw [Int.sub_self, show (0 : Int).toNat = 0 from rfl, Nat.pow_zero, Nat.mul_one]
    have h10 : FP.Core.inUnits c (q - -47) FP.Core.b64.qmin = FP.Core.inUnits c q FP.Core.b64.qmin * 140737488355328 := by
      unfold FP.Core.inUnits
      rw [show (q - -47 - FP.Core.b64.qmin).toNat = (q - FP.Core.b64.qmin).toNat + 47 by omega, Nat.pow_add, ← Nat.mul_assoc]
    rw [h10]
    have h11 := dsm_z
    unfold f1 at hz1
    show FP.Core.zmag FP.Core.b64 (fV dsm) * 5066549580791808 ≤ _
    generalize FP.Core.zmag FP.Core.b64 (fV dsm) = w1 at h11 ⊢
    generalize FP.Core.inUnits c q FP.Core.b64.qmin = w2 at hy2 ⊢
    generalize FP.Core.one64 = w3 at h11 hz1
    omega
  have hp := FP.Core.one64_pos
  have h11 := dsm_z
  by_cases h : (FP.ddiv y d36).toNat = 0
  · exfalso
    have h12 : FP.ddiv y d36 = FP.dconst0 := UInt64.toNat.inj (by rw [h]; rfl)
    rw [h12] at hge
    have h13 : FP.Core.zmag FP.Core.b64 (fV FP.dconst0) = 0 := by decide +kernel
    omega
  · omega
theorem fpm : FPM := ⟨fun x hx => fm_add (dQ_of_dB (by decide) hx), fun y hy h1 => fm_div (dQ_of_dB (by decide) hy) h1⟩
theorem i_vc : Claimed_1_1 ∧ Claimed_1_2 := i_vc_of fpl fpm
