/-! DICE UNLIKE: the reference's plays are the class's -/
/-- sums of fives -/
def f5 (e : Int → Int) : Nat → Int
  | 0 => 0
  | n + 1 => f5 e n + e n * p5 n
theorem f5_s (e : Int → Int) : ∀ n : Nat, f5 e (n + 1) = e 0 + 5 * f5 (fun k => e (k + 1)) n
  | 0 => by
    rw [f5, f5, f5]
    show 0 + e ((0 : Nat) : Int) * p5 ((0 : Nat) : Int) = e 0 + 5 * 0
    rw [show p5 ((0 : Nat) : Int) = 1 from rfl]
    show 0 + e 0 * 1 = _
    omega
  | n + 1 => by
    have e9 : p5 ((n + 1 : Nat) : Int) = 5 * p5 (n : Int) := by rw [p5_s (by omega), show ((n + 1 : Nat) : Int) = (n : Int) + 1 by omega]
    rw [f5, f5_s e n, f5, e9]
    show e 0 + 5 * f5 (fun k => e (k + 1)) n + e ((n + 1 : Nat) : Int) * (5 * p5 (n : Int)) = e 0 + 5 * (f5 (fun k => e (k + 1)) n + e ((n : Int) + 1) * p5 (n : Int))
    rw [show ((n + 1 : Nat) : Int) = (n : Int) + 1 by omega, Int.mul_left_comm]
    omega
theorem f5_0 : ∀ (n : Nat) (e : Int → Int), (∀ k, -4 ≤ e k ∧ e k ≤ 4) → f5 e n = 0 → ∀ k : Int, 0 ≤ k → k < n → e k = 0
  | 0, e, _, _, k, h0, h1 => by omega
  | n + 1, e, hb, h, k, h0, h1 => by
    rw [f5_s] at h
    have h2 := hb 0
    have h3 : e 0 = 0 := by omega
    by_cases q : k = 0
    · rw [q]; exact h3
    · have h4 := f5_0 n (fun k => e (k + 1)) (fun k => hb _) (by omega) (k - 1) (by omega) (by omega)
      have h5 : e (k - 1 + 1) = 0 := h4
      rwa [show k - 1 + 1 = k by omega] at h5
theorem f5_sub (e e' : Int → Int) : ∀ n : Nat, f5 (fun k => e k - e' k) n = f5 e n - f5 e' n
  | 0 => rfl
  | n + 1 => by
    rw [f5, f5, f5, f5_sub e e' n]
    show _ + (e (n : Int) - e' (n : Int)) * _ = _
    rw [Int.sub_mul]
    omega
theorem f5_add (e e' : Int → Int) : ∀ n : Nat, f5 (fun k => e k + e' k) n = f5 e n + f5 e' n
  | 0 => rfl
  | n + 1 => by
    rw [f5, f5, f5, f5_add e e' n]
    show _ + (e (n : Int) + e' (n : Int)) * _ = _
    rw [Int.add_mul]
    omega
theorem f5_one {a : Int} : ∀ {n : Nat}, 0 ≤ a → f5 (fun k => if k = a then 1 else 0) n = if a < n then p5 a else 0
  | 0, h => by rw [f5, if_neg (by omega)]
  | n + 1, h => by
    rw [f5, f5_one h]
    show _ + (if (n : Int) = a then 1 else 0) * p5 (n : Int) = _
    by_cases q : (n : Int) = a
    · rw [if_pos q, if_neg (by omega), if_pos (by omega), q]; omega
    · rw [if_neg q]
      by_cases q2 : a < (n : Int)
      · rw [if_pos q2, if_pos (by omega)]; omega
      · rw [if_neg q2, if_neg (by omega)]; omega
/-- what a move changes of the side's own men -/
def dl1 (q : Int × Int) (p : Int) : Int := (if p = toP q.1 q.2 then 1 else 0) - (if p = q.1 then 1 else 0)
theorem dl1_k {q : Int × Int} (h : 1 ≤ q.1 ∧ q.1 ≤ 25) (hd : 1 ≤ q.2) : f5 (dl1 q) 26 = p5 (toP q.1 q.2) - p5 q.1 := by
  have ht := toP_rg (fr := q.1) (d := q.2) (by omega)
  have e : dl1 q = fun k => (if k = toP q.1 q.2 then 1 else 0) - (if k = q.1 then 1 else 0) := rfl
  rw [e, f5_sub (fun k => if k = toP q.1 q.2 then 1 else 0) (fun k => if k = q.1 then 1 else 0), f5_one ht.1, f5_one (by omega), if_pos (by omega), if_pos (by omega)]
theorem dl1_rg (q : Int × Int) (p : Int) : -1 ≤ dl1 q p ∧ dl1 q p ≤ 1 := by unfold dl1; split <;> split <;> omega
section PAIRS
variable {n0 sd : Int} {b : Int → Int}
theorem po2_own (hs : 0 ≤ sd ∧ sd ≤ 1) {q w : Int × Int} (h : lgR sd b [q, w]) {p : Int} (hp : 0 ≤ p ∧ p ≤ 25) : poR sd b [q, w] (26 * sd + p) = b (26 * sd + p) + (dl1 q p + dl1 w p) := by
  have r1 := h.1.rg
  have r2 := h.2.2.1.rg
  show stp (stp b sd q.1 q.2) sd w.1 w.2 _ = _
  rw [stp_own hs r2 h.2.2.2.1.1 hp, stp_own hs r1 h.2.1.1 hp]
  unfold dl1
  omega
/-- the points where a row of two hits -/
def hp2 (sd : Int) (b : Int → Int) (q w : Int × Int) (t : Int) : Int := (if hwB b sd q.1 q.2 ≠ 0 ∧ t = q.1 - q.2 then 1 else 0) + (if hwB (stp b sd q.1 q.2) sd w.1 w.2 ≠ 0 ∧ t = w.1 - w.2 then 1 else 0)
theorem hw_iff {b : Int → Int} {sd x d : Int} : hwB b sd x d ≠ 0 ↔ (d < x ∧ b (26 * (1 - sd) + (25 - (x - d))) ≠ 0) := by
  rcases hwB_cs b sd x d with h | h
  · exact ⟨fun _ => h.1, fun _ => by omega⟩
  · exact ⟨fun h9 => absurd h.2 h9, fun h9 => absurd h9 h.1⟩
theorem po2_opp (hs : 0 ≤ sd ∧ sd ≤ 1) {q w : Int × Int} (h : lgR sd b [q, w]) {t : Int} (ht : 1 ≤ t ∧ t ≤ 25) : poR sd b [q, w] (26 * (1 - sd) + (25 - t)) = b (26 * (1 - sd) + (25 - t)) - hp2 sd b q w t := by
  have r1 := h.1.rg
  have r2 := h.2.2.1.rg
  have d1 := h.2.1
  have d2 := h.2.2.2.1
  show stp (stp b sd q.1 q.2) sd w.1 w.2 _ = _
  rw [stp_opp hs r2 d2.1 (by omega), stp_opp hs r1 d1.1 (by omega)]
  unfold hp2
  have e1 := hw_iff (b := b) (sd := sd) (x := q.1) (d := q.2)
  have e2 := hw_iff (b := stp b sd q.1 q.2) (sd := sd) (x := w.1) (d := w.2)
  by_cases c1 : hwB b sd q.1 q.2 ≠ 0
  · by_cases c2 : hwB (stp b sd q.1 q.2) sd w.1 w.2 ≠ 0
    · rw [if_pos (e1.mp c1), if_pos (e2.mp c2)]
      have := (e1.mp c1).1
      have := (e2.mp c2).1
      split <;> split <;> split <;> split <;> omega
    · rw [if_pos (e1.mp c1), if_neg (fun h9 => c2 (e2.mpr h9))]
      have := (e1.mp c1).1
      split <;> split <;> split <;> split <;> omega
  · by_cases c2 : hwB (stp b sd q.1 q.2) sd w.1 w.2 ≠ 0
    · rw [if_neg (fun h9 => c1 (e1.mpr h9)), if_pos (e2.mp c2)]
      have := (e2.mp c2).1
      split <;> split <;> split <;> split <;> omega
    · rw [if_neg (fun h9 => c1 (e1.mpr h9)), if_neg (fun h9 => c2 (e2.mpr h9))]
      split <;> split <;> omega
theorem po2_bar (hs : 0 ≤ sd ∧ sd ≤ 1) {q w : Int × Int} (h : lgR sd b [q, w]) : poR sd b [q, w] (26 * (1 - sd) + 25) = b (26 * (1 - sd) + 25) + ((if hwB b sd q.1 q.2 ≠ 0 then 1 else 0) + (if hwB (stp b sd q.1 q.2) sd w.1 w.2 ≠ 0 then 1 else 0)) := by
  have r1 := h.1.rg
  have r2 := h.2.2.1.rg
  have d1 := h.2.1
  have d2 := h.2.2.2.1
  show stp (stp b sd q.1 q.2) sd w.1 w.2 _ = _
  rw [stp_opp hs r2 d2.1 (by omega), stp_opp hs r1 d1.1 (by omega)]
  have e1 := hw_iff (b := b) (sd := sd) (x := q.1) (d := q.2)
  have e2 := hw_iff (b := stp b sd q.1 q.2) (sd := sd) (x := w.1) (d := w.2)
  by_cases c1 : hwB b sd q.1 q.2 ≠ 0
  · have := (e1.mp c1).1
    rw [if_pos (e1.mp c1), if_pos c1]
    by_cases c2 : hwB (stp b sd q.1 q.2) sd w.1 w.2 ≠ 0
    · have := (e2.mp c2).1
      rw [if_pos (e2.mp c2), if_pos c2]
      split <;> split <;> omega
    · rw [if_neg (fun h9 => c2 (e2.mpr h9)), if_neg c2]
      split <;> omega
  · rw [if_neg (fun h9 => c1 (e1.mpr h9)), if_neg c1]
    by_cases c2 : hwB (stp b sd q.1 q.2) sd w.1 w.2 ≠ 0
    · have := (e2.mp c2).1
      rw [if_pos (e2.mp c2), if_pos c2]
      split <;> omega
    · rw [if_neg (fun h9 => c2 (e2.mpr h9)), if_neg c2]
      omega
/-- two hits are at two points -/
theorem hp2_two (hv : VB n0 b) (hs : 0 ≤ sd ∧ sd ≤ 1) {q w : Int × Int} (h : lgR sd b [q, w]) (h1 : hwB b sd q.1 q.2 ≠ 0) (h2 : hwB (stp b sd q.1 q.2) sd w.1 w.2 ≠ 0) : q.1 - q.2 ≠ w.1 - w.2 := by
  intro h3
  have r1 := h.1.rg
  have r2 := h.2.2.1.rg
  have d1 := h.2.1
  have d2 := h.2.2.2.1
  have e1 := hw_iff.mp h1
  have e2 := hw_iff.mp h2
  rw [← h3, stp_opp hs r1 d1.1 (by omega), if_pos e1, if_pos rfl, if_neg (by omega)] at e2
  have h4 := h.1.2.2.2.2
  have h5 := hv.1 (26 * (1 - sd) + (25 - (q.1 - q.2)))
  omega
theorem hp2_01 (hv : VB n0 b) (hs : 0 ≤ sd ∧ sd ≤ 1) {q w : Int × Int} (h : lgR sd b [q, w]) (t : Int) : 0 ≤ hp2 sd b q w t ∧ hp2 sd b q w t ≤ 1 := by
  unfold hp2
  split
  · next c1 =>
    split
    · next c2 => have := hp2_two hv hs h c1.1 c2.1; omega
    · omega
  · split <;> omega
theorem kpt_bit (hs : 0 ≤ sd ∧ sd ≤ 1) {q w : Int × Int} (h : lgR sd b [q, w]) (t : Nat) : (kpt sd b [q, w]).toNat.testBit t = true ↔ ((hwB b sd q.1 q.2 ≠ 0 ∧ (t : Int) = q.1 - q.2) ∨ (hwB (stp b sd q.1 q.2) sd w.1 w.2 ≠ 0 ∧ (t : Int) = w.1 - w.2)) := by
  have e1 := hw_iff (b := b) (sd := sd) (x := q.1) (d := q.2)
  have e2 := hw_iff (b := stp b sd q.1 q.2) (sd := sd) (x := w.1) (d := w.2)
  have hb1 : ∀ (c : Int → Int) (z : Int × Int), (hpZ c sd z.1 z.2).toNat.testBit t = true ↔ (hwB c sd z.1 z.2 ≠ 0 ∧ t = (z.1 - z.2).toNat) := by
    intro c z
    unfold hpZ
    split
    · next h9 =>
      rw [show (0 : Int).toNat = 0 from rfl, Nat.zero_testBit]
      exact ⟨fun h8 => absurd h8 (by decide), fun h8 => absurd h9 h8.1⟩
    · next h9 =>
      rw [Int.toNat_natCast, Nat.testBit_two_pow, decide_eq_true_iff]
      exact ⟨fun h8 => ⟨h9, h8.symm⟩, fun h8 => h8.2.symm⟩
  have hk : (kpt sd b [q, w]).toNat = (hpZ b sd q.1 q.2).toNat ||| (hpZ (stp b sd q.1 q.2) sd w.1 w.2).toNat := by
    show (orZ (hpZ b sd q.1 q.2) (orZ (hpZ (stp b sd q.1 q.2) sd w.1 w.2) 0)).toNat = _
    unfold orZ
    rw [Int.toNat_natCast, Int.toNat_natCast, show (0 : Int).toNat = 0 from rfl, Nat.or_zero]
  rw [hk, Nat.testBit_or, Bool.or_eq_true, hb1 b q, hb1 (stp b sd q.1 q.2) w]
  constructor
  · rintro (h9 | h9)
    · have := (e1.mp h9.1).1
      exact Or.inl ⟨h9.1, by omega⟩
    · have := (e2.mp h9.1).1
      exact Or.inr ⟨h9.1, by omega⟩
  · rintro (h9 | h9)
    · exact Or.inl ⟨h9.1, by omega⟩
    · exact Or.inr ⟨h9.1, by omega⟩
theorem kpt_nn (q w : Int × Int) : 0 ≤ kpt sd b [q, w] := Int.natCast_nonneg _
theorem hp2_iff (hv : VB n0 b) (hs : 0 ≤ sd ∧ sd ≤ 1) {q w : Int × Int} (h : lgR sd b [q, w]) (t : Nat) : hp2 sd b q w t = 1 ↔ (kpt sd b [q, w]).toNat.testBit t = true := by
  rw [kpt_bit hs h t]
  have h1 := hp2_01 hv hs h (t : Int)
  unfold hp2 at h1 ⊢
  split
  · next c1 =>
    rw [if_pos c1] at h1
    exact ⟨fun _ => Or.inl c1, fun _ => by split at h1 <;> split <;> omega⟩
  · next c1 =>
    split
    · next c2 => exact ⟨fun _ => Or.inr c2, fun _ => rfl⟩
    · next c2 => exact ⟨fun h9 => by omega, fun h9 => by rcases h9 with h9 | h9; exact absurd h9 c1; exact absurd h9 c2⟩
theorem kch2 {q w : Int × Int} (h : lgR sd b [q, w]) : kch [q, w] = f5 (fun k => dl1 q k + dl1 w k) 26 := by
  rw [f5_add, dl1_k h.1.rg h.2.1.1, dl1_k h.2.2.1.rg h.2.2.2.1.1]
  show _ + (_ + 0) = _
  omega
/-- the class's keys of two rows of two are the same just when they lead to one position -/
theorem key2 (hv : VB n0 b) (hs : 0 ≤ sd ∧ sd ≤ 1) {q w q' w' : Int × Int} (h : lgR sd b [q, w]) (h' : lgR sd b [q', w']) : (kch [q, w] = kch [q', w'] ∧ kpt sd b [q, w] = kpt sd b [q', w']) ↔ eq52 (poR sd b [q, w]) (poR sd b [q', w']) = true := by
  constructor
  · rintro ⟨k1, k2⟩
    have hown : ∀ p : Int, 0 ≤ p → p < 26 → (dl1 q p + dl1 w p) - (dl1 q' p + dl1 w' p) = 0 := by
      have h1 := f5_0 26 (fun p => (dl1 q p + dl1 w p) - (dl1 q' p + dl1 w' p)) (fun k => by
        have a1 := dl1_rg q k
        have a2 := dl1_rg w k
        have a3 := dl1_rg q' k
        have a4 := dl1_rg w' k
        show -4 ≤ (dl1 q k + dl1 w k) - (dl1 q' k + dl1 w' k) ∧ _
        omega) (by rw [f5_sub (fun k => dl1 q k + dl1 w k) (fun k => dl1 q' k + dl1 w' k), ← kch2 h, ← kch2 h', k1]; omega)
      exact h1
    have hhit : ∀ t : Int, 1 ≤ t → hp2 sd b q w t = hp2 sd b q' w' t := by
      intro t ht
      have a1 := hp2_01 hv hs h t
      have a2 := hp2_01 hv hs h' t
      have a3 := hp2_iff hv hs h t.toNat
      have a4 := hp2_iff hv hs h' t.toNat
      rw [Int.toNat_of_nonneg (by omega)] at a3 a4
      rw [k2] at a3
      have a5 := a3.trans a4.symm
      by_cases c : hp2 sd b q w t = 1
      · rw [c, a5.mp c]
      · have c2 : ¬ hp2 sd b q' w' t = 1 := fun h9 => c (a5.mpr h9)
        omega
    have hv1 := lgR_VB hs h hv
    have hv2 := lgR_VB hs h' hv
    have hop : ∀ t : Int, 1 ≤ t → t ≤ 25 → poR sd b [q, w] (26 * (1 - sd) + (25 - t)) = poR sd b [q', w'] (26 * (1 - sd) + (25 - t)) := fun t t1 t2 => by
      rw [po2_opp hs h ⟨t1, t2⟩, po2_opp hs h' ⟨t1, t2⟩, hhit t t1]
    refine eq52_iff.mpr (fun k k0 k1' => ?_)
    rcases pl_cs hs k with ⟨p, hp, rfl⟩ | ⟨t, ht, rfl⟩ | hk
    · rw [po2_own hs h hp, po2_own hs h' hp]
      have := hown p hp.1 (by omega)
      omega
    · by_cases c : t = 25
      · subst c
        have m1 := hv1.m (sd := 1 - sd) (by omega)
        have m2 := hv2.m (sd := 1 - sd) (by omega)
        have e1 : men (poR sd b [q, w]) (1 - sd) = sm (fun p => poR sd b [q, w] (26 * (1 - sd) + p)) 25 + poR sd b [q, w] (26 * (1 - sd) + 25) := rfl
        have e2 : men (poR sd b [q', w']) (1 - sd) = sm (fun p => poR sd b [q', w'] (26 * (1 - sd) + p)) 25 + poR sd b [q', w'] (26 * (1 - sd) + 25) := rfl
        have e3 : sm (fun p => poR sd b [q, w] (26 * (1 - sd) + p)) 25 = sm (fun p => poR sd b [q', w'] (26 * (1 - sd) + p)) 25 := sm_congr (fun k h0 h1 => by
          have h9 := hop (25 - k) (by omega) (by omega)
          rw [show 25 - (25 - k) = k by omega] at h9
          exact h9)
        omega
      · have h9 := hop (25 - t) (by omega) (by omega)
        rw [show 25 - (25 - t) = t by omega] at h9
        exact h9
    · omega
  · intro he
    have he2 := eq52_iff.mp he
    constructor
    · rw [kch2 h, kch2 h']
      have h1 : ∀ n : Nat, n ≤ 26 → f5 (fun k => dl1 q k + dl1 w k) n = f5 (fun k => dl1 q' k + dl1 w' k) n := by
        intro n
        induction n with
        | zero => intro _; rfl
        | succ n ih =>
          intro hn
          rw [f5, f5, ih (by omega)]
          have a1 := po2_own hs h (p := (n : Int)) (by omega)
          have a2 := po2_own hs h' (p := (n : Int)) (by omega)
          have a3 := he2 (26 * sd + (n : Int)) (by omega) (by omega)
          show _ + (dl1 q (n : Int) + dl1 w (n : Int)) * _ = _ + (dl1 q' (n : Int) + dl1 w' (n : Int)) * _
          rw [show dl1 q (n : Int) + dl1 w (n : Int) = dl1 q' (n : Int) + dl1 w' (n : Int) by omega]
      exact h1 26 (Nat.le_refl _)
    · have hhit : ∀ t : Int, 1 ≤ t → t ≤ 25 → hp2 sd b q w t = hp2 sd b q' w' t := by
        intro t t1 t2
        have a1 := po2_opp hs h ⟨t1, t2⟩
        have a2 := po2_opp hs h' ⟨t1, t2⟩
        have a3 := he2 (26 * (1 - sd) + (25 - t)) (by omega) (by omega)
        omega
      have hb : (kpt sd b [q, w]).toNat = (kpt sd b [q', w']).toNat := by
        refine Nat.eq_of_testBit_eq (fun t => ?_)
        have a3 := hp2_iff hv hs h t
        have a4 := hp2_iff hv hs h' t
        by_cases c : 1 ≤ (t : Int) ∧ (t : Int) ≤ 25
        · rw [hhit (t : Int) c.1 c.2] at a3
          have a5 := a3.symm.trans a4
          cases c1 : (kpt sd b [q, w]).toNat.testBit t with
          | true => exact (a5.mp c1).symm
          | false =>
            cases c2 : (kpt sd b [q', w']).toNat.testBit t with
            | false => rfl
            | true => rw [a5.mpr c2] at c1; cases c1
        · have no : ∀ (z y : Int × Int), lgR sd b [z, y] → (kpt sd b [z, y]).toNat.testBit t = false := by
            intro z y hz
            cases c1 : (kpt sd b [z, y]).toNat.testBit t with
            | false => rfl
            | true =>
              have r1 := hz.1.rg
              have r2 := hz.2.2.1.rg
              have d1 := hz.2.1
              have d2 := hz.2.2.2.1
              rcases (kpt_bit hs hz t).mp c1 with h9 | h9
              · have := (hw_iff.mp h9.1).1; omega
              · have := (hw_iff.mp h9.1).1; omega
          rw [no q w h, no q' w' h']
      have n1 := kpt_nn (sd := sd) (b := b) q w
      have n2 := kpt_nn (sd := sd) (b := b) q' w'
      omega
end PAIRS
/-- rows of two, first the one die, then the other -/
def prL (sd : Int) (b : Int → Int) (d1 d2 : Int) (fs : List Int) : List Row := fs.flatMap (fun f => (mvZ (stp b sd f d1) sd d2 25).map (fun f2 => [(f, d1), (f2, d2)]))
theorem adPrs_pr {sd d1 d2 : Int} {b : Int → Int} : ∀ (fs : List Int) (L : List Row), adPrs sd b d1 d2 L fs = (prL sd b d1 d2 fs).foldl (adN sd b) L
  | [], L => rfl
  | f :: t, L => by
    show adPrs sd b d1 d2 (adSec sd b f d1 d2 L (mvZ (stp b sd f d1) sd d2 25)) t = _
    rw [adPrs_pr t]
    unfold prL
    rw [List.flatMap_cons, List.foldl_append, List.foldl_map]
    rfl
theorem prL_lg {sd d1 d2 : Int} {b : Int → Int} (h1 : 1 ≤ d1 ∧ d1 ≤ 6) (h2 : 1 ≤ d2 ∧ d2 ≤ 6) {h : Int} : ∀ {r : Row}, r ∈ prL sd b d1 d2 (mvZ b sd d1 h) → ∃ q w, r = [q, w] ∧ lgR sd b [q, w] ∧ q.2 = d1 := by
  intro r hr
  obtain ⟨f, hf, h9⟩ := List.mem_flatMap.mp hr
  obtain ⟨f2, hf2, rfl⟩ := List.mem_map.mp h9
  exact ⟨(f, d1), (f2, d2), rfl, ⟨(mem_mvZw.mp hf).2, h1, (mem_mvZw.mp hf2).2, h2, trivial⟩, rfl⟩
theorem fold_eq {α : Type} {f g : List α → α → List α} {P : α → Prop} (hf : ∀ L x, (∀ y ∈ L, P y) → P x → f L x = g L x ∧ ∀ y ∈ g L x, P y) : ∀ (R L : List α), (∀ y ∈ L, P y) → (∀ x ∈ R, P x) → R.foldl f L = R.foldl g L ∧ ∀ y ∈ R.foldl g L, P y
  | [], L, h, _ => ⟨rfl, h⟩
  | x :: t, L, h, h2 => by
    have h3 := hf L x h (h2 x List.mem_cons_self)
    rw [List.foldl_cons, List.foldl_cons, h3.1]
    exact fold_eq hf t (g L x) h3.2 (fun y hy => h2 y (List.mem_cons_of_mem _ hy))
/-- behind the first move of a row of two unlike dice -/
def unU (sd d : Int) (b : Int → Int) : List Row := if mvZ b sd d 25 = [] then [[]] else (mvZ b sd d 25).map (fun f => [(f, d)])
theorem map_sing {d : Int} (l : List Int) : l.flatMap (fun f => ([[]] : List Row).map ((f, d) :: ·)) = l.map (fun f => [(f, d)]) := by
  induction l with
  | nil => rfl
  | cons f t ih => rw [List.flatMap_cons, ih]; rfl
theorem rwG_u1 {sd g l : Int} (hgl : g ≠ l) (b : Int → Int) : rwG sd g l 1 1 2 b = unU sd l b := by
  have e0 : hsK g l 1 2 0 = false := by unfold hsK; rw [if_neg hgl]; decide
  have e1 : hsK g l 1 2 1 = true := by unfold hsK; rw [if_neg hgl]; decide
  have e : reG (rwG sd g l 0) sd g l 1 2 b 0 25 = (mvZ b sd l 25).map (fun f => [(f, l)]) := by
    unfold reG
    rw [if_pos rfl, opG_0 (Or.inr e0), List.nil_append]
    unfold opG
    rw [if_pos e1, ← map_sing]
    rfl
  rw [rwG, e]
  unfold unU
  by_cases q : mvZ b sd l 25 = []
  · rw [if_pos (by rw [q]; rfl), if_pos q]
  · rw [if_neg (fun h => q (List.map_eq_nil_iff.mp h)), if_neg q]
theorem rwG_u2 {sd g l : Int} (hgl : g ≠ l) (b : Int → Int) : rwG sd g l 1 1 1 b = unU sd g b := by
  have e0 : hsK g l 1 1 0 = true := by unfold hsK; rw [if_neg hgl]; decide
  have e1 : hsK g l 1 1 1 = false := by unfold hsK; rw [if_neg hgl]; decide
  have e : reG (rwG sd g l 0) sd g l 1 1 b 0 25 = (mvZ b sd g 25).map (fun f => [(f, g)]) := by
    unfold reG
    rw [if_pos rfl, opG_0 (k := 1) (Or.inr e1), List.append_nil]
    unfold opG
    rw [if_pos e0, ← map_sing]
    rfl
  rw [rwG, e]
  unfold unU
  by_cases q : mvZ b sd g 25 = []
  · rw [if_pos (by rw [q]; rfl), if_pos q]
  · rw [if_neg (fun h => q (List.map_eq_nil_iff.mp h)), if_neg q]
def unA (sd g l : Int) (b : Int → Int) : List Row := (mvZ b sd g 25).flatMap (fun f => (unU sd l (stp b sd f g)).map ((f, g) :: ·)) ++ (mvZ b sd l 25).flatMap (fun f => (unU sd g (stp b sd f l)).map ((f, l) :: ·))
theorem rwG_un {sd g l : Int} (hgl : g ≠ l) (b : Int → Int) : rwG sd g l 2 0 3 b = if unA sd g l b = [] then [[]] else unA sd g l b := by
  have e0 : hsK g l 0 3 0 = true := by unfold hsK; rw [if_neg hgl]; decide
  have e1 : hsK g l 0 3 1 = true := by unfold hsK; rw [if_neg hgl]; decide
  have e : reG (rwG sd g l 1) sd g l 0 3 b 0 25 = unA sd g l b := by
    unfold reG opG unA
    rw [if_pos rfl, if_pos e0, if_pos e1]
    show (mvZ b sd g 25).flatMap (fun f => (rwG sd g l 1 1 2 (stp b sd f g)).map ((f, g) :: ·)) ++ (mvZ b sd l 25).flatMap (fun f => (rwG sd g l 1 1 1 (stp b sd f l)).map ((f, l) :: ·)) = _
    congr 2
    · funext f
      rw [rwG_u1 hgl]
    · funext f
      rw [rwG_u2 hgl]
  rw [rwG, e]
theorem unU_mem {sd d : Int} {b : Int → Int} {r : Row} (h : r ∈ unU sd d b) : (r = [] ∧ mvZ b sd d 25 = []) ∨ ∃ f, f ∈ mvZ b sd d 25 ∧ r = [(f, d)] := by
  unfold unU at h
  split at h
  · next q => rw [List.mem_singleton] at h; exact Or.inl ⟨h, q⟩
  · obtain ⟨f, hf, rfl⟩ := List.mem_map.mp h
    exact Or.inr ⟨f, hf, rfl⟩
theorem unA_half {sd d1 d2 : Int} {b : Int → Int} : ∀ fs : List Int, fL 2 (fs.flatMap (fun f => (unU sd d2 (stp b sd f d1)).map ((f, d1) :: ·))) = prL sd b d1 d2 fs
  | [] => rfl
  | f :: t => by
    unfold prL
    rw [List.flatMap_cons, fL_app, unA_half t, List.flatMap_cons]
    congr 1
    unfold unU fL
    by_cases q : mvZ (stp b sd f d1) sd d2 25 = []
    · rw [if_pos q, q]
      rfl
    · rw [if_neg q, List.map_map, List.filter_eq_self.mpr]
      · rfl
      · intro r hr
        obtain ⟨z, -, rfl⟩ := List.mem_map.mp hr
        rfl
theorem unA_two {sd g l : Int} {b : Int → Int} : fL 2 (unA sd g l b) = prL sd b g l (mvZ b sd g 25) ++ prL sd b l g (mvZ b sd l 25) := by
  unfold unA
  rw [fL_app, unA_half, unA_half]
theorem unA_len {sd g l : Int} {b : Int → Int} {r : Row} (h : r ∈ unA sd g l b) : 1 ≤ r.length ∧ r.length ≤ 2 := by
  have key : ∀ (d1 d2 : Int), r ∈ (mvZ b sd d1 25).flatMap (fun f => (unU sd d2 (stp b sd f d1)).map ((f, d1) :: ·)) → 1 ≤ r.length ∧ r.length ≤ 2 := by
    intro d1 d2 h9
    obtain ⟨f, -, h8⟩ := List.mem_flatMap.mp h9
    obtain ⟨y, hy, rfl⟩ := List.mem_map.mp h8
    rcases unU_mem hy with h7 | ⟨f2, -, h7⟩
    · rw [h7.1]; exact ⟨Nat.le_refl 1, Nat.le_succ 1⟩
    · rw [h7]; exact ⟨Nat.le_succ 1, Nat.le_refl 2⟩
  rcases List.mem_append.mp h with h9 | h9
  · exact key g l h9
  · exact key l g h9
/-- single moves lead to unlike positions -/
theorem sing_ne {sd d f f' : Int} {b : Int → Int} (hs : 0 ≤ sd ∧ sd ≤ 1) (hd : 1 ≤ d ∧ d ≤ 6) (h : canP b sd f d) (h' : canP b sd f' d) (hlt : f' < f) : eq52 (poR sd b [(f, d)]) (poR sd b [(f', d)]) = false := by
  cases q : eq52 (poR sd b [(f, d)]) (poR sd b [(f', d)]) with
  | false => rfl
  | true =>
    exfalso
    have r1 := h.rg
    have r2 := h'.rg
    have h1 := eq52_iff.mp q (26 * sd + f) (by omega) (by omega)
    have e1 : stp b sd f d (26 * sd + f) = stp b sd f' d (26 * sd + f) := h1
    have t1 : toP f d < f := by unfold toP; split <;> omega
    have t2 : toP f' d < f' := by unfold toP; split <;> omega
    rw [stp_own hs r1 hd.1 (by omega), stp_own hs r2 hd.1 (by omega), if_pos rfl, if_neg (by omega), if_neg (by omega), if_neg (by omega)] at e1
    omega
theorem dd_sing {sd d : Int} {b : Int → Int} (hs : 0 ≤ sd ∧ sd ≤ 1) (hd : 1 ≤ d ∧ d ≤ 6) : ∀ (fs ps : List Int), (ps ++ fs).Pairwise (fun a c => c < a) → (∀ f ∈ ps ++ fs, canP b sd f d) → (fs.map (fun f => [(f, d)])).foldl (ddS (fun x r => eq52 (poR sd b x) (poR sd b r))) (ps.map (fun f => [(f, d)])) = (ps ++ fs).map (fun f => [(f, d)])
  | [], ps, _, _ => by rw [List.append_nil]; rfl
  | f :: t, ps, hp, hc => by
    have e : ps ++ f :: t = (ps ++ [f]) ++ t := by rw [List.append_assoc]; rfl
    have hst : ddS (fun x r => eq52 (poR sd b x) (poR sd b r)) (ps.map (fun f => [(f, d)])) [(f, d)] = (ps ++ [f]).map (fun f => [(f, d)]) := by
      unfold ddS
      rw [if_neg, List.map_append]
      · rfl
      · intro h9
        rw [List.any_eq_true] at h9
        obtain ⟨x, hx, hx2⟩ := h9
        obtain ⟨y, hy, rfl⟩ := List.mem_map.mp hx
        have h8 := (List.pairwise_append.mp hp).2.2 y hy f List.mem_cons_self
        have h7 := sing_ne hs hd (hc y (List.mem_append_left _ hy)) (hc f (List.mem_append_right _ List.mem_cons_self)) h8
        have hx3 : eq52 (poR sd b [(y, d)]) (poR sd b [(f, d)]) = true := hx2
        rw [h7] at hx3
        cases hx3
    rw [List.map_cons, List.foldl_cons, hst, e]
    rw [e] at hp hc
    exact dd_sing hs hd t (ps ++ [f]) hp hc
theorem adSin_map {d : Int} : ∀ (fs : List Int) (L : List Row), adSin L d fs = L ++ fs.map (fun f => [(f, d)])
  | [], L => by rw [List.map_nil, List.append_nil]; rfl
  | f :: t, L => by
    show adSin (L ++ [[(f, d)]]) d t = _
    rw [adSin_map t, List.append_assoc]
    rfl
theorem mS_sing {d : Int} (hd : 1 ≤ d) {u : Int} (hu : d ≤ u) : ∀ l : List Int, (l.map (fun f => [(f, d)])).foldl mS (1, u) = (1, u)
  | [] => rfl
  | f :: t => by
    rw [List.map_cons, List.foldl_cons]
    have e : mS (1, u) [(f, d)] = (1, u) := by
      unfold mS mSi
      rw [if_neg (by show ¬ (1 : Int) < 1; decide), if_neg (by show ¬ ((1 : Int) = 1 ∧ u < d); omega)]
    rw [e]
    exact mS_sing hd hu t
theorem plc_unlike {n0 sd g l : Int} {b : Int → Int} (hv : VB n0 b) (hs : 0 ≤ sd ∧ sd ≤ 1) (hg : 1 ≤ g ∧ g ≤ 6) (hl : 1 ≤ l ∧ l ≤ 6) (hgl : l < g) {m u : Int} (hm : (m, u) = (rwG sd g l 2 0 3 b).foldl mS (0, 0)) : (rwG sd g l 2 0 3 b).foldl (pS sd b m u g l) [] = (plc sd b g l).2 ∧ (plc sd b g l).1 = m ∧ (∀ r ∈ (plc sd b g l).2, lgR sd b r ∧ (r.length : Int) = m) := by
  have hne : g ≠ l := by omega
  have hR := rwG_un (sd := sd) hne b
  have hP := unA_two (sd := sd) (g := g) (l := l) (b := b)
  rw [plc_u hne]
  by_cases q : fL 2 (unA sd g l b) = []
  · -- no rows of two
    have hP0 : prL sd b g l (mvZ b sd g 25) = [] ∧ prL sd b l g (mvZ b sd l 25) = [] := by
      rw [hP] at q
      exact List.append_eq_nil_iff.mp q
    have hU0 : unP sd b g l = [] := by
      unfold unP
      rw [adPrs_pr, adPrs_pr, hP0.1, hP0.2]
      rfl
    have half : ∀ d1 d2 : Int, prL sd b d1 d2 (mvZ b sd d1 25) = [] → (mvZ b sd d1 25).flatMap (fun f => (unU sd d2 (stp b sd f d1)).map ((f, d1) :: ·)) = (mvZ b sd d1 25).map (fun f => [(f, d1)]) := by
      intro d1 d2 h9
      unfold prL at h9
      have h8 : ∀ f ∈ mvZ b sd d1 25, mvZ (stp b sd f d1) sd d2 25 = [] := fun f hf => List.map_eq_nil_iff.mp (List.flatMap_eq_nil_iff.mp h9 f hf)
      rw [← map_sing]
      have key : ∀ k : List Int, (∀ f ∈ k, mvZ (stp b sd f d1) sd d2 25 = []) → k.flatMap (fun f => (unU sd d2 (stp b sd f d1)).map ((f, d1) :: ·)) = k.flatMap (fun f => ([[]] : List Row).map ((f, d1) :: ·)) := by
        intro k
        induction k with
        | nil => intro _; rfl
        | cons f t ih =>
          intro hk
          rw [List.flatMap_cons, List.flatMap_cons, ih (fun x hx => hk x (List.mem_cons_of_mem _ hx))]
          unfold unU
          rw [if_pos (hk f List.mem_cons_self)]
      exact key _ h8
    have hA : unA sd g l b = (mvZ b sd g 25).map (fun f => [(f, g)]) ++ (mvZ b sd l 25).map (fun f => [(f, l)]) := by
      unfold unA
      rw [half g l hP0.1, half l g hP0.2]
    have hfin : ∀ d u9 : Int, (1 ≤ d ∧ d ≤ 6) → (d = g ∨ d = l) → ∀ o : Int, (o = g ∨ o = l) → o ≠ d → ∀ A B : List Row, A ++ (mvZ b sd d 25).map (fun f => [(f, d)]) ++ B = unA sd g l b → (∀ r ∈ A ++ B, ∃ f, r = [(f, o)]) → (unA sd g l b).foldl (pS sd b 1 d g l) [] = (mvZ b sd d 25).map (fun f => [(f, d)]) := by
      intro d _ hd _ o _ ho A B hAB hAo
      have hflt : (unA sd g l b).filter (elB 1 d g l) = (mvZ b sd d 25).map (fun f => [(f, d)]) := by
        rw [← hAB, List.filter_append, List.filter_append]
        have n1 : ∀ C : List Row, (∀ r ∈ C, ∃ f, r = [(f, o)]) → C.filter (elB 1 d g l) = [] := by
          intro C hC
          rw [List.filter_eq_nil_iff]
          intro r hr
          obtain ⟨f, rfl⟩ := hC r hr
          unfold elB
          rw [decide_eq_true_iff]
          intro h9
          exact h9.2 ⟨rfl, hne, ho⟩
        rw [n1 A (fun r hr => hAo r (List.mem_append_left _ hr)), n1 B (fun r hr => hAo r (List.mem_append_right _ hr)), List.nil_append, List.append_nil, List.filter_eq_self.mpr]
        intro r hr
        obtain ⟨f, -, rfl⟩ := List.mem_map.mp hr
        unfold elB
        rw [decide_eq_true_iff]
        exact ⟨by show ¬ ((1 : Nat) : Int) < 1; decide, fun h9 => h9.2.2 rfl⟩
      rw [pS_flt, hflt]
      have h9 := dd_sing (b := b) hs hd (mvZ b sd d 25) [] (mvZ_pw b sd d 25) (fun f hf => (mem_mvZw.mp hf).2)
      exact h9
    by_cases qg : mvZ b sd g 25 = []
    · by_cases ql : mvZ b sd l 25 = []
      · have hA0 : unA sd g l b = [] := by rw [hA, qg, ql]; rfl
        rw [hR, if_pos hA0] at hm ⊢
        have hm2 : (m, u) = (0, 0) := by rw [hm]; rfl
        have hm3 : m = 0 := congrArg Prod.fst hm2
        have hu3 : u = 0 := congrArg Prod.snd hm2
        rw [unl_d (by rw [hU0]; rfl) (by rw [qg]; rfl) (by rw [ql]; rfl)]
        subst hm3
        subst hu3
        refine ⟨?_, rfl, fun r hr => ?_⟩
        · show pS sd b 0 0 g l [] [] = [[]]
          unfold pS elB nwB
          rw [if_pos (by rw [decide_eq_true_iff]; exact ⟨by decide, fun h => absurd h.1 (by decide)⟩)]
          rfl
        · rw [List.mem_singleton] at hr
          subst hr
          exact ⟨trivial, rfl⟩
      · have hAn : unA sd g l b ≠ [] := by
          rw [hA, qg]
          intro h9
          exact ql (List.map_eq_nil_iff.mp (List.append_eq_nil_iff.mp h9).2)
        rw [hR, if_neg hAn] at hm ⊢
        have hm2 : (m, u) = (1, l) := by
          rw [hm, hA, qg]
          obtain ⟨f0, t0, e0⟩ := List.exists_cons_of_ne_nil ql
          rw [e0]
          show (t0.map (fun f => [(f, l)])).foldl mS (mS (0, 0) [(f0, l)]) = _
          rw [show mS (0, 0) [(f0, l)] = (1, l) from rfl, mS_sing hl.1 (Int.le_refl _)]
        have hm3 : m = 1 := congrArg Prod.fst hm2
        have hu3 : u = l := congrArg Prod.snd hm2
        rw [unl_c (by rw [hU0]; rfl) (by rw [qg]; rfl) (by rw [adSin_map]; intro h9; exact ql (List.map_eq_nil_iff.mp (List.eq_nil_of_length_eq_zero h9))), adSin_map]
        subst hm3
        subst hu3
        refine ⟨?_, rfl, fun r hr => ?_⟩
        · exact hfin u 0 hl (Or.inr rfl) g (Or.inl rfl) hne [] [] (by rw [hA, qg, List.append_nil]; rfl) (fun r hr => absurd hr List.not_mem_nil)
        · obtain ⟨f, hf, rfl⟩ := List.mem_map.mp hr
          exact ⟨⟨(mem_mvZw.mp hf).2, hl, trivial⟩, rfl⟩
    · have hAn : unA sd g l b ≠ [] := by
        rw [hA]
        intro h9
        exact qg (List.map_eq_nil_iff.mp (List.append_eq_nil_iff.mp h9).1)
      rw [hR, if_neg hAn] at hm ⊢
      have hm2 : (m, u) = (1, g) := by
        rw [hm, hA]
        obtain ⟨f0, t0, e0⟩ := List.exists_cons_of_ne_nil qg
        rw [e0, List.foldl_append]
        have e1 : (List.map (fun f => [(f, g)]) (f0 :: t0)).foldl mS (0, 0) = (1, g) := by
          show (t0.map (fun f => [(f, g)])).foldl mS (mS (0, 0) [(f0, g)]) = _
          rw [show mS (0, 0) [(f0, g)] = (1, g) from rfl, mS_sing hg.1 (Int.le_refl _)]
        rw [e1, mS_sing hl.1 (by omega)]
      have hm3 : m = 1 := congrArg Prod.fst hm2
      have hu3 : u = g := congrArg Prod.snd hm2
      rw [unl_b (by rw [hU0]; rfl) (by rw [adSin_map]; intro h9; exact qg (List.map_eq_nil_iff.mp (List.eq_nil_of_length_eq_zero h9))), adSin_map]
      subst hm3
      subst hu3
      refine ⟨?_, rfl, fun r hr => ?_⟩
      · exact hfin u 0 hg (Or.inl rfl) l (Or.inr rfl) (fun h => hne h.symm) [] ((mvZ b sd l 25).map (fun f => [(f, l)])) (by rw [hA]; rfl) (fun r hr => by
          obtain ⟨f, -, rfl⟩ := List.mem_map.mp (show r ∈ (mvZ b sd l 25).map (fun f => [(f, l)]) from hr)
          exact ⟨f, rfl⟩)
      · obtain ⟨f, hf, rfl⟩ := List.mem_map.mp hr
        exact ⟨⟨(mem_mvZw.mp hf).2, hg, trivial⟩, rfl⟩
  · -- rows of two
    have hAn : unA sd g l b ≠ [] := fun h9 => q (by rw [h9]; rfl)
    rw [hR, if_neg hAn] at hm ⊢
    have h1 := mS_ge (unA sd g l b) (0, 0)
    rw [← hm] at h1
    obtain ⟨h0, hall, hex⟩ := h1
    dsimp only at h0 hall hex
    have hm2 : m = 2 := by
      obtain ⟨r0, t0, e0⟩ := List.exists_cons_of_ne_nil q
      have hr0 : r0 ∈ fL 2 (unA sd g l b) := by rw [e0]; exact List.mem_cons_self
      have h2 := mem_fL.mp hr0
      have h3 := hall r0 h2.1
      rcases hex with h4 | ⟨r, hr, h4⟩
      · omega
      · have := unA_len hr; omega
    subst hm2
    have hflt : (unA sd g l b).filter (elB 2 u g l) = fL 2 (unA sd g l b) := by
      unfold fL
      refine List.filter_congr (fun r hr => ?_)
      have h2 := unA_len hr
      unfold elB
      by_cases c : r.length = 2
      · rw [decide_eq_true c, decide_eq_true_iff]
        exact ⟨by omega, fun h => absurd h.1 (by decide)⟩
      · rw [decide_eq_false c, decide_eq_false_iff_not]
        intro h
        have := h.1
        omega
    have hPl : ∀ r ∈ fL 2 (unA sd g l b), ∃ z w, r = [z, w] ∧ lgR sd b [z, w] := by
      intro r hr
      rw [hP] at hr
      rcases List.mem_append.mp hr with h9 | h9
      · obtain ⟨z, w, e, h8, -⟩ := prL_lg hg hl h9
        exact ⟨z, w, e, h8⟩
      · obtain ⟨z, w, e, h8, -⟩ := prL_lg hl hg h9
        exact ⟨z, w, e, h8⟩
    have hU : unP sd b g l = (fL 2 (unA sd g l b)).foldl (adN sd b) [] := by
      unfold unP
      rw [adPrs_pr, adPrs_pr, hP, List.foldl_append]
    have hfe := fold_eq (f := adN sd b) (g := ddS (fun x r => eq52 (poR sd b x) (poR sd b r))) (P := fun r => ∃ z w, r = [z, w] ∧ lgR sd b [z, w]) (fun L x hL hx => by
      constructor
      · unfold adN ddS
        have e : (L.any fun x' => decide (kch x' = kch x) && decide (kpt sd b x' = kpt sd b x)) = (L.any fun x' => eq52 (poR sd b x') (poR sd b x)) := by
          obtain ⟨z, w, rfl, hx2⟩ := hx
          rw [Bool.eq_iff_iff, List.any_eq_true, List.any_eq_true]
          constructor
          · rintro ⟨y, hy, hy2⟩
            obtain ⟨z', w', rfl, hy3⟩ := hL y hy
            rw [Bool.and_eq_true, decide_eq_true_iff, decide_eq_true_iff] at hy2
            exact ⟨_, hy, (key2 hv hs hy3 hx2).mp hy2⟩
          · rintro ⟨y, hy, hy2⟩
            obtain ⟨z', w', rfl, hy3⟩ := hL y hy
            refine ⟨_, hy, ?_⟩
            rw [Bool.and_eq_true, decide_eq_true_iff, decide_eq_true_iff]
            exact (key2 hv hs hy3 hx2).mpr hy2
        rw [e]
      · intro y hy
        unfold ddS at hy
        split at hy
        · exact hL y hy
        · rcases List.mem_append.mp hy with h9 | h9
          · exact hL y h9
          · rw [List.mem_singleton] at h9
            subst h9
            exact hx) (fL 2 (unA sd g l b)) [] (fun y hy => absurd hy List.not_mem_nil) hPl
    have hUn : (unP sd b g l).length ≠ 0 := by
      rw [hU, hfe.1]
      obtain ⟨r0, t0, e0⟩ := List.exists_cons_of_ne_nil q
      rw [e0, List.foldl_cons]
      have mono : ∀ (R L : List Row), L.length ≤ (R.foldl (ddS (fun x r => eq52 (poR sd b x) (poR sd b r))) L).length := by
        intro R
        induction R with
        | nil => intro L; exact Nat.le_refl _
        | cons r t ih =>
          intro L
          refine Nat.le_trans ?_ (ih _)
          unfold ddS
          split
          · exact Nat.le_refl _
          · rw [List.length_append]; omega
      have h9 := mono t0 (ddS (fun x r => eq52 (poR sd b x) (poR sd b r)) [] r0)
      have h8 : (ddS (fun x r => eq52 (poR sd b x) (poR sd b r)) [] r0).length = 1 := rfl
      omega
    rw [unl_a hUn]
    refine ⟨?_, rfl, fun r hr => ?_⟩
    · rw [pS_flt, hflt]
      show _ = unP sd b g l
      rw [hU, hfe.1]
    · have hr2 : r ∈ unP sd b g l := hr
      rw [hU, hfe.1] at hr2
      obtain ⟨z, w, rfl, h9⟩ := hfe.2 r hr2
      exact ⟨h9, rfl⟩
