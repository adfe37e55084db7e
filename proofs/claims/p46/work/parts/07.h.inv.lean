/-! WHAT STAYS TRUE FROM CALL TO CALL: the match, the seats, the record, the board, the plays, what is reckoned -/
def jzP (k : Int) : Prop := k = 1 ∨ k = 2 ∨ k = 4 ∨ k = 8 ∨ k = 16 ∨ k = 32 ∨ k = 64
def jzC (ph cr j6 j7 j8 : Int) : Prop := (ph = 45 → (cr = 0 ∧ j6 = 0 ∧ j7 = 0) ∨ (cr = 1 ∧ j6 = 1 ∧ j7 = 1) ∨ (cr = 2 ∧ j6 = 1 ∧ j7 = 0)) ∧ (ph ≠ 45 → j7 = 0 ∧ ((cr = 0 ∧ j6 = 0 ∧ j8 = 0) ∨ (cr = 1 ∧ j6 = 1 ∧ j8 = 1) ∨ (cr = 2 ∧ j6 = 1 ∧ j8 = 0))) ∧ (j8 = 0 ∨ j8 = 1)
def jzM (ph sk ho lk op va le ja cr p0 p1 j2 j6 j7 j8 : Int) (w5 : Int → Int) (n : Int) : Prop :=
  (0 ≤ ph ∧ ph < 65536) ∧ (jzP sk ∧ (ph = 116 → sk ≤ 32)) ∧ (-1 ≤ ho ∧ ho ≤ 1 ∧ (sk = 1 → ho < 0)) ∧ (0 ≤ lk ∧ lk ≤ 3) ∧ (op = 0 ∨ op = 1) ∧ (0 ≤ va ∧ va < 65536) ∧ (0 ≤ j2 ∧ j2 < 65536) ∧ (op ≠ 0 → j2 = va ∧ (va = 98 ∨ va = 110 ∨ va = 104)) ∧ (0 ≤ le ∧ le ≤ 25) ∧ (ja = 0 ∨ ja = 1) ∧ jzC ph cr j6 j7 j8 ∧ (w5 0 = p0 ∧ w5 1 = p1) ∧ (∀ k, 0 ≤ w5 k ∧ w5 k ≤ 200 * n) ∧ (ph ≠ 45 → op ≠ 0)
def jzT (tn : Int) (se ba : Int → Int) (j49 j51 j52 : Int) (w48 w53 : Int → Int) : Prop :=
  (tn = 0 ∨ 3 ≤ tn ∧ tn ≤ 6) ∧ (tn = 0 → j49 = 0) ∧ (0 < tn → j49 = tn - 2 ∧ se 0 = j51 ∧ se 1 = j52) ∧ (∀ k, 0 ≤ k → k < tn - 2 → se (2 + k) = w48 k) ∧ (∀ k, 0 ≤ k → k < tn → 0 ≤ se k ∧ se k < tn) ∧ (∀ j k, 0 ≤ j → j < tn → 0 ≤ k → k < tn → se j = se k → j = k) ∧ (∀ p, 0 ≤ p → p < tn → ∃ k, 0 ≤ k ∧ k < tn ∧ se k = p) ∧ (∀ k, 0 ≤ k → k < tn → ba k = w53 k) ∧ sz ba 6 = 0 ∧ (0 ≤ j51 ∧ j51 ≤ 5)
def jzH (ph mv tu hv fi : Int) (fd fn fr0 w42 w43 bs : Int → Int) (n : Int) : Prop :=
  (0 ≤ tu ∧ tu ≤ n) ∧ (0 ≤ hv ∧ hv < 65536) ∧ (0 ≤ fi ∧ fi ≤ 1) ∧ (∀ k, 0 ≤ k → k < tu → fn k = w42 k) ∧ (∀ k, 0 ≤ k → k < tu → fd k = w43 k) ∧ ∃ T : List Row, tu = (T.length : Int) ∧ (∀ k : Nat, k < T.length → fr0 k = rc (T.getD k [])) ∧ lgT fi (lyP hv) T ∧ rpB fi (lyP hv) T = bs ∧ (ph ≠ 45 → mv = jzS fi T)
def jzB (ph mv hv dg dl gl ll : Int) (bs bb w11 w12 w18 : Int → Int) : Prop :=
  bb = bk w11 0 ∧ (0 ≤ mv ∧ mv ≤ 1) ∧ VB (lyE hv) bs ∧ VB (lyE hv) (bk w11 0) ∧ (ph ≠ 114 → bs = bk w11 0) ∧ (ph = 114 → bs = bk w12 0) ∧ (0 ≤ dg ∧ dg ≤ 6) ∧ (0 ≤ dl ∧ dl ≤ 6) ∧ (ph = 114 → 1 ≤ dl ∧ dl ≤ dg) ∧ (0 ≤ gl ∧ gl ≤ 4) ∧ (0 ≤ ll ∧ ll ≤ 4) ∧ (∀ k, 1 ≤ k → k ≤ 6 → 0 ≤ w18 k ∧ w18 k ≤ 1000) ∧ (ph = 114 → (dg = dl → ll = 0) ∧ ∀ d, 1 ≤ d → d ≤ 6 → w18 d = (if d = dg then gl else if d = dl then ll else 0))
def jzL (ph mv dg dl cnt ln gr : Int) (fr fw fc fh bs w21 w22 w23 w24 w25 : Int → Int) : Prop :=
  (0 ≤ cnt ∧ cnt ≤ 3060) ∧ (0 ≤ ln ∧ ln ≤ 4) ∧ (0 ≤ gr ∧ (gr < cnt ∨ (cnt = 0 ∧ gr = 0))) ∧ (∀ k, 0 ≤ k → k < cnt → 0 ≤ fr k ∧ fr k < 4294967296) ∧ (∀ k, -100000 ≤ fw k ∧ fw k ≤ 100000) ∧ (∀ k, -2000000000000000000 ≤ fc k ∧ fc k ≤ 2000000000000000000) ∧ (∀ k, 0 ≤ fh k ∧ fh k ≤ 1073741824) ∧ (∀ k, 0 ≤ k → k < cnt → 0 ≤ w24 k ∧ w24 k ≤ 4) ∧
  (ph = 114 → RepP bs mv (plc mv bs dg dl).2 fr fw cnt gr ∧ PlM mv bs (plc mv bs dg dl).2 w21 w22 w23 w24 w25 cnt ∧ (∀ r ∈ (plc mv bs dg dl).2, lgR mv bs r ∧ (r.length : Int) = ln))
def jzR (qw qc qh : Int → Int) (j36 : Int) : Prop := (∀ k, -100000 ≤ qw k ∧ qw k ≤ 100000) ∧ (∀ k, -2000000000000000000 ≤ qc k ∧ qc k ≤ 2000000000000000000) ∧ (∀ k, 0 ≤ qh k ∧ qh k ≤ 1073741824) ∧ (-100000 ≤ j36 ∧ j36 ≤ 100000)
def jzF (ra : Int) (fe w38 : Int → UInt64) (w40 : Int → Int) : Prop := (0 ≤ ra ∧ ra ≤ 100) ∧ chI fe ∧ chM w38 ∧ (∀ i j : Int, 2 ≤ i → i < 27 → 0 ≤ j → j < 2 → w40 (27 * i + j) = 0)
def jzO (al hi0 : Int) (fa : Int → Int) (n : Int) : Prop := (0 ≤ al ∧ al ≤ n) ∧ (0 ≤ hi0 ∧ hi0 ≤ n) ∧ ∀ k, 0 ≤ fa k ∧ fa k ≤ 2 * n
section IGROUPS
variable {ph mv sk ho lk op va le ja cr p0 p1 tn tu hv fi al hi0 dg dl gl ll ra cnt ln gr j2 j6 j7 j8 j36 j49 j51 j52 n : Int}
variable {se ba fd fn fr0 fa fr fw fc fh qw qc qh bs bb w5 w11 w12 w18 w21 w22 w23 w24 w25 w40 w42 w43 w48 w53 : Int → Int} {fe w38 : Int → UInt64}
theorem jzM.mono (h : jzM ph sk ho lk op va le ja cr p0 p1 j2 j6 j7 j8 w5 n) : jzM ph sk ho lk op va le ja cr p0 p1 j2 j6 j7 j8 w5 (n + 1) := by
  obtain ⟨m1, m2, m3, m4, m5, m6, m7, m8, m9, m10, m11, m12, m13, m14⟩ := h
  exact ⟨m1, m2, m3, m4, m5, m6, m7, m8, m9, m10, m11, m12, fun k => ⟨(m13 k).1, by have := (m13 k).2; omega⟩, m14⟩
theorem jzH.mono (h : jzH ph mv tu hv fi fd fn fr0 w42 w43 bs n) : jzH ph mv tu hv fi fd fn fr0 w42 w43 bs (n + 1) := ⟨⟨h.1.1, by have := h.1.2; omega⟩, h.2⟩
theorem jzO.mono (h : jzO al hi0 fa n) : jzO al hi0 fa (n + 1) := ⟨⟨h.1.1, by have := h.1.2; omega⟩, ⟨h.2.1.1, by have := h.2.1.2; omega⟩, fun k => ⟨(h.2.2 k).1, by have := (h.2.2 k).2; omega⟩⟩
theorem jzP.rg {k : Int} (h : jzP k) : 1 ≤ k ∧ k ≤ 64 := by unfold jzP at h; omega
/-! the match -/
theorem jzM_start {v1 v2 q : Int} (h : jzM ph sk ho lk op va le ja cr p0 p1 j2 j6 j7 j8 w5 n) (hn : 0 ≤ n) (hp : ph = 45) (h1 : v1 = 98 ∨ v1 = 110 ∨ v1 = 104) (h2 : 0 ≤ v2 ∧ v2 ≤ 25) (h3 : q = 0 ∨ q = 1) : jzM ph sk ho lk 1 v1 v2 q 0 0 0 v1 0 0 j8 (up (up w5 0 0) 1 0) (n + 1) := by
  obtain ⟨m1, m2, m3, m4, m5, m6, m7, m8, m9, m10, m11, m12, m13, m14⟩ := h
  refine ⟨m1, m2, m3, m4, Or.inr rfl, by omega, by omega, fun _ => ⟨rfl, h1⟩, h2, h3, ⟨fun _ => Or.inl ⟨rfl, rfl, rfl⟩, fun q => absurd hp q, m11.2.2⟩, ⟨by rw [up_n _ _ (by omega), up_s], up_s _ _ _⟩, fun k => ?_, fun q => absurd hp q⟩
  by_cases e : k = 1
  · rw [e, up_s]
    omega
  · rw [up_n _ _ e]
    by_cases e2 : k = 0
    · rw [e2, up_s]
      omega
    · rw [up_n _ _ e2]
      have := m13 k
      omega
theorem jzM_begin (h : jzM ph sk ho lk op va le ja cr p0 p1 j2 j6 j7 j8 w5 n) (hp : ph = 45) (ho9 : op ≠ 0) : jzM 100 1 (-1) lk op va le ja cr p0 p1 j2 j6 0 j7 w5 (n + 1) := by
  obtain ⟨m1, m2, m3, m4, m5, m6, m7, m8, m9, m10, m11, m12, m13, m14⟩ := h
  have h7 := m11.1 hp
  exact ⟨by omega, ⟨Or.inl rfl, fun q => absurd q (by omega)⟩, ⟨by omega, by omega, fun _ => by omega⟩, m4, m5, m6, m7, m8, m9, m10, ⟨fun q => absurd q (by omega), fun _ => ⟨rfl, by omega⟩, by omega⟩, m12, fun k => ⟨(m13 k).1, by have := (m13 k).2; omega⟩, fun _ => ho9⟩
/-- in a game: another phase of it -/
theorem jzM_ph {q : Int} (h : jzM ph sk ho lk op va le ja cr p0 p1 j2 j6 j7 j8 w5 n) (hp : ph ≠ 45) (hq : q ≠ 45 ∧ 0 ≤ q ∧ q < 65536) (h2 : q = 116 → sk ≤ 32) : jzM q sk ho lk op va le ja cr p0 p1 j2 j6 j7 j8 w5 (n + 1) := by
  obtain ⟨m1, m2, m3, m4, m5, m6, m7, m8, m9, m10, m11, m12, m13, m14⟩ := h
  exact ⟨hq.2, ⟨m2.1, h2⟩, m3, m4, m5, m6, m7, m8, m9, m10, ⟨fun e => absurd e hq.1, fun _ => m11.2.1 hp, m11.2.2⟩, m12, fun k => ⟨(m13 k).1, by have := (m13 k).2; omega⟩, fun _ => m14 hp⟩
theorem jzM_half (h : jzM ph sk ho lk op va le ja cr p0 p1 j2 j6 j7 j8 w5 n) (hs : sk < 64) : sk ≤ 32 := by
  have := h.2.1.1
  unfold jzP at this
  omega
theorem jzM_cube {k o : Int} (h : jzM ph sk ho lk op va le ja cr p0 p1 j2 j6 j7 j8 w5 n) (hp : ph = 116) (hk : k = 2 * sk ∨ (k = 4 * sk ∧ 4 * sk ≤ 64)) (hm : o = 0 ∨ o = 1) : jzM 100 k o lk op va le ja cr p0 p1 j2 j6 j7 j8 w5 (n + 1) := by
  obtain ⟨m1, m2, m3, m4, m5, m6, m7, m8, m9, m10, m11, m12, m13, m14⟩ := h
  have h2 := m2.2 hp
  have h3 := m2.1
  refine ⟨by omega, ⟨?_, fun q => absurd q (by omega)⟩, ⟨by omega, by omega, fun q => ?_⟩, m4, m5, m6, m7, m8, m9, m10, ⟨fun e => absurd e (by omega), fun _ => m11.2.1 (by omega), m11.2.2⟩, m12, fun k => ⟨(m13 k).1, by have := (m13 k).2; omega⟩, fun _ => m14 (by omega)⟩
  · unfold jzP at h3 ⊢
    omega
  · unfold jzP at h3
    omega
theorem jzM_end {kd : Int} (h : jzM ph sk ho lk op va le ja cr p0 p1 j2 j6 j7 j8 w5 n) (hp : ph ≠ 45) (hm : 0 ≤ mv ∧ mv ≤ 1) (hkd : 1 ≤ kd ∧ kd ≤ 3) : jzM 45 sk ho kd op va le ja (crN cr le (if mv = 0 then p0 + sk * kd else p1 + sk * kd)) (if mv = 0 then p0 + sk * kd else p0) (if mv = 0 then p1 else p1 + sk * kd) j2 (if (0 < le ∧ j6 = 0 ∧ le - (w5 mv + (sk * kd)) = 1) then 1 else j6) (if (0 < le ∧ j6 = 0 ∧ le - (w5 mv + (sk * kd)) = 1) then 1 else j7) j8 (up w5 mv (w5 mv + (sk * kd))) (n + 1) := by
  obtain ⟨m1, m2, m3, m4, m5, m6, m7, m8, m9, m10, m11, m12, m13, m14⟩ := h
  have hst : 1 ≤ sk * kd ∧ sk * kd ≤ 192 := by
    have h3 := m2.1
    unfold jzP at h3
    rcases (show kd = 1 ∨ kd = 2 ∨ kd = 3 by omega) with e | e | e <;> subst e <;> omega
  generalize sk * kd = g at hst ⊢
  have hw : w5 mv = if mv = 0 then p0 else p1 := by
    rcases (show mv = 0 ∨ mv = 1 by omega) with e | e <;> subst e
    · exact m12.1
    · exact m12.2
  have hc := m11.2.1 hp
  refine ⟨by omega, ⟨m2.1, fun q => absurd q (by omega)⟩, m3, by omega, m5, m6, m7, m8, m9, m10, ⟨fun _ => ?_, fun q => absurd rfl q, m11.2.2⟩, ?_, fun k => ?_, fun q => absurd rfl q⟩
  · rw [hw]
    unfold crN
    rcases (show mv = 0 ∨ mv = 1 by omega) with e | e <;> subst e
    · rw [if_pos rfl, if_pos rfl]
      by_cases c1 : cr = 1
      · rw [if_pos c1, if_neg (by omega), if_neg (by omega)]
        omega
      · rw [if_neg c1]
        by_cases c2 : cr = 0 ∧ 0 < le ∧ p0 + g = le - 1
        · rw [if_pos c2, if_pos (by omega), if_pos (by omega)]
          omega
        · rw [if_neg c2, if_neg (by omega), if_neg (by omega)]
          omega
    · rw [if_neg (show ¬ (1 : Int) = 0 by omega), if_neg (show ¬ (1 : Int) = 0 by omega)]
      by_cases c1 : cr = 1
      · rw [if_pos c1, if_neg (by omega), if_neg (by omega)]
        omega
      · rw [if_neg c1]
        by_cases c2 : cr = 0 ∧ 0 < le ∧ p1 + g = le - 1
        · rw [if_pos c2, if_pos (by omega), if_pos (by omega)]
          omega
        · rw [if_neg c2, if_neg (by omega), if_neg (by omega)]
          omega
  · rcases (show mv = 0 ∨ mv = 1 by omega) with e | e <;> subst e
    · rw [up_s, up_n _ _ (by omega), if_pos rfl, if_pos rfl, m12.1]
      exact ⟨rfl, m12.2⟩
    · rw [up_s, up_n _ _ (by omega), if_neg (by omega), if_neg (by omega), m12.2]
      exact ⟨m12.1, rfl⟩
  · by_cases e : k = mv
    · rw [e, up_s]
      have := m13 mv
      omega
    · rw [up_n _ _ e]
      have := m13 k
      omega
/-! the seats -/
theorem jzT_seat {pl : Int} (hp : 3 ≤ pl ∧ pl ≤ 6) : jzT pl (fun k => k) (fun _ => 0) (pl - 2) 0 1 (fun k => k + 2) (fun _ => 0) :=
  ⟨Or.inr hp, fun q => by omega, fun _ => ⟨rfl, rfl, rfl⟩, fun k _ _ => by show 2 + k = k + 2; omega, fun k h0 h1 => ⟨h0, h1⟩, fun j k _ _ _ _ e => e, fun p h0 h1 => ⟨p, h0, h1, rfl⟩, fun _ _ _ => rfl, rfl, by omega⟩
theorem jzT_end {g : Int} (h : jzT tn se ba j49 j51 j52 w48 w53) (hm : 0 ≤ mv ∧ mv ≤ 1) : jzT tn (if tn < 3 then se else seN se (1 - mv) tn) (if tn < 3 then ba else pyZ se (if 1 - mv = 0 then -(g) else g) ba tn) j49 (if 0 < tn then (if mv = 1 then j52 else j51) else j51) (if 0 < tn then w48 0 else j52) (if 0 < tn then (up (mu w48 0 (j49 - 1)) (j49 - 1) (if mv = 1 then j51 else j52)) else w48) (if 0 < tn then acF w53 j51 (if mv = 1 then g else -(g)) tn tn else w53) := by
  by_cases c : tn = 0
  · subst c
    have hq : (0 : Int) < 3 := by omega
    have hp : ¬ (0 : Int) < 0 := by omega
    rw [if_pos hq, if_pos hq, if_neg hp, if_neg hp, if_neg hp, if_neg hp]
    exact h
  · obtain ⟨t1, t2, t3, t4, t5, t6, t7, t8, t9, t10⟩ := h
    have ht : 3 ≤ tn ∧ tn ≤ 6 := by omega
    obtain ⟨t31, t32, t33⟩ := t3 (by omega)
    have hq : ¬ tn < 3 := by omega
    have hp : 0 < tn := by omega
    rw [if_neg hq, if_neg hq, if_pos hp, if_pos hp, if_pos hp, if_pos hp]
    have s0 := t5 0 (by omega) (by omega)
    have s1 := t5 1 (by omega) (by omega)
    have w0 := t4 0 (by omega) (by omega)
    rw [show (2 : Int) + 0 = 2 by omega] at w0
    have hv : pyZ se (if 1 - mv = 0 then -(g) else g) ba tn = pyN se (if 1 - mv = 0 then -(g) else g) ba (tn - 1).toNat := rfl
    have hN : (((tn - 1).toNat : Nat) : Int) = tn - 1 := by omega
    refine ⟨t1, t2, fun _ => ⟨t31, ?_, ?_⟩, fun k h0 h1 => ?_, fun k h0 h1 => ?_, fun j k a0 a1 b0 b1 e => ?_, fun p h0 h1 => ?_, fun p h0 h1 => ?_, ?_, ?_⟩
    · rw [seN_at]
      rcases (show mv = 0 ∨ mv = 1 by omega) with e | e <;> subst e
      · rw [if_neg (by omega), if_neg (by omega), if_neg (by omega)]
        exact t32
      · rw [if_neg (by omega), if_pos (by omega), if_pos rfl]
        exact t33
    · rw [seN_at]
      rcases (show mv = 0 ∨ mv = 1 by omega) with e | e <;> subst e
      · rw [if_neg (by omega), if_pos (by omega)]
        exact w0
      · rw [if_neg (by omega), if_pos (by omega)]
        exact w0
    · rw [seN_at]
      by_cases e : k = j49 - 1
      · rw [e, up_s, if_pos (by omega)]
        rcases (show mv = 0 ∨ mv = 1 by omega) with e2 | e2 <;> subst e2
        · rw [if_neg (by omega)]
          exact t33
        · rw [if_pos rfl]
          exact t32
      · rw [up_n _ _ e, if_neg (by omega), if_pos (by omega)]
        unfold mu
        rw [if_pos (by omega)]
        have h9 := t4 (k + 1) (by omega) (by omega)
        rw [← h9]
        exact bx (by omega)
    · rw [seN_at]
      apply t5
      · split
        · omega
        · split <;> omega
      · split
        · omega
        · split <;> omega
    · rw [seN_at, seN_at] at e
      have e2 := t6 _ _ (by split <;> (first | omega | (split <;> omega))) (by split <;> (first | omega | (split <;> omega))) (by split <;> (first | omega | (split <;> omega))) (by split <;> (first | omega | (split <;> omega))) e
      by_cases c1 : j = tn - 1
      · rw [if_pos c1] at e2
        by_cases c2 : k = tn - 1
        · omega
        · rw [if_neg c2] at e2
          split at e2 <;> omega
      · rw [if_neg c1] at e2
        by_cases c2 : k = tn - 1
        · rw [if_pos c2] at e2
          split at e2 <;> omega
        · rw [if_neg c2] at e2
          split at e2 <;> split at e2 <;> omega
    · obtain ⟨k, k0, k1, k2⟩ := t7 p h0 h1
      rcases (show k = 1 - mv ∨ (1 - mv < k) ∨ (k < 1 - mv) by omega) with q | q | q
      · refine ⟨tn - 1, by omega, by omega, ?_⟩
        rw [seN_at, if_pos rfl, ← q]
        exact k2
      · refine ⟨k - 1, by omega, by omega, ?_⟩
        rw [seN_at, if_neg (by omega), if_pos (by omega), show k - 1 + 1 = k by omega]
        exact k2
      · refine ⟨k, by omega, by omega, ?_⟩
        rw [seN_at, if_neg (by omega), if_neg (by omega)]
        exact k2
    · obtain ⟨k, k0, k1, k2⟩ := t7 p h0 h1
      rw [hv, ← k2, pyN_at t6 _ (by omega) k k0 k1, hN]
      have hk5 := t5 k k0 k1
      unfold acF
      rw [if_pos hk5, t8 _ hk5.1 hk5.2, ← t32]
      by_cases c2 : k = 0
      · subst c2
        rw [if_pos rfl, if_pos rfl]
        rcases (show mv = 0 ∨ mv = 1 by omega) with e | e <;> subst e
        · rw [if_neg (by omega), if_neg (by omega), Int.neg_neg]
        · rw [if_pos (by omega), if_pos rfl]
      · rw [if_neg c2, if_pos (by omega), if_neg (fun q => c2 (t6 _ _ k0 k1 (by omega) (by omega) q))]
        rcases (show mv = 0 ∨ mv = 1 by omega) with e | e <;> subst e
        · rw [if_neg (by omega), if_neg (by omega)]
        · rw [if_pos (by omega), if_pos rfl, Int.neg_neg]
    · rw [hv, sz6_pyN (N := tn) (by omega) t5 (by omega) _ (by omega)]
      exact t9
    · split
      · omega
      · exact t10
/-! the record -/
theorem jzH_ph {q m : Int} (h : jzH ph mv tu hv fi fd fn fr0 w42 w43 bs n) (hp : ph ≠ 45 → m = mv) (hq : q = 45 ∨ ph ≠ 45) : jzH q m tu hv fi fd fn fr0 w42 w43 bs (n + 1) := by
  obtain ⟨r1, r2, r3, r4, r5, T, t1, t2, t3, t4, t5⟩ := h
  exact ⟨by omega, r2, r3, r4, r5, T, t1, t2, t3, t4, fun e => by
    have h1 : ph ≠ 45 := hq.elim (fun h => absurd h e) id
    rw [hp h1]
    exact t5 h1⟩
theorem jzH_begin {v : Int} (hn : 0 ≤ n) (hv9 : 0 ≤ hv ∧ hv < 65536) (hf : 0 ≤ v ∧ v ≤ 1) : jzH 100 v 0 hv v fd fn fr0 w42 w43 (lyP hv) (n + 1) :=
  ⟨by omega, hv9, hf, fun k h0 h1 => by omega, fun k h0 h1 => by omega, [], rfl, fun k h => absurd h (Nat.not_lt_zero _), trivial, rfl, fun _ => rfl⟩
theorem jzH_play {q m k dn rk : Int} {r : Row} (h : jzH ph mv tu hv fi fd fn fr0 w42 w43 bs n) (hp : ph ≠ 45) (hl : lgR mv bs r) (h4 : r.length ≤ 4) (hr : rk = rc r) (hm : q ≠ 45 → m = 1 - mv) : jzH q m (tu + 1) hv fi (up fd tu dn) (up fn tu k) (up fr0 tu rk) (up w42 tu k) (up w43 tu dn) (poR mv bs r) (n + 1) := by
  obtain ⟨r1, r2, r3, r4, r5, T, t1, t2, t3, t4, t5⟩ := h
  have e5 := t5 hp
  refine ⟨by omega, r2, r3, fun j h0 h1 => ?_, fun j h0 h1 => ?_, T ++ [r], ?_, fun j hj => ?_, ?_, ?_, fun e => ?_⟩
  · by_cases e : j = tu
    · rw [e, up_s, up_s]
    · rw [up_n _ _ e, up_n _ _ e]
      exact r4 j h0 (by omega)
  · by_cases e : j = tu
    · rw [e, up_s, up_s]
    · rw [up_n _ _ e, up_n _ _ e]
      exact r5 j h0 (by omega)
  · rw [List.length_append, List.length_singleton]
    omega
  · rw [List.length_append, List.length_singleton] at hj
    by_cases e : (j : Int) = tu
    · have e2 : j = T.length := by omega
      rw [e, up_s, hr, e2, List.getD_eq_getElem?_getD, List.getElem?_append_right (Nat.le_refl _), Nat.sub_self]
      rfl
    · have e2 : j < T.length := by omega
      rw [up_n _ _ e, t2 j e2, List.getD_eq_getElem?_getD, List.getD_eq_getElem?_getD, List.getElem?_append_left e2]
  · refine lgT_s T fi (lyP hv) r t3 h4 ?_
    rw [t4, ← e5]
    exact hl
  · rw [rpB_s, t4, ← e5]
  · rw [jzS_s, hm e, e5]
/-! the board and the dice -/
theorem jzB_ph {q m : Int} (h : jzB ph mv hv dg dl gl ll bs bb w11 w12 w18) (hp : ph ≠ 114) (hq : q ≠ 114) (hm : 0 ≤ m ∧ m ≤ 1) : jzB q m hv dg dl gl ll bs bb w11 w12 w18 := by
  obtain ⟨b1, b2, b3, b4, b5, b6, b7, b8, b9, b10, b11, b12, b13⟩ := h
  exact ⟨b1, hm, b3, b4, fun _ => b5 hp, fun e => absurd e hq, b7, b8, fun e => absurd e hq, b10, b11, b12, fun e => absurd e hq⟩
theorem jzB_begin {v : Int} (h : jzB ph mv hv dg dl gl ll bs bb w11 w12 w18) (hv9 : 0 ≤ v ∧ v ≤ 1) {x : Int} : jzB 100 v x dg dl gl ll (lyP x) (lyP x) (lyP x) w12 w18 := by
  obtain ⟨b1, b2, b3, b4, b5, b6, b7, b8, b9, b10, b11, b12, b13⟩ := h
  have e := iz_bk (iz_lyP x)
  exact ⟨e.symm, hv9, iz_lyP x, by rw [e]; exact iz_lyP x, fun _ => e.symm, fun q => absurd q (by omega), b7, b8, fun q => absurd q (by omega), b10, b11, b12, fun q => absurd q (by omega)⟩
/-- a play made: the position behind it -/
theorem jzB_play {q m : Int} {b2 : Int → Int} (h : jzB ph mv hv dg dl gl ll bs bb w11 w12 w18) (hb : VB (lyE hv) b2) (hq : q ≠ 114) (hm : 0 ≤ m ∧ m ≤ 1) : jzB q m hv dg dl gl ll b2 b2 (wb w11 0 b2) w12 w18 := by
  obtain ⟨b1, b2', b3, b4, b5, b6, b7, b8, b9, b10, b11, b12, b13⟩ := h
  have e : bk (wb w11 0 b2) 0 = b2 := bk_wb hb
  exact ⟨e.symm, hm, hb, by rw [e]; exact hb, fun _ => e.symm, fun e2 => absurd e2 hq, b7, b8, fun e2 => absurd e2 hq, b10, b11, b12, fun e2 => absurd e2 hq⟩
theorem jzB_roll {x y : Int} (h : jzB ph mv hv dg dl gl ll bs bb w11 w12 w18) (hp : ph = 100) (hx : 1 ≤ x ∧ x ≤ 6) (hy : 1 ≤ y ∧ y ≤ 6) : jzB 114 mv hv (zmax x y) (zmin x y) (if zmax x y = zmin x y then 4 else 1) (if zmax x y = zmin x y then 0 else 1) bs bb w11 (wb w12 0 (bk w11 0)) (gdF w18 (zmax x y) (zmin x y) 7) := by
  obtain ⟨b1, b2, b3, b4, b5, b6, b7, b8, b9, b10, b11, b12, b13⟩ := h
  have e : bk (wb w12 0 (bk w11 0)) 0 = bk w11 0 := bk_wb b4
  have h1 : 1 ≤ zmin x y ∧ zmin x y ≤ zmax x y ∧ zmax x y ≤ 6 := by
    unfold zmin zmax
    split <;> split <;> omega
  generalize zmax x y = g at h1 ⊢
  generalize zmin x y = l at h1 ⊢
  refine ⟨b1, b2, b3, b4, fun q => absurd rfl q, fun _ => by rw [e]; exact b5 (by omega), by omega, by omega, fun _ => by omega, by split <;> omega, by split <;> omega, fun k h0 h2 => ?_, fun _ => ⟨fun q => if_pos q, fun d h0 h2 => ?_⟩⟩
  · unfold gdF gdV
    rw [if_pos (by omega)]
    split
    · omega
    · split <;> omega
  · unfold gdF gdV
    rw [if_pos (by omega)]
    by_cases c : g = l
    · rw [if_pos c, if_pos c]
      by_cases c2 : d = g
      · rw [if_pos (by omega), if_pos c2]
      · rw [if_neg (by omega), if_neg (by omega), if_neg c2, if_neg (by omega)]
    · rw [if_neg c, if_neg c]
      by_cases c2 : d = g
      · rw [if_neg (by omega), if_pos (by omega), if_pos c2]
      · rw [if_neg (by omega), if_neg c2]
        by_cases c3 : d = l
        · rw [if_pos (by omega), if_pos c3]
        · rw [if_neg (by omega), if_neg c3]
theorem jzB_left {d : Int} (h : jzB ph mv hv dg dl gl ll bs bb w11 w12 w18) (hp : ph = 114) : (1 ≤ d ∧ d ≤ 6) ∧ 0 < w18 d ↔ (d = dg ∧ 0 < gl) ∨ (d = dl ∧ 0 < ll) := by
  obtain ⟨b1, b2, b3, b4, b5, b6, b7, b8, b9, b10, b11, b12, b13⟩ := h
  have h9 := b9 hp
  have h13 := b13 hp
  constructor
  · rintro ⟨h1, h2⟩
    rw [h13.2 d h1.1 h1.2] at h2
    by_cases c : d = dg
    · rw [if_pos c] at h2
      exact Or.inl ⟨c, h2⟩
    · rw [if_neg c] at h2
      by_cases c2 : d = dl
      · rw [if_pos c2] at h2
        exact Or.inr ⟨c2, h2⟩
      · rw [if_neg c2] at h2
        omega
  · intro h1
    have h2 : 1 ≤ d ∧ d ≤ 6 := by omega
    refine ⟨h2, ?_⟩
    rw [h13.2 d h2.1 h2.2]
    by_cases c : d = dg
    · rw [if_pos c]
      omega
    · rw [if_neg c, if_pos (by omega)]
      omega
theorem jzB_move {f d : Int} (h : jzB ph mv hv dg dl gl ll bs bb w11 w12 w18) (hp : ph = 114) (hd : (d = dg ∧ 0 < gl) ∨ (d = dl ∧ 0 < ll)) (hc : canP (bk w11 0) mv f d) : jzB ph mv hv dg dl (if d = dg then gl - 1 else gl) (if d = dg then ll else ll - 1) bs (stp (bk w11 0) mv f d) (wb w11 0 (stp (bk w11 0) mv f d)) w12 (up w18 d (w18 d - 1)) := by
  have hl := (jzB_left (d := d) h hp).mpr hd
  obtain ⟨b1, b2, b3, b4, b5, b6, b7, b8, b9, b10, b11, b12, b13⟩ := h
  have h9 := b9 hp
  have h13 := b13 hp
  have hV := hc.VB b4 b2 hl.1.1
  have e : bk (wb w11 0 (stp (bk w11 0) mv f d)) 0 = stp (bk w11 0) mv f d := bk_wb hV
  refine ⟨e.symm, b2, b3, by rw [e]; exact hV, fun q => absurd hp q, b6, b7, b8, b9, by split <;> omega, by split <;> omega, fun k h0 h1 => ?_, fun _ => ⟨fun q => ?_, fun k h0 h1 => ?_⟩⟩
  · by_cases c : k = d
    · rw [c, up_s]
      have := b12 d (by omega) (by omega)
      omega
    · rw [up_n _ _ c]
      exact b12 k h0 h1
  · have := h13.1 q
    rw [if_pos (by omega)]
    exact this
  · by_cases c : k = d
    · rw [c, up_s, h13.2 d hl.1.1 hl.1.2]
      by_cases c2 : d = dg
      · rw [if_pos c2, if_pos c2, if_pos c2]
      · rw [if_neg c2, if_neg c2, if_neg c2, if_pos (by omega), if_pos (by omega)]
    · rw [up_n _ _ c, h13.2 k h0 h1]
      by_cases c2 : k = dg
      · rw [if_pos c2, if_pos c2, if_neg (by omega)]
      · rw [if_neg c2, if_neg c2]
        by_cases c3 : k = dl
        · rw [if_pos c3, if_pos c3, if_pos (by omega)]
        · rw [if_neg c3, if_neg c3]
theorem jzB_undo (h : jzB ph mv hv dg dl gl ll bs bb w11 w12 w18) (hp : ph = 114) : jzB ph mv hv dg dl (if dg = dl then 4 else 1) (if dg = dl then 0 else 1) bs bs (wb w11 0 (bk w12 0)) w12 (gdF w18 dg dl 7) := by
  obtain ⟨b1, b2, b3, b4, b5, b6, b7, b8, b9, b10, b11, b12, b13⟩ := h
  have h6 := b6 hp
  have h9 := b9 hp
  have e : bk (wb w11 0 (bk w12 0)) 0 = bs := by
    rw [← h6]
    exact bk_wb b3
  refine ⟨e.symm, b2, b3, by rw [e]; exact b3, fun q => absurd hp q, b6, b7, b8, b9, by split <;> omega, by split <;> omega, fun k h0 h2 => ?_, fun _ => ⟨fun q => if_pos q, fun d h0 h2 => ?_⟩⟩
  · unfold gdF gdV
    rw [if_pos (by omega)]
    split
    · omega
    · split <;> omega
  · unfold gdF gdV
    rw [if_pos (by omega)]
    by_cases c : dg = dl
    · rw [if_pos c, if_pos c]
      by_cases c2 : d = dg
      · rw [if_pos (by omega), if_pos c2]
      · rw [if_neg (by omega), if_neg (by omega), if_neg c2, if_neg (by omega)]
    · rw [if_neg c, if_neg c]
      by_cases c2 : d = dg
      · rw [if_neg (by omega), if_pos (by omega), if_pos c2]
      · rw [if_neg (by omega), if_neg c2]
        by_cases c3 : d = dl
        · rw [if_pos (by omega), if_pos c3]
        · rw [if_neg (by omega), if_neg c3]
/-! the plays -/
theorem jzL_ph {q m x y : Int} {b2 : Int → Int} (h : jzL ph mv dg dl cnt ln gr fr fw fc fh bs w21 w22 w23 w24 w25) (hq : q ≠ 114) : jzL q m x y cnt ln gr fr fw fc fh b2 w21 w22 w23 w24 w25 := by
  obtain ⟨l1, l2, l3, l4, l5, l6, l7, l8, l9⟩ := h
  exact ⟨l1, l2, l3, l4, l5, l6, l7, l8, fun e => absurd e hq⟩
theorem jzL_roll {x y cnt2 ln2 gr2 n0 : Int} {fr2 fw2 fc2 fh2 e21 e22 e23 e24 e25 : Int → Int} (hv : VB n0 bs) (hn : n0 ≤ 15) (hm : 0 ≤ mv ∧ mv ≤ 1) (hx : 1 ≤ x ∧ x ≤ 6) (hy : 1 ≤ y ∧ y ≤ 6) (hR : RepP bs mv (plc mv bs (zmax x y) (zmin x y)).2 fr2 fw2 cnt2 gr2) (hl : ln2 = (plc mv bs (zmax x y) (zmin x y)).1) (h6 : ∀ k, -2000000000000000000 ≤ fc2 k ∧ fc2 k ≤ 2000000000000000000) (h7 : ∀ k, 0 ≤ fh2 k ∧ fh2 k ≤ 1073741824) {c9 : Int} (hP : PlM mv bs (plc mv bs (zmax x y) (zmin x y)).2 e21 e22 e23 e24 e25 c9) : jzL 114 mv (zmax x y) (zmin x y) cnt2 ln2 gr2 fr2 fw2 fc2 fh2 bs e21 e22 e23 e24 e25 := by
  have h1 : 1 ≤ zmin x y ∧ zmin x y ≤ zmax x y ∧ zmax x y ≤ 6 := by
    unfold zmin zmax
    split <;> split <;> omega
  generalize zmax x y = g at h1 hR hl hP ⊢
  generalize zmin x y = l at h1 hR hl hP ⊢
  have hc : cnt2 = c9 := by rw [hR.1, hP.1]
  subst hc
  have hcap := plc_cap (g := g) (x := l) hv hn hm (by omega) (by omega)
  have hln := plc_ln (g := g) (l := l) hv hm (by omega) (by omega) (by omega)
  have hlg := plc_lg (g := g) (l := l) hv hm (by omega) (by omega) (by omega)
  have hg := RepP_gr hR
  have hR1 := hR.1
  refine ⟨by omega, by omega, hg.2, fun k h0 h2 => ?_, hR.2.2.2, h6, h7, fun k h0 h2 => ?_, fun _ => ⟨hR, hP, fun r hr => by rw [hl]; exact hlg r hr⟩⟩
  · have h3 := RepP_w hR ⟨h0, h2⟩
    rw [h3.2]
    have h4 := hlg _ (gD_m (l := (plc mv bs g l).2) (i := k.toNat) (x := []) (by omega))
    exact rc_4 h4.1 (by omega)
  · have h3 := (hP.2.2 k.toNat (by omega)).2.1
    have h4 := hlg _ (gD_m (l := (plc mv bs g l).2) (i := k.toNat) (x := []) (by omega))
    rw [Int.toNat_of_nonneg h0] at h3
    rw [h3]
    omega
/-- what a play's number tells -/
theorem jzL_at {k : Int} (h : jzL ph mv dg dl cnt ln gr fr fw fc fh bs w21 w22 w23 w24 w25) (hp : ph = 114) (hm : 0 ≤ mv ∧ mv ≤ 1) (h0 : 0 ≤ k) (h1 : k < cnt) : lgR mv bs ((plc mv bs dg dl).2.getD k.toNat []) ∧ ((((plc mv bs dg dl).2.getD k.toNat []).length : Nat) : Int) = ln ∧ fr k = rc ((plc mv bs dg dl).2.getD k.toNat []) ∧ fw gr - fw k = bsW bs mv (plc mv bs dg dl).2 - wthL bs mv (plc mv bs dg dl).2 k ∧ w24 k = ln ∧ w25 k = hiR mv bs ((plc mv bs dg dl).2.getD k.toNat []) ∧
    ∀ j : Int, 0 ≤ j → j < ln → (fr k / p8 j % 256) / 8 = w22 (4 * k + j) ∧ toP ((fr k / p8 j % 256) / 8) ((fr k / p8 j % 256) % 8) = w23 (4 * k + j) := by
  obtain ⟨l1, l2, l3, l4, l5, l6, l7, l8, l9⟩ := h
  obtain ⟨hR, hP, hlg⟩ := l9 hp
  have hR1 := hR.1
  have h3 := RepP_w hR ⟨h0, h1⟩
  have h4 := hlg _ (gD_m (l := (plc mv bs dg dl).2) (i := k.toNat) (x := []) (by omega))
  have hg := RepP_g hR (by omega)
  obtain ⟨-, q2, q3, q4⟩ := hP.2.2 k.toNat (by omega)
  rw [Int.toNat_of_nonneg h0] at q2 q3 q4
  refine ⟨h4.1, h4.2, h3.2, by rw [hg, h3.1], by rw [q2]; exact h4.2, by rw [q3]; exact (iz_hiR hm _ _ h4.1).symm, fun j j0 j1 => ?_⟩
  have h5 := iz_rc ((plc mv bs dg dl).2.getD k.toNat []) bs j.toNat h4.1 (by omega) (by omega)
  have h6 := q4 j.toNat (by omega)
  rw [Int.toNat_of_nonneg j0] at h5 h6
  rw [h3.2, h5.1, h6.1, h6.2]
  generalize ((plc mv bs dg dl).2.getD k.toNat []).getD j.toNat (0, 0) = q at h5 ⊢
  have e1 : (8 * q.1 + q.2) / 8 = q.1 := by omega
  have e2 : (8 * q.1 + q.2) % 8 = q.2 := by omega
  rw [e1, e2]
  exact ⟨rfl, rfl⟩
/-! what was counted -/
theorem jzO_roll {x y : Int} (h : jzO al hi0 fa n) : jzO al hi0 (up (up fa x (fa x + 1)) y (up fa x (fa x + 1) y + 1)) (n + 1) := by
  obtain ⟨o1, o2, o3⟩ := h
  refine ⟨by omega, by omega, fun k => ?_⟩
  have e1 : ∀ k, 0 ≤ up fa x (fa x + 1) k ∧ up fa x (fa x + 1) k ≤ 2 * n + 1 := fun k => by
    by_cases c : k = x
    · rw [c, up_s]
      have := o3 x
      omega
    · rw [up_n _ _ c]
      have := o3 k
      omega
  by_cases c : k = y
  · rw [c, up_s]
    have := e1 y
    omega
  · rw [up_n _ _ c]
    have := e1 k
    omega
theorem jzO_play {z : Int} (h : jzO al hi0 fa n) : jzO (al + 1) (if 0 < z then hi0 + 1 else hi0 + 0) fa (n + 1) := by
  obtain ⟨o1, o2, o3⟩ := h
  exact ⟨by omega, by split <;> omega, fun k => ⟨(o3 k).1, by have := (o3 k).2; omega⟩⟩
end IGROUPS
def lwInv (ph mv sk ho lk op va le ja cr p0 p1 tn tu hv fi al hi0 dg dl gl ll ra cnt ln gr j2 j6 j7 j8 j36 j49 j51 j52 : Int) (se ba fd fn fr0 fa fr fw fc fh qw qc qh bs bb w5 w11 w12 w18 w21 w22 w23 w24 w25 w40 w42 w43 w48 w53 : Int → Int) (fe w38 : Int → UInt64) (n : Int) : Prop :=
  jzM ph sk ho lk op va le ja cr p0 p1 j2 j6 j7 j8 w5 n ∧ jzT tn se ba j49 j51 j52 w48 w53 ∧ jzH ph mv tu hv fi fd fn fr0 w42 w43 bs n ∧ jzB ph mv hv dg dl gl ll bs bb w11 w12 w18 ∧ jzL ph mv dg dl cnt ln gr fr fw fc fh bs w21 w22 w23 w24 w25 ∧ jzR qw qc qh j36 ∧ jzF ra fe w38 w40 ∧ jzO al hi0 fa n
theorem lwInv_mk {ph mv sk ho lk op va le ja cr p0 p1 tn tu hv fi al hi0 dg dl gl ll ra cnt ln gr j2 j6 j7 j8 j36 j49 j51 j52 n : Int} {se ba fd fn fr0 fa fr fw fc fh qw qc qh bs bb w5 w11 w12 w18 w21 w22 w23 w24 w25 w40 w42 w43 w48 w53 : Int → Int} {fe w38 : Int → UInt64} (h1 : jzM ph sk ho lk op va le ja cr p0 p1 j2 j6 j7 j8 w5 n) (h2 : jzT tn se ba j49 j51 j52 w48 w53) (h3 : jzH ph mv tu hv fi fd fn fr0 w42 w43 bs n) (h4 : jzB ph mv hv dg dl gl ll bs bb w11 w12 w18) (h5 : jzL ph mv dg dl cnt ln gr fr fw fc fh bs w21 w22 w23 w24 w25) (h6 : jzR qw qc qh j36) (h7 : jzF ra fe w38 w40) (h8 : jzO al hi0 fa n) : lwInv ph mv sk ho lk op va le ja cr p0 p1 tn tu hv fi al hi0 dg dl gl ll ra cnt ln gr j2 j6 j7 j8 j36 j49 j51 j52 se ba fd fn fr0 fa fr fw fc fh qw qc qh bs bb w5 w11 w12 w18 w21 w22 w23 w24 w25 w40 w42 w43 w48 w53 fe w38 n := ⟨h1, h2, h3, h4, h5, h6, h7, h8⟩
