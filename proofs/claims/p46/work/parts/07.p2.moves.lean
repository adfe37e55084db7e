/-! SINGLE MOVES that go through a play: whichever die bears a man off, they end where the play ends -/
theorem farN_ge {b : Int → Int} {sd p : Int} : ∀ {n : Nat}, 1 ≤ p → p ≤ n → 0 < b (26 * sd + p) → p ≤ farN b sd n
  | 0, h0, h1, _ => by omega
  | n + 1, h0, h1, h2 => by
    rw [farN]
    by_cases q : 0 < b (26 * sd + ((n + 1 : Nat) : Int))
    · rw [if_pos q]
      exact h1
    · rw [if_neg q]
      by_cases q2 : p = ((n + 1 : Nat) : Int)
      · rw [q2] at h2; exact absurd h2 q
      · exact farN_ge h0 (by omega) h2
theorem farN_le {b : Int → Int} {sd x : Int} (hx : 0 ≤ x) : ∀ {n : Nat}, (∀ p : Int, x < p → p ≤ n → b (26 * sd + p) ≤ 0) → farN b sd n ≤ x
  | 0, _ => hx
  | n + 1, h => by
    rw [farN]
    by_cases q : 0 < b (26 * sd + ((n + 1 : Nat) : Int))
    · rw [if_pos q]
      by_cases q2 : x < ((n + 1 : Nat) : Int)
      · have := h _ q2 (Int.le_refl _)
        omega
      · omega
    · rw [if_neg q]
      exact farN_le hx (fun p h1 h2 => h p h1 (by omega))
theorem farN_no {b : Int → Int} {sd p : Int} {n : Nat} (h : farN b sd n < p) (h0 : 1 ≤ p) (h1 : p ≤ n) : ¬ 0 < b (26 * sd + p) := fun h2 => by
  have := farN_ge h0 h1 h2
  omega
/-- how many of a row's moves are with a die -/
def cD (d : Int) : Row → Int
  | [] => 0
  | q :: t => (if q.2 = d then 1 else 0) + cD d t
theorem cD_0 (d : Int) : cD d [] = 0 := rfl
theorem cD_c (d : Int) (q : Int × Int) (t : Row) : cD d (q :: t) = (if q.2 = d then 1 else 0) + cD d t := rfl
theorem cD_nn (d : Int) : ∀ r : Row, 0 ≤ cD d r
  | [] => Int.le_refl _
  | q :: t => by
    have h := cD_nn d t
    rw [cD_c]
    split <;> omega
theorem cD_hit {d : Int} {t : Row} {q : Int × Int} (h : q ∈ t) (hq : q.2 = d) : 1 ≤ cD d t := by
  induction t with
  | nil => simp at h
  | cons w t ih =>
    rw [cD_c]
    have h0 := cD_nn d t
    rcases List.mem_cons.mp h with h1 | h1
    · rw [← h1, if_pos hq]
      omega
    · have := ih h1
      split <;> omega
/-- the dice that are left serve a row -/
def usD (dg dl gl ll : Int) (r : Row) : Prop := (dg = dl ∧ ll = 0 ∧ (∀ q ∈ r, q.2 = dg) ∧ (r.length : Int) ≤ gl) ∨ (dl < dg ∧ gl ≤ 1 ∧ ll ≤ 1 ∧ (∀ q ∈ r, q.2 = dg ∨ q.2 = dl) ∧ cD dg r ≤ gl ∧ cD dl r ≤ ll)
section US
variable {dg dl gl ll mv n0 : Int} {b bT : Int → Int}
theorem usD_hd {q : Int × Int} {t : Row} (h : usD dg dl gl ll (q :: t)) : ((q.2 = dg ∧ 0 < gl) ∨ (q.2 = dl ∧ 0 < ll)) ∧ usD dg dl (if q.2 = dg then gl - 1 else gl) (if q.2 = dg then ll else ll - 1) t := by
  rcases h with ⟨h1, h2, h3, h4⟩ | ⟨h1, h2, h3, h4, h5, h6⟩
  · have e := h3 q List.mem_cons_self
    rw [List.length_cons] at h4
    rw [if_pos e, if_pos e]
    exact ⟨Or.inl ⟨e, by omega⟩, Or.inl ⟨h1, h2, fun x hx => h3 x (List.mem_cons_of_mem _ hx), by omega⟩⟩
  · rw [cD_c] at h5 h6
    have n1 := cD_nn dg t
    have n2 := cD_nn dl t
    have h7 : ∀ x ∈ t, x.2 = dg ∨ x.2 = dl := fun x hx => h4 x (List.mem_cons_of_mem _ hx)
    rcases h4 q List.mem_cons_self with e | e
    · rw [if_pos e] at h5
      rw [if_neg (show ¬ q.2 = dl by omega)] at h6
      rw [if_pos e, if_pos e]
      exact ⟨Or.inl ⟨e, by omega⟩, Or.inr ⟨h1, by omega, h3, h7, by omega, by omega⟩⟩
    · have e2 : ¬ q.2 = dg := by omega
      rw [if_neg e2] at h5
      rw [if_pos e] at h6
      rw [if_neg e2, if_neg e2]
      exact ⟨Or.inr ⟨e, by omega⟩, Or.inr ⟨h1, h2, by omega, h7, by omega, by omega⟩⟩
theorem toP_0 {fr d : Int} (h : fr ≤ d) : toP fr d = 0 := if_neg (by omega)
theorem toP_1 {fr d : Int} (h : 1 ≤ fr) (h2 : toP fr d = 0) : fr ≤ d := by
  unfold toP at h2
  split at h2 <;> omega
theorem toP_2 {fr d : Int} (h : 0 < toP fr d) : d = fr - toP fr d := by
  unfold toP at h ⊢
  split at h
  · rename_i q
    rw [if_pos q]
    omega
  · omega
theorem stp_off {sd fr d d' : Int} (h : fr ≤ d) (h' : fr ≤ d') : stp b sd fr d = stp b sd fr d' := by
  rw [stp_f (fun h9 => by have := h9.1; omega), stp_f (fun h9 => by have := h9.1; omega)]
  unfold mvB
  rw [toP_0 h, toP_0 h']
/-- what is left of a play behind its first j moves -/
def rmR (mv dg dl gl ll : Int) (b bT : Int → Int) (r0 : Row) (j : Nat) : Prop := ∃ r : Row, lgR mv b r ∧ poR mv b r = bT ∧ usD dg dl gl ll r ∧ r.length + j = r0.length ∧ ∀ i : Nat, i < r.length → (r.getD i (0, 0)).1 = (r0.getD (j + i) (0, 0)).1 ∧ toP (r.getD i (0, 0)).1 (r.getD i (0, 0)).2 = toP (r0.getD (j + i) (0, 0)).1 (r0.getD (j + i) (0, 0)).2
theorem rm_0 {r0 : Row} (h1 : lgR mv b r0) (h2 : usD dg dl gl ll r0) : rmR mv dg dl gl ll b (poR mv b r0) r0 0 := ⟨r0, h1, rfl, h2, rfl, fun i _ => by rw [Nat.zero_add]; exact ⟨rfl, rfl⟩⟩
theorem rm_end {r0 : Row} {j : Nat} (h : rmR mv dg dl gl ll b bT r0 j) (hj : r0.length ≤ j) : b = bT := by
  obtain ⟨r, h1, h2, h3, h4, h5⟩ := h
  cases r with
  | nil => exact h2
  | cons q t => rw [List.length_cons] at h4; omega
theorem rm_hd {r0 : Row} {j : Nat} {F T : Int} (h : rmR mv dg dl gl ll b bT r0 j) (hj : j < r0.length) (hv : VB n0 b) (hs : 0 ≤ mv ∧ mv ≤ 1) (eF : (r0.getD j (0, 0)).1 = F) (eT : toP (r0.getD j (0, 0)).1 (r0.getD j (0, 0)).2 = T) : ∃ d, canP b mv F d ∧ (1 ≤ d ∧ d ≤ 6) ∧ toP F d = T ∧ ((d = dg ∧ 0 < gl) ∨ (d = dl ∧ 0 < ll)) ∧ rmR mv dg dl (if d = dg then gl - 1 else gl) (if d = dg then ll else ll - 1) (stp b mv F d) bT r0 (j + 1) ∧ (d ≠ dg → T = 0 → 0 < gl → canP b mv F dg → rmR mv dg dl (gl - 1) ll (stp b mv F dg) bT r0 (j + 1)) := by
  obtain ⟨r, h1, h2, h3, h4, h5⟩ := h
  cases r with
  | nil => simp at h4; omega
  | cons q t =>
    have h50 := h5 0 (by simp)
    rw [Nat.add_zero, eT, eF] at h50
    have e1 : q.1 = F := h50.1
    have e2 : toP q.1 q.2 = T := h50.2
    subst e1
    obtain ⟨c1, c2, c3⟩ := h1
    have hu := usD_hd h3
    rw [List.length_cons] at h4
    have h6 : ∀ i : Nat, i < t.length → (t.getD i (0, 0)).1 = (r0.getD (j + 1 + i) (0, 0)).1 ∧ toP (t.getD i (0, 0)).1 (t.getD i (0, 0)).2 = toP (r0.getD (j + 1 + i) (0, 0)).1 (r0.getD (j + 1 + i) (0, 0)).2 := fun i hi => by
      have h7 := h5 (i + 1) (by rw [List.length_cons]; omega)
      rw [show j + (i + 1) = j + 1 + i by omega] at h7
      exact h7
    refine ⟨q.2, c1, c2, e2, hu.1, ⟨t, c3, h2, hu.2, by omega, h6⟩, fun n1 n2 n3 n4 => ?_⟩
    have hq0 := toP_1 c1.1 (e2.trans n2)
    rcases h3 with ⟨k1, k2, k3, k4⟩ | ⟨k1, k2, k3, k4, k5, k6⟩
    · exact absurd (k3 q List.mem_cons_self) n1
    · have hql : q.2 = dl := (k4 q List.mem_cons_self).resolve_left n1
      have hfar : q.1 = far b mv := by
        rcases n4.2.2.2.2 with m1 | m1
        · omega
        · rcases m1.2.2 with m2 | m2
          · omega
          · exact m2
      have hst : stp b mv q.1 dg = stp b mv q.1 q.2 := stp_off (by omega) hq0
      rw [hst]
      rw [cD_c] at k5 k6
      rw [if_neg n1] at k5
      rw [if_pos hql] at k6
      have z1 := cD_nn dl t
      cases t with
      | nil => exact ⟨[], trivial, h2, Or.inr ⟨k1, by omega, k3, fun x hx => by simp at hx, by rw [cD_0]; omega, by rw [cD_0]; omega⟩, by simp only [List.length_nil] at h4 ⊢; omega, fun i hi => by simp at hi⟩
      | cons w t2 =>
        have hw : w.2 = dg := by
          rcases k4 w (List.mem_cons_of_mem _ List.mem_cons_self) with m1 | m1
          · exact m1
          · have := cD_hit (d := dl) (t := w :: t2) List.mem_cons_self m1
            omega
        have ht2 : t2 = [] := by
          cases t2 with
          | nil => rfl
          | cons w2 t3 =>
            exfalso
            rw [cD_c, if_pos hw] at k5
            rcases k4 w2 (List.mem_cons_of_mem _ (List.mem_cons_of_mem _ List.mem_cons_self)) with m1 | m1
            · have := cD_hit (d := dg) (t := w2 :: t3) List.mem_cons_self m1
              omega
            · have := cD_hit (d := dl) (t := w :: w2 :: t3) (List.mem_cons_of_mem _ List.mem_cons_self) m1
              omega
        subst ht2
        have hv2 := c1.VB hv hs c2.1
        obtain ⟨d1, d2, d3, d4, d5⟩ := c3.1
        have hfb : far (stp b mv q.1 q.2) mv ≤ q.1 := by
          refine farN_le (by have := c1.1; omega) (n := 25) (fun p p1 p2 => ?_)
          have f1 := c1.1
          rw [stp_own hs ⟨c1.1, c1.2.1⟩ c2.1 (by omega), if_neg (by omega), if_neg (by rw [toP_0 hq0]; omega)]
          have f2 : ¬ 0 < b (26 * mv + p) := farN_no (n := 25) (by show far b mv < p; omega) (by omega) (by omega)
          omega
        have hwb : w.1 ≤ far (stp b mv q.1 q.2) mv := farN_ge (n := 25) d1 (by omega) (by have := hv2.1 (26 * mv + w.1); omega)
        have hcw : canP (stp b mv q.1 q.2) mv w.1 dl := by
          refine ⟨d1, d2, d3, d4, Or.inr ?_⟩
          rcases d5 with m1 | m1
          · omega
          · refine ⟨by omega, m1.2.1, Or.inr ?_⟩
            rcases m1.2.2 with m2 | m2
            · omega
            · exact m2
        refine ⟨[(w.1, dl)], ⟨hcw, by omega, trivial⟩, ?_, Or.inr ⟨k1, by omega, k3, fun x hx => ?_, ?_, ?_⟩, by simp only [List.length_cons, List.length_nil] at h4 ⊢; omega, fun i hi => ?_⟩
        · have h8 : stp (stp b mv q.1 q.2) mv w.1 dl = stp (stp b mv q.1 q.2) mv w.1 w.2 := stp_off (by omega) (by omega)
          exact h8.trans h2
        · rw [List.mem_singleton.mp hx]
          exact Or.inr rfl
        · rw [cD_c, cD_0, if_neg (show ¬ dl = dg by omega)]
          omega
        · rw [cD_c, cD_0, if_pos rfl]
          omega
        · have hi0 : i = 0 := by simpa using hi
          subst hi0
          have h8 := h6 0 (by simp)
          refine ⟨h8.1, ?_⟩
          rw [← h8.2]
          show toP w.1 dl = toP w.1 w.2
          rw [toP_0 (by omega), toP_0 (by omega)]
end US
/-! a roll's plays are of its dice -/
theorem adL_mem {s : Int × List Row} {r x : Row} (h : x ∈ (adL s r).2) : x ∈ s.2 ∨ x = r := by
  unfold adL at h
  split at h
  · exact Or.inr (List.mem_singleton.mp h)
  · split at h
    · rcases List.mem_append.mp h with h1 | h1
      · exact Or.inl h1
      · exact Or.inr (List.mem_singleton.mp h1)
    · exact Or.inl h
theorem adLs_mem : ∀ (rs : List Row) (s : Int × List Row) (x : Row), x ∈ (adLs s rs).2 → x ∈ s.2 ∨ x ∈ rs
  | [], s, x, h => Or.inl h
  | r :: t, s, x, h => by
    rcases adLs_mem t (adL s r) x h with h1 | h1
    · rcases adL_mem h1 with h2 | h2
      · exact Or.inl h2
      · exact Or.inr (by rw [h2]; exact List.mem_cons_self)
    · exact Or.inr (List.mem_cons_of_mem _ h1)
theorem lvS_die {sd d : Int} : ∀ {n : Nat} {b : Int → Int} {h : Int} {r : Row}, r ∈ lvS sd d n b h → ∀ q ∈ r, q.2 = d
  | 0, b, h, r, hr, q, hq => by
    rw [lvS, List.mem_singleton] at hr
    rw [hr] at hq
    simp at hq
  | n + 1, b, h, r, hr, q, hq => by
    rw [lvS] at hr
    split at hr
    · rw [List.mem_singleton.mp hr] at hq
      simp at hq
    · obtain ⟨f, -, hf⟩ := List.mem_flatMap.mp hr
      obtain ⟨y, hy, rfl⟩ := List.mem_map.mp hf
      rcases List.mem_cons.mp hq with h1 | h1
      · rw [h1]
      · exact lvS_die hy q h1
theorem adN_mem {sd : Int} {b : Int → Int} : ∀ (R L : List Row) (x : Row), x ∈ R.foldl (adN sd b) L → x ∈ L ∨ x ∈ R
  | [], L, x, h => Or.inl h
  | r :: t, L, x, h => by
    rw [List.foldl_cons] at h
    rcases adN_mem t _ x h with h1 | h1
    · unfold adN at h1
      split at h1
      · exact Or.inl h1
      · rcases List.mem_append.mp h1 with h2 | h2
        · exact Or.inl h2
        · exact Or.inr (by rw [List.mem_singleton.mp h2]; exact List.mem_cons_self)
    · exact Or.inr (List.mem_cons_of_mem _ h1)
theorem prL_mem {sd d1 d2 : Int} {b : Int → Int} {fs : List Int} {r : Row} (h : r ∈ prL sd b d1 d2 fs) : ∃ f f2, r = [(f, d1), (f2, d2)] := by
  obtain ⟨f, -, h9⟩ := List.mem_flatMap.mp h
  obtain ⟨f2, -, h8⟩ := List.mem_map.mp h9
  exact ⟨f, f2, h8.symm⟩
theorem adSin_mem {d : Int} {fs : List Int} {r : Row} (h : r ∈ adSin [] d fs) : ∃ f, r = [(f, d)] := by
  rw [adSin_map, List.nil_append] at h
  obtain ⟨f, -, h8⟩ := List.mem_map.mp h
  exact ⟨f, h8.symm⟩
theorem us_2 {dg dl f f2 : Int} (h : dl < dg) : usD dg dl 1 1 [(f, dg), (f2, dl)] ∧ usD dg dl 1 1 [(f, dl), (f2, dg)] ∧ usD dg dl 1 1 [(f, dg)] ∧ usD dg dl 1 1 [(f, dl)] ∧ usD dg dl 1 1 [] := by
  have e1 : ¬ dl = dg := by omega
  have e2 : ¬ dg = dl := by omega
  refine ⟨Or.inr ⟨h, Int.le_refl _, Int.le_refl _, fun q hq => ?_, ?_, ?_⟩, Or.inr ⟨h, Int.le_refl _, Int.le_refl _, fun q hq => ?_, ?_, ?_⟩, Or.inr ⟨h, Int.le_refl _, Int.le_refl _, fun q hq => ?_, ?_, ?_⟩, Or.inr ⟨h, Int.le_refl _, Int.le_refl _, fun q hq => ?_, ?_, ?_⟩, Or.inr ⟨h, Int.le_refl _, Int.le_refl _, fun q hq => ?_, ?_, ?_⟩⟩
  · rcases List.mem_cons.mp hq with q1 | q1
    · rw [q1]; exact Or.inl rfl
    · rw [List.mem_singleton.mp q1]; exact Or.inr rfl
  · rw [cD_c, cD_c, cD_0, if_pos rfl, if_neg e1]; omega
  · rw [cD_c, cD_c, cD_0, if_neg e2, if_pos rfl]; omega
  · rcases List.mem_cons.mp hq with q1 | q1
    · rw [q1]; exact Or.inr rfl
    · rw [List.mem_singleton.mp q1]; exact Or.inl rfl
  · rw [cD_c, cD_c, cD_0, if_neg e1, if_pos rfl]; omega
  · rw [cD_c, cD_c, cD_0, if_pos rfl, if_neg e2]; omega
  · rw [List.mem_singleton.mp hq]; exact Or.inl rfl
  · rw [cD_c, cD_0, if_pos rfl]; omega
  · rw [cD_c, cD_0, if_neg e2]; omega
  · rw [List.mem_singleton.mp hq]; exact Or.inr rfl
  · rw [cD_c, cD_0, if_neg e1]; omega
  · rw [cD_c, cD_0, if_pos rfl]; omega
  · simp at hq
  · rw [cD_0]; omega
  · rw [cD_0]; omega
theorem plc_us {sd g l : Int} {b : Int → Int} (hgl : l ≤ g) {r : Row} (hr : r ∈ (plc sd b g l).2) : usD g l (if g = l then 4 else 1) (if g = l then 0 else 1) r := by
  by_cases q : g = l
  · rw [plc_a q] at hr
    rw [if_pos q, if_pos q]
    rcases adLs_mem _ _ _ hr with h1 | h1
    · simp at h1
    · have h2 := lvS_len h1
      exact Or.inl ⟨q, rfl, lvS_die h1, by omega⟩
  · rw [plc_u q] at hr
    rw [if_neg q, if_neg q]
    have hlt : l < g := by omega
    by_cases h1 : (unP sd b g l).length = 0
    · by_cases h2 : (adSin [] g (mvZ b sd g 25)).length = 0
      · by_cases h3 : (adSin [] l (mvZ b sd l 25)).length = 0
        · rw [unl_d h1 h2 h3] at hr
          rw [List.mem_singleton.mp hr]
          exact (us_2 (f := 0) (f2 := 0) hlt).2.2.2.2
        · rw [unl_c h1 h2 h3] at hr
          obtain ⟨f, e⟩ := adSin_mem hr
          rw [e]
          exact (us_2 (f2 := 0) hlt).2.2.2.1
      · rw [unl_b h1 h2] at hr
        obtain ⟨f, e⟩ := adSin_mem hr
        rw [e]
        exact (us_2 (f2 := 0) hlt).2.2.1
    · rw [unl_a h1] at hr
      have hr2 : r ∈ adPrs sd b l g (adPrs sd b g l [] (mvZ b sd g 25)) (mvZ b sd l 25) := hr
      rw [adPrs_pr, adPrs_pr] at hr2
      rcases adN_mem _ _ _ hr2 with h2 | h2
      · rcases adN_mem _ _ _ h2 with h3 | h3
        · simp at h3
        · obtain ⟨f, f2, e⟩ := prL_mem h3
          rw [e]
          exact (us_2 hlt).1
      · obtain ⟨f, f2, e⟩ := prL_mem h2
        rw [e]
        exact (us_2 hlt).2.1
