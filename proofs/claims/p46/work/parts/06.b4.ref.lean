/-! WHAT THE REFERENCE FINDS is what the class finds -/
theorem map_nil_app (l : List Row) : l.map (([] : Row) ++ ·) = l := by
  rw [show ((([] : Row) ++ ·) : Row → Row) = id from rfl, List.map_id]
theorem rwG_lg {sd on ot : Int} (h1 : 1 ≤ on ∧ on ≤ 6) (h2 : 1 ≤ ot ∧ ot ≤ 6) : ∀ {n : Nat} {mo lf : Int} {b : Int → Int} {r : Row}, r ∈ rwG sd on ot n mo lf b → lgR sd b r
  | 0, _, _, b, r, h => by
    rw [rwG, List.mem_singleton] at h
    subst h
    exact trivial
  | n + 1, mo, lf, b, r, h => by
    have hd : ∀ k : Int, 1 ≤ dK on ot k ∧ dK on ot k ≤ 6 := fun k => by unfold dK; split <;> omega
    have hop : ∀ k e : Int, r ∈ opG (rwG sd on ot n) sd on ot mo lf b k e → lgR sd b r := by
      intro k e h9
      unfold opG at h9
      split at h9
      · obtain ⟨f, hf, h8⟩ := List.mem_flatMap.mp h9
        obtain ⟨y, hy, rfl⟩ := List.mem_map.mp h8
        exact ⟨(mem_mvZw.mp hf).2, hd k, rwG_lg h1 h2 hy⟩
      · exact absurd h9 List.not_mem_nil
    rw [rwG] at h
    split at h
    · rw [List.mem_singleton] at h
      subst h
      exact trivial
    · unfold reG at h
      rw [if_pos rfl] at h
      rcases List.mem_append.mp h with h9 | h9
      · exact hop _ _ h9
      · exact hop _ _ h9
theorem ref_all {n0 sd g l : Int} {b : Int → Int} {nn : Nat} {e34 e35 : Int} (hv : VB n0 b) (hs : 0 ≤ sd ∧ sd ≤ 1) (hg : 1 ≤ g ∧ g ≤ 6) (hl : 1 ≤ l ∧ l ≤ 6) (hgl : l ≤ g) (hnn : nn = if g = l then 4 else 2) (hm : (e34, e35) = (rwG sd g l nn 0 3 b).foldl mS (0, 0)) : (rwG sd g l nn 0 3 b).foldl (pS sd b e34 e35 g l) [] = (plc sd b g l).2 ∧ (plc sd b g l).1 = e34 ∧ (∀ r ∈ (plc sd b g l).2, lgR sd b r ∧ (r.length : Int) = e34) := by
  by_cases q : g = l
  · subst q
    rw [if_pos rfl] at hnn
    subst hnn
    rw [rwG_a (by decide)] at hm ⊢
    exact plc_alike hv hs hg hm
  · rw [if_neg q] at hnn
    subst hnn
    exact plc_unlike hv hs hg hl (by omega) hm
/-- a roll's plays are legal rows of one length, at most four -/
theorem plc_lg {n0 sd g l : Int} {b : Int → Int} (hv : VB n0 b) (hs : 0 ≤ sd ∧ sd ≤ 1) (hg : 1 ≤ g ∧ g ≤ 6) (hl : 1 ≤ l ∧ l ≤ 6) (hgl : l ≤ g) : ∀ r ∈ (plc sd b g l).2, lgR sd b r ∧ (r.length : Int) = (plc sd b g l).1 := by
  have h := ref_all (nn := if g = l then 4 else 2) (e34 := ((rwG sd g l (if g = l then 4 else 2) 0 3 b).foldl mS (0, 0)).1) (e35 := ((rwG sd g l (if g = l then 4 else 2) 0 3 b).foldl mS (0, 0)).2) hv hs hg hl hgl rfl rfl
  intro r hr
  have h1 := h.2.2 r hr
  exact ⟨h1.1, h1.2.trans h.2.1.symm⟩
theorem plc_ln {n0 sd g l : Int} {b : Int → Int} (hv : VB n0 b) (hs : 0 ≤ sd ∧ sd ≤ 1) (hg : 1 ≤ g ∧ g ≤ 6) (hl : 1 ≤ l ∧ l ≤ 6) (hgl : l ≤ g) : 0 ≤ (plc sd b g l).1 ∧ (plc sd b g l).1 ≤ 4 := by
  by_cases q : g = l
  · subst q
    have h := plc_alike (u := ((lvA sd g 4 b).foldl mS (0, 0)).2) (m := ((lvA sd g 4 b).foldl mS (0, 0)).1) hv hs hg rfl
    have h1 := mS_ge (lvA sd g 4 b) (0, 0)
    rw [h.2.1]
    refine ⟨h1.1, ?_⟩
    rcases h1.2.2 with h2 | ⟨r, hr, h2⟩
    · rw [h2]; decide
    · have := (lvA_mem hr).2; omega
  · rw [plc_u q]
    unfold unl
    split
    · refine ⟨?_, ?_⟩ <;> dsimp only <;> omega
    · split
      · refine ⟨?_, ?_⟩ <;> dsimp only <;> omega
      · split <;> (refine ⟨?_, ?_⟩ <;> dsimp only <;> omega)
theorem ref_plc {n0 sd g l : Int} {b : Int → Int} {nn : Nat} {e34 e35 : Int} (hv : VB n0 b) (_ : n0 ≤ 15) (hs : 0 ≤ sd ∧ sd ≤ 1) (hg : 1 ≤ g ∧ g ≤ 6) (hl : 1 ≤ l ∧ l ≤ 6) (hgl : l ≤ g) (hnn : nn = if g = l then 4 else 2) (hm : (e34, e35) = ((rwG sd g l nn 0 3 (poR sd b [])).map ([] ++ ·)).foldl mS (0, 0)) : ((rwG sd g l nn 0 3 (poR sd b [])).map ([] ++ ·)).foldl (pS sd b e34 e35 g l) [] = (plc sd b g l).2 := by
  rw [map_nil_app] at hm ⊢
  exact (ref_all hv hs hg hl hgl hnn hm).1
/-! the greatest worth -/
def wT (sd : Int) (b : Int → Int) (s : Int × Int) (r : Row) : Int × Int := (1, if s.1 ≠ 0 ∧ wth (poR sd b r) sd ≤ s.2 then s.2 else wth (poR sd b r) sd)
theorem wS_flt (sd : Int) (b : Int → Int) (m u on ot : Int) : ∀ (R : List Row) (s : Int × Int), R.foldl (wS sd b m u on ot) s = (R.filter (elB m u on ot)).foldl (wT sd b) s
  | [], s => rfl
  | r :: t, s => by
    rw [List.foldl_cons, wS_flt sd b m u on ot t]
    by_cases q : ¬ (r.length : Int) < m ∧ ¬ (m = 1 ∧ on ≠ ot ∧ hd9 r ≠ u)
    · have e : elB m u on ot r = true := decide_eq_true q
      rw [List.filter_cons_of_pos e, List.foldl_cons]
      congr 1
      unfold wS wSi
      rw [if_pos q]
      rfl
    · have e : ¬ elB m u on ot r = true := fun h => q (of_decide_eq_true h)
      rw [List.filter_cons_of_neg e]
      congr 1
      unfold wS wSi
      rw [if_neg q]
theorem wT_max (sd : Int) (b : Int → Int) : ∀ (E : List Row) (v : Int), v ≤ (E.foldl (wT sd b) (1, v)).2 ∧ (∀ r ∈ E, wth (poR sd b r) sd ≤ (E.foldl (wT sd b) (1, v)).2) ∧ ((E.foldl (wT sd b) (1, v)).2 = v ∨ ∃ r ∈ E, wth (poR sd b r) sd = (E.foldl (wT sd b) (1, v)).2)
  | [], v => ⟨Int.le_refl _, fun r hr => absurd hr List.not_mem_nil, Or.inl rfl⟩
  | r :: t, v => by
    rw [List.foldl_cons]
    have e : wT sd b (1, v) r = (1, if wth (poR sd b r) sd ≤ v then v else wth (poR sd b r) sd) := by
      unfold wT
      by_cases q : wth (poR sd b r) sd ≤ v
      · rw [if_pos ⟨by show (1 : Int) ≠ 0; decide, q⟩, if_pos q]
      · rw [if_neg (fun h => q h.2), if_neg q]
    rw [e]
    have h1 := wT_max sd b t (if wth (poR sd b r) sd ≤ v then v else wth (poR sd b r) sd)
    by_cases q : wth (poR sd b r) sd ≤ v
    · rw [if_pos q] at h1 ⊢
      refine ⟨h1.1, fun x hx => ?_, ?_⟩
      · rcases List.mem_cons.mp hx with h | h
        · rw [h]; omega
        · exact h1.2.1 x h
      · rcases h1.2.2 with h | ⟨x, hx, h⟩
        · exact Or.inl h
        · exact Or.inr ⟨x, List.mem_cons_of_mem _ hx, h⟩
    · rw [if_neg q] at h1 ⊢
      refine ⟨by omega, fun x hx => ?_, ?_⟩
      · rcases List.mem_cons.mp hx with h | h
        · rw [h]; exact h1.1
        · exact h1.2.1 x h
      · rcases h1.2.2 with h | ⟨x, hx, h⟩
        · exact Or.inr ⟨r, List.mem_cons_self, h.symm⟩
        · exact Or.inr ⟨x, List.mem_cons_of_mem _ hx, h⟩
theorem dd_cov {E : Row → Row → Bool} (hr : ∀ x, E x x = true) : ∀ (R L : List Row), (∀ r ∈ R.foldl (ddS E) L, r ∈ L ∨ r ∈ R) ∧ (∀ r ∈ L, r ∈ R.foldl (ddS E) L) ∧ (∀ r ∈ R, ∃ x ∈ R.foldl (ddS E) L, E x r = true)
  | [], L => ⟨fun r h => Or.inl h, fun r h => h, fun r h => absurd h List.not_mem_nil⟩
  | r :: t, L => by
    rw [List.foldl_cons]
    obtain ⟨h1, h2, h3⟩ := dd_cov hr t (ddS E L r)
    have hs : (∀ x ∈ ddS E L r, x ∈ L ∨ x = r) ∧ (∀ x ∈ L, x ∈ ddS E L r) ∧ (∃ x ∈ ddS E L r, E x r = true) := by
      unfold ddS
      split
      · next q =>
        rw [List.any_eq_true] at q
        exact ⟨fun x hx => Or.inl hx, fun x hx => hx, q⟩
      · refine ⟨fun x hx => ?_, fun x hx => List.mem_append_left _ hx, ⟨r, List.mem_append_right _ (List.mem_singleton.mpr rfl), hr r⟩⟩
        rcases List.mem_append.mp hx with h | h
        · exact Or.inl h
        · exact Or.inr (List.mem_singleton.mp h)
    refine ⟨fun x hx => ?_, fun x hx => h2 x (hs.2.1 x hx), fun x hx => ?_⟩
    · rcases h1 x hx with h | h
      · rcases hs.1 x h with h | h
        · exact Or.inl h
        · rw [h]; exact Or.inr List.mem_cons_self
      · exact Or.inr (List.mem_cons_of_mem _ h)
    · rcases List.mem_cons.mp hx with h | h
      · obtain ⟨y, hy, hy2⟩ := hs.2.2
        rw [h]
        exact ⟨y, h2 y hy, hy2⟩
      · exact h3 x h
theorem grW_max (w : Int → Int) : ∀ (n i : Nat), i < n → w i ≤ w (grW w n)
  | 0, i, h => absurd h (Nat.not_lt_zero _)
  | n + 1, i, h => by
    rw [grW]
    by_cases q0 : n = 0
    · rw [if_pos q0]
      rw [show i = 0 by omega]
      exact Int.le_refl _
    · rw [if_neg q0]
      by_cases q : i = n
      · rw [q]
        split <;> omega
      · have := grW_max w n i (by omega)
        split <;> omega
theorem grW_st {w : Int → Int} {n : Nat} (h : 1 ≤ n) : grW w (n + 1) = if w (grW w n) < w n then n else grW w n := by
  rw [grW, if_neg (by omega)]
theorem bsW_max {b0 : Int → Int} {sd : Int} {L : List Row} (hL : L ≠ []) : (∃ r ∈ L, wth (poR sd b0 r) sd = bsW b0 sd L) ∧ ∀ r ∈ L, wth (poR sd b0 r) sd ≤ bsW b0 sd L := by
  have hl := List.length_pos_iff.mpr hL
  have h1 := grW_lt (wthL b0 sd L) L.length
  have h2 : bsN b0 sd L = ((grW (wthL b0 sd L) L.length : Nat) : Int) := by unfold bsN grZ; rw [Int.toNat_natCast]
  constructor
  · refine ⟨L.getD (grW (wthL b0 sd L) L.length) [], gD_m (by omega), ?_⟩
    unfold bsW
    rw [h2]
    show _ = wth (poR sd b0 (L.getD ((grW (wthL b0 sd L) L.length : Nat) : Int).toNat [])) sd
    rw [Int.toNat_natCast]
  · intro r hr
    obtain ⟨i, hi, rfl⟩ := List.getElem_of_mem hr
    have h3 := grW_max (wthL b0 sd L) L.length i hi
    unfold bsW
    rw [h2]
    have h4 : wthL b0 sd L (i : Int) = wth (poR sd b0 L[i]) sd := by
      unfold wthL
      rw [Int.toNat_natCast, gD_e hi]
    omega
theorem ref_rpw {n0 sd g l : Int} {b : Int → Int} {nn : Nat} {e34 e35 x : Int} (hv : VB n0 b) (_ : n0 ≤ 15) (hs : 0 ≤ sd ∧ sd ≤ 1) (hg : 1 ≤ g ∧ g ≤ 6) (hl : 1 ≤ l ∧ l ≤ 6) (hgl : l ≤ g) (hnn : nn = if g = l then 4 else 2) (hm : (e34, e35) = ((rwG sd g l nn 0 3 (poR sd b [])).map ([] ++ ·)).foldl mS (0, 0)) : (((rwG sd g l nn 0 3 (poR sd b [])).map ([] ++ ·)).foldl (wS sd b e34 e35 g l) (0, x)).2 = rpW b sd g l := by
  rw [map_nil_app] at hm ⊢
  have hp := (ref_all hv hs hg hl hgl hnn hm).1
  have hm9 : ∀ {r : Row}, r ∈ rwG sd g l nn 0 3 b → lgR sd b r := fun h => rwG_lg hg hl h
  show ((rwG sd g l nn 0 3 b).foldl (wS sd b e34 e35 g l) (0, x)).2 = _
  rw [pS_flt] at hp
  rw [wS_flt]
  obtain ⟨c1, -, c3⟩ := dd_cov (E := fun x r => eq52 (poR sd b x) (poR sd b r)) (fun x => eq52_r _) ((rwG sd g l nn 0 3 b).filter (elB e34 e35 g l)) []
  rw [hp] at c1 c3
  have hne := plc_ne sd b g l
  obtain ⟨m1, m2⟩ := bsW_max (b0 := b) (sd := sd) hne
  have hw : ∀ r y : Row, r ∈ rwG sd g l nn 0 3 b → y ∈ rwG sd g l nn 0 3 b → eq52 (poR sd b y) (poR sd b r) = true → wth (poR sd b y) sd = wth (poR sd b r) sd := fun r y hr hy h9 => by
    rw [VB_ext (lgR_of_poR hv hs (hm9 hy)) (lgR_of_poR hv hs (hm9 hr)) (eq52_iff.mp h9)]
  have hE : (rwG sd g l nn 0 3 b).filter (elB e34 e35 g l) ≠ [] := by
    intro h9
    obtain ⟨r, hr, -⟩ := m1
    rcases c1 r hr with h8 | h8
    · exact absurd h8 List.not_mem_nil
    · rw [h9] at h8; exact absurd h8 List.not_mem_nil
  obtain ⟨r0, t0, e0⟩ := List.exists_cons_of_ne_nil hE
  have hW : (∀ r ∈ (rwG sd g l nn 0 3 b).filter (elB e34 e35 g l), wth (poR sd b r) sd ≤ (((rwG sd g l nn 0 3 b).filter (elB e34 e35 g l)).foldl (wT sd b) (0, x)).2) ∧ ∃ r ∈ (rwG sd g l nn 0 3 b).filter (elB e34 e35 g l), wth (poR sd b r) sd = (((rwG sd g l nn 0 3 b).filter (elB e34 e35 g l)).foldl (wT sd b) (0, x)).2 := by
    rw [e0, List.foldl_cons]
    have e : wT sd b (0, x) r0 = (1, wth (poR sd b r0) sd) := by
      unfold wT
      rw [if_neg (fun h => h.1 rfl)]
    rw [e]
    have h1 := wT_max sd b t0 (wth (poR sd b r0) sd)
    refine ⟨fun r hr => ?_, ?_⟩
    · rcases List.mem_cons.mp hr with h | h
      · rw [h]; exact h1.1
      · exact h1.2.1 r h
    · rcases h1.2.2 with h | ⟨r, hr, h⟩
      · exact ⟨r0, List.mem_cons_self, h.symm⟩
      · exact ⟨r, List.mem_cons_of_mem _ hr, h⟩
  show _ = bsW b sd (plc sd b g l).2
  have l1 : (((rwG sd g l nn 0 3 b).filter (elB e34 e35 g l)).foldl (wT sd b) (0, x)).2 ≤ bsW b sd (plc sd b g l).2 := by
    obtain ⟨r, hr, h9⟩ := hW.2
    obtain ⟨y, hy, hy2⟩ := c3 r hr
    have h8 := m2 y hy
    have hyR : y ∈ rwG sd g l nn 0 3 b := by
      rcases c1 y hy with h7 | h7
      · exact absurd h7 List.not_mem_nil
      · exact (List.mem_filter.mp h7).1
    have h7 := hw r y (List.mem_filter.mp hr).1 hyR hy2
    omega
  have l2 : bsW b sd (plc sd b g l).2 ≤ (((rwG sd g l nn 0 3 b).filter (elB e34 e35 g l)).foldl (wT sd b) (0, x)).2 := by
    obtain ⟨r, hr, h9⟩ := m1
    rcases c1 r hr with h8 | h8
    · exact absurd h8 List.not_mem_nil
    · have := hW.1 r h8
      omega
  omega
/-! the reference's plays read -/
def PlE (sd : Int) (b0 : Int → Int) (L : List Row) (en : Int → Int) (pl : Int) : Prop := pl = L.length ∧ (∀ r ∈ L, lgR sd b0 r ∧ r.length ≤ 4) ∧ ∀ i : Nat, i < L.length → bk en (52 * (i : Int)) = poR sd b0 (L.getD i [])
theorem PlM.e {sd : Int} {b0 : Int → Int} {L : List Row} {en fm tm mn ht : Int → Int} {pl : Int} (h : PlM sd b0 L en fm tm mn ht pl) : PlE sd b0 L en pl := ⟨h.1, h.2.1, fun i hi => (h.2.2 i hi).1⟩
section PLE
variable {sd n0 pl k : Int} {b0 en : Int → Int} {L : List Row}
theorem PlE_w (h : PlE sd b0 L en pl) (hk : 0 ≤ k ∧ k < pl) : bk en (52 * k) = poR sd b0 (L.getD k.toNat []) := by
  have h1 := h.2.2 k.toNat (by have := h.1; omega)
  rwa [Int.toNat_of_nonneg hk.1] at h1
theorem PlE_v (h : PlE sd b0 L en pl) (hv : VB n0 b0) (hs : 0 ≤ sd ∧ sd ≤ 1) (hk : 0 ≤ k ∧ k < pl) : VB n0 (poR sd b0 (L.getD k.toNat [])) :=
  lgR_of_poR hv hs (h.2.1 _ (gD_m (by have := h.1; omega))).1
theorem PlE_rg (h : PlE sd b0 L en pl) (hv : VB n0 b0) (hn : n0 ≤ 15) (hs : 0 ≤ sd ∧ sd ≤ 1) (hk : 0 ≤ k ∧ k < pl) : -100000 ≤ wthL b0 sd L k ∧ wthL b0 sd L k ≤ 100000 := wth_rg (PlE_v h hv hs hk) hn
theorem bsW_rg (h : PlE sd b0 L en pl) (hv : VB n0 b0) (hn : n0 ≤ 15) (hs : 0 ≤ sd ∧ sd ≤ 1) (hp : 0 < pl) : -100000 ≤ bsW b0 sd L ∧ bsW b0 sd L ≤ 100000 := by
  obtain ⟨⟨r, hr, h1⟩, -⟩ := bsW_max (b0 := b0) (sd := sd) (L := L) (fun h9 => by have h8 := h.1; rw [h9] at h8; simp at h8; omega)
  rw [← h1]
  exact wth_rg (lgR_of_poR hv hs (h.2.1 r hr).1) hn
end PLE
theorem dcR_0 {on ot : Int} : dcR on ot 0 3 (if on = ot then 4 else 2) := by
  refine ⟨Int.le_refl _, by decide, by decide, ?_⟩
  by_cases q : on = ot
  · rw [if_pos q]
    exact Or.inl ⟨q, by decide⟩
  · rw [if_neg q]
    exact Or.inr ⟨q, by decide, by decide⟩
