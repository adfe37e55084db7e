/-! THE PLAYS: which one leads to a board; how many there are -/
def eq52 (b b' : Int → Int) : Bool := (List.range 52).all (fun k => decide (b ((k : Nat) : Int) = b' ((k : Nat) : Int)))
theorem eq52_iff {b b' : Int → Int} : eq52 b b' = true ↔ ∀ k : Int, 0 ≤ k → k < 52 → b k = b' k := by
  unfold eq52
  rw [List.all_eq_true]
  constructor
  · intro h k h0 h1
    have h2 := h k.toNat (List.mem_range.mpr (by omega))
    rw [decide_eq_true_iff, Int.toNat_of_nonneg h0] at h2
    exact h2
  · intro h k hk
    rw [List.mem_range] at hk
    rw [decide_eq_true_iff]
    exact h k (by omega) (by omega)
/-- the number of the first row that leads to a board, counted from i; -1: none -/
def fdL (sd : Int) (b0 bb : Int → Int) : List Row → Int → Int
  | [], _ => -1
  | r :: t, i => if eq52 (poR sd b0 r) bb = true then i else fdL sd b0 bb t (i + 1)
def fdI (sd : Int) (b0 bb : Int → Int) (L : List Row) : Int := fdL sd b0 bb L 0
theorem fdL_at {sd : Int} {b0 bb : Int → Int} {L : List Row} {i : Int} (h : 0 ≤ i) (hl : i.toNat < L.length) : fdL sd b0 bb (L.drop i.toNat) i = if eq52 (poR sd b0 (L.getD i.toNat [])) bb = true then i else fdL sd b0 bb (L.drop (i.toNat + 1)) (i + 1) := by
  rw [List.drop_eq_getElem_cons hl, fdL, gD_e hl]
theorem fdL_rg (sd : Int) (b0 bb : Int → Int) : ∀ (L : List Row) (i : Int), 0 ≤ i → -1 ≤ fdL sd b0 bb L i ∧ fdL sd b0 bb L i < i + L.length
  | [], i, h => by rw [fdL]; simp; omega
  | r :: t, i, h => by
    have h1 := fdL_rg sd b0 bb t (i + 1) (by omega)
    rw [fdL, List.length_cons]
    split <;> omega
theorem fdI_lt (sd : Int) (b0 bb : Int → Int) (L : List Row) : -1 ≤ fdI sd b0 bb L ∧ fdI sd b0 bb L < L.length := by
  have h := fdL_rg sd b0 bb L 0 (Int.le_refl _)
  unfold fdI
  omega
theorem plc_cap {b : Int → Int} {sd g x n0 : Int} (hv : VB n0 b) (hn : n0 ≤ 15) (hs : 0 ≤ sd ∧ sd ≤ 1) (h1 : 1 ≤ g) (h2 : 1 ≤ x) : (plc sd b g x).2.length ≤ 3060 := by
  by_cases q : g = x
  · rw [plc_a q]
    have h3 := (adLs_len (lvS sd g 4 b 25) (0, [])).1
    have h4 := cap1 (d := g) hv hn hs h1
    simp only [List.length_nil] at h3
    omega
  · rw [plc_u q]
    have h3 := cap2 (d1 := g) (d2 := x) hv hn hs h1 h2
    have h4 := adPrs_len (sd := sd) (b0 := b) (d1 := g) (d2 := x) (fs := mvZ b sd g 25) (L := [])
    have h5 := adPrs_len (sd := sd) (b0 := b) (d1 := x) (d2 := g) (fs := mvZ b sd x 25) (L := adPrs sd b g x [] (mvZ b sd g 25))
    have h6 := mvZ_cap (d := g) hv hn hs
    have h7 := mvZ_cap (d := x) hv hn hs
    have h8 := adSin_len (d := g) (fs := mvZ b sd g 25) (L := [])
    have h9 := adSin_len (d := x) (fs := mvZ b sd x 25) (L := [])
    simp only [List.length_nil] at h4 h8 h9
    unfold unl
    split
    · show (unP sd b g x).length ≤ 3060
      unfold unP
      omega
    · split
      · show (adSin [] g (mvZ b sd g 25)).length ≤ 3060
        omega
      · split
        · show (adSin [] x (mvZ b sd x 25)).length ≤ 3060
          omega
        · show 1 ≤ 3060
          decide
