/-! LAYOUTS, ENDINGS, the record played again, equities -/
theorem tab_of {G : wG} {A : Nat → Prop} {U : State} {H : Heap} (h : wBd G A U H) : wLay G.2.2.1 8 lyB "LAYOUT_B" A U H ∧ wLay G.2.2.2.1 10 lyN "LAYOUT_N" A U H ∧ wLay G.2.2.2.2.1 6 lyH "LAYOUT_H" A U H ∧ wLay G.2.2.2.2.2 0 lyZ "NO_LAYOUT" A U H := ⟨h.2.2.2.2.1, h.2.2.2.2.2.1, h.2.2.2.2.2.2.1, h.2.2.2.2.2.2.2.1⟩
/-- a layout by its letter: where it lies, how long it is, what it holds -/
def lyT (G : wG) (v : Int) : Nat := if v = 98 then G.2.2.1 else if v = 110 then G.2.2.2.1 else if v = 104 then G.2.2.2.2.1 else G.2.2.2.2.2
def lyM (v : Int) : Nat := if v = 98 then 4 else if v = 110 then 5 else if v = 104 then 3 else 0
def lyV (v : Int) : Int → Int := if v = 98 then lyB else if v = 110 then lyN else if v = 104 then lyH else lyZ
theorem lyT_b {G : wG} {v : Int} (h : v = 98) : lyT G v = G.2.2.1 := if_pos h
theorem lyT_n {G : wG} {v : Int} (h0 : v ≠ 98) (h : v = 110) : lyT G v = G.2.2.2.1 := by unfold lyT; rw [if_neg h0, if_pos h]
theorem lyT_h {G : wG} {v : Int} (h0 : v ≠ 98) (h1 : v ≠ 110) (h : v = 104) : lyT G v = G.2.2.2.2.1 := by unfold lyT; rw [if_neg h0, if_neg h1, if_pos h]
theorem lyT_z {G : wG} {v : Int} (h0 : v ≠ 98) (h1 : v ≠ 110) (h : v ≠ 104) : lyT G v = G.2.2.2.2.2 := by unfold lyT; rw [if_neg h0, if_neg h1, if_neg h]
theorem ly_cs (v : Int) : v = 98 ∨ v = 110 ∨ v = 104 ∨ (v ≠ 98 ∧ v ≠ 110 ∧ v ≠ 104) := by omega
theorem lyM_le (v : Int) : lyM v ≤ 5 := by
  unfold lyM
  split
  · decide
  · split
    · decide
    · split <;> decide
theorem lay_of {G : wG} {A : Nat → Prop} {U : State} {H : Heap} (h : wBd G A U H) (v : Int) : ∃ nm, wLay (lyT G v) (2 * lyM v) (lyV v) nm A U H := by
  obtain ⟨h1, h2, h3, h4⟩ := tab_of h
  unfold lyT lyM lyV
  split
  · exact ⟨_, h1⟩
  · split
    · exact ⟨_, h2⟩
    · split
      · exact ⟨_, h3⟩
      · exact ⟨_, h4⟩
theorem lyB_rg (k : Int) : 0 ≤ lyB k ∧ lyB k ≤ 25 := by
  unfold lyB
  have h : ∀ i : Nat, 0 ≤ ([24, 2, 13, 5, 8, 3, 6, 5] : List Int).getD i 0 ∧ ([24, 2, 13, 5, 8, 3, 6, 5] : List Int).getD i 0 ≤ 25 := fun i => by
    by_cases q : i < 8
    · rcases (show i = 0 ∨ i = 1 ∨ i = 2 ∨ i = 3 ∨ i = 4 ∨ i = 5 ∨ i = 6 ∨ i = 7 by omega) with q | q | q | q | q | q | q | q <;> subst q <;> decide
    · rw [List.getD_eq_getElem?_getD, List.getElem?_eq_none (by simpa using q)]
      decide
  exact h _
theorem lyN_rg (k : Int) : 0 ≤ lyN k ∧ lyN k ≤ 25 := by
  unfold lyN
  have h : ∀ i : Nat, 0 ≤ ([24, 2, 23, 2, 13, 4, 8, 3, 6, 4] : List Int).getD i 0 ∧ ([24, 2, 23, 2, 13, 4, 8, 3, 6, 4] : List Int).getD i 0 ≤ 25 := fun i => by
    by_cases q : i < 10
    · rcases (show i = 0 ∨ i = 1 ∨ i = 2 ∨ i = 3 ∨ i = 4 ∨ i = 5 ∨ i = 6 ∨ i = 7 ∨ i = 8 ∨ i = 9 by omega) with q | q | q | q | q | q | q | q | q | q <;> subst q <;> decide
    · rw [List.getD_eq_getElem?_getD, List.getElem?_eq_none (by simpa using q)]
      decide
  exact h _
theorem lyH_rg (k : Int) : 0 ≤ lyH k ∧ lyH k ≤ 25 := by
  unfold lyH
  have h : ∀ i : Nat, 0 ≤ ([24, 1, 23, 1, 22, 1] : List Int).getD i 0 ∧ ([24, 1, 23, 1, 22, 1] : List Int).getD i 0 ≤ 25 := fun i => by
    by_cases q : i < 6
    · rcases (show i = 0 ∨ i = 1 ∨ i = 2 ∨ i = 3 ∨ i = 4 ∨ i = 5 by omega) with q | q | q | q | q | q <;> subst q <;> decide
    · rw [List.getD_eq_getElem?_getD, List.getElem?_eq_none (by simpa using q)]
      decide
  exact h _
theorem lyV_rg (v k : Int) : 0 ≤ lyV v k ∧ lyV v k ≤ 25 := by
  unfold lyV
  split
  · exact lyB_rg k
  · split
    · exact lyN_rg k
    · split
      · exact lyH_rg k
      · show (0 : Int) ≤ 0 ∧ (0 : Int) ≤ 25; omega
/-- what is laid out for a letter; its men -/
def lyP (v : Int) : Int → Int := lyF (lyV v) (lyM v)
def lyS (f : Int → Int) : Nat → Int
  | 0 => 0
  | n + 1 => lyS f n + f (2 * (n : Int) + 1)
def lyE (v : Int) : Int := lyS (lyV v) (lyM v)
theorem lyE_cs (v : Int) : ((v = 98 ∨ v = 110) ∧ lyE v = 15) ∨ (v = 104 ∧ lyE v = 3) ∨ (v ≠ 98 ∧ v ≠ 110 ∧ v ≠ 104 ∧ lyE v = 0) := by
  rcases ly_cs v with h | h | h | ⟨h0, h1, h2⟩
  · subst h; exact Or.inl ⟨Or.inl rfl, by decide⟩
  · subst h; exact Or.inl ⟨Or.inr rfl, by decide⟩
  · subst h; exact Or.inr (Or.inl ⟨rfl, by decide⟩)
  · refine Or.inr (Or.inr ⟨h0, h1, h2, ?_⟩)
    unfold lyE lyV lyM
    rw [if_neg h0, if_neg h1, if_neg h2, if_neg h0, if_neg h1, if_neg h2]
    rfl
/-- a side has one or two men left, all at home -/
def isE (b : Int → Int) (sd : Int) : Prop := 1 ≤ men b sd - b (26 * sd + 0) ∧ men b sd - b (26 * sd + 0) ≤ 2 ∧ far b sd ≤ 6
/-- the last of the points up to n with a man, else the one given -/
def nrN (b : Int → Int) (sd x : Int) : Nat → Int
  | 0 => x
  | n + 1 => if 0 < b (26 * sd + (n + 1 : Nat)) then (n + 1 : Nat) else nrN b sd x n
def nrZ (b : Int → Int) (sd x i : Int) : Int := nrN b sd x (i - 1).toNat
theorem nrZ_1 (b : Int → Int) (sd x : Int) : nrZ b sd x 1 = x := rfl
theorem nrZ_t {b : Int → Int} {sd x i : Int} (h : 1 ≤ i) (hb : 0 < b (26 * sd + i)) : nrZ b sd x (i + 1) = i := by
  obtain ⟨n, rfl⟩ : ∃ n : Nat, i = (n + 1 : Nat) := ⟨(i - 1).toNat, by omega⟩
  unfold nrZ
  rw [show (((n + 1 : Nat) : Int) + 1 - 1).toNat = n + 1 by omega, nrN, if_pos hb]
theorem nrZ_f {b : Int → Int} {sd x i : Int} (h : 1 ≤ i) (hb : b (26 * sd + i) ≤ 0) : nrZ b sd x (i + 1) = nrZ b sd x i := by
  obtain ⟨n, rfl⟩ : ∃ n : Nat, i = (n + 1 : Nat) := ⟨(i - 1).toNat, by omega⟩
  unfold nrZ
  rw [show (((n + 1 : Nat) : Int) + 1 - 1).toNat = n + 1 by omega, nrN, if_neg (by omega), show (((n + 1 : Nat) : Int) - 1).toNat = n by omega]
def near (b : Int → Int) (sd : Int) : Int := nrZ b sd (if 1 < b (26 * sd + far b sd) then far b sd else 0) (far b sd)
theorem nrZ_rg {b : Int → Int} {sd x : Int} : ∀ {i : Int}, 0 ≤ x ∧ x ≤ 25 → i ≤ 25 → 0 ≤ nrZ b sd x i ∧ nrZ b sd x i ≤ 25 := by
  intro i hx hi
  unfold nrZ
  have h : ∀ n : Nat, n ≤ 25 → 0 ≤ nrN b sd x n ∧ nrN b sd x n ≤ 25 := by
    intro n
    induction n with
    | zero => intro _; exact hx
    | succ n ih =>
      intro hn
      rw [nrN]
      split
      · omega
      · exact ih (by omega)
  exact h _ (by omega)
/-- rows played in turn -/
def rpB : Int → (Int → Int) → List Row → (Int → Int)
  | _, b, [] => b
  | sd, b, r :: t => rpB (1 - sd) (poR sd b r) t
def lgT : Int → (Int → Int) → List Row → Prop
  | _, _, [] => True
  | sd, b, r :: t => r.length ≤ 4 ∧ lgR sd b r ∧ lgT (1 - sd) (poR sd b r) t
/-- equities by the rate, from nothing -/
def eqF (ra : Int) : Nat → Int → Int → Int
  | 0, a, _ => if a ≤ 0 then 1000000 else 0
  | n + 1, a, b => if a ≤ 0 then 1000000 else if b ≤ 0 then 0 else ((100 - ra) * (eqF ra n (a - 1) b + eqF ra n a (b - 1)) + ra * (eqF ra n (a - 2) b + eqF ra n a (b - 2))) / 200
def eqv (ra a b : Int) : Int := eqF ra (a.toNat + b.toNat) a b
theorem eqF_a {ra : Int} {n : Nat} {a b : Int} (h : a ≤ 0) : eqF ra n a b = 1000000 := by
  cases n with
  | zero => exact if_pos h
  | succ n => exact if_pos h
theorem eqF_b {ra : Int} {n : Nat} {a b : Int} (h : ¬ a ≤ 0) (h2 : b ≤ 0) : eqF ra n a b = 0 := by
  cases n with
  | zero => exact if_neg h
  | succ n => rw [eqF, if_neg h, if_pos h2]
theorem eqF_n {ra : Int} : ∀ (n m : Nat) (a b : Int), a.toNat + b.toNat ≤ n → a.toNat + b.toNat ≤ m → eqF ra n a b = eqF ra m a b := by
  intro n
  induction n with
  | zero =>
    intro m a b h1 h2
    by_cases q : a ≤ 0
    · rw [eqF_a q, eqF_a q]
    · omega
  | succ n ih =>
    intro m a b h1 h2
    by_cases q : a ≤ 0
    · rw [eqF_a q, eqF_a q]
    · by_cases q2 : b ≤ 0
      · rw [eqF_b q q2, eqF_b q q2]
      · obtain ⟨k, rfl⟩ : ∃ k, m = k + 1 := ⟨m - 1, by omega⟩
        rw [eqF, eqF, if_neg q, if_neg q2, if_neg q, if_neg q2, ih k (a - 1) b (by omega) (by omega), ih k a (b - 1) (by omega) (by omega), ih k (a - 2) b (by omega) (by omega), ih k a (b - 2) (by omega) (by omega)]
theorem eqv_a {ra a b : Int} (h : a ≤ 0) : eqv ra a b = 1000000 := eqF_a h
theorem eqv_b {ra a b : Int} (h : ¬ a ≤ 0) (h2 : b ≤ 0) : eqv ra a b = 0 := eqF_b h h2
theorem eqv_c {ra a b : Int} (h : 1 ≤ a) (h2 : 1 ≤ b) : eqv ra a b = ((100 - ra) * (eqv ra (a - 1) b + eqv ra a (b - 1)) + ra * (eqv ra (a - 2) b + eqv ra a (b - 2))) / 200 := by
  unfold eqv
  obtain ⟨k, e⟩ : ∃ k, a.toNat + b.toNat = k + 1 := ⟨a.toNat + b.toNat - 1, by omega⟩
  rw [e, eqF, if_neg (by omega), if_neg (by omega), eqF_n k _ (a - 1) b (by omega) (Nat.le_refl _), eqF_n k _ a (b - 1) (by omega) (Nat.le_refl _), eqF_n k _ (a - 2) b (by omega) (Nat.le_refl _), eqF_n k _ a (b - 2) (by omega) (Nat.le_refl _)]
theorem eqF_rg {ra : Int} (hr : 0 ≤ ra ∧ ra ≤ 100) : ∀ (n : Nat) (a b : Int), 0 ≤ eqF ra n a b ∧ eqF ra n a b ≤ 1000000 := by
  intro n
  induction n with
  | zero => intro a b; rw [eqF]; split <;> omega
  | succ n ih =>
    intro a b
    rw [eqF]
    split
    · omega
    · split
      · omega
      · have h1 := ih (a - 1) b
        have h2 := ih a (b - 1)
        have h3 := ih (a - 2) b
        have h4 := ih a (b - 2)
        have h5 := mul_rg (a := 100 - ra) (x := eqF ra n (a - 1) b + eqF ra n a (b - 1)) (m := 100 - ra) (n := 2000000) (by omega) (by omega)
        have h6 := mul_rg (a := ra) (x := eqF ra n (a - 2) b + eqF ra n a (b - 2)) (m := ra) (n := 2000000) (by omega) (by omega)
        omega
theorem eqv_rg {ra : Int} (hr : 0 ≤ ra ∧ ra ≤ 100) (a b : Int) : 0 ≤ eqv ra a b ∧ eqv ra a b ≤ 1000000 := eqF_rg hr _ a b
/-- the table holds what is below a place -/
def eqI (ra ac : Int) (f : Int → Int) (x y : Int) : Prop := ∀ i j : Int, i ≤ 25 → j ≤ 25 → j ≤ ac → (i < x ∨ (i = x ∧ j < y)) → eqAt f i j = eqv ra i j
theorem eqI_0 (ra ac : Int) (f : Int → Int) : eqI ra ac f 1 1 := by
  intro i j hi hj _ h
  rcases h with h | ⟨h, h2⟩
  · rw [eqAt_a (by omega), eqv_a (by omega)]
  · rw [eqAt_b (by omega) (by omega), eqv_b (by omega) (by omega)]
theorem eqI_r {ra ac x y : Int} {f : Int → Int} (h : eqI ra ac f x y) (hy : ac < y ∨ 25 < y) : eqI ra ac f (x + 1) 1 := by
  intro i j hi hj hc h9
  rcases h9 with h9 | ⟨h9, h10⟩
  · exact h i j hi hj hc (by omega)
  · by_cases q : i ≤ 0
    · rw [eqAt_a q, eqv_a q]
    · rw [eqAt_b q (by omega), eqv_b q (by omega)]
theorem eqI_s {ra ac x y v : Int} {f : Int → Int} (h : eqI ra ac f x y) (hx : 1 ≤ x ∧ x ≤ 25) (hy : 1 ≤ y ∧ y ≤ 25) (hv : v = eqv ra x y) : eqI ra ac (up f (x * 26 + y) v) x (y + 1) := by
  intro i j hi hj hc h9
  by_cases q : i ≤ 0
  · rw [eqAt_a q, eqv_a q]
  · by_cases q2 : j ≤ 0
    · rw [eqAt_b q (by omega), eqv_b q q2]
    · rw [eqAt_c q (by omega)]
      by_cases q3 : i = x ∧ j = y
      · rw [q3.1, q3.2, up_s, hv]
      · rw [up_n _ _ (by omega)]
        have h10 := h i j hi hj hc (by omega)
        rw [eqAt_c q (by omega)] at h10
        exact h10
theorem near_x {b : Int → Int} {sd i x : Int} (h : 1 ≤ i ∧ (i ≤ far b sd ∨ i = 1)) (h2 : far b sd ≤ i) (hx : x = (if 1 < b (26 * sd + far b sd) then far b sd else 0)) : nrZ b sd x i = near b sd := by
  have h3 := far_rg b sd
  unfold near
  rw [← hx]
  unfold nrZ
  rw [show (i - 1).toNat = (far b sd - 1).toNat by omega]
theorem near_rg {b : Int → Int} {sd : Int} : 0 ≤ near b sd ∧ near b sd ≤ 25 := by
  have h3 := far_rg b sd
  exact nrZ_rg (by split <;> omega) (by omega)
theorem lgT_hd {sd : Int} {b : Int → Int} {T : List Row} {r : Row} {t : List Row} (h : lgT sd b T) (e : T = r :: t) : r.length ≤ 4 ∧ lgR sd b r ∧ lgT (1 - sd) (poR sd b r) t := by
  subst e
  exact h
