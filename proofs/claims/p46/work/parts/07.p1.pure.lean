/-! THE PROPERTY'S OWN NUMBERS: plays lead to unlike positions; single moves go through a play; equities; accounts -/
theorem pS_dist {sd : Int} {b : Int → Int} {m u on ot : Int} : ∀ (R L : List Row), L.Pairwise (fun x y => eq52 (poR sd b x) (poR sd b y) = false) → (R.foldl (pS sd b m u on ot) L).Pairwise (fun x y => eq52 (poR sd b x) (poR sd b y) = false)
  | [], L, h => h
  | r :: R, L, h => by
    rw [List.foldl_cons]
    refine pS_dist R _ ?_
    unfold pS
    by_cases q1 : elB m u on ot r = true
    · rw [if_pos q1]
      by_cases q2 : nwB sd b L r = true
      · rw [if_pos q2]
        exact h
      · rw [if_neg q2]
        refine List.pairwise_append.mpr ⟨h, List.pairwise_singleton _ _, fun x hx y hy => ?_⟩
        rw [List.mem_singleton.mp hy]
        cases e : eq52 (poR sd b x) (poR sd b r) with
        | false => rfl
        | true => exact absurd (List.any_eq_true.mpr ⟨x, hx, e⟩) q2
    · rw [if_neg q1]
      exact h
theorem plc_dist {n0 sd g l : Int} {b : Int → Int} (hv : VB n0 b) (hs : 0 ≤ sd ∧ sd ≤ 1) (hg : 1 ≤ g ∧ g ≤ 6) (hl : 1 ≤ l ∧ l ≤ 6) (hgl : l ≤ g) : (plc sd b g l).2.Pairwise (fun x y => eq52 (poR sd b x) (poR sd b y) = false) := by
  obtain ⟨q, hq⟩ : ∃ q : Int × Int, q = (rwG sd g l (if g = l then 4 else 2) 0 3 b).foldl mS (0, 0) := ⟨_, rfl⟩
  have h := ref_all (e34 := q.1) (e35 := q.2) hv hs hg hl hgl rfl hq
  rw [← h.1]
  exact pS_dist _ _ List.Pairwise.nil
theorem fdL_is {sd : Int} {b0 : Int → Int} : ∀ (L : List Row) (k : Nat) (i : Int), L.Pairwise (fun x y => eq52 (poR sd b0 x) (poR sd b0 y) = false) → k < L.length → fdL sd b0 (poR sd b0 (L.getD k [])) L i = i + k
  | [], k, i, _, h => by simp at h
  | r :: t, 0, i, _, _ => by
    show (if eq52 (poR sd b0 r) (poR sd b0 r) = true then i else fdL sd b0 (poR sd b0 r) t (i + 1)) = i + ((0 : Nat) : Int)
    rw [if_pos (eq52_iff.mpr (fun _ _ _ => rfl))]
    omega
  | r :: t, k + 1, i, hp, h => by
    rw [List.pairwise_cons] at hp
    have hk : k < t.length := by simpa using h
    show (if eq52 (poR sd b0 r) (poR sd b0 (t.getD k [])) = true then i else fdL sd b0 (poR sd b0 (t.getD k [])) t (i + 1)) = i + ((k + 1 : Nat) : Int)
    rw [if_neg (by rw [hp.1 _ (gD_m hk)]; decide), fdL_is t k (i + 1) hp.2 hk]
    omega
theorem fdI_is {sd : Int} {b0 : Int → Int} {L : List Row} {k : Int} (hp : L.Pairwise (fun x y => eq52 (poR sd b0 x) (poR sd b0 y) = false)) (h0 : 0 ≤ k) (h1 : k < L.length) : fdI sd b0 (poR sd b0 (L.getD k.toNat [])) L = k := by
  unfold fdI
  rw [fdL_is L k.toNat 0 hp (by omega)]
  omega
/-! no point holds men of both -/
def nOv (b : Int → Int) : Prop := ∀ p : Int, 1 ≤ p → p ≤ 24 → b p = 0 ∨ b (26 + (25 - p)) = 0
theorem nOv.sd {b : Int → Int} (h : nOv b) {sd : Int} (hs : 0 ≤ sd ∧ sd ≤ 1) {p : Int} (h0 : 1 ≤ p) (h1 : p ≤ 24) : b (26 * sd + p) = 0 ∨ b (26 * (1 - sd) + (25 - p)) = 0 := by
  rcases (show sd = 0 ∨ sd = 1 by omega) with q | q <;> subst q
  · have h2 := h p h0 h1
    rw [show (26 : Int) * 0 + p = p by omega, show (26 : Int) * (1 - 0) + (25 - p) = 26 + (25 - p) by omega]
    exact h2
  · have h2 := h (25 - p) (by omega) (by omega)
    rw [show (26 : Int) * 1 + p = 26 + (25 - (25 - p)) by omega, show (26 : Int) * (1 - 1) + (25 - p) = 25 - p by omega]
    exact h2.symm
theorem nOv.of {b : Int → Int} {sd : Int} (hs : 0 ≤ sd ∧ sd ≤ 1) (h : ∀ p : Int, 1 ≤ p → p ≤ 24 → b (26 * sd + p) = 0 ∨ b (26 * (1 - sd) + (25 - p)) = 0) : nOv b := by
  intro p h0 h1
  rcases (show sd = 0 ∨ sd = 1 by omega) with q | q <;> subst q
  · have h2 := h p h0 h1
    rw [show (26 : Int) * 0 + p = p by omega, show (26 : Int) * (1 - 0) + (25 - p) = 26 + (25 - p) by omega] at h2
    exact h2
  · have h2 := h (25 - p) (by omega) (by omega)
    rw [show (26 : Int) * 1 + (25 - p) = 26 + (25 - p) by omega, show (26 : Int) * (1 - 1) + (25 - (25 - p)) = p by omega] at h2
    exact h2.symm
theorem nOv_stp {b : Int → Int} {sd fr d : Int} (hn : nOv b) (hs : 0 ≤ sd ∧ sd ≤ 1) (hc : canP b sd fr d) (hd : 1 ≤ d) (hb : ∀ k, 0 ≤ b k) : nOv (stp b sd fr d) := by
  refine nOv.of hs (fun p h0 h1 => ?_)
  obtain ⟨c1, c2, c3, c4, c5⟩ := hc
  rw [stp_own hs ⟨c1, c2⟩ hd (by omega), stp_opp hs ⟨c1, c2⟩ hd (by omega)]
  have e := hn.sd hs h0 h1
  by_cases q : p = toP fr d
  · have q1 : d < fr := by
      unfold toP at q
      by_cases q2 : d < fr
      · exact q2
      · rw [if_neg q2] at q; omega
    have q3 : toP fr d = fr - d := by unfold toP; rw [if_pos q1]
    rw [q3] at q
    have hb2 := hb (26 * (1 - sd) + (25 - (fr - d)))
    rcases c5 with c5 | c5
    · right
      rw [q]
      by_cases q4 : b (26 * (1 - sd) + (25 - (fr - d))) = 0
      · rw [if_neg (fun h => h.2 q4), q4]
        rfl
      · rw [if_pos ⟨q1, q4⟩, if_pos rfl, if_neg (by omega)]
        omega
    · omega
  · rw [if_neg q]
    rcases e with e | e
    · left
      by_cases q2 : p = fr
      · rw [q2] at e; exact absurd e c3
      · rw [if_neg q2, e]
        rfl
    · right
      rw [e]
      by_cases q4 : d < fr ∧ b (26 * (1 - sd) + (25 - (fr - d))) ≠ 0
      · have q3 : toP fr d = fr - d := by unfold toP; rw [if_pos q4.1]
        rw [if_pos q4, if_neg (by omega), if_neg (by omega)]
        rfl
      · rw [if_neg q4]
        rfl
theorem nOv_poR {sd n0 : Int} (hs : 0 ≤ sd ∧ sd ≤ 1) : ∀ (r : Row) (b : Int → Int), VB n0 b → nOv b → lgR sd b r → nOv (poR sd b r)
  | [], _, _, hn, _ => hn
  | q :: t, b, hv, hn, hl => nOv_poR hs t _ (hl.1.VB hv hs hl.2.1.1) (nOv_stp hn hs hl.1 hl.2.1.1 hv.1) hl.2.2
theorem fin25 {P : Int → Prop} (h : ∀ q : Fin 25, P ((q.val : Nat) : Int)) {p : Int} (h0 : 1 ≤ p) (h1 : p ≤ 24) : P p := by
  have h2 := h ⟨p.toNat, by omega⟩
  rw [show (((⟨p.toNat, by omega⟩ : Fin 25).val : Nat) : Int) = p from Int.toNat_of_nonneg (by omega)] at h2
  exact h2
theorem nOv_lyP {v : Int} (h : v = 98 ∨ v = 110 ∨ v = 104) : nOv (lyP v) := by
  rcases h with h | h | h <;> subst h
  · exact fun p h0 h1 => fin25 (P := fun p => lyP 98 p = 0 ∨ lyP 98 (26 + (25 - p)) = 0) (by decide +kernel) h0 h1
  · exact fun p h0 h1 => fin25 (P := fun p => lyP 110 p = 0 ∨ lyP 110 (26 + (25 - p)) = 0) (by decide +kernel) h0 h1
  · exact fun p h0 h1 => fin25 (P := fun p => lyP 104 p = 0 ∨ lyP 104 (26 + (25 - p)) = 0) (by decide +kernel) h0 h1
/-! pips -/
def pipB (b : Int → Int) (sd : Int) : Int := sz (fun p => p * b (26 * sd + p)) 26
theorem sm_mv {g : Int → Int} {a c : Int} (ha : 0 ≤ a) (hc : 0 ≤ c) : ∀ n : Nat, sm (fun p => p * (g p - (if p = a then 1 else 0) + (if p = c then 1 else 0))) n = sm (fun p => p * g p) n - (if a < n then a else 0) + (if c < n then c else 0)
  | 0 => by
    rw [sm, sm, if_neg (by omega), if_neg (by omega)]
    rfl
  | n + 1 => by
    rw [sm, sm, sm_mv ha hc n]
    show _ + (n : Int) * (g n - (if (n : Int) = a then 1 else 0) + (if (n : Int) = c then 1 else 0)) = _ + (n : Int) * g n - _ + _
    rw [Int.mul_add, Int.mul_sub]
    have e1 : ∀ a : Int, (n : Int) * (if (n : Int) = a then 1 else 0) = if (n : Int) = a then a else 0 := fun a => by split <;> omega
    rw [e1, e1]
    generalize (n : Int) * g n = w
    generalize sm (fun p => p * g p) n = w2
    by_cases q1 : (n : Int) = a
    · rw [if_pos q1, if_neg (show ¬ a < (n : Int) by omega), if_pos (show a < ((n + 1 : Nat) : Int) by omega)]
      by_cases q2 : (n : Int) = c
      · rw [if_pos q2, if_neg (show ¬ c < (n : Int) by omega), if_pos (show c < ((n + 1 : Nat) : Int) by omega)]
        omega
      · rw [if_neg q2]
        by_cases q3 : c < (n : Int)
        · rw [if_pos q3, if_pos (show c < ((n + 1 : Nat) : Int) by omega)]
          omega
        · rw [if_neg q3, if_neg (show ¬ c < ((n + 1 : Nat) : Int) by omega)]
          omega
    · rw [if_neg q1]
      have e3 : (if a < ((n + 1 : Nat) : Int) then a else 0) = if a < (n : Int) then a else 0 := by
        by_cases q3 : a < (n : Int)
        · rw [if_pos q3, if_pos (by omega)]
        · rw [if_neg q3, if_neg (by omega)]
      rw [e3]
      by_cases q2 : (n : Int) = c
      · rw [if_pos q2, if_neg (show ¬ c < (n : Int) by omega), if_pos (show c < ((n + 1 : Nat) : Int) by omega)]
        omega
      · rw [if_neg q2]
        by_cases q3 : c < (n : Int)
        · rw [if_pos q3, if_pos (show c < ((n + 1 : Nat) : Int) by omega)]
          omega
        · rw [if_neg q3, if_neg (show ¬ c < ((n + 1 : Nat) : Int) by omega)]
          omega
theorem pip_own {b : Int → Int} {sd fr d : Int} (hs : 0 ≤ sd ∧ sd ≤ 1) (hf : 1 ≤ fr ∧ fr ≤ 25) (hd : 1 ≤ d) : pipB (stp b sd fr d) sd = pipB b sd - (fr - toP fr d) := by
  have h0 := toP_rg (fr := fr) (d := d) (by omega)
  unfold pipB
  rw [sz_congr (f := fun p => p * stp b sd fr d (26 * sd + p)) (g := fun p => p * (b (26 * sd + p) - (if p = fr then 1 else 0) + (if p = toP fr d then 1 else 0))) (fun k h1 h2 => by
    show k * stp b sd fr d (26 * sd + k) = _
    rw [stp_own hs hf hd (by omega)])]
  unfold sz
  have h1 := sm_mv (g := fun p => b (26 * sd + p)) (a := fr) (c := toP fr d) (by omega) h0.1 (26 : Int).toNat
  rw [h1, if_pos (show fr < (((26 : Int).toNat : Nat) : Int) by have : (26 : Int).toNat = 26 := rfl; omega), if_pos (show toP fr d < (((26 : Int).toNat : Nat) : Int) by have : (26 : Int).toNat = 26 := rfl; omega)]
  omega
theorem pip_opp {b : Int → Int} {sd fr d : Int} (hs : 0 ≤ sd ∧ sd ≤ 1) (hf : 1 ≤ fr ∧ fr ≤ 25) (hd : 1 ≤ d) : pipB b (1 - sd) + hwB b sd fr d ≤ pipB (stp b sd fr d) (1 - sd) := by
  unfold pipB
  by_cases q : d < fr ∧ b (26 * (1 - sd) + (25 - (fr - d))) ≠ 0
  · have e1 : hwB b sd fr d = 1 := if_pos q
    rw [e1, sz_congr (f := fun p => p * stp b sd fr d (26 * (1 - sd) + p)) (g := fun p => p * (b (26 * (1 - sd) + p) - (if p = 25 - (fr - d) then 1 else 0) + (if p = 25 then 1 else 0))) (fun k h1 h2 => by
      show k * stp b sd fr d (26 * (1 - sd) + k) = k * _
      rw [stp_opp hs hf hd (by omega), if_pos q]
      congr 1
      by_cases q1 : k = 25 - (fr - d)
      · rw [if_pos q1, if_pos q1]
        omega
      · rw [if_neg q1, if_neg q1]
        omega)]
    unfold sz
    have h1 := sm_mv (g := fun p => b (26 * (1 - sd) + p)) (a := 25 - (fr - d)) (c := 25) (by omega) (by omega) (26 : Int).toNat
    rw [h1, if_pos (show 25 - (fr - d) < (((26 : Int).toNat : Nat) : Int) by have : (26 : Int).toNat = 26 := rfl; omega), if_pos (show (25 : Int) < (((26 : Int).toNat : Nat) : Int) by have : (26 : Int).toNat = 26 := rfl; omega)]
    omega
  · have e1 : hwB b sd fr d = 0 := if_neg q
    rw [e1, sz_congr (f := fun p => p * stp b sd fr d (26 * (1 - sd) + p)) (g := fun p => p * b (26 * (1 - sd) + p)) (fun k h1 h2 => by
      show k * stp b sd fr d (26 * (1 - sd) + k) = k * _
      rw [stp_opp hs hf hd (by omega), if_neg q]
      congr 1
      omega)]
    omega
/-- a side whose men are all off has no pips -/
theorem pip_off {n0 : Int} {b : Int → Int} {sd : Int} (hv : VB n0 b) (hs : 0 ≤ sd ∧ sd ≤ 1) (h : b (26 * sd + 0) = n0) : pipB b sd = 0 := by
  have h1 := hv.m hs
  have h2 : ∀ k : Int, 1 ≤ k → k < 26 → b (26 * sd + k) = 0 := by
    intro k h3 h4
    have h5 := men_up (b := b) (sd := sd) (p := 0) (v := 0) (by omega)
    have h6 := sm_part (f := fun p => up b (26 * sd + 0) 0 (26 * sd + p)) (fun p => by
      by_cases q : 26 * sd + p = 26 * sd + 0
      · rw [q, up_s]; exact Int.le_refl _
      · rw [up_n _ _ q]; exact hv.1 _) (n := 26) (k := k) (by omega) (by omega)
    have h7 : up b (26 * sd + 0) 0 (26 * sd + k) = b (26 * sd + k) := up_n _ _ (by omega)
    have h8 := hv.1 (26 * sd + k)
    have h9 : men (up b (26 * sd + 0) 0) sd = sm (fun p => up b (26 * sd + 0) 0 (26 * sd + p)) 26 := rfl
    have h10 : up b (26 * sd + 0) 0 (26 * sd + k) ≤ sm (fun p => up b (26 * sd + 0) 0 (26 * sd + p)) 26 := h6
    rw [h7] at h10
    omega
  unfold pipB
  rw [sz_congr (f := fun p => p * b (26 * sd + p)) (g := fun _ => 0) (fun k h3 h4 => by
    show k * b (26 * sd + k) = 0
    by_cases q : k = 0
    · rw [q, Int.zero_mul]
    · rw [h2 k (by omega) h4, Int.mul_zero])]
  decide
/-! equities -/
theorem eq_sum {ra : Int} (hr : 0 ≤ ra ∧ ra ≤ 100) : ∀ (n : Nat) (a b : Int), (1 ≤ a ∨ 1 ≤ b) → a.toNat + b.toNat ≤ n → 1000000 - 2 * (n : Int) ≤ eqv ra a b + eqv ra b a ∧ eqv ra a b + eqv ra b a ≤ 1000000 := by
  intro n
  induction n with
  | zero => intro a b h1 h2; omega
  | succ n ih =>
    intro a b h1 h2
    by_cases qa : a ≤ 0
    · rw [eqv_a qa, eqv_b (a := b) (b := a) (by omega) qa]
      omega
    · by_cases qb : b ≤ 0
      · rw [eqv_b qa qb, eqv_a qb]
        omega
      · rw [eqv_c (a := a) (b := b) (by omega) (by omega), eqv_c (a := b) (b := a) (by omega) (by omega)]
        have i1 := ih (a - 1) b (by omega) (by omega)
        have i2 := ih a (b - 1) (by omega) (by omega)
        have i3 := ih (a - 2) b (by omega) (by omega)
        have i4 := ih a (b - 2) (by omega) (by omega)
        generalize eqv ra (a - 1) b = x1 at i1 ⊢
        generalize eqv ra a (b - 1) = x2 at i2 ⊢
        generalize eqv ra (a - 2) b = x3 at i3 ⊢
        generalize eqv ra a (b - 2) = x4 at i4 ⊢
        generalize eqv ra b (a - 1) = y1 at i1 ⊢
        generalize eqv ra (b - 1) a = y2 at i2 ⊢
        generalize eqv ra b (a - 2) = y3 at i3 ⊢
        generalize eqv ra (b - 2) a = y4 at i4 ⊢
        have hA : 0 ≤ 100 - ra := by omega
        have p1 : (100 - ra) * (x1 + x2) + (100 - ra) * (y2 + y1) ≤ (100 - ra) * 2000000 := by
          rw [← Int.mul_add]
          exact Int.mul_le_mul_of_nonneg_left (by omega) hA
        have p2 : (100 - ra) * (2000000 - 4 * (n : Int)) ≤ (100 - ra) * (x1 + x2) + (100 - ra) * (y2 + y1) := by
          rw [← Int.mul_add]
          exact Int.mul_le_mul_of_nonneg_left (by omega) hA
        have q1 : ra * (x3 + x4) + ra * (y4 + y3) ≤ ra * 2000000 := by
          rw [← Int.mul_add]
          exact Int.mul_le_mul_of_nonneg_left (by omega) hr.1
        have q2 : ra * (2000000 - 4 * (n : Int)) ≤ ra * (x3 + x4) + ra * (y4 + y3) := by
          rw [← Int.mul_add]
          exact Int.mul_le_mul_of_nonneg_left (by omega) hr.1
        have e1 : (100 - ra) * (2000000 - 4 * (n : Int)) + ra * (2000000 - 4 * (n : Int)) = 100 * (2000000 - 4 * (n : Int)) := by
          rw [← Int.add_mul, show 100 - ra + ra = 100 by omega]
        generalize (100 - ra) * (x1 + x2) = X1 at p1 p2 ⊢
        generalize (100 - ra) * (y2 + y1) = Y1 at p1 p2 ⊢
        generalize ra * (x3 + x4) = X2 at q1 q2 ⊢
        generalize ra * (y4 + y3) = Y2 at q1 q2 ⊢
        generalize (100 - ra) * (2000000 - 4 * (n : Int)) = Z1 at p2 e1
        generalize ra * (2000000 - 4 * (n : Int)) = Z2 at q2 e1
        omega
theorem eq_dec {ra : Int} (hr : 0 ≤ ra ∧ ra ≤ 100) : ∀ (n : Nat) (a b : Int), a.toNat + b.toNat ≤ n → eqv ra (a + 1) b ≤ eqv ra a b := by
  intro n
  induction n with
  | zero =>
    intro a b h2
    rw [eqv_a (a := a) (by omega)]
    exact (eqv_rg hr _ _).2
  | succ n ih =>
    intro a b h2
    by_cases qa : a ≤ 0
    · rw [eqv_a qa]
      exact (eqv_rg hr _ _).2
    · by_cases qb : b ≤ 0
      · rw [eqv_b qa qb, eqv_b (a := a + 1) (b := b) (by omega) qb]
        exact Int.le_refl _
      · rw [eqv_c (a := a) (b := b) (by omega) (by omega), eqv_c (a := a + 1) (b := b) (by omega) (by omega)]
        have i1 := ih (a - 1) b (by omega)
        have i2 := ih a (b - 1) (by omega)
        have i3 := ih (a - 2) b (by omega)
        have i4 := ih a (b - 2) (by omega)
        rw [show a - 1 + 1 = a by omega] at i1
        rw [show a - 2 + 1 = a - 1 by omega] at i3
        rw [show a + 1 - 1 = a by omega, show a + 1 - 2 = a - 1 by omega]
        have hA : 0 ≤ 100 - ra := by omega
        have p1 : (100 - ra) * (eqv ra a b + eqv ra (a + 1) (b - 1)) ≤ (100 - ra) * (eqv ra (a - 1) b + eqv ra a (b - 1)) := Int.mul_le_mul_of_nonneg_left (by omega) hA
        have p2 : ra * (eqv ra (a - 1) b + eqv ra (a + 1) (b - 2)) ≤ ra * (eqv ra (a - 2) b + eqv ra a (b - 2)) := Int.mul_le_mul_of_nonneg_left (by omega) hr.1
        omega
theorem eq_400 {ra : Int} (hr : 0 ≤ ra ∧ ra ≤ 100) {a b : Int} (ha : 1 ≤ a ∧ a ≤ 25) (hb : 1 ≤ b ∧ b ≤ 25) : 999600 ≤ eqv ra a b + eqv ra b a ∧ eqv ra a b + eqv ra b a ≤ 1000000 := by
  have h := eq_sum hr 50 a b (by omega) (by omega)
  omega
/-! accounts -/
theorem sz_up {f : Int → Int} {k v n : Int} (h : 0 ≤ k ∧ k < n) : sz (up f k v) n = sz f n - f k + v := sm_up (f := f) h.1 (by omega)
theorem sz_py {f : Int → Int} {a c v n : Int} (ha : 0 ≤ a ∧ a < n) (hc : 0 ≤ c ∧ c < n) : sz (py f a c v) n = sz f n := by
  unfold py
  rw [sz_up hc, sz_up ha]
  omega
theorem sz_pyN {se f : Int → Int} {v N : Int} (hs : ∀ k : Int, 0 ≤ k → k < N → 0 ≤ se k ∧ se k < N) {M : Int} (hM : N ≤ M) : ∀ n : Nat, (n : Int) < N → sz (pyN se v f n) M = sz f M
  | 0, _ => rfl
  | n + 1, hn => by
    have h1 := hs ((n + 1 : Nat) : Int) (by omega) hn
    have h2 := hs 0 (by omega) (by omega)
    show sz (py (pyN se v f n) _ _ v) M = _
    rw [sz_py (by omega) (by omega)]
    exact sz_pyN hs hM n (by omega)
theorem seN_rg {se : Int → Int} {lv N : Int} (hs : ∀ k : Int, 0 ≤ k → k < N → 0 ≤ se k ∧ se k < N) (hl : 0 ≤ lv ∧ lv < N) {k : Int} (h0 : 0 ≤ k) (h1 : k < N) : 0 ≤ seN se lv N k ∧ seN se lv N k < N := by
  rw [seN_at]
  apply hs
  · split
    · omega
    · split <;> omega
  · split
    · omega
    · split <;> omega
