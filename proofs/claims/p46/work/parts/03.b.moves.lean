/-! MOVES: what a move changes; boards that can be -/
theorem sm_nonneg {f : Int → Int} (h : ∀ k, 0 ≤ f k) : ∀ n, 0 ≤ sm f n
  | 0 => by simp [sm]
  | n + 1 => by
    have := sm_nonneg h n
    have := h n
    rw [sm]
    omega
theorem sm_part {f : Int → Int} (h : ∀ k, 0 ≤ f k) : ∀ {n : Nat} {k : Int}, 0 ≤ k → k < n → f k ≤ sm f n
  | 0, k, h0, h1 => by omega
  | n + 1, k, h0, h1 => by
    rw [sm]
    have h2 := h n
    have h3 := sm_nonneg h n
    by_cases q : k = n
    · subst q; omega
    · have := sm_part h (n := n) (k := k) h0 (by omega)
      omega
theorem sm_up {f : Int → Int} {k v : Int} : ∀ {n : Nat}, 0 ≤ k → k < n → sm (fun j => if j = k then v else f j) n = sm f n - f k + v
  | 0, h0, h1 => by omega
  | n + 1, h0, h1 => by
    rw [sm, sm]
    by_cases q : k = n
    · subst q
      rw [if_pos rfl, sm_congr (g := f) (fun j _ h => by rw [if_neg (by omega)])]
      omega
    · rw [sm_up h0 (by omega), if_neg (by omega)]
      omega
theorem sm_out {f : Int → Int} {k v : Int} {n : Nat} (h : k < 0 ∨ n ≤ k) : sm (fun j => if j = k then v else f j) n = sm f n :=
  sm_congr (fun j h0 h1 => by rw [if_neg (by omega)])
/-- a side's men, the bar and those off among them -/
def men (b : Int → Int) (sd : Int) : Int := sz (fun p => b (26 * sd + p)) 26
theorem men_up {b : Int → Int} {sd p v : Int} (hp : 0 ≤ p ∧ p ≤ 25) : men (up b (26 * sd + p) v) sd = men b sd - b (26 * sd + p) + v := by
  unfold men sz
  rw [show (26 : Int).toNat = 26 from rfl, sm_congr (g := fun j => if j = p then v else b (26 * sd + j)) (fun j _ _ => by
    unfold up
    by_cases q : j = p
    · rw [if_pos (by omega), if_pos q]
    · rw [if_neg (by omega), if_neg q])]
  exact sm_up (f := fun j => b (26 * sd + j)) hp.1 (by omega)
theorem men_out {b : Int → Int} {sd k v : Int} (h : k < 26 * sd ∨ 26 * sd + 25 < k) : men (up b k v) sd = men b sd := by
  unfold men sz
  exact sm_congr (fun j h0 h1 => by
    show up b k v _ = _
    rw [up_n _ _ (by have : (26 : Int).toNat = 26 := rfl; omega)])
/-- a board that can be: n men of each side, none elsewhere -/
def VB (n : Int) (b : Int → Int) : Prop := (∀ k, 0 ≤ b k) ∧ (∀ k, k < 0 ∨ 51 < k → b k = 0) ∧ men b 0 = n ∧ men b 1 = n
theorem VB.m {n : Int} {b : Int → Int} (h : VB n b) {sd : Int} (hs : 0 ≤ sd ∧ sd ≤ 1) : men b sd = n := by
  rcases (show sd = 0 ∨ sd = 1 by omega) with q | q
  · subst q; exact h.2.2.1
  · subst q; exact h.2.2.2
theorem VB.le {n : Int} {b : Int → Int} (h : VB n b) (k : Int) : b k ≤ n := by
  have key : ∀ sd : Int, 0 ≤ sd ∧ sd ≤ 1 → ∀ p : Int, 0 ≤ p ∧ p ≤ 25 → b (26 * sd + p) ≤ n := by
    intro sd hs p hp
    rw [← h.m hs]
    exact sm_part (f := fun j => b (26 * sd + j)) (fun j => h.1 _) hp.1 (by have : (26 : Int).toNat = 26 := rfl; omega)
  have h0 : 0 ≤ n := by
    have h1 := key 0 (by omega) 0 (by omega)
    have h2 := h.1 (26 * 0 + 0)
    omega
  by_cases q : k < 0 ∨ 51 < k
  · rw [h.2.1 k q]; exact h0
  · by_cases q2 : k ≤ 25
    · have := key 0 (by omega) k (by omega)
      rwa [show 26 * 0 + k = k by omega] at this
    · have := key 1 (by omega) (k - 26) (by omega)
      rwa [show 26 * 1 + (k - 26) = k by omega] at this
theorem VB.ok {n : Int} {b : Int → Int} (h : VB n b) (hn : n ≤ 1000) : okB b := fun k => ⟨h.1 k, by have := h.le k; omega⟩
section MV
variable {b : Int → Int} {sd fr d : Int}
theorem toP_ne (hf : 1 ≤ fr) (hd : 1 ≤ d) : toP fr d ≠ fr := by
  unfold toP
  split <;> omega
theorem mvB_own (hf : 1 ≤ fr ∧ fr ≤ 25) (hd : 1 ≤ d) (p : Int) : mvB b sd fr d (26 * sd + p) = b (26 * sd + p) - (if p = fr then 1 else 0) + (if p = toP fr d then 1 else 0) := by
  have h0 := toP_ne (fr := fr) (d := d) hf.1 hd
  unfold mvB
  by_cases h1 : p = toP fr d
  · rw [← h1] at h0 ⊢
    rw [up_s, up_n _ _ (by omega), if_neg h0, if_pos rfl]
    omega
  · rw [up_n _ _ (by omega), if_neg h1]
    by_cases h2 : p = fr
    · rw [h2, up_s, if_pos rfl]; omega
    · rw [up_n _ _ (by omega), if_neg h2]; omega
theorem mvB_opp (hs : 0 ≤ sd ∧ sd ≤ 1) (hf : 1 ≤ fr ∧ fr ≤ 25) (hd : 1 ≤ d) {q : Int} (hq : 0 ≤ q ∧ q ≤ 25) : mvB b sd fr d (26 * (1 - sd) + q) = b (26 * (1 - sd) + q) := mvB_o hs (by omega) (by omega) hq
theorem mvB_out (hs : 0 ≤ sd ∧ sd ≤ 1) (hf : 1 ≤ fr ∧ fr ≤ 25) (hd : 1 ≤ d) {k : Int} (hk : k < 0 ∨ 51 < k) : mvB b sd fr d k = b k := by
  have h := toP_rg (fr := fr) (d := d) (by omega)
  unfold mvB
  rw [up_n _ _ (by omega), up_n _ _ (by omega)]
theorem htB_own {os pt : Int} (hp : pt ≠ 25) (q : Int) : htB b os pt (26 * os + q) = b (26 * os + q) - (if q = pt then 1 else 0) + (if q = 25 then 1 else 0) := by
  unfold htB
  by_cases h1 : q = 25
  · rw [h1, up_s, up_n _ _ (by omega), if_neg (by omega), if_pos rfl]; omega
  · rw [up_n _ _ (by omega), if_neg h1]
    by_cases h2 : q = pt
    · rw [h2, up_s, if_pos rfl]; omega
    · rw [up_n _ _ (by omega), if_neg h2]; omega
theorem htB_out {os pt k : Int} (hp : 0 ≤ pt ∧ pt ≤ 25) (hk : k < 26 * os ∨ 26 * os + 25 < k) : htB b os pt k = b k := by
  unfold htB
  rw [up_n _ _ (by omega), up_n _ _ (by omega)]
/-- a move's places: the side's own, the other's, elsewhere -/
theorem stp_own (hs : 0 ≤ sd ∧ sd ≤ 1) (hf : 1 ≤ fr ∧ fr ≤ 25) (hd : 1 ≤ d) {p : Int} (hp : 0 ≤ p ∧ p ≤ 25) : stp b sd fr d (26 * sd + p) = b (26 * sd + p) - (if p = fr then 1 else 0) + (if p = toP fr d then 1 else 0) := by
  have ht := toP_rg (fr := fr) (d := d) (by omega)
  rw [← mvB_own (b := b) (sd := sd) hf hd p]
  unfold stp
  split
  · exact htB_out (by omega) (by omega)
  · rfl
theorem stp_opp (hs : 0 ≤ sd ∧ sd ≤ 1) (hf : 1 ≤ fr ∧ fr ≤ 25) (hd : 1 ≤ d) {q : Int} (hq : 0 ≤ q ∧ q ≤ 25) : stp b sd fr d (26 * (1 - sd) + q) = b (26 * (1 - sd) + q) + (if d < fr ∧ b (26 * (1 - sd) + (25 - (fr - d))) ≠ 0 then (if q = 25 - (fr - d) then -1 else 0) + (if q = 25 then 1 else 0) else 0) := by
  unfold stp
  split
  · next h =>
    have e : toP fr d = fr - d := by unfold toP; rw [if_pos h.1]
    rw [e, htB_own (by omega), mvB_opp hs hf hd hq]
    split <;> split <;> omega
  · rw [mvB_opp hs hf hd hq]; omega
theorem stp_out (hs : 0 ≤ sd ∧ sd ≤ 1) (hf : 1 ≤ fr ∧ fr ≤ 25) (hd : 1 ≤ d) {k : Int} (hk : k < 0 ∨ 51 < k) : stp b sd fr d k = b k := by
  have ht := toP_rg (fr := fr) (d := d) (by omega)
  unfold stp
  split
  · rw [htB_out (by omega) (by omega), mvB_out hs hf hd hk]
  · exact mvB_out hs hf hd hk
/-- any place is one of the side's, one of the other's, or none -/
theorem pl_cs (hs : 0 ≤ sd ∧ sd ≤ 1) (k : Int) : (∃ p : Int, (0 ≤ p ∧ p ≤ 25) ∧ k = 26 * sd + p) ∨ (∃ q : Int, (0 ≤ q ∧ q ≤ 25) ∧ k = 26 * (1 - sd) + q) ∨ (k < 0 ∨ 51 < k) := by
  by_cases h : k < 0 ∨ 51 < k
  · exact Or.inr (Or.inr h)
  · by_cases h2 : 26 * sd ≤ k ∧ k ≤ 26 * sd + 25
    · exact Or.inl ⟨k - 26 * sd, by omega, by omega⟩
    · exact Or.inr (Or.inl ⟨k - 26 * (1 - sd), by omega, by omega⟩)
theorem VB_stp {n : Int} (h : VB n b) (hs : 0 ≤ sd ∧ sd ≤ 1) (hf : 1 ≤ fr ∧ fr ≤ 25) (hd : 1 ≤ d) (hm : b (26 * sd + fr) ≠ 0) : VB n (stp b sd fr d) := by
  have ht := toP_rg (fr := fr) (d := d) (by omega)
  have hne := toP_ne (fr := fr) (d := d) hf.1 hd
  have hm0 := h.1 (26 * sd + fr)
  have men_own : men (stp b sd fr d) sd = men b sd := by
    have e1 : men (mvB b sd fr d) sd = men b sd := by
      unfold mvB
      rw [men_up ht, men_up (by omega), up_n _ _ (by omega)]
      omega
    rw [← e1]
    exact sm_congr (fun j h0 h1 => by
      have : (26 : Int).toNat = 26 := rfl
      show stp b sd fr d (26 * sd + j) = mvB b sd fr d (26 * sd + j)
      rw [stp_own hs hf hd (by omega), mvB_own hf hd])
  have men_opp : men (stp b sd fr d) (1 - sd) = men b (1 - sd) := by
    have e0 : men (mvB b sd fr d) (1 - sd) = men b (1 - sd) := sm_congr (fun j h0 h1 => by
      have : (26 : Int).toNat = 26 := rfl
      show mvB b sd fr d (26 * (1 - sd) + j) = b (26 * (1 - sd) + j)
      exact mvB_opp hs hf hd (by omega))
    rw [← e0]
    unfold stp
    split
    · next h9 =>
      have e : toP fr d = fr - d := by unfold toP; rw [if_pos h9.1]
      unfold htB
      rw [men_up (by omega), men_up (by omega), up_n _ _ (by omega)]
      omega
    · rfl
  refine ⟨fun k => ?_, fun k hk => ?_, ?_, ?_⟩
  · rcases pl_cs hs k with ⟨p, hp, rfl⟩ | ⟨q, hq, rfl⟩ | hk
    · have h1 := h.1 (26 * sd + p)
      rw [stp_own hs hf hd hp]
      by_cases e : p = fr
      · subst e
        rw [if_pos rfl]
        split <;> omega
      · rw [if_neg e]
        split <;> omega
    · have h1 := h.1 (26 * (1 - sd) + q)
      rw [stp_opp hs hf hd hq]
      split
      · next h9 =>
        by_cases e : q = 25 - (fr - d)
        · rw [if_pos e]
          rw [← e] at h9
          split <;> omega
        · rw [if_neg e]
          split <;> omega
      · omega
    · rw [stp_out hs hf hd hk]
      exact h.1 k
  · rw [stp_out hs hf hd hk]
    exact h.2.1 k hk
  · rcases (show sd = 0 ∨ sd = 1 by omega) with q | q
    · subst q
      rw [men_own]; exact h.2.2.1
    · subst q
      rw [show (0 : Int) = 1 - 1 by rfl, men_opp]; exact h.2.2.1
  · rcases (show sd = 0 ∨ sd = 1 by omega) with q | q
    · subst q
      rw [show (1 : Int) = 1 - 0 by rfl, men_opp]; exact h.2.2.2
    · subst q
      rw [men_own]; exact h.2.2.2
/-- two boards of men are one where they agree on the 52 places -/
theorem VB_ext {n : Int} {b b' : Int → Int} (h : VB n b) (h' : VB n b') (e : ∀ k : Int, 0 ≤ k → k < 52 → b k = b' k) : b = b' := by
  funext k
  by_cases q : k < 0 ∨ 51 < k
  · rw [h.2.1 k q, h'.2.1 k q]
  · exact e k (by omega) (by omega)
theorem canP.rg (h : canP b sd fr d) : 1 ≤ fr ∧ fr ≤ 25 := ⟨h.1, h.2.1⟩
theorem canP.VB {n : Int} (hc : canP b sd fr d) (h : VB n b) (hs : 0 ≤ sd ∧ sd ≤ 1) (hd : 1 ≤ d) : VB n (stp b sd fr d) := VB_stp h hs ⟨hc.1, hc.2.1⟩ hd hc.2.2.1
end MV
