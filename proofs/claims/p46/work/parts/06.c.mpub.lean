/-! THE REFERENCE'S SMALL CALLS: what they make of its numbers -/
theorem all52 {f g : Int → Int} (h : ∀ k : Fin 52, f ((k : Nat) : Int) = g ((k : Nat) : Int)) : ∀ k : Int, 0 ≤ k → k < 52 → f k = g k := fun k h0 h1 => by
  have h2 := h ⟨k.toNat, by omega⟩
  rw [show (((⟨k.toNat, by omega⟩ : Fin 52) : Nat) : Int) = k by show ((k.toNat : Nat) : Int) = k; omega] at h2
  exact h2
/-- accounts: what each gets of the box -/
def acF (f : Int → Int) (bx g n i : Int) : Int → Int := fun p => if 0 ≤ p ∧ p < i then f p + (if p = bx then -g * (n - 1) else g) else f p
theorem acF_0 (f : Int → Int) (bx g n : Int) : acF f bx g n 0 = f := by
  funext p
  unfold acF
  rw [if_neg (by omega)]
theorem acF_o {f : Int → Int} {bx g n i p : Int} (h : i ≤ p) : acF f bx g n i p = f p := by
  unfold acF
  rw [if_neg (by omega)]
theorem acF_sb {f : Int → Int} {bx g n i : Int} (h : 0 ≤ i) (hb : i = bx) : up (acF f bx g n i) i (f i + -g * (n - 1)) = acF f bx g n (i + 1) := by
  funext p
  by_cases q : p = i
  · rw [q, up_s]
    unfold acF
    rw [if_pos (by omega), if_pos hb]
  · rw [up_n _ _ q]
    unfold acF
    by_cases q2 : 0 ≤ p ∧ p < i
    · rw [if_pos q2, if_pos (show 0 ≤ p ∧ p < i + 1 by omega)]
    · rw [if_neg q2, if_neg (show ¬ (0 ≤ p ∧ p < i + 1) by omega)]
theorem acF_sn {f : Int → Int} {bx g n i : Int} (h : 0 ≤ i) (hb : i ≠ bx) : up (acF f bx g n i) i (f i + g) = acF f bx g n (i + 1) := by
  funext p
  by_cases q : p = i
  · rw [q, up_s]
    unfold acF
    rw [if_pos (by omega), if_neg hb]
  · rw [up_n _ _ q]
    unfold acF
    by_cases q2 : 0 ≤ p ∧ p < i
    · rw [if_pos q2, if_pos (show 0 ≤ p ∧ p < i + 1 by omega)]
    · rw [if_neg q2, if_neg (show ¬ (0 ≤ p ∧ p < i + 1) by omega)]
theorem mu_o {se : Int → Int} {j : Int} (_ : 1 ≤ j := by omega) : mu se 0 (j - 1) j = se j := by
  unfold mu
  rw [if_neg (by omega)]
theorem mu_sj {se : Int → Int} {j : Int} (h : 1 ≤ j) : up (mu se 0 (j - 1)) (j - 1) (se j) = mu se 0 (j + 1 - 1) := by
  have h1 := mu_s se (lv := 0) (i := j - 1) (by omega)
  rw [show j - 1 + 1 = j by omega] at h1
  rw [show j + 1 - 1 = j by omega]
  exact h1
/-- dice: how often each is left -/
def gdV (g l k : Int) : Int := if k = g ∧ k = l then 4 else if k = g ∨ k = l then 1 else 0
def gdF (f : Int → Int) (g l i : Int) : Int → Int := fun k => if 1 ≤ k ∧ k < i then gdV g l k else f k
theorem gdF_1 (f : Int → Int) (g l : Int) : gdF f g l 1 = f := by
  funext k
  unfold gdF
  rw [if_neg (by omega)]
theorem gdF_s {f : Int → Int} {g l i v : Int} (h : 1 ≤ i) (hv : v = gdV g l i) : up (gdF f g l i) i v = gdF f g l (i + 1) := by
  funext k
  by_cases q : k = i
  · rw [q, up_s, hv]
    unfold gdF
    rw [if_pos (by omega)]
  · rw [up_n _ _ q]
    unfold gdF
    by_cases q2 : 1 ≤ k ∧ k < i
    · rw [if_pos q2, if_pos (by omega)]
    · rw [if_neg q2, if_neg (by omega)]
/-- men on a stretch of points -/
def cnM (b : Int → Int) (sd a e : Int) : Int := sz (fun p => b (26 * sd + (a + p))) (e - a)
theorem cnM_0 (b : Int → Int) (sd a : Int) : cnM b sd a a = 0 := by
  unfold cnM
  rw [show a - a = 0 by omega]
  rfl
theorem cnM_s {b : Int → Int} {sd a e : Int} (h : a ≤ e) : cnM b sd a (e + 1) = cnM b sd a e + b (26 * sd + e) := by
  unfold cnM
  rw [show e + 1 - a = (e - a) + 1 by omega, sz_s _ (by omega), show a + (e - a) = e by omega]
/-- equities as the reference's table has them: moved by one -/
def eqM (ra : Int) (f : Int → Int) (x y : Int) : Prop := ∀ i j : Int, 0 ≤ i → i < 27 → 0 ≤ j → j < 27 → (i < x ∨ (i = x ∧ j < y)) → f (27 * i + j) = eqv ra (i - 1) (j - 1)
theorem eqM_0 (ra : Int) (f : Int → Int) : eqM ra f 0 0 := fun i j a b c d h => by omega
theorem eqM_r {ra x y : Int} {f : Int → Int} (h : eqM ra f x y) (hy : 27 ≤ y) : eqM ra f (x + 1) 0 := fun i j a b c d h9 => h i j a b c d (by omega)
theorem eqM_s {ra x y v : Int} {f : Int → Int} (h : eqM ra f x y) (hx : 0 ≤ x ∧ x < 27) (hy : 0 ≤ y ∧ y < 27) (hv : v = eqv ra (x - 1) (y - 1)) : eqM ra (up f (27 * x + y) v) x (y + 1) := by
  intro i j a b c d h9
  by_cases q : i = x ∧ j = y
  · rw [q.1, q.2, up_s, hv]
  · rw [up_n _ _ (by omega)]
    exact h i j a b c d (by omega)
theorem eqM_a {ra x y : Int} {f : Int → Int} (h : eqM ra f x y) (hx : 0 ≤ x ∧ x < 2) (hy : 0 ≤ y ∧ y < 27) : eqM ra (up f (27 * x + y) 1000000) x (y + 1) :=
  eqM_s h (by omega) hy (by rw [eqv_a (by omega)])
theorem eqM_z {ra x y : Int} {f : Int → Int} (h : eqM ra f x y) (hz : ∀ i j : Int, 2 ≤ i → i < 27 → 0 ≤ j → j < 2 → f (27 * i + j) = 0) (hx : 2 ≤ x ∧ x < 27) (hy : 0 ≤ y ∧ y < 2) : eqM ra f x (y + 1) := by
  intro i j a b c d h9
  by_cases q : i = x ∧ j = y
  · rw [q.1, q.2, hz x y hx.1 hx.2 hy.1 hy.2, eqv_b (by omega) (by omega)]
  · exact h i j a b c d (by omega)
theorem cnM_rg {n0 sd a e : Int} {b : Int → Int} (hv : VB n0 b) (hn : n0 ≤ 15) (_ : 0 ≤ sd ∧ sd ≤ 1) (_ : 0 ≤ a) (he : e - a ≤ 26) : 0 ≤ cnM b sd a e ∧ cnM b sd a e ≤ 1000 := by
  unfold cnM sz
  have h1 := sm_nonneg (f := fun p => b (26 * sd + (a + p))) (fun k => hv.1 _) (e - a).toNat
  have key : ∀ n : Nat, sm (fun p => b (26 * sd + (a + p))) n ≤ 15 * (n : Int) := by
    intro n
    induction n with
    | zero => rw [sm]; omega
    | succ n ih =>
      rw [sm]
      have := hv.le (26 * sd + (a + (n : Int)))
      omega
  have h2 := key (e - a).toNat
  omega
