/-! THE SMALL OBJECTS: what their calls make of their numbers -/
/-- Crawford's three times, as a game ends -/
def crN (cr le pt : Int) : Int := if cr = 1 then 2 else if cr = 0 ∧ 0 < le ∧ pt = le - 1 then 1 else cr
/-- the table: a payment, all of them, the seats behind -/
def py (f : Int → Int) (a b v : Int) : Int → Int := up (up f a (f a - v)) b (up f a (f a - v) b + v)
def pyN (se : Int → Int) (v : Int) (f : Int → Int) : Nat → (Int → Int)
  | 0 => f
  | n + 1 => py (pyN se v f n) (se (n + 1 : Nat)) (se 0) v
def pyZ (se : Int → Int) (v : Int) (f : Int → Int) (i : Int) : Int → Int := pyN se v f (i - 1).toNat
theorem pyZ_1 (se : Int → Int) (v : Int) (f : Int → Int) : pyZ se v f 1 = f := rfl
theorem pyZ_s {se : Int → Int} {v : Int} {f : Int → Int} {i : Int} (h : 1 ≤ i) : pyZ se v f (i + 1) = py (pyZ se v f i) (se i) (se 0) v := by
  obtain ⟨n, rfl⟩ : ∃ n : Nat, i = (n + 1 : Nat) := ⟨(i - 1).toNat, by omega⟩
  unfold pyZ
  rw [show (((n + 1 : Nat) : Int) + 1 - 1).toNat = n + 1 by omega, show (((n + 1 : Nat) : Int) - 1).toNat = n by omega, pyN]
/-- the seats from lv on move up by one, as far as i -/
def mu (se : Int → Int) (lv i : Int) : Int → Int := fun k => if lv ≤ k ∧ k < i then se (k + 1) else se k
theorem mu_0 (se : Int → Int) (lv : Int) : mu se lv lv = se := by
  funext k
  unfold mu
  rw [if_neg (by omega)]
theorem mu_at (se : Int → Int) {lv i : Int} (h : i ≤ lv + 1000) : mu se lv i (i + 1) = se (i + 1) := by
  unfold mu
  rw [if_neg (by omega)]
theorem mu_s (se : Int → Int) {lv i : Int} (h : lv ≤ i) : up (mu se lv i) i (se (i + 1)) = mu se lv (i + 1) := by
  funext k
  by_cases q : k = i
  · subst q
    rw [up_s]
    unfold mu
    rw [if_pos (by omega)]
  · rw [up_n _ _ q]
    unfold mu
    by_cases q2 : lv ≤ k ∧ k < i
    · rw [if_pos q2, if_pos (by omega)]
    · rw [if_neg q2, if_neg (by omega)]
def seN (se : Int → Int) (lv n : Int) : Int → Int := up (mu se lv (n - 1)) (n - 1) (se lv)
/-- how unevenly the faces fell -/
def alF (f : Int → Int) (i : Int) : Int := sz (fun k => f (k + 1)) (i - 1)
def unF (f : Int → Int) (al i : Int) : Int := sz (fun k => (6 * f (k + 1) - al) * (6 * f (k + 1) - al)) (i - 1)
theorem alF_s {f : Int → Int} {i : Int} (h : 1 ≤ i) : alF f (i + 1) = alF f i + f i := by
  unfold alF
  rw [show i + 1 - 1 = (i - 1) + 1 by omega, sz_s _ (by omega), show i - 1 + 1 = i by omega]
theorem unF_s {f : Int → Int} {al i : Int} (h : 1 ≤ i) : unF f al (i + 1) = unF f al i + (6 * f i - al) * (6 * f i - al) := by
  unfold unF
  rw [show i + 1 - 1 = (i - 1) + 1 by omega, sz_s _ (by omega), show i - 1 + 1 = i by omega]
/-- equities: the table of two numbers of points, one row of 26 behind the other -/
def eqAt (f : Int → Int) (a b : Int) : Int := if a ≤ 0 then 1000000 else if b ≤ 0 ∨ 26 ≤ a ∨ 26 ≤ b then 0 else f (a * 26 + b)
theorem eqAt_a {f : Int → Int} {a b : Int} (h : a ≤ 0) : eqAt f a b = 1000000 := if_pos h
theorem eqAt_b {f : Int → Int} {a b : Int} (h : ¬ a ≤ 0) (h2 : b ≤ 0 ∨ 26 ≤ a ∨ 26 ≤ b) : eqAt f a b = 0 := by unfold eqAt; rw [if_neg h, if_pos h2]
theorem eqAt_c {f : Int → Int} {a b : Int} (h : ¬ a ≤ 0) (h2 : ¬ (b ≤ 0 ∨ 26 ≤ a ∨ 26 ≤ b)) : eqAt f a b = f (a * 26 + b) := by unfold eqAt; rw [if_neg h, if_neg h2]
theorem arrL_ext {cA : ClassId} {n : Nat} {f g : Int → Int} (h : ∀ k : Int, 0 ≤ k → k < n → f k = g k) : vp_cell cA (n, .inr (.inl (aL f))) = vp_cell cA (n, .inr (.inl (aL g))) := by
  rw [vp_cell_l, vp_cell_l]
  exact arrV_ext (fun k hk => by
    show Value.long (zL (f k)) = .long (zL (g k))
    rw [h k (by omega) (by omega)])
theorem z_extJ {G : wG} {ws : va_W} {H : Heap} {q a n : Nat} {f g : Int → Int} (hP : va_P G.1 vwCl ws H) (he : ws[q]? = some (a, .inl (G.2.1.2.1, n, .inr (.inl (aL f))))) (h : ∀ k : Int, 0 ≤ k → k < n → f k = g k) : va_P G.1 vwCl (ws.set q (a, .inl (G.2.1.2.1, n, .inr (.inl (aL g))))) H := by
  refine va_P_cell hP he (fun h1 => ?_)
  show H[a]? = some (vp_cell _ _)
  have h2 : H[a]? = some (vp_cell G.2.1.2.1 (n, .inr (.inl (aL f)))) := h1
  rw [h2, arrL_ext h]
