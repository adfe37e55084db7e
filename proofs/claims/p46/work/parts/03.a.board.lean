/-! THE TRACK: a position is a function of 52 places: 26 * side + point -/
def sm (f : Int → Int) : Nat → Int
  | 0 => 0
  | n + 1 => sm f n + f n
theorem sm_congr {f g : Int → Int} : ∀ {n : Nat}, (∀ k : Int, 0 ≤ k → k < n → f k = g k) → sm f n = sm g n
  | 0, _ => rfl
  | n + 1, h => by
    rw [sm, sm, sm_congr (fun k h0 h1 => h k h0 (by omega)), h n (by omega) (by omega)]
/-- a sum up to a whole number -/
def sz (f : Int → Int) (i : Int) : Int := sm f i.toNat
theorem sz_0 (f : Int → Int) : sz f 0 = 0 := rfl
theorem sz_s (f : Int → Int) {i : Int} (h : 0 ≤ i) : sz f (i + 1) = sz f i + f i := by
  unfold sz
  rw [show (i + 1).toNat = i.toNat + 1 by omega, sm, Int.toNat_of_nonneg h]
theorem sz_congr {f g : Int → Int} {i : Int} (h : ∀ k : Int, 0 ≤ k → k < i → f k = g k) : sz f i = sz g i :=
  sm_congr (fun k h0 h1 => h k h0 (by omega))
theorem bx {b : Int → Int} {i j : Int} (h : i = j) : b i = b j := by rw [h]
/-- the first i places from f, the others as they were -/
def fl (f g : Int → Int) (i : Int) : Int → Int := fun k => if 0 ≤ k ∧ k < i then f k else g k
theorem fl_0 (f g : Int → Int) : fl f g 0 = g := by
  funext k
  unfold fl
  rw [if_neg (by omega)]
theorem fl_s (f g : Int → Int) {i : Int} (h : 0 ≤ i) : up (fl f g i) i (f i) = fl f g (i + 1) := by
  funext k
  by_cases q : k = i
  · subst q
    rw [up_s]
    show f k = if 0 ≤ k ∧ k < k + 1 then f k else g k
    rw [if_pos (by omega)]
  · rw [up_n _ _ q]
    show (if 0 ≤ k ∧ k < i then f k else g k) = if 0 ≤ k ∧ k < i + 1 then f k else g k
    by_cases q2 : 0 ≤ k ∧ k < i
    · rw [if_pos q2, if_pos (by omega)]
    · rw [if_neg q2, if_neg (by omega)]
/-- rows are the same cells where they agree within their length -/
theorem arrV_ext {cA : ClassId} {n : Nat} {f g : Nat → Value} (h : ∀ k, k < n → f k = g k) : arrV cA n f = arrV cA n g := by
  unfold arrV
  congr 1
  first
    | (apply Array.ext <;> simp; intro i hi; exact h i (by simpa using hi))
    | (congr 1; exact List.map_congr_left fun k hk => h k (List.mem_range.mp hk))
theorem va_P_cell {D : va_G} {cl : List vw_C} {ws : va_W} {H : Heap} {q a : Nat} {e e' : va_E} (hP : va_P D cl ws H) (he : ws[q]? = some (a, e)) (h : va_at D cl (a, e) H → va_at D cl (a, e') H) : va_P D cl (ws.set q (a, e')) H := by
  intro k x hk
  have hl := (List.getElem?_eq_some_iff.mp he).1
  by_cases hq : q = k
  · subst hq
    rw [List.getElem?_set_self hl] at hk
    cases hk
    exact h (hP q _ he)
  · rw [List.getElem?_set_ne hq] at hk
    exact hP k x hk
theorem z_ext {G : wG} {ws : va_W} {H : Heap} {q a n : Nat} {f g : Int → Int} (hP : va_P G.1 vwCl ws H) (he : ws[q]? = some (a, .inl (G.2.1.1, n, .inl (aI f)))) (h : ∀ k : Int, 0 ≤ k → k < n → f k = g k) : va_P G.1 vwCl (ws.set q (a, .inl (G.2.1.1, n, .inl (aI g)))) H := by
  refine va_P_cell hP he (fun h1 => ?_)
  show H[a]? = some (vp_cell _ _)
  have h2 : H[a]? = some (vp_cell G.2.1.1 (n, .inl (aI f))) := h1
  rw [h2, vp_cell_i, vp_cell_i]
  congr 1
  exact arrV_ext (fun k hk => by
    show Value.int (zI (f k)) = .int (zI (g k))
    rw [h k (by omega) (by omega)])
theorem va_D_cell {A : Nat → Prop} {ws : va_W} {q a : Nat} {e e' : va_E} (hD : va_D A ws) (he : ws[q]? = some (a, e)) : va_D A (ws.set q (a, e')) := hD.set he
/-- a side's man farthest from home, among the points up to n; 0: none -/
def farN (b : Int → Int) (sd : Int) : Nat → Int
  | 0 => 0
  | n + 1 => if 0 < b (26 * sd + (n + 1 : Nat)) then (n + 1 : Nat) else farN b sd n
def far (b : Int → Int) (sd : Int) : Int := farN b sd 25
theorem farN_s {b : Int → Int} {sd : Int} {n : Nat} (h : ¬ 0 < b (26 * sd + (n + 1 : Nat))) : farN b sd (n + 1) = farN b sd n := by rw [farN, if_neg h]
theorem farN_rg (b : Int → Int) (sd : Int) : ∀ n : Nat, 0 ≤ farN b sd n ∧ farN b sd n ≤ n
  | 0 => by simp [farN]
  | n + 1 => by
    have h := farN_rg b sd n
    rw [farN]
    split <;> omega
theorem far_rg (b : Int → Int) (sd : Int) : 0 ≤ far b sd ∧ far b sd ≤ 25 := farN_rg b sd 25
/-- counts that can be: small ones -/
def okB (b : Int → Int) : Prop := ∀ k : Int, 0 ≤ b k ∧ b k ≤ 1000
/-- a move can be made -/
def canP (b : Int → Int) (sd fr d : Int) : Prop :=
  1 ≤ fr ∧ fr ≤ 25 ∧ b (26 * sd + fr) ≠ 0 ∧ (fr = 25 ∨ b (26 * sd + 25) ≤ 0) ∧ ((d < fr ∧ b (26 * (1 - sd) + (25 - (fr - d))) < 2) ∨ (fr ≤ d ∧ far b sd ≤ 6 ∧ (fr = d ∨ fr = far b sd)))
/-- where a move goes to -/
def toP (fr d : Int) : Int := if d < fr then fr - d else 0
/-- a man is hit -/
def hitP (b : Int → Int) (sd fr d : Int) : Prop := d < fr ∧ b (26 * (1 - sd) + (25 - (fr - d))) ≠ 0
/-- the man moved, none hit yet -/
def mvB (b : Int → Int) (sd fr d : Int) : Int → Int := up (up b (26 * sd + fr) (b (26 * sd + fr) + (-1))) (26 * sd + toP fr d) (up b (26 * sd + fr) (b (26 * sd + fr) + (-1)) (26 * sd + toP fr d) + 1)
/-- the man that stands at a point goes on the bar -/
def htB (b : Int → Int) (os pt : Int) : Int → Int := up (up b (26 * os + pt) (b (26 * os + pt) + (-1))) (26 * os + 25) (up b (26 * os + pt) (b (26 * os + pt) + (-1)) (26 * os + 25) + 1)
def stp (b : Int → Int) (sd fr d : Int) : Int → Int :=
  if d < fr ∧ b (26 * (1 - sd) + (25 - (fr - d))) ≠ 0 then htB (mvB b sd fr d) (1 - sd) (25 - toP fr d) else mvB b sd fr d
theorem stp_t {b : Int → Int} {sd fr d : Int} (h : hitP b sd fr d) : stp b sd fr d = htB (mvB b sd fr d) (1 - sd) (25 - toP fr d) := if_pos h
theorem stp_f {b : Int → Int} {sd fr d : Int} (h : ¬ hitP b sd fr d) : stp b sd fr d = mvB b sd fr d := if_neg h
/-- what Board.at answers -/
def atB (b : Int → Int) (sd pt : Int) : Int := if 0 ≤ sd ∧ sd ≤ 1 ∧ 0 ≤ pt ∧ pt ≤ 25 then b (26 * sd + pt) else 0
theorem atB_in {b : Int → Int} {sd pt : Int} (h : 0 ≤ sd ∧ sd ≤ 1 ∧ 0 ≤ pt ∧ pt ≤ 25) : atB b sd pt = b (26 * sd + pt) := if_pos h
theorem atB_out {b : Int → Int} {sd pt : Int} (h : ¬ (0 ≤ sd ∧ sd ≤ 1 ∧ 0 ≤ pt ∧ pt ≤ 25)) : atB b sd pt = 0 := if_neg h
theorem atB_cs (b : Int → Int) (sd pt : Int) : ((0 ≤ sd ∧ sd ≤ 1 ∧ 0 ≤ pt ∧ pt ≤ 25) ∧ atB b sd pt = b (26 * sd + pt)) ∨ (¬ (0 ≤ sd ∧ sd ≤ 1 ∧ 0 ≤ pt ∧ pt ≤ 25) ∧ atB b sd pt = 0) := by
  by_cases h : 0 ≤ sd ∧ sd ≤ 1 ∧ 0 ≤ pt ∧ pt ≤ 25
  · exact Or.inl ⟨h, atB_in h⟩
  · exact Or.inr ⟨h, atB_out h⟩
theorem zmax_to (fr d : Int) : zmax (fr - d) 0 = toP fr d := by
  unfold zmax toP
  split <;> split <;> omega
theorem toP_rg {fr d : Int} (h : 0 ≤ fr ∧ fr ≤ 25 ∧ 0 ≤ d) : 0 ≤ toP fr d ∧ toP fr d ≤ 25 := by
  unfold toP
  split <;> omega
/-- a side's places aren't the other one's -/
theorem mvB_o {b : Int → Int} {sd fr d pt : Int} (hs : 0 ≤ sd ∧ sd ≤ 1) (hf : 0 ≤ fr ∧ fr ≤ 25) (hd : 0 ≤ d) (hp : 0 ≤ pt ∧ pt ≤ 25) : mvB b sd fr d (26 * (1 - sd) + pt) = b (26 * (1 - sd) + pt) := by
  have h := toP_rg (fr := fr) (d := d) ⟨hf.1, hf.2, hd⟩
  unfold mvB
  rw [up_n _ _ (by omega), up_n _ _ (by omega)]
def farZ (b : Int → Int) (sd i : Int) : Int := farN b sd i.toNat
theorem farZ_hit {b : Int → Int} {sd i : Int} (h : 1 ≤ i) (hb : 0 < b (26 * sd + i)) : farZ b sd i = i := by
  unfold farZ
  obtain ⟨n, rfl⟩ : ∃ n : Nat, i = (n + 1 : Nat) := ⟨(i - 1).toNat, by omega⟩
  rw [Int.toNat_natCast, farN, if_pos hb]
theorem farZ_miss {b : Int → Int} {sd i : Int} (h : 1 ≤ i) (hb : b (26 * sd + i) ≤ 0) : farZ b sd i = farZ b sd (i + -1) := by
  unfold farZ
  obtain ⟨n, rfl⟩ : ∃ n : Nat, i = (n + 1 : Nat) := ⟨(i - 1).toNat, by omega⟩
  rw [Int.toNat_natCast, farN, if_neg (by omega), show ((n + 1 : Nat) : Int) + -1 = (n : Int) by omega, Int.toNat_natCast]
theorem farZ_0 {b : Int → Int} {sd i : Int} (h : i ≤ 0) : farZ b sd i = 0 := by
  unfold farZ
  rw [show i.toNat = 0 by omega, farN]
