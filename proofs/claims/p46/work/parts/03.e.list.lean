/-! THE LIST OF PLAYS as the class builds it -/
theorem gD_l {α : Type} {l m : List α} {i : Nat} {x : α} (h : i < l.length) : (l ++ m).getD i x = l.getD i x := by
  rw [List.getD_eq_getElem?_getD, List.getD_eq_getElem?_getD, List.getElem?_append_left h]
theorem gD_r {α : Type} {l : List α} {x y : α} : (l ++ [y]).getD l.length x = y := by
  rw [List.getD_eq_getElem?_getD, List.getElem?_append_right (Nat.le_refl _), Nat.sub_self]
  rfl
theorem gD_e {α : Type} {l : List α} {i : Nat} {x : α} (h : i < l.length) : l.getD i x = l[i] := by
  rw [List.getD_eq_getElem?_getD, List.getElem?_eq_getElem h]
  rfl
theorem gD_m {α : Type} {l : List α} {i : Nat} {x : α} (h : i < l.length) : l.getD i x ∈ l := by
  rw [gD_e h]
  exact List.getElem_mem h
abbrev Row : Type := List (Int × Int)
def canB (b : Int → Int) (sd fr d : Int) : Bool := decide (1 ≤ fr ∧ fr ≤ 25 ∧ b (26 * sd + fr) ≠ 0 ∧ (fr = 25 ∨ b (26 * sd + 25) ≤ 0) ∧ ((d < fr ∧ b (26 * (1 - sd) + (25 - (fr - d))) < 2) ∨ (fr ≤ d ∧ far b sd ≤ 6 ∧ (fr = d ∨ fr = far b sd))))
theorem canB_iff {b : Int → Int} {sd fr d : Int} : canB b sd fr d = true ↔ canP b sd fr d := by
  unfold canB
  rw [decide_eq_true_iff]
  exact Iff.rfl
theorem canB_f {b : Int → Int} {sd fr d : Int} (h : ¬ canP b sd fr d) : canB b sd fr d = false := by
  cases q : canB b sd fr d with
  | false => rfl
  | true => exact absurd (canB_iff.mp q) h
/-- the points from n down to 1 -/
def dn : Nat → List Int
  | 0 => []
  | n + 1 => ((n + 1 : Nat) : Int) :: dn n
theorem mem_dn {x : Int} : ∀ {n : Nat}, x ∈ dn n ↔ 1 ≤ x ∧ x ≤ n
  | 0 => by simp [dn]; omega
  | n + 1 => by
    rw [dn, List.mem_cons, mem_dn]
    omega
def mvs (b : Int → Int) (sd d : Int) (h : Nat) : List Int := (dn h).filter (fun fr => canB b sd fr d)
theorem mem_mvs {b : Int → Int} {sd d x : Int} {h : Nat} : x ∈ mvs b sd d h ↔ (1 ≤ x ∧ x ≤ h) ∧ canP b sd x d := by
  unfold mvs
  rw [List.mem_filter, mem_dn, canB_iff]
/-- by a whole number -/
def mvZ (b : Int → Int) (sd d h : Int) : List Int := mvs b sd d h.toNat
theorem mvZ_0 {b : Int → Int} {sd d h : Int} (hh : h < 1) : mvZ b sd d h = [] := by
  unfold mvZ
  rw [show h.toNat = 0 by omega]
  rfl
theorem mvZ_t {b : Int → Int} {sd d h : Int} (hh : 1 ≤ h) (hc : canP b sd h d) : mvZ b sd d h = h :: mvZ b sd d (h + -1) := by
  obtain ⟨n, rfl⟩ : ∃ n : Nat, h = (n + 1 : Nat) := ⟨(h - 1).toNat, by omega⟩
  unfold mvZ mvs
  rw [Int.toNat_natCast, show (((n + 1 : Nat) : Int) + -1).toNat = n by omega, dn, List.filter_cons_of_pos (p := fun fr => canB b sd fr d) (canB_iff.mpr hc)]
theorem mvZ_f {b : Int → Int} {sd d h : Int} (hh : 1 ≤ h) (hc : ¬ canP b sd h d) : mvZ b sd d h = mvZ b sd d (h + -1) := by
  obtain ⟨n, rfl⟩ : ∃ n : Nat, h = (n + 1 : Nat) := ⟨(h - 1).toNat, by omega⟩
  unfold mvZ mvs
  rw [Int.toNat_natCast, show (((n + 1 : Nat) : Int) + -1).toNat = n by omega, dn, List.filter_cons_of_neg (p := fun fr => canB b sd fr d) (by show ¬ canB b sd _ d = true; rw [canB_f hc]; decide)]
/-- the first of the greatest among n numbers -/
def grW (w : Int → Int) : Nat → Nat
  | 0 => 0
  | n + 1 => if n = 0 then 0 else if w (grW w n) < w n then n else grW w n
theorem grW_lt (w : Int → Int) : ∀ n : Nat, grW w n < n ∨ (n = 0 ∧ grW w n = 0)
  | 0 => Or.inr ⟨rfl, rfl⟩
  | n + 1 => by
    rw [grW]
    have := grW_lt w n
    split
    · omega
    · split <;> omega
theorem grW_congr {w w' : Int → Int} : ∀ {n : Nat}, (∀ i : Nat, i < n → w i = w' i) → grW w n = grW w' n
  | 0, _ => rfl
  | n + 1, h => by
    rw [grW, grW, grW_congr (fun i hi => h i (by omega))]
    have h1 := grW_lt w' n
    split
    · rfl
    · rw [h n (by omega), h (grW w' n) (by omega)]
def grZ (w : Int → Int) (n : Int) : Int := grW w n.toNat
theorem grZ_rg (w : Int → Int) {n : Int} (h : 0 ≤ n) : 0 ≤ grZ w n ∧ (grZ w n < n ∨ (n = 0 ∧ grZ w n = 0)) := by
  have := grW_lt w n.toNat
  unfold grZ
  omega
theorem grZ_s {w : Int → Int} {n v : Int} (h : 0 ≤ n) : grZ (up w n v) (n + 1) = if up w n v (grZ w n) < v then n else grZ w n := by
  obtain ⟨m, rfl⟩ : ∃ m : Nat, n = m := ⟨n.toNat, by omega⟩
  unfold grZ
  have h1 := grW_lt w m
  rw [show ((m : Int) + 1).toNat = m + 1 by omega, Int.toNat_natCast, grW, grW_congr (w := up w m v) (w' := w) (fun i hi => up_n _ _ (by omega)), up_s]
  by_cases q : m = 0
  · subst q
    rw [if_pos rfl]
    have e : grW w 0 = 0 := rfl
    rw [e]
    show ((0 : Nat) : Int) = if up w ((0 : Nat) : Int) v ((0 : Nat) : Int) < v then _ else _
    rw [up_s, if_neg (by omega)]
  · rw [if_neg q]
    split <;> rfl
/-- the rows that are kept: their numbers, their worths, the first of the best -/
def RepP (b0 : Int → Int) (sd : Int) (L : List Row) (fr fw : Int → Int) (cnt gr : Int) : Prop :=
  cnt = L.length ∧ (∀ i : Nat, i < L.length → fr i = rc (L.getD i []) ∧ fw i = wth (poR sd b0 (L.getD i [])) sd) ∧ gr = grZ fw cnt ∧ ∀ k, -100000 ≤ fw k ∧ fw k ≤ 100000
theorem RepP_0 {b0 : Int → Int} {sd : Int} {fr fw : Int → Int} (h : ∀ k, -100000 ≤ fw k ∧ fw k ≤ 100000) : RepP b0 sd [] fr fw 0 0 := ⟨rfl, fun i hi => by simp at hi, rfl, h⟩
theorem RepP_add {b0 : Int → Int} {sd : Int} {L : List Row} {fr fw : Int → Int} {cnt gr w : Int} {r : Row} (h : RepP b0 sd L fr fw cnt gr) (hw : w = wth (poR sd b0 r) sd) (hr : -100000 ≤ w ∧ w ≤ 100000) : RepP b0 sd (L ++ [r]) (up fr cnt (rc r)) (up fw cnt w) (cnt + 1) (if up fw cnt w gr < w then cnt else gr) := by
  obtain ⟨h1, h2, h3, h4⟩ := h
  refine ⟨by rw [List.length_append, h1]; simp, fun i hi => ?_, ?_, fun k => ?_⟩
  · rw [List.length_append] at hi
    by_cases q : i < L.length
    · rw [gD_l q, up_n _ _ (by omega), up_n _ _ (by omega)]
      exact h2 i q
    · have e : i = L.length := by simp at hi; omega
      subst e
      rw [← h1, up_s, up_s, gD_r]
      exact ⟨rfl, hw⟩
  · rw [h3, grZ_s (by omega)]
  · by_cases q : k = cnt
    · subst q; rw [up_s]; exact hr
    · rw [up_n _ _ q]; exact h4 k
theorem RepP_gr {b0 : Int → Int} {sd : Int} {L : List Row} {fr fw : Int → Int} {cnt gr : Int} (h : RepP b0 sd L fr fw cnt gr) : 0 ≤ cnt ∧ 0 ≤ gr ∧ (gr < cnt ∨ (cnt = 0 ∧ gr = 0)) := by
  obtain ⟨h1, -, h3, -⟩ := h
  have := grZ_rg fw (n := cnt) (by omega)
  omega
/-- rows of one die: no move from a point above the last one's -/
def lvS (sd d : Int) : Nat → (Int → Int) → Int → List Row
  | 0, _, _ => [[]]
  | n + 1, b, h => if mvZ b sd d h = [] then [[]] else (mvZ b sd d h).flatMap (fun fr => (lvS sd d n (stp b sd fr d) fr).map ((fr, d) :: ·))
/-- the longest rows so far, another one -/
def adL (s : Int × List Row) (r : Row) : Int × List Row := if s.1 < r.length then ((r.length : Int), [r]) else if (r.length : Int) = s.1 then (s.1, s.2 ++ [r]) else s
def adLs (s : Int × List Row) (rs : List Row) : Int × List Row := rs.foldl adL s
/-- what two moves change, as one number; the points where they hit, as bits -/
def p5 (k : Int) : Int := (5 ^ k.toNat : Nat)
def kch : Row → Int
  | [] => 0
  | q :: t => (p5 (toP q.1 q.2) - p5 q.1) + kch t
def orZ (a b : Int) : Int := ((a.toNat ||| b.toNat : Nat) : Int)
def hpZ (b : Int → Int) (sd fr d : Int) : Int := if hwB b sd fr d = 0 then 0 else (2 ^ (fr - d).toNat : Nat)
def kpt (sd : Int) : (Int → Int) → Row → Int
  | _, [] => 0
  | b, q :: t => orZ (hpZ b sd q.1 q.2) (kpt sd (stp b sd q.1 q.2) t)
def RepK (b0 : Int → Int) (sd : Int) (L : List Row) (fc fh : Int → Int) : Prop := ∀ i : Nat, i < L.length → fc i = kch (L.getD i []) ∧ fh i = kpt sd b0 (L.getD i [])
def adN (sd : Int) (b0 : Int → Int) (L : List Row) (r : Row) : List Row := if (L.any fun x => decide (kch x = kch r) && decide (kpt sd b0 x = kpt sd b0 r)) = true then L else L ++ [r]
theorem adN_t {sd : Int} {b0 : Int → Int} {L : List Row} {r : Row} (h : ∃ i : Nat, i < L.length ∧ kch (L.getD i []) = kch r ∧ kpt sd b0 (L.getD i []) = kpt sd b0 r) : adN sd b0 L r = L := by
  unfold adN
  rw [if_pos]
  obtain ⟨i, hi, h1, h2⟩ := h
  rw [List.any_eq_true]
  refine ⟨L.getD i [], ?_, by rw [decide_eq_true h1, decide_eq_true h2]; rfl⟩
  exact gD_m hi
theorem adN_f {sd : Int} {b0 : Int → Int} {L : List Row} {r : Row} (h : ∀ i : Nat, i < L.length → ¬ (kch (L.getD i []) = kch r ∧ kpt sd b0 (L.getD i []) = kpt sd b0 r)) : adN sd b0 L r = L ++ [r] := by
  unfold adN
  rw [if_neg]
  intro h9
  rw [List.any_eq_true] at h9
  obtain ⟨x, hx, h2⟩ := h9
  obtain ⟨i, hi, rfl⟩ := List.getElem_of_mem hx
  rw [Bool.and_eq_true, decide_eq_true_iff, decide_eq_true_iff] at h2
  refine h i hi ?_
  rw [gD_e hi]
  exact h2
theorem up_rg {f : Int → Int} {k v lo hi : Int} (h : ∀ k, lo ≤ f k ∧ f k ≤ hi) (hv : lo ≤ v ∧ v ≤ hi) (j : Int) : lo ≤ up f k v j ∧ up f k v j ≤ hi := by
  by_cases q : j = k
  · subst q; rw [up_s]; exact hv
  · rw [up_n _ _ q]; exact h j
def hpW (x d w : Int) : Int := if w = 0 then 0 else (2 ^ (x - d).toNat : Nat)
theorem hpZ_w (b : Int → Int) (sd fr d : Int) : hpZ b sd fr d = hpW fr d (hwB b sd fr d) := rfl
theorem hpW_rg {x d w : Int} (h : w ≠ 0 → x - d ≤ 24) : 0 ≤ hpW x d w ∧ hpW x d w ≤ 16777216 := by
  unfold hpW
  split
  · omega
  · next q =>
    have h1 : (2 : Nat) ^ (x - d).toNat ≤ 16777216 := Nat.pow_le_pow_right (j := 24) (by decide) (by have := h q; omega)
    exact ⟨Int.natCast_nonneg _, Int.ofNat_le.mpr h1⟩
theorem orZ_rg {a b : Int} (ha : 0 ≤ a ∧ a < 1073741824) (hb : 0 ≤ b ∧ b < 1073741824) : 0 ≤ orZ a b ∧ orZ a b < 1073741824 := by
  have h := Nat.or_lt_two_pow (n := 30) (x := a.toNat) (y := b.toNat) (by omega) (by omega)
  unfold orZ
  omega
theorem orZ_0 {a : Int} (ha : 0 ≤ a) : orZ a 0 = a := by
  unfold orZ
  show ((a.toNat ||| (0 : Int).toNat : Nat) : Int) = a
  rw [show (0 : Int).toNat = 0 from rfl, Nat.or_zero]
  omega
theorem p5_rg (k : Int) (h : k ≤ 25) : 0 ≤ p5 k ∧ p5 k ≤ 298023223876953125 := by
  unfold p5
  have h1 : (5 : Nat) ^ k.toNat ≤ 298023223876953125 := Nat.pow_le_pow_right (j := 25) (by decide) (by omega)
  exact ⟨Int.natCast_nonneg _, Int.ofNat_le.mpr h1⟩
theorem p5_s {k : Int} (h : 0 ≤ k) : 5 * p5 k = p5 (k + 1) := by
  unfold p5
  rw [show (k + 1).toNat = k.toNat + 1 by omega, Nat.pow_succ, Nat.mul_comm, Int.natCast_mul]
  rfl
/-- two moves, both dice -/
def adSec (sd : Int) (b0 : Int → Int) (f1 d1 d2 : Int) (L : List Row) (fs : List Int) : List Row := fs.foldl (fun L f2 => adN sd b0 L [(f1, d1), (f2, d2)]) L
def adPrs (sd : Int) (b0 : Int → Int) (d1 d2 : Int) (L : List Row) (fs : List Int) : List Row := fs.foldl (fun L f1 => adSec sd b0 f1 d1 d2 L (mvZ (stp b0 sd f1 d1) sd d2 25)) L
def cpPrs (sd : Int) (b0 : Int → Int) (d1 d2 : Int) : List Int → Int
  | [] => 0
  | f1 :: t => (mvZ (stp b0 sd f1 d1) sd d2 25).length + cpPrs sd b0 d1 d2 t
def adSin (L : List Row) (d : Int) (fs : List Int) : List Row := fs.foldl (fun L f => L ++ [[(f, d)]]) L
theorem adN_len (sd : Int) (b0 : Int → Int) (L : List Row) (r : Row) : (adN sd b0 L r).length ≤ L.length + 1 := by
  unfold adN
  split
  · omega
  · rw [List.length_append]; simp
theorem adSec_len {sd : Int} {b0 : Int → Int} {f1 d1 d2 : Int} : ∀ {fs : List Int} {L : List Row}, (adSec sd b0 f1 d1 d2 L fs).length ≤ L.length + fs.length
  | [], L => by simp [adSec]
  | f :: t, L => by
    have h1 := adSec_len (sd := sd) (b0 := b0) (f1 := f1) (d1 := d1) (d2 := d2) (fs := t) (L := adN sd b0 L [(f1, d1), (f, d2)])
    have h2 := adN_len sd b0 L [(f1, d1), (f, d2)]
    show (adSec sd b0 f1 d1 d2 (adN sd b0 L [(f1, d1), (f, d2)]) t).length ≤ _
    rw [List.length_cons]
    omega
theorem adPrs_len {sd : Int} {b0 : Int → Int} {d1 d2 : Int} : ∀ {fs : List Int} {L : List Row}, ((adPrs sd b0 d1 d2 L fs).length : Int) ≤ L.length + cpPrs sd b0 d1 d2 fs
  | [], L => by simp [adPrs, cpPrs]
  | f :: t, L => by
    have h1 := adPrs_len (sd := sd) (b0 := b0) (d1 := d1) (d2 := d2) (fs := t) (L := adSec sd b0 f d1 d2 L (mvZ (stp b0 sd f d1) sd d2 25))
    have h2 := adSec_len (sd := sd) (b0 := b0) (f1 := f) (d1 := d1) (d2 := d2) (fs := mvZ (stp b0 sd f d1) sd d2 25) (L := L)
    show ((adPrs sd b0 d1 d2 (adSec sd b0 f d1 d2 L (mvZ (stp b0 sd f d1) sd d2 25)) t).length : Int) ≤ _
    rw [cpPrs]
    omega
theorem cpPrs_nn {sd : Int} {b0 : Int → Int} {d1 d2 : Int} : ∀ fs : List Int, 0 ≤ cpPrs sd b0 d1 d2 fs
  | [] => by simp [cpPrs]
  | f :: t => by
    have := cpPrs_nn (sd := sd) (b0 := b0) (d1 := d1) (d2 := d2) t
    rw [cpPrs]
    omega
theorem adSin_len {d : Int} : ∀ {fs : List Int} {L : List Row}, (adSin L d fs).length = L.length + fs.length
  | [], L => by simp [adSin]
  | f :: t, L => by
    show (adSin (L ++ [[(f, d)]]) d t).length = _
    rw [adSin_len, List.length_append, List.length_cons]
    simp
    omega
theorem RepK_add {b0 : Int → Int} {sd : Int} {L : List Row} {fc fh : Int → Int} {cnt : Int} {r : Row} (h : RepK b0 sd L fc fh) (hc : cnt = L.length) : RepK b0 sd (L ++ [r]) (up fc cnt (kch r)) (up fh cnt (kpt sd b0 r)) := by
  intro i hi
  rw [List.length_append] at hi
  by_cases q : i < L.length
  · rw [gD_l q, up_n _ _ (by omega), up_n _ _ (by omega)]
    exact h i q
  · have e : i = L.length := by simp at hi; omega
    subst e
    rw [← hc, up_s, up_s, gD_r]
    exact ⟨rfl, rfl⟩
theorem RepK_0 {b0 : Int → Int} {sd : Int} {fc fh : Int → Int} : RepK b0 sd [] fc fh := fun i hi => by simp at hi
theorem mul_rg {a x m n : Int} (ha : 0 ≤ a ∧ a ≤ m) (hx : 0 ≤ x ∧ x ≤ n) : 0 ≤ a * x ∧ a * x ≤ m * n :=
  ⟨Int.mul_nonneg ha.1 hx.1, Int.mul_le_mul ha.2 hx.2 hx.1 (Int.le_trans ha.1 ha.2)⟩
theorem wtN_rg {b : Int → Int} {sd : Int} (h : ∀ k, 0 ≤ b k ∧ b k ≤ 15) : ∀ n : Nat, n ≤ 24 → -1000 - 1000 * (n : Int) ≤ wtN b sd n ∧ wtN b sd n ≤ 1000 + 1000 * (n : Int)
  | 0, _ => by
    have h1 := h (26 * sd + 0)
    have h2 := h (26 * sd + 25)
    have h3 := h (26 * (1 - sd) + 25)
    rw [wtN]
    omega
  | n + 1, hn => by
    have ih := wtN_rg (b := b) (sd := sd) h n (by omega)
    have h1 := mul_rg (a := 25 - (n + 1 : Nat)) (m := 25) (by omega) (h (26 * (1 - sd) + (25 - (n + 1 : Nat))))
    have h2 := mul_rg (a := ((n + 1 : Nat) : Int)) (m := 25) (by omega) (h (26 * sd + (n + 1 : Nat)))
    have h3 := adj_cs (b (26 * sd + (n + 1 : Nat))) (exN b sd n)
    rw [wtN]
    omega
theorem wth_rg {n : Int} {b : Int → Int} {sd : Int} (h : VB n b) (hn : n ≤ 15) : -100000 ≤ wth b sd ∧ wth b sd ≤ 100000 := by
  have h1 := wtN_rg (b := b) (sd := sd) (fun k => ⟨h.1 k, by have := h.le k; omega⟩) 24 (by decide)
  unfold wth
  omega
/-! one die: the tree of rows -/
theorem rc_app {sd : Int} : ∀ {pr : Row} {b : Int → Int} {q : Int × Int}, lgR sd b pr → pr.length ≤ 3 → rc (pr ++ [q]) = rc pr + (8 * q.1 + q.2) * p8 (pr.length : Int)
  | [], _, q, _, _ => by
    show (8 * q.1 + q.2) + 256 * 0 = 0 + (8 * q.1 + q.2) * 1
    omega
  | [x], _, q, _, _ => by
    show (8 * x.1 + x.2) + 256 * ((8 * q.1 + q.2) + 256 * 0) = ((8 * x.1 + x.2) + 256 * 0) + (8 * q.1 + q.2) * 256
    omega
  | [x, y], _, q, _, _ => by
    show (8 * x.1 + x.2) + 256 * ((8 * y.1 + y.2) + 256 * ((8 * q.1 + q.2) + 256 * 0)) = ((8 * x.1 + x.2) + 256 * ((8 * y.1 + y.2) + 256 * 0)) + (8 * q.1 + q.2) * 65536
    omega
  | [x, y, z], _, q, _, _ => by
    show (8 * x.1 + x.2) + 256 * ((8 * y.1 + y.2) + 256 * ((8 * z.1 + z.2) + 256 * ((8 * q.1 + q.2) + 256 * 0))) = ((8 * x.1 + x.2) + 256 * ((8 * y.1 + y.2) + 256 * ((8 * z.1 + z.2) + 256 * 0))) + (8 * q.1 + q.2) * 16777216
    omega
  | _ :: _ :: _ :: _ :: t, _, q, _, h => by simp at h
theorem poR_app (sd : Int) : ∀ (pr : Row) (b : Int → Int) (q : Int × Int), poR sd b (pr ++ [q]) = stp (poR sd b pr) sd q.1 q.2
  | [], _, _ => rfl
  | x :: t, b, q => poR_app sd t (stp b sd x.1 x.2) q
theorem lgR_app {sd : Int} : ∀ {pr : Row} {b : Int → Int} {q : Int × Int}, lgR sd b pr → canP (poR sd b pr) sd q.1 q.2 → (1 ≤ q.2 ∧ q.2 ≤ 6) → lgR sd b (pr ++ [q])
  | [], _, _, _, h1, h2 => ⟨h1, h2, trivial⟩
  | x :: t, b, q, h, h1, h2 => ⟨h.1, h.2.1, lgR_app (pr := t) (b := stp b sd x.1 x.2) h.2.2 h1 h2⟩
theorem adLs_app (s : Int × List Row) (a b : List Row) : adLs s (a ++ b) = adLs (adLs s a) b := List.foldl_append
theorem adL_len (s : Int × List Row) (r : Row) : (adL s r).2.length ≤ s.2.length + 1 ∧ s.1 ≤ (adL s r).1 ∧ (r.length : Int) ≤ (adL s r).1 := by
  unfold adL
  split
  · simp; omega
  · split
    · rw [List.length_append]; simp; omega
    · omega
theorem adLs_len : ∀ (rs : List Row) (s : Int × List Row), (adLs s rs).2.length ≤ s.2.length + rs.length ∧ s.1 ≤ (adLs s rs).1
  | [], s => by simp [adLs]
  | r :: t, s => by
    have h1 := adL_len s r
    have h2 := adLs_len t (adL s r)
    show (adLs (adL s r) t).2.length ≤ _ ∧ _ ≤ (adLs (adL s r) t).1
    rw [List.length_cons]
    omega
theorem adLs_ge {q : Int} : ∀ {rs : List Row} {s : Int × List Row}, rs ≠ [] → (∀ r ∈ rs, q ≤ (r.length : Int)) → q ≤ (adLs s rs).1
  | [], _, h, _ => absurd rfl h
  | r :: t, s, _, h => by
    have h1 := adL_len s r
    have h2 := adLs_len t (adL s r)
    have h3 := h r List.mem_cons_self
    show q ≤ (adLs (adL s r) t).1
    omega
theorem lvS_ne (sd d : Int) : ∀ (n : Nat) (b : Int → Int) (h : Int), lvS sd d n b h ≠ []
  | 0, b, h => by simp [lvS]
  | n + 1, b, h => by
    rw [lvS]
    split
    · simp
    · next q =>
      intro h9
      obtain ⟨f, t, e⟩ := List.exists_cons_of_ne_nil q
      rw [e, List.flatMap_cons, List.append_eq_nil_iff, List.map_eq_nil_iff] at h9
      exact lvS_ne sd d n _ _ h9.1
theorem lvS_leaf {sd d h : Int} {n : Nat} {b : Int → Int} (hl : n = 0 ∨ mvZ b sd d h = []) : lvS sd d n b h = [[]] := by
  cases n with
  | zero => rfl
  | succ n =>
    rw [lvS, if_pos]
    rcases hl with q | q
    · omega
    · exact q
/-- the rows behind a prefix whose next move is from the point i or below -/
def exS (sd d : Int) (m : Nat) (b : Int → Int) (pr : Row) (i : Int) : List Row := ((mvZ b sd d i).flatMap (fun f => (lvS sd d m (stp b sd f d) f).map ((f, d) :: ·))).map (pr ++ ·)
theorem lvS_ext {sd d h : Int} {m : Nat} {b : Int → Int} {pr : Row} (hl : mvZ b sd d h ≠ []) : (lvS sd d (m + 1) b h).map (pr ++ ·) = exS sd d m b pr h := by
  rw [lvS, if_neg hl]
  rfl
theorem exS_t {sd d i : Int} {m : Nat} {b : Int → Int} {pr : Row} (hi : 1 ≤ i) (hc : canP b sd i d) : exS sd d m b pr i = (lvS sd d m (stp b sd i d) i).map ((pr ++ [(i, d)]) ++ ·) ++ exS sd d m b pr (i + -1) := by
  unfold exS
  rw [mvZ_t hi hc, List.flatMap_cons, List.map_append, List.map_map]
  congr 1
  refine List.map_congr_left (fun r _ => ?_)
  show pr ++ ((i, d) :: r) = pr ++ [(i, d)] ++ r
  rw [List.append_assoc]
  rfl
theorem exS_f {sd d i : Int} {m : Nat} {b : Int → Int} {pr : Row} (hi : 1 ≤ i) (hc : ¬ canP b sd i d) : exS sd d m b pr i = exS sd d m b pr (i + -1) := by
  unfold exS
  rw [mvZ_f hi hc]
theorem exS_0 {sd d i : Int} {m : Nat} {b : Int → Int} {pr : Row} (hi : i < 1) : exS sd d m b pr i = [] := by
  unfold exS
  rw [mvZ_0 hi]
  rfl
theorem exS_ne {sd d i : Int} {m : Nat} {b : Int → Int} {pr : Row} (h : mvZ b sd d i ≠ []) : exS sd d m b pr i ≠ [] := by
  rw [← lvS_ext h]
  intro h9
  exact lvS_ne sd d (m + 1) b i (List.map_eq_nil_iff.mp h9)
theorem exS_len {sd d i : Int} {m : Nat} {b : Int → Int} {pr r : Row} (h : r ∈ exS sd d m b pr i) : pr.length + 1 ≤ r.length := by
  unfold exS at h
  obtain ⟨x, hx, rfl⟩ := List.mem_map.mp h
  obtain ⟨f, -, hf⟩ := List.mem_flatMap.mp hx
  obtain ⟨y, -, rfl⟩ := List.mem_map.mp hf
  rw [List.length_append, List.length_cons]
  omega
/-- what the class does with the state at the end of a node -/
theorem adLs_leaf {ln : Int} {L : List Row} {pr : Row} {sd d hi : Int} {n : Nat} {b : Int → Int} (h : lvS sd d n b hi = [[]]) : adLs (ln, L) ((lvS sd d n b hi).map (pr ++ ·)) = adL (ln, L) pr := by
  rw [h]
  show adL (ln, L) (pr ++ []) = _
  rw [List.append_nil]
theorem adL_gt {ln : Int} {L : List Row} {pr : Row} (h : ln < pr.length) : adL (ln, L) pr = ((pr.length : Int), [pr]) := if_pos h
theorem adL_eq {ln : Int} {L : List Row} {pr : Row} (h : (pr.length : Int) = ln) : adL (ln, L) pr = (ln, L ++ [pr]) := by
  unfold adL
  rw [if_neg (by show ¬ ln < _; omega), if_pos h]
theorem adL_lt {ln : Int} {L : List Row} {pr : Row} (h : (pr.length : Int) < ln) : adL (ln, L) pr = (ln, L) := by
  unfold adL
  rw [if_neg (by show ¬ ln < _; omega), if_neg (by show ¬ _ = ln; omega)]
/-- two unlike dice: pairs, else one of the greater, else one of the lesser, else none -/
def unP (sd : Int) (b0 : Int → Int) (g l : Int) : List Row := adPrs sd b0 l g (adPrs sd b0 g l [] (mvZ b0 sd g 25)) (mvZ b0 sd l 25)
def unl (sd : Int) (b0 : Int → Int) (g l : Int) : Int × List Row :=
  if (unP sd b0 g l).length ≠ 0 then (2, unP sd b0 g l) else if (adSin [] g (mvZ b0 sd g 25)).length ≠ 0 then (1, adSin [] g (mvZ b0 sd g 25)) else if (adSin [] l (mvZ b0 sd l 25)).length ≠ 0 then (1, adSin [] l (mvZ b0 sd l 25)) else (0, [[]])
/-- all plays of a roll, and how long they are -/
def plc (sd : Int) (b0 : Int → Int) (g l : Int) : Int × List Row := if g = l then adLs (0, []) (lvS sd g 4 b0 25) else unl sd b0 g l
theorem dn_len : ∀ n : Nat, (dn n).length = n
  | 0 => rfl
  | n + 1 => by rw [dn, List.length_cons, dn_len n]
theorem mvZ_len (b : Int → Int) (sd d : Int) {h : Int} (hh : 0 ≤ h) : ((mvZ b sd d h).length : Int) ≤ h := by
  have h1 := List.length_filter_le (fun fr => canB b sd fr d) (dn h.toNat)
  rw [dn_len] at h1
  unfold mvZ mvs
  omega
theorem alike_end {ln lna k hi i sd d : Int} {L La : List Row} {pr : Row} {n : Nat} {b : Int → Int} (hpl : (pr.length : Int) = k) (hn00 : n = 0 → lna = ln ∧ La = L) (hst : adLs (lna, La) (exS sd d (n - 1) b pr i) = adLs (ln, L) (exS sd d (n - 1) b pr hi)) (hi0 : i < 1) (_ : k + (n : Int) = 4) : (lna = ln ∧ La = L ∧ lvS sd d n b hi = [[]]) ∨ (k < lna ∧ adLs (ln, L) ((lvS sd d n b hi).map (pr ++ ·)) = (lna, La)) := by
  by_cases q0 : n = 0
  · exact Or.inl ⟨(hn00 q0).1, (hn00 q0).2, lvS_leaf (Or.inl q0)⟩
  · obtain ⟨m, rfl⟩ : ∃ m, n = m + 1 := ⟨n - 1, by omega⟩
    rw [show m + 1 - 1 = m from rfl, exS_0 hi0] at hst
    have hs0 : (lna, La) = adLs (ln, L) (exS sd d m b pr hi) := hst
    by_cases q : mvZ b sd d hi = []
    · have e : exS sd d m b pr hi = [] := by unfold exS; rw [q]; rfl
      rw [e] at hs0
      have h1 := congrArg Prod.fst hs0
      have h2 := congrArg Prod.snd hs0
      exact Or.inl ⟨h1, h2, lvS_leaf (Or.inr q)⟩
    · refine Or.inr ⟨?_, by rw [lvS_ext q, hs0]⟩
      have h3 := adLs_ge (q := k + 1) (s := (ln, L)) (exS_ne (m := m) (pr := pr) q) (fun r hr => by have := exS_len hr; omega)
      rw [← hs0] at h3
      have h4 : k + 1 ≤ lna := h3
      omega
theorem alike_cap {cnt hi sd d : Int} {pr : Row} {n : Nat} {b : Int → Int} (h : cnt + ((lvS sd d n b hi).length : Int) ≤ 3060) (hn : n ≠ 0) : cnt + ((exS sd d (n - 1) b pr hi).length : Int) ≤ 3060 := by
  obtain ⟨m, rfl⟩ : ∃ m, n = m + 1 := ⟨n - 1, by omega⟩
  by_cases q : mvZ b sd d hi = []
  · have e : exS sd d (m + 1 - 1) b pr hi = [] := by unfold exS; rw [q]; rfl
    rw [e]
    rw [lvS_leaf (Or.inr q)] at h
    simp at h ⊢
    omega
  · rw [show m + 1 - 1 = m from rfl, ← lvS_ext q, List.length_map]
    exact h
theorem alike_pw {n : Nat} (h : n ≤ 3) : pw n = p8 (n : Int) := by
  rcases (show n = 0 ∨ n = 1 ∨ n = 2 ∨ n = 3 by omega) with q | q | q | q <;> subst q <;> rfl
theorem unl_a {sd : Int} {b0 : Int → Int} {g l : Int} (h : (unP sd b0 g l).length ≠ 0) : unl sd b0 g l = (2, unP sd b0 g l) := if_pos h
theorem unl_b {sd : Int} {b0 : Int → Int} {g l : Int} (h : (unP sd b0 g l).length = 0) (h2 : (adSin [] g (mvZ b0 sd g 25)).length ≠ 0) : unl sd b0 g l = (1, adSin [] g (mvZ b0 sd g 25)) := by
  unfold unl
  rw [if_neg (fun q => q h), if_pos h2]
theorem unl_c {sd : Int} {b0 : Int → Int} {g l : Int} (h : (unP sd b0 g l).length = 0) (h2 : (adSin [] g (mvZ b0 sd g 25)).length = 0) (h3 : (adSin [] l (mvZ b0 sd l 25)).length ≠ 0) : unl sd b0 g l = (1, adSin [] l (mvZ b0 sd l 25)) := by
  unfold unl
  rw [if_neg (fun q => q h), if_neg (fun q => q h2), if_pos h3]
theorem unl_d {sd : Int} {b0 : Int → Int} {g l : Int} (h : (unP sd b0 g l).length = 0) (h2 : (adSin [] g (mvZ b0 sd g 25)).length = 0) (h3 : (adSin [] l (mvZ b0 sd l 25)).length = 0) : unl sd b0 g l = (0, [[]]) := by
  unfold unl
  rw [if_neg (fun q => q h), if_neg (fun q => q h2), if_neg (fun q => q h3)]
theorem adLs_le {q : Int} : ∀ {rs : List Row} {s : Int × List Row}, (∀ r ∈ rs, (r.length : Int) ≤ q) → s.1 ≤ q → (adLs s rs).1 ≤ q
  | [], _, _, h => h
  | r :: t, s, h, h1 => by
    show (adLs (adL s r) t).1 ≤ q
    refine adLs_le (fun x hx => h x (List.mem_cons_of_mem _ hx)) ?_
    have h3 := h r List.mem_cons_self
    unfold adL
    split
    · exact h3
    · split
      · exact h1
      · exact h1
theorem lvS_len {sd d : Int} : ∀ {n : Nat} {b : Int → Int} {h : Int} {r : Row}, r ∈ lvS sd d n b h → r.length ≤ n
  | 0, b, h, r, hr => by
    rw [lvS, List.mem_singleton] at hr
    subst hr
    exact Nat.le_refl _
  | n + 1, b, h, r, hr => by
    rw [lvS] at hr
    split at hr
    · rw [List.mem_singleton] at hr
      subst hr
      exact Nat.zero_le _
    · obtain ⟨f, -, hf⟩ := List.mem_flatMap.mp hr
      obtain ⟨y, hy, rfl⟩ := List.mem_map.mp hf
      have := lvS_len hy
      rw [List.length_cons]
      omega
theorem alike_ln {lna : Int} {La : List Row} {pr : Row} {sd d h k : Int} {m : Nat} {b : Int → Int} (h1 : lna ≤ 4) (h2 : (pr.length : Int) = k) (h3 : k + (m : Int) ≤ 4) : (adLs (lna, La) ((lvS sd d m b h).map (pr ++ ·))).1 ≤ 4 := by
  refine adLs_le (fun r hr => ?_) h1
  obtain ⟨y, hy, rfl⟩ := List.mem_map.mp hr
  have := lvS_len hy
  rw [List.length_append]
  omega
theorem plc_a {sd d1 d2 : Int} {b0 : Int → Int} (h : d1 = d2) : plc sd b0 d1 d2 = adLs (0, []) (lvS sd d1 4 b0 25) := if_pos h
theorem plc_u {sd d1 d2 : Int} {b0 : Int → Int} (h : d1 ≠ d2) : plc sd b0 d1 d2 = unl sd b0 d1 d2 := if_neg h
theorem plc_m {s : Int × List Row} {l : List Row} : adLs s (l.map (([] : Row) ++ ·)) = adLs s l := by
  rw [show ((([] : Row) ++ ·) : Row → Row) = id from rfl, List.map_id]
