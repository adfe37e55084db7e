/-! ROWS of moves, and how a board is judged -/
/-- 1 where a man is hit -/
def hwB (b : Int → Int) (sd fr d : Int) : Int := if d < fr ∧ b (26 * (1 - sd) + (25 - (fr - d))) ≠ 0 then 1 else 0
theorem hwB_t {b : Int → Int} {sd fr d : Int} (h : hitP b sd fr d) : hwB b sd fr d = 1 := if_pos h
theorem hwB_f {b : Int → Int} {sd fr d : Int} (h : ¬ hitP b sd fr d) : hwB b sd fr d = 0 := if_neg h
theorem hwB_cs (b : Int → Int) (sd fr d : Int) : (hitP b sd fr d ∧ hwB b sd fr d = 1) ∨ (¬ hitP b sd fr d ∧ hwB b sd fr d = 0) := by
  by_cases h : hitP b sd fr d
  · exact Or.inl ⟨h, hwB_t h⟩
  · exact Or.inr ⟨h, hwB_f h⟩
/-- the man put back, and the one that was hit -/
def bkB (f : Int → Int) (sd fr d : Int) : Int → Int := up (up f (26 * sd + fr) (f (26 * sd + fr) + 1)) (26 * sd + toP fr d) (up f (26 * sd + fr) (f (26 * sd + fr) + 1) (26 * sd + toP fr d) + (-1))
def bhB (f : Int → Int) (os pt : Int) : Int → Int := up (up f (26 * os + pt) (f (26 * os + pt) + 1)) (26 * os + 25) (up f (26 * os + pt) (f (26 * os + pt) + 1) (26 * os + 25) + (-1))
section BK
variable {b f : Int → Int} {sd fr d : Int}
theorem bkB_own (hf : 1 ≤ fr ∧ fr ≤ 25) (hd : 1 ≤ d) (p : Int) : bkB f sd fr d (26 * sd + p) = f (26 * sd + p) + (if p = fr then 1 else 0) - (if p = toP fr d then 1 else 0) := by
  have h0 := toP_ne (fr := fr) (d := d) hf.1 hd
  unfold bkB
  by_cases h1 : p = toP fr d
  · rw [← h1] at h0 ⊢
    rw [up_s, up_n _ _ (by omega), if_neg h0, if_pos rfl]
    omega
  · rw [up_n _ _ (by omega), if_neg h1]
    by_cases h2 : p = fr
    · rw [h2, up_s, if_pos rfl]; omega
    · rw [up_n _ _ (by omega), if_neg h2]; omega
theorem bkB_not (hs : 0 ≤ sd ∧ sd ≤ 1) (hf : 1 ≤ fr ∧ fr ≤ 25) (hd : 1 ≤ d) {k : Int} (hk : k < 26 * sd ∨ 26 * sd + 25 < k) : bkB f sd fr d k = f k := by
  have h := toP_rg (fr := fr) (d := d) (by omega)
  unfold bkB
  rw [up_n _ _ (by omega), up_n _ _ (by omega)]
theorem bhB_own {os pt : Int} (hp : pt ≠ 25) (q : Int) : bhB f os pt (26 * os + q) = f (26 * os + q) + (if q = pt then 1 else 0) - (if q = 25 then 1 else 0) := by
  unfold bhB
  by_cases h1 : q = 25
  · rw [h1, up_s, up_n _ _ (by omega), if_neg (by omega), if_pos rfl]; omega
  · rw [up_n _ _ (by omega), if_neg h1]
    by_cases h2 : q = pt
    · rw [h2, up_s, if_pos rfl]; omega
    · rw [up_n _ _ (by omega), if_neg h2]; omega
theorem bhB_out {os pt k : Int} (hp : 0 ≤ pt ∧ pt ≤ 25) (hk : k < 26 * os ∨ 26 * os + 25 < k) : bhB f os pt k = f k := by
  unfold bhB
  rw [up_n _ _ (by omega), up_n _ _ (by omega)]
/-- a move taken back -/
theorem back_t (hs : 0 ≤ sd ∧ sd ≤ 1) (hf : 1 ≤ fr ∧ fr ≤ 25) (hd : 1 ≤ d) (h : hitP b sd fr d) : bhB (bkB (stp b sd fr d) sd fr d) (1 - sd) (25 - toP fr d) = b := by
  have e : toP fr d = fr - d := by unfold toP; rw [if_pos h.1]
  have h1 := h.1
  funext k
  rcases pl_cs hs k with ⟨p, hp, rfl⟩ | ⟨q, hq, rfl⟩ | hk
  · rw [bhB_out (by omega) (by omega), bkB_own hf hd, stp_own hs hf hd hp]
    omega
  · rw [bhB_own (by omega), bkB_not hs hf hd (by omega), stp_opp hs hf hd hq, if_pos ⟨h.1, h.2⟩, e]
    split <;> split <;> omega
  · rw [bhB_out (by omega) (by omega), bkB_not hs hf hd (by omega), stp_out hs hf hd hk]
theorem back_f (hs : 0 ≤ sd ∧ sd ≤ 1) (hf : 1 ≤ fr ∧ fr ≤ 25) (hd : 1 ≤ d) (h : ¬ hitP b sd fr d) : bkB (stp b sd fr d) sd fr d = b := by
  funext k
  rcases pl_cs hs k with ⟨p, hp, rfl⟩ | ⟨q, hq, rfl⟩ | hk
  · rw [bkB_own hf hd, stp_own hs hf hd hp]
    omega
  · rw [bkB_not hs hf hd (by omega), stp_opp hs hf hd hq, if_neg (show ¬ (d < fr ∧ b (26 * (1 - sd) + (25 - (fr - d))) ≠ 0) from h)]
    omega
  · rw [bkB_not hs hf hd (by omega), stp_out hs hf hd hk]
end BK
/-- a row as one number: 8 bits a move -/
def rc : List (Int × Int) → Int
  | [] => 0
  | q :: t => (8 * q.1 + q.2) + 256 * rc t
def lgR (sd : Int) : (Int → Int) → List (Int × Int) → Prop
  | _, [] => True
  | b, q :: t => canP b sd q.1 q.2 ∧ (1 ≤ q.2 ∧ q.2 ≤ 6) ∧ lgR sd (stp b sd q.1 q.2) t
def poR (sd : Int) : (Int → Int) → List (Int × Int) → (Int → Int)
  | b, [] => b
  | b, q :: t => poR sd (stp b sd q.1 q.2) t
/-- how many men a row hits -/
def hiR (sd : Int) : (Int → Int) → List (Int × Int) → Int
  | _, [] => 0
  | b, q :: t => hwB b sd q.1 q.2 + hiR sd (stp b sd q.1 q.2) t
theorem lgR_cd {sd : Int} {b : Int → Int} {q : Int × Int} {t : List (Int × Int)} (h : lgR sd b (q :: t)) : 9 ≤ 8 * q.1 + q.2 ∧ 8 * q.1 + q.2 ≤ 206 := by
  have h1 := h.1.1
  have h2 := h.1.2.1
  have h3 := h.2.1
  omega
def pw : Nat → Int
  | 0 => 1
  | n + 1 => 256 * pw n
theorem pw_pos : ∀ n, 0 < pw n
  | 0 => by decide
  | n + 1 => by have := pw_pos n; rw [pw]; omega
theorem rc_rg {sd : Int} : ∀ {t : List (Int × Int)} {b : Int → Int}, lgR sd b t → ∀ n : Nat, t.length ≤ n → 0 ≤ rc t ∧ rc t < pw n
  | [], b, h, n, hn => by
    rw [rc]
    exact ⟨Int.le_refl _, pw_pos n⟩
  | q :: t, b, h, n, hn => by
    have h1 := lgR_cd h
    cases n with
    | zero => simp at hn
    | succ n =>
      have h2 := rc_rg h.2.2 n (by simpa using hn)
      rw [rc, pw]
      omega
theorem rc_4 {sd : Int} {t : List (Int × Int)} {b : Int → Int} (h : lgR sd b t) (hn : t.length ≤ 4) : 0 ≤ rc t ∧ rc t < 4294967296 := rc_rg h 4 hn
theorem lgR_VB {sd n : Int} (hs : 0 ≤ sd ∧ sd ≤ 1) : ∀ {t : List (Int × Int)} {b : Int → Int}, lgR sd b t → VB n b → VB n (poR sd b t)
  | [], _, _, h => h
  | q :: t, b, h, hv => lgR_VB (b := stp b sd q.1 q.2) hs h.2.2 (h.1.VB hv hs h.2.1.1)
/-- one is aimed at, behind n points; the worth of n points -/
def exN (b : Int → Int) (sd : Int) : Nat → Int
  | 0 => if 0 < b (26 * (1 - sd) + 25) then 1 else 0
  | n + 1 => if exN b sd n ≠ 0 then 1 else if 0 < b (26 * (1 - sd) + (25 - (n + 1 : Nat))) then 1 else 0
def adj (own ex : Int) : Int := if 2 ≤ own then 6 else if own = 1 ∧ ex ≠ 0 then -4 else 0
def wtN (b : Int → Int) (sd : Int) : Nat → Int
  | 0 => 10 * b (26 * sd + 0) - 25 * b (26 * sd + 25) + 33 * b (26 * (1 - sd) + 25)
  | n + 1 => wtN b sd n + ((25 - (n + 1 : Nat)) * b (26 * (1 - sd) + (25 - (n + 1 : Nat))) - (n + 1 : Nat) * b (26 * sd + (n + 1 : Nat))) + adj (b (26 * sd + (n + 1 : Nat))) (exN b sd n)
def wth (b : Int → Int) (sd : Int) : Int := wtN b sd 24
def exZ (b : Int → Int) (sd i : Int) : Int := exN b sd (i - 1).toNat
def wtZ (b : Int → Int) (sd i : Int) : Int := wtN b sd (i - 1).toNat
theorem wtZ_s {b : Int → Int} {sd i : Int} (h : 1 ≤ i) : wtZ b sd (i + 1) = wtZ b sd i + ((25 - i) * b (26 * (1 - sd) + (25 - i)) - i * b (26 * sd + i)) + adj (b (26 * sd + i)) (exZ b sd i) := by
  obtain ⟨n, rfl⟩ : ∃ n : Nat, i = (n + 1 : Nat) := ⟨(i - 1).toNat, by omega⟩
  unfold wtZ exZ
  rw [show (((n + 1 : Nat) : Int) + 1 - 1).toNat = n + 1 by omega, show (((n + 1 : Nat) : Int) - 1).toNat = n by omega, wtN]
theorem exZ_s {b : Int → Int} {sd i : Int} (h : 1 ≤ i) : exZ b sd (i + 1) = if exZ b sd i ≠ 0 then 1 else if 0 < b (26 * (1 - sd) + (25 - i)) then 1 else 0 := by
  obtain ⟨n, rfl⟩ : ∃ n : Nat, i = (n + 1 : Nat) := ⟨(i - 1).toNat, by omega⟩
  unfold exZ
  rw [show (((n + 1 : Nat) : Int) + 1 - 1).toNat = n + 1 by omega, show (((n + 1 : Nat) : Int) - 1).toNat = n by omega, exN]
theorem exN_rg (b : Int → Int) (sd : Int) : ∀ n : Nat, 0 ≤ exN b sd n ∧ exN b sd n ≤ 1
  | 0 => by rw [exN]; split <;> omega
  | n + 1 => by
    rw [exN]
    split
    · omega
    · split <;> omega
theorem exZ_rg (b : Int → Int) (sd i : Int) : 0 ≤ exZ b sd i ∧ exZ b sd i ≤ 1 := exN_rg b sd _
theorem adj_cs (own ex : Int) : (2 ≤ own ∧ adj own ex = 6) ∨ (own = 1 ∧ ex ≠ 0 ∧ adj own ex = -4) ∨ ((own < 1 ∨ (own = 1 ∧ ex = 0)) ∧ adj own ex = 0) := by
  unfold adj
  split
  · omega
  · split <;> omega
theorem exZ_cs {b : Int → Int} {sd i : Int} (h : 1 ≤ i) : (exZ b sd i ≠ 0 ∧ exZ b sd (i + 1) = 1) ∨ (exZ b sd i = 0 ∧ 0 < b (26 * (1 - sd) + (25 - i)) ∧ exZ b sd (i + 1) = 1) ∨ (exZ b sd i = 0 ∧ b (26 * (1 - sd) + (25 - i)) ≤ 0 ∧ exZ b sd (i + 1) = 0) := by
  rw [exZ_s h]
  split
  · omega
  · split <;> omega
theorem exZ_1 (b : Int → Int) (sd : Int) : (0 < b (26 * (1 - sd) + 25) ∧ exZ b sd 1 = 1) ∨ (b (26 * (1 - sd) + 25) ≤ 0 ∧ exZ b sd 1 = 0) := by
  show (_ ∧ exN b sd 0 = 1) ∨ (_ ∧ exN b sd 0 = 0)
  rw [exN]
  split <;> omega
theorem p8_s {z i : Int} (h : 0 ≤ i ∧ i < 3) : z / p8 (i + 1) = z / p8 i / 256 := by
  rcases (show i = 0 ∨ i = 1 ∨ i = 2 by omega) with q | q | q <;> subst q
  · show z / 256 = z / 1 / 256; omega
  · show z / 65536 = z / 256 / 256; omega
  · show z / 16777216 = z / 65536 / 256; omega
theorem rc_tl {sd : Int} {b : Int → Int} {q : Int × Int} {t : List (Int × Int)} (h : lgR sd b (q :: t)) : rc (q :: t) / 256 = rc t ∧ rc (q :: t) % 256 = 8 * q.1 + q.2 := by
  have h1 := lgR_cd h
  rw [rc]
  omega
/-- men laid out by pairs of a point and a number -/
def lyF (f : Int → Int) : Nat → (Int → Int)
  | 0 => fun _ => 0
  | n + 1 => up (up (lyF f n) (26 * 0 + f (2 * (n : Int))) (lyF f n (26 * 0 + f (2 * (n : Int))) + f (2 * (n : Int) + 1))) (26 * 1 + f (2 * (n : Int))) (up (lyF f n) (26 * 0 + f (2 * (n : Int))) (lyF f n (26 * 0 + f (2 * (n : Int))) + f (2 * (n : Int) + 1)) (26 * 1 + f (2 * (n : Int))) + f (2 * (n : Int) + 1))
