/-! THE REFERENCE: boards that lie in a longer row; what its loops make -/
def bk (f : Int → Int) (o : Int) : Int → Int := fun k => if 0 ≤ k ∧ k < 52 then f (o + k) else 0
def wb (f : Int → Int) (o : Int) (b : Int → Int) : Int → Int := fun j => if o ≤ j ∧ j < o + 52 then b (j - o) else f j
theorem bk_e {f : Int → Int} {o k j : Int} (h : 0 ≤ k ∧ k < 52) (e : j = o + k) : f j = bk f o k := by
  unfold bk
  rw [if_pos h, e]
theorem bk_o {f : Int → Int} {o k : Int} (h : ¬ (0 ≤ k ∧ k < 52)) : bk f o k = 0 := if_neg h
theorem wb_at {f : Int → Int} {o : Int} {b : Int → Int} {k j : Int} (h : 0 ≤ k ∧ k < 52) (e : j = o + k) : wb f o b j = b k := by
  unfold wb
  rw [if_pos (by omega), e, show o + k - o = k by omega]
theorem wb_out {f : Int → Int} {o : Int} {b : Int → Int} {j : Int} (h : j < o ∨ o + 52 ≤ j) : wb f o b j = f j := by
  unfold wb
  rw [if_neg (by omega)]
theorem wb_up {f : Int → Int} {o : Int} {b : Int → Int} {k j v v' : Int} (h : 0 ≤ k ∧ k < 52) (e : j = o + k) (hv : v = v') : up (wb f o b) j v = wb f o (up b k v') := by
  funext x
  subst hv
  by_cases q : x = j
  · rw [q, up_s, wb_at h e, up_s]
  · rw [up_n _ _ q]
    unfold wb
    by_cases q2 : o ≤ x ∧ x < o + 52
    · rw [if_pos q2, if_pos q2, up_n _ _ (by omega)]
    · rw [if_neg q2, if_neg q2]
theorem wb_bk (f : Int → Int) (o : Int) : wb f o (bk f o) = f := by
  funext x
  unfold wb
  split
  · exact (bk_e (by omega) (by omega)).symm
  · rfl
theorem wb_up0 {f : Int → Int} {o : Int} {k j v v' : Int} (h : 0 ≤ k ∧ k < 52) (e : j = o + k) (hv : v = v') : up f j v = wb f o (up (bk f o) k v') := by
  have h1 := wb_up (f := f) (b := bk f o) h e hv
  rwa [wb_bk] at h1
/-- a board of men put in is read as itself -/
theorem bk_wb {n : Int} {f : Int → Int} {o : Int} {b : Int → Int} (h : VB n b) : bk (wb f o b) o = b := by
  funext k
  by_cases q : 0 ≤ k ∧ k < 52
  · rw [← bk_e (f := wb f o b) (o := o) q rfl, wb_at q rfl]
  · rw [bk_o q, h.2.1 k (by omega)]
theorem bk_wb_o {f : Int → Int} {o o2 : Int} {b : Int → Int} (h : o2 + 52 ≤ o ∨ o + 52 ≤ o2) : bk (wb f o b) o2 = bk f o2 := by
  funext k
  by_cases q : 0 ≤ k ∧ k < 52
  · rw [← bk_e (f := wb f o b) (o := o2) q rfl, wb_out (by omega), bk_e (f := f) (o := o2) q rfl]
  · rw [bk_o q, bk_o q]
theorem bk_ext {f g : Int → Int} {o o2 : Int} (h : ∀ k : Int, 0 ≤ k → k < 52 → f (o + k) = g (o2 + k)) : bk f o = bk g o2 := by
  funext k
  unfold bk
  by_cases q : 0 ≤ k ∧ k < 52
  · rw [if_pos q, if_pos q, h k q.1 q.2]
  · rw [if_neg q, if_neg q]
def cpi (f g : Int → Int) (o1 o2 i : Int) : Int → Int := fun k => if o2 ≤ k ∧ k < o2 + i then f (o1 + (k - o2)) else g k
theorem cpi_0 (f g : Int → Int) (o1 o2 : Int) : cpi f g o1 o2 0 = g := by
  funext k
  unfold cpi
  rw [if_neg (by omega)]
theorem cpi_o {f g : Int → Int} {o1 o2 i j : Int} (h : j < o2 ∨ o2 + i ≤ j) : cpi f g o1 o2 i j = g j := by
  unfold cpi
  rw [if_neg (by omega)]
theorem cpi_s {f g : Int → Int} {o1 o2 i : Int} (h : 0 ≤ i) : up (cpi f g o1 o2 i) (o2 + i) (f (o1 + i)) = cpi f g o1 o2 (i + 1) := by
  funext k
  by_cases q : k = o2 + i
  · rw [q, up_s]
    unfold cpi
    rw [if_pos (by omega), show o2 + i - o2 = i by omega]
  · rw [up_n _ _ q]
    unfold cpi
    by_cases q2 : o2 ≤ k ∧ k < o2 + i
    · rw [if_pos q2, if_pos (by omega)]
    · rw [if_neg q2, if_neg (by omega)]
theorem cpi_e {f g : Int → Int} {o1 o2 : Int} : cpi f g o1 o2 52 = wb g o2 (bk f o1) := by
  funext k
  unfold cpi wb
  by_cases q : o2 ≤ k ∧ k < o2 + 52
  · rw [if_pos q, if_pos q]
    exact bk_e (by omega) rfl
  · rw [if_neg q, if_neg q]
/-- a worth by the pips of both sides -/
def ajN (b : Int → Int) (sd : Int) : Nat → Int
  | 0 => 0
  | n + 1 => ajN b sd n + adj (b (26 * sd + (n + 1 : Nat))) (exN b sd n)
def adZ (b : Int → Int) (sd i : Int) : Int := ajN b sd (i - 1).toNat
def adN24 (b : Int → Int) (sd : Int) : Int := adZ b sd 25
theorem adZ_1 (b : Int → Int) (sd : Int) : adZ b sd 1 = 0 := rfl
theorem adZ_s {b : Int → Int} {sd i : Int} (h : 1 ≤ i) : adZ b sd (i + 1) = adZ b sd i + adj (b (26 * sd + i)) (exZ b sd i) := by
  obtain ⟨n, rfl⟩ : ∃ n : Nat, i = (n + 1 : Nat) := ⟨(i - 1).toNat, by omega⟩
  unfold adZ exZ
  rw [show (((n + 1 : Nat) : Int) + 1 - 1).toNat = n + 1 by omega, show (((n + 1 : Nat) : Int) - 1).toNat = n by omega, ajN]
def rvN (g : Int → Int) : Nat → Int
  | 0 => 0
  | n + 1 => rvN g n + g (25 - (n + 1 : Nat))
theorem rvN_sm (g : Int → Int) : ∀ n : Nat, n ≤ 25 → sm g (25 - n) + rvN g n = sm g 25
  | 0, _ => by rw [rvN]; show sm g 25 + 0 = _; omega
  | n + 1, h => by
    have h1 := rvN_sm g n (by omega)
    rw [show 25 - n = (25 - (n + 1)) + 1 by omega, sm, show ((25 - (n + 1) : Nat) : Int) = 25 - (n + 1 : Nat) by omega] at h1
    rw [rvN]
    omega
theorem wtN_dec (b : Int → Int) (sd : Int) : ∀ n : Nat, wtN b sd n = (10 * b (26 * sd + 0) - 25 * b (26 * sd + 25) + 33 * b (26 * (1 - sd) + 25)) + rvN (fun q => q * b (26 * (1 - sd) + q)) n - sm (fun p => p * b (26 * sd + p)) (n + 1) + ajN b sd n
  | 0 => by
    rw [wtN, rvN, ajN, sm, sm]
    show _ = _ + 0 - (0 + 0 * _) + 0
    rw [Int.zero_mul]
    omega
  | n + 1 => by
    have e : sm (fun p => p * b (26 * sd + p)) (n + 1 + 1) = sm (fun p => p * b (26 * sd + p)) (n + 1) + ((n + 1 : Nat) : Int) * b (26 * sd + ((n + 1 : Nat) : Int)) := rfl
    have e2 : rvN (fun q => q * b (26 * (1 - sd) + q)) (n + 1) = rvN (fun q => q * b (26 * (1 - sd) + q)) n + (25 - ((n + 1 : Nat) : Int)) * b (26 * (1 - sd) + (25 - ((n + 1 : Nat) : Int))) := rfl
    rw [wtN, wtN_dec b sd n, e2, ajN, e]
    omega
theorem wth_pp (b : Int → Int) (sd : Int) (_ : 0 ≤ sd ∧ sd ≤ 1) : wth b sd = sz (fun p => p * b (26 * (1 - sd) + p)) 26 - sz (fun p => p * b (26 * sd + p)) 26 + 8 * b (26 * (1 - sd) + 25) + 10 * b (26 * sd + 0) + adN24 b sd := by
  have h1 := wtN_dec b sd 24
  have h2 := rvN_sm (fun q => q * b (26 * (1 - sd) + q)) 24 (by decide)
  have h3 : sm (fun q => q * b (26 * (1 - sd) + q)) (25 - 24) = 0 := by
    show (0 : Int) + 0 * _ = 0
    rw [Int.zero_mul]
    rfl
  have h4 : sz (fun p => p * b (26 * (1 - sd) + p)) 26 = sm (fun q => q * b (26 * (1 - sd) + q)) 25 + 25 * b (26 * (1 - sd) + 25) := rfl
  have h5 : sz (fun p => p * b (26 * sd + p)) 26 = sm (fun p => p * b (26 * sd + p)) 25 + 25 * b (26 * sd + 25) := rfl
  have h6 : adN24 b sd = ajN b sd 24 := rfl
  unfold wth
  rw [h1, h4, h5, h6]
  show _ + _ - sm (fun p => p * b (26 * sd + p)) 25 + _ = _
  omega
