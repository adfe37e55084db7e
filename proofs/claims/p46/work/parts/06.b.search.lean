/-! THE REFERENCE'S SEARCH: all rows of a roll, in its order; what it makes of each -/
def hd9 : Row → Int
  | [] => 0
  | q :: _ => q.2
theorem hd9_app (pr : Row) (i d : Int) : hd9 (pr ++ [(i, d)]) = if (pr.length : Int) = 0 then d else hd9 pr := by
  cases pr with
  | nil => rfl
  | cons q t =>
    rw [if_neg (by simp; omega)]
    rfl
/-- how many moves there can be, and the greatest first die of such rows -/
def mSi (s : Int × Int) (mo fi : Int) : Int × Int := if s.1 < mo then (mo, fi) else if mo = s.1 ∧ s.2 < fi then (s.1, fi) else s
def mS (s : Int × Int) (r : Row) : Int × Int := mSi s r.length (hd9 r)
/-- the greatest worth -/
def wSi (m u on ot mo fi w : Int) (s : Int × Int) : Int × Int := if ¬ mo < m ∧ ¬ (m = 1 ∧ on ≠ ot ∧ fi ≠ u) then (1, if s.1 ≠ 0 ∧ w ≤ s.2 then s.2 else w) else s
def wS (sd : Int) (b0 : Int → Int) (m u on ot : Int) (s : Int × Int) (r : Row) : Int × Int := wSi m u on ot r.length (hd9 r) (wth (poR sd b0 r) sd) s
/-- the plays -/
def elB (m u on ot : Int) (r : Row) : Bool := decide (¬ (r.length : Int) < m ∧ ¬ (m = 1 ∧ on ≠ ot ∧ hd9 r ≠ u))
def nwB (sd : Int) (b0 : Int → Int) (L : List Row) (r : Row) : Bool := L.any (fun x => eq52 (poR sd b0 x) (poR sd b0 r))
def pS (sd : Int) (b0 : Int → Int) (m u on ot : Int) (L : List Row) (r : Row) : List Row := if elB m u on ot r = true then (if nwB sd b0 L r = true then L else L ++ [r]) else L
/-- which dice are left -/
def hsK (on ot mo lf k : Int) : Bool := if on = ot then decide (k = 0 ∧ mo < 4) else decide ((if k = 0 then lf % 2 else lf / 2 % 2) = 1)
def dK (on ot k : Int) : Int := if k = 0 then on else ot
def lfN (lf k : Int) : Int := if k = 0 then lf - lf % 2 else lf - 2 * (lf / 2 % 2)
def opG (rec : Int → Int → (Int → Int) → List Row) (sd on ot mo lf : Int) (b : Int → Int) (k h : Int) : List Row :=
  if hsK on ot mo lf k = true then (mvZ b sd (dK on ot k) h).flatMap (fun f => (rec (mo + 1) (lfN lf k) (stp b sd f (dK on ot k))).map ((f, dK on ot k) :: ·)) else []
def reG (rec : Int → Int → (Int → Int) → List Row) (sd on ot mo lf : Int) (b : Int → Int) (k h : Int) : List Row :=
  if k = 0 then opG rec sd on ot mo lf b 0 h ++ opG rec sd on ot mo lf b 1 25 else if k = 1 then opG rec sd on ot mo lf b 1 h else []
def rwG (sd on ot : Int) : Nat → Int → Int → (Int → Int) → List Row
  | 0, _, _, _ => [[]]
  | n + 1, mo, lf, b => if reG (rwG sd on ot n) sd on ot mo lf b 0 25 = [] then [[]] else reG (rwG sd on ot n) sd on ot mo lf b 0 25
def reN (sd on ot : Int) (n : Nat) (mo lf : Int) (b : Int → Int) (k h : Int) : List Row :=
  match n with
  | 0 => []
  | m + 1 => reG (rwG sd on ot m) sd on ot mo lf b k h
theorem rwG_e {sd on ot : Int} {n : Nat} {mo lf : Int} {b : Int → Int} (h : reN sd on ot n mo lf b 0 25 = []) : rwG sd on ot n mo lf b = [[]] := by
  cases n with
  | zero => rfl
  | succ n => exact if_pos h
theorem rwG_n {sd on ot : Int} {n : Nat} {mo lf : Int} {b : Int → Int} (h : reN sd on ot n mo lf b 0 25 ≠ []) : rwG sd on ot n mo lf b = reN sd on ot n mo lf b 0 25 := by
  cases n with
  | zero => exact absurd rfl h
  | succ n => exact if_neg h
theorem opG_t {rec : Int → Int → (Int → Int) → List Row} {sd on ot mo lf k h : Int} {b : Int → Int} (hs : hsK on ot mo lf k = true) (hh : 1 ≤ h) (hc : canP b sd h (dK on ot k)) : opG rec sd on ot mo lf b k h = (rec (mo + 1) (lfN lf k) (stp b sd h (dK on ot k))).map ((h, dK on ot k) :: ·) ++ opG rec sd on ot mo lf b k (h + -1) := by
  unfold opG
  rw [if_pos hs, if_pos hs, mvZ_t hh hc, List.flatMap_cons]
theorem opG_f {rec : Int → Int → (Int → Int) → List Row} {sd on ot mo lf k h : Int} {b : Int → Int} (hh : 1 ≤ h) (hc : ¬ canP b sd h (dK on ot k)) : opG rec sd on ot mo lf b k h = opG rec sd on ot mo lf b k (h + -1) := by
  unfold opG
  rw [mvZ_f hh hc]
theorem opG_0 {rec : Int → Int → (Int → Int) → List Row} {sd on ot mo lf k h : Int} {b : Int → Int} (hh : h < 1 ∨ hsK on ot mo lf k = false) : opG rec sd on ot mo lf b k h = [] := by
  unfold opG
  rcases hh with hh | hh
  · rw [mvZ_0 hh]
    split <;> rfl
  · rw [if_neg (by rw [hh]; decide)]
section REN
variable {sd on ot mo lf k h : Int} {b : Int → Int} {n : Nat}
theorem reN_t {m : Nat} (hk : k = 0 ∨ k = 1) (hs : hsK on ot mo lf k = true) (hh : 1 ≤ h) (hc : canP b sd h (dK on ot k)) : reN sd on ot (m + 1) mo lf b k h = (rwG sd on ot m (mo + 1) (lfN lf k) (stp b sd h (dK on ot k))).map ((h, dK on ot k) :: ·) ++ reN sd on ot (m + 1) mo lf b k (h + -1) := by
  show reG _ _ _ _ _ _ _ _ _ = _ ++ reG _ _ _ _ _ _ _ _ _
  unfold reG
  rcases hk with q | q <;> subst q
  · rw [if_pos rfl, if_pos rfl, opG_t hs hh hc, List.append_assoc]
  · rw [if_neg (by decide), if_pos rfl, if_neg (by decide), if_pos rfl, opG_t hs hh hc]
theorem reN_f (hk : k = 0 ∨ k = 1) (hh : 1 ≤ h) (hc : ¬ canP b sd h (dK on ot k)) : reN sd on ot n mo lf b k h = reN sd on ot n mo lf b k (h + -1) := by
  cases n with
  | zero => rfl
  | succ n =>
    show reG _ _ _ _ _ _ _ _ _ = reG _ _ _ _ _ _ _ _ _
    unfold reG
    rcases hk with q | q <;> subst q
    · rw [if_pos rfl, if_pos rfl, opG_f hh hc]
    · rw [if_neg (by decide), if_pos rfl, if_neg (by decide), if_pos rfl, opG_f hh hc]
theorem reN_k (hk : k = 0 ∨ k = 1) (hh : h < 1 ∨ hsK on ot mo lf k = false) : reN sd on ot n mo lf b k h = reN sd on ot n mo lf b (k + 1) 25 := by
  cases n with
  | zero => rfl
  | succ n =>
    show reG _ _ _ _ _ _ _ _ _ = reG _ _ _ _ _ _ _ _ _
    unfold reG
    rcases hk with q | q <;> subst q
    · rw [if_pos rfl, if_neg (by decide), if_pos (by decide), opG_0 hh]
      rfl
    · rw [if_neg (by decide), if_pos rfl, if_neg (by decide), if_neg (by decide), opG_0 hh]
theorem reN_2 : reN sd on ot n mo lf b 2 h = [] := by
  cases n with
  | zero => rfl
  | succ n => rfl
theorem map_pr (A : List Row) (pr : Row) (i d : Int) : (A.map ((i, d) :: ·)).map (pr ++ ·) = A.map ((pr ++ [(i, d)]) ++ ·) := by
  rw [List.map_map]
  refine List.map_congr_left (fun r _ => ?_)
  show pr ++ ((i, d) :: r) = (pr ++ [(i, d)]) ++ r
  rw [List.append_assoc]
  rfl
/-- how far the dice go: moves made and moves left -/
def dcR (on ot mo lf : Int) (n : Nat) : Prop := 0 ≤ mo ∧ 0 ≤ lf ∧ lf ≤ 3 ∧ ((on = ot ∧ mo + n = 4) ∨ (on ≠ ot ∧ mo + n = 2 ∧ (n : Int) = lf % 2 + lf / 2 % 2))
theorem dcR_s {n : Nat} (h : dcR on ot mo lf n) (hk : k = 0 ∨ k = 1) (hs : hsK on ot mo lf k = true) : ∃ m, n = m + 1 ∧ dcR on ot (mo + 1) (lfN lf k) m := by
  obtain ⟨h1, h2, h3, h4⟩ := h
  unfold hsK at hs
  rcases h4 with ⟨h4, h5⟩ | ⟨h4, h5, h6⟩
  · rw [if_pos h4, decide_eq_true_iff] at hs
    refine ⟨n - 1, by omega, by omega, ?_, ?_, Or.inl ⟨h4, by omega⟩⟩
    · unfold lfN; split <;> omega
    · unfold lfN; split <;> omega
  · rw [if_neg h4, decide_eq_true_iff] at hs
    rcases hk with q | q <;> subst q
    · rw [if_pos rfl] at hs
      refine ⟨n - 1, by omega, by omega, ?_, ?_, Or.inr ⟨h4, by omega, ?_⟩⟩
      · unfold lfN; rw [if_pos rfl]; omega
      · unfold lfN; rw [if_pos rfl]; omega
      · unfold lfN; rw [if_pos rfl]; omega
    · rw [if_neg (by decide)] at hs
      refine ⟨n - 1, by omega, by omega, ?_, ?_, Or.inr ⟨h4, by omega, ?_⟩⟩
      · unfold lfN; rw [if_neg (by decide)]; omega
      · unfold lfN; rw [if_neg (by decide)]; omega
      · unfold lfN; rw [if_neg (by decide)]; omega
theorem dcR_le {n : Nat} (h : dcR on ot mo lf n) : mo + n ≤ 4 := by
  obtain ⟨h1, h2, h3, h4⟩ := h
  omega
end REN
/-! bits of what dice are left -/
theorem lf_b0 {z : Int} (h : 0 ≤ z ∧ z ≤ 3) : ((zI z) >>> ((zI 0) &&& 31)) &&& zI 1 = zI (z % 2) := by
  rcases (show z = 0 ∨ z = 1 ∨ z = 2 ∨ z = 3 by omega) with q | q | q | q <;> subst q <;> decide
theorem lf_b1 {z : Int} (h : 0 ≤ z ∧ z ≤ 3) : ((zI z) >>> ((zI 1) &&& 31)) &&& zI 1 = zI (z / 2 % 2) := by
  rcases (show z = 0 ∨ z = 1 ∨ z = 2 ∨ z = 3 by omega) with q | q | q | q <;> subst q <;> decide
theorem lf_n0 {z : Int} (h : 0 ≤ z ∧ z ≤ 3) : zI z &&& (((zI 1) <<< ((zI 0) &&& 31)) ^^^ zI (-1)) = zI (lfN z 0) := by
  rcases (show z = 0 ∨ z = 1 ∨ z = 2 ∨ z = 3 by omega) with q | q | q | q <;> subst q <;> decide
theorem lf_n1 {z : Int} (h : 0 ≤ z ∧ z ≤ 3) : zI z &&& (((zI 1) <<< ((zI 1) &&& 31)) ^^^ zI (-1)) = zI (lfN z 1) := by
  rcases (show z = 0 ∨ z = 1 ∨ z = 2 ∨ z = 3 by omega) with q | q | q | q <;> subst q <;> decide
/-! a position's number in the reference's table -/
def hsN (b : Int → Int) : Nat → Int
  | 0 => 0
  | n + 1 => 31 * hsN b n + b n
def hsX (h : Int) : Int32 := zI h ^^^ ((zI h).toUInt32 >>> ((zI 15).toUInt32 &&& Int32.toUInt32 31)).toInt32
def hsh (h : Int) : Int := ((hsX h).toBitVec.toNat : Int) % 16384
def slt (b : Int → Int) : Int := hsh (hsN b 52)
theorem zI_bv (x : Int32) : zI ((x.toBitVec.toNat : Nat) : Int) = x := by
  rw [zI_nI (by omega), Int.toNat_natCast]
  apply Int32.toBitVec_inj.mp
  apply BitVec.eq_of_toNat_eq
  show (BitVec.ofNat 32 x.toBitVec.toNat).toNat = _
  rw [BitVec.toNat_ofNat, Nat.mod_eq_of_lt x.toBitVec.isLt]
theorem hsh_eq (h : Int) : hsX h &&& zI 16383 = zI (hsh h) := by
  have h1 := zI_and (z := (((hsX h).toBitVec.toNat : Nat) : Int)) ⟨by omega, by have := (hsX h).toBitVec.isLt; omega⟩ 14 (by decide)
  rw [zI_bv] at h1
  exact h1
theorem hsh_rg (h : Int) : 0 ≤ hsh h ∧ hsh h < 16384 := by unfold hsh; omega
theorem slt_rg (b : Int → Int) : 0 ≤ slt b ∧ slt b < 16384 := hsh_rg _
theorem slt_nx {s : Int} (h : 0 ≤ s ∧ s < 16384) : zI (s + 1) &&& zI 16383 = zI ((s + 1) % 16384) := zI_and (z := s + 1) (by omega) 14 (by decide)
/-- how many places are empty -/
def nzc (tb : Int → Int) : Nat → Nat
  | 0 => 0
  | n + 1 => nzc tb n + (if tb n = 0 then 1 else 0)
theorem nzc_ex {tb : Int → Int} : ∀ {n : Nat}, 0 < nzc tb n → ∃ e : Int, 0 ≤ e ∧ e < n ∧ tb e = 0
  | 0, h => by simp [nzc] at h
  | n + 1, h => by
    rw [nzc] at h
    by_cases q : tb n = 0
    · exact ⟨n, by omega, by omega, q⟩
    · rw [if_neg q] at h
      obtain ⟨e, h1, h2, h3⟩ := nzc_ex (n := n) (by omega)
      exact ⟨e, h1, by omega, h3⟩
theorem nzc_o {tb : Int → Int} {s v : Int} : ∀ {n : Nat}, (n : Int) ≤ s → nzc (up tb s v) n = nzc tb n
  | 0, _ => rfl
  | n + 1, h => by rw [nzc, nzc, nzc_o (by omega), up_n _ _ (by omega)]
theorem nzc_up {tb : Int → Int} {s v : Int} (hs : tb s = 0) (hv : v ≠ 0) : ∀ {n : Nat}, 0 ≤ s → s < n → nzc (up tb s v) n + 1 = nzc tb n
  | 0, h0, h1 => by omega
  | n + 1, h0, h1 => by
    rw [nzc, nzc]
    by_cases q : s = n
    · subst q
      rw [nzc_o (Int.le_refl _), up_s, if_neg hv, if_pos hs]
    · have := nzc_up (tb := tb) (v := v) hs hv (n := n) h0 (by omega)
      rw [up_n _ _ (fun h => q h.symm)]
      omega
theorem nzc_0 : ∀ n : Nat, nzc (fun _ => 0) n = n
  | 0 => rfl
  | n + 1 => by rw [nzc, nzc_0 n, if_pos rfl]
theorem nzc_c {tb tb' : Int → Int} : ∀ {n : Nat}, (∀ k : Int, 0 ≤ k → k < n → tb k = tb' k) → nzc tb n = nzc tb' n
  | 0, _ => rfl
  | n + 1, h => by rw [nzc, nzc, nzc_c (fun k a b => h k a (by omega)), h n (by omega) (by omega)]
/-- the table of the positions of a list of rows -/
def TbR (sd : Int) (b0 : Int → Int) (L : List Row) (tb : Int → Int) : Prop :=
  (∀ s : Int, 0 ≤ s → s < 16384 → 0 ≤ tb s ∧ tb s ≤ L.length) ∧
  (∀ i : Nat, i < L.length → ∃ j : Nat, tb ((slt (poR sd b0 (L.getD i [])) + j) % 16384) = (i : Int) + 1 ∧ ∀ t : Nat, t < j → tb ((slt (poR sd b0 (L.getD i [])) + t) % 16384) ≠ 0) ∧
  nzc tb 16384 + L.length = 16384
theorem TbR_0 (sd : Int) (b0 : Int → Int) {tb : Int → Int} (h : ∀ k : Int, 0 ≤ k → k < 16384 → tb k = 0) : TbR sd b0 [] tb :=
  ⟨fun s h0 h1 => by rw [h s h0 h1]; simp, fun i hi => by simp at hi, by rw [nzc_c (tb' := fun _ => 0) (fun k a b => h k a b), nzc_0]; rfl⟩
/-- an empty place is found before long -/
theorem TbR_e {sd : Int} {b0 : Int → Int} {L : List Row} {tb : Int → Int} (h : TbR sd b0 L tb) (hl : L.length < 16384) {s0 : Int} (h0 : 0 ≤ s0 ∧ s0 < 16384) : ∃ t : Nat, t < 16384 ∧ tb ((s0 + t) % 16384) = 0 := by
  obtain ⟨e, h1, h2, h3⟩ := nzc_ex (tb := tb) (n := 16384) (by have := h.2.2; omega)
  have h2' : e < 16384 := h2
  by_cases q : s0 ≤ e
  · exact ⟨(e - s0).toNat, by omega, by rw [show (s0 + ((e - s0).toNat : Int)) % 16384 = e by omega]; exact h3⟩
  · exact ⟨(e + 16384 - s0).toNat, by omega, by rw [show (s0 + ((e + 16384 - s0).toNat : Int)) % 16384 = e by omega]; exact h3⟩
theorem TbR_add {sd : Int} {b0 : Int → Int} {L : List Row} {tb : Int → Int} (h : TbR sd b0 L tb) {r : Row} {s : Int} {t : Nat} (hs : s = (slt (poR sd b0 r) + t) % 16384) (hz : tb s = 0) (hb : ∀ t' : Nat, t' < t → tb ((slt (poR sd b0 r) + t') % 16384) ≠ 0) {v : Int} (hv : v = L.length + 1) : TbR sd b0 (L ++ [r]) (up tb s v) := by
  obtain ⟨h1, h2, h3⟩ := h
  have hsr := slt_rg (poR sd b0 r)
  refine ⟨fun k h0 h9 => ?_, fun i hi => ?_, ?_⟩
  · rw [List.length_append]
    by_cases q : k = s
    · subst q; rw [up_s]; simp; omega
    · rw [up_n _ _ q]
      have := h1 k h0 h9
      simp; omega
  · rw [List.length_append] at hi
    by_cases q : i < L.length
    · rw [gD_l q]
      obtain ⟨j, g1, g2⟩ := h2 i q
      refine ⟨j, ?_, fun t' ht' => ?_⟩
      · rw [up_n _ _ (fun h9 => by rw [h9, hz] at g1; omega)]; exact g1
      · by_cases q2 : (slt (poR sd b0 (L.getD i [])) + t') % 16384 = s
        · rw [q2, up_s]; omega
        · rw [up_n _ _ q2]; exact g2 t' ht'
    · have e : i = L.length := by simp at hi; omega
      subst e
      rw [gD_r]
      refine ⟨t, by rw [← hs, up_s, hv], fun t' ht' => ?_⟩
      by_cases q2 : (slt (poR sd b0 r) + t') % 16384 = s
      · rw [q2, up_s]; omega
      · rw [up_n _ _ q2]; exact hb t' ht'
  · have h4 := nzc_up (tb := tb) (s := s) (v := v) hz (by omega) (n := 16384) (by omega) (by omega)
    rw [List.length_append]
    simp
    omega
/-- the reference's plays: as the rows of a list -/
def PlM (sd : Int) (b0 : Int → Int) (L : List Row) (en fm tm mn ht : Int → Int) (pl : Int) : Prop :=
  pl = L.length ∧ (∀ r ∈ L, lgR sd b0 r ∧ r.length ≤ 4) ∧
  ∀ i : Nat, i < L.length → bk en (52 * (i : Int)) = poR sd b0 (L.getD i []) ∧ mn i = (L.getD i []).length ∧ ht i = poR sd b0 (L.getD i []) (26 * (1 - sd) + 25) - b0 (26 * (1 - sd) + 25) ∧
    ∀ j : Nat, j < (L.getD i []).length → fm (4 * (i : Int) + j) = ((L.getD i []).getD j (0, 0)).1 ∧ tm (4 * (i : Int) + j) = toP ((L.getD i []).getD j (0, 0)).1 ((L.getD i []).getD j (0, 0)).2
theorem PlM_0 {sd : Int} {b0 : Int → Int} {en fm tm mn ht : Int → Int} : PlM sd b0 [] en fm tm mn ht 0 := ⟨rfl, fun r h => absurd h List.not_mem_nil, fun i h => by simp at h⟩
theorem PlM_add {n0 sd : Int} {b0 : Int → Int} {L : List Row} {en fm tm mn ht lv fr to : Int → Int} {pl mo : Int} {r : Row} (h : PlM sd b0 L en fm tm mn ht pl) (hv : VB n0 b0) (hs : 0 ≤ sd ∧ sd ≤ 1) (hr : lgR sd b0 r ∧ r.length ≤ 4) (hmo : mo = r.length) (hlv : bk lv (52 * mo) = poR sd b0 r) (hl0 : bk lv 0 = b0) (hft : ∀ j : Nat, j < r.length → fr j = (r.getD j (0, 0)).1 ∧ to j = toP (r.getD j (0, 0)).1 (r.getD j (0, 0)).2) :
    PlM sd b0 (L ++ [r]) (wb en (52 * pl) (bk lv (52 * mo))) (cpi fr fm 0 (4 * pl) mo) (cpi to tm 0 (4 * pl) mo) (up mn pl mo) (up ht pl (bk lv (52 * mo) (26 * (1 - sd) + 25) - bk lv 0 (26 * (1 - sd) + 25))) (pl + 1) := by
  obtain ⟨h1, h2, h3⟩ := h
  refine ⟨by rw [List.length_append, h1]; simp, fun x hx => ?_, fun i hi => ?_⟩
  · rcases List.mem_append.mp hx with hx | hx
    · exact h2 x hx
    · rw [List.mem_singleton] at hx; subst hx; exact hr
  · rw [List.length_append] at hi
    by_cases q : i < L.length
    · have h4 := h3 i q
      have h5 := (h2 _ (gD_m (x := []) q)).2
      rw [gD_l q, bk_wb_o (by omega), up_n _ _ (by omega), up_n _ _ (by omega)]
      refine ⟨h4.1, h4.2.1, h4.2.2.1, fun j hj => ?_⟩
      rw [cpi_o (by omega), cpi_o (by omega)]
      exact h4.2.2.2 j hj
    · have e : i = L.length := by simp at hi; omega
      subst e
      rw [gD_r, ← h1, up_s, up_s, hlv, bk_wb (lgR_of_poR hv hs hr.1), hl0]
      refine ⟨rfl, hmo, rfl, fun j hj => ?_⟩
      have h6 := hft j hj
      unfold cpi
      rw [if_pos (by omega), if_pos (by omega), show (0 : Int) + (4 * pl + (j : Int) - 4 * pl) = j by omega]
      exact h6
/-- the search for a place: what is met ahead of an empty one isn't this position -/
theorem TbR_no {n0 sd : Int} {b0 : Int → Int} {L : List Row} {tb en fm tm mn ht : Int → Int} {pl : Int} {r : Row} {t : Nat} (h : TbR sd b0 L tb) (hp : PlM sd b0 L en fm tm mn ht pl) (hv : VB n0 b0) (hs : 0 ≤ sd ∧ sd ≤ 1) (hr : lgR sd b0 r) (hz : tb ((slt (poR sd b0 r) + t) % 16384) = 0) (hb : ∀ t' : Nat, t' < t → ¬ bk en (52 * (tb ((slt (poR sd b0 r) + t') % 16384) - 1)) = poR sd b0 r) : nwB sd b0 L r = false := by
  cases q : nwB sd b0 L r with
  | false => rfl
  | true =>
    exfalso
    unfold nwB at q
    rw [List.any_eq_true] at q
    obtain ⟨x, hx, h4⟩ := q
    obtain ⟨i, hi, rfl⟩ := List.getElem_of_mem hx
    obtain ⟨j, g1, g2⟩ := h.2.1 i hi
    have h5 := hp.2.2 i hi
    rw [gD_e hi] at g1 g2 h5
    have h6 : poR sd b0 (L[i]) = poR sd b0 r := VB_ext (lgR_of_poR hv hs (hp.2.1 _ (List.getElem_mem hi)).1) (lgR_of_poR hv hs hr) (eq52_iff.mp h4)
    rw [h6] at g1 g2 h5
    by_cases q3 : j < t
    · refine hb j q3 ?_
      rw [g1, show (i : Int) + 1 - 1 = i by omega, h5.1]
    · by_cases q4 : j = t
      · subst q4; rw [hz] at g1; omega
      · exact g2 t (by omega) hz
theorem TbR_yes {n0 sd : Int} {b0 : Int → Int} {L : List Row} {tb en fm tm mn ht : Int → Int} {pl : Int} {r : Row} {s : Int} (h : TbR sd b0 L tb) (hp : PlM sd b0 L en fm tm mn ht pl) (hv : VB n0 b0) (hs : 0 ≤ sd ∧ sd ≤ 1) (hr : lgR sd b0 r) (h0 : 0 ≤ s ∧ s < 16384) (hz : tb s ≠ 0) (hb : bk en (52 * (tb s - 1)) = poR sd b0 r) : nwB sd b0 L r = true := by
  have h1 := h.1 s h0.1 h0.2
  have h2 : (tb s - 1).toNat < L.length := by omega
  have h3 := hp.2.2 _ h2
  rw [Int.toNat_of_nonneg (by omega)] at h3
  unfold nwB
  rw [List.any_eq_true]
  refine ⟨L.getD (tb s - 1).toNat [], gD_m h2, eq52_iff.mpr (fun k _ _ => ?_)⟩
  rw [← h3.1, hb]
def gtz (w : Int) : Int := if 0 < w then 1 else 0
theorem gtz_t {w : Int} (h : 0 < w) : gtz w = 1 := if_pos h
theorem gtz_f {w : Int} (h : w ≤ 0) : gtz w = 0 := if_neg (by omega)
theorem wb_wb (f : Int → Int) (o : Int) (b c : Int → Int) : wb (wb f o b) o c = wb f o c := by
  funext j
  unfold wb
  split
  · rfl
  · rfl
theorem rwG_ne {sd on ot : Int} : ∀ {n : Nat} {mo lf : Int} {b : Int → Int}, rwG sd on ot n mo lf b ≠ []
  | 0, _, _, _ => by rw [rwG]; simp
  | n + 1, mo, lf, b => by
    rw [rwG]
    split
    · simp
    · next h => exact h
theorem hd9_rg {sd : Int} {b : Int → Int} {pr : Row} (h : lgR sd b pr) : 0 ≤ hd9 pr ∧ hd9 pr ≤ 6 := by
  cases pr with
  | nil => rw [hd9]; omega
  | cons q t => have := h.2.1; rw [hd9]; omega
theorem hft_app {w28 w29 v28 v29 : Int → Int} {pr : Row} {i d mo : Int} (hpl : mo = (pr.length : Int)) (hft : ∀ j : Nat, j < pr.length → w28 j = (pr.getD j (0, 0)).1 ∧ w29 j = toP (pr.getD j (0, 0)).1 (pr.getD j (0, 0)).2) (hk : ∀ k : Int, k < mo → v28 k = w28 k ∧ v29 k = w29 k) : ∀ j : Nat, j < (pr ++ [(i, d)]).length → up v28 mo i j = ((pr ++ [(i, d)]).getD j (0, 0)).1 ∧ up v29 mo (toP i d) j = toP ((pr ++ [(i, d)]).getD j (0, 0)).1 ((pr ++ [(i, d)]).getD j (0, 0)).2 := by
  intro j hj
  rw [List.length_append] at hj
  by_cases q : j < pr.length
  · rw [gD_l q, up_n _ _ (by omega), up_n _ _ (by omega), (hk j (by omega)).1, (hk j (by omega)).2]
    exact hft j q
  · have e : j = pr.length := by simp at hj; omega
    subst e
    rw [← hpl, up_s, up_s, gD_r]
    exact ⟨rfl, rfl⟩
theorem mSi_rg1 {s34 s35 mo fi : Int} (h1 : 0 ≤ s34 ∧ s34 ≤ 4) (_ : 0 ≤ s35 ∧ s35 ≤ 6) (h3 : 0 ≤ mo ∧ mo ≤ 4) (_ : 0 ≤ fi ∧ fi ≤ 6) : 0 ≤ (mSi (s34, s35) mo fi).1 ∧ (mSi (s34, s35) mo fi).1 ≤ 4 := by
  unfold mSi
  split
  · exact h3
  · split
    · exact h1
    · exact h1
theorem mSi_rg2 {s34 s35 mo fi : Int} (_ : 0 ≤ s34 ∧ s34 ≤ 4) (h2 : 0 ≤ s35 ∧ s35 ≤ 6) (_ : 0 ≤ mo ∧ mo ≤ 4) (h4 : 0 ≤ fi ∧ fi ≤ 6) : 0 ≤ (mSi (s34, s35) mo fi).2 ∧ (mSi (s34, s35) mo fi).2 ≤ 6 := by
  unfold mSi
  split
  · exact h4
  · split
    · exact h4
    · exact h2
theorem wSi_rg1 {m u on ot mo fi w s37 s36 : Int} (h : s37 = 0 ∨ s37 = 1) : (wSi m u on ot mo fi w (s37, s36)).1 = 0 ∨ (wSi m u on ot mo fi w (s37, s36)).1 = 1 := by
  unfold wSi
  split
  · exact Or.inr rfl
  · exact h
theorem wSi_rg2 {m u on ot mo fi w s37 s36 : Int} (h : -100000 ≤ s36 ∧ s36 ≤ 100000) (h2 : -100000 ≤ w ∧ w ≤ 100000) : -100000 ≤ (wSi m u on ot mo fi w (s37, s36)).2 ∧ (wSi m u on ot mo fi w (s37, s36)).2 ≤ 100000 := by
  unfold wSi
  split
  · dsimp only
    split
    · exact h
    · exact h2
  · exact h
theorem pS_mono (sd : Int) (b0 : Int → Int) (m u on ot : Int) (rs : List Row) (L : List Row) : L.length ≤ (rs.foldl (pS sd b0 m u on ot) L).length := by
  induction rs generalizing L with
  | nil => exact Nat.le_refl _
  | cons r t ih =>
    refine Nat.le_trans ?_ (ih (pS sd b0 m u on ot L r))
    unfold pS
    split
    · split
      · exact Nat.le_refl _
      · rw [List.length_append]; omega
    · exact Nat.le_refl _
