/-! HOW MANY plays there can be; judging lists; the game's own sums -/
def occ (b : Int → Int) (sd : Int) (h : Nat) : Nat := (sm (fun k => b (26 * sd + (k + 1))) h).toNat
theorem occ_s {b : Int → Int} {sd : Int} (hb : ∀ k, 0 ≤ b k) (h : Nat) : occ b sd (h + 1) = occ b sd h + (b (26 * sd + ((h : Int) + 1))).toNat := by
  have h1 := sm_nonneg (f := fun k => b (26 * sd + (k + 1))) (fun k => hb _) h
  have h2 := hb (26 * sd + ((h : Int) + 1))
  unfold occ
  rw [sm]
  omega
def sumF (g : Nat → Nat) : Nat → Nat
  | 0 => 0
  | n + 1 => sumF g n + g (n + 1)
def LB : Nat → Nat → Nat
  | 0 => fun _ => 1
  | n + 1 => fun k => max 1 (sumF (LB n) k)
theorem sumF_mono (g : Nat → Nat) : ∀ {i j : Nat}, i ≤ j → sumF g i ≤ sumF g j
  | i, 0, h => by rw [show i = 0 by omega]; exact Nat.le_refl _
  | i, j + 1, h => by
    by_cases q : i = j + 1
    · rw [q]; exact Nat.le_refl _
    · have := sumF_mono g (i := i) (j := j) (by omega)
      rw [sumF]
      omega
theorem LB_mono (n : Nat) {i j : Nat} (h : i ≤ j) : LB n i ≤ LB n j := by
  cases n with
  | zero => exact Nat.le_refl _
  | succ n =>
    have := sumF_mono (LB n) h
    show max 1 (sumF (LB n) i) ≤ max 1 (sumF (LB n) j)
    omega
/-- men of a side from the points 1 to h; one moved from fr -/
theorem occ_stp {b : Int → Int} {sd fr d : Int} (hs : 0 ≤ sd ∧ sd ≤ 1) (hf : 1 ≤ fr ∧ fr ≤ 25) (hd : 1 ≤ d) (hb : ∀ k, 0 ≤ b k) (hm : b (26 * sd + fr) ≠ 0) (hv : ∀ k, 0 ≤ stp b sd fr d k) {h : Nat} (hh : fr ≤ h ∧ h ≤ 25) : occ (stp b sd fr d) sd h ≤ occ b sd h := by
  have key : ∀ h : Nat, h ≤ 25 → (sm (fun k => stp b sd fr d (26 * sd + (k + 1))) h) = sm (fun k => b (26 * sd + (k + 1))) h - (if fr ≤ h then 1 else 0) + (if 1 ≤ toP fr d ∧ toP fr d ≤ h then 1 else 0) := by
    intro h
    induction h with
    | zero =>
      intro _
      rw [sm, sm, if_neg (by omega), if_neg (by omega)]
      rfl
    | succ h ih =>
      intro hh
      have h1 := toP_ne (fr := fr) (d := d) hf.1 hd
      rw [sm, sm, ih (by omega), stp_own hs hf hd (by omega)]
      split <;> split <;> split <;> split <;> split <;> split <;> omega
  have h1 := key h hh.2
  rw [if_pos hh.1] at h1
  unfold occ
  split at h1 <;> omega
theorem flatMap_len {α β : Type} (g : α → List β) : ∀ l : List α, (l.flatMap g).length = (l.map (fun x => (g x).length)).sum
  | [] => rfl
  | x :: t => by rw [List.flatMap_cons, List.length_append, List.map_cons, List.sum_cons, flatMap_len g t]
theorem mvs_s {b : Int → Int} {sd d : Int} {h : Nat} : mvs b sd d (h + 1) = if canB b sd ((h + 1 : Nat) : Int) d = true then ((h + 1 : Nat) : Int) :: mvs b sd d h else mvs b sd d h := by
  unfold mvs
  rw [dn, List.filter_cons]
theorem lvS_cap {sd d n0 : Int} (hs : 0 ≤ sd ∧ sd ≤ 1) (hd : 1 ≤ d) : ∀ (n : Nat) (b : Int → Int) (h : Nat), VB n0 b → h ≤ 25 → (lvS sd d n b h).length ≤ LB n (occ b sd h) := by
  intro n
  induction n with
  | zero => intro b h _ _; exact Nat.le_refl _
  | succ n ih =>
    intro b h hv hh
    rw [lvS]
    split
    · show 1 ≤ max 1 _
      omega
    · rw [flatMap_len]
      have key : ∀ h : Nat, h ≤ 25 → ((mvs b sd d h).map (fun x => ((lvS sd d n (stp b sd x d) x).map ((x, d) :: ·)).length)).sum ≤ sumF (LB n) (occ b sd h) := by
        intro h
        induction h with
        | zero => intro _; exact Nat.zero_le _
        | succ h ih2 =>
          intro hh
          have h1 := ih2 (by omega)
          have h2 := occ_s (sd := sd) hv.1 h
          rw [mvs_s]
          split
          · next q =>
            have hc := canB_iff.mp q
            have h3 := hc.2.2.1
            have h4 := hv.1 (26 * sd + ((h + 1 : Nat) : Int))
            rw [List.map_cons, List.sum_cons, List.length_map]
            have h5 := ih (stp b sd ((h + 1 : Nat) : Int) d) (h + 1) (hc.VB hv hs hd) hh
            have h6 := occ_stp (b := b) (fr := ((h + 1 : Nat) : Int)) hs (by omega) hd hv.1 h3 (hc.VB hv hs hd).1 (h := h + 1) (by omega)
            have h7 := LB_mono n h6
            obtain ⟨j, hj⟩ : ∃ j, occ b sd (h + 1) = j + 1 := ⟨occ b sd (h + 1) - 1, by
              have : ((h : Int) + 1) = ((h + 1 : Nat) : Int) := by omega
              rw [this] at h2
              omega⟩
            have h8 : occ b sd h ≤ j := by
              have : ((h : Int) + 1) = ((h + 1 : Nat) : Int) := by omega
              rw [this] at h2
              omega
            have h9 := sumF_mono (LB n) h8
            rw [hj] at h7 ⊢
            rw [sumF]
            omega
          · exact Nat.le_trans h1 (sumF_mono (LB n) (by omega))
      have h1 := key h hh
      have h2 : mvZ b sd d (h : Int) = mvs b sd d h := by unfold mvZ; rw [Int.toNat_natCast]
      rw [h2]
      show _ ≤ max 1 (sumF (LB n) (occ b sd h))
      omega
theorem sm_shift (f : Int → Int) : ∀ n : Nat, sm f (n + 1) = f 0 + sm (fun k => f (k + 1)) n
  | 0 => by simp [sm]
  | n + 1 => by
    rw [sm, sm_shift f n, sm]
    show _ + f ((n + 1 : Nat) : Int) = _ + (_ + f ((n : Int) + 1))
    rw [show ((n + 1 : Nat) : Int) = (n : Int) + 1 by omega]
    omega
theorem occ_men {b : Int → Int} {sd : Int} (hb : ∀ k, 0 ≤ b k) : (occ b sd 25 : Int) = men b sd - b (26 * sd + 0) := by
  have h1 := sm_shift (fun p => b (26 * sd + p)) 25
  have h2 := sm_nonneg (f := fun k => b (26 * sd + (k + 1))) (fun k => hb _) 25
  unfold occ men sz
  rw [show (26 : Int).toNat = 25 + 1 from rfl, h1]
  show ((sm (fun k => b (26 * sd + (k + 1))) 25).toNat : Int) = b (26 * sd + 0) + sm (fun k => b (26 * sd + (k + 1))) 25 - b (26 * sd + 0)
  omega
theorem cap1 {b : Int → Int} {sd d n0 : Int} (hv : VB n0 b) (hn : n0 ≤ 15) (hs : 0 ≤ sd ∧ sd ≤ 1) (hd : 1 ≤ d) : ((lvS sd d 4 b 25).length : Int) ≤ 3060 := by
  have h1 := lvS_cap hs hd 4 b 25 hv (by decide)
  rw [show ((25 : Nat) : Int) = 25 from rfl] at h1
  have h2 := occ_men (sd := sd) hv.1
  have h3 := hv.m hs
  have h4 := hv.1 (26 * sd + 0)
  have h5 := LB_mono 4 (i := occ b sd 25) (j := 15) (by omega)
  have h6 : LB 4 15 = 3060 := by decide
  omega
theorem mvs_cap {b : Int → Int} {sd d : Int} (hb : ∀ k, 0 ≤ b k) : ∀ h : Nat, (mvs b sd d h).length ≤ occ b sd h
  | 0 => Nat.zero_le _
  | h + 1 => by
    have h1 := mvs_cap (sd := sd) (d := d) hb h
    have h2 := occ_s (sd := sd) hb h
    rw [mvs_s]
    split
    · next q =>
      have h3 := (canB_iff.mp q).2.2.1
      have h4 := hb (26 * sd + ((h + 1 : Nat) : Int))
      rw [show ((h : Int) + 1) = ((h + 1 : Nat) : Int) by omega] at h2
      rw [List.length_cons]
      omega
    · omega
theorem mvZ_cap {b : Int → Int} {sd d n0 : Int} (hv : VB n0 b) (hn : n0 ≤ 15) (hs : 0 ≤ sd ∧ sd ≤ 1) : (mvZ b sd d 25).length ≤ 15 := by
  have h1 := mvs_cap (sd := sd) (d := d) hv.1 25
  have h2 := occ_men (sd := sd) hv.1
  have h3 := hv.m hs
  have h4 := hv.1 (26 * sd + 0)
  unfold mvZ
  rw [show (25 : Int).toNat = 25 from rfl]
  omega
theorem cpPrs_cap {b : Int → Int} {sd d1 d2 n0 : Int} (hv : VB n0 b) (hn : n0 ≤ 15) (hs : 0 ≤ sd ∧ sd ≤ 1) (hd : 1 ≤ d1) : ∀ fs : List Int, (∀ f ∈ fs, canP b sd f d1) → cpPrs sd b d1 d2 fs ≤ 15 * (fs.length : Int)
  | [], _ => by simp [cpPrs]
  | f :: t, h => by
    have h1 := cpPrs_cap hv hn hs hd (d2 := d2) t (fun x hx => h x (List.mem_cons_of_mem _ hx))
    have h2 := mvZ_cap (d := d2) ((h f List.mem_cons_self).VB hv hs hd) hn hs
    rw [cpPrs, List.length_cons]
    omega
theorem mem_mvZ {b : Int → Int} {sd d x h : Int} (hx : x ∈ mvZ b sd d h) : (1 ≤ x ∧ x ≤ h) ∧ canP b sd x d := by
  have h1 := mem_mvs.mp hx
  refine ⟨⟨h1.1.1, ?_⟩, h1.2⟩
  have := h1.1.1
  have := h1.1.2
  omega
theorem cap2 {b : Int → Int} {sd d1 d2 n0 : Int} (hv : VB n0 b) (hn : n0 ≤ 15) (hs : 0 ≤ sd ∧ sd ≤ 1) (h1 : 1 ≤ d1) (h2 : 1 ≤ d2) : cpPrs sd b d1 d2 (mvZ b sd d1 25) + cpPrs sd b d2 d1 (mvZ b sd d2 25) ≤ 450 := by
  have a1 := cpPrs_cap (d2 := d2) hv hn hs h1 (mvZ b sd d1 25) (fun f hf => (mem_mvZ hf).2)
  have a2 := cpPrs_cap (d2 := d1) hv hn hs h2 (mvZ b sd d2 25) (fun f hf => (mem_mvZ hf).2)
  have a3 := mvZ_cap (d := d1) hv hn hs
  have a4 := mvZ_cap (d := d2) hv hn hs
  omega
/-- the greatest worth in a list of plays, and the number of its first play -/
def wthL (b0 : Int → Int) (sd : Int) (L : List Row) (i : Int) : Int := wth (poR sd b0 (L.getD i.toNat [])) sd
def bsN (b0 : Int → Int) (sd : Int) (L : List Row) : Int := grZ (wthL b0 sd L) (L.length : Int)
def bsW (b0 : Int → Int) (sd : Int) (L : List Row) : Int := wthL b0 sd L (bsN b0 sd L)
theorem RepP_w {b0 : Int → Int} {sd : Int} {L : List Row} {fr fw : Int → Int} {cnt gr : Int} (h : RepP b0 sd L fr fw cnt gr) {k : Int} (hk : 0 ≤ k ∧ k < cnt) : fw k = wthL b0 sd L k ∧ fr k = rc (L.getD k.toNat []) := by
  have h1 := h.1
  have h2 := h.2.1 k.toNat (by omega)
  rw [Int.toNat_of_nonneg hk.1] at h2
  exact ⟨h2.2, h2.1⟩
theorem RepP_b {b0 : Int → Int} {sd : Int} {L : List Row} {fr fw : Int → Int} {cnt gr : Int} (h : RepP b0 sd L fr fw cnt gr) : gr = bsN b0 sd L := by
  have h1 := h.1
  rw [h.2.2.1]
  unfold bsN grZ
  rw [h1, Int.toNat_natCast, grW_congr (fun i hi => (RepP_w h (by omega)).1)]
theorem RepP_g {b0 : Int → Int} {sd : Int} {L : List Row} {fr fw : Int → Int} {cnt gr : Int} (h : RepP b0 sd L fr fw cnt gr) (h0 : 0 < cnt) : fw gr = bsW b0 sd L := by
  have h1 := RepP_gr h
  rw [(RepP_w h (k := gr) (by omega)).1, RepP_b h]
  rfl
/-- sums over the 21 rolls -/
def inQ (f : Int → Int → Int) (x : Int) (acc : Int) : Nat → Int
  | 0 => acc
  | n + 1 => inQ f x acc n + (if x + n = x then f (x + n) x else 2 * f (x + n) x)
def ouQ (f : Int → Int → Int) : Nat → Int
  | 0 => 0
  | n + 1 => inQ f (n + 1 : Nat) (ouQ f n) (6 - n)
def inQZ (f : Int → Int → Int) (x : Int) (acc : Int) (g : Int) : Int := inQ f x acc (g - x).toNat
def ouQZ (f : Int → Int → Int) (x : Int) : Int := ouQ f (x - 1).toNat
theorem inQZ_0 (f : Int → Int → Int) (x acc : Int) : inQZ f x acc x = acc := by
  unfold inQZ
  rw [show (x - x).toNat = 0 by omega]
  rfl
theorem inQZ_s {f : Int → Int → Int} {x g acc : Int} (h : x ≤ g) : inQZ f x acc (g + 1) = inQZ f x acc g + (if g = x then f g x else 2 * f g x) := by
  unfold inQZ
  rw [show (g + 1 - x).toNat = (g - x).toNat + 1 by omega, inQ, show x + ((g - x).toNat : Int) = g by omega]
theorem ouQZ_s {f : Int → Int → Int} {x : Int} (h : 1 ≤ x ∧ x ≤ 6) : ouQZ f (x + 1) = inQZ f x (ouQZ f x) 7 := by
  unfold inQZ ouQZ
  rw [show (x + 1 - 1).toNat = (x - 1).toNat + 1 by omega, ouQ, show (((x - 1).toNat + 1 : Nat) : Int) = x by omega, show 6 - (x - 1).toNat = (7 - x).toNat by omega]
/-- what a roll's replies are worth at most -/
def rpW (b0 : Int → Int) (sd g x : Int) : Int := bsW b0 sd (plc sd b0 g x).2
/-- how a game ends -/
def kdF (op le ja sk : Int) (b : Int → Int) (lo : Int) : Int := if 0 < b (26 * lo + 0) ∨ (op ≠ 0 ∧ le = 0 ∧ ja ≠ 0 ∧ sk = 1) then 1 else if 18 < far b lo then 3 else 2
theorem kdF_rg (op le ja sk : Int) (b : Int → Int) (lo : Int) : 1 ≤ kdF op le ja sk b lo ∧ kdF op le ja sk b lo ≤ 3 := by
  unfold kdF
  split
  · omega
  · split <;> omega
/-- plays are never none -/
theorem adLs_ne {rs : List Row} : ∀ {s : Int × List Row}, (s.2 ≠ [] ∨ (rs ≠ [] ∧ ∀ r ∈ rs, s.1 ≤ (r.length : Int)) ∨ False) → (adLs s rs).2 ≠ [] := by
  induction rs with
  | nil =>
    intro s h
    rcases h with h | h | h
    · exact h
    · exact absurd rfl h.1
    · exact h.elim
  | cons r t ih =>
    intro s h
    show (adLs (adL s r) t).2 ≠ []
    refine ih (Or.inl ?_)
    unfold adL
    split
    · simp
    · split
      · simp
      · rcases h with h | h | h
        · exact h
        · have := h.2 r List.mem_cons_self
          omega
        · exact h.elim
theorem plc_ne (sd : Int) (b0 : Int → Int) (g x : Int) : (plc sd b0 g x).2 ≠ [] := by
  by_cases q : g = x
  · rw [plc_a q]
    exact adLs_ne (Or.inr (Or.inl ⟨lvS_ne sd g 4 b0 25, fun r _ => Int.natCast_nonneg _⟩))
  · rw [plc_u q]
    unfold unl
    split
    · next h => intro h9; exact h (by show (unP sd b0 g x).length = 0; rw [show unP sd b0 g x = [] from h9]; rfl)
    · split
      · next h => intro h9; exact h (by rw [show adSin [] g (mvZ b0 sd g 25) = [] from h9]; rfl)
      · split
        · next h => intro h9; exact h (by rw [show adSin [] x (mvZ b0 sd x 25) = [] from h9]; rfl)
        · simp
theorem plc_pos (sd : Int) (b0 : Int → Int) (g x : Int) : 0 < (plc sd b0 g x).2.length := List.length_pos_iff.mpr (plc_ne sd b0 g x)
theorem hwB_01 (b : Int → Int) (sd fr d : Int) : 0 ≤ hwB b sd fr d ∧ hwB b sd fr d ≤ 1 := by
  rcases hwB_cs b sd fr d with h | h <;> omega
theorem hiR_rg (sd : Int) : ∀ (r : Row) (b : Int → Int), 0 ≤ hiR sd b r ∧ hiR sd b r ≤ (r.length : Int)
  | [], b => by rw [hiR]; simp
  | q :: t, b => by
    have h1 := hwB_01 b sd q.1 q.2
    have h2 := hiR_rg sd t (stp b sd q.1 q.2)
    rw [hiR, List.length_cons]
    omega
theorem isE_far {b : Int → Int} {sd n0 : Int} (hv : VB n0 b) (hs : 0 ≤ sd ∧ sd ≤ 1) (h : isE b sd) : 1 ≤ far b sd := by
  have h1 := occ_men (sd := sd) hv.1
  have h2 := h.1
  have key : ∀ n : Nat, farN b sd n = 0 → (sm (fun k => b (26 * sd + (k + 1))) n) = 0 := by
    intro n
    induction n with
    | zero => intro _; rfl
    | succ n ih =>
      intro h9
      rw [farN] at h9
      split at h9
      · omega
      · next q =>
        rw [sm, ih h9]
        have := hv.1 (26 * sd + ((n : Int) + 1))
        rw [show ((n + 1 : Nat) : Int) = (n : Int) + 1 by omega] at q
        omega
  have h3 := far_rg b sd
  by_cases q : far b sd = 0
  · have h4 := key 25 q
    unfold occ at h1
    omega
  · omega
theorem near_le {b : Int → Int} {sd : Int} : near b sd ≤ far b sd := by
  have h3 := far_rg b sd
  unfold near nrZ
  have key : ∀ n : Nat, (n : Int) ≤ far b sd → nrN b sd (if 1 < b (26 * sd + far b sd) then far b sd else 0) n ≤ far b sd := by
    intro n
    induction n with
    | zero => intro _; rw [nrN]; split <;> omega
    | succ n ih =>
      intro h9
      rw [nrN]
      split
      · exact h9
      · exact ih (by omega)
  exact key _ (by omega)
/-- the last two of a side as one number -/
def l2V (b : Int → Int) (sd : Int) : Int := pr7 (far b sd) (near b sd)
theorem l2V_v {b : Int → Int} {sd n0 : Int} (hv : VB n0 b) (hs : 0 ≤ sd ∧ sd ≤ 1) (h : isE b sd) : v7 (l2V b sd) ∧ l2V b sd ≠ 0 := by
  have h1 := isE_far hv hs h
  have h2 := near_rg (b := b) (sd := sd)
  have h3 := near_le (b := b) (sd := sd)
  have h4 := h.2.2
  have h5 := pr7_v (a := far b sd) (b := near b sd) (by omega) (by omega)
  refine ⟨h5.1, fun h9 => ?_⟩
  have h6 := h5.2
  unfold l2V at h9
  rw [h9] at h6
  unfold pip at h6
  omega
theorem lgR_of_poR {n0 sd : Int} {b : Int → Int} {r : Row} (hv : VB n0 b) (hs : 0 ≤ sd ∧ sd ≤ 1) (h : lgR sd b r) : VB n0 (poR sd b r) := lgR_VB hs h hv
theorem VB_eq52 {n : Int} {b b' : Int → Int} (h : VB n b) (h' : VB n b') : (∀ k : Int, 0 ≤ k → k < 52 → b k = b' k) ↔ b = b' := ⟨VB_ext h h', fun e k _ _ => by rw [e]⟩
