/-! DICE ALIKE: the reference's plays are the class's -/
theorem ifc {α : Type} {p q : Prop} [Decidable p] [Decidable q] {x y : α} (h : p ↔ q) : (if p then x else y) = if q then x else y := by
  by_cases hp : p
  · rw [if_pos hp, if_pos (h.mp hp)]
  · rw [if_neg hp, if_neg (fun h9 => hp (h.mpr h9))]
theorem mem_mvZw {b : Int → Int} {sd d x h : Int} : x ∈ mvZ b sd d h ↔ (1 ≤ x ∧ x ≤ h) ∧ canP b sd x d := by
  constructor
  · exact fun hx => mem_mvZ hx
  · intro hx
    exact mem_mvs.mpr ⟨⟨hx.1.1, by have := hx.1.1; have := hx.1.2; omega⟩, hx.2⟩
theorem dn_pw : ∀ n : Nat, (dn n).Pairwise (fun a c => c < a)
  | 0 => List.Pairwise.nil
  | n + 1 => by
    rw [dn, List.pairwise_cons]
    exact ⟨fun x hx => by have := (mem_dn.mp hx).2; omega, dn_pw n⟩
theorem mvZ_pw (b : Int → Int) (sd d h : Int) : (mvZ b sd d h).Pairwise (fun a c => c < a) := (dn_pw _).filter _
/-- the points at most h among those from 25 down -/
theorem mvZ_le {b : Int → Int} {sd d h : Int} (hh : h ≤ 25) : mvZ b sd d h = (mvZ b sd d 25).filter (fun f => decide (f ≤ h)) := by
  have key : ∀ m : Nat, m ≤ 25 → (dn m) = (dn 25).filter (fun f => decide (f ≤ (m : Int))) := by
    intro m hm
    have h1 : ∀ k n : Nat, m ≤ n → n ≤ m + k → (dn n).filter (fun f => decide (f ≤ (m : Int))) = (dn m).filter (fun f => decide (f ≤ (m : Int))) := by
      intro k
      induction k with
      | zero => intro n h2 h3; rw [show n = m by omega]
      | succ k ih =>
        intro n h2 h3
        by_cases q : n = m
        · rw [q]
        · obtain ⟨j, rfl⟩ : ∃ j, n = j + 1 := ⟨n - 1, by omega⟩
          rw [dn, List.filter_cons_of_neg (by rw [decide_eq_true_iff]; omega)]
          exact ih j (by omega) (by omega)
    rw [h1 25 25 hm (by omega), List.filter_eq_self.mpr]
    intro x hx
    rw [decide_eq_true_iff]
    exact (mem_dn.mp hx).2
  unfold mvZ mvs
  rw [List.filter_filter, key h.toNat (by omega), List.filter_filter]
  refine List.filter_congr (fun x hx => ?_)
  have hx1 := (mem_dn.mp hx).1
  by_cases q : x ≤ h
  · rw [decide_eq_true (show x ≤ ((h.toNat : Nat) : Int) by omega), decide_eq_true q, Bool.and_comm]
  · rw [decide_eq_false (show ¬ x ≤ ((h.toNat : Nat) : Int) by omega), decide_eq_false q, Bool.and_comm]
/-- all rows of one die that can't go on -/
def lvA (sd d : Int) : Nat → (Int → Int) → List Row
  | 0, _ => [[]]
  | n + 1, b => if mvZ b sd d 25 = [] then [[]] else (mvZ b sd d 25).flatMap (fun f => (lvA sd d n (stp b sd f d)).map ((f, d) :: ·))
theorem lvA_ne (sd d : Int) : ∀ (n : Nat) (b : Int → Int), lvA sd d n b ≠ []
  | 0, b => by simp [lvA]
  | n + 1, b => by
    rw [lvA]
    split
    · simp
    · next q =>
      intro h9
      obtain ⟨f, t, e⟩ := List.exists_cons_of_ne_nil q
      rw [e, List.flatMap_cons, List.append_eq_nil_iff, List.map_eq_nil_iff] at h9
      exact lvA_ne sd d n _ h9.1
theorem fm_nil {sd d : Int} {n : Nat} {b : Int → Int} {l : List Int} : l.flatMap (fun f => (lvA sd d n (stp b sd f d)).map ((f, d) :: ·)) = [] ↔ l = [] := by
  constructor
  · intro h9
    cases l with
    | nil => rfl
    | cons f t =>
      rw [List.flatMap_cons, List.append_eq_nil_iff, List.map_eq_nil_iff] at h9
      exact absurd h9.1 (lvA_ne sd d n _)
  · intro h; rw [h]; rfl
theorem rwG_a {sd d : Int} : ∀ {n : Nat} {mo lf : Int} {b : Int → Int}, mo + n = 4 → rwG sd d d n mo lf b = lvA sd d n b
  | 0, mo, lf, b, _ => rfl
  | n + 1, mo, lf, b, h => by
    have e0 : hsK d d mo lf 0 = true := by unfold hsK; rw [if_pos rfl, decide_eq_true_iff]; exact ⟨rfl, by omega⟩
    have e1 : hsK d d mo lf 1 = false := by unfold hsK; rw [if_pos rfl, decide_eq_false_iff_not]; omega
    have e : reG (rwG sd d d n) sd d d mo lf b 0 25 = (mvZ b sd d 25).flatMap (fun f => (lvA sd d n (stp b sd f d)).map ((f, d) :: ·)) := by
      unfold reG
      rw [if_pos rfl, opG_0 (Or.inr e1), List.append_nil]
      unfold opG
      rw [if_pos e0]
      show (mvZ b sd d 25).flatMap (fun f => (rwG sd d d n (mo + 1) (lfN lf 0) (stp b sd f d)).map ((f, d) :: ·)) = _
      congr 1
      funext f
      rw [rwG_a (n := n) (by omega)]
    rw [rwG, e, lvA]
    by_cases q : mvZ b sd d 25 = []
    · rw [if_pos (fm_nil.mpr q), if_pos q]
    · rw [if_neg (fun h9 => q (fm_nil.mp h9)), if_neg q]
/-- rows of one die that can be made -/
def lgD (sd d : Int) : (Int → Int) → Row → Prop
  | _, [] => True
  | b, q :: t => canP b sd q.1 d ∧ q.2 = d ∧ lgD sd d (stp b sd q.1 d) t
theorem lgD_lg {sd d : Int} (hd : 1 ≤ d ∧ d ≤ 6) : ∀ {r : Row} {b : Int → Int}, lgD sd d b r → lgR sd b r
  | [], _, _ => trivial
  | q :: t, b, h => by
    obtain ⟨h1, h2, h3⟩ := h
    refine ⟨by rw [h2]; exact h1, by rw [h2]; exact hd, ?_⟩
    rw [h2]
    exact lgD_lg hd h3
theorem lvA_mem {sd d : Int} : ∀ {n : Nat} {b : Int → Int} {r : Row}, r ∈ lvA sd d n b → lgD sd d b r ∧ r.length ≤ n
  | 0, b, r, h => by
    rw [lvA, List.mem_singleton] at h
    subst h
    exact ⟨trivial, Nat.le_refl _⟩
  | n + 1, b, r, h => by
    rw [lvA] at h
    split at h
    · rw [List.mem_singleton] at h
      subst h
      exact ⟨trivial, Nat.zero_le _⟩
    · obtain ⟨f, hf, h9⟩ := List.mem_flatMap.mp h
      obtain ⟨y, hy, rfl⟩ := List.mem_map.mp h9
      have h1 := lvA_mem hy
      exact ⟨⟨(mem_mvZw.mp hf).2, rfl, h1.1⟩, by rw [List.length_cons]; omega⟩
theorem lvS_mem {sd d : Int} : ∀ {n : Nat} {b : Int → Int} {h : Int} {r : Row}, r ∈ lvS sd d n b h → lgD sd d b r ∧ r.length ≤ n
  | 0, b, h, r, hr => by
    rw [lvS, List.mem_singleton] at hr
    subst hr
    exact ⟨trivial, Nat.le_refl _⟩
  | n + 1, b, h, r, hr => by
    rw [lvS] at hr
    split at hr
    · rw [List.mem_singleton] at hr
      subst hr
      exact ⟨trivial, Nat.zero_le _⟩
    · obtain ⟨f, hf, h9⟩ := List.mem_flatMap.mp hr
      obtain ⟨y, hy, rfl⟩ := List.mem_map.mp h9
      have h1 := lvS_mem hy
      exact ⟨⟨(mem_mvZw.mp hf).2, rfl, h1.1⟩, by rw [List.length_cons]; omega⟩
/-- any row goes on to one that can't -/
theorem lvA_up {sd d : Int} : ∀ {n : Nat} {b : Int → Int} {r : Row}, lgD sd d b r → r.length ≤ n → ∃ x ∈ lvA sd d n b, r.length ≤ x.length
  | n, b, [], _, _ => by
    obtain ⟨x, t, e⟩ := List.exists_cons_of_ne_nil (lvA_ne sd d n b)
    exact ⟨x, by rw [e]; exact List.mem_cons_self, Nat.zero_le _⟩
  | 0, b, q :: t, _, h => by simp at h
  | n + 1, b, q :: t, h, hl => by
    obtain ⟨h1, h2, h3⟩ := h
    obtain ⟨x, hx, hxl⟩ := lvA_up (n := n) h3 (by simpa using hl)
    have hf : q.1 ∈ mvZ b sd d 25 := mem_mvZw.mpr ⟨⟨h1.1, h1.2.1⟩, h1⟩
    refine ⟨(q.1, d) :: x, ?_, by rw [List.length_cons, List.length_cons]; omega⟩
    rw [lvA, if_neg (List.ne_nil_of_mem hf), List.mem_flatMap]
    exact ⟨q.1, hf, List.mem_map.mpr ⟨x, hx, rfl⟩⟩
def fL (M : Nat) (l : List Row) : List Row := l.filter (fun r => decide (r.length = M))
theorem mem_fL {M : Nat} {l : List Row} {r : Row} : r ∈ fL M l ↔ r ∈ l ∧ r.length = M := by
  unfold fL
  rw [List.mem_filter, decide_eq_true_iff]
theorem fL_app (M : Nat) (a c : List Row) : fL M (a ++ c) = fL M a ++ fL M c := List.filter_append ..
theorem fL_fm {M : Nat} {l : List Int} {g : Int → List Row} {d : Int} : fL (M + 1) (l.flatMap (fun f => (g f).map ((f, d) :: ·))) = l.flatMap (fun f => (fL M (g f)).map ((f, d) :: ·)) := by
  induction l with
  | nil => rfl
  | cons f t ih =>
    rw [List.flatMap_cons, List.flatMap_cons, fL_app, ih]
    congr 1
    unfold fL
    rw [List.filter_map]
    congr 1
    refine List.filter_congr (fun r _ => ?_)
    show decide ((r.length + 1) = M + 1) = decide (r.length = M)
    by_cases q : r.length = M
    · rw [decide_eq_true q, decide_eq_true (by omega)]
    · rw [decide_eq_false q, decide_eq_false (by omega)]
/-- rows that never go up, from h on -/
def ninB : Int → Row → Bool
  | _, [] => true
  | h, q :: t => decide (q.1 ≤ h) && ninB q.1 t
theorem fm_filter {l : List Int} {g : Int → List Row} {d h : Int} : (l.flatMap (fun f => (g f).map ((f, d) :: ·))).filter (ninB h) = (l.filter (fun f => decide (f ≤ h))).flatMap (fun f => ((g f).filter (ninB f)).map ((f, d) :: ·)) := by
  induction l with
  | nil => rfl
  | cons f t ih =>
    rw [List.flatMap_cons, List.filter_append, ih, List.filter_map]
    by_cases q : f ≤ h
    · rw [List.filter_cons_of_pos (by rw [decide_eq_true_iff]; exact q), List.flatMap_cons]
      congr 2
      refine List.filter_congr (fun r _ => ?_)
      show (decide (f ≤ h) && ninB f r) = ninB f r
      rw [decide_eq_true q, Bool.true_and]
    · rw [List.filter_cons_of_neg (by rw [decide_eq_true_iff]; exact q)]
      rw [List.filter_eq_nil_iff.mpr, List.map_nil, List.nil_append]
      intro r _
      show ¬ (decide (f ≤ h) && ninB f r) = true
      rw [decide_eq_false q, Bool.false_and]
      decide
/-- the class's longest rows are those of the reference that never go up -/
theorem lvS_lvA {sd d : Int} : ∀ (n M : Nat) (b : Int → Int) (h : Int), h ≤ 25 → (∀ r, lgD sd d b r → r.length ≤ n → r.length ≤ M) → fL M (lvS sd d n b h) = (fL M (lvA sd d n b)).filter (ninB h)
  | 0, M, b, h, _, _ => by
    show fL M [[]] = (fL M [[]]).filter (ninB h)
    rw [List.filter_eq_self.mpr]
    intro r hr
    have h1 := (mem_fL.mp hr).1
    rw [List.mem_singleton] at h1
    subst h1
    rfl
  | n + 1, M, b, h, hh, hm => by
    by_cases q : mvZ b sd d 25 = []
    · have q2 : mvZ b sd d h = [] := by rw [mvZ_le hh, q]; rfl
      rw [lvS, lvA, if_pos q, if_pos q2, List.filter_eq_self.mpr]
      intro r hr
      have h1 := (mem_fL.mp hr).1
      rw [List.mem_singleton] at h1
      subst h1
      rfl
    · obtain ⟨f0, t0, e0⟩ := List.exists_cons_of_ne_nil q
      have hf0 : f0 ∈ mvZ b sd d 25 := by rw [e0]; exact List.mem_cons_self
      have h1 := hm [(f0, d)] ⟨(mem_mvZw.mp hf0).2, rfl, trivial⟩ (by simp)
      obtain ⟨m, rfl⟩ : ∃ m, M = m + 1 := ⟨M - 1, by simp at h1; omega⟩
      have e1 : fL (m + 1) (lvS sd d (n + 1) b h) = (mvZ b sd d h).flatMap (fun f => (fL m (lvS sd d n (stp b sd f d) f)).map ((f, d) :: ·)) := by
        rw [lvS]
        by_cases q2 : mvZ b sd d h = []
        · rw [if_pos q2, q2]
          rfl
        · rw [if_neg q2, fL_fm (g := fun f => lvS sd d n (stp b sd f d) f)]
      rw [e1, lvA, if_neg q, fL_fm (g := fun f => lvA sd d n (stp b sd f d)), fm_filter (g := fun f => fL m (lvA sd d n (stp b sd f d))), ← mvZ_le hh]
      have key : ∀ l : List Int, (∀ f ∈ l, f ∈ mvZ b sd d 25) → l.flatMap (fun f => (fL m (lvS sd d n (stp b sd f d) f)).map ((f, d) :: ·)) = l.flatMap (fun f => ((fL m (lvA sd d n (stp b sd f d))).filter (ninB f)).map ((f, d) :: ·)) := by
        intro l
        induction l with
        | nil => intro _; rfl
        | cons f t ih =>
          intro hl
          have hf := mem_mvZw.mp (hl f List.mem_cons_self)
          rw [List.flatMap_cons, List.flatMap_cons, ih (fun x hx => hl x (List.mem_cons_of_mem _ hx)), lvS_lvA n m (stp b sd f d) f hf.1.2 (fun r hr hrl => by
            have h9 := hm ((f, d) :: r) ⟨hf.2, rfl, hr⟩ (by rw [List.length_cons]; omega)
            rw [List.length_cons] at h9
            omega)]
      refine key _ (fun f hf => ?_)
      have h9 := mem_mvZw.mp hf
      exact mem_mvZw.mpr ⟨⟨h9.1.1, by omega⟩, h9.2⟩
/-- rows in the order of the search: greater points ahead -/
def lx : Row → Row → Prop
  | q :: t, q' :: t' => q'.1 < q.1 ∨ (q.1 = q'.1 ∧ lx t t')
  | _, _ => False
theorem lx_irr : ∀ r : Row, ¬ lx r r
  | [] => fun h => h
  | q :: t => fun h => by
    rcases h with h | h
    · omega
    · exact lx_irr t h.2
theorem lx_asy : ∀ {r x : Row}, lx r x → ¬ lx x r
  | [], _, h => absurd h (by intro h; exact h)
  | q :: t, [], h => absurd h (by intro h; exact h)
  | q :: t, q' :: t', h => fun h2 => by
    rcases h with h | h
    · rcases h2 with h2 | h2
      · omega
      · have := h2.1; omega
    · rcases h2 with h2 | h2
      · have := h.1; omega
      · exact lx_asy h.2 h2.2
theorem pw_fm {g : Int → List Row} {d : Int} : ∀ {l : List Int}, l.Pairwise (fun a c => c < a) → (∀ x ∈ l, (g x).Pairwise lx) → (l.flatMap (fun f => (g f).map ((f, d) :: ·))).Pairwise lx
  | [], _, _ => List.Pairwise.nil
  | f :: t, hl, hg => by
    rw [List.pairwise_cons] at hl
    rw [List.flatMap_cons, List.pairwise_append]
    refine ⟨?_, pw_fm hl.2 (fun x hx => hg x (List.mem_cons_of_mem _ hx)), fun a ha c hc => ?_⟩
    · rw [List.pairwise_map]
      exact (hg f List.mem_cons_self).imp (fun h => Or.inr ⟨rfl, h⟩)
    · obtain ⟨y, -, rfl⟩ := List.mem_map.mp ha
      obtain ⟨f2, hf2, hc2⟩ := List.mem_flatMap.mp hc
      obtain ⟨z, -, rfl⟩ := List.mem_map.mp hc2
      exact Or.inl (hl.1 f2 hf2)
theorem lvA_pw {sd d : Int} : ∀ (n M : Nat) (b : Int → Int), (fL M (lvA sd d n b)).Pairwise lx := by
  have h1 : ∀ M : Nat, (fL M [[]]).Pairwise lx := by
    intro M
    cases M with
    | zero => exact List.pairwise_singleton _ _
    | succ M => exact List.Pairwise.nil
  intro n
  induction n with
  | zero => intro M b; exact h1 M
  | succ n ih =>
    intro M b
    rw [lvA]
    split
    · exact h1 M
    · cases M with
      | zero =>
        have e : fL 0 ((mvZ b sd d 25).flatMap (fun f => (lvA sd d n (stp b sd f d)).map ((f, d) :: ·))) = [] := by
          unfold fL
          rw [List.filter_eq_nil_iff]
          intro r hr
          obtain ⟨f, -, h9⟩ := List.mem_flatMap.mp hr
          obtain ⟨y, -, rfl⟩ := List.mem_map.mp h9
          rw [decide_eq_true_iff, List.length_cons]
          omega
        rw [e]
        exact List.Pairwise.nil
      | succ m =>
        rw [fL_fm (g := fun f => lvA sd d n (stp b sd f d))]
        exact pw_fm (g := fun f => fL m (lvA sd d n (stp b sd f d))) (mvZ_pw b sd d 25) (fun x _ => ih m _)
theorem lvA_in {sd d : Int} : ∀ {n M : Nat} {b : Int → Int} {r : Row}, (∀ r, lgD sd d b r → r.length ≤ n → r.length ≤ M) → lgD sd d b r → r.length = M → M ≤ n → r ∈ lvA sd d n b
  | 0, M, b, r, _, _, h1, h2 => by
    have e : r = [] := List.eq_nil_of_length_eq_zero (by omega)
    subst e
    rw [lvA]
    exact List.mem_singleton.mpr rfl
  | n + 1, M, b, [], hm, _, h1, _ => by
    have q : mvZ b sd d 25 = [] := by
      cases e0 : mvZ b sd d 25 with
      | nil => rfl
      | cons f0 t0 =>
        have hf0 : f0 ∈ mvZ b sd d 25 := by rw [e0]; exact List.mem_cons_self
        have h3 := hm [(f0, d)] ⟨(mem_mvZw.mp hf0).2, rfl, trivial⟩ (by simp)
        simp at h3 h1
        omega
    rw [lvA, if_pos q]
    exact List.mem_singleton.mpr rfl
  | n + 1, M, b, q :: t, hm, h, h1, h2 => by
    obtain ⟨g1, g2, g3⟩ := h
    have hf : q.1 ∈ mvZ b sd d 25 := mem_mvZw.mpr ⟨⟨g1.1, g1.2.1⟩, g1⟩
    rw [List.length_cons] at h1
    have h4 := lvA_in (n := n) (M := M - 1) (b := stp b sd q.1 d) (r := t) (fun r hr hrl => by
      have h9 := hm ((q.1, d) :: r) ⟨g1, rfl, hr⟩ (by rw [List.length_cons]; omega)
      rw [List.length_cons] at h9
      omega) g3 (by omega) (by omega)
    rw [lvA, if_neg (List.ne_nil_of_mem hf), List.mem_flatMap]
    exact ⟨q.1, hf, List.mem_map.mpr ⟨t, h4, by rw [show q = (q.1, d) by rw [← g2]]⟩⟩
/-! two moves change places: the one from the greater point goes first -/
theorem far_le {b : Int → Int} {sd : Int} : ∀ {n : Nat} {x : Int}, farN b sd n ≤ x ↔ (∀ p : Int, 1 ≤ p → p ≤ n → x < p → b (26 * sd + p) ≤ 0) ∧ 0 ≤ x
  | 0, x => by
    rw [farN]
    exact ⟨fun h => ⟨fun p h1 h2 _ => by omega, h⟩, fun h => h.2⟩
  | n + 1, x => by
    rw [farN]
    have ih := far_le (b := b) (sd := sd) (n := n) (x := x)
    split
    · next hp =>
      constructor
      · intro h
        exact ⟨fun p h1 h2 h3 => by omega, by omega⟩
      · intro h
        rcases Int.lt_or_le x ((n + 1 : Nat) : Int) with q | q
        · have := h.1 _ (by omega) (Int.le_refl _) q
          omega
        · exact q
    · next hp =>
      rw [ih]
      constructor
      · intro h
        refine ⟨fun p h1 h2 h3 => ?_, h.2⟩
        by_cases e : p = ((n + 1 : Nat) : Int)
        · subst e; omega
        · exact h.1 p h1 (by omega) h3
      · intro h
        exact ⟨fun p h1 h2 h3 => h.1 p h1 (by omega) h3, h.2⟩
theorem far_lt {b : Int → Int} {sd x : Int} : far b sd ≤ x ↔ (∀ p : Int, 1 ≤ p → p ≤ 25 → x < p → b (26 * sd + p) ≤ 0) ∧ 0 ≤ x := far_le (n := 25)
theorem far_ge {b : Int → Int} {sd p : Int} (h1 : 1 ≤ p) (h2 : p ≤ 25) (hb : 0 < b (26 * sd + p)) : p ≤ far b sd := by
  rcases Int.lt_or_le (far b sd) p with q | q
  · have := ((far_lt (b := b) (sd := sd) (x := far b sd)).mp (Int.le_refl _)).1 p h1 h2 q
    omega
  · exact q
section SWAP
variable {b : Int → Int} {sd d x y n0 : Int}
theorem swap_can (hv : VB n0 b) (hs : 0 ≤ sd ∧ sd ≤ 1) (hd : 1 ≤ d ∧ d ≤ 6) (hxy : x < y) (h1 : canP b sd x d) (h2 : canP (stp b sd x d) sd y d) : canP b sd y d ∧ canP (stp b sd y d) sd x d := by
  have r1 := h1.rg
  have r2 := h2.rg
  have tx := toP_rg (fr := x) (d := d) (by omega)
  have ty := toP_rg (fr := y) (d := d) (by omega)
  have ex : toP x d < x := by unfold toP; split <;> omega
  have ey : toP y d < y := by unfold toP; split <;> omega
  have oy := stp_own (b := b) (p := y) hs r1 hd.1 (by omega)
  rw [if_neg (by omega), if_neg (by omega)] at oy
  have ox := stp_own (b := b) (fr := y) (p := x) hs r2 hd.1 (by omega)
  have my : b (26 * sd + y) ≠ 0 := by have := h2.2.2.1; omega
  have py := hv.1 (26 * sd + y)
  have px := hv.1 (26 * sd + x)
  have hx0 := h1.2.2.1
  have hbar : b (26 * sd + 25) ≤ 0 := by
    rcases h1.2.2.2.1 with h9 | h9
    · omega
    · exact h9
  have hno : ¬ x ≤ d ∨ x = d := by
    rcases h1.2.2.2.2 with h9 | h9
    · left; omega
    · rcases h9.2.2 with h8 | h8
      · right; exact h8
      · have := far_ge (sd := sd) (b := b) (p := y) (by omega) (by omega) (by omega)
        omega
  have hyd : d < y := by
    rcases hno with h9 | h9 <;> omega
  have hty : b (26 * (1 - sd) + (25 - (y - d))) < 2 := by
    have h9 := h2.2.2.2.2
    have o1 := stp_opp (b := b) (fr := x) (d := d) (q := 25 - (y - d)) hs r1 hd.1 (by omega)
    split at o1
    · rw [if_neg (by omega), if_neg (by omega)] at o1
      omega
    · omega
  refine ⟨⟨r2.1, r2.2, my, ?_, Or.inl ⟨hyd, hty⟩⟩, ⟨r1.1, r1.2, ?_, ?_, ?_⟩⟩
  · right; exact hbar
  · rw [ox, if_neg (by omega)]
    split <;> omega
  · right
    have o25 := stp_own (b := b) (fr := y) (p := 25) hs r2 hd.1 (by omega)
    rw [if_neg (show ¬ (25 : Int) = toP y d by omega)] at o25
    split at o25 <;> omega
  · rcases h1.2.2.2.2 with h9 | h9
    · left
      refine ⟨h9.1, ?_⟩
      have o1 := stp_opp (b := b) (fr := y) (d := d) (q := 25 - (x - d)) hs r2 hd.1 (by omega)
      split at o1
      · rw [if_neg (by omega), if_neg (by omega)] at o1
        omega
      · omega
    · right
      refine ⟨h9.1, ?_, ?_⟩
      · have h8 := (far_lt (b := b) (sd := sd) (x := 6)).mp h9.2.1
        refine (far_lt (x := 6)).mpr ⟨fun p p1 p2 p3 => ?_, by omega⟩
        have h7 := h8.1 p p1 p2 p3
        have o1 := stp_own (b := b) (fr := y) (p := p) hs r2 hd.1 (by omega)
        have hy6 : y ≤ 6 := by
          have := far_ge (sd := sd) (b := b) (p := y) (by omega) (by omega) (by omega)
          omega
        rw [if_neg (show ¬ p = toP y d by omega)] at o1
        split at o1 <;> omega
      · left
        rcases hno with h8 | h8 <;> omega
theorem swap_pos (hs : 0 ≤ sd ∧ sd ≤ 1) (hd : 1 ≤ d ∧ d ≤ 6) (hx : 1 ≤ x ∧ x ≤ 25) (hy : 1 ≤ y ∧ y ≤ 25) (hxy : x ≠ y) : stp (stp b sd y d) sd x d = stp (stp b sd x d) sd y d := by
  funext k
  rcases pl_cs hs k with ⟨p, hp, rfl⟩ | ⟨q, hq, rfl⟩ | hk
  · rw [stp_own hs hx hd.1 hp, stp_own hs hy hd.1 hp, stp_own hs hy hd.1 hp, stp_own hs hx hd.1 hp]
    omega
  · have cx : d < x → stp b sd y d (26 * (1 - sd) + (25 - (x - d))) = b (26 * (1 - sd) + (25 - (x - d))) := fun h9 => by
      rw [stp_opp hs hy hd.1 (by omega)]
      split
      · rw [if_neg (by omega), if_neg (by omega)]; omega
      · omega
    have cy : d < y → stp b sd x d (26 * (1 - sd) + (25 - (y - d))) = b (26 * (1 - sd) + (25 - (y - d))) := fun h9 => by
      rw [stp_opp hs hx hd.1 (by omega)]
      split
      · rw [if_neg (by omega), if_neg (by omega)]; omega
      · omega
    rw [stp_opp hs hx hd.1 hq, stp_opp hs hy hd.1 hq, stp_opp hs hy hd.1 hq, stp_opp hs hx hd.1 hq]
    have e1 : (d < x ∧ stp b sd y d (26 * (1 - sd) + (25 - (x - d))) ≠ 0) ↔ (d < x ∧ b (26 * (1 - sd) + (25 - (x - d))) ≠ 0) := ⟨fun h => ⟨h.1, by rw [← cx h.1]; exact h.2⟩, fun h => ⟨h.1, by rw [cx h.1]; exact h.2⟩⟩
    have e2 : (d < y ∧ stp b sd x d (26 * (1 - sd) + (25 - (y - d))) ≠ 0) ↔ (d < y ∧ b (26 * (1 - sd) + (25 - (y - d))) ≠ 0) := ⟨fun h => ⟨h.1, by rw [← cy h.1]; exact h.2⟩, fun h => ⟨h.1, by rw [cy h.1]; exact h.2⟩⟩
    rw [ifc e1, ifc e2]
    omega
  · rw [stp_out hs hx hd.1 hk, stp_out hs hy hd.1 hk, stp_out hs hy hd.1 hk, stp_out hs hx hd.1 hk]
end SWAP
/-- a row that goes up somewhere isn't the first of its position -/
theorem asc_ex {sd d n0 : Int} (hs : 0 ≤ sd ∧ sd ≤ 1) (hd : 1 ≤ d ∧ d ≤ 6) : ∀ {r : Row} {b : Int → Int} {h : Int}, VB n0 b → lgD sd d b r → (∀ q ∈ r.head?, q.1 ≤ h) → ninB h r = false → ∃ y : Row, lgD sd d b y ∧ y.length = r.length ∧ lx y r ∧ poR sd b y = poR sd b r
  | [], b, h, _, _, _, h9 => by simp [ninB] at h9
  | [q], b, h, _, _, hh, h9 => by
    have h1 := hh q rfl
    rw [ninB, decide_eq_true h1] at h9
    simp [ninB] at h9
  | q :: q2 :: t, b, h, hv, hl, hh, h9 => by
    obtain ⟨g1, g2, g3⟩ := hl
    have h1 := hh q rfl
    rw [ninB, decide_eq_true h1, Bool.true_and] at h9
    by_cases c : q2.1 ≤ q.1
    · obtain ⟨y, y1, y2, y3, y4⟩ := asc_ex hs hd (r := q2 :: t) (b := stp b sd q.1 d) (h := q.1) (g1.VB hv hs hd.1) g3 (fun z hz => by cases hz; exact c) h9
      refine ⟨q :: y, ⟨g1, g2, y1⟩, by rw [List.length_cons, List.length_cons, y2], Or.inr ⟨rfl, y3⟩, ?_⟩
      show poR sd (stp b sd q.1 q.2) y = poR sd (stp b sd q.1 q.2) (q2 :: t)
      rw [g2]
      exact y4
    · obtain ⟨k1, k2, k3⟩ := g3
      have h2 := swap_can hv hs hd (by omega) g1 k1
      have h3 := swap_pos (b := b) hs hd (g1.rg) (k1.rg) (show q.1 ≠ q2.1 by omega)
      refine ⟨q2 :: q :: t, ⟨h2.1, k2, h2.2, g2, by rw [h3]; exact k3⟩, rfl, Or.inl (by omega), ?_⟩
      show poR sd (stp (stp b sd q2.1 q2.2) sd q.1 q.2) t = poR sd (stp (stp b sd q.1 q.2) sd q2.1 q2.2) t
      rw [g2, k2, h3]
/-- how often a row moves from a point; what that makes of the position -/
def cnF (p : Int) : Row → Int
  | [] => 0
  | q :: t => (if q.1 = p then 1 else 0) + cnF p t
theorem cnF_nn (p : Int) : ∀ r : Row, 0 ≤ cnF p r
  | [] => by rw [cnF]; omega
  | q :: t => by have := cnF_nn p t; rw [cnF]; split <;> omega
theorem cnF_pos {p : Int} : ∀ {r : Row}, 0 < cnF p r → ∃ q ∈ r, q.1 = p
  | [], h => by rw [cnF] at h; omega
  | q :: t, h => by
    rw [cnF] at h
    by_cases e : q.1 = p
    · exact ⟨q, List.mem_cons_self, e⟩
    · rw [if_neg e] at h
      obtain ⟨z, hz, hz2⟩ := cnF_pos (p := p) (r := t) (by omega)
      exact ⟨z, List.mem_cons_of_mem _ hz, hz2⟩
theorem ninB_le : ∀ {r : Row} {h : Int}, ninB h r = true → ∀ q ∈ r, q.1 ≤ h
  | [], h, _, q, hq => absurd hq List.not_mem_nil
  | q :: t, h, h1, z, hz => by
    rw [ninB, Bool.and_eq_true, decide_eq_true_iff] at h1
    rcases List.mem_cons.mp hz with e | e
    · subst e; exact h1.1
    · have := ninB_le h1.2 z e
      omega
theorem lgD_own {sd d : Int} (hs : 0 ≤ sd ∧ sd ≤ 1) (hd : 1 ≤ d ∧ d ≤ 6) {p : Int} (hp : 1 ≤ p ∧ p ≤ 25) : ∀ {r : Row} {b : Int → Int}, lgD sd d b r → poR sd b r (26 * sd + p) = b (26 * sd + p) - cnF p r + cnF (p + d) r
  | [], b, _ => by rw [poR, cnF, cnF]; omega
  | q :: t, b, h => by
    obtain ⟨h1, h2, h3⟩ := h
    have r1 := h1.rg
    show poR sd (stp b sd q.1 q.2) t (26 * sd + p) = _
    rw [h2, lgD_own hs hd hp h3, stp_own hs r1 hd.1 (by omega), cnF, cnF]
    have e : (p = toP q.1 d) ↔ (q.1 = p + d) := by unfold toP; split <;> omega
    rw [ifc e, ifc (show (p = q.1) ↔ (q.1 = p) from ⟨Eq.symm, Eq.symm⟩)]
    omega
theorem lgD_fr {sd d : Int} : ∀ {r : Row} {b : Int → Int}, lgD sd d b r → ∀ q ∈ r, 1 ≤ q.1 ∧ q.1 ≤ 25
  | [], b, _, q, hq => absurd hq List.not_mem_nil
  | q :: t, b, h, z, hz => by
    rcases List.mem_cons.mp hz with e | e
    · subst e; exact h.1.rg
    · exact lgD_fr h.2.2 z e
theorem cnF_hi {p : Int} {r : Row} (h : ∀ q ∈ r, 1 ≤ q.1 ∧ q.1 ≤ 25) (hp : 25 < p ∨ p < 1) : cnF p r = 0 := by
  have h1 := cnF_nn p r
  rcases Int.lt_or_le 0 (cnF p r) with q | q
  · obtain ⟨z, hz, hz2⟩ := cnF_pos q
    have := h z hz
    omega
  · omega
theorem cnF_eq {sd d : Int} (hs : 0 ≤ sd ∧ sd ≤ 1) (hd : 1 ≤ d ∧ d ≤ 6) {r x : Row} {b : Int → Int} (h1 : lgD sd d b r) (h2 : lgD sd d b x) (e : ∀ p : Int, 1 ≤ p → p ≤ 25 → poR sd b r (26 * sd + p) = poR sd b x (26 * sd + p)) : ∀ p : Int, cnF p r = cnF p x := by
  have key : ∀ (k : Nat) (p : Int), 26 - (k : Int) ≤ p → cnF p r = cnF p x := by
    intro k
    induction k with
    | zero => intro p hp; rw [cnF_hi (lgD_fr h1) (by omega), cnF_hi (lgD_fr h2) (by omega)]
    | succ k ih =>
      intro p hp
      by_cases q : 26 - (k : Int) ≤ p
      · exact ih p q
      · by_cases q2 : 1 ≤ p ∧ p ≤ 25
        · have h3 := e p q2.1 q2.2
          rw [lgD_own hs hd q2 h1, lgD_own hs hd q2 h2, ih (p + d) (by omega)] at h3
          omega
        · rw [cnF_hi (lgD_fr h1) (by omega), cnF_hi (lgD_fr h2) (by omega)]
  intro p
  by_cases q : 1 ≤ p
  · exact key 25 p (by omega)
  · rw [cnF_hi (lgD_fr h1) (by omega), cnF_hi (lgD_fr h2) (by omega)]
theorem lx_no : ∀ {x y : Row} {h : Int}, ninB h x = true → (∀ p : Int, cnF p y = cnF p x) → ¬ lx y x
  | [], y, h, _, _ => by
    cases y with
    | nil => exact fun h => h
    | cons q t => exact fun h => h
  | q :: t, [], h, _, _ => fun h => h
  | q :: t, q' :: t', h, hn, hc => fun hl => by
    have hn2 := hn
    rw [ninB, Bool.and_eq_true, decide_eq_true_iff] at hn2
    rcases hl with hl | hl
    · have h1 := hc q'.1
      rw [cnF, if_pos rfl, cnF, if_neg (by omega)] at h1
      have h2 := cnF_nn q'.1 t'
      obtain ⟨z, hz, hz2⟩ := cnF_pos (p := q'.1) (r := t) (by omega)
      have := ninB_le hn2.2 z hz
      omega
    · refine lx_no hn2.2 (fun p => ?_) hl.2
      have h1 := hc p
      rw [cnF, cnF, hl.1] at h1
      omega
/-! the first of each position -/
def ddS (E : Row → Row → Bool) (L : List Row) (r : Row) : List Row := if (L.any fun x => E x r) = true then L else L ++ [r]
theorem dd_all {E : Row → Row → Bool} {N : Row → Bool} (hE1 : ∀ x y z, E x y = true → E y z = true → E x z = true) : ∀ (Q P : List Row), (P ++ Q).Pairwise lx →
    (∀ x ∈ P ++ Q, N x = false → ∃ y ∈ P ++ Q, lx y x ∧ E y x = true) → (∀ x ∈ P ++ Q, ∀ y ∈ P ++ Q, N x = true → E y x = true → ¬ lx y x) → (∀ x ∈ P ++ Q, E x x = true) → (∀ y ∈ P, ∃ z ∈ P.filter N, E z y = true) → Q.foldl (ddS E) (P.filter N) = (P ++ Q).filter N ∧ (∀ y ∈ P ++ Q, ∃ z ∈ (P ++ Q).filter N, E z y = true)
  | [], P, _, _, _, _, hI => by
    rw [List.append_nil]
    exact ⟨rfl, hI⟩
  | x :: Q, P, hp, h1, h2, h3, hI => by
    have hx : x ∈ P ++ x :: Q := List.mem_append_right _ List.mem_cons_self
    have hap : P ++ x :: Q = (P ++ [x]) ++ Q := by rw [List.append_assoc]; rfl
    have hPx : ∀ y ∈ P, lx y x := fun y hy => (List.pairwise_append.mp hp).2.2 y hy x List.mem_cons_self
    have hI2 : ∀ y ∈ P ++ [x], ∃ z ∈ (P ++ [x]).filter N, E z y = true := by
      intro y hy
      rcases List.mem_append.mp hy with hy | hy
      · obtain ⟨z, hz, hz2⟩ := hI y hy
        exact ⟨z, by rw [List.filter_append]; exact List.mem_append_left _ hz, hz2⟩
      · rw [List.mem_singleton] at hy
        subst hy
        cases q : N y with
        | true => exact ⟨y, List.mem_filter.mpr ⟨List.mem_append_right _ (List.mem_singleton.mpr rfl), q⟩, h3 y hx⟩
        | false =>
          obtain ⟨w, hw, hw1, hw2⟩ := h1 y hx q
          have hwP : w ∈ P := by
            rcases List.mem_append.mp hw with hw | hw
            · exact hw
            · rcases List.mem_cons.mp hw with hw | hw
              · subst hw; exact absurd hw1 (lx_irr _)
              · have h9 := (List.pairwise_cons.mp (List.pairwise_append.mp hp).2.1).1 w hw
                exact absurd hw1 (lx_asy h9)
          obtain ⟨z, hz, hz2⟩ := hI w hwP
          exact ⟨z, by rw [List.filter_append]; exact List.mem_append_left _ hz, hE1 _ _ _ hz2 hw2⟩
    have hstep : ddS E (P.filter N) x = (P ++ [x]).filter N := by
      unfold ddS
      rw [List.filter_append]
      cases q : N x with
      | true =>
        rw [if_neg, List.filter_cons_of_pos q]
        · rfl
        · intro h9
          rw [List.any_eq_true] at h9
          obtain ⟨y, hy, hy2⟩ := h9
          have hy3 := (List.mem_filter.mp hy).1
          exact h2 x hx y (List.mem_append_left _ hy3) q hy2 (hPx y hy3)
      | false =>
        rw [if_pos, List.filter_cons_of_neg (by rw [q]; decide)]
        · show _ = _ ++ []
          rw [List.append_nil]
        · rw [List.any_eq_true]
          obtain ⟨w, hw, hw1, hw2⟩ := h1 x hx q
          have hwP : w ∈ P := by
            rcases List.mem_append.mp hw with hw | hw
            · exact hw
            · rcases List.mem_cons.mp hw with hw | hw
              · subst hw; exact absurd hw1 (lx_irr _)
              · have h9 := (List.pairwise_cons.mp (List.pairwise_append.mp hp).2.1).1 w hw
                exact absurd hw1 (lx_asy h9)
          obtain ⟨z, hz, hz2⟩ := hI w hwP
          exact ⟨z, hz, hE1 _ _ _ hz2 hw2⟩
    rw [hap] at hp h1 h2 h3
    have h4 := dd_all hE1 Q (P ++ [x]) hp h1 h2 h3 hI2
    rw [List.foldl_cons, hstep, hap]
    exact h4
/-! what the first search finds: how many moves there can be -/
theorem mS_ge : ∀ (R : List Row) (s : Int × Int), s.1 ≤ (R.foldl mS s).1 ∧ (∀ r ∈ R, (r.length : Int) ≤ (R.foldl mS s).1) ∧ ((R.foldl mS s).1 = s.1 ∨ ∃ r ∈ R, (r.length : Int) = (R.foldl mS s).1)
  | [], s => ⟨Int.le_refl _, fun r hr => absurd hr List.not_mem_nil, Or.inl rfl⟩
  | r :: t, s => by
    have h1 := mS_ge t (mS s r)
    have h2 : s.1 ≤ (mS s r).1 ∧ (r.length : Int) ≤ (mS s r).1 ∧ ((mS s r).1 = s.1 ∨ (mS s r).1 = r.length) := by
      unfold mS mSi
      split
      · dsimp only; omega
      · split <;> (try dsimp only) <;> omega
    rw [List.foldl_cons]
    refine ⟨by omega, fun x hx => ?_, ?_⟩
    · rcases List.mem_cons.mp hx with e | e
      · subst e; omega
      · exact h1.2.1 x e
    · rcases h1.2.2 with h3 | ⟨x, hx, h3⟩
      · rcases h2.2.2 with h4 | h4
        · left; omega
        · right; exact ⟨r, List.mem_cons_self, by omega⟩
      · right; exact ⟨x, List.mem_cons_of_mem _ hx, h3⟩
theorem pS_flt (sd : Int) (b0 : Int → Int) (m u on ot : Int) : ∀ (R L : List Row), R.foldl (pS sd b0 m u on ot) L = (R.filter (elB m u on ot)).foldl (ddS (fun x r => eq52 (poR sd b0 x) (poR sd b0 r))) L
  | [], L => rfl
  | r :: t, L => by
    rw [List.foldl_cons, pS_flt sd b0 m u on ot t]
    cases q : elB m u on ot r with
    | true =>
      rw [List.filter_cons_of_pos q, List.foldl_cons]
      congr 1
      unfold pS ddS nwB
      rw [if_pos q]
    | false =>
      rw [List.filter_cons_of_neg (by rw [q]; decide)]
      congr 1
      unfold pS
      rw [if_neg (by rw [q]; decide)]
theorem adLs_fl : ∀ (rs : List Row) (m : Nat) (L : List Row), (∃ T : Nat, (adLs ((m : Int), L) rs).1 = T ∧ m ≤ T ∧ (∀ r ∈ rs, r.length ≤ T) ∧ (T = m ∨ ∃ r ∈ rs, r.length = T) ∧ (adLs ((m : Int), L) rs).2 = (if T = m then L else []) ++ fL T rs)
  | [], m, L => ⟨m, rfl, Nat.le_refl _, fun r hr => absurd hr List.not_mem_nil, Or.inl rfl, by rw [if_pos rfl]; show L = L ++ []; rw [List.append_nil]⟩
  | r :: t, m, L => by
    show ∃ T : Nat, (adLs (adL ((m : Int), L) r) t).1 = T ∧ _
    by_cases q1 : m < r.length
    · have e : adL ((m : Int), L) r = ((r.length : Int), [r]) := if_pos (by show (m : Int) < _; omega)
      obtain ⟨T, a1, a2, a3, a4, a5⟩ := adLs_fl t r.length [r]
      show ∃ T : Nat, (adLs (adL ((m : Int), L) r) t).1 = T ∧ m ≤ T ∧ (∀ x ∈ r :: t, x.length ≤ T) ∧ (T = m ∨ ∃ x ∈ r :: t, x.length = T) ∧ (adLs (adL ((m : Int), L) r) t).2 = _
      rw [e]
      refine ⟨T, a1, by omega, fun x hx => ?_, ?_, ?_⟩
      · rcases List.mem_cons.mp hx with h | h
        · subst h; exact a2
        · exact a3 x h
      · rcases a4 with h | ⟨x, h1, h2⟩
        · exact Or.inr ⟨r, List.mem_cons_self, h.symm⟩
        · exact Or.inr ⟨x, List.mem_cons_of_mem _ h1, h2⟩
      · rw [a5, if_neg (show ¬ T = m by omega), List.nil_append]
        unfold fL
        by_cases q : T = r.length
        · rw [if_pos q, List.filter_cons_of_pos (by rw [decide_eq_true_iff]; exact q.symm)]
          rfl
        · rw [if_neg q, List.filter_cons_of_neg (by rw [decide_eq_true_iff]; exact fun h => q h.symm)]
          rfl
    · by_cases q2 : r.length = m
      · have e : adL ((m : Int), L) r = ((m : Int), L ++ [r]) := by
          unfold adL
          rw [if_neg (by show ¬ (m : Int) < _; omega), if_pos (by show (r.length : Int) = m; omega)]
        obtain ⟨T, a1, a2, a3, a4, a5⟩ := adLs_fl t m (L ++ [r])
        show ∃ T : Nat, (adLs (adL ((m : Int), L) r) t).1 = T ∧ m ≤ T ∧ (∀ x ∈ r :: t, x.length ≤ T) ∧ (T = m ∨ ∃ x ∈ r :: t, x.length = T) ∧ (adLs (adL ((m : Int), L) r) t).2 = _
        rw [e]
        refine ⟨T, a1, a2, fun x hx => ?_, ?_, ?_⟩
        · rcases List.mem_cons.mp hx with h | h
          · subst h; omega
          · exact a3 x h
        · rcases a4 with h | ⟨x, h1, h2⟩
          · exact Or.inl h
          · exact Or.inr ⟨x, List.mem_cons_of_mem _ h1, h2⟩
        · rw [a5]
          unfold fL
          by_cases q : T = m
          · rw [if_pos q, if_pos q, List.filter_cons_of_pos (by rw [decide_eq_true_iff]; omega), List.append_assoc]
            rfl
          · rw [if_neg q, if_neg q, List.filter_cons_of_neg (by rw [decide_eq_true_iff]; omega)]
      · have e : adL ((m : Int), L) r = ((m : Int), L) := by
          unfold adL
          rw [if_neg (by show ¬ (m : Int) < _; omega), if_neg (by show ¬ (r.length : Int) = m; omega)]
        obtain ⟨T, a1, a2, a3, a4, a5⟩ := adLs_fl t m L
        show ∃ T : Nat, (adLs (adL ((m : Int), L) r) t).1 = T ∧ m ≤ T ∧ (∀ x ∈ r :: t, x.length ≤ T) ∧ (T = m ∨ ∃ x ∈ r :: t, x.length = T) ∧ (adLs (adL ((m : Int), L) r) t).2 = _
        rw [e]
        refine ⟨T, a1, a2, fun x hx => ?_, ?_, ?_⟩
        · rcases List.mem_cons.mp hx with h | h
          · subst h; omega
          · exact a3 x h
        · rcases a4 with h | ⟨x, h1, h2⟩
          · exact Or.inl h
          · exact Or.inr ⟨x, List.mem_cons_of_mem _ h1, h2⟩
        · rw [a5]
          unfold fL
          rw [List.filter_cons_of_neg (by rw [decide_eq_true_iff]; omega)]
theorem eq52_r (b : Int → Int) : eq52 b b = true := eq52_iff.mpr (fun _ _ _ => rfl)
theorem eq52_t {a b c : Int → Int} (h : eq52 a b = true) (h2 : eq52 b c = true) : eq52 a c = true := eq52_iff.mpr (fun k h0 h1 => (eq52_iff.mp h k h0 h1).trans (eq52_iff.mp h2 k h0 h1))
/-- dice alike: what the reference keeps is the class's list -/
theorem plc_alike {n0 sd d : Int} {b : Int → Int} (hv : VB n0 b) (hs : 0 ≤ sd ∧ sd ≤ 1) (hd : 1 ≤ d ∧ d ≤ 6) {m u : Int} (hm : (m, u) = (lvA sd d 4 b).foldl mS (0, 0)) : (lvA sd d 4 b).foldl (pS sd b m u d d) [] = (plc sd b d d).2 ∧ (plc sd b d d).1 = m ∧ (∀ r ∈ (plc sd b d d).2, lgR sd b r ∧ (r.length : Int) = m) := by
  have h1 := mS_ge (lvA sd d 4 b) (0, 0)
  rw [← hm] at h1
  obtain ⟨h0, hall, hex⟩ := h1
  dsimp only at h0 hall hex
  obtain ⟨M, rfl⟩ : ∃ M : Nat, m = M := ⟨m.toNat, by omega⟩
  have hno : ∀ r, lgD sd d b r → r.length ≤ 4 → r.length ≤ M := fun r hr hl => by
    obtain ⟨x, hx, hxl⟩ := lvA_up hr hl
    have := hall x hx
    omega
  have hM4 : M ≤ 4 := by
    rcases hex with h | ⟨r, hr, h⟩
    · omega
    · have := (lvA_mem hr).2; omega
  have hflt : (lvA sd d 4 b).filter (elB (M : Int) u d d) = fL M (lvA sd d 4 b) := by
    unfold fL
    refine List.filter_congr (fun r hr => ?_)
    have := hall r hr
    unfold elB
    by_cases q : r.length = M
    · rw [decide_eq_true q, decide_eq_true_iff]
      exact ⟨by omega, fun h => h.2.1 rfl⟩
    · rw [decide_eq_false q, decide_eq_false_iff_not]
      intro h
      have := h.1
      omega
  have hmem : ∀ r ∈ fL M (lvA sd d 4 b), lgD sd d b r ∧ r.length = M := fun r hr => by
    have h1 := mem_fL.mp hr
    exact ⟨(lvA_mem h1.1).1, h1.2⟩
  have hdd := dd_all (E := fun x r => eq52 (poR sd b x) (poR sd b r)) (N := ninB 25) (fun x y z h h2 => eq52_t h h2) (fL M (lvA sd d 4 b)) [] (lvA_pw 4 M b)
    (fun x hx hN => by
      have h1 := hmem x hx
      obtain ⟨y, y1, y2, y3, y4⟩ := asc_ex hs hd hv h1.1 (fun q hq => by
        cases x with
        | nil => cases hq
        | cons q' t => cases hq; exact h1.1.1.2.1) hN
      refine ⟨y, mem_fL.mpr ⟨lvA_in hno y1 (by omega) hM4, by omega⟩, y3, ?_⟩
      show eq52 (poR sd b y) (poR sd b x) = true
      rw [y4]
      exact eq52_r _)
    (fun x hx y hy hN hE => by
      have h1 := hmem x hx
      have h2 := hmem y hy
      refine lx_no hN (cnF_eq hs hd h2.1 h1.1 (fun p p1 p2 => ?_))
      exact eq52_iff.mp hE (26 * sd + p) (by omega) (by omega))
    (fun x _ => eq52_r _) (fun y hy => absurd hy List.not_mem_nil)
  rw [List.nil_append] at hdd
  have hS := lvS_lvA 4 M b 25 (Int.le_refl _) hno
  obtain ⟨T, a1, a2, a3, a4, a5⟩ := adLs_fl (lvS sd d 4 b 25) 0 []
  have hTM : T = M := by
    have l1 : T ≤ M := by
      rcases a4 with h | ⟨r, hr, h⟩
      · omega
      · have h2 := lvS_mem hr
        have := hno r h2.1 h2.2
        omega
    have l2 : M ≤ T := by
      rcases hex with h | ⟨r, hr, h⟩
      · omega
      · obtain ⟨z, hz, -⟩ := hdd.2 r (mem_fL.mpr ⟨hr, by omega⟩)
        rw [← hS] at hz
        have h3 := mem_fL.mp hz
        have := a3 z h3.1
        omega
    omega
  subst hTM
  rw [plc_a rfl]
  have e2 : (adLs (((0 : Nat) : Int), []) (lvS sd d 4 b 25)).2 = fL T (lvS sd d 4 b 25) := by
    rw [a5]
    split <;> rfl
  refine ⟨?_, a1, fun r hr => ?_⟩
  · rw [pS_flt, hflt]
    show (fL T (lvA sd d 4 b)).foldl _ (([] : List Row).filter (ninB 25)) = _
    rw [hdd.1, ← hS]
    exact e2.symm
  · have hr2 : r ∈ fL T (lvS sd d 4 b 25) := by rw [← e2]; exact hr
    have h3 := mem_fL.mp hr2
    exact ⟨lgD_lg hd (lvS_mem h3.1).1, by omega⟩
