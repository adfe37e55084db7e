/-! WORLDS: one group of names for what never changes in a run: the numbers of the kinds, the kinds of rows, the four layouts' addresses -/
section WBASE
abbrev wG : Type := va_G × (ClassId × ClassId × ClassId) × (Nat × Nat × Nat × Nat)
def wTy (G : wG) : List (ClassId × FieldType) := [(G.2.1.1, .int), (G.2.1.2.1, .long), (G.2.1.2.2, .double)]
def wK (G : wG) (U : State) : Prop := va_K G.1 vwCl (wTy G) U
/-- the texts, the calls of mates, the layouts: by their entries -/
def wStr : List (String × Nat × String) := [(RX9, 108, "no such variant or length"), (RX9, 119, "a game is on, or the players play for money"), (RX9, 137, "no game can begin"), (RX9, 158, "no game is on"), (RX9, 166, "no such die"), (RX9, 225, "this move cannot be made"), (RX9, 240, "no play leads there"), (RX9, 244, "no such point"), (RX9, 253, "this side cannot double"), (RX9, 264, "this double cannot be beavered"), (RX9, 289, "this is no such ending"), (RX9, 298, "no such rate"), (RX9, 303, "no such score"), (RX9, 309, "no such number of players"), (RX9, 311, "a game is on, or the match is not for money"), (RX9, 316, "no such player"), (RX9, 369, "no such side"), (RX9, 371, "not now"), (RX9, 373, "no such play"), (RX9, 375, "no such move"), (RX9, 385, "no such turn")]
def wNest : List (String × Nat × MethodName × String) := [(RX9, 9, yX4_init, RX9), (RX9, 18, yX7_init, RX9), (RX9, 25, yX3_init, RX9), (RX9, 32, yX8_init, RX9), (RX9, 39, yX6_init, RX9), (RX9, 46, yX2_init, RX9), (RX5, 11, yX0_init, RX9), (RX9, 70, yX0_init, RX9), (RX3, 32, yX9_layoutOf, RX9), (RX0, 38, yX9_codeAt, RX9), (RX0, 41, yX9_fromOf, RX9), (RX0, 44, yX9_dieOf, RX9), (RX5, 84, yX9_codeOf, RX9), (RX5, 88, yX9_withCode, RX9)]
def lyB (k : Int) : Int := ([24, 2, 13, 5, 8, 3, 6, 5] : List Int).getD k.toNat 0
def lyN (k : Int) : Int := ([24, 2, 23, 2, 13, 4, 8, 3, 6, 4] : List Int).getD k.toNat 0
def lyH (k : Int) : Int := ([24, 1, 23, 1, 22, 1] : List Int).getD k.toNat 0
def lyZ (_ : Int) : Int := 0
def wLay (t n : Nat) (f : Int → Int) (nm : String) (A : Nat → Prop) (U : State) (H : Heap) : Prop := va_Z RX9 nm "[I" (.ref t) A U H ∧ va_T .int t n (fun j => .int (aI f j)) A U H
/-- words of the throws that aren't kept by themselves -/
def wDcl : List MethodName := [Bundle.initS "java/lang/RuntimeException", Bundle.initS "java/lang/Exception", Bundle.initS Bundle.tN]
def eIA : String := "java/lang/IllegalArgumentException"
def eIS : String := "java/lang/IllegalStateException"
def eIO : String := "java/lang/IndexOutOfBoundsException"
def eUO : String := "java/lang/UnsupportedOperationException"
def eNS : String := "java/util/NoSuchElementException"
def wCst : List String := [eIA, eIS, eIO, eUO]
def wNcs : List (String × String) := [(eIS, eIA), (eIO, eIS), (eIO, eIA), (eUO, eIS), (eIA, eIS), (eIS, eIO), (eIS, eUO)]
/-- what is given of the start and stays: texts, mates, statics -/
def wBd (G : wG) (A : Nat → Prop) (U : State) (H : Heap) : Prop :=
  (∀ q ∈ wStr, ∃ a, vk_R q.1 q.2.1 q.2.2 a U) ∧ (∀ q ∈ wNest, va_Nw (.methodLinkNest q.1 q.2.1 q.2.2.1 q.2.2.2) U) ∧ vx_Zq Bundle.tN "UNASSIGNED_STACK" Bundle.steD A U H ∧ vx_Zq Bundle.tN "SUPPRESSED_SENTINEL" Bundle.listD A U H ∧
  wLay G.2.2.1 8 lyB "LAYOUT_B" A U H ∧ wLay G.2.2.2.1 10 lyN "LAYOUT_N" A U H ∧ wLay G.2.2.2.2.1 6 lyH "LAYOUT_H" A U H ∧ wLay G.2.2.2.2.2 0 lyZ "NO_LAYOUT" A U H ∧
  (∀ q ∈ wDcl, va_Nw (.declares q) U) ∧ (∀ q ∈ wCst, va_Nw (.castable q q) U) ∧ (∀ q ∈ wNcs, va_Nc q.1 q.2 U)
theorem wLay.go {t n : Nat} {f : Int → Int} {nm : String} {A B : Nat → Prop} {u U : State} {H H1 : Heap} (h : wLay t n f nm A u H) (hq : ∀ a : Nat, a < H.size → ¬ A a → H1[a]? = H[a]?) (hAB : ∀ q, B q → A q) (hvm : u.vm.Alike U.vm) : wLay t n f nm B U H1 :=
  ⟨((h.1.kept hq).narrow hAB).moved hvm, ((h.2.kept hq).narrow hAB).moved hvm⟩
theorem vx_Zq.go {C n d : String} {A B : Nat → Prop} {u U : State} {H H1 : Heap} (h : vx_Zq C n d A u H) (hq : ∀ a : Nat, a < H.size → ¬ A a → H1[a]? = H[a]?) (hAB : ∀ q, B q → A q) (hvm : u.vm.Alike U.vm) : vx_Zq C n d B U H1 :=
  ((h.kept hq).narrow hAB).moved hvm
theorem wDcl_moved {x : MethodName} {u U : State} (hvm : u.vm.Alike U.vm) (h : va_Nw (.declares x) u) : va_Nw (.declares x) U := va_tabs rfl (rfl : (u.setVm U.vm).vm = U.vm) (by rw [Cond.declares_setVm hvm]; exact h)
theorem wCst_moved {C T : String} {u U : State} (hvm : u.vm.Alike U.vm) (h : va_Nw (.castable C T) u) : va_Nw (.castable C T) U := va_tabs rfl (rfl : (u.setVm U.vm).vm = U.vm) (by rw [Cond.castable_setVm hvm]; exact h)
theorem wBd.call {G : wG} {A A1 : Nat → Prop} {s U : State} {H : Heap} {locs : List Loc} (h : wBd G A s s.heap) (hS : va_S A s.heap H locs) (hF : ∀ q, A1 q → A q) (hU : U.heap = H) (hW : s.WarmedH U.vm) : wBd G A1 U U.heap := by
  obtain ⟨h1, h2, h3, h4, h5, h6, h7, h8, h9, h10, h11⟩ := h
  rw [hU]
  exact ⟨fun q hq => ⟨_, vk_R.warm hW (h1 q hq).choose_spec⟩, fun q hq => va_Nw.warmM hW (h2 q hq), h3.go hS.2.1 hF hW.alike, h4.go hS.2.1 hF hW.alike, h5.go hS.2.1 hF hW.alike, h6.go hS.2.1 hF hW.alike, h7.go hS.2.1 hF hW.alike, h8.go hS.2.1 hF hW.alike, fun q hq => wDcl_moved hW.alike (h9 q hq), fun q hq => wCst_moved hW.alike (h10 q hq), fun q hq => (h11 q hq).moved hW.alike⟩
theorem wBd.blind {G : wG} {A : Nat → Prop} {U : State} {g : JFrame} {mk : MethodId} {a : Array Value} (h : wBd G A U U.heap) : wBd G A (U.calling g mk a) (U.calling g mk a).heap := by
  obtain ⟨h1, h2, h3, h4, h5, h6, h7, h8, h9, h10, h11⟩ := h
  have hq : ∀ x : Nat, x < U.heap.size → ¬ A x → (U.calling g mk a).heap[x]? = U.heap[x]? := fun _ _ _ => rfl
  have hv : U.vm.Alike (U.calling g mk a).vm := Vm.Alike.refl U.vm
  exact ⟨fun q hq => ⟨_, vk_R.same rfl (h1 q hq).choose_spec⟩, fun q hq => va_Nw.same rfl rfl (h2 q hq), h3.go hq (fun _ h => h) hv, h4.go hq (fun _ h => h) hv, h5.go hq (fun _ h => h) hv, h6.go hq (fun _ h => h) hv, h7.go hq (fun _ h => h) hv, h8.go hq (fun _ h => h) hv, fun q hq => wDcl_moved hv (h9 q hq), fun q hq => wCst_moved hv (h10 q hq), fun q hq => (h11 q hq).moved hv⟩
/-- a method's start, a world behind it -/
def wPc (G : wG) (ws : va_W) (sz : Nat) (av : List Value) : Array Value → State → Prop := va_Pc av (fun U => U.heap.size = sz ∧ va_P G.1 vwCl ws U.heap ∧ wK G U ∧ va_D (fun _ => True) ws ∧ wBd G (va_A ws sz) U U.heap)
def wW (G : wG) (A : Nat → Prop) (ws : va_W) (t : State) : Prop := va_P G.1 vwCl ws t.heap ∧ wK G t ∧ va_D A ws
theorem wPc_blind {G : wG} {ws : va_W} {sz : Nat} {av : List Value} : FrameBlind (wPc G ws sz av) := by
  intro a U g mk h
  obtain ⟨q0, q1, q2, q3, q4, q5⟩ := h
  exact ⟨q0, q1, q2, va_K.moved (u := U) (U := U.calling g mk a) (Vm.Alike.refl U.vm) q3, q4, q5.blind⟩
/-- the callee's cells put back at their places; what it made comes behind -/
def wput : va_W → List Nat → va_W → va_W
  | ws, [], qs => ws ++ qs
  | ws, _ :: _, [] => ws
  | ws, i :: is, q :: qs => wput (ws.set i q) is qs
theorem wput_at : ∀ (is : List Nat) (ws w1 : va_W) (k : Nat) (q : Nat × va_E), is.length ≤ w1.length → (∀ i ∈ is, i < ws.length) → (wput ws is w1)[k]? = some q → (k ∉ is ∧ ws[k]? = some q) ∨ (∃ t, w1[t]? = some q ∧ (is[t]? = some k ∨ (is.length ≤ t ∧ k = ws.length + (t - is.length))))
  | [], ws, w1, k, q, _, _, h => by
    rw [wput] at h
    by_cases hk : k < ws.length
    · rw [List.getElem?_append_left hk] at h
      exact Or.inl ⟨List.not_mem_nil, h⟩
    · rw [List.getElem?_append_right (by omega)] at h
      exact Or.inr ⟨_, h, Or.inr ⟨Nat.zero_le _, by simp only [List.length_nil]; omega⟩⟩
  | i :: is, ws, [], k, q, hl, _, h => by
    simp only [List.length_cons, List.length_nil] at hl
    omega
  | i :: is, ws, q0 :: qs, k, q, hl, hi, h => by
    rw [wput] at h
    have hi0 : i < ws.length := hi i List.mem_cons_self
    rcases wput_at is (ws.set i q0) qs k q (by simp only [List.length_cons] at hl; omega) (fun j hj => by rw [List.length_set]; exact hi j (List.mem_cons_of_mem _ hj)) h with ⟨h1, h2⟩ | ⟨t, h1, h2⟩
    · by_cases e : k = i
      · subst e
        rw [List.getElem?_set_self hi0] at h2
        exact Or.inr ⟨0, by simpa using h2, Or.inl (by simp)⟩
      · rw [List.getElem?_set_ne (by omega)] at h2
        exact Or.inl ⟨fun z => by rcases List.mem_cons.mp z with z | z; exact e z; exact h1 z, h2⟩
    · refine Or.inr ⟨t + 1, by simpa using h1, ?_⟩
      rcases h2 with h2 | ⟨h2, h3⟩
      · exact Or.inl (by simpa using h2)
      · rw [List.length_set] at h3
        exact Or.inr ⟨by simp only [List.length_cons]; omega, by simp only [List.length_cons]; omega⟩
theorem wjoin {A0 : Nat → Prop} {D : va_G} {cl : List vw_C} {ws wc w1 : va_W} {H H1 : Heap} (hP : va_P D cl ws H) (hD : va_D A0 ws) (is : List Nat) (hC : is.map (fun i => ws[i]?) = wc.map some) (hlen : is.length ≤ w1.length)
    (hk : ∀ q : Nat, q < H.size → ¬ va_A wc H.size q → H1[q]? = H[q]?) (hF : ∀ q, va_A wc H.size q → A0 q) (hP1 : va_P D cl w1 H1) (hD1 : va_D (va_A wc H.size) w1) : va_P D cl (wput ws is w1) H1 ∧ va_D A0 (wput ws is w1) := by
  have hcl : is.length = wc.length := by
    have := congrArg List.length hC
    simpa using this
  have hat : ∀ (t i : Nat), is[t]? = some i → ∃ q, ws[i]? = some q ∧ wc[t]? = some q := by
    intro t i hi
    have h1 : (is.map (fun i => ws[i]?))[t]? = (wc.map some)[t]? := by rw [hC]
    rw [List.getElem?_map, List.getElem?_map, hi] at h1
    cases hw : wc[t]? with
    | none => rw [hw] at h1; cases h1
    | some q => rw [hw] at h1; exact ⟨q, Option.some.inj h1, rfl⟩
  have hin : ∀ i ∈ is, i < ws.length := by
    intro i hi
    obtain ⟨t, ht⟩ := List.getElem?_of_mem hi
    obtain ⟨q, h1, -⟩ := hat t i ht
    exact (List.getElem?_eq_some_iff.mp h1).1
  have apart : ∀ (k : Nat) (q : Nat × va_E), k ∉ is → ws[k]? = some q → q.1 < H.size ∧ ¬ va_A wc H.size q.1 := by
    intro k q hk hq
    have hl := (hP k q hq).lt
    refine ⟨hl, fun h => ?_⟩
    rcases h with ⟨t, e, h⟩ | h
    · have ht : t < is.length := by rw [hcl]; exact (List.getElem?_eq_some_iff.mp h).1
      obtain ⟨q2, h1, h2⟩ := hat t _ (List.getElem?_eq_getElem ht)
      have e2 : q2 = (q.1, e) := Option.some.inj (h2.symm.trans h)
      subst e2
      exact hk (by rw [hD.1 k _ q _ hq h1 rfl]; exact List.getElem_mem ht)
    · omega
  refine ⟨fun k q hq => ?_, fun i j p q hp hq hpq => ?_, fun k q hq => ?_⟩
  · rcases wput_at is ws w1 k q hlen hin hq with ⟨h1, h2⟩ | ⟨t, h1, -⟩
    · obtain ⟨g1, g2⟩ := apart k q h1 h2
      exact (hP k q h2).kept (hk q.1 g1 g2)
    · exact hP1 t q h1
  · rcases wput_at is ws w1 i p hlen hin hp with ⟨h1, h2⟩ | ⟨t, h1, h2⟩
    · rcases wput_at is ws w1 j q hlen hin hq with ⟨g1, g2⟩ | ⟨t', g1, g2⟩
      · exact hD.1 i j p q h2 g2 hpq
      · exact absurd (by rw [hpq]; exact hD1.2 t' q g1) (apart i p h1 h2).2
    · rcases wput_at is ws w1 j q hlen hin hq with ⟨g1, g2⟩ | ⟨t', g1, g2⟩
      · exact absurd (by rw [← hpq]; exact hD1.2 t p h1) (apart j q g1 g2).2
      · have ht : t = t' := hD1.1 t t' p q h1 g1 hpq
        subst ht
        rcases h2 with h2 | ⟨h2, h3⟩
        · rcases g2 with g2 | ⟨g2, g3⟩
          · exact Option.some.inj (h2.symm.trans g2)
          · have := (List.getElem?_eq_some_iff.mp h2).1
            omega
        · rcases g2 with g2 | ⟨g2, g3⟩
          · have := (List.getElem?_eq_some_iff.mp g2).1
            omega
          · omega
  · rcases wput_at is ws w1 k q hlen hin hq with ⟨h1, h2⟩ | ⟨t, h1, -⟩
    · exact hD.2 k q h2
    · exact hF _ (hD1.2 t q h1)
end WBASE
