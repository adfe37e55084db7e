/-! CALLS whose cells come back to their places; a method's entry; its end -/
section WCALLS
variable {p : Program} {l : Launch} {e : Env} {R : Room} {s : State} {m : MethodId} {args : Array Value} {below : List Frame} {meth : Method} {c : Code} {H : Heap} {locs : List Loc} {cells slots : Nat} {Q : State → Prop}
variable {cc : ByteArray} {nL : Nat} {Ts : List Cond} {own : String} {pc : Nat} {ls : Array Slot} {rest st0 : List Value} {G : wG} {ws wc : va_W} {A : Nat → Prop} {mc ms : Nat} {av : Array Value}
theorem wsub (hP : va_P G.1 vwCl ws H) (is : List Nat) (hC : is.map (fun i => ws[i]?) = wc.map some) : va_P G.1 vwCl wc H := by
  intro k q hq
  have h1 : (is.map (fun i => ws[i]?))[k]? = some (some q) := by rw [hC, List.getElem?_map, hq]; rfl
  rw [List.getElem?_map] at h1
  cases hi : is[k]? with
  | none => rw [hi] at h1; cases h1
  | some i => rw [hi] at h1; exact hP i q (Option.some.inj h1)
theorem z_preS (hK : wK G s) (hP : va_P G.1 vwCl ws H) (hD : va_D A ws) (hS : va_S A s.heap H locs) (hA : ∀ q, s.heap.size ≤ q → A q) (hBd : wBd G A s s.heap) (is : List Nat) (hnd : va_nd is = true) (hC : is.map (fun i => ws[i]?) = wc.map some) (As : List Value) : PreS s H (wPc G wc H.size As) As := by
  have hF := va_free hD hS hA is hC
  have hPc := wsub hP is hC
  have hDc := hD.sub is hnd hC
  exact ⟨wPc_blind, fun U hU hW => ⟨rfl, by rw [hU], by rw [hU]; exact hPc, va_K.moved hW.alike hK, hDc.weaken (fun _ _ _ _ => trivial), hBd.call hS hF hU hW⟩⟩
theorem z_preV (hK : wK G s) (hP : va_P G.1 vwCl ws H) (hD : va_D A ws) (hS : va_S A s.heap H locs) (hA : ∀ q, s.heap.size ≤ q → A q) (hBd : wBd G A s s.heap) (is : List Nat) (hnd : va_nd is = true) (hC : is.map (fun i => ws[i]?) = wc.map some) {C : String} {b ci N : Nat} {T : u_T} {fs : List Value} (hc : vwCl[ci]? = some (C, T, N)) (h0 : wc[0]? = some (b, .inr (ci, fs))) (As : List Value) : PreV s H C b (wPc G wc H.size (.ref b :: As)) As :=
  ⟨wPc_blind, va_recv (q := (C, T, N)) hK (wsub hP is hC) hc h0, (z_preS hK hP hD hS hA hBd is hnd hC (.ref b :: As)).2⟩
abbrev wQi {S : Type} (G : wG) (post : Int32 → S → Prop) (w1 : S → va_W) (A : Nat → Prop) := va_Qi post (fun u t => wW G A (w1 u) t) A
abbrev wQl {S : Type} (G : wG) (post : Int64 → S → Prop) (w1 : S → va_W) (A : Nat → Prop) := va_Ql post (fun u t => wW G A (w1 u) t) A
abbrev wQd {S : Type} (G : wG) (post : UInt64 → S → Prop) (w1 : S → va_W) (A : Nat → Prop) := va_Qd post (fun u t => wW G A (w1 u) t) A
abbrev wQf {S : Type} (G : wG) (post : UInt32 → S → Prop) (w1 : S → va_W) (A : Nat → Prop) := va_Qf post (fun u t => wW G A (w1 u) t) A
abbrev wQv {S : Type} (G : wG) (post : S → Prop) (w1 : S → va_W) (A : Nat → Prop) := va_Qv post (fun u t => wW G A (w1 u) t) A
abbrev wQr {S : Type} (G : wG) (post : S → Prop) (ad : S → Nat) (w1 : S → va_W) (A : Nat → Prop) := va_Qr post (fun u a t => a = ad u ∧ wW G A (w1 u) t) A
/-- a throw: of which exceptions, over which world -/
abbrev wX (G : wG) (px : String → Prop) (w0 : va_W) (A : Nat → Prop) : String → State → State → Prop := vx_X (fun _ : Unit => True) (fun E _ t => px E ∧ wW G A w0 t) A
theorem cj_i {S : Type} {post : Int32 → S → Prop} {w1 : S → va_W} (hr : va_Run p l e R s m args below meth c H locs cells slots mc ms (F0 m pc ls st0) rest (wQi G post w1 (va_A wc H.size) av) (va_A wc H.size)) (hP : va_P G.1 vwCl ws H) (hD : va_D A ws) (hS : va_S A s.heap H locs) (hA : ∀ q, s.heap.size ≤ q → A q) (is : List Nat) (hC : is.map (fun i => ws[i]?) = wc.map some) (hlen : ∀ u, is.length ≤ (w1 u).length)
    (kk : ∀ (r : Int32) (u : S) (H1 : Heap) (locs1 : List Loc), post r u → va_P G.1 vwCl (wput ws is (w1 u)) H1 → va_D A (wput ws is (w1 u)) → va_S A s.heap H1 locs1 → W p l e R s m args below meth c H1 locs1 (cells + mc) (slots + ms) Q (F0 m (pc + 3) ls (.int r :: rest))) : W p l e R s m args below meth c H locs cells slots Q (F0 m pc ls st0) := by
  have hF := va_free hD hS hA is hC
  refine va_calli hr hS (fun q _ h => hF q h) hF (fun r u t H1 locs1 ht hvm hw hB hz1 hk1 hS1 => ?_)
  obtain ⟨hP1, -, hD1⟩ := hB
  rw [ht] at hP1
  obtain ⟨h1, h2⟩ := wjoin hP hD is hC (hlen u) hk1 hF hP1 hD1
  exact kk r u H1 locs1 hw h1 h2 hS1
theorem cg_i {S : Type} {post : Int32 → S → Prop} {w1 : S → va_W} {px : String → Prop} (hr : vx_Run p l e R s m args below meth c H locs cells slots mc ms (F0 m pc ls st0) rest (wQi G post w1 (va_A wc H.size) av) (wX G px wc (va_A wc H.size)) (va_A wc H.size)) (hP : va_P G.1 vwCl ws H) (hD : va_D A ws) (hS : va_S A s.heap H locs) (hA : ∀ q, s.heap.size ≤ q → A q) (is : List Nat) (hC : is.map (fun i => ws[i]?) = wc.map some) (hlen : ∀ u, is.length ≤ (w1 u).length)
    (kx : ∀ (E : String) (ce : Cell) (q9 : Addr) (H1 : Heap) (locs1 : List Loc), px E → va_P G.1 vwCl (wput ws is wc) H1 → va_D A (wput ws is wc) → va_S A s.heap H1 locs1 → H1[q9]? = some ce → ce.vm = .none → s.vm.findClass E = some ce.cls → vx_W p l e R s m args below meth c H1 locs1 (cells + mc) (slots + ms) Q (F0 m pc ls rest) q9)
    (kk : ∀ (r : Int32) (u : S) (H1 : Heap) (locs1 : List Loc), post r u → va_P G.1 vwCl (wput ws is (w1 u)) H1 → va_D A (wput ws is (w1 u)) → va_S A s.heap H1 locs1 → W p l e R s m args below meth c H1 locs1 (cells + mc) (slots + ms) Q (F0 m (pc + 3) ls (.int r :: rest))) : W p l e R s m args below meth c H locs cells slots Q (F0 m pc ls st0) := by
  have hF := va_free hD hS hA is hC
  have hcl : is.length = wc.length := by
    have := congrArg List.length hC
    simpa using this
  refine vx_calli hr hS (fun q _ h => hF q h) hF (fun q _ h => hF q h) (fun E ce q9 _ t H1 locs1 ht hvm _ hB hz1 hk1 hS1 hce hcv hcls => ?_) (fun r u t H1 locs1 ht hvm hw hB hz1 hk1 hS1 => ?_)
  · obtain ⟨hpx, hP1, -, hD1⟩ := hB
    rw [ht] at hP1
    obtain ⟨h1, h2⟩ := wjoin hP hD is hC (Nat.le_of_eq hcl) hk1 hF hP1 hD1
    exact kx E ce q9 H1 locs1 hpx h1 h2 hS1 hce hcv hcls
  · obtain ⟨hP1, -, hD1⟩ := hB
    rw [ht] at hP1
    obtain ⟨h1, h2⟩ := wjoin hP hD is hC (hlen u) hk1 hF hP1 hD1
    exact kk r u H1 locs1 hw h1 h2 hS1
theorem cx_i {S : Type} {post : Int32 → S → Prop} {w1 : S → va_W} {px px0 : String → Prop} {w0 : va_W} {Qc : Array Value → State → Outcome → State → Prop} {MC MS : Nat} (hr : vx_Run p l e R s m args below meth c H locs cells slots mc ms (F0 m pc ls st0) rest (wQi G post w1 (va_A wc H.size) av) (wX G px wc (va_A wc H.size)) (va_A wc H.size)) (hK : wK G s) (hP : va_P G.1 vwCl ws H) (hD : va_D A ws) (hS : va_S A s.heap H locs) (hA : ∀ q, s.heap.size ≤ q → A q) (hnoT : ∀ x ∈ c.exceptionTable.toList, False) (hlocks : meth.locks = false) (is : List Nat) (hC : is.map (fun i => ws[i]?) = wc.map some) (hlen : ∀ u, is.length ≤ (w1 u).length)
    (hpx : ∀ E, px E → px0 E) (hw0 : wput ws is wc = w0) (hMC : cells + mc ≤ MC) (hMS : slots + ms ≤ MS)
    (kk : ∀ (r : Int32) (u : S) (H1 : Heap) (locs1 : List Loc), post r u → va_P G.1 vwCl (wput ws is (w1 u)) H1 → va_D A (wput ws is (w1 u)) → va_S A s.heap H1 locs1 → W p l e R s m args below meth c H1 locs1 (cells + mc) (slots + ms) (vx_MQ below Qc (wX G px0 w0 A) args s MC MS A) (F0 m (pc + 3) ls (.int r :: rest))) : W p l e R s m args below meth c H locs cells slots (vx_MQ below Qc (wX G px0 w0 A) args s MC MS A) (F0 m pc ls st0) := by
  refine cg_i hr hP hD hS hA is hC hlen (fun E ce q9 H1 locs1 hp h1 h2 hS1 hce hcv hcls => ?_) kk
  rw [hw0] at h1 h2
  exact vx_out (fun x hx => (hnoT x hx).elim) hlocks hce hcv hcls (fun t ht hal => ⟨(), trivial, ⟨hpx E hp, by rw [ht]; exact h1, va_K.moved hal hK, h2⟩, hS1.F ht⟩) hS1.2.2 hMC hMS
theorem cj_l {S : Type} {post : Int64 → S → Prop} {w1 : S → va_W} (hr : va_Run p l e R s m args below meth c H locs cells slots mc ms (F0 m pc ls st0) rest (wQl G post w1 (va_A wc H.size) av) (va_A wc H.size)) (hP : va_P G.1 vwCl ws H) (hD : va_D A ws) (hS : va_S A s.heap H locs) (hA : ∀ q, s.heap.size ≤ q → A q) (is : List Nat) (hC : is.map (fun i => ws[i]?) = wc.map some) (hlen : ∀ u, is.length ≤ (w1 u).length)
    (kk : ∀ (r : Int64) (u : S) (H1 : Heap) (locs1 : List Loc), post r u → va_P G.1 vwCl (wput ws is (w1 u)) H1 → va_D A (wput ws is (w1 u)) → va_S A s.heap H1 locs1 → W p l e R s m args below meth c H1 locs1 (cells + mc) (slots + ms) Q (F0 m (pc + 3) ls (.long r :: rest))) : W p l e R s m args below meth c H locs cells slots Q (F0 m pc ls st0) := by
  have hF := va_free hD hS hA is hC
  refine va_calll hr hS (fun q _ h => hF q h) hF (fun r u t H1 locs1 ht hvm hw hB hz1 hk1 hS1 => ?_)
  obtain ⟨hP1, -, hD1⟩ := hB
  rw [ht] at hP1
  obtain ⟨h1, h2⟩ := wjoin hP hD is hC (hlen u) hk1 hF hP1 hD1
  exact kk r u H1 locs1 hw h1 h2 hS1
theorem cg_l {S : Type} {post : Int64 → S → Prop} {w1 : S → va_W} {px : String → Prop} (hr : vx_Run p l e R s m args below meth c H locs cells slots mc ms (F0 m pc ls st0) rest (wQl G post w1 (va_A wc H.size) av) (wX G px wc (va_A wc H.size)) (va_A wc H.size)) (hP : va_P G.1 vwCl ws H) (hD : va_D A ws) (hS : va_S A s.heap H locs) (hA : ∀ q, s.heap.size ≤ q → A q) (is : List Nat) (hC : is.map (fun i => ws[i]?) = wc.map some) (hlen : ∀ u, is.length ≤ (w1 u).length)
    (kx : ∀ (E : String) (ce : Cell) (q9 : Addr) (H1 : Heap) (locs1 : List Loc), px E → va_P G.1 vwCl (wput ws is wc) H1 → va_D A (wput ws is wc) → va_S A s.heap H1 locs1 → H1[q9]? = some ce → ce.vm = .none → s.vm.findClass E = some ce.cls → vx_W p l e R s m args below meth c H1 locs1 (cells + mc) (slots + ms) Q (F0 m pc ls rest) q9)
    (kk : ∀ (r : Int64) (u : S) (H1 : Heap) (locs1 : List Loc), post r u → va_P G.1 vwCl (wput ws is (w1 u)) H1 → va_D A (wput ws is (w1 u)) → va_S A s.heap H1 locs1 → W p l e R s m args below meth c H1 locs1 (cells + mc) (slots + ms) Q (F0 m (pc + 3) ls (.long r :: rest))) : W p l e R s m args below meth c H locs cells slots Q (F0 m pc ls st0) := by
  have hF := va_free hD hS hA is hC
  have hcl : is.length = wc.length := by
    have := congrArg List.length hC
    simpa using this
  refine vx_calll hr hS (fun q _ h => hF q h) hF (fun q _ h => hF q h) (fun E ce q9 _ t H1 locs1 ht hvm _ hB hz1 hk1 hS1 hce hcv hcls => ?_) (fun r u t H1 locs1 ht hvm hw hB hz1 hk1 hS1 => ?_)
  · obtain ⟨hpx, hP1, -, hD1⟩ := hB
    rw [ht] at hP1
    obtain ⟨h1, h2⟩ := wjoin hP hD is hC (Nat.le_of_eq hcl) hk1 hF hP1 hD1
    exact kx E ce q9 H1 locs1 hpx h1 h2 hS1 hce hcv hcls
  · obtain ⟨hP1, -, hD1⟩ := hB
    rw [ht] at hP1
    obtain ⟨h1, h2⟩ := wjoin hP hD is hC (hlen u) hk1 hF hP1 hD1
    exact kk r u H1 locs1 hw h1 h2 hS1
theorem cx_l {S : Type} {post : Int64 → S → Prop} {w1 : S → va_W} {px px0 : String → Prop} {w0 : va_W} {Qc : Array Value → State → Outcome → State → Prop} {MC MS : Nat} (hr : vx_Run p l e R s m args below meth c H locs cells slots mc ms (F0 m pc ls st0) rest (wQl G post w1 (va_A wc H.size) av) (wX G px wc (va_A wc H.size)) (va_A wc H.size)) (hK : wK G s) (hP : va_P G.1 vwCl ws H) (hD : va_D A ws) (hS : va_S A s.heap H locs) (hA : ∀ q, s.heap.size ≤ q → A q) (hnoT : ∀ x ∈ c.exceptionTable.toList, False) (hlocks : meth.locks = false) (is : List Nat) (hC : is.map (fun i => ws[i]?) = wc.map some) (hlen : ∀ u, is.length ≤ (w1 u).length)
    (hpx : ∀ E, px E → px0 E) (hw0 : wput ws is wc = w0) (hMC : cells + mc ≤ MC) (hMS : slots + ms ≤ MS)
    (kk : ∀ (r : Int64) (u : S) (H1 : Heap) (locs1 : List Loc), post r u → va_P G.1 vwCl (wput ws is (w1 u)) H1 → va_D A (wput ws is (w1 u)) → va_S A s.heap H1 locs1 → W p l e R s m args below meth c H1 locs1 (cells + mc) (slots + ms) (vx_MQ below Qc (wX G px0 w0 A) args s MC MS A) (F0 m (pc + 3) ls (.long r :: rest))) : W p l e R s m args below meth c H locs cells slots (vx_MQ below Qc (wX G px0 w0 A) args s MC MS A) (F0 m pc ls st0) := by
  refine cg_l hr hP hD hS hA is hC hlen (fun E ce q9 H1 locs1 hp h1 h2 hS1 hce hcv hcls => ?_) kk
  rw [hw0] at h1 h2
  exact vx_out (fun x hx => (hnoT x hx).elim) hlocks hce hcv hcls (fun t ht hal => ⟨(), trivial, ⟨hpx E hp, by rw [ht]; exact h1, va_K.moved hal hK, h2⟩, hS1.F ht⟩) hS1.2.2 hMC hMS
theorem cj_d {S : Type} {post : UInt64 → S → Prop} {w1 : S → va_W} (hr : va_Run p l e R s m args below meth c H locs cells slots mc ms (F0 m pc ls st0) rest (wQd G post w1 (va_A wc H.size) av) (va_A wc H.size)) (hP : va_P G.1 vwCl ws H) (hD : va_D A ws) (hS : va_S A s.heap H locs) (hA : ∀ q, s.heap.size ≤ q → A q) (is : List Nat) (hC : is.map (fun i => ws[i]?) = wc.map some) (hlen : ∀ u, is.length ≤ (w1 u).length)
    (kk : ∀ (r : UInt64) (u : S) (H1 : Heap) (locs1 : List Loc), post r u → va_P G.1 vwCl (wput ws is (w1 u)) H1 → va_D A (wput ws is (w1 u)) → va_S A s.heap H1 locs1 → W p l e R s m args below meth c H1 locs1 (cells + mc) (slots + ms) Q (F0 m (pc + 3) ls (.double r :: rest))) : W p l e R s m args below meth c H locs cells slots Q (F0 m pc ls st0) := by
  have hF := va_free hD hS hA is hC
  refine va_calld hr hS (fun q _ h => hF q h) hF (fun r u t H1 locs1 ht hvm hw hB hz1 hk1 hS1 => ?_)
  obtain ⟨hP1, -, hD1⟩ := hB
  rw [ht] at hP1
  obtain ⟨h1, h2⟩ := wjoin hP hD is hC (hlen u) hk1 hF hP1 hD1
  exact kk r u H1 locs1 hw h1 h2 hS1
theorem cg_d {S : Type} {post : UInt64 → S → Prop} {w1 : S → va_W} {px : String → Prop} (hr : vx_Run p l e R s m args below meth c H locs cells slots mc ms (F0 m pc ls st0) rest (wQd G post w1 (va_A wc H.size) av) (wX G px wc (va_A wc H.size)) (va_A wc H.size)) (hP : va_P G.1 vwCl ws H) (hD : va_D A ws) (hS : va_S A s.heap H locs) (hA : ∀ q, s.heap.size ≤ q → A q) (is : List Nat) (hC : is.map (fun i => ws[i]?) = wc.map some) (hlen : ∀ u, is.length ≤ (w1 u).length)
    (kx : ∀ (E : String) (ce : Cell) (q9 : Addr) (H1 : Heap) (locs1 : List Loc), px E → va_P G.1 vwCl (wput ws is wc) H1 → va_D A (wput ws is wc) → va_S A s.heap H1 locs1 → H1[q9]? = some ce → ce.vm = .none → s.vm.findClass E = some ce.cls → vx_W p l e R s m args below meth c H1 locs1 (cells + mc) (slots + ms) Q (F0 m pc ls rest) q9)
    (kk : ∀ (r : UInt64) (u : S) (H1 : Heap) (locs1 : List Loc), post r u → va_P G.1 vwCl (wput ws is (w1 u)) H1 → va_D A (wput ws is (w1 u)) → va_S A s.heap H1 locs1 → W p l e R s m args below meth c H1 locs1 (cells + mc) (slots + ms) Q (F0 m (pc + 3) ls (.double r :: rest))) : W p l e R s m args below meth c H locs cells slots Q (F0 m pc ls st0) := by
  have hF := va_free hD hS hA is hC
  have hcl : is.length = wc.length := by
    have := congrArg List.length hC
    simpa using this
  refine vx_calld hr hS (fun q _ h => hF q h) hF (fun q _ h => hF q h) (fun E ce q9 _ t H1 locs1 ht hvm _ hB hz1 hk1 hS1 hce hcv hcls => ?_) (fun r u t H1 locs1 ht hvm hw hB hz1 hk1 hS1 => ?_)
  · obtain ⟨hpx, hP1, -, hD1⟩ := hB
    rw [ht] at hP1
    obtain ⟨h1, h2⟩ := wjoin hP hD is hC (Nat.le_of_eq hcl) hk1 hF hP1 hD1
    exact kx E ce q9 H1 locs1 hpx h1 h2 hS1 hce hcv hcls
  · obtain ⟨hP1, -, hD1⟩ := hB
    rw [ht] at hP1
    obtain ⟨h1, h2⟩ := wjoin hP hD is hC (hlen u) hk1 hF hP1 hD1
    exact kk r u H1 locs1 hw h1 h2 hS1
theorem cx_d {S : Type} {post : UInt64 → S → Prop} {w1 : S → va_W} {px px0 : String → Prop} {w0 : va_W} {Qc : Array Value → State → Outcome → State → Prop} {MC MS : Nat} (hr : vx_Run p l e R s m args below meth c H locs cells slots mc ms (F0 m pc ls st0) rest (wQd G post w1 (va_A wc H.size) av) (wX G px wc (va_A wc H.size)) (va_A wc H.size)) (hK : wK G s) (hP : va_P G.1 vwCl ws H) (hD : va_D A ws) (hS : va_S A s.heap H locs) (hA : ∀ q, s.heap.size ≤ q → A q) (hnoT : ∀ x ∈ c.exceptionTable.toList, False) (hlocks : meth.locks = false) (is : List Nat) (hC : is.map (fun i => ws[i]?) = wc.map some) (hlen : ∀ u, is.length ≤ (w1 u).length)
    (hpx : ∀ E, px E → px0 E) (hw0 : wput ws is wc = w0) (hMC : cells + mc ≤ MC) (hMS : slots + ms ≤ MS)
    (kk : ∀ (r : UInt64) (u : S) (H1 : Heap) (locs1 : List Loc), post r u → va_P G.1 vwCl (wput ws is (w1 u)) H1 → va_D A (wput ws is (w1 u)) → va_S A s.heap H1 locs1 → W p l e R s m args below meth c H1 locs1 (cells + mc) (slots + ms) (vx_MQ below Qc (wX G px0 w0 A) args s MC MS A) (F0 m (pc + 3) ls (.double r :: rest))) : W p l e R s m args below meth c H locs cells slots (vx_MQ below Qc (wX G px0 w0 A) args s MC MS A) (F0 m pc ls st0) := by
  refine cg_d hr hP hD hS hA is hC hlen (fun E ce q9 H1 locs1 hp h1 h2 hS1 hce hcv hcls => ?_) kk
  rw [hw0] at h1 h2
  exact vx_out (fun x hx => (hnoT x hx).elim) hlocks hce hcv hcls (fun t ht hal => ⟨(), trivial, ⟨hpx E hp, by rw [ht]; exact h1, va_K.moved hal hK, h2⟩, hS1.F ht⟩) hS1.2.2 hMC hMS
theorem cj_f {S : Type} {post : UInt32 → S → Prop} {w1 : S → va_W} (hr : va_Run p l e R s m args below meth c H locs cells slots mc ms (F0 m pc ls st0) rest (wQf G post w1 (va_A wc H.size) av) (va_A wc H.size)) (hP : va_P G.1 vwCl ws H) (hD : va_D A ws) (hS : va_S A s.heap H locs) (hA : ∀ q, s.heap.size ≤ q → A q) (is : List Nat) (hC : is.map (fun i => ws[i]?) = wc.map some) (hlen : ∀ u, is.length ≤ (w1 u).length)
    (kk : ∀ (r : UInt32) (u : S) (H1 : Heap) (locs1 : List Loc), post r u → va_P G.1 vwCl (wput ws is (w1 u)) H1 → va_D A (wput ws is (w1 u)) → va_S A s.heap H1 locs1 → W p l e R s m args below meth c H1 locs1 (cells + mc) (slots + ms) Q (F0 m (pc + 3) ls (.float r :: rest))) : W p l e R s m args below meth c H locs cells slots Q (F0 m pc ls st0) := by
  have hF := va_free hD hS hA is hC
  refine va_callf hr hS (fun q _ h => hF q h) hF (fun r u t H1 locs1 ht hvm hw hB hz1 hk1 hS1 => ?_)
  obtain ⟨hP1, -, hD1⟩ := hB
  rw [ht] at hP1
  obtain ⟨h1, h2⟩ := wjoin hP hD is hC (hlen u) hk1 hF hP1 hD1
  exact kk r u H1 locs1 hw h1 h2 hS1
theorem cg_f {S : Type} {post : UInt32 → S → Prop} {w1 : S → va_W} {px : String → Prop} (hr : vx_Run p l e R s m args below meth c H locs cells slots mc ms (F0 m pc ls st0) rest (wQf G post w1 (va_A wc H.size) av) (wX G px wc (va_A wc H.size)) (va_A wc H.size)) (hP : va_P G.1 vwCl ws H) (hD : va_D A ws) (hS : va_S A s.heap H locs) (hA : ∀ q, s.heap.size ≤ q → A q) (is : List Nat) (hC : is.map (fun i => ws[i]?) = wc.map some) (hlen : ∀ u, is.length ≤ (w1 u).length)
    (kx : ∀ (E : String) (ce : Cell) (q9 : Addr) (H1 : Heap) (locs1 : List Loc), px E → va_P G.1 vwCl (wput ws is wc) H1 → va_D A (wput ws is wc) → va_S A s.heap H1 locs1 → H1[q9]? = some ce → ce.vm = .none → s.vm.findClass E = some ce.cls → vx_W p l e R s m args below meth c H1 locs1 (cells + mc) (slots + ms) Q (F0 m pc ls rest) q9)
    (kk : ∀ (r : UInt32) (u : S) (H1 : Heap) (locs1 : List Loc), post r u → va_P G.1 vwCl (wput ws is (w1 u)) H1 → va_D A (wput ws is (w1 u)) → va_S A s.heap H1 locs1 → W p l e R s m args below meth c H1 locs1 (cells + mc) (slots + ms) Q (F0 m (pc + 3) ls (.float r :: rest))) : W p l e R s m args below meth c H locs cells slots Q (F0 m pc ls st0) := by
  have hF := va_free hD hS hA is hC
  have hcl : is.length = wc.length := by
    have := congrArg List.length hC
    simpa using this
  refine vx_callf hr hS (fun q _ h => hF q h) hF (fun q _ h => hF q h) (fun E ce q9 _ t H1 locs1 ht hvm _ hB hz1 hk1 hS1 hce hcv hcls => ?_) (fun r u t H1 locs1 ht hvm hw hB hz1 hk1 hS1 => ?_)
  · obtain ⟨hpx, hP1, -, hD1⟩ := hB
    rw [ht] at hP1
    obtain ⟨h1, h2⟩ := wjoin hP hD is hC (Nat.le_of_eq hcl) hk1 hF hP1 hD1
    exact kx E ce q9 H1 locs1 hpx h1 h2 hS1 hce hcv hcls
  · obtain ⟨hP1, -, hD1⟩ := hB
    rw [ht] at hP1
    obtain ⟨h1, h2⟩ := wjoin hP hD is hC (hlen u) hk1 hF hP1 hD1
    exact kk r u H1 locs1 hw h1 h2 hS1
theorem cx_f {S : Type} {post : UInt32 → S → Prop} {w1 : S → va_W} {px px0 : String → Prop} {w0 : va_W} {Qc : Array Value → State → Outcome → State → Prop} {MC MS : Nat} (hr : vx_Run p l e R s m args below meth c H locs cells slots mc ms (F0 m pc ls st0) rest (wQf G post w1 (va_A wc H.size) av) (wX G px wc (va_A wc H.size)) (va_A wc H.size)) (hK : wK G s) (hP : va_P G.1 vwCl ws H) (hD : va_D A ws) (hS : va_S A s.heap H locs) (hA : ∀ q, s.heap.size ≤ q → A q) (hnoT : ∀ x ∈ c.exceptionTable.toList, False) (hlocks : meth.locks = false) (is : List Nat) (hC : is.map (fun i => ws[i]?) = wc.map some) (hlen : ∀ u, is.length ≤ (w1 u).length)
    (hpx : ∀ E, px E → px0 E) (hw0 : wput ws is wc = w0) (hMC : cells + mc ≤ MC) (hMS : slots + ms ≤ MS)
    (kk : ∀ (r : UInt32) (u : S) (H1 : Heap) (locs1 : List Loc), post r u → va_P G.1 vwCl (wput ws is (w1 u)) H1 → va_D A (wput ws is (w1 u)) → va_S A s.heap H1 locs1 → W p l e R s m args below meth c H1 locs1 (cells + mc) (slots + ms) (vx_MQ below Qc (wX G px0 w0 A) args s MC MS A) (F0 m (pc + 3) ls (.float r :: rest))) : W p l e R s m args below meth c H locs cells slots (vx_MQ below Qc (wX G px0 w0 A) args s MC MS A) (F0 m pc ls st0) := by
  refine cg_f hr hP hD hS hA is hC hlen (fun E ce q9 H1 locs1 hp h1 h2 hS1 hce hcv hcls => ?_) kk
  rw [hw0] at h1 h2
  exact vx_out (fun x hx => (hnoT x hx).elim) hlocks hce hcv hcls (fun t ht hal => ⟨(), trivial, ⟨hpx E hp, by rw [ht]; exact h1, va_K.moved hal hK, h2⟩, hS1.F ht⟩) hS1.2.2 hMC hMS
theorem cj_v {S : Type} {post : S → Prop} {w1 : S → va_W} (hr : va_Run p l e R s m args below meth c H locs cells slots mc ms (F0 m pc ls st0) rest (wQv G post w1 (va_A wc H.size) av) (va_A wc H.size)) (hP : va_P G.1 vwCl ws H) (hD : va_D A ws) (hS : va_S A s.heap H locs) (hA : ∀ q, s.heap.size ≤ q → A q) (is : List Nat) (hC : is.map (fun i => ws[i]?) = wc.map some) (hlen : ∀ u, is.length ≤ (w1 u).length)
    (kk : ∀ (u : S) (H1 : Heap) (locs1 : List Loc), post u → va_P G.1 vwCl (wput ws is (w1 u)) H1 → va_D A (wput ws is (w1 u)) → va_S A s.heap H1 locs1 → W p l e R s m args below meth c H1 locs1 (cells + mc) (slots + ms) Q (F0 m (pc + 3) ls (rest))) : W p l e R s m args below meth c H locs cells slots Q (F0 m pc ls st0) := by
  have hF := va_free hD hS hA is hC
  refine va_callv hr hS (fun q _ h => hF q h) hF (fun u t H1 locs1 ht hvm hw hB hz1 hk1 hS1 => ?_)
  obtain ⟨hP1, -, hD1⟩ := hB
  rw [ht] at hP1
  obtain ⟨h1, h2⟩ := wjoin hP hD is hC (hlen u) hk1 hF hP1 hD1
  exact kk u H1 locs1 hw h1 h2 hS1
theorem cg_v {S : Type} {post : S → Prop} {w1 : S → va_W} {px : String → Prop} (hr : vx_Run p l e R s m args below meth c H locs cells slots mc ms (F0 m pc ls st0) rest (wQv G post w1 (va_A wc H.size) av) (wX G px wc (va_A wc H.size)) (va_A wc H.size)) (hP : va_P G.1 vwCl ws H) (hD : va_D A ws) (hS : va_S A s.heap H locs) (hA : ∀ q, s.heap.size ≤ q → A q) (is : List Nat) (hC : is.map (fun i => ws[i]?) = wc.map some) (hlen : ∀ u, is.length ≤ (w1 u).length)
    (kx : ∀ (E : String) (ce : Cell) (q9 : Addr) (H1 : Heap) (locs1 : List Loc), px E → va_P G.1 vwCl (wput ws is wc) H1 → va_D A (wput ws is wc) → va_S A s.heap H1 locs1 → H1[q9]? = some ce → ce.vm = .none → s.vm.findClass E = some ce.cls → vx_W p l e R s m args below meth c H1 locs1 (cells + mc) (slots + ms) Q (F0 m pc ls rest) q9)
    (kk : ∀ (u : S) (H1 : Heap) (locs1 : List Loc), post u → va_P G.1 vwCl (wput ws is (w1 u)) H1 → va_D A (wput ws is (w1 u)) → va_S A s.heap H1 locs1 → W p l e R s m args below meth c H1 locs1 (cells + mc) (slots + ms) Q (F0 m (pc + 3) ls (rest))) : W p l e R s m args below meth c H locs cells slots Q (F0 m pc ls st0) := by
  have hF := va_free hD hS hA is hC
  have hcl : is.length = wc.length := by
    have := congrArg List.length hC
    simpa using this
  refine vx_callv hr hS (fun q _ h => hF q h) hF (fun q _ h => hF q h) (fun E ce q9 _ t H1 locs1 ht hvm _ hB hz1 hk1 hS1 hce hcv hcls => ?_) (fun u t H1 locs1 ht hvm hw hB hz1 hk1 hS1 => ?_)
  · obtain ⟨hpx, hP1, -, hD1⟩ := hB
    rw [ht] at hP1
    obtain ⟨h1, h2⟩ := wjoin hP hD is hC (Nat.le_of_eq hcl) hk1 hF hP1 hD1
    exact kx E ce q9 H1 locs1 hpx h1 h2 hS1 hce hcv hcls
  · obtain ⟨hP1, -, hD1⟩ := hB
    rw [ht] at hP1
    obtain ⟨h1, h2⟩ := wjoin hP hD is hC (hlen u) hk1 hF hP1 hD1
    exact kk u H1 locs1 hw h1 h2 hS1
theorem cx_v {S : Type} {post : S → Prop} {w1 : S → va_W} {px px0 : String → Prop} {w0 : va_W} {Qc : Array Value → State → Outcome → State → Prop} {MC MS : Nat} (hr : vx_Run p l e R s m args below meth c H locs cells slots mc ms (F0 m pc ls st0) rest (wQv G post w1 (va_A wc H.size) av) (wX G px wc (va_A wc H.size)) (va_A wc H.size)) (hK : wK G s) (hP : va_P G.1 vwCl ws H) (hD : va_D A ws) (hS : va_S A s.heap H locs) (hA : ∀ q, s.heap.size ≤ q → A q) (hnoT : ∀ x ∈ c.exceptionTable.toList, False) (hlocks : meth.locks = false) (is : List Nat) (hC : is.map (fun i => ws[i]?) = wc.map some) (hlen : ∀ u, is.length ≤ (w1 u).length)
    (hpx : ∀ E, px E → px0 E) (hw0 : wput ws is wc = w0) (hMC : cells + mc ≤ MC) (hMS : slots + ms ≤ MS)
    (kk : ∀ (u : S) (H1 : Heap) (locs1 : List Loc), post u → va_P G.1 vwCl (wput ws is (w1 u)) H1 → va_D A (wput ws is (w1 u)) → va_S A s.heap H1 locs1 → W p l e R s m args below meth c H1 locs1 (cells + mc) (slots + ms) (vx_MQ below Qc (wX G px0 w0 A) args s MC MS A) (F0 m (pc + 3) ls (rest))) : W p l e R s m args below meth c H locs cells slots (vx_MQ below Qc (wX G px0 w0 A) args s MC MS A) (F0 m pc ls st0) := by
  refine cg_v hr hP hD hS hA is hC hlen (fun E ce q9 H1 locs1 hp h1 h2 hS1 hce hcv hcls => ?_) kk
  rw [hw0] at h1 h2
  exact vx_out (fun x hx => (hnoT x hx).elim) hlocks hce hcv hcls (fun t ht hal => ⟨(), trivial, ⟨hpx E hp, by rw [ht]; exact h1, va_K.moved hal hK, h2⟩, hS1.F ht⟩) hS1.2.2 hMC hMS
theorem cj_r {S : Type} {post : S → Prop} {ad : S → Nat} {w1 : S → va_W} (hr : va_Run p l e R s m args below meth c H locs cells slots mc ms (F0 m pc ls st0) rest (wQr G post ad w1 (va_A wc H.size) av) (va_A wc H.size)) (hP : va_P G.1 vwCl ws H) (hD : va_D A ws) (hS : va_S A s.heap H locs) (hA : ∀ q, s.heap.size ≤ q → A q) (is : List Nat) (hC : is.map (fun i => ws[i]?) = wc.map some) (hlen : ∀ u, is.length ≤ (w1 u).length)
    (kk : ∀ (u : S) (H1 : Heap) (locs1 : List Loc), post u → va_P G.1 vwCl (wput ws is (w1 u)) H1 → va_D A (wput ws is (w1 u)) → va_S A s.heap H1 locs1 → W p l e R s m args below meth c H1 locs1 (cells + mc) (slots + ms) Q (F0 m (pc + 3) ls (.ref (ad u) :: rest))) : W p l e R s m args below meth c H locs cells slots Q (F0 m pc ls st0) := by
  have hF := va_free hD hS hA is hC
  refine va_callr hr hS (fun q _ h => hF q h) hF (fun u a t H1 locs1 ht hvm hw hB hz1 hk1 hS1 => ?_)
  obtain ⟨rfl, hP1, -, hD1⟩ := hB
  rw [ht] at hP1
  obtain ⟨h1, h2⟩ := wjoin hP hD is hC (hlen u) hk1 hF hP1 hD1
  exact kk u H1 locs1 hw h1 h2 hS1
/-- a method's entry -/
theorem z_ofW {y : MethodName} {wsy ws' : List Cond} {rm : Room} {maxL : Nat} {ret : Option FieldType} {Qc : (Nat → Prop) → Array Value → State → Outcome → State → Prop} (l : Launch) (G : wG) (w0 : va_W) (vs : List Value) (hy : plainName y.cls = true) (hw : wsy = Cond.code y cc maxL ret :: ws') (hsl : Nat.ble (lg_sl vs).length maxL = true)
    (body : ∀ (p : Program) (e : Env) (s : State) (m : MethodId) (args : Array Value) (below : List Frame) (meth : Method) (c : Code) (A : Nat → Prop) (ls : Array Slot) (H : Heap) (locs : List Loc), wFx p m c cc maxL s args wsy y.cls → meth.sig.returnType = ret → meth.locks = false → (y.name = "<init>" → meth.name = "<init>") → va_P G.1 vwCl w0 H → wK G s → va_D A w0 → (∀ q, s.heap.size ≤ q → A q) → va_S A s.heap H locs → wBd G A s s.heap → lv_has ls maxL (lv_args 0 vs) →
      W p l e rm s m args below meth c H locs 0 0 (MQ below (Qc A) args s mc ms A) (F0 m 0 ls [])) (sz : Nat) : Met l y wsy rm (wPc G w0 sz vs) (Qc (va_A w0 sz)) mc ms (va_A w0 sz) := by
  refine Met.ofW (cc := cc) (maxL := maxL) (ret := ret) hy hw ?_
  intro p e s m args below meth c s₁ B hml hv
  obtain ⟨rfl, hsz, hP, hK, hD0, hBd⟩ := hv
  subst hsz
  have hts := atoms_spec (ws := wsy) B.pre
  rw [lg_entry_eq]
  exact body p e s m _ below meth c _ _ _ _ ⟨B.exec, B.bytes, hml, findClass_of_methodNamed B.named, hts⟩ B.returns B.notSynchronized (fun h => (name_of_methodNamed B.named B.method).1.trans h) hP hK hD0.self (fun q h => Or.inr h) va_S.rf hBd (lv_entry vs (Nat.le_of_ble_eq_true hsl))
theorem z_ofX {y : MethodName} {wsy ws' : List Cond} {rm : Room} {maxL : Nat} {ret : Option FieldType} {Qc : (Nat → Prop) → Array Value → State → Outcome → State → Prop} (l : Launch) (G : wG) (w0 : va_W) (vs : List Value) (px : String → Prop) (hy : plainName y.cls = true) (hw : wsy = Cond.code y cc maxL ret :: ws') (hsl : Nat.ble (lg_sl vs).length maxL = true)
    (body : ∀ (p : Program) (e : Env) (s : State) (m : MethodId) (args : Array Value) (below : List Frame) (meth : Method) (c : Code) (A : Nat → Prop) (ls : Array Slot) (H : Heap) (locs : List Loc), wFx p m c cc maxL s args wsy y.cls → meth.sig.returnType = ret → meth.locks = false → (∀ x ∈ c.exceptionTable.toList, False) → va_P G.1 vwCl w0 H → wK G s → va_D A w0 → (∀ q, s.heap.size ≤ q → A q) → va_S A s.heap H locs → wBd G A s s.heap → lv_has ls maxL (lv_args 0 vs) →
      W p l e rm s m args below meth c H locs 0 0 (vx_MQ below (Qc A) (wX G px w0 A) args s mc ms A) (F0 m 0 ls [])) (sz : Nat) : vx_Met l y wsy rm (wPc G w0 sz vs) (Qc (va_A w0 sz)) (wX G px w0 (va_A w0 sz)) mc ms (va_A w0 sz) := by
  refine vx_ofW (cc := cc) (maxL := maxL) (ret := ret) hy hw ?_
  intro p e s m args below meth c s₁ B hml hnoT hv
  obtain ⟨rfl, hsz, hP, hK, hD0, hBd⟩ := hv
  subst hsz
  have hts := atoms_spec (ws := wsy) B.pre
  rw [lg_entry_eq]
  exact body p e s m _ below meth c _ _ _ _ ⟨B.exec, B.bytes, hml, findClass_of_methodNamed B.named, hts⟩ B.returns B.notSynchronized hnoT hP hK hD0.self (fun q h => Or.inr h) va_S.rf hBd (lv_entry vs (Nat.le_of_ble_eq_true hsl))
theorem z_iret {S : Type} {post : Int32 → S → Prop} {w1 : S → va_W} {v : Int32} (hF : wFx p m c cc nL s args Ts own) (hr : meth.sig.returnType = some .int) (hlocks : meth.locks = false) (u : S) (hp : post v u) (hP : va_P G.1 vwCl (w1 u) H) (hK : wK G s) (hD : va_D A (w1 u)) (hS : va_S A s.heap H locs) (hd : decode cc pc = .ok (.ireturn, 1)) : W p l e R s m args below meth c H locs cells slots (MQ below (wQi G post w1 A) args s cells slots A) (F0 m pc ls [.int v]) :=
  W.iret hF.1 hF.2.1 hr (fun t ht hW => ⟨⟨v, u, rfl, hp, by rw [ht]; exact hP, va_K.moved hW.alike hK, hD⟩, hS.F ht⟩) hS.2.2 hd hlocks
theorem z_lret {S : Type} {post : Int64 → S → Prop} {w1 : S → va_W} {v : Int64} (hF : wFx p m c cc nL s args Ts own) (hr : meth.sig.returnType = some .long) (hlocks : meth.locks = false) (u : S) (hp : post v u) (hP : va_P G.1 vwCl (w1 u) H) (hK : wK G s) (hD : va_D A (w1 u)) (hS : va_S A s.heap H locs) (hd : decode cc pc = .ok (.lreturn, 1)) : W p l e R s m args below meth c H locs cells slots (MQ below (wQl G post w1 A) args s cells slots A) (F0 m pc ls [.long v]) :=
  W.lret hF.1 hF.2.1 hr (fun t ht hW => ⟨⟨v, u, rfl, hp, by rw [ht]; exact hP, va_K.moved hW.alike hK, hD⟩, hS.F ht⟩) hS.2.2 hd hlocks
theorem z_dret {S : Type} {post : UInt64 → S → Prop} {w1 : S → va_W} {v : UInt64} (hF : wFx p m c cc nL s args Ts own) (hr : meth.sig.returnType = some .double) (hlocks : meth.locks = false) (u : S) (hp : post v u) (hP : va_P G.1 vwCl (w1 u) H) (hK : wK G s) (hD : va_D A (w1 u)) (hS : va_S A s.heap H locs) (hd : decode cc pc = .ok (.dreturn, 1)) : W p l e R s m args below meth c H locs cells slots (MQ below (wQd G post w1 A) args s cells slots A) (F0 m pc ls [.double v]) :=
  W.dret hF.1 hF.2.1 hr (fun t ht hW => ⟨⟨v, u, rfl, hp, by rw [ht]; exact hP, va_K.moved hW.alike hK, hD⟩, hS.F ht⟩) hS.2.2 hd hlocks
theorem z_fret {S : Type} {post : UInt32 → S → Prop} {w1 : S → va_W} {v : UInt32} (hF : wFx p m c cc nL s args Ts own) (hr : meth.sig.returnType = some .float) (hlocks : meth.locks = false) (u : S) (hp : post v u) (hP : va_P G.1 vwCl (w1 u) H) (hK : wK G s) (hD : va_D A (w1 u)) (hS : va_S A s.heap H locs) (hd : decode cc pc = .ok (.freturn, 1)) : W p l e R s m args below meth c H locs cells slots (MQ below (wQf G post w1 A) args s cells slots A) (F0 m pc ls [.float v]) :=
  W.fret hF.1 hF.2.1 hr (fun t ht hW => ⟨⟨v, u, rfl, hp, by rw [ht]; exact hP, va_K.moved hW.alike hK, hD⟩, hS.F ht⟩) hS.2.2 hd hlocks
theorem z_zret {S : Type} {post : Int32 → S → Prop} {w1 : S → va_W} {v : Int32} {ty : FieldType} (hF : wFx p m c cc nL s args Ts own) (hr : meth.sig.returnType = some ty) (hlocks : meth.locks = false) (hn : narrow ty (.int v) = .int v) (u : S) (hp : post v u) (hP : va_P G.1 vwCl (w1 u) H) (hK : wK G s) (hD : va_D A (w1 u)) (hS : va_S A s.heap H locs) (hd : decode cc pc = .ok (.ireturn, 1)) : W p l e R s m args below meth c H locs cells slots (MQ below (wQi G post w1 A) args s cells slots A) (F0 m pc ls [.int v]) :=
  W.zret hF.1 hF.2.1 hr hn (fun t ht hW => ⟨⟨v, u, rfl, hp, by rw [ht]; exact hP, va_K.moved hW.alike hK, hD⟩, hS.F ht⟩) hS.2.2 hd hlocks
theorem z_vret {S : Type} {post : S → Prop} {w1 : S → va_W} (hF : wFx p m c cc nL s args Ts own) (hr : meth.sig.returnType = none) (hlocks : meth.locks = false) (u : S) (hp : post u) (hP : va_P G.1 vwCl (w1 u) H) (hK : wK G s) (hD : va_D A (w1 u)) (hS : va_S A s.heap H locs) (hd : decode cc pc = .ok (.return_, 1)) : W p l e R s m args below meth c H locs cells slots (MQ below (wQv G post w1 A) args s cells slots A) (F0 m pc ls []) :=
  W.vret hF.1 hF.2.1 hr (fun t ht hW => ⟨⟨u, rfl, hp, by rw [ht]; exact hP, va_K.moved hW.alike hK, hD⟩, hS.F ht⟩) hS.2.2 hd hlocks
theorem z_aret {S : Type} {post : S → Prop} {ad : S → Nat} {w1 : S → va_W} {a : Nat} {rt : FieldType} (hF : wFx p m c cc nL s args Ts own) (hr : meth.sig.returnType = some rt) (hrt : (∃ n, rt = .object n) ∨ ∃ t, rt = .array t) (hlocks : meth.locks = false) (u : S) (ha : a = ad u) (hp : post u) (hP : va_P G.1 vwCl (w1 u) H) (hK : wK G s) (hD : va_D A (w1 u)) (hS : va_S A s.heap H locs) (hd : decode cc pc = .ok (.areturn, 1)) : W p l e R s m args below meth c H locs cells slots (MQ below (wQr G post ad w1 A) args s cells slots A) (F0 m pc ls [.ref a]) :=
  W.aret hF.1 hF.2.1 hr hrt (Or.inr ⟨a, rfl⟩) (fun t ht hW => ⟨⟨u, a, rfl, hp, ha, by rw [ht]; exact hP, va_K.moved hW.alike hK, hD⟩, hS.F ht⟩) hS.2.2 hd hlocks
/-- a throw of a text by RX9 -/
theorem z_throw {px0 : String → Prop} {w0 : va_W} {Qc : Array Value → State → Outcome → State → Prop} {MC MS : Nat} (hF : wFx p m c cc nL s args Ts RX9) (hst : l.stackTraces = false) {cls text : String} {names : List String} {ik is ic : Nat} (hcls : Bundle.fit cls = true) (hnames : ∀ n ∈ names, Bundle.fit n = true) (hk : Cond.classLink RX9 ik cls ∈ Ts) (hini : Cond.initialized cls ∈ Ts) (hstr : (RX9, is, text) ∈ wStr) (hat : ∀ w ∈ vx_atS RX9 ic cls names, w.before args s = true)
    (hgood : ∀ w ∈ Cond.classLink RX9 ik cls :: Cond.initialized cls :: vx_atS RX9 ic cls names, vx_ot w = true) (hK : wK G s) (hP : va_P G.1 vwCl w0 H) (hD : va_D A w0) (hS : va_S A s.heap H locs) (hA : ∀ q, s.heap.size ≤ q → A q) (hBd : wBd G A s s.heap) (hsize : ls.size = nL) (hnoT : ∀ x ∈ c.exceptionTable.toList, False) (hlocks : meth.locks = false) (hpx : px0 cls)
    (d0 : decode cc pc = .ok (.new ik, 3)) (d3 : decode cc (pc + 3) = .ok (.dup, 1)) (d4 : decode cc (pc + 4) = .ok (.ldc is, 2)) (d6 : decode cc (pc + 6) = .ok (.invokespecial ic, 3)) (d9 : decode cc (pc + 9) = .ok (.athrow, 1))
    (hRframes : names.length + 3 < R.frames) (hRlocals : (rest.map fun v => v.category).sum + (13 * (names.length + 1) + 43) ≤ R.locals) (hRcells : cells + 1 ≤ R.cells) (hRslots : slots + 6 ≤ R.slots) (hMC : cells + 1 ≤ MC) (hMS : slots + 6 ≤ MS) :
    W p l e R s m args below meth c H locs cells slots (vx_MQ below Qc (wX G px0 w0 A) args s MC MS A) (F0 m pc ls rest) := by
  obtain ⟨h1, h2, h3, h4, -⟩ := hBd
  obtain ⟨sa, hsa⟩ := h1 (RX9, is, text) hstr
  refine vx_throwS (cc := cc) hF.1 hF.2.1 hst hF.2.2.2.1 hcls hnames (hF.2.2.2.2 _ hk) (hF.2.2.2.2 _ hini) hsa hat hgood h3 h4 hS (hsize.trans hF.2.2.1.symm) d0 d3 d4 d6 d9 (fun x hx => (hnoT x hx).elim) hRframes hRlocals hRcells hRslots hlocks (fun t hal hz hk9 => ⟨(), trivial, ⟨hpx, hP.kept (fun k q hq => hk9 q.1 (hP k q hq).lt), va_K.moved hal hK, hD⟩, ⟨Nat.le_trans hS.1 hz, fun q h8 h9 => (hk9 q (Nat.lt_of_lt_of_le h8 hS.1)).trans (hS.2.1 q h8 h9)⟩⟩) hS.2.2 hMC hMS
theorem z_throwW {px0 : String → Prop} {w0 : va_W} {Qc : Array Value → State → Outcome → State → Prop} {MC MS : Nat} (hF : wFx p m c cc nL s args Ts RX9) (hst : l.stackTraces = false) {cls text : String} {names : List String} {ik is ic : Nat} (hcls : Bundle.fit cls = true) (hnames : ∀ n ∈ names, Bundle.fit n = true) (hk : Cond.classLink RX9 ik cls ∈ Ts) (hini : Cond.initialized cls ∈ Ts) (hstr : (RX9, is, text) ∈ wStr) (hat : ∀ w ∈ vx_atS RX9 ic cls names, w.before args s = true)
    (hgood : ∀ w ∈ Cond.classLink RX9 ik cls :: Cond.initialized cls :: vx_atS RX9 ic cls names, vx_ot w = true) (hK : wK G s) (hP : va_P G.1 vwCl w0 H) (hD : va_D A w0) (hS : va_S A s.heap H locs) (hA : ∀ q, s.heap.size ≤ q → A q) (hBd : wBd G A s s.heap) (hsize : ls.size = nL) (hnoT : ∀ x ∈ c.exceptionTable.toList, False) (hlocks : meth.locks = false) (hpx : px0 cls)
    (d0 : decode cc pc = .ok (.new ik, 3)) (d3 : decode cc (pc + 3) = .ok (.dup, 1)) (d4 : decode cc (pc + 4) = .ok (.ldc_w is, 3)) (d6 : decode cc (pc + 7) = .ok (.invokespecial ic, 3)) (d9 : decode cc (pc + 10) = .ok (.athrow, 1))
    (hRframes : names.length + 3 < R.frames) (hRlocals : (rest.map fun v => v.category).sum + (13 * (names.length + 1) + 43) ≤ R.locals) (hRcells : cells + 1 ≤ R.cells) (hRslots : slots + 6 ≤ R.slots) (hMC : cells + 1 ≤ MC) (hMS : slots + 6 ≤ MS) :
    W p l e R s m args below meth c H locs cells slots (vx_MQ below Qc (wX G px0 w0 A) args s MC MS A) (F0 m pc ls rest) := by
  obtain ⟨h1, h2, h3, h4, -⟩ := hBd
  obtain ⟨sa, hsa⟩ := h1 (RX9, is, text) hstr
  refine vx_throwSW (cc := cc) hF.1 hF.2.1 hst hF.2.2.2.1 hcls hnames (hF.2.2.2.2 _ hk) (hF.2.2.2.2 _ hini) hsa hat hgood h3 h4 hS (hsize.trans hF.2.2.1.symm) d0 d3 d4 d6 d9 (fun x hx => (hnoT x hx).elim) hRframes hRlocals hRcells hRslots hlocks (fun t hal hz hk9 => ⟨(), trivial, ⟨hpx, hP.kept (fun k q hq => hk9 q.1 (hP k q hq).lt), va_K.moved hal hK, hD⟩, ⟨Nat.le_trans hS.1 hz, fun q h8 h9 => (hk9 q (Nat.lt_of_lt_of_le h8 hS.1)).trans (hS.2.1 q h8 h9)⟩⟩) hS.2.2 hMC hMS
/-- a layout, read -/
theorem z_tlen {n t : Nat} {f : Int → Int} {nm : String} (hF : wFx p m c cc nL s args Ts own) (hT : wLay t n f nm A s s.heap) (hS : va_S A s.heap H locs) (hd : decode cc pc = .ok (.arraylength, 1)) (k : W p l e R s m args below meth c H locs cells slots Q (F0 m (pc + 1) ls (.int (zI (n : Int)) :: rest))) : W p l e R s m args below meth c H locs cells slots Q (F0 m pc ls (.ref t :: rest)) :=
  va_tlen hF.1 hF.2.1 hT.2 hS (zI_nat n) hd k
theorem z_ti {n t : Nat} {f : Int → Int} {nm : String} (hF : wFx p m c cc nL s args Ts own) (hT : wLay t n f nm A s s.heap) (hS : va_S A s.heap H locs) {z : Int} (hz : 0 ≤ z ∧ z < (n : Int)) (hn : Nat.ble n 2147483648 = true) (hd : decode cc pc = .ok (.iaload, 1)) (k : W p l e R s m args below meth c H locs cells slots Q (F0 m (pc + 1) ls (.int (zI (f z)) :: rest))) : W p l e R s m args below meth c H locs cells slots Q (F0 m pc ls (.int (zI z) :: .ref t :: rest)) := by
  have hn2 := Nat.le_of_ble_eq_true hn
  exact va_ti hF.1 hF.2.1 hT.2 hS (zI_in hz hn2) (by rw [aI_at (by omega)]) hd k
theorem z_gets {n t index : Nat} {f : Int → Int} {nm : String} (hF : wFx p m c cc nL s args Ts own) (hT : wLay t n f nm A s s.heap) (hS : va_S A s.heap H locs) (hlink : (Cond.fieldLink own index RX9 nm "[I").before args s = true) (hd : decode cc pc = .ok (.getstatic index, 3)) (k : W p l e R s m args below meth c H locs cells slots Q (F0 m (pc + 3) ls (.ref t :: rest))) : W p l e R s m args below meth c H locs cells slots Q (F0 m pc ls rest) :=
  va_gets hF.1 hF.2.1 hT.1 hS hF.2.2.2.1 hlink (fun _ h => h) hd k
end WCALLS
