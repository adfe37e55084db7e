/-! a throw behind which a cell may hold something else -/
section WXU
variable {p : Program} {l : Launch} {e : Env} {R : Room} {s : State} {m : MethodId} {args : Array Value} {below : List Frame} {meth : Method} {c : Code} {H : Heap} {locs : List Loc} {cells slots : Nat}
variable {cc : ByteArray} {nL : Nat} {Ts : List Cond} {pc : Nat} {ls : Array Slot} {rest st0 : List Value} {G : wG} {ws wc : va_W} {A : Nat → Prop} {mc ms : Nat} {av : Array Value}
abbrev wXu {S : Type} (G : wG) (px : String → Prop) (wu : S → va_W) (A : Nat → Prop) : String → State → State → Prop := vx_X (fun _ : S => True) (fun E u t => px E ∧ wW G A (wu u) t) A
theorem wx_in {S0 : Type} {wu : S0 → va_W} {px : String → Prop} {Qc : Array Value → State → Outcome → State → Prop} {MC MS : Nat} {g : JFrame} (u : S0) (k : W p l e R s m args below meth c H locs cells slots (vx_MQ below Qc (wX G px (wu u) A) args s MC MS A) g) : W p l e R s m args below meth c H locs cells slots (vx_MQ below Qc (wXu G px wu A) args s MC MS A) g := by
  intro T hT X
  obtain ⟨t, a1, o, b1, b2, b3⟩ := k T hT X
  refine ⟨t, a1, o, b1, b2, ?_⟩
  rcases b3 with b3 | ⟨q, b3, E, ce, L, ⟨_, -, ⟨d1, d2⟩, d3⟩, b5⟩
  · exact Or.inl b3
  · exact Or.inr ⟨q, b3, E, ce, L, ⟨u, trivial, ⟨d1, d2⟩, d3⟩, b5⟩
theorem cxu_v {S S0 : Type} {wu : S0 → va_W} (u0 : S0) {post : S → Prop} {w1 : S → va_W} {px px0 : String → Prop} {Qc : Array Value → State → Outcome → State → Prop} {MC MS : Nat} (hr : vx_Run p l e R s m args below meth c H locs cells slots mc ms (F0 m pc ls st0) rest (wQv G post w1 (va_A wc H.size) av) (wX G px wc (va_A wc H.size)) (va_A wc H.size)) (hK : wK G s) (hP : va_P G.1 vwCl ws H) (hD : va_D A ws) (hS : va_S A s.heap H locs) (hA : ∀ q, s.heap.size ≤ q → A q) (hnoT : ∀ x ∈ c.exceptionTable.toList, False) (hlocks : meth.locks = false) (is : List Nat) (hC : is.map (fun i => ws[i]?) = wc.map some) (hlen : ∀ u, is.length ≤ (w1 u).length)
    (hpx : ∀ E, px E → px0 E) (hw0 : wput ws is wc = wu u0) (hMC : cells + mc ≤ MC) (hMS : slots + ms ≤ MS)
    (kk : ∀ (u : S) (H1 : Heap) (locs1 : List Loc), post u → va_P G.1 vwCl (wput ws is (w1 u)) H1 → va_D A (wput ws is (w1 u)) → va_S A s.heap H1 locs1 → W p l e R s m args below meth c H1 locs1 (cells + mc) (slots + ms) (vx_MQ below Qc (wXu G px0 wu A) args s MC MS A) (F0 m (pc + 3) ls (rest))) : W p l e R s m args below meth c H locs cells slots (vx_MQ below Qc (wXu G px0 wu A) args s MC MS A) (F0 m pc ls st0) := by
  refine cg_v hr hP hD hS hA is hC hlen (fun E ce q9 H1 locs1 hp h1 h2 hS1 hce hcv hcls => ?_) kk
  rw [hw0] at h1 h2
  exact vx_out (fun x hx => (hnoT x hx).elim) hlocks hce hcv hcls (fun t ht hal => ⟨u0, trivial, ⟨hpx E hp, by rw [ht]; exact h1, va_K.moved hal hK, h2⟩, hS1.F ht⟩) hS1.2.2 hMC hMS
theorem z_ofXu {S0 : Type} {wu : S0 → va_W} {y : MethodName} {wsy ws' : List Cond} {rm : Room} {maxL : Nat} {ret : Option FieldType} {Qc : (Nat → Prop) → Array Value → State → Outcome → State → Prop} (l : Launch) (G : wG) (w0 : va_W) (vs : List Value) (px : String → Prop) (hy : plainName y.cls = true) (hw : wsy = Cond.code y cc maxL ret :: ws') (hsl : Nat.ble (lg_sl vs).length maxL = true)
    (body : ∀ (p : Program) (e : Env) (s : State) (m : MethodId) (args : Array Value) (below : List Frame) (meth : Method) (c : Code) (A : Nat → Prop) (ls : Array Slot) (H : Heap) (locs : List Loc), wFx p m c cc maxL s args wsy y.cls → meth.sig.returnType = ret → meth.locks = false → (∀ x ∈ c.exceptionTable.toList, False) → va_P G.1 vwCl w0 H → wK G s → va_D A w0 → (∀ q, s.heap.size ≤ q → A q) → va_S A s.heap H locs → wBd G A s s.heap → lv_has ls maxL (lv_args 0 vs) →
      W p l e rm s m args below meth c H locs 0 0 (vx_MQ below (Qc A) (wXu G px wu A) args s mc ms A) (F0 m 0 ls [])) (sz : Nat) : vx_Met l y wsy rm (wPc G w0 sz vs) (Qc (va_A w0 sz)) (wXu G px wu (va_A w0 sz)) mc ms (va_A w0 sz) := by
  refine vx_ofW (cc := cc) (maxL := maxL) (ret := ret) hy hw ?_
  intro p e s m args below meth c s₁ B hml hnoT hv
  obtain ⟨rfl, hsz, hP, hK, hD0, hBd⟩ := hv
  subst hsz
  have hts := atoms_spec (ws := wsy) B.pre
  rw [lg_entry_eq]
  exact body p e s m _ below meth c _ _ _ _ ⟨B.exec, B.bytes, hml, findClass_of_methodNamed B.named, hts⟩ B.returns B.notSynchronized hnoT hP hK hD0.self (fun q h => Or.inr h) va_S.rf hBd (lv_entry vs (Nat.le_of_ble_eq_true hsl))
end WXU
