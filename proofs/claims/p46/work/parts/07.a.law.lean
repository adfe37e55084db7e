/-! THE LAW'S OWN METHODS: a method with handlers, and what they catch -/
def tI (z : Int) : Int := (zI z).toInt
theorem tI_rg (z : Int) : -2147483648 ≤ tI z ∧ tI z < 2147483648 := by
  have h1 := Int32.le_toInt (zI z)
  have h2 := Int32.toInt_lt (zI z)
  unfold tI
  omega
theorem tI_wide (z : Int) : (zI z).toInt64 = zL (tI z) := by
  have h := zI_wide (z := tI z) (tI_rg z)
  rw [show zI (tI z) = zI z from Int32.ofInt_toInt _] at h
  exact h
section WHAND
variable {p : Program} {l : Launch} {e : Env} {R : Room} {s : State} {m : MethodId} {args : Array Value} {below : List Frame} {meth : Method} {c : Code} {H : Heap} {locs : List Loc} {cells slots : Nat} {Q : State → Prop}
variable {cc : ByteArray} {nL : Nat} {Ts : List Cond} {own : String} {pc : Nat} {ls : Array Slot} {rest : List Value} {G : wG} {A : Nat → Prop} {mc ms : Nat}
theorem z_i2lT (hF : wFx p m c cc nL s args Ts own) {a : Int} (hd : decode cc pc = .ok (.i2l, 1)) (k : W p l e R s m args below meth c H locs cells slots Q (F0 m (pc + 1) ls (.long (zL (tI a)) :: rest))) : W p l e R s m args below meth c H locs cells slots Q (F0 m pc ls (.int (zI a) :: rest)) := lv_i2l hF.1 hF.2.1 hd (tI_wide a) k
theorem z_ofH {y : MethodName} {wsy ws' : List Cond} {rm : Room} {maxL : Nat} {ret : Option FieldType} {hh : List (Nat × Nat × Nat × Nat)} {Qc : (Nat → Prop) → Array Value → State → Outcome → State → Prop} (l : Launch) (G : wG) (w0 : va_W) (vs : List Value) (hy : plainName y.cls = true) (hw : wsy = Cond.codeWith y cc maxL ret hh :: ws') (hsl : Nat.ble (lg_sl vs).length maxL = true)
    (body : ∀ (p : Program) (e : Env) (s : State) (m : MethodId) (args : Array Value) (below : List Frame) (meth : Method) (c : Code) (A : Nat → Prop) (ls : Array Slot) (H : Heap) (locs : List Loc), wFx p m c cc maxL s args wsy y.cls → meth.sig.returnType = ret → meth.locks = false → c.exceptionTable.toList = tableOf hh → va_P G.1 vwCl w0 H → wK G s → va_D A w0 → (∀ q, s.heap.size ≤ q → A q) → va_S A s.heap H locs → wBd G A s s.heap → lv_has ls maxL (lv_args 0 vs) →
      W p l e rm s m args below meth c H locs 0 0 (MQ below (Qc A) args s mc ms A) (F0 m 0 ls [])) (sz : Nat) : Met l y wsy rm (wPc G w0 sz vs) (Qc (va_A w0 sz)) mc ms (va_A w0 sz) := by
  refine MetFree.of_bodyS (code := cc) (maxLocals := maxL) (ret := ret) hy ?_ ?_
  · intro args s m h hn
    obtain ⟨m9, meth, c, hn9, h1, h2, h3, h4, -, h5, h6, -⟩ := Cond.codeWith_spec (atoms_spec (ws := wsy) h _ (by rw [hw]; exact List.mem_cons_self))
    cases hn.symm.trans hn9
    exact ⟨meth, c, h1, h2, h3, h4, h5, h6⟩
  · intro p e s m args below meth c s₁ B hml hv _
    have hh0 : s₁.heap = s.heap := by rw [B.state]; rfl
    have hT := vx_table (x := y) B (atoms_spec (ws := wsy) B.pre _ (by rw [hw]; exact List.mem_cons_self))
    obtain ⟨rfl, hsz, hP, hK, hD0, hBd⟩ := hv
    subst hsz
    have hts := atoms_spec (ws := wsy) B.pre
    have hb := body p e s m _ below meth c _ _ _ _ ⟨B.exec, B.bytes, hml, findClass_of_methodNamed B.named, hts⟩ B.returns B.notSynchronized hT hP hK hD0.self (fun q h => Or.inr h) va_S.rf hBd (lv_entry vs (Nat.le_of_ble_eq_true hsl))
    rw [lg_entry_eq]
    obtain ⟨t, a1, o, b1, b2, b3⟩ := hb s₁ hh0 (Stand.of_body B)
    exact ⟨t, o, a1, b1, b2, b3⟩
theorem z_cat1 {E : String} {a b h ct : Nat} {hh : List (Nat × Nat × Nat × Nat)} {ce : Cell} {q : Addr} (hF : wFx p m c cc nL s args Ts RL) (hBd : wBd G A s s.heap) (hT : c.exceptionTable.toList = tableOf ((a, b, h, ct) :: hh)) (hx : covers ⟨a, b, h, ct⟩ pc = true) (h0 : ct ≠ 0) (hk : (Cond.classLink RL ct E).before args s = true) (hE : E ∈ wCst) (hcell : H[q]? = some ce) (hv : ce.vm = .none) (hcl : s.vm.findClass E = some ce.cls)
    (kk : W p l e R s m args below meth c H locs cells slots Q (F0 m h ls [.ref q])) : vx_W p l e R s m args below meth c H locs cells slots Q (F0 m pc ls rest) q :=
  vx_catch (own := RL) (name := E) hF.2.2.2.1 [] ⟨a, b, h, ct⟩ (tableOf hh) hT (fun z hz => absurd hz List.not_mem_nil) hx h0 hk (va_Nw.use rfl (hBd.2.2.2.2.2.2.2.2.2.1 E hE)) hcell hv hcl kk
theorem z_cat2 {E N : String} {a b h ct a2 b2 h2 ct2 : Nat} {hh : List (Nat × Nat × Nat × Nat)} {ce : Cell} {q : Addr} (hF : wFx p m c cc nL s args Ts RL) (hBd : wBd G A s s.heap) (hT : c.exceptionTable.toList = tableOf ((a, b, h, ct) :: (a2, b2, h2, ct2) :: hh)) (hx : covers ⟨a2, b2, h2, ct2⟩ pc = true) (h01 : ct ≠ 0) (h02 : ct2 ≠ 0) (hk1 : (Cond.classLink RL ct N).before args s = true) (hN : (E, N) ∈ wNcs) (hk : (Cond.classLink RL ct2 E).before args s = true) (hE : E ∈ wCst) (hcell : H[q]? = some ce) (hv : ce.vm = .none) (hcl : s.vm.findClass E = some ce.cls)
    (kk : W p l e R s m args below meth c H locs cells slots Q (F0 m h2 ls [.ref q])) : vx_W p l e R s m args below meth c H locs cells slots Q (F0 m pc ls rest) q :=
  vx_catch (own := RL) (name := E) hF.2.2.2.1 [⟨a, b, h, ct⟩] ⟨a2, b2, h2, ct2⟩ (tableOf hh) hT (fun z hz => by
    rcases List.mem_singleton.mp hz with rfl
    exact Or.inr ⟨h01, N, hk1, hBd.2.2.2.2.2.2.2.2.2.2 (E, N) hN⟩) hx h02 hk (va_Nw.use rfl (hBd.2.2.2.2.2.2.2.2.2.1 E hE)) hcell hv hcl kk
end WHAND
section WCATCHU
variable {p : Program} {l : Launch} {e : Env} {R : Room} {s : State} {m : MethodId} {args : Array Value} {below : List Frame} {meth : Method} {c : Code} {H : Heap} {locs : List Loc} {cells slots : Nat} {Q : State → Prop}
variable {cc : ByteArray} {nL : Nat} {Ts : List Cond} {own : String} {pc : Nat} {ls : Array Slot} {rest st0 : List Value} {G : wG} {ws wc : va_W} {A : Nat → Prop} {mc ms : Nat} {av : Array Value}
/-- a call that may throw; behind a throw a cell may hold something else -/
theorem cgu_i {S S0 : Type} {wu : S0 → va_W} {post : Int32 → S → Prop} {w1 : S → va_W} {px : String → Prop} (hr : vx_Run p l e R s m args below meth c H locs cells slots mc ms (F0 m pc ls st0) rest (wQi G post w1 (va_A wc H.size) av) (wXu G px wu (va_A wc H.size)) (va_A wc H.size)) (hP : va_P G.1 vwCl ws H) (hD : va_D A ws) (hS : va_S A s.heap H locs) (hA : ∀ q, s.heap.size ≤ q → A q) (is : List Nat) (hC : is.map (fun i => ws[i]?) = wc.map some) (hlen : ∀ u, is.length ≤ (w1 u).length) (hlenu : ∀ u, is.length ≤ (wu u).length)
    (kx : ∀ (E : String) (ce : Cell) (q9 : Addr) (u9 : S0) (H1 : Heap) (locs1 : List Loc), px E → va_P G.1 vwCl (wput ws is (wu u9)) H1 → va_D A (wput ws is (wu u9)) → va_S A s.heap H1 locs1 → H1[q9]? = some ce → ce.vm = .none → s.vm.findClass E = some ce.cls → vx_W p l e R s m args below meth c H1 locs1 (cells + mc) (slots + ms) Q (F0 m pc ls rest) q9)
    (kk : ∀ (r : Int32) (u : S) (H1 : Heap) (locs1 : List Loc), post r u → va_P G.1 vwCl (wput ws is (w1 u)) H1 → va_D A (wput ws is (w1 u)) → va_S A s.heap H1 locs1 → W p l e R s m args below meth c H1 locs1 (cells + mc) (slots + ms) Q (F0 m (pc + 3) ls (.int r :: rest))) : W p l e R s m args below meth c H locs cells slots Q (F0 m pc ls st0) := by
  have hF := va_free hD hS hA is hC
  refine vx_calli hr hS (fun q _ h => hF q h) hF (fun q _ h => hF q h) (fun E ce q9 u9 t H1 locs1 ht hvm _ hB hz1 hk1 hS1 hce hcv hcls => ?_) (fun r u t H1 locs1 ht hvm hw hB hz1 hk1 hS1 => ?_)
  · obtain ⟨hpx, hP1, -, hD1⟩ := hB
    rw [ht] at hP1
    obtain ⟨h1, h2⟩ := wjoin hP hD is hC (hlenu u9) hk1 hF hP1 hD1
    exact kx E ce q9 u9 H1 locs1 hpx h1 h2 hS1 hce hcv hcls
  · obtain ⟨hP1, -, hD1⟩ := hB
    rw [ht] at hP1
    obtain ⟨h1, h2⟩ := wjoin hP hD is hC (hlen u) hk1 hF hP1 hD1
    exact kk r u H1 locs1 hw h1 h2 hS1
end WCATCHU
