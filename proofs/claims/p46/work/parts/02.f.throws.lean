section WTHROW
variable {p : Program} {l : Launch} {e : Env} {R : Room} {s : State} {m : MethodId} {args : Array Value} {below : List Frame} {meth : Method} {c : Code} {H : Heap} {locs : List Loc} {cells slots : Nat}
variable {cc : ByteArray} {nL : Nat} {Ts : List Cond} {pc : Nat} {ls : Array Slot} {rest : List Value} {G : wG} {w0 : va_W} {A : Nat → Prop}
abbrev wNm : List String := ["java/lang/RuntimeException", "java/lang/Exception"]
set_option maxRecDepth 20000 in
theorem za_iae (hh : ∀ w ∈ (vx_atS RX9 110 "java/lang/IllegalArgumentException" ["java/lang/RuntimeException", "java/lang/Exception"]).filter goodWord, w ∈ Ts) (hts : ∀ w ∈ Ts, w.before args s = true) (hBd : wBd G A s s.heap) : ∀ w ∈ vx_atS RX9 110 "java/lang/IllegalArgumentException" ["java/lang/RuntimeException", "java/lang/Exception"], w.before args s = true :=
  vx_hat (B := wDcl.map Cond.declares ++ [Cond.castable "java/lang/IllegalArgumentException" "java/lang/IllegalArgumentException"]) (fun w h => hts w (hh w h)) (by decide +kernel) (fun w h => by
    obtain ⟨-, -, -, -, -, -, -, -, h9, h10, -⟩ := hBd
    rcases List.mem_append.mp h with h | h
    · obtain ⟨q, hq, rfl⟩ := List.mem_map.mp h
      exact va_Nw.use rfl (h9 q hq)
    · rcases List.mem_cons.mp h with h | h
      · subst h
        exact va_Nw.use rfl (h10 eIA (by decide))
      · exact absurd h List.not_mem_nil)
set_option maxRecDepth 20000 in
theorem zg_iae (ik : Nat) : ∀ w ∈ Cond.classLink RX9 ik "java/lang/IllegalArgumentException" :: Cond.initialized "java/lang/IllegalArgumentException" :: vx_atS RX9 110 "java/lang/IllegalArgumentException" ["java/lang/RuntimeException", "java/lang/Exception"], vx_ot w = true := by
  intro w h
  rcases List.mem_cons.mp h with h | h
  · subst h; rfl
  · exact (by decide +kernel : ∀ w ∈ Cond.initialized "java/lang/IllegalArgumentException" :: vx_atS RX9 110 "java/lang/IllegalArgumentException" ["java/lang/RuntimeException", "java/lang/Exception"], vx_ot w = true) w h
theorem zt_iae {px0 : String → Prop} {Qc : Array Value → State → Outcome → State → Prop} {MC MS ik is : Nat} {text : String} (hF : wFx p m c cc nL s args Ts RX9) (hst : l.stackTraces = false) (hk : Cond.classLink RX9 ik "java/lang/IllegalArgumentException" ∈ Ts) (hini : Cond.initialized "java/lang/IllegalArgumentException" ∈ Ts) (hstr : (RX9, is, text) ∈ wStr) (hh : ∀ w ∈ (vx_atS RX9 110 "java/lang/IllegalArgumentException" ["java/lang/RuntimeException", "java/lang/Exception"]).filter goodWord, w ∈ Ts) (hK : wK G s) (hP : va_P G.1 vwCl w0 H) (hD : va_D A w0) (hS : va_S A s.heap H locs) (hA : ∀ q, s.heap.size ≤ q → A q) (hBd : wBd G A s s.heap) (hsize : ls.size = nL) (hnoT : ∀ x ∈ c.exceptionTable.toList, False) (hlocks : meth.locks = false) (hpx : px0 "java/lang/IllegalArgumentException")
    (d0 : decode cc pc = .ok (.new ik, 3)) (d3 : decode cc (pc + 3) = .ok (.dup, 1)) (d4 : decode cc (pc + 4) = .ok (.ldc is, 2)) (d6 : decode cc (pc + 6) = .ok (.invokespecial 110, 3)) (d9 : decode cc (pc + 9) = .ok (.athrow, 1))
    (hRframes : 5 < R.frames) (hRlocals : (rest.map fun v => v.category).sum + 82 ≤ R.locals) (hRcells : cells + 1 ≤ R.cells) (hRslots : slots + 6 ≤ R.slots) (hMC : cells + 1 ≤ MC) (hMS : slots + 6 ≤ MS) :
    W p l e R s m args below meth c H locs cells slots (vx_MQ below Qc (wX G px0 w0 A) args s MC MS A) (F0 m pc ls rest) :=
  z_throw (cls := "java/lang/IllegalArgumentException") (names := ["java/lang/RuntimeException", "java/lang/Exception"]) hF hst (by decide +kernel) (by decide +kernel) hk hini hstr (za_iae hh hF.2.2.2.2 hBd) (zg_iae ik) hK hP hD hS hA hBd hsize hnoT hlocks hpx d0 d3 d4 d6 d9 hRframes hRlocals hRcells hRslots hMC hMS
theorem zt_iaeW {px0 : String → Prop} {Qc : Array Value → State → Outcome → State → Prop} {MC MS ik is : Nat} {text : String} (hF : wFx p m c cc nL s args Ts RX9) (hst : l.stackTraces = false) (hk : Cond.classLink RX9 ik "java/lang/IllegalArgumentException" ∈ Ts) (hini : Cond.initialized "java/lang/IllegalArgumentException" ∈ Ts) (hstr : (RX9, is, text) ∈ wStr) (hh : ∀ w ∈ (vx_atS RX9 110 "java/lang/IllegalArgumentException" ["java/lang/RuntimeException", "java/lang/Exception"]).filter goodWord, w ∈ Ts) (hK : wK G s) (hP : va_P G.1 vwCl w0 H) (hD : va_D A w0) (hS : va_S A s.heap H locs) (hA : ∀ q, s.heap.size ≤ q → A q) (hBd : wBd G A s s.heap) (hsize : ls.size = nL) (hnoT : ∀ x ∈ c.exceptionTable.toList, False) (hlocks : meth.locks = false) (hpx : px0 "java/lang/IllegalArgumentException")
    (d0 : decode cc pc = .ok (.new ik, 3)) (d3 : decode cc (pc + 3) = .ok (.dup, 1)) (d4 : decode cc (pc + 4) = .ok (.ldc_w is, 3)) (d6 : decode cc (pc + 7) = .ok (.invokespecial 110, 3)) (d9 : decode cc (pc + 10) = .ok (.athrow, 1))
    (hRframes : 5 < R.frames) (hRlocals : (rest.map fun v => v.category).sum + 82 ≤ R.locals) (hRcells : cells + 1 ≤ R.cells) (hRslots : slots + 6 ≤ R.slots) (hMC : cells + 1 ≤ MC) (hMS : slots + 6 ≤ MS) :
    W p l e R s m args below meth c H locs cells slots (vx_MQ below Qc (wX G px0 w0 A) args s MC MS A) (F0 m pc ls rest) :=
  z_throwW (cls := "java/lang/IllegalArgumentException") (names := ["java/lang/RuntimeException", "java/lang/Exception"]) hF hst (by decide +kernel) (by decide +kernel) hk hini hstr (za_iae hh hF.2.2.2.2 hBd) (zg_iae ik) hK hP hD hS hA hBd hsize hnoT hlocks hpx d0 d3 d4 d6 d9 hRframes hRlocals hRcells hRslots hMC hMS
set_option maxRecDepth 20000 in
theorem za_ise (hh : ∀ w ∈ (vx_atS RX9 121 "java/lang/IllegalStateException" ["java/lang/RuntimeException", "java/lang/Exception"]).filter goodWord, w ∈ Ts) (hts : ∀ w ∈ Ts, w.before args s = true) (hBd : wBd G A s s.heap) : ∀ w ∈ vx_atS RX9 121 "java/lang/IllegalStateException" ["java/lang/RuntimeException", "java/lang/Exception"], w.before args s = true :=
  vx_hat (B := wDcl.map Cond.declares ++ [Cond.castable "java/lang/IllegalStateException" "java/lang/IllegalStateException"]) (fun w h => hts w (hh w h)) (by decide +kernel) (fun w h => by
    obtain ⟨-, -, -, -, -, -, -, -, h9, h10, -⟩ := hBd
    rcases List.mem_append.mp h with h | h
    · obtain ⟨q, hq, rfl⟩ := List.mem_map.mp h
      exact va_Nw.use rfl (h9 q hq)
    · rcases List.mem_cons.mp h with h | h
      · subst h
        exact va_Nw.use rfl (h10 eIS (by decide))
      · exact absurd h List.not_mem_nil)
set_option maxRecDepth 20000 in
theorem zg_ise (ik : Nat) : ∀ w ∈ Cond.classLink RX9 ik "java/lang/IllegalStateException" :: Cond.initialized "java/lang/IllegalStateException" :: vx_atS RX9 121 "java/lang/IllegalStateException" ["java/lang/RuntimeException", "java/lang/Exception"], vx_ot w = true := by
  intro w h
  rcases List.mem_cons.mp h with h | h
  · subst h; rfl
  · exact (by decide +kernel : ∀ w ∈ Cond.initialized "java/lang/IllegalStateException" :: vx_atS RX9 121 "java/lang/IllegalStateException" ["java/lang/RuntimeException", "java/lang/Exception"], vx_ot w = true) w h
theorem zt_ise {px0 : String → Prop} {Qc : Array Value → State → Outcome → State → Prop} {MC MS ik is : Nat} {text : String} (hF : wFx p m c cc nL s args Ts RX9) (hst : l.stackTraces = false) (hk : Cond.classLink RX9 ik "java/lang/IllegalStateException" ∈ Ts) (hini : Cond.initialized "java/lang/IllegalStateException" ∈ Ts) (hstr : (RX9, is, text) ∈ wStr) (hh : ∀ w ∈ (vx_atS RX9 121 "java/lang/IllegalStateException" ["java/lang/RuntimeException", "java/lang/Exception"]).filter goodWord, w ∈ Ts) (hK : wK G s) (hP : va_P G.1 vwCl w0 H) (hD : va_D A w0) (hS : va_S A s.heap H locs) (hA : ∀ q, s.heap.size ≤ q → A q) (hBd : wBd G A s s.heap) (hsize : ls.size = nL) (hnoT : ∀ x ∈ c.exceptionTable.toList, False) (hlocks : meth.locks = false) (hpx : px0 "java/lang/IllegalStateException")
    (d0 : decode cc pc = .ok (.new ik, 3)) (d3 : decode cc (pc + 3) = .ok (.dup, 1)) (d4 : decode cc (pc + 4) = .ok (.ldc is, 2)) (d6 : decode cc (pc + 6) = .ok (.invokespecial 121, 3)) (d9 : decode cc (pc + 9) = .ok (.athrow, 1))
    (hRframes : 5 < R.frames) (hRlocals : (rest.map fun v => v.category).sum + 82 ≤ R.locals) (hRcells : cells + 1 ≤ R.cells) (hRslots : slots + 6 ≤ R.slots) (hMC : cells + 1 ≤ MC) (hMS : slots + 6 ≤ MS) :
    W p l e R s m args below meth c H locs cells slots (vx_MQ below Qc (wX G px0 w0 A) args s MC MS A) (F0 m pc ls rest) :=
  z_throw (cls := "java/lang/IllegalStateException") (names := ["java/lang/RuntimeException", "java/lang/Exception"]) hF hst (by decide +kernel) (by decide +kernel) hk hini hstr (za_ise hh hF.2.2.2.2 hBd) (zg_ise ik) hK hP hD hS hA hBd hsize hnoT hlocks hpx d0 d3 d4 d6 d9 hRframes hRlocals hRcells hRslots hMC hMS
theorem zt_iseW {px0 : String → Prop} {Qc : Array Value → State → Outcome → State → Prop} {MC MS ik is : Nat} {text : String} (hF : wFx p m c cc nL s args Ts RX9) (hst : l.stackTraces = false) (hk : Cond.classLink RX9 ik "java/lang/IllegalStateException" ∈ Ts) (hini : Cond.initialized "java/lang/IllegalStateException" ∈ Ts) (hstr : (RX9, is, text) ∈ wStr) (hh : ∀ w ∈ (vx_atS RX9 121 "java/lang/IllegalStateException" ["java/lang/RuntimeException", "java/lang/Exception"]).filter goodWord, w ∈ Ts) (hK : wK G s) (hP : va_P G.1 vwCl w0 H) (hD : va_D A w0) (hS : va_S A s.heap H locs) (hA : ∀ q, s.heap.size ≤ q → A q) (hBd : wBd G A s s.heap) (hsize : ls.size = nL) (hnoT : ∀ x ∈ c.exceptionTable.toList, False) (hlocks : meth.locks = false) (hpx : px0 "java/lang/IllegalStateException")
    (d0 : decode cc pc = .ok (.new ik, 3)) (d3 : decode cc (pc + 3) = .ok (.dup, 1)) (d4 : decode cc (pc + 4) = .ok (.ldc_w is, 3)) (d6 : decode cc (pc + 7) = .ok (.invokespecial 121, 3)) (d9 : decode cc (pc + 10) = .ok (.athrow, 1))
    (hRframes : 5 < R.frames) (hRlocals : (rest.map fun v => v.category).sum + 82 ≤ R.locals) (hRcells : cells + 1 ≤ R.cells) (hRslots : slots + 6 ≤ R.slots) (hMC : cells + 1 ≤ MC) (hMS : slots + 6 ≤ MS) :
    W p l e R s m args below meth c H locs cells slots (vx_MQ below Qc (wX G px0 w0 A) args s MC MS A) (F0 m pc ls rest) :=
  z_throwW (cls := "java/lang/IllegalStateException") (names := ["java/lang/RuntimeException", "java/lang/Exception"]) hF hst (by decide +kernel) (by decide +kernel) hk hini hstr (za_ise hh hF.2.2.2.2 hBd) (zg_ise ik) hK hP hD hS hA hBd hsize hnoT hlocks hpx d0 d3 d4 d6 d9 hRframes hRlocals hRcells hRslots hMC hMS
set_option maxRecDepth 20000 in
theorem za_ioo (hh : ∀ w ∈ (vx_atS RX9 246 "java/lang/IndexOutOfBoundsException" ["java/lang/RuntimeException", "java/lang/Exception"]).filter goodWord, w ∈ Ts) (hts : ∀ w ∈ Ts, w.before args s = true) (hBd : wBd G A s s.heap) : ∀ w ∈ vx_atS RX9 246 "java/lang/IndexOutOfBoundsException" ["java/lang/RuntimeException", "java/lang/Exception"], w.before args s = true :=
  vx_hat (B := wDcl.map Cond.declares ++ [Cond.castable "java/lang/IndexOutOfBoundsException" "java/lang/IndexOutOfBoundsException"]) (fun w h => hts w (hh w h)) (by decide +kernel) (fun w h => by
    obtain ⟨-, -, -, -, -, -, -, -, h9, h10, -⟩ := hBd
    rcases List.mem_append.mp h with h | h
    · obtain ⟨q, hq, rfl⟩ := List.mem_map.mp h
      exact va_Nw.use rfl (h9 q hq)
    · rcases List.mem_cons.mp h with h | h
      · subst h
        exact va_Nw.use rfl (h10 eIO (by decide))
      · exact absurd h List.not_mem_nil)
set_option maxRecDepth 20000 in
theorem zg_ioo (ik : Nat) : ∀ w ∈ Cond.classLink RX9 ik "java/lang/IndexOutOfBoundsException" :: Cond.initialized "java/lang/IndexOutOfBoundsException" :: vx_atS RX9 246 "java/lang/IndexOutOfBoundsException" ["java/lang/RuntimeException", "java/lang/Exception"], vx_ot w = true := by
  intro w h
  rcases List.mem_cons.mp h with h | h
  · subst h; rfl
  · exact (by decide +kernel : ∀ w ∈ Cond.initialized "java/lang/IndexOutOfBoundsException" :: vx_atS RX9 246 "java/lang/IndexOutOfBoundsException" ["java/lang/RuntimeException", "java/lang/Exception"], vx_ot w = true) w h
theorem zt_ioo {px0 : String → Prop} {Qc : Array Value → State → Outcome → State → Prop} {MC MS ik is : Nat} {text : String} (hF : wFx p m c cc nL s args Ts RX9) (hst : l.stackTraces = false) (hk : Cond.classLink RX9 ik "java/lang/IndexOutOfBoundsException" ∈ Ts) (hini : Cond.initialized "java/lang/IndexOutOfBoundsException" ∈ Ts) (hstr : (RX9, is, text) ∈ wStr) (hh : ∀ w ∈ (vx_atS RX9 246 "java/lang/IndexOutOfBoundsException" ["java/lang/RuntimeException", "java/lang/Exception"]).filter goodWord, w ∈ Ts) (hK : wK G s) (hP : va_P G.1 vwCl w0 H) (hD : va_D A w0) (hS : va_S A s.heap H locs) (hA : ∀ q, s.heap.size ≤ q → A q) (hBd : wBd G A s s.heap) (hsize : ls.size = nL) (hnoT : ∀ x ∈ c.exceptionTable.toList, False) (hlocks : meth.locks = false) (hpx : px0 "java/lang/IndexOutOfBoundsException")
    (d0 : decode cc pc = .ok (.new ik, 3)) (d3 : decode cc (pc + 3) = .ok (.dup, 1)) (d4 : decode cc (pc + 4) = .ok (.ldc is, 2)) (d6 : decode cc (pc + 6) = .ok (.invokespecial 246, 3)) (d9 : decode cc (pc + 9) = .ok (.athrow, 1))
    (hRframes : 5 < R.frames) (hRlocals : (rest.map fun v => v.category).sum + 82 ≤ R.locals) (hRcells : cells + 1 ≤ R.cells) (hRslots : slots + 6 ≤ R.slots) (hMC : cells + 1 ≤ MC) (hMS : slots + 6 ≤ MS) :
    W p l e R s m args below meth c H locs cells slots (vx_MQ below Qc (wX G px0 w0 A) args s MC MS A) (F0 m pc ls rest) :=
  z_throw (cls := "java/lang/IndexOutOfBoundsException") (names := ["java/lang/RuntimeException", "java/lang/Exception"]) hF hst (by decide +kernel) (by decide +kernel) hk hini hstr (za_ioo hh hF.2.2.2.2 hBd) (zg_ioo ik) hK hP hD hS hA hBd hsize hnoT hlocks hpx d0 d3 d4 d6 d9 hRframes hRlocals hRcells hRslots hMC hMS
theorem zt_iooW {px0 : String → Prop} {Qc : Array Value → State → Outcome → State → Prop} {MC MS ik is : Nat} {text : String} (hF : wFx p m c cc nL s args Ts RX9) (hst : l.stackTraces = false) (hk : Cond.classLink RX9 ik "java/lang/IndexOutOfBoundsException" ∈ Ts) (hini : Cond.initialized "java/lang/IndexOutOfBoundsException" ∈ Ts) (hstr : (RX9, is, text) ∈ wStr) (hh : ∀ w ∈ (vx_atS RX9 246 "java/lang/IndexOutOfBoundsException" ["java/lang/RuntimeException", "java/lang/Exception"]).filter goodWord, w ∈ Ts) (hK : wK G s) (hP : va_P G.1 vwCl w0 H) (hD : va_D A w0) (hS : va_S A s.heap H locs) (hA : ∀ q, s.heap.size ≤ q → A q) (hBd : wBd G A s s.heap) (hsize : ls.size = nL) (hnoT : ∀ x ∈ c.exceptionTable.toList, False) (hlocks : meth.locks = false) (hpx : px0 "java/lang/IndexOutOfBoundsException")
    (d0 : decode cc pc = .ok (.new ik, 3)) (d3 : decode cc (pc + 3) = .ok (.dup, 1)) (d4 : decode cc (pc + 4) = .ok (.ldc_w is, 3)) (d6 : decode cc (pc + 7) = .ok (.invokespecial 246, 3)) (d9 : decode cc (pc + 10) = .ok (.athrow, 1))
    (hRframes : 5 < R.frames) (hRlocals : (rest.map fun v => v.category).sum + 82 ≤ R.locals) (hRcells : cells + 1 ≤ R.cells) (hRslots : slots + 6 ≤ R.slots) (hMC : cells + 1 ≤ MC) (hMS : slots + 6 ≤ MS) :
    W p l e R s m args below meth c H locs cells slots (vx_MQ below Qc (wX G px0 w0 A) args s MC MS A) (F0 m pc ls rest) :=
  z_throwW (cls := "java/lang/IndexOutOfBoundsException") (names := ["java/lang/RuntimeException", "java/lang/Exception"]) hF hst (by decide +kernel) (by decide +kernel) hk hini hstr (za_ioo hh hF.2.2.2.2 hBd) (zg_ioo ik) hK hP hD hS hA hBd hsize hnoT hlocks hpx d0 d3 d4 d6 d9 hRframes hRlocals hRcells hRslots hMC hMS
set_option maxRecDepth 20000 in
theorem za_uoe (hh : ∀ w ∈ (vx_atS RX9 227 "java/lang/UnsupportedOperationException" ["java/lang/RuntimeException", "java/lang/Exception"]).filter goodWord, w ∈ Ts) (hts : ∀ w ∈ Ts, w.before args s = true) (hBd : wBd G A s s.heap) : ∀ w ∈ vx_atS RX9 227 "java/lang/UnsupportedOperationException" ["java/lang/RuntimeException", "java/lang/Exception"], w.before args s = true :=
  vx_hat (B := wDcl.map Cond.declares ++ [Cond.castable "java/lang/UnsupportedOperationException" "java/lang/UnsupportedOperationException"]) (fun w h => hts w (hh w h)) (by decide +kernel) (fun w h => by
    obtain ⟨-, -, -, -, -, -, -, -, h9, h10, -⟩ := hBd
    rcases List.mem_append.mp h with h | h
    · obtain ⟨q, hq, rfl⟩ := List.mem_map.mp h
      exact va_Nw.use rfl (h9 q hq)
    · rcases List.mem_cons.mp h with h | h
      · subst h
        exact va_Nw.use rfl (h10 eUO (by decide))
      · exact absurd h List.not_mem_nil)
set_option maxRecDepth 20000 in
theorem zg_uoe (ik : Nat) : ∀ w ∈ Cond.classLink RX9 ik "java/lang/UnsupportedOperationException" :: Cond.initialized "java/lang/UnsupportedOperationException" :: vx_atS RX9 227 "java/lang/UnsupportedOperationException" ["java/lang/RuntimeException", "java/lang/Exception"], vx_ot w = true := by
  intro w h
  rcases List.mem_cons.mp h with h | h
  · subst h; rfl
  · exact (by decide +kernel : ∀ w ∈ Cond.initialized "java/lang/UnsupportedOperationException" :: vx_atS RX9 227 "java/lang/UnsupportedOperationException" ["java/lang/RuntimeException", "java/lang/Exception"], vx_ot w = true) w h
theorem zt_uoe {px0 : String → Prop} {Qc : Array Value → State → Outcome → State → Prop} {MC MS ik is : Nat} {text : String} (hF : wFx p m c cc nL s args Ts RX9) (hst : l.stackTraces = false) (hk : Cond.classLink RX9 ik "java/lang/UnsupportedOperationException" ∈ Ts) (hini : Cond.initialized "java/lang/UnsupportedOperationException" ∈ Ts) (hstr : (RX9, is, text) ∈ wStr) (hh : ∀ w ∈ (vx_atS RX9 227 "java/lang/UnsupportedOperationException" ["java/lang/RuntimeException", "java/lang/Exception"]).filter goodWord, w ∈ Ts) (hK : wK G s) (hP : va_P G.1 vwCl w0 H) (hD : va_D A w0) (hS : va_S A s.heap H locs) (hA : ∀ q, s.heap.size ≤ q → A q) (hBd : wBd G A s s.heap) (hsize : ls.size = nL) (hnoT : ∀ x ∈ c.exceptionTable.toList, False) (hlocks : meth.locks = false) (hpx : px0 "java/lang/UnsupportedOperationException")
    (d0 : decode cc pc = .ok (.new ik, 3)) (d3 : decode cc (pc + 3) = .ok (.dup, 1)) (d4 : decode cc (pc + 4) = .ok (.ldc is, 2)) (d6 : decode cc (pc + 6) = .ok (.invokespecial 227, 3)) (d9 : decode cc (pc + 9) = .ok (.athrow, 1))
    (hRframes : 5 < R.frames) (hRlocals : (rest.map fun v => v.category).sum + 82 ≤ R.locals) (hRcells : cells + 1 ≤ R.cells) (hRslots : slots + 6 ≤ R.slots) (hMC : cells + 1 ≤ MC) (hMS : slots + 6 ≤ MS) :
    W p l e R s m args below meth c H locs cells slots (vx_MQ below Qc (wX G px0 w0 A) args s MC MS A) (F0 m pc ls rest) :=
  z_throw (cls := "java/lang/UnsupportedOperationException") (names := ["java/lang/RuntimeException", "java/lang/Exception"]) hF hst (by decide +kernel) (by decide +kernel) hk hini hstr (za_uoe hh hF.2.2.2.2 hBd) (zg_uoe ik) hK hP hD hS hA hBd hsize hnoT hlocks hpx d0 d3 d4 d6 d9 hRframes hRlocals hRcells hRslots hMC hMS
theorem zt_uoeW {px0 : String → Prop} {Qc : Array Value → State → Outcome → State → Prop} {MC MS ik is : Nat} {text : String} (hF : wFx p m c cc nL s args Ts RX9) (hst : l.stackTraces = false) (hk : Cond.classLink RX9 ik "java/lang/UnsupportedOperationException" ∈ Ts) (hini : Cond.initialized "java/lang/UnsupportedOperationException" ∈ Ts) (hstr : (RX9, is, text) ∈ wStr) (hh : ∀ w ∈ (vx_atS RX9 227 "java/lang/UnsupportedOperationException" ["java/lang/RuntimeException", "java/lang/Exception"]).filter goodWord, w ∈ Ts) (hK : wK G s) (hP : va_P G.1 vwCl w0 H) (hD : va_D A w0) (hS : va_S A s.heap H locs) (hA : ∀ q, s.heap.size ≤ q → A q) (hBd : wBd G A s s.heap) (hsize : ls.size = nL) (hnoT : ∀ x ∈ c.exceptionTable.toList, False) (hlocks : meth.locks = false) (hpx : px0 "java/lang/UnsupportedOperationException")
    (d0 : decode cc pc = .ok (.new ik, 3)) (d3 : decode cc (pc + 3) = .ok (.dup, 1)) (d4 : decode cc (pc + 4) = .ok (.ldc_w is, 3)) (d6 : decode cc (pc + 7) = .ok (.invokespecial 227, 3)) (d9 : decode cc (pc + 10) = .ok (.athrow, 1))
    (hRframes : 5 < R.frames) (hRlocals : (rest.map fun v => v.category).sum + 82 ≤ R.locals) (hRcells : cells + 1 ≤ R.cells) (hRslots : slots + 6 ≤ R.slots) (hMC : cells + 1 ≤ MC) (hMS : slots + 6 ≤ MS) :
    W p l e R s m args below meth c H locs cells slots (vx_MQ below Qc (wX G px0 w0 A) args s MC MS A) (F0 m pc ls rest) :=
  z_throwW (cls := "java/lang/UnsupportedOperationException") (names := ["java/lang/RuntimeException", "java/lang/Exception"]) hF hst (by decide +kernel) (by decide +kernel) hk hini hstr (za_uoe hh hF.2.2.2.2 hBd) (zg_uoe ik) hK hP hD hS hA hBd hsize hnoT hlocks hpx d0 d3 d4 d6 d9 hRframes hRlocals hRcells hRslots hMC hMS
end WTHROW
