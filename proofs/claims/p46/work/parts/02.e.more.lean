section WMORE
variable {p : Program} {l : Launch} {e : Env} {R : Room} {s : State} {m : MethodId} {args : Array Value} {below : List Frame} {meth : Method} {c : Code} {H : Heap} {locs : List Loc} {cells slots : Nat} {Q : State → Prop}
variable {cc : ByteArray} {nL : Nat} {Ts : List Cond} {own : String} {pc : Nat} {ls : Array Slot} {rest : List Value} {G : wG} {ws : va_W} {A : Nat → Prop}
abbrev rmL (L mc ms : Nat) : Room := { frames := L, cells := mc, slots := ms, locals := 64 * L }
def zmax (a b : Int) : Int := if a < b then b else a
def zmin (a b : Int) : Int := if b < a then b else a
theorem z_max (hF : wFx p m c cc nL s args Ts own) {index : Nat} (hlink : (Cond.methodLink own index Lib.Math.max.name).before args s = true) (hstat : (Cond.static Lib.Math.max.name).before args s = true) (hini : (Cond.initialized "java/lang/Math").before args s = true) (hcode : (Cond.code Lib.Math.max.name Lib.Math.max.code 2 (some .int)).before args s = true) (hsz : ls.size = nL)
    (hframes : 1 ≤ R.frames) (hlocals : (rest.map fun v => v.category).sum + 13 ≤ R.locals) (hc : cells ≤ R.cells) (hs : slots ≤ R.slots) {a b : Int} (ha : -2147483648 ≤ a ∧ a < 2147483648) (hb : -2147483648 ≤ b ∧ b < 2147483648) (hd : decode cc pc = .ok (.invokestatic index, 3))
    (kk : W p l e R s m args below meth c H locs cells slots Q (F0 m (pc + 3) ls (.int (zI (zmax a b)) :: rest))) : W p l e R s m args below meth c H locs cells slots Q (F0 m pc ls (.int (zI b) :: .int (zI a) :: rest)) := by
  refine va_mmax hF.1 hF.2.1 (hF.2.2.1.trans hsz.symm) hF.2.2.2.1 hlink hstat hini hcode hframes hlocals hc hs hd ?_
  have e9 : (if zI a < zI b then zI b else zI a) = zI (zmax a b) := by
    unfold zmax
    by_cases q : a < b
    · rw [if_pos q, if_pos ((zI_lt ha hb).mpr q)]
    · rw [if_neg q, if_neg (fun h => q ((zI_lt ha hb).mp h))]
  rw [e9]
  exact kk
theorem z_min (hF : wFx p m c cc nL s args Ts own) {index : Nat} (hlink : (Cond.methodLink own index Lib.Math.min.name).before args s = true) (hstat : (Cond.static Lib.Math.min.name).before args s = true) (hini : (Cond.initialized "java/lang/Math").before args s = true) (hcode : (Cond.code Lib.Math.min.name Lib.Math.min.code 2 (some .int)).before args s = true) (hsz : ls.size = nL)
    (hframes : 1 ≤ R.frames) (hlocals : (rest.map fun v => v.category).sum + 13 ≤ R.locals) (hc : cells ≤ R.cells) (hs : slots ≤ R.slots) {a b : Int} (ha : -2147483648 ≤ a ∧ a < 2147483648) (hb : -2147483648 ≤ b ∧ b < 2147483648) (hd : decode cc pc = .ok (.invokestatic index, 3))
    (kk : W p l e R s m args below meth c H locs cells slots Q (F0 m (pc + 3) ls (.int (zI (zmin a b)) :: rest))) : W p l e R s m args below meth c H locs cells slots Q (F0 m pc ls (.int (zI b) :: .int (zI a) :: rest)) := by
  refine va_mmin hF.1 hF.2.1 (hF.2.2.1.trans hsz.symm) hF.2.2.2.1 hlink hstat hini hcode hframes hlocals hc hs hd ?_
  have e9 : (if zI b < zI a then zI b else zI a) = zI (zmin a b) := by
    unfold zmin
    by_cases q : b < a
    · rw [if_pos q, if_pos ((zI_lt hb ha).mpr q)]
    · rw [if_neg q, if_neg (fun h => q ((zI_lt hb ha).mp h))]
  rw [e9]
  exact kk
/-- new rows of numbers -/
theorem wcA {U : State} {c0 c1 : ClassId} {ty : FieldType} {nm : String} (h1 : U.vm.findClass nm = some c0) (h2 : U.vm.findClass nm = some c1) : c0 = c1 := Option.some.inj (h1.symm.trans h2)
theorem z_newai (hF : wFx p m c cc nL s args Ts own) (harr : (Cond.arrayClass .int).before args s = true) (hK : wK G s) (hP : va_P G.1 vwCl ws H) (hD : va_D A ws) (hS : va_S A s.heap H locs) (hA : ∀ q, s.heap.size ≤ q → A q) {n : Int} {N : Nat} (h0 : 0 ≤ n ∧ n < 2147483648) (hN : n.toNat = N) (hbytes : Nat.ble (N * componentBytes (newarray.typeOf .int)) 536870912 = true) (hcells : Nat.ble (cells + 1) R.cells = true) (hslots : Nat.ble (slots + N) R.slots = true) (hd : decode cc pc = .ok (.newarray .int, 2))
    (kk : ∀ (q : Nat) (H : Heap), va_P G.1 vwCl (ws ++ [(q, .inl (G.2.1.1, N, .inl (aI (fun _ => 0))))]) H → va_D A (ws ++ [(q, .inl (G.2.1.1, N, .inl (aI (fun _ => 0))))]) → va_S A s.heap H locs → W p l e R s m args below meth c H locs (cells + 1) (slots + N) Q (F0 m (pc + 2) ls (.ref q :: rest))) : W p l e R s m args below meth c H locs cells slots Q (F0 m pc ls (.int (zI n) :: rest)) := by
  refine va_newa (atype := .int) (ty := .int) (a0 := (N, .inl (aI (fun _ => 0)))) hF.1 hF.2.1 harr rfl hK hP hD hS hA (fun cA => rfl) (fun h => by rw [zI_0, zI_lt (by omega) (by omega)] at h; omega) (by rw [zI_clamp h0]; exact hN) (Nat.le_of_ble_eq_true hbytes) (Nat.le_of_ble_eq_true hcells) (Nat.le_of_ble_eq_true hslots) hd (fun q cA H1 hK1 hP1 hD1 hS1 => ?_)
  have e9 : cA = G.2.1.1 := by
    have h1 := (hK1.2 3 (cA, .int) rfl).2
    have h2 := (hK.2 0 (G.2.1.1, .int) rfl).2
    exact Option.some.inj (h1.symm.trans h2)
  subst e9
  exact kk q H1 hP1 hD1 hS1
theorem z_newaj (hF : wFx p m c cc nL s args Ts own) (harr : (Cond.arrayClass .long).before args s = true) (hK : wK G s) (hP : va_P G.1 vwCl ws H) (hD : va_D A ws) (hS : va_S A s.heap H locs) (hA : ∀ q, s.heap.size ≤ q → A q) {n : Int} {N : Nat} (h0 : 0 ≤ n ∧ n < 2147483648) (hN : n.toNat = N) (hbytes : Nat.ble (N * componentBytes (newarray.typeOf .long)) 536870912 = true) (hcells : Nat.ble (cells + 1) R.cells = true) (hslots : Nat.ble (slots + N) R.slots = true) (hd : decode cc pc = .ok (.newarray .long, 2))
    (kk : ∀ (q : Nat) (H : Heap), va_P G.1 vwCl (ws ++ [(q, .inl (G.2.1.2.1, N, .inr (.inl (aL (fun _ => 0)))))]) H → va_D A (ws ++ [(q, .inl (G.2.1.2.1, N, .inr (.inl (aL (fun _ => 0)))))]) → va_S A s.heap H locs → W p l e R s m args below meth c H locs (cells + 1) (slots + N) Q (F0 m (pc + 2) ls (.ref q :: rest))) : W p l e R s m args below meth c H locs cells slots Q (F0 m pc ls (.int (zI n) :: rest)) := by
  refine va_newa (atype := .long) (ty := .long) (a0 := (N, .inr (.inl (aL (fun _ => 0))))) hF.1 hF.2.1 harr rfl hK hP hD hS hA (fun cA => rfl) (fun h => by rw [zI_0, zI_lt (by omega) (by omega)] at h; omega) (by rw [zI_clamp h0]; exact hN) (Nat.le_of_ble_eq_true hbytes) (Nat.le_of_ble_eq_true hcells) (Nat.le_of_ble_eq_true hslots) hd (fun q cA H1 hK1 hP1 hD1 hS1 => ?_)
  have e9 : cA = G.2.1.2.1 := by
    have h1 := (hK1.2 3 (cA, .long) rfl).2
    have h2 := (hK.2 1 (G.2.1.2.1, .long) rfl).2
    exact Option.some.inj (h1.symm.trans h2)
  subst e9
  exact kk q H1 hP1 hD1 hS1
theorem z_newad (hF : wFx p m c cc nL s args Ts own) (harr : (Cond.arrayClass .double).before args s = true) (hK : wK G s) (hP : va_P G.1 vwCl ws H) (hD : va_D A ws) (hS : va_S A s.heap H locs) (hA : ∀ q, s.heap.size ≤ q → A q) {n : Int} {N : Nat} (h0 : 0 ≤ n ∧ n < 2147483648) (hN : n.toNat = N) (hbytes : Nat.ble (N * componentBytes (newarray.typeOf .double)) 536870912 = true) (hcells : Nat.ble (cells + 1) R.cells = true) (hslots : Nat.ble (slots + N) R.slots = true) (hd : decode cc pc = .ok (.newarray .double, 2))
    (kk : ∀ (q : Nat) (H : Heap), va_P G.1 vwCl (ws ++ [(q, .inl (G.2.1.2.2, N, .inr (.inr (.inr (.inl (aD (fun _ => FP.dconst0)))))))]) H → va_D A (ws ++ [(q, .inl (G.2.1.2.2, N, .inr (.inr (.inr (.inl (aD (fun _ => FP.dconst0)))))))]) → va_S A s.heap H locs → W p l e R s m args below meth c H locs (cells + 1) (slots + N) Q (F0 m (pc + 2) ls (.ref q :: rest))) : W p l e R s m args below meth c H locs cells slots Q (F0 m pc ls (.int (zI n) :: rest)) := by
  refine va_newa (atype := .double) (ty := .double) (a0 := (N, .inr (.inr (.inr (.inl (aD (fun _ => FP.dconst0))))))) hF.1 hF.2.1 harr rfl hK hP hD hS hA (fun cA => rfl) (fun h => by rw [zI_0, zI_lt (by omega) (by omega)] at h; omega) (by rw [zI_clamp h0]; exact hN) (Nat.le_of_ble_eq_true hbytes) (Nat.le_of_ble_eq_true hcells) (Nat.le_of_ble_eq_true hslots) hd (fun q cA H1 hK1 hP1 hD1 hS1 => ?_)
  have e9 : cA = G.2.1.2.2 := by
    have h1 := (hK1.2 3 (cA, .double) rfl).2
    have h2 := (hK.2 2 (G.2.1.2.2, .double) rfl).2
    exact Option.some.inj (h1.symm.trans h2)
  subst e9
  exact kk q H1 hP1 hD1 hS1
end WMORE
/-! lists of fields, some of them set -/
theorem sg_len {l : List Value} {n i : Nat} {v : Value} (h : l.length = n) : (l.set i v).length = n := by rw [List.length_set]; exact h
theorem sg_self {l : List Value} {n i : Nat} {v : Value} (h : l.length = n) (hi : Nat.blt i n = true) : (l.set i v)[i]? = some v := by
  rw [List.getElem?_set_self]
  rw [h]
  exact Nat.le_of_ble_eq_true hi
theorem sg_ne {l : List Value} {i j : Nat} {v w : Value} (h : i ≠ j) (hj : l[j]? = some w) : (l.set i v)[j]? = some w := by
  rw [List.getElem?_set_ne h]
  exact hj
theorem sg_lt {l : List Value} {n k : Nat} (h : l.length = n) (hi : Nat.blt k n = true) : k < l.length := by
  rw [h]
  exact Nat.le_of_ble_eq_true hi
/-! small types keep what fits them -/
theorem zc_n {z : Int} (h : 0 ≤ z ∧ z < 65536) : narrow .char (.int (zI z)) = .int (zI z) := by
  rw [show zI z = nI z.toNat from by
    obtain ⟨n, rfl⟩ : ∃ n : Nat, z = n := ⟨z.toNat, by omega⟩
    rw [Int.toNat_natCast]
    exact (zI_nat n).symm]
  exact (pk_charN (by omega)).1
theorem zc_f {z : Int} (h : 0 ≤ z ∧ z < 65536) : fits .char (.int (zI z)) = true := by
  rw [show zI z = nI z.toNat from by
    obtain ⟨n, rfl⟩ : ∃ n : Nat, z = n := ⟨z.toNat, by omega⟩
    rw [Int.toNat_natCast]
    exact (zI_nat n).symm]
  exact (pk_charN (by omega)).2
theorem zb_n {z : Int} (h : z = 0 ∨ z = 1) : narrow .boolean (.int (zI z)) = .int (zI z) := by
  rcases h with h | h <;> subst h <;> rfl
theorem zb_f {z : Int} (h : z = 0 ∨ z = 1) : fits .boolean (.int (zI z)) = true := by
  rcases h with h | h <;> subst h <;> rfl
