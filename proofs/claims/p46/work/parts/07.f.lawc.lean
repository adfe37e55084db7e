/-! THE LAW'S BODY: what stays, its script's ints, rows of its own -/
def xz (xs : Nat → Int32) (i : Int) : Int := (xs i.toNat).toInt
theorem xz_rg {xs : Nat → Int32} {i v : Int} (h : xz xs i = v) : -2147483648 ≤ v ∧ v < 2147483648 := by
  subst h
  exact zI_rg (xs i.toNat)
theorem xz_I {xs : Nat → Int32} {i v : Int} (h : xz xs i = v) : xs i.toNat = zI v := by
  subst h
  exact (zI_as (xs i.toNat)).symm
theorem pz (P : Prop) : ∃ z : Int, (P ↔ z = 1) := by
  by_cases h : P
  · exact ⟨1, by simp [h]⟩
  · exact ⟨0, by simp [h]⟩
theorem zI_chr (a : Int) : ((zI a).toUInt32 % 65536).toInt32 = zI (a % 65536) := by
  apply Int32.toBitVec_inj.mp
  apply BitVec.eq_of_toNat_eq
  have h1 : ((zI a).toUInt32 % 65536).toInt32.toBitVec.toNat = (zI a).toUInt32.toNat % 65536 := by
    show ((zI a).toUInt32 % 65536).toNat = _
    rw [UInt32.toNat_mod]
    rfl
  have h2 : (zI a).toUInt32.toNat = (a % 4294967296).toNat := by
    show (BitVec.ofInt 32 a).toNat = _
    rw [BitVec.toNat_ofInt]
    rfl
  have h3 : (zI (a % 65536)).toBitVec.toNat = ((a % 65536) % 4294967296).toNat := by
    show (BitVec.ofInt 32 (a % 65536)).toNat = _
    rw [BitVec.toNat_ofInt]
    rfl
  rw [h1, h2, h3]
  omega
section WLAWC
variable {p : Program} {l : Launch} {e : Env} {R : Room} {s : State} {m : MethodId} {args : Array Value} {below : List Frame} {meth : Method} {c : Code} {H : Heap} {locs : List Loc} {cells slots : Nat} {Q : State → Prop}
variable {cc : ByteArray} {nL : Nat} {Ts : List Cond} {own : String} {pc : Nat} {ls : Array Slot} {rest : List Value} {A : Nat → Prop}
theorem z_i2cM (hF : wFx p m c cc nL s args Ts own) {a : Int} (hd : decode cc pc = .ok (.i2c, 1)) (k : W p l e R s m args below meth c H locs cells slots Q (F0 m (pc + 1) ls (.int (zI (a % 65536)) :: rest))) : W p l e R s m args below meth c H locs cells slots Q (F0 m pc ls (.int (zI a) :: rest)) := lv_i2c hF.1 hF.2.1 hd (zI_chr a) k
theorem z_lcmpE (hF : wFx p m c cc nL s args Ts own) {a b : Int} (h : a = b) (hd : decode cc pc = .ok (.lcmp, 1)) (k : W p l e R s m args below meth c H locs cells slots Q (F0 m (pc + 1) ls (.int (zI 0) :: rest))) : W p l e R s m args below meth c H locs cells slots Q (F0 m pc ls (.long (zL b) :: .long (zL a) :: rest)) := by
  refine W.lcmp hF.1 hF.2.1 hd ?_
  subst h
  have e9 : lg_cmp (zL a) (zL a) = zI 0 := by
    unfold lg_cmp
    rw [if_neg (fun h : zL a < zL a => Int64.lt_irrefl h), if_pos rfl]
    rfl
  rw [e9]
  exact k
theorem z_sld {b Ln : Nat} {xs : Nat → Int32} (hF : wFx p m c cc nL s args Ts own) (hX : va_X b Ln xs s s.heap) (hbl : b < s.heap.size) (hbA : ¬ A b) (hS : va_S A s.heap H locs) {z v : Int} (hz : 0 ≤ z ∧ z < (Ln : Int)) (hL : Ln ≤ 2048) (hv : xz xs z = v) (hd : decode cc pc = .ok (.iaload, 1)) (k : W p l e R s m args below meth c H locs cells slots Q (F0 m (pc + 1) ls (.int (zI v) :: rest))) : W p l e R s m args below meth c H locs cells slots Q (F0 m pc ls (.int (zI z) :: .ref b :: rest)) := by
  refine va_sld hF.1 hF.2.1 hX hbl hbA hS (zI_in hz (by omega)) hd ?_
  rw [zI_clamp (by omega), xz_I hv]
  exact k
theorem z_slen {b Ln : Nat} {xs : Nat → Int32} (hF : wFx p m c cc nL s args Ts own) (hX : va_X b Ln xs s s.heap) (hbl : b < s.heap.size) (hbA : ¬ A b) (hS : va_S A s.heap H locs) (hd : decode cc pc = .ok (.arraylength, 1)) (k : W p l e R s m args below meth c H locs cells slots Q (F0 m (pc + 1) ls (.int (zI (Ln : Int)) :: rest))) : W p l e R s m args below meth c H locs cells slots Q (F0 m pc ls (.ref b :: rest)) := by
  refine va_slen hF.1 hF.2.1 hX hbl hbA hS hd ?_
  rw [zI_nat]
  exact k
end WLAWC
theorem z_i32 (x : Int32) : ∃ v : Int, x = zI v ∧ (-2147483648 ≤ v ∧ v < 2147483648) := zI_ex x
/-- a way on, kept from the reckoner's sight -/
def kp (P : Prop) : Prop := P
theorem kp.go {P : Prop} (h : kp P) : P := h
theorem kp.mk {P : Prop} (h : P) : kp P := h
