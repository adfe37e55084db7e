/-! THE SCRIPT read by the law's own small methods; what a method of the law may ask -/
theorem rm_fit {x y L mc ms : Nat} (h1 : x ≤ mc) (h2 : y ≤ ms) : x ≤ (rmL L mc ms).cells ∧ y ≤ (rmL L mc ms).slots := ⟨h1, h2⟩
/-- a start from which a script can be read -/
def sPc (G : wG) (b Ln : Nat) (xs : Nat → Int32) (sz : Nat) (av : List Value) : Array Value → State → Prop := va_Pc av (fun U => U.heap.size = sz ∧ b < sz ∧ va_X b Ln xs U U.heap ∧ wK G U ∧ wBd G (va_A [] sz) U U.heap)
theorem sPc_blind {G : wG} {b Ln : Nat} {xs : Nat → Int32} {sz : Nat} {av : List Value} : FrameBlind (sPc G b Ln xs sz av) := by
  intro a U g mk h
  obtain ⟨q0, q1, q2, q3, q4, q5⟩ := h
  exact ⟨q0, q1, q2, va_X.moved (u := U) (U := U.calling g mk a) (Vm.Alike.refl U.vm) q3, va_K.moved (u := U) (U := U.calling g mk a) (Vm.Alike.refl U.vm) q4, q5.blind⟩
section SCR
variable {p : Program} {l : Launch} {e : Env} {R : Room} {s : State} {m : MethodId} {args : Array Value} {below : List Frame} {meth : Method} {c : Code} {H : Heap} {locs : List Loc} {cells slots : Nat} {Q : State → Prop}
variable {cc : ByteArray} {nL : Nat} {Ts : List Cond} {own : String} {pc : Nat} {ls : Array Slot} {rest st0 : List Value} {G : wG} {ws : va_W} {A : Nat → Prop} {mc ms : Nat} {av : Array Value}
theorem z_preSs {b Ln : Nat} {xs : Nat → Int32} (hK : wK G s) (hS : va_S A s.heap H locs) (hA : ∀ q, s.heap.size ≤ q → A q) (hBd : wBd G A s s.heap) (hX : va_X b Ln xs s s.heap) (hbl : b < s.heap.size) (hbA : ¬ A b) (As : List Value) : PreS s H (sPc G b Ln xs H.size As) As := by
  have hF : ∀ q, va_A [] H.size q → A q := fun q h => by
    rcases h with ⟨k, e, h⟩ | h
    · simp at h
    · exact hA q (Nat.le_trans hS.1 h)
  exact ⟨sPc_blind, fun U hU hW => ⟨rfl, by rw [hU], Nat.lt_of_lt_of_le hbl hS.1, by rw [hU]; exact (hX.kept (hS.2.1 b hbl hbA)).moved hW.alike, va_K.moved hW.alike hK, hBd.call hS hF hU hW⟩⟩
theorem z_ofS {y : MethodName} {wsy ws' : List Cond} {rm : Room} {maxL : Nat} {ret : Option FieldType} {Qc : (Nat → Prop) → Array Value → State → Outcome → State → Prop} (l : Launch) (G : wG) (b Ln : Nat) (xs : Nat → Int32) (vs : List Value) (hy : plainName y.cls = true) (hw : wsy = Cond.code y cc maxL ret :: ws') (hsl : Nat.ble (lg_sl vs).length maxL = true)
    (body : ∀ (p : Program) (e : Env) (s : State) (m : MethodId) (args : Array Value) (below : List Frame) (meth : Method) (c : Code) (A : Nat → Prop) (ls : Array Slot) (H : Heap) (locs : List Loc), wFx p m c cc maxL s args wsy y.cls → meth.sig.returnType = ret → meth.locks = false → va_P G.1 vwCl [] H → wK G s → va_D A [] → (∀ q, s.heap.size ≤ q → A q) → va_S A s.heap H locs → wBd G A s s.heap → va_X b Ln xs s s.heap → b < s.heap.size → ¬ A b → lv_has ls maxL (lv_args 0 vs) →
      W p l e rm s m args below meth c H locs 0 0 (MQ below (Qc A) args s mc ms A) (F0 m 0 ls [])) (sz : Nat) : Met l y wsy rm (sPc G b Ln xs sz vs) (Qc (va_A [] sz)) mc ms (va_A [] sz) := by
  refine Met.ofW (cc := cc) (maxL := maxL) (ret := ret) hy hw ?_
  intro p e s m args below meth c s₁ B hml hv
  obtain ⟨rfl, hsz, hb9, hX, hK, hBd⟩ := hv
  subst hsz
  have hts := atoms_spec (ws := wsy) B.pre
  rw [lg_entry_eq]
  exact body p e s m _ below meth c _ _ _ _ ⟨B.exec, B.bytes, hml, findClass_of_methodNamed B.named, hts⟩ B.returns B.notSynchronized (fun k q h => by simp at h) hK ⟨fun i j p q h => by simp at h, fun k q h => by simp at h⟩ (fun q h => Or.inr h) va_S.rf hBd hX hb9 (fun h => by
    rcases h with ⟨k, e, h⟩ | h
    · simp at h
    · omega) (lv_entry vs (Nat.le_of_ble_eq_true hsl))
theorem cj0_i {S : Type} {post : Int32 → S → Prop} (hr : va_Run p l e R s m args below meth c H locs cells slots mc ms (F0 m pc ls st0) rest (wQi G post (fun _ => []) (va_A [] H.size) av) (va_A [] H.size)) (hP : va_P G.1 vwCl ws H) (hD : va_D A ws) (hS : va_S A s.heap H locs) (hA : ∀ q, s.heap.size ≤ q → A q)
    (kk : ∀ (r : Int32) (u : S) (H1 : Heap) (locs1 : List Loc), post r u → va_P G.1 vwCl ws H1 → va_D A ws → va_S A s.heap H1 locs1 → W p l e R s m args below meth c H1 locs1 (cells + mc) (slots + ms) Q (F0 m (pc + 3) ls (.int r :: rest))) : W p l e R s m args below meth c H locs cells slots Q (F0 m pc ls st0) := by
  refine cj_i hr hP hD hS hA [] rfl (fun _ => Nat.zero_le _) (fun r u H1 locs1 hw hP1 hD1 hS1 => ?_)
  have e : wput ws [] ([] : va_W) = ws := List.append_nil ws
  rw [e] at hP1 hD1
  exact kk r u H1 locs1 hw hP1 hD1 hS1
end SCR
theorem us3 (x : Int32) : ∃ z : Int, (x.toUInt32 >>> ((zI 3).toUInt32 &&& Int32.toUInt32 31)).toInt32 = zI z ∧ 0 ≤ z ∧ z < 536870912 := by
  have e3 : (zI 3).toUInt32 &&& Int32.toUInt32 31 = 3 := by decide +kernel
  rw [e3]
  have h1 : (x.toUInt32 >>> 3).toNat = x.toUInt32.toNat / 8 := by
    rw [UInt32.toNat_shiftRight]
    show x.toUInt32.toNat >>> 3 = _
    rw [Nat.shiftRight_eq_div_pow]
  have h2 := x.toUInt32.toNat_lt
  refine ⟨((x.toUInt32.toNat / 8 : Nat) : Int), ?_, by omega, by omega⟩
  apply Int32.toBitVec_inj.mp
  apply BitVec.eq_of_toNat_eq
  have h3 : (zI ((x.toUInt32.toNat / 8 : Nat) : Int)).toBitVec.toNat = (((x.toUInt32.toNat / 8 : Nat) : Int) % 4294967296).toNat := by
    show (BitVec.ofInt 32 _).toNat = _
    rw [BitVec.toNat_ofInt]
    rfl
  have h4 : (x.toUInt32 >>> 3).toInt32.toBitVec.toNat = (x.toUInt32 >>> 3).toNat := rfl
  rw [h3, h4, h1]
  omega
set_option maxHeartbeats 4000000 in
set_option maxRecDepth 100000 in
theorem c_L_cell (l : Launch) (G : wG) (b Ln : Nat) (xs : Nat → Int32) (k : Int) (hk : 0 ≤ k ∧ k < 1000) (hLn : Ln ≤ 2048) (z9 : Nat) : Met l yL_cell wsL_cell (rmL 1 0 0) (sPc G b Ln xs z9 [.ref b, .int (zI k)]) (wQi G (fun (_ : Int32) (_ : Unit) => True) (fun (_ : Unit) => []) (va_A [] z9)) 0 0 (va_A [] z9) := by
  refine z_ofS (Qc := fun A => wQi G (fun (_ : Int32) (_ : Unit) => True) (fun (_ : Unit) => []) A) l G b Ln xs [.ref b, .int (zI k)] (by decide) rfl rfl ?_ z9
  intro p e s m args below meth c A ls H locs hF hr hlocks hP hK hD hA hS hBd hX hbl hbA hl
  have hF : wFx p m c cL_cell 2 s args wsL_cell RL := hF
  have hl : lv_has ls 2 [(0, .ref b), (1, .int (zI k))] := hl
  have hx := hF.1
  have hb := hF.2.1
  refine lv_iload_n hx hb dL_cell_0 rfl (lv_at hl 1 rfl) ?_
  refine lv_aload_n hx hb dL_cell_1 rfl (lv_at hl 0 rfl) ?_
  refine z_slen hF hX hbl hbA hS dL_cell_2 ?_
  refine z_icmp_ge (tgt := 12) hF dL_cell_3 (by decide) (by omega) (by omega) (fun c1 => ?_) (fun c1 => ?_)
  · refine z_sipush hF dL_cell_12 (by decide) ?_
    refine lv_iload_n hx hb dL_cell_15 rfl (lv_at hl 1 rfl) ?_
    refine z_imul hF dL_cell_16 ?_
    refine z_bipush hF dL_cell_17 (by decide) ?_
    refine z_iadd hF dL_cell_19 ?_
    exact z_iret hF hr hlocks () trivial hP hK hD hS dL_cell_20
  · refine lv_aload_n hx hb dL_cell_6 rfl (lv_at hl 0 rfl) ?_
    refine lv_iload_n hx hb dL_cell_7 rfl (lv_at hl 1 rfl) ?_
    refine z_sld (v := xz xs k) hF hX hbl hbA hS (by omega) hLn rfl dL_cell_8 ?_
    refine z_goto (tgt := 20) hF dL_cell_9 (by decide) ?_
    exact z_iret hF hr hlocks () trivial hP hK hD hS dL_cell_20
set_option maxHeartbeats 4000000 in
set_option maxRecDepth 100000 in
theorem c_L_some (l : Launch) (G : wG) (b Ln : Nat) (xs : Nat → Int32) (k n : Int) (hk : 0 ≤ k ∧ k < 1000) (hn : 1 ≤ n ∧ n < 10000) (hLn : Ln ≤ 2048) (z9 : Nat) : Met l yL_some wsL_some (rmL 2 0 0) (sPc G b Ln xs z9 [.ref b, .int (zI k), .int (zI n)]) (wQi G (fun (r : Int32) (u : Int) => (0 ≤ u ∧ u < n) ∧ r = zI u) (fun (_ : Int) => []) (va_A [] z9)) 0 0 (va_A [] z9) := by
  refine z_ofS (Qc := fun A => wQi G (fun (r : Int32) (u : Int) => (0 ≤ u ∧ u < n) ∧ r = zI u) (fun (_ : Int) => []) A) l G b Ln xs [.ref b, .int (zI k), .int (zI n)] (by decide) rfl rfl ?_ z9
  intro p e s m args below meth c A ls H locs hF hr hlocks hP hK hD hA hS hBd hX hbl hbA hl
  have hF : wFx p m c cL_some 3 s args wsL_some RL := hF
  have hl : lv_has ls 3 [(0, .ref b), (1, .int (zI k)), (2, .int (zI n))] := hl
  have hx := hF.1
  have hb := hF.2.1
  refine lv_aload_n hx hb dL_some_0 rfl (lv_at hl 0 rfl) ?_
  refine lv_iload_n hx hb dL_some_1 rfl (lv_at hl 1 rfl) ?_
  refine cj0_i (va_runS (As := [.ref b, .int (zI k)]) (rest := []) hF (c_L_cell l G b Ln xs k hk hLn H.size) (va_cwS 2 hF.2.2.2.2 gL_some_L_cell rfl rfl rfl (by decide +kernel) ⟨Nat.le_of_ble_eq_true rfl, Nat.le_of_ble_eq_true rfl⟩) (z_preSs hK hS hA hBd hX hbl hbA [.ref b, .int (zI k)]) rfl rfl hl.1 rfl (lv_room (Nat.le_of_ble_eq_true rfl)) dL_some_2 ⟨Nat.le_of_ble_eq_true rfl, Nat.le_of_ble_eq_true rfl⟩) hP hD hS hA (fun r u H locs hw hP hD hS => ?_)
  refine z_iconst hF dL_some_5 ?_
  obtain ⟨z, hz, hz0, hz1⟩ := us3 r
  refine lv_iushr hx hb dL_some_6 hz ?_
  refine lv_iload_n hx hb dL_some_7 rfl (lv_at hl 2 rfl) ?_
  refine z_irem hF dL_some_8 (by omega) (by omega) ?_
  exact z_iret hF hr hlocks (z % n) ⟨⟨Int.emod_nonneg _ (by omega), Int.emod_lt_of_pos _ (by omega)⟩, rfl⟩ hP hK hD hS dL_some_9
