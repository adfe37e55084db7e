set_option maxHeartbeats 4000000 in
set_option maxRecDepth 100000 in
theorem c_X9_layoutOf (l : Launch) (G : wG) (va : Int)  (hva : 0 ≤ va ∧ va < 65536) (z9 : Nat) : Met l yX9_layoutOf wsX9_layoutOf (rmL 1 0 0) (wPc G [] z9 [.int (zI va)]) (wQr G (fun (u : Unit) => True) (fun (u : Unit) => lyT G va) (fun (u : Unit) => []) (va_A [] z9)) 0 0 (va_A [] z9) := by
  refine z_ofW (Qc := fun A => wQr G (fun (u : Unit) => True) (fun (u : Unit) => lyT G va) (fun (u : Unit) => []) A) l G [] [.int (zI va)] (by decide) rfl rfl ?_ z9
  intro p e s m args below meth c A ls H locs hF hr hlocks hinit hP hK hD hA hS hBd hl
  have hF : wFx p m c cX9_layoutOf 1 s args wsX9_layoutOf RX9 := hF
  have hl : lv_has ls 1 [(0, .int (zI va))] := hl
  have hx := hF.1
  have hb := hF.2.1
  obtain ⟨Q0, hQ⟩ : ∃ q, q = (MQ below (wQr G (fun (u : Unit) => True) (fun (u : Unit) => lyT G va) (fun (u : Unit) => []) A) args s 0 0 A) := ⟨_, rfl⟩
  rw [← hQ]
  have kf_413 : (Cond.fieldLink RX9 413 "Gammonry" "LAYOUT_B" "[I").before args s = true := hF.2.2.2.2 _ (List.mem_cons_of_mem _ (List.mem_of_getElem? (i := 0) rfl))
  have kf_417 : (Cond.fieldLink RX9 417 "Gammonry" "LAYOUT_N" "[I").before args s = true := hF.2.2.2.2 _ (List.mem_cons_of_mem _ (List.mem_of_getElem? (i := 1) rfl))
  have kf_420 : (Cond.fieldLink RX9 420 "Gammonry" "LAYOUT_H" "[I").before args s = true := hF.2.2.2.2 _ (List.mem_cons_of_mem _ (List.mem_of_getElem? (i := 2) rfl))
  have kf_423 : (Cond.fieldLink RX9 423 "Gammonry" "NO_LAYOUT" "[I").before args s = true := hF.2.2.2.2 _ (List.mem_cons_of_mem _ (List.mem_of_getElem? (i := 3) rfl))
  refine lv_iload_n hx hb dX9_layoutOf_0 rfl (lv_at hl 0 rfl) ?_
  refine z_bipush hF dX9_layoutOf_1 (by decide) ?_
  refine z_icmp_ne (tgt := 10) hF dX9_layoutOf_3 (by decide) (by omega) (by decide) (fun c_1 => ?_) (fun c_1 => ?_)
  · have hc_3 := c_1
    refine lv_iload_n hx hb dX9_layoutOf_10 rfl (lv_at hl 0 rfl) ?_
    refine z_bipush hF dX9_layoutOf_11 (by decide) ?_
    refine z_icmp_ne (tgt := 20) hF dX9_layoutOf_13 (by decide) (by omega) (by decide) (fun c_2 => ?_) (fun c_2 => ?_)
    · have hc_13 := c_2
      refine lv_iload_n hx hb dX9_layoutOf_20 rfl (lv_at hl 0 rfl) ?_
      refine z_bipush hF dX9_layoutOf_21 (by decide) ?_
      refine z_icmp_ne (tgt := 32) hF dX9_layoutOf_23 (by decide) (by omega) (by decide) (fun c_3 => ?_) (fun c_3 => ?_)
      · have hc_23 := c_3
        refine z_gets hF (tab_of hBd).2.2.2 hS kf_423 dX9_layoutOf_32 ?_
        rw [hQ]
        exact z_aret hF hr (Or.inr ⟨_, rfl⟩) hlocks () (by first | exact (lyT_h (by omega) (by omega) (by omega)).symm | exact (lyT_z (by omega) (by omega) (by omega)).symm) (trivial) hP hK hD hS dX9_layoutOf_35
      · have hc_23 := c_3
        refine z_gets hF (tab_of hBd).2.2.1 hS kf_420 dX9_layoutOf_26 ?_
        refine z_goto (tgt := 35) hF dX9_layoutOf_29 (by decide) ?_
        rw [hQ]
        exact z_aret hF hr (Or.inr ⟨_, rfl⟩) hlocks () (by first | exact (lyT_h (by omega) (by omega) (by omega)).symm | exact (lyT_z (by omega) (by omega) (by omega)).symm) (trivial) hP hK hD hS dX9_layoutOf_35
    · have hc_13 := c_2
      refine z_gets hF (tab_of hBd).2.1 hS kf_417 dX9_layoutOf_16 ?_
      rw [hQ]
      exact z_aret hF hr (Or.inr ⟨_, rfl⟩) hlocks () (lyT_n (by omega) (by omega)).symm (trivial) hP hK hD hS dX9_layoutOf_19
  · have hc_3 := c_1
    refine z_gets hF (tab_of hBd).1 hS kf_413 dX9_layoutOf_6 ?_
    rw [hQ]
    exact z_aret hF hr (Or.inr ⟨_, rfl⟩) hlocks () (lyT_b (by omega)).symm (trivial) hP hK hD hS dX9_layoutOf_9
set_option maxHeartbeats 4000000 in
set_option maxRecDepth 100000 in
theorem c_X9_menIn (l : Launch) (G : wG) (va : Int)  (z9 : Nat) : Met l yX9_menIn wsX9_menIn (rmL 1 0 0) (wPc G [] z9 [.ref (lyT G va)]) (wQi G (fun (r : Int32) (u : Unit) => r = zI (lyE va)) (fun (u : Unit) => []) (va_A [] z9)) 0 0 (va_A [] z9) := by
  refine z_ofW (Qc := fun A => wQi G (fun (r : Int32) (u : Unit) => r = zI (lyE va)) (fun (u : Unit) => []) A) l G [] [.ref (lyT G va)] (by decide) rfl rfl ?_ z9
  intro p e s m args below meth c A ls H locs hF hr hlocks hinit hP hK hD hA hS hBd hl
  have hF : wFx p m c cX9_menIn 3 s args wsX9_menIn RX9 := hF
  have hl : lv_has ls 3 [(0, .ref (lyT G va))] := hl
  have hx := hF.1
  have hb := hF.2.1
  obtain ⟨Q0, hQ⟩ : ∃ q, q = (MQ below (wQi G (fun (r : Int32) (u : Unit) => r = zI (lyE va)) (fun (u : Unit) => []) A) args s 0 0 A) := ⟨_, rfl⟩
  rw [← hQ]
  obtain ⟨nm9, hT9⟩ := lay_of hBd va
  have hM9 := lyM_le va
  refine z_iconst hF dX9_menIn_0 ?_
  refine lv_istore_n (lv' := [(1, .int (zI 0)), (0, .ref (lyT G va))]) hx hb dX9_menIn_1 rfl hl (by decide) rfl (fun ls hl => ?_)
  refine z_iconst hF dX9_menIn_2 ?_
  refine lv_istore_n (lv' := [(2, .int (zI 1)), (1, .int (zI 0)), (0, .ref (lyT G va))]) hx hb dX9_menIn_3 rfl hl (by decide) rfl (fun ls hl => ?_)
  have L4 : ∀ (n9 : Nat) (i sum : Int) (k : Nat), lyM va - k < n9 → i = 2 * (k : Int) + 1 → k ≤ lyM va → sum = lyS (lyV va) k → ∀ (H : Heap) (locs : List Loc) (ls : Array Slot), va_P G.1 vwCl [] H → va_D A [] → va_S A s.heap H locs → lv_has ls 3 [(0, .ref (lyT G va)), (1, .int (zI sum)), (2, .int (zI i))] → W p l e (rmL 1 0 0) s m args below meth c H locs 0 0 Q0 (F0 m 4 ls []) := by
    intro n9
    induction n9 with
    | zero => intro i sum k hmu; omega
    | succ n9 ih4 =>
      intro i sum k hmu4 hik hkm hsu H locs ls hP hD hS hl
      refine lv_iload_n hx hb dX9_menIn_4 rfl (lv_at hl 2 rfl) ?_
      refine lv_aload_n hx hb dX9_menIn_5 rfl (lv_at hl 0 rfl) ?_
      refine z_tlen hF hT9 hS dX9_menIn_6 ?_
      refine z_icmp_ge (tgt := 22) hF dX9_menIn_7 (by decide) (by omega) (by omega) (fun c_1 => ?_) (fun c_1 => ?_)
      · have hc_7 := c_1
        refine lv_iload_n hx hb dX9_menIn_22 rfl (lv_at hl 1 rfl) ?_
        rw [hQ]
        exact z_iret hF hr hlocks () (by rw [hsu, show k = lyM va by omega]; rfl) hP hK hD hS dX9_menIn_23
      · have hc_7 := c_1
        refine lv_iload_n hx hb dX9_menIn_10 rfl (lv_at hl 1 rfl) ?_
        refine lv_aload_n hx hb dX9_menIn_11 rfl (lv_at hl 0 rfl) ?_
        refine lv_iload_n hx hb dX9_menIn_12 rfl (lv_at hl 2 rfl) ?_
        refine z_ti hF hT9 hS ⟨by omega, by omega⟩ (Nat.ble_eq_true_of_le (by omega)) dX9_menIn_13 ?_
        refine z_iadd hF dX9_menIn_14 ?_
        refine lv_istore_n (lv' := [(1, .int (zI (sum + ((lyV va) i)))), (0, .ref (lyT G va)), (2, .int (zI i))]) hx hb dX9_menIn_15 rfl hl (by decide) rfl (fun ls hl => ?_)
        refine z_iinc (lv' := [(2, .int (zI (i + 2))), (1, .int (zI (sum + ((lyV va) i)))), (0, .ref (lyT G va))]) hF dX9_menIn_16 hl (k := 2) rfl (by decide) rfl (fun ls hl => ?_)
        refine z_goto (tgt := 4) hF dX9_menIn_19 (by decide) ?_
        exact ih4 (i + 2) (sum + ((lyV va) i)) (k + 1) (by omega) (by omega) (by omega) (by rw [hsu, hik]; rfl) H locs ls hP hD hS (lv_sub hl [2, 1, 0] rfl)
  exact L4 _ 1 0 0 (Nat.lt_succ_self _) (by omega) (by omega) rfl H locs ls hP hD hS (lv_sub hl [2, 1, 0] rfl)
set_option maxHeartbeats 4000000 in
set_option maxRecDepth 100000 in
theorem c_X0_layOut (l : Launch) (G : wG) (h0 a0 : Nat) (b : Int → Int) (va : Int)  (z9 : Nat) : Met l yX0_layOut wsX0_layOut (rmL 3 0 0) (wPc G [(h0, .inr (0, [.ref a0])), (a0, .inl (G.2.1.1, 52, .inl (aI b)))] z9 [.ref h0, .ref (lyT G va)]) (wQv G (fun (u : Unit) => True) (fun (u : Unit) => [(h0, .inr (0, [.ref a0])), (a0, .inl (G.2.1.1, 52, .inl (aI (lyP va))))]) (va_A [(h0, .inr (0, [.ref a0])), (a0, .inl (G.2.1.1, 52, .inl (aI b)))] z9)) 0 0 (va_A [(h0, .inr (0, [.ref a0])), (a0, .inl (G.2.1.1, 52, .inl (aI b)))] z9) := by
  refine z_ofW (Qc := fun A => wQv G (fun (u : Unit) => True) (fun (u : Unit) => [(h0, .inr (0, [.ref a0])), (a0, .inl (G.2.1.1, 52, .inl (aI (lyP va))))]) A) l G [(h0, .inr (0, [.ref a0])), (a0, .inl (G.2.1.1, 52, .inl (aI b)))] [.ref h0, .ref (lyT G va)] (by decide) rfl rfl ?_ z9
  intro p e s m args below meth c A ls H locs hF hr hlocks hinit hP hK hD hA hS hBd hl
  have hF : wFx p m c cX0_layOut 3 s args wsX0_layOut RX0 := hF
  have hl : lv_has ls 3 [(0, .ref h0), (1, .ref (lyT G va))] := hl
  have hx := hF.1
  have hb := hF.2.1
  obtain ⟨Q0, hQ⟩ : ∃ q, q = (MQ below (wQv G (fun (u : Unit) => True) (fun (u : Unit) => [(h0, .inr (0, [.ref a0])), (a0, .inl (G.2.1.1, 52, .inl (aI (lyP va))))]) A) args s 0 0 A) := ⟨_, rfl⟩
  rw [← hQ]
  have i_wsX00 : ∀ w ∈ wsX00, w ∈ wsX0_layOut := (fun _ h => (List.mem_cons_of_mem _ (List.mem_append_right _ h)))
  have kf_9 : (Cond.fieldLink RX0 9 "Gammonry$Board" "counts" "[I").before args s = true := hF.2.2.2.2 _ (List.mem_cons_of_mem _ (List.mem_append_left _ (List.mem_of_getElem? (i := 0) rfl)))
  obtain ⟨nm9, hT9⟩ := lay_of hBd va
  have hM9 := lyM_le va
  refine lv_aload_n hx hb dX0_layOut_0 rfl (lv_at hl 0 rfl) ?_
  refine z_get (k := 0) hF hK hP 0 rfl rfl i_wsX00 (by decide) kf_9 rfl dX0_layOut_1 ?_
  refine z_iconst hF dX0_layOut_4 ?_
  refine cj_v (va_runS (As := [.ref a0, .int (zI 0)]) (rest := []) hF (c_J7_fill_53178 l G a0 b 0   H.size) (va_cwS 2 hF.2.2.2.2 gX0_layOut_J7_fill_53178 rfl rfl rfl (by decide +kernel) ⟨Nat.le_of_ble_eq_true rfl, Nat.le_of_ble_eq_true rfl⟩) (z_preS hK hP hD hS hA hBd [1] rfl rfl [.ref a0, .int (zI 0)]) rfl rfl hl.1 rfl (lv_room (Nat.le_of_ble_eq_true rfl)) dX0_layOut_5 ⟨Nat.le_of_ble_eq_true rfl, Nat.le_of_ble_eq_true rfl⟩) hP hD hS hA [1] rfl (fun _ => Nat.le_of_ble_eq_true rfl) (fun u_1 H locs hw hP hD hS => ?_)
  have hP : va_P G.1 vwCl [(h0, .inr (0, [.ref a0])), (a0, .inl (G.2.1.1, 52, .inl (aI (fun _ => 0))))] H := hP
  have hD : va_D A [(h0, .inr (0, [.ref a0])), (a0, .inl (G.2.1.1, 52, .inl (aI (fun _ => 0))))] := hD
  obtain - := hw
  refine z_iconst hF dX0_layOut_8 ?_
  refine lv_istore_n (lv' := [(2, .int (zI 0)), (0, .ref h0), (1, .ref (lyT G va))]) hx hb dX0_layOut_9 rfl hl (by decide) rfl (fun ls hl => ?_)
  have L10 : ∀ (n9 : Nat) (i : Int) (k : Nat), lyM va - k < n9 → i = 2 * (k : Int) → k ≤ lyM va → ∀ (H : Heap) (locs : List Loc) (ls : Array Slot), va_P G.1 vwCl [(h0, .inr (0, [.ref a0])), (a0, .inl (G.2.1.1, 52, .inl (aI (lyF (lyV va) k))))] H → va_D A [(h0, .inr (0, [.ref a0])), (a0, .inl (G.2.1.1, 52, .inl (aI (lyF (lyV va) k))))] → va_S A s.heap H locs → lv_has ls 3 [(0, .ref h0), (1, .ref (lyT G va)), (2, .int (zI i))] → W p l e (rmL 3 0 0) s m args below meth c H locs 0 0 Q0 (F0 m 10 ls []) := by
    intro n9
    induction n9 with
    | zero => intro i k hmu; omega
    | succ n9 ih10 =>
      intro i k hmu10 hik hkm H locs ls hP hD hS hl
      refine lv_iload_n hx hb dX0_layOut_10 rfl (lv_at hl 2 rfl) ?_
      refine z_iconst hF dX0_layOut_11 ?_
      refine z_iadd hF dX0_layOut_12 ?_
      refine lv_aload_n hx hb dX0_layOut_13 rfl (lv_at hl 1 rfl) ?_
      refine z_tlen hF hT9 hS dX0_layOut_14 ?_
      refine z_icmp_ge (tgt := 50) hF dX0_layOut_15 (by decide) (by omega) (by omega) (fun c_3 => ?_) (fun c_3 => ?_)
      · have hc_15 := c_3
        have hP : va_P G.1 vwCl [(h0, .inr (0, [.ref a0])), (a0, .inl (G.2.1.1, 52, .inl (aI (lyP va))))] H := by rw [show ((lyP va) : Int → Int) = (lyF (lyV va) k) from (by unfold lyP; rw [show lyM va = k by omega])]; exact hP
        have hD : va_D A [(h0, .inr (0, [.ref a0])), (a0, .inl (G.2.1.1, 52, .inl (aI (lyP va))))] := by rw [show ((lyP va) : Int → Int) = (lyF (lyV va) k) from (by unfold lyP; rw [show lyM va = k by omega])]; exact hD
        rw [hQ]
        exact z_vret hF hr hlocks () (trivial) hP hK hD hS dX0_layOut_50
      · have hc_15 := c_3
        have hv1 := lyV_rg va (2 * (k : Int))
        have hv2 := lyV_rg va (2 * (k : Int) + 1)
        refine lv_aload_n hx hb dX0_layOut_18 rfl (lv_at hl 0 rfl) ?_
        refine z_iconst hF dX0_layOut_19 ?_
        refine lv_aload_n hx hb dX0_layOut_20 rfl (lv_at hl 1 rfl) ?_
        refine lv_iload_n hx hb dX0_layOut_21 rfl (lv_at hl 2 rfl) ?_
        refine z_ti hF hT9 hS ⟨by omega, by omega⟩ (Nat.ble_eq_true_of_le (by omega)) dX0_layOut_22 ?_
        refine z_tz (b := (lyV va (2 * (k : Int)))) (bx hik) ?_
        refine lv_aload_n hx hb dX0_layOut_23 rfl (lv_at hl 1 rfl) ?_
        refine lv_iload_n hx hb dX0_layOut_24 rfl (lv_at hl 2 rfl) ?_
        refine z_iconst hF dX0_layOut_25 ?_
        refine z_iadd hF dX0_layOut_26 ?_
        refine z_ti hF hT9 hS ⟨by omega, by omega⟩ (Nat.ble_eq_true_of_le (by omega)) dX0_layOut_27 ?_
        refine z_tz (b := (lyV va (2 * (k : Int) + 1))) (bx (by omega)) ?_
        refine cj_v (va_runV (As := [.int (zI 0), .int (zI (lyV va (2 * (k : Int)))), .int (zI (lyV va (2 * (k : Int) + 1)))]) (rest := []) hF (c_X0_add l G h0 a0 (lyF (lyV va) k) 0 (lyV va (2 * (k : Int))) (lyV va (2 * (k : Int) + 1))  (by omega) (by omega) H.size) (cwV 3 hF.2.2.2.2 gX0_layOut_X0_add rfl rfl rfl (by decide +kernel) ⟨Nat.le_of_ble_eq_true rfl, Nat.le_of_ble_eq_true rfl⟩) (z_preV hK hP hD hS hA hBd [0, 1] rfl rfl rfl rfl [.int (zI 0), .int (zI (lyV va (2 * (k : Int)))), .int (zI (lyV va (2 * (k : Int) + 1)))]) rfl rfl hl.1 rfl (lv_room (Nat.le_of_ble_eq_true rfl)) dX0_layOut_28 ⟨Nat.le_of_ble_eq_true rfl, Nat.le_of_ble_eq_true rfl⟩) hP hD hS hA [0, 1] rfl (fun _ => Nat.le_of_ble_eq_true rfl) (fun u_4 H locs hw hP hD hS => ?_)
        have hP : va_P G.1 vwCl [(h0, .inr (0, [.ref a0])), (a0, .inl (G.2.1.1, 52, .inl (aI (up (lyF (lyV va) k) (26 * 0 + (lyV va (2 * (k : Int)))) ((lyF (lyV va) k) (26 * 0 + (lyV va (2 * (k : Int)))) + (lyV va (2 * (k : Int) + 1)))))))] H := hP
        have hD : va_D A [(h0, .inr (0, [.ref a0])), (a0, .inl (G.2.1.1, 52, .inl (aI (up (lyF (lyV va) k) (26 * 0 + (lyV va (2 * (k : Int)))) ((lyF (lyV va) k) (26 * 0 + (lyV va (2 * (k : Int)))) + (lyV va (2 * (k : Int) + 1)))))))] := hD
        obtain - := hw
        refine lv_aload_n hx hb dX0_layOut_31 rfl (lv_at hl 0 rfl) ?_
        refine z_iconst hF dX0_layOut_32 ?_
        refine lv_aload_n hx hb dX0_layOut_33 rfl (lv_at hl 1 rfl) ?_
        refine lv_iload_n hx hb dX0_layOut_34 rfl (lv_at hl 2 rfl) ?_
        refine z_ti hF hT9 hS ⟨by omega, by omega⟩ (Nat.ble_eq_true_of_le (by omega)) dX0_layOut_35 ?_
        refine z_tz (b := (lyV va (2 * (k : Int)))) (bx hik) ?_
        refine lv_aload_n hx hb dX0_layOut_36 rfl (lv_at hl 1 rfl) ?_
        refine lv_iload_n hx hb dX0_layOut_37 rfl (lv_at hl 2 rfl) ?_
        refine z_iconst hF dX0_layOut_38 ?_
        refine z_iadd hF dX0_layOut_39 ?_
        refine z_ti hF hT9 hS ⟨by omega, by omega⟩ (Nat.ble_eq_true_of_le (by omega)) dX0_layOut_40 ?_
        refine z_tz (b := (lyV va (2 * (k : Int) + 1))) (bx (by omega)) ?_
        refine cj_v (va_runV (As := [.int (zI 1), .int (zI (lyV va (2 * (k : Int)))), .int (zI (lyV va (2 * (k : Int) + 1)))]) (rest := []) hF (c_X0_add l G h0 a0 (up (lyF (lyV va) k) (26 * 0 + (lyV va (2 * (k : Int)))) ((lyF (lyV va) k) (26 * 0 + (lyV va (2 * (k : Int)))) + (lyV va (2 * (k : Int) + 1)))) 1 (lyV va (2 * (k : Int))) (lyV va (2 * (k : Int) + 1))  (by omega) (by omega) H.size) (cwV 3 hF.2.2.2.2 gX0_layOut_X0_add rfl rfl rfl (by decide +kernel) ⟨Nat.le_of_ble_eq_true rfl, Nat.le_of_ble_eq_true rfl⟩) (z_preV hK hP hD hS hA hBd [0, 1] rfl rfl rfl rfl [.int (zI 1), .int (zI (lyV va (2 * (k : Int)))), .int (zI (lyV va (2 * (k : Int) + 1)))]) rfl rfl hl.1 rfl (lv_room (Nat.le_of_ble_eq_true rfl)) dX0_layOut_41 ⟨Nat.le_of_ble_eq_true rfl, Nat.le_of_ble_eq_true rfl⟩) hP hD hS hA [0, 1] rfl (fun _ => Nat.le_of_ble_eq_true rfl) (fun u_6 H locs hw hP hD hS => ?_)
        have hP : va_P G.1 vwCl [(h0, .inr (0, [.ref a0])), (a0, .inl (G.2.1.1, 52, .inl (aI (up (up (lyF (lyV va) k) (26 * 0 + (lyV va (2 * (k : Int)))) ((lyF (lyV va) k) (26 * 0 + (lyV va (2 * (k : Int)))) + (lyV va (2 * (k : Int) + 1)))) (26 * 1 + (lyV va (2 * (k : Int)))) ((up (lyF (lyV va) k) (26 * 0 + (lyV va (2 * (k : Int)))) ((lyF (lyV va) k) (26 * 0 + (lyV va (2 * (k : Int)))) + (lyV va (2 * (k : Int) + 1)))) (26 * 1 + (lyV va (2 * (k : Int)))) + (lyV va (2 * (k : Int) + 1)))))))] H := hP
        have hD : va_D A [(h0, .inr (0, [.ref a0])), (a0, .inl (G.2.1.1, 52, .inl (aI (up (up (lyF (lyV va) k) (26 * 0 + (lyV va (2 * (k : Int)))) ((lyF (lyV va) k) (26 * 0 + (lyV va (2 * (k : Int)))) + (lyV va (2 * (k : Int) + 1)))) (26 * 1 + (lyV va (2 * (k : Int)))) ((up (lyF (lyV va) k) (26 * 0 + (lyV va (2 * (k : Int)))) ((lyF (lyV va) k) (26 * 0 + (lyV va (2 * (k : Int)))) + (lyV va (2 * (k : Int) + 1)))) (26 * 1 + (lyV va (2 * (k : Int)))) + (lyV va (2 * (k : Int) + 1)))))))] := hD
        obtain - := hw
        rw [show (up (up (lyF (lyV va) k) (26 * 0 + (lyV va (2 * (k : Int)))) ((lyF (lyV va) k) (26 * 0 + (lyV va (2 * (k : Int)))) + (lyV va (2 * (k : Int) + 1)))) (26 * 1 + (lyV va (2 * (k : Int)))) ((up (lyF (lyV va) k) (26 * 0 + (lyV va (2 * (k : Int)))) ((lyF (lyV va) k) (26 * 0 + (lyV va (2 * (k : Int)))) + (lyV va (2 * (k : Int) + 1)))) (26 * 1 + (lyV va (2 * (k : Int)))) + (lyV va (2 * (k : Int) + 1)))) = lyF (lyV va) (k + 1) from rfl] at hP hD
        refine z_iinc (lv' := [(2, .int (zI (i + 2))), (0, .ref h0), (1, .ref (lyT G va))]) hF dX0_layOut_44 hl (k := 2) rfl (by decide) rfl (fun ls hl => ?_)
        refine z_goto (tgt := 10) hF dX0_layOut_47 (by decide) ?_
        exact ih10 (i + 2) (k + 1) (by omega) (by omega) (by omega) H locs ls hP hD hS (lv_sub hl [1, 2, 0] rfl)
  exact L10 _ 0 0 (Nat.lt_succ_self _) (by omega) (by omega) H locs ls hP hD hS (lv_sub hl [1, 2, 0] rfl)
set_option maxHeartbeats 4000000 in
set_option maxRecDepth 100000 in
theorem c_X0_isEnding (l : Launch) (G : wG) (h0 a0 : Nat) (b : Int → Int) (sd n0 : Int)  (hsd : 0 ≤ sd ∧ sd ≤ 1) (hn0 : n0 ≤ 15) (hvb : VB n0 b) (z9 : Nat) : Met l yX0_isEnding wsX0_isEnding (rmL 4 0 0) (wPc G [(h0, .inr (0, [.ref a0])), (a0, .inl (G.2.1.1, 52, .inl (aI b)))] z9 [.ref h0, .int (zI sd)]) (wQi G (fun (r : Int32) (u : Unit) => (isE b sd ∧ r = zI 1) ∨ (¬ (isE b sd) ∧ r = zI 0)) (fun (u : Unit) => [(h0, .inr (0, [.ref a0])), (a0, .inl (G.2.1.1, 52, .inl (aI b)))]) (va_A [(h0, .inr (0, [.ref a0])), (a0, .inl (G.2.1.1, 52, .inl (aI b)))] z9)) 0 0 (va_A [(h0, .inr (0, [.ref a0])), (a0, .inl (G.2.1.1, 52, .inl (aI b)))] z9) := by
  refine z_ofW (Qc := fun A => wQi G (fun (r : Int32) (u : Unit) => (isE b sd ∧ r = zI 1) ∨ (¬ (isE b sd) ∧ r = zI 0)) (fun (u : Unit) => [(h0, .inr (0, [.ref a0])), (a0, .inl (G.2.1.1, 52, .inl (aI b)))]) A) l G [(h0, .inr (0, [.ref a0])), (a0, .inl (G.2.1.1, 52, .inl (aI b)))] [.ref h0, .int (zI sd)] (by decide) rfl rfl ?_ z9
  intro p e s m args below meth c A ls H locs hF hr hlocks hinit hP hK hD hA hS hBd hl
  have hF : wFx p m c cX0_isEnding 3 s args wsX0_isEnding RX0 := hF
  have hl : lv_has ls 3 [(0, .ref h0), (1, .int (zI sd))] := hl
  have hx := hF.1
  have hb := hF.2.1
  obtain ⟨Q0, hQ⟩ : ∃ q, q = (MQ below (wQi G (fun (r : Int32) (u : Unit) => (isE b sd ∧ r = zI 1) ∨ (¬ (isE b sd) ∧ r = zI 0)) (fun (u : Unit) => [(h0, .inr (0, [.ref a0])), (a0, .inl (G.2.1.1, 52, .inl (aI b)))]) A) args s 0 0 A) := ⟨_, rfl⟩
  rw [← hQ]
  have hm9 := hvb.m hsd
  have hb9 := hvb.le (26 * sd + 0)
  have hb8 := hvb.1 (26 * sd + 0)
  have hf9 := far_rg b sd
  refine lv_aload_n hx hb dX0_isEnding_0 rfl (lv_at hl 0 rfl) ?_
  refine lv_iload_n hx hb dX0_isEnding_1 rfl (lv_at hl 1 rfl) ?_
  refine cj_i (va_runV (As := [.int (zI sd)]) (rest := []) hF (c_X0_total l G h0 a0 b sd  (by omega) H.size) (cwV 1 hF.2.2.2.2 gX0_isEnding_X0_total rfl rfl rfl (by decide +kernel) ⟨Nat.le_of_ble_eq_true rfl, Nat.le_of_ble_eq_true rfl⟩) (z_preV hK hP hD hS hA hBd [0, 1] rfl rfl rfl rfl [.int (zI sd)]) rfl rfl hl.1 rfl (lv_room (Nat.le_of_ble_eq_true rfl)) dX0_isEnding_2 ⟨Nat.le_of_ble_eq_true rfl, Nat.le_of_ble_eq_true rfl⟩) hP hD hS hA [0, 1] rfl (fun _ => Nat.le_of_ble_eq_true rfl) (fun r_2 u_1 H locs hw hP hD hS => ?_)
  have hP : va_P G.1 vwCl [(h0, .inr (0, [.ref a0])), (a0, .inl (G.2.1.1, 52, .inl (aI b)))] H := hP
  have hD : va_D A [(h0, .inr (0, [.ref a0])), (a0, .inl (G.2.1.1, 52, .inl (aI b)))] := hD
  obtain rfl := hw
  refine z_tz (b := (men b sd)) rfl ?_
  refine lv_aload_n hx hb dX0_isEnding_5 rfl (lv_at hl 0 rfl) ?_
  refine lv_iload_n hx hb dX0_isEnding_6 rfl (lv_at hl 1 rfl) ?_
  refine z_iconst hF dX0_isEnding_7 ?_
  refine cj_i (va_runV (As := [.int (zI sd), .int (zI 0)]) (rest := [.int (zI (men b sd))]) hF (c_X0_at l G h0 a0 b sd 0  (by omega) (by omega) H.size) (cwV 2 hF.2.2.2.2 gX0_isEnding_X0_at rfl rfl rfl (by decide +kernel) ⟨Nat.le_of_ble_eq_true rfl, Nat.le_of_ble_eq_true rfl⟩) (z_preV hK hP hD hS hA hBd [0, 1] rfl rfl rfl rfl [.int (zI sd), .int (zI 0)]) rfl rfl hl.1 rfl (lv_room (Nat.le_of_ble_eq_true rfl)) dX0_isEnding_8 ⟨Nat.le_of_ble_eq_true rfl, Nat.le_of_ble_eq_true rfl⟩) hP hD hS hA [0, 1] rfl (fun _ => Nat.le_of_ble_eq_true rfl) (fun r_4 u_3 H locs hw hP hD hS => ?_)
  have hP : va_P G.1 vwCl [(h0, .inr (0, [.ref a0])), (a0, .inl (G.2.1.1, 52, .inl (aI b)))] H := hP
  have hD : va_D A [(h0, .inr (0, [.ref a0])), (a0, .inl (G.2.1.1, 52, .inl (aI b)))] := hD
  obtain rfl := hw
  refine z_tz (b := (b (26 * sd + 0))) (atB_in (by omega)) ?_
  refine z_isub hF dX0_isEnding_11 ?_
  refine lv_istore_n (lv' := [(2, .int (zI ((men b sd) - (b (26 * sd + 0))))), (0, .ref h0), (1, .int (zI sd))]) hx hb dX0_isEnding_12 rfl hl (by decide) rfl (fun ls hl => ?_)
  refine lv_iload_n hx hb dX0_isEnding_13 rfl (lv_at hl 0 rfl) ?_
  refine z_iconst hF dX0_isEnding_14 ?_
  refine z_icmp_lt (tgt := 37) hF dX0_isEnding_15 (by decide) (by omega) (by decide) (fun c_5 => ?_) (fun c_5 => ?_)
  · have hc_15 := c_5
    refine z_iconst hF dX0_isEnding_37 ?_
    rw [hQ]
    exact z_zret hF hr hlocks rfl () (by unfold isE; first | exact Or.inl ⟨by omega, rfl⟩ | exact Or.inr ⟨by omega, rfl⟩) hP hK hD hS dX0_isEnding_38
  · have hc_15 := c_5
    refine lv_iload_n hx hb dX0_isEnding_18 rfl (lv_at hl 0 rfl) ?_
    refine z_iconst hF dX0_isEnding_19 ?_
    refine z_icmp_gt (tgt := 37) hF dX0_isEnding_20 (by decide) (by omega) (by decide) (fun c_6 => ?_) (fun c_6 => ?_)
    · have hc_20 := c_6
      refine z_iconst hF dX0_isEnding_37 ?_
      rw [hQ]
      exact z_zret hF hr hlocks rfl () (by unfold isE; first | exact Or.inl ⟨by omega, rfl⟩ | exact Or.inr ⟨by omega, rfl⟩) hP hK hD hS dX0_isEnding_38
    · have hc_20 := c_6
      refine lv_aload_n hx hb dX0_isEnding_23 rfl (lv_at hl 1 rfl) ?_
      refine lv_iload_n hx hb dX0_isEnding_24 rfl (lv_at hl 2 rfl) ?_
      refine cj_i (va_runV (As := [.int (zI sd)]) (rest := []) hF (c_X0_farthest l G h0 a0 b sd  (by omega) (hvb.ok (by omega)) H.size) (cwV 1 hF.2.2.2.2 gX0_isEnding_X0_farthest rfl rfl rfl (by decide +kernel) ⟨Nat.le_of_ble_eq_true rfl, Nat.le_of_ble_eq_true rfl⟩) (z_preV hK hP hD hS hA hBd [0, 1] rfl rfl rfl rfl [.int (zI sd)]) rfl rfl hl.1 rfl (lv_room (Nat.le_of_ble_eq_true rfl)) dX0_isEnding_25 ⟨Nat.le_of_ble_eq_true rfl, Nat.le_of_ble_eq_true rfl⟩) hP hD hS hA [0, 1] rfl (fun _ => Nat.le_of_ble_eq_true rfl) (fun r_8 u_7 H locs hw hP hD hS => ?_)
      have hP : va_P G.1 vwCl [(h0, .inr (0, [.ref a0])), (a0, .inl (G.2.1.1, 52, .inl (aI b)))] H := hP
      have hD : va_D A [(h0, .inr (0, [.ref a0])), (a0, .inl (G.2.1.1, 52, .inl (aI b)))] := hD
      obtain rfl := hw
      refine z_bipush hF dX0_isEnding_28 (by decide) ?_
      refine z_icmp_gt (tgt := 37) hF dX0_isEnding_30 (by decide) (by omega) (by decide) (fun c_9 => ?_) (fun c_9 => ?_)
      · have hc_30 := c_9
        refine z_iconst hF dX0_isEnding_37 ?_
        rw [hQ]
        exact z_zret hF hr hlocks rfl () (by unfold isE; first | exact Or.inl ⟨by omega, rfl⟩ | exact Or.inr ⟨by omega, rfl⟩) hP hK hD hS dX0_isEnding_38
      · have hc_30 := c_9
        refine z_iconst hF dX0_isEnding_33 ?_
        refine z_goto (tgt := 38) hF dX0_isEnding_34 (by decide) ?_
        rw [hQ]
        exact z_zret hF hr hlocks rfl () (by unfold isE; first | exact Or.inl ⟨by omega, rfl⟩ | exact Or.inr ⟨by omega, rfl⟩) hP hK hD hS dX0_isEnding_38
set_option maxHeartbeats 4000000 in
set_option maxRecDepth 100000 in
theorem c_X0_lastTwo (l : Launch) (G : wG) (h0 a0 : Nat) (b : Int → Int) (sd : Int)  (hsd : 0 ≤ sd ∧ sd ≤ 1) (hok : okB b) (z9 : Nat) : Met l yX0_lastTwo wsX0_lastTwo (rmL 4 0 0) (wPc G [(h0, .inr (0, [.ref a0])), (a0, .inl (G.2.1.1, 52, .inl (aI b)))] z9 [.ref h0, .int (zI sd)]) (wQi G (fun (r : Int32) (u : Unit) => r = zI (7 * zmax (far b sd) (near b sd) + zmin (far b sd) (near b sd))) (fun (u : Unit) => [(h0, .inr (0, [.ref a0])), (a0, .inl (G.2.1.1, 52, .inl (aI b)))]) (va_A [(h0, .inr (0, [.ref a0])), (a0, .inl (G.2.1.1, 52, .inl (aI b)))] z9)) 0 0 (va_A [(h0, .inr (0, [.ref a0])), (a0, .inl (G.2.1.1, 52, .inl (aI b)))] z9) := by
  refine z_ofW (Qc := fun A => wQi G (fun (r : Int32) (u : Unit) => r = zI (7 * zmax (far b sd) (near b sd) + zmin (far b sd) (near b sd))) (fun (u : Unit) => [(h0, .inr (0, [.ref a0])), (a0, .inl (G.2.1.1, 52, .inl (aI b)))]) A) l G [(h0, .inr (0, [.ref a0])), (a0, .inl (G.2.1.1, 52, .inl (aI b)))] [.ref h0, .int (zI sd)] (by decide) rfl rfl ?_ z9
  intro p e s m args below meth c A ls H locs hF hr hlocks hinit hP hK hD hA hS hBd hl
  have hF : wFx p m c cX0_lastTwo 5 s args wsX0_lastTwo RX0 := hF
  have hl : lv_has ls 5 [(0, .ref h0), (1, .int (zI sd))] := hl
  have hx := hF.1
  have hb := hF.2.1
  obtain ⟨Q0, hQ⟩ : ∃ q, q = (MQ below (wQi G (fun (r : Int32) (u : Unit) => r = zI (7 * zmax (far b sd) (near b sd) + zmin (far b sd) (near b sd))) (fun (u : Unit) => [(h0, .inr (0, [.ref a0])), (a0, .inl (G.2.1.1, 52, .inl (aI b)))]) A) args s 0 0 A) := ⟨_, rfl⟩
  rw [← hQ]
  have hf9 := far_rg b sd
  have ho9 := hok (26 * sd + far b sd)
  refine lv_aload_n hx hb dX0_lastTwo_0 rfl (lv_at hl 0 rfl) ?_
  refine lv_iload_n hx hb dX0_lastTwo_1 rfl (lv_at hl 1 rfl) ?_
  refine cj_i (va_runV (As := [.int (zI sd)]) (rest := []) hF (c_X0_farthest l G h0 a0 b sd  (by omega) hok H.size) (cwV 1 hF.2.2.2.2 gX0_lastTwo_X0_farthest rfl rfl rfl (by decide +kernel) ⟨Nat.le_of_ble_eq_true rfl, Nat.le_of_ble_eq_true rfl⟩) (z_preV hK hP hD hS hA hBd [0, 1] rfl rfl rfl rfl [.int (zI sd)]) rfl rfl hl.1 rfl (lv_room (Nat.le_of_ble_eq_true rfl)) dX0_lastTwo_2 ⟨Nat.le_of_ble_eq_true rfl, Nat.le_of_ble_eq_true rfl⟩) hP hD hS hA [0, 1] rfl (fun _ => Nat.le_of_ble_eq_true rfl) (fun r_2 u_1 H locs hw hP hD hS => ?_)
  have hP : va_P G.1 vwCl [(h0, .inr (0, [.ref a0])), (a0, .inl (G.2.1.1, 52, .inl (aI b)))] H := hP
  have hD : va_D A [(h0, .inr (0, [.ref a0])), (a0, .inl (G.2.1.1, 52, .inl (aI b)))] := hD
  obtain rfl := hw
  refine lv_istore_n (lv' := [(2, .int (zI (far b sd))), (0, .ref h0), (1, .int (zI sd))]) hx hb dX0_lastTwo_5 rfl hl (by decide) rfl (fun ls hl => ?_)
  have L25 : ∀ (n9 : Nat) (i xx nn : Int), (26 - i).toNat < n9 → (1 ≤ i ∧ (i ≤ far b sd ∨ i = 1)) → (0 ≤ xx ∧ xx ≤ 25) → nn = nrZ b sd xx i → xx = (if 1 < b (26 * sd + far b sd) then far b sd else 0) → ∀ (H : Heap) (locs : List Loc) (ls : Array Slot), va_P G.1 vwCl [(h0, .inr (0, [.ref a0])), (a0, .inl (G.2.1.1, 52, .inl (aI b)))] H → va_D A [(h0, .inr (0, [.ref a0])), (a0, .inl (G.2.1.1, 52, .inl (aI b)))] → va_S A s.heap H locs → lv_has ls 5 [(0, .ref h0), (1, .int (zI sd)), (2, .int (zI (far b sd))), (3, .int (zI nn)), (4, .int (zI i))] → W p l e (rmL 4 0 0) s m args below meth c H locs 0 0 Q0 (F0 m 25 ls []) := by
    intro n9
    induction n9 with
    | zero => intro i xx nn hmu; omega
    | succ n9 ih25 =>
      intro i xx nn hmu25 hzi hx9 hnn hxx H locs ls hP hD hS hl
      refine lv_iload hx hb dX0_lastTwo_25 (lv_at hl 4 rfl) ?_
      refine lv_iload_n hx hb dX0_lastTwo_27 rfl (lv_at hl 2 rfl) ?_
      refine z_icmp_ge (tgt := 54) hF dX0_lastTwo_28 (by decide) (by omega) (by omega) (fun c_3 => ?_) (fun c_3 => ?_)
      · have hc_28 := c_3
        have hne : nn = near b sd := hnn.trans (near_x hzi (by omega) hxx)
        have hn9 := near_rg (b := b) (sd := sd)
        refine lv_iload_n hx hb dX0_lastTwo_54 rfl (lv_at hl 2 rfl) ?_
        refine lv_iload_n hx hb dX0_lastTwo_55 rfl (lv_at hl 3 rfl) ?_
        refine cj_i (va_runS (As := [.int (zI (far b sd)), .int (zI nn)]) (rest := []) hF (c_X1_pair l G (far b sd) nn  (by omega) (by omega) H.size) (va_cwS 2 hF.2.2.2.2 gX0_lastTwo_X1_pair rfl rfl rfl (by decide +kernel) ⟨Nat.le_of_ble_eq_true rfl, Nat.le_of_ble_eq_true rfl⟩) (z_preS hK hP hD hS hA hBd [] rfl rfl [.int (zI (far b sd)), .int (zI nn)]) rfl rfl hl.1 rfl (lv_room (Nat.le_of_ble_eq_true rfl)) dX0_lastTwo_56 ⟨Nat.le_of_ble_eq_true rfl, Nat.le_of_ble_eq_true rfl⟩) hP hD hS hA [] rfl (fun _ => Nat.le_of_ble_eq_true rfl) (fun r_5 u_4 H locs hw hP hD hS => ?_)
        have hP : va_P G.1 vwCl [(h0, .inr (0, [.ref a0])), (a0, .inl (G.2.1.1, 52, .inl (aI b)))] H := hP
        have hD : va_D A [(h0, .inr (0, [.ref a0])), (a0, .inl (G.2.1.1, 52, .inl (aI b)))] := hD
        obtain rfl := hw
        rw [hQ]
        exact z_iret hF hr hlocks () (zI_congr (by rw [hne])) hP hK hD hS dX0_lastTwo_59
      · have hc_28 := c_3
        have ho8 := hok (26 * sd + i)
        refine lv_aload_n hx hb dX0_lastTwo_31 rfl (lv_at hl 0 rfl) ?_
        refine lv_iload_n hx hb dX0_lastTwo_32 rfl (lv_at hl 1 rfl) ?_
        refine lv_iload hx hb dX0_lastTwo_33 (lv_at hl 4 rfl) ?_
        refine cj_i (va_runV (As := [.int (zI sd), .int (zI i)]) (rest := []) hF (c_X0_at l G h0 a0 b sd i  (by omega) (by omega) H.size) (cwV 2 hF.2.2.2.2 gX0_lastTwo_X0_at rfl rfl rfl (by decide +kernel) ⟨Nat.le_of_ble_eq_true rfl, Nat.le_of_ble_eq_true rfl⟩) (z_preV hK hP hD hS hA hBd [0, 1] rfl rfl rfl rfl [.int (zI sd), .int (zI i)]) rfl rfl hl.1 rfl (lv_room (Nat.le_of_ble_eq_true rfl)) dX0_lastTwo_35 ⟨Nat.le_of_ble_eq_true rfl, Nat.le_of_ble_eq_true rfl⟩) hP hD hS hA [0, 1] rfl (fun _ => Nat.le_of_ble_eq_true rfl) (fun r_7 u_6 H locs hw hP hD hS => ?_)
        have hP : va_P G.1 vwCl [(h0, .inr (0, [.ref a0])), (a0, .inl (G.2.1.1, 52, .inl (aI b)))] H := hP
        have hD : va_D A [(h0, .inr (0, [.ref a0])), (a0, .inl (G.2.1.1, 52, .inl (aI b)))] := hD
        obtain rfl := hw
        refine z_tz (b := (b (26 * sd + i))) (atB_in (by omega)) ?_
        refine z_if_le (tgt := 46) hF dX0_lastTwo_38 (by decide) (by have := hok (26 * sd + i); omega) (fun c_8 => ?_) (fun c_8 => ?_)
        · have hc_38 := c_8
          refine lv_iload_n hx hb dX0_lastTwo_46 rfl (lv_at hl 3 rfl) ?_
          refine lv_istore_n (lv' := [(3, .int (zI nn)), (0, .ref h0), (1, .int (zI sd)), (2, .int (zI (far b sd))), (4, .int (zI i))]) hx hb dX0_lastTwo_47 rfl hl (by decide) rfl (fun ls hl => ?_)
          refine z_iinc (lv' := [(4, .int (zI (i + 1))), (3, .int (zI nn)), (0, .ref h0), (1, .int (zI sd)), (2, .int (zI (far b sd)))]) hF dX0_lastTwo_48 hl (k := 4) rfl (by decide) rfl (fun ls hl => ?_)
          refine z_goto (tgt := 25) hF dX0_lastTwo_51 (by decide) ?_
          exact ih25 (i + 1) xx nn (by omega) (by omega) hx9 (by first | exact (nrZ_t hzi.1 (by omega)).symm | exact hnn.trans (nrZ_f hzi.1 (by omega)).symm) hxx H locs ls hP hD hS (lv_sub hl [2, 3, 4, 1, 0] rfl)
        · have hc_38 := c_8
          refine lv_iload hx hb dX0_lastTwo_41 (lv_at hl 4 rfl) ?_
          refine z_goto (tgt := 47) hF dX0_lastTwo_43 (by decide) ?_
          refine lv_istore_n (lv' := [(3, .int (zI i)), (0, .ref h0), (1, .int (zI sd)), (2, .int (zI (far b sd))), (4, .int (zI i))]) hx hb dX0_lastTwo_47 rfl hl (by decide) rfl (fun ls hl => ?_)
          refine z_iinc (lv' := [(4, .int (zI (i + 1))), (3, .int (zI i)), (0, .ref h0), (1, .int (zI sd)), (2, .int (zI (far b sd)))]) hF dX0_lastTwo_48 hl (k := 4) rfl (by decide) rfl (fun ls hl => ?_)
          refine z_goto (tgt := 25) hF dX0_lastTwo_51 (by decide) ?_
          exact ih25 (i + 1) xx i (by omega) (by omega) hx9 (by first | exact (nrZ_t hzi.1 (by omega)).symm | exact hnn.trans (nrZ_f hzi.1 (by omega)).symm) hxx H locs ls hP hD hS (lv_sub hl [2, 3, 4, 1, 0] rfl)
  refine lv_aload_n hx hb dX0_lastTwo_6 rfl (lv_at hl 1 rfl) ?_
  refine lv_iload_n hx hb dX0_lastTwo_7 rfl (lv_at hl 2 rfl) ?_
  refine lv_iload_n hx hb dX0_lastTwo_8 rfl (lv_at hl 0 rfl) ?_
  refine cj_i (va_runV (As := [.int (zI sd), .int (zI (far b sd))]) (rest := []) hF (c_X0_at l G h0 a0 b sd (far b sd)  (by omega) (by omega) H.size) (cwV 2 hF.2.2.2.2 gX0_lastTwo_X0_at rfl rfl rfl (by decide +kernel) ⟨Nat.le_of_ble_eq_true rfl, Nat.le_of_ble_eq_true rfl⟩) (z_preV hK hP hD hS hA hBd [0, 1] rfl rfl rfl rfl [.int (zI sd), .int (zI (far b sd))]) rfl rfl hl.1 rfl (lv_room (Nat.le_of_ble_eq_true rfl)) dX0_lastTwo_9 ⟨Nat.le_of_ble_eq_true rfl, Nat.le_of_ble_eq_true rfl⟩) hP hD hS hA [0, 1] rfl (fun _ => Nat.le_of_ble_eq_true rfl) (fun r_10 u_9 H locs hw hP hD hS => ?_)
  have hP : va_P G.1 vwCl [(h0, .inr (0, [.ref a0])), (a0, .inl (G.2.1.1, 52, .inl (aI b)))] H := hP
  have hD : va_D A [(h0, .inr (0, [.ref a0])), (a0, .inl (G.2.1.1, 52, .inl (aI b)))] := hD
  obtain rfl := hw
  refine z_tz (b := (b (26 * sd + (far b sd)))) (atB_in (by omega)) ?_
  refine z_iconst hF dX0_lastTwo_12 ?_
  refine z_icmp_le (tgt := 20) hF dX0_lastTwo_13 (by decide) (by have := hok (26 * sd + (far b sd)); omega) (by decide) (fun c_11 => ?_) (fun c_11 => ?_)
  · have hc_13 := c_11
    refine z_iconst hF dX0_lastTwo_20 ?_
    refine lv_istore_n (lv' := [(3, .int (zI 0)), (2, .int (zI (far b sd))), (0, .ref h0), (1, .int (zI sd))]) hx hb dX0_lastTwo_21 rfl hl (by decide) rfl (fun ls hl => ?_)
    refine z_iconst hF dX0_lastTwo_22 ?_
    refine lv_istore (lv' := [(4, .int (zI 1)), (3, .int (zI 0)), (2, .int (zI (far b sd))), (0, .ref h0), (1, .int (zI sd))]) hx hb dX0_lastTwo_23 hl (by decide) rfl (fun ls hl => ?_)
    exact L25 _ 1 0 0 (Nat.lt_succ_self _) (by omega) (by omega) (nrZ_1 _ _ _).symm (by first | exact (if_pos (by omega)).symm | exact (if_neg (by omega)).symm) H locs ls hP hD hS (lv_sub hl [3, 4, 2, 1, 0] rfl)
  · have hc_13 := c_11
    refine lv_iload_n hx hb dX0_lastTwo_16 rfl (lv_at hl 0 rfl) ?_
    refine z_goto (tgt := 21) hF dX0_lastTwo_17 (by decide) ?_
    refine lv_istore_n (lv' := [(3, .int (zI (far b sd))), (2, .int (zI (far b sd))), (0, .ref h0), (1, .int (zI sd))]) hx hb dX0_lastTwo_21 rfl hl (by decide) rfl (fun ls hl => ?_)
    refine z_iconst hF dX0_lastTwo_22 ?_
    refine lv_istore (lv' := [(4, .int (zI 1)), (3, .int (zI (far b sd))), (2, .int (zI (far b sd))), (0, .ref h0), (1, .int (zI sd))]) hx hb dX0_lastTwo_23 hl (by decide) rfl (fun ls hl => ?_)
    exact L25 _ 1 (far b sd) (far b sd) (Nat.lt_succ_self _) (by omega) (by omega) (nrZ_1 _ _ _).symm (by first | exact (if_pos (by omega)).symm | exact (if_neg (by omega)).symm) H locs ls hP hD hS (lv_sub hl [3, 4, 2, 1, 0] rfl)
set_option maxHeartbeats 4000000 in
set_option maxRecDepth 100000 in
theorem c_X3_replay (l : Launch) (G : wG) (h0 a0 b0 c1 g0 g1 : Nat) (fd fn fr0 b : Int → Int) (tu va fi n0 : Int) (T : List Row)  (hva : 0 ≤ va ∧ va < 65536) (hn0 : n0 ≤ 15) (hvb : VB n0 (lyP va)) (hfi : 0 ≤ fi ∧ fi ≤ 1) (htu : tu = (T.length : Int) ∧ tu ≤ 512) (hfr : ∀ k : Nat, k < T.length → fr0 k = rc (T.getD k [])) (hlT : lgT fi (lyP va) T) (z9 : Nat) : Met l yX3_replay wsX3_replay (rmL 4 0 0) (wPc G [(h0, .inr (3, [.ref a0, .ref b0, .ref c1, .int (zI tu), .int (zI va), .int (zI fi)])), (a0, .inl (G.2.1.1, 512, .inl (aI fd))), (b0, .inl (G.2.1.1, 512, .inl (aI fn))), (c1, .inl (G.2.1.1, 512, .inl (aI fr0))), (g0, .inr (0, [.ref g1])), (g1, .inl (G.2.1.1, 52, .inl (aI b)))] z9 [.ref h0, .ref g0]) (wQv G (fun (u : Unit) => True) (fun (u : Unit) => [(h0, .inr (3, [.ref a0, .ref b0, .ref c1, .int (zI tu), .int (zI va), .int (zI fi)])), (a0, .inl (G.2.1.1, 512, .inl (aI fd))), (b0, .inl (G.2.1.1, 512, .inl (aI fn))), (c1, .inl (G.2.1.1, 512, .inl (aI fr0))), (g0, .inr (0, [.ref g1])), (g1, .inl (G.2.1.1, 52, .inl (aI (rpB fi (lyP va) T))))]) (va_A [(h0, .inr (3, [.ref a0, .ref b0, .ref c1, .int (zI tu), .int (zI va), .int (zI fi)])), (a0, .inl (G.2.1.1, 512, .inl (aI fd))), (b0, .inl (G.2.1.1, 512, .inl (aI fn))), (c1, .inl (G.2.1.1, 512, .inl (aI fr0))), (g0, .inr (0, [.ref g1])), (g1, .inl (G.2.1.1, 52, .inl (aI b)))] z9)) 0 0 (va_A [(h0, .inr (3, [.ref a0, .ref b0, .ref c1, .int (zI tu), .int (zI va), .int (zI fi)])), (a0, .inl (G.2.1.1, 512, .inl (aI fd))), (b0, .inl (G.2.1.1, 512, .inl (aI fn))), (c1, .inl (G.2.1.1, 512, .inl (aI fr0))), (g0, .inr (0, [.ref g1])), (g1, .inl (G.2.1.1, 52, .inl (aI b)))] z9) := by
  refine z_ofW (Qc := fun A => wQv G (fun (u : Unit) => True) (fun (u : Unit) => [(h0, .inr (3, [.ref a0, .ref b0, .ref c1, .int (zI tu), .int (zI va), .int (zI fi)])), (a0, .inl (G.2.1.1, 512, .inl (aI fd))), (b0, .inl (G.2.1.1, 512, .inl (aI fn))), (c1, .inl (G.2.1.1, 512, .inl (aI fr0))), (g0, .inr (0, [.ref g1])), (g1, .inl (G.2.1.1, 52, .inl (aI (rpB fi (lyP va) T))))]) A) l G [(h0, .inr (3, [.ref a0, .ref b0, .ref c1, .int (zI tu), .int (zI va), .int (zI fi)])), (a0, .inl (G.2.1.1, 512, .inl (aI fd))), (b0, .inl (G.2.1.1, 512, .inl (aI fn))), (c1, .inl (G.2.1.1, 512, .inl (aI fr0))), (g0, .inr (0, [.ref g1])), (g1, .inl (G.2.1.1, 52, .inl (aI b)))] [.ref h0, .ref g0] (by decide) rfl rfl ?_ z9
  intro p e s m args below meth c A ls H locs hF hr hlocks hinit hP hK hD hA hS hBd hl
  have hF : wFx p m c cX3_replay 4 s args wsX3_replay RX3 := hF
  have hl : lv_has ls 4 [(0, .ref h0), (1, .ref g0)] := hl
  have hx := hF.1
  have hb := hF.2.1
  obtain ⟨Q0, hQ⟩ : ∃ q, q = (MQ below (wQv G (fun (u : Unit) => True) (fun (u : Unit) => [(h0, .inr (3, [.ref a0, .ref b0, .ref c1, .int (zI tu), .int (zI va), .int (zI fi)])), (a0, .inl (G.2.1.1, 512, .inl (aI fd))), (b0, .inl (G.2.1.1, 512, .inl (aI fn))), (c1, .inl (G.2.1.1, 512, .inl (aI fr0))), (g0, .inr (0, [.ref g1])), (g1, .inl (G.2.1.1, 52, .inl (aI (rpB fi (lyP va) T))))]) A) args s 0 0 A) := ⟨_, rfl⟩
  rw [← hQ]
  have i_wsX30 : ∀ w ∈ wsX30, w ∈ wsX3_replay := (fun _ h => (List.mem_cons_of_mem _ (List.mem_append_left _ (List.mem_append_right _ h))))
  have kf_18 : (Cond.fieldLink RX3 18 "Gammonry$History" "rows" "[I").before args s = true := hF.2.2.2.2 _ (List.mem_cons_of_mem _ (List.mem_append_left _ (List.mem_append_left _ (List.mem_append_left _ (List.mem_of_getElem? (i := 3) rfl)))))
  have kf_21 : (Cond.fieldLink RX3 21 "Gammonry$History" "turns" "I").before args s = true := hF.2.2.2.2 _ (List.mem_cons_of_mem _ (List.mem_append_left _ (List.mem_append_left _ (List.mem_append_left _ (List.mem_of_getElem? (i := 2) rfl)))))
  have kf_25 : (Cond.fieldLink RX3 25 "Gammonry$History" "variant" "C").before args s = true := hF.2.2.2.2 _ (List.mem_cons_of_mem _ (List.mem_append_left _ (List.mem_append_left _ (List.mem_append_left _ (List.mem_of_getElem? (i := 0) rfl)))))
  have kf_29 : (Cond.fieldLink RX3 29 "Gammonry$History" "first" "I").before args s = true := hF.2.2.2.2 _ (List.mem_cons_of_mem _ (List.mem_append_left _ (List.mem_append_left _ (List.mem_append_left _ (List.mem_of_getElem? (i := 1) rfl)))))
  have ks_yX9_layoutOf : (Cond.static yX9_layoutOf).before args s = true := hF.2.2.2.2 _ (List.mem_cons_of_mem _ (List.mem_append_left _ (List.mem_append_left _ (List.mem_append_left _ (List.mem_of_getElem? (i := 4) rfl)))))
  have kt_RX9 : (Cond.initialized RX9).before args s = true := hF.2.2.2.2 _ (List.mem_cons_of_mem _ (List.mem_append_left _ (List.mem_append_left _ (List.mem_append_left _ (List.mem_of_getElem? (i := 5) rfl)))))
  refine lv_aload_n hx hb dX3_replay_0 rfl (lv_at hl 1 rfl) ?_
  refine lv_aload_n hx hb dX3_replay_1 rfl (lv_at hl 0 rfl) ?_
  refine z_get (k := 4) hF hK hP 0 rfl rfl i_wsX30 (by decide) kf_25 rfl dX3_replay_2 ?_
  refine cj_r (va_runSN (As := [.int (zI va)]) (rest := [.ref g0]) hF (c_X9_layoutOf l G va  (by omega) H.size) ⟨va_cnB 1 hF.2.2.2.2 gX3_replay_X9_layoutOf_n32 rfl rfl rfl (hBd.2.1 (RX3, 32, yX9_layoutOf, RX9) (by decide)) kt_RX9 (by decide +kernel) ⟨Nat.le_of_ble_eq_true rfl, Nat.le_of_ble_eq_true rfl⟩, ks_yX9_layoutOf, trivial⟩ (z_preS hK hP hD hS hA hBd [] rfl rfl [.int (zI va)]) rfl rfl hl.1 rfl (lv_room (Nat.le_of_ble_eq_true rfl)) dX3_replay_5 ⟨Nat.le_of_ble_eq_true rfl, Nat.le_of_ble_eq_true rfl⟩) hP hD hS hA [] rfl (fun _ => Nat.le_of_ble_eq_true rfl) (fun u_1 H locs hw hP hD hS => ?_)
  have hP : va_P G.1 vwCl [(h0, .inr (3, [.ref a0, .ref b0, .ref c1, .int (zI tu), .int (zI va), .int (zI fi)])), (a0, .inl (G.2.1.1, 512, .inl (aI fd))), (b0, .inl (G.2.1.1, 512, .inl (aI fn))), (c1, .inl (G.2.1.1, 512, .inl (aI fr0))), (g0, .inr (0, [.ref g1])), (g1, .inl (G.2.1.1, 52, .inl (aI b)))] H := hP
  have hD : va_D A [(h0, .inr (3, [.ref a0, .ref b0, .ref c1, .int (zI tu), .int (zI va), .int (zI fi)])), (a0, .inl (G.2.1.1, 512, .inl (aI fd))), (b0, .inl (G.2.1.1, 512, .inl (aI fn))), (c1, .inl (G.2.1.1, 512, .inl (aI fr0))), (g0, .inr (0, [.ref g1])), (g1, .inl (G.2.1.1, 52, .inl (aI b)))] := hD
  obtain - := hw
  refine cj_v (va_runV (As := [.ref (lyT G va)]) (rest := []) hF (c_X0_layOut l G g0 g1 b va   H.size) (cwV 1 hF.2.2.2.2 gX3_replay_X0_layOut rfl rfl rfl (by decide +kernel) ⟨Nat.le_of_ble_eq_true rfl, Nat.le_of_ble_eq_true rfl⟩) (z_preV hK hP hD hS hA hBd [4, 5] rfl rfl rfl rfl [.ref (lyT G va)]) rfl rfl hl.1 rfl (lv_room (Nat.le_of_ble_eq_true rfl)) dX3_replay_8 ⟨Nat.le_of_ble_eq_true rfl, Nat.le_of_ble_eq_true rfl⟩) hP hD hS hA [4, 5] rfl (fun _ => Nat.le_of_ble_eq_true rfl) (fun u_3 H locs hw hP hD hS => ?_)
  have hP : va_P G.1 vwCl [(h0, .inr (3, [.ref a0, .ref b0, .ref c1, .int (zI tu), .int (zI va), .int (zI fi)])), (a0, .inl (G.2.1.1, 512, .inl (aI fd))), (b0, .inl (G.2.1.1, 512, .inl (aI fn))), (c1, .inl (G.2.1.1, 512, .inl (aI fr0))), (g0, .inr (0, [.ref g1])), (g1, .inl (G.2.1.1, 52, .inl (aI (lyP va))))] H := hP
  have hD : va_D A [(h0, .inr (3, [.ref a0, .ref b0, .ref c1, .int (zI tu), .int (zI va), .int (zI fi)])), (a0, .inl (G.2.1.1, 512, .inl (aI fd))), (b0, .inl (G.2.1.1, 512, .inl (aI fn))), (c1, .inl (G.2.1.1, 512, .inl (aI fr0))), (g0, .inr (0, [.ref g1])), (g1, .inl (G.2.1.1, 52, .inl (aI (lyP va))))] := hD
  obtain - := hw
  refine lv_aload_n hx hb dX3_replay_11 rfl (lv_at hl 0 rfl) ?_
  refine z_get (k := 5) hF hK hP 0 rfl rfl i_wsX30 (by decide) kf_29 rfl dX3_replay_12 ?_
  refine lv_istore_n (lv' := [(2, .int (zI fi)), (0, .ref h0), (1, .ref g0)]) hx hb dX3_replay_15 rfl hl (by decide) rfl (fun ls hl => ?_)
  refine z_iconst hF dX3_replay_16 ?_
  refine lv_istore_n (lv' := [(3, .int (zI 0)), (2, .int (zI fi)), (0, .ref h0), (1, .ref g0)]) hx hb dX3_replay_17 rfl hl (by decide) rfl (fun ls hl => ?_)
  have L18 : ∀ (n9 : Nat) (sd i : Int) (c0 : Int → Int) (t : List Row), (512 - i).toNat < n9 → (0 ≤ sd ∧ sd ≤ 1) → (0 ≤ i ∧ i ≤ tu) → i + (t.length : Int) = tu → (∀ k : Nat, k < t.length → fr0 (i + k) = rc (t.getD k [])) → VB n0 c0 → lgT sd c0 t → rpB sd c0 t = rpB fi (lyP va) T → ∀ (H : Heap) (locs : List Loc) (ls : Array Slot), va_P G.1 vwCl [(h0, .inr (3, [.ref a0, .ref b0, .ref c1, .int (zI tu), .int (zI va), .int (zI fi)])), (a0, .inl (G.2.1.1, 512, .inl (aI fd))), (b0, .inl (G.2.1.1, 512, .inl (aI fn))), (c1, .inl (G.2.1.1, 512, .inl (aI fr0))), (g0, .inr (0, [.ref g1])), (g1, .inl (G.2.1.1, 52, .inl (aI c0)))] H → va_D A [(h0, .inr (3, [.ref a0, .ref b0, .ref c1, .int (zI tu), .int (zI va), .int (zI fi)])), (a0, .inl (G.2.1.1, 512, .inl (aI fd))), (b0, .inl (G.2.1.1, 512, .inl (aI fn))), (c1, .inl (G.2.1.1, 512, .inl (aI fr0))), (g0, .inr (0, [.ref g1])), (g1, .inl (G.2.1.1, 52, .inl (aI c0)))] → va_S A s.heap H locs → lv_has ls 4 [(0, .ref h0), (1, .ref g0), (2, .int (zI sd)), (3, .int (zI i))] → W p l e (rmL 4 0 0) s m args below meth c H locs 0 0 Q0 (F0 m 18 ls []) := by
    intro n9
    induction n9 with
    | zero => intro sd i c0 t hmu; omega
    | succ n9 ih18 =>
      intro sd i c0 t hmu18 hsd hzi htl hfa hvc hlt hpo H locs ls hP hD hS hl
      refine lv_iload_n hx hb dX3_replay_18 rfl (lv_at hl 3 rfl) ?_
      refine lv_aload_n hx hb dX3_replay_19 rfl (lv_at hl 0 rfl) ?_
      refine z_get (k := 3) hF hK hP 0 rfl rfl i_wsX30 (by decide) kf_21 rfl dX3_replay_20 ?_
      refine z_icmp_ge (tgt := 55) hF dX3_replay_23 (by decide) (by omega) (by omega) (fun c_5 => ?_) (fun c_5 => ?_)
      · have hc_23 := c_5
        have ht0 : t = [] := List.eq_nil_of_length_eq_zero (by omega)
        subst ht0
        rw [show c0 = rpB fi (lyP va) T from hpo] at hP hD
        rw [hQ]
        exact z_vret hF hr hlocks () (trivial) hP hK hD hS dX3_replay_55
      · have hc_23 := c_5
        refine lv_iload_n hx hb dX3_replay_26 rfl (lv_at hl 3 rfl) ?_
        refine z_sipush hF dX3_replay_27 (by decide) ?_
        refine z_icmp_ge (tgt := 55) hF dX3_replay_30 (by decide) (by omega) (by decide) (fun c_6 => ?_) (fun c_6 => ?_)
        · have hc_30 := c_6
          have ht0 : t = [] := List.eq_nil_of_length_eq_zero (by omega)
          subst ht0
          rw [show c0 = rpB fi (lyP va) T from hpo] at hP hD
          rw [hQ]
          exact z_vret hF hr hlocks () (trivial) hP hK hD hS dX3_replay_55
        · have hc_30 := c_6
          obtain ⟨q, t9, e9⟩ := List.exists_cons_of_ne_nil (show t ≠ [] by intro h9; subst h9; simp at htl; omega)
          subst e9
          have hz9 : fr0 i = rc q := by have h9 := hfa 0 (Nat.zero_lt_succ _); rw [show i + ((0 : Nat) : Int) = i by omega] at h9; exact h9
          refine lv_aload_n hx hb dX3_replay_33 rfl (lv_at hl 1 rfl) ?_
          refine lv_iload_n hx hb dX3_replay_34 rfl (lv_at hl 2 rfl) ?_
          refine lv_aload_n hx hb dX3_replay_35 rfl (lv_at hl 0 rfl) ?_
          refine z_get (k := 2) hF hK hP 0 rfl rfl i_wsX30 (by decide) kf_18 rfl dX3_replay_36 ?_
          refine lv_iload_n hx hb dX3_replay_39 rfl (lv_at hl 3 rfl) ?_
          refine z_iald hF hK hP 3 rfl (by omega) rfl dX3_replay_40 ?_
          refine cj_i (va_runV (As := [.int (zI sd), .int (zI (fr0 i))]) (rest := []) hF (c_X0_carry l G g0 g1 c0 sd n0 (fr0 i) q  (by omega) (by omega) hz9 hlt.1 hlt.2.1 hvc H.size) (cwV 2 hF.2.2.2.2 gX3_replay_X0_carry rfl rfl rfl (by decide +kernel) ⟨Nat.le_of_ble_eq_true rfl, Nat.le_of_ble_eq_true rfl⟩) (z_preV hK hP hD hS hA hBd [4, 5] rfl rfl rfl rfl [.int (zI sd), .int (zI (fr0 i))]) rfl rfl hl.1 rfl (lv_room (Nat.le_of_ble_eq_true rfl)) dX3_replay_41 ⟨Nat.le_of_ble_eq_true rfl, Nat.le_of_ble_eq_true rfl⟩) hP hD hS hA [4, 5] rfl (fun _ => Nat.le_of_ble_eq_true rfl) (fun r_8 u_7 H locs hw hP hD hS => ?_)
          have hP : va_P G.1 vwCl [(h0, .inr (3, [.ref a0, .ref b0, .ref c1, .int (zI tu), .int (zI va), .int (zI fi)])), (a0, .inl (G.2.1.1, 512, .inl (aI fd))), (b0, .inl (G.2.1.1, 512, .inl (aI fn))), (c1, .inl (G.2.1.1, 512, .inl (aI fr0))), (g0, .inr (0, [.ref g1])), (g1, .inl (G.2.1.1, 52, .inl (aI (poR sd c0 q))))] H := hP
          have hD : va_D A [(h0, .inr (3, [.ref a0, .ref b0, .ref c1, .int (zI tu), .int (zI va), .int (zI fi)])), (a0, .inl (G.2.1.1, 512, .inl (aI fd))), (b0, .inl (G.2.1.1, 512, .inl (aI fn))), (c1, .inl (G.2.1.1, 512, .inl (aI fr0))), (g0, .inr (0, [.ref g1])), (g1, .inl (G.2.1.1, 52, .inl (aI (poR sd c0 q))))] := hD
          obtain rfl := hw
          refine lv_pop hx hb dX3_replay_44 rfl ?_
          refine z_iconst hF dX3_replay_45 ?_
          refine lv_iload_n hx hb dX3_replay_46 rfl (lv_at hl 2 rfl) ?_
          refine z_isub hF dX3_replay_47 ?_
          refine lv_istore_n (lv' := [(2, .int (zI (1 - sd))), (0, .ref h0), (1, .ref g0), (3, .int (zI i))]) hx hb dX3_replay_48 rfl hl (by decide) rfl (fun ls hl => ?_)
          refine z_iinc (lv' := [(3, .int (zI (i + 1))), (2, .int (zI (1 - sd))), (0, .ref h0), (1, .ref g0)]) hF dX3_replay_49 hl (k := 3) rfl (by decide) rfl (fun ls hl => ?_)
          refine z_goto (tgt := 18) hF dX3_replay_52 (by decide) ?_
          exact ih18 (1 - sd) (i + 1) (poR sd c0 q) t9 (by omega) (by omega) (by simp at htl; omega) (by simp at htl; omega) (fun k hk => by have h9 := hfa (k + 1) (by simpa using hk); rw [show i + 1 + (k : Int) = i + ((k + 1 : Nat) : Int) by omega, h9]; rfl) (lgR_VB hsd hlt.2.1 hvc) hlt.2.2 hpo H locs ls hP hD hS (lv_sub hl [2, 3, 1, 0] rfl)
  exact L18 _ fi 0 (lyP va) T (Nat.lt_succ_self _) hfi (by omega) (by omega) (fun k hk => by rw [Int.zero_add]; exact hfr k hk) hvb hlT rfl H locs ls hP hD hS (lv_sub hl [2, 3, 1, 0] rfl)
set_option maxHeartbeats 4000000 in
set_option maxRecDepth 100000 in
theorem c_X2_of (l : Launch) (G : wG) (h0 a0 : Nat) (kn : Int → Int) (ra : Int) (x2 y2 : Int)  (hx25 : 0 ≤ x2 ∧ x2 ≤ 25) (hy25 : 0 ≤ y2 ∧ y2 ≤ 25) (hra : 0 ≤ ra ∧ ra ≤ 100) (z9 : Nat) : Met l yX2_of wsX2_of (rmL 3 0 0) (wPc G [(h0, .inr (2, [.ref a0, .int (zI ra)])), (a0, .inl (G.2.1.2.1, 676, .inr (.inl (aL kn))))] z9 [.ref h0, .int (zI x2), .int (zI y2)]) (wQl G (fun (r : Int64) (u : (Int → Int)) => r = zL (eqv ra x2 y2)) (fun (u : (Int → Int)) => [(h0, .inr (2, [.ref a0, .int (zI ra)])), (a0, .inl (G.2.1.2.1, 676, .inr (.inl (aL u))))]) (va_A [(h0, .inr (2, [.ref a0, .int (zI ra)])), (a0, .inl (G.2.1.2.1, 676, .inr (.inl (aL kn))))] z9)) 0 0 (va_A [(h0, .inr (2, [.ref a0, .int (zI ra)])), (a0, .inl (G.2.1.2.1, 676, .inr (.inl (aL kn))))] z9) := by
  refine z_ofW (Qc := fun A => wQl G (fun (r : Int64) (u : (Int → Int)) => r = zL (eqv ra x2 y2)) (fun (u : (Int → Int)) => [(h0, .inr (2, [.ref a0, .int (zI ra)])), (a0, .inl (G.2.1.2.1, 676, .inr (.inl (aL u))))]) A) l G [(h0, .inr (2, [.ref a0, .int (zI ra)])), (a0, .inl (G.2.1.2.1, 676, .inr (.inl (aL kn))))] [.ref h0, .int (zI x2), .int (zI y2)] (by decide) rfl rfl ?_ z9
  intro p e s m args below meth c A ls H locs hF hr hlocks hinit hP hK hD hA hS hBd hl
  have hF : wFx p m c cX2_of 9 s args wsX2_of RX2 := hF
  have hl : lv_has ls 9 [(0, .ref h0), (1, .int (zI x2)), (2, .int (zI y2))] := hl
  have hx := hF.1
  have hb := hF.2.1
  obtain ⟨Q0, hQ⟩ : ∃ q, q = (MQ below (wQl G (fun (r : Int64) (u : (Int → Int)) => r = zL (eqv ra x2 y2)) (fun (u : (Int → Int)) => [(h0, .inr (2, [.ref a0, .int (zI ra)])), (a0, .inl (G.2.1.2.1, 676, .inr (.inl (aL u))))]) A) args s 0 0 A) := ⟨_, rfl⟩
  rw [← hQ]
  have i_wsX20 : ∀ w ∈ wsX20, w ∈ wsX2_of := (fun _ h => (List.mem_cons_of_mem _ (List.mem_append_right _ h)))
  have kc_23 : (Cond.constantLong RX2 23 (200)).before args s = true := hF.2.2.2.2 _ (List.mem_cons_of_mem _ (List.mem_append_left _ (List.mem_of_getElem? (i := 2) rfl)))
  have kf_11 : (Cond.fieldLink RX2 11 "Gammonry$Equities" "known" "[J").before args s = true := hF.2.2.2.2 _ (List.mem_cons_of_mem _ (List.mem_append_left _ (List.mem_of_getElem? (i := 0) rfl)))
  have kf_15 : (Cond.fieldLink RX2 15 "Gammonry$Equities" "rate" "I").before args s = true := hF.2.2.2.2 _ (List.mem_cons_of_mem _ (List.mem_append_left _ (List.mem_of_getElem? (i := 1) rfl)))
  refine z_iconst hF dX2_of_0 ?_
  refine lv_istore_n (lv' := [(3, .int (zI 1)), (0, .ref h0), (1, .int (zI x2)), (2, .int (zI y2))]) hx hb dX2_of_1 rfl hl (by decide) rfl (fun ls hl => ?_)
  have L2 : ∀ (n9 : Nat) (i : Int) (f0 : Int → Int), (27 - i).toNat < n9 → (1 ≤ i ∧ i ≤ x2 + 1) → eqI ra y2 f0 i 1 → ∀ (H : Heap) (locs : List Loc) (ls : Array Slot), va_P G.1 vwCl [(h0, .inr (2, [.ref a0, .int (zI ra)])), (a0, .inl (G.2.1.2.1, 676, .inr (.inl (aL f0))))] H → va_D A [(h0, .inr (2, [.ref a0, .int (zI ra)])), (a0, .inl (G.2.1.2.1, 676, .inr (.inl (aL f0))))] → va_S A s.heap H locs → lv_has ls 9 [(0, .ref h0), (1, .int (zI x2)), (2, .int (zI y2)), (3, .int (zI i))] → W p l e (rmL 3 0 0) s m args below meth c H locs 0 0 Q0 (F0 m 2 ls []) := by
    intro n9
    induction n9 with
    | zero => intro i f0 hmu; omega
    | succ n9 ih2 =>
      intro i f0 hmu2 hzi hI H locs ls hP hD hS hl
      refine lv_iload_n hx hb dX2_of_2 rfl (lv_at hl 3 rfl) ?_
      refine lv_iload_n hx hb dX2_of_3 rfl (lv_at hl 1 rfl) ?_
      refine z_icmp_gt (tgt := 119) hF dX2_of_4 (by decide) (by omega) (by omega) (fun c_1 => ?_) (fun c_1 => ?_)
      · have hc_4 := c_1
        have e6 := hI x2 y2 (by omega) (by omega) (by omega) (by omega)
        refine lv_aload_n hx hb dX2_of_119 rfl (lv_at hl 0 rfl) ?_
        refine lv_iload_n hx hb dX2_of_120 rfl (lv_at hl 1 rfl) ?_
        refine lv_iload_n hx hb dX2_of_121 rfl (lv_at hl 2 rfl) ?_
        refine cj_l (va_runV (As := [.int (zI x2), .int (zI y2)]) (rest := []) hF (c_X2_at l G h0 a0 f0 ra x2 y2  (by omega) (by omega) H.size) (cwV 2 hF.2.2.2.2 gX2_of_X2_at rfl rfl rfl (by decide +kernel) ⟨Nat.le_of_ble_eq_true rfl, Nat.le_of_ble_eq_true rfl⟩) (z_preV hK hP hD hS hA hBd [0, 1] rfl rfl rfl rfl [.int (zI x2), .int (zI y2)]) rfl rfl hl.1 rfl (lv_room (Nat.le_of_ble_eq_true rfl)) dX2_of_122 ⟨Nat.le_of_ble_eq_true rfl, Nat.le_of_ble_eq_true rfl⟩) hP hD hS hA [0, 1] rfl (fun _ => Nat.le_of_ble_eq_true rfl) (fun r_3 u_2 H locs hw hP hD hS => ?_)
        have hP : va_P G.1 vwCl [(h0, .inr (2, [.ref a0, .int (zI ra)])), (a0, .inl (G.2.1.2.1, 676, .inr (.inl (aL f0))))] H := hP
        have hD : va_D A [(h0, .inr (2, [.ref a0, .int (zI ra)])), (a0, .inl (G.2.1.2.1, 676, .inr (.inl (aL f0))))] := hD
        obtain rfl := hw
        refine z_tzl (b := (eqv ra x2 y2)) e6 ?_
        rw [hQ]
        exact z_lret hF hr hlocks f0 (rfl) hP hK hD hS dX2_of_125
      · have hc_4 := c_1
        refine lv_iload_n hx hb dX2_of_7 rfl (lv_at hl 3 rfl) ?_
        refine z_bipush hF dX2_of_8 (by decide) ?_
        refine z_icmp_ge (tgt := 119) hF dX2_of_10 (by decide) (by omega) (by decide) (fun c_4 => ?_) (fun c_4 => ?_)
        · exfalso; omega
        · have hc_10 := c_4
          refine z_iconst hF dX2_of_13 ?_
          refine lv_istore (lv' := [(4, .int (zI 1)), (0, .ref h0), (1, .int (zI x2)), (2, .int (zI y2)), (3, .int (zI i))]) hx hb dX2_of_14 hl (by decide) rfl (fun ls hl => ?_)
          have L16 : ∀ (n9 : Nat) (j : Int) (f1 : Int → Int), (27 - j).toNat < n9 → (1 ≤ j ∧ j ≤ y2 + 1) → eqI ra y2 f1 i j → ∀ (H : Heap) (locs : List Loc) (ls : Array Slot), va_P G.1 vwCl [(h0, .inr (2, [.ref a0, .int (zI ra)])), (a0, .inl (G.2.1.2.1, 676, .inr (.inl (aL f1))))] H → va_D A [(h0, .inr (2, [.ref a0, .int (zI ra)])), (a0, .inl (G.2.1.2.1, 676, .inr (.inl (aL f1))))] → va_S A s.heap H locs → lv_has ls 9 [(0, .ref h0), (1, .int (zI x2)), (2, .int (zI y2)), (3, .int (zI i)), (4, .int (zI j))] → W p l e (rmL 3 0 0) s m args below meth c H locs 0 0 Q0 (F0 m 16 ls []) := by
            intro n9
            induction n9 with
            | zero => intro j f1 hmu; omega
            | succ n9 ih16 =>
              intro j f1 hmu16 hzj hJ H locs ls hP hD hS hl
              refine lv_iload hx hb dX2_of_16 (lv_at hl 4 rfl) ?_
              refine lv_iload_n hx hb dX2_of_18 rfl (lv_at hl 2 rfl) ?_
              refine z_icmp_gt (tgt := 113) hF dX2_of_19 (by decide) (by omega) (by omega) (fun c_5 => ?_) (fun c_5 => ?_)
              · have hc_19 := c_5
                refine z_iinc (lv' := [(3, .int (zI (i + 1))), (0, .ref h0), (1, .int (zI x2)), (2, .int (zI y2)), (4, .int (zI j))]) hF dX2_of_113 hl (k := 3) rfl (by decide) rfl (fun ls hl => ?_)
                refine z_goto (tgt := 2) hF dX2_of_116 (by decide) ?_
                exact ih2 (i + 1) f1 (by omega) (by omega) (eqI_r hJ (by omega)) H locs ls hP hD hS (lv_sub hl [1, 2, 3, 0] rfl)
              · have hc_19 := c_5
                refine lv_iload hx hb dX2_of_22 (lv_at hl 4 rfl) ?_
                refine z_bipush hF dX2_of_24 (by decide) ?_
                refine z_icmp_ge (tgt := 113) hF dX2_of_26 (by decide) (by omega) (by decide) (fun c_6 => ?_) (fun c_6 => ?_)
                · exfalso; omega
                · have hc_26 := c_6
                  have e1 := hJ (i - 1) j (by omega) (by omega) (by omega) (by omega)
                  have e2 := hJ i (j - 1) (by omega) (by omega) (by omega) (by omega)
                  have e3 := hJ (i - 2) j (by omega) (by omega) (by omega) (by omega)
                  have e4 := hJ i (j - 2) (by omega) (by omega) (by omega) (by omega)
                  have e5 := eqv_c (ra := ra) hzi.1 hzj.1
                  have r1 := eqv_rg hra (i - 1) j
                  have r2 := eqv_rg hra i (j - 1)
                  have r3 := eqv_rg hra (i - 2) j
                  have r4 := eqv_rg hra i (j - 2)
                  have r5 := mul_rg (a := 100 - ra) (x := eqv ra (i - 1) j + eqv ra i (j - 1)) (m := 100) (n := 2000000) (by omega) (by omega)
                  have r6 := mul_rg (a := ra) (x := eqv ra (i - 2) j + eqv ra i (j - 2)) (m := 100) (n := 2000000) (by omega) (by omega)
                  refine lv_aload_n hx hb dX2_of_29 rfl (lv_at hl 0 rfl) ?_
                  refine lv_iload_n hx hb dX2_of_30 rfl (lv_at hl 3 rfl) ?_
                  refine z_iconst hF dX2_of_31 ?_
                  refine z_isub hF dX2_of_32 ?_
                  refine lv_iload hx hb dX2_of_33 (lv_at hl 4 rfl) ?_
                  refine cj_l (va_runV (As := [.int (zI (i - 1)), .int (zI j)]) (rest := []) hF (c_X2_at l G h0 a0 f1 ra (i - 1) j  (by omega) (by omega) H.size) (cwV 2 hF.2.2.2.2 gX2_of_X2_at rfl rfl rfl (by decide +kernel) ⟨Nat.le_of_ble_eq_true rfl, Nat.le_of_ble_eq_true rfl⟩) (z_preV hK hP hD hS hA hBd [0, 1] rfl rfl rfl rfl [.int (zI (i - 1)), .int (zI j)]) rfl rfl hl.1 rfl (lv_room (Nat.le_of_ble_eq_true rfl)) dX2_of_35 ⟨Nat.le_of_ble_eq_true rfl, Nat.le_of_ble_eq_true rfl⟩) hP hD hS hA [0, 1] rfl (fun _ => Nat.le_of_ble_eq_true rfl) (fun r_8 u_7 H locs hw hP hD hS => ?_)
                  have hP : va_P G.1 vwCl [(h0, .inr (2, [.ref a0, .int (zI ra)])), (a0, .inl (G.2.1.2.1, 676, .inr (.inl (aL f1))))] H := hP
                  have hD : va_D A [(h0, .inr (2, [.ref a0, .int (zI ra)])), (a0, .inl (G.2.1.2.1, 676, .inr (.inl (aL f1))))] := hD
                  obtain rfl := hw
                  refine z_tzl (b := (eqv ra (i - 1) j)) e1 ?_
                  refine lv_aload_n hx hb dX2_of_38 rfl (lv_at hl 0 rfl) ?_
                  refine lv_iload_n hx hb dX2_of_39 rfl (lv_at hl 3 rfl) ?_
                  refine lv_iload hx hb dX2_of_40 (lv_at hl 4 rfl) ?_
                  refine z_iconst hF dX2_of_42 ?_
                  refine z_isub hF dX2_of_43 ?_
                  refine cj_l (va_runV (As := [.int (zI i), .int (zI (j - 1))]) (rest := [.long (zL (eqv ra (i - 1) j))]) hF (c_X2_at l G h0 a0 f1 ra i (j - 1)  (by omega) (by omega) H.size) (cwV 2 hF.2.2.2.2 gX2_of_X2_at rfl rfl rfl (by decide +kernel) ⟨Nat.le_of_ble_eq_true rfl, Nat.le_of_ble_eq_true rfl⟩) (z_preV hK hP hD hS hA hBd [0, 1] rfl rfl rfl rfl [.int (zI i), .int (zI (j - 1))]) rfl rfl hl.1 rfl (lv_room (Nat.le_of_ble_eq_true rfl)) dX2_of_44 ⟨Nat.le_of_ble_eq_true rfl, Nat.le_of_ble_eq_true rfl⟩) hP hD hS hA [0, 1] rfl (fun _ => Nat.le_of_ble_eq_true rfl) (fun r_10 u_9 H locs hw hP hD hS => ?_)
                  have hP : va_P G.1 vwCl [(h0, .inr (2, [.ref a0, .int (zI ra)])), (a0, .inl (G.2.1.2.1, 676, .inr (.inl (aL f1))))] H := hP
                  have hD : va_D A [(h0, .inr (2, [.ref a0, .int (zI ra)])), (a0, .inl (G.2.1.2.1, 676, .inr (.inl (aL f1))))] := hD
                  obtain rfl := hw
                  refine z_tzl (b := (eqv ra i (j - 1))) e2 ?_
                  refine z_ladd hF dX2_of_47 ?_
                  refine lv_lstore (lv' := [(5, .long (zL ((eqv ra (i - 1) j) + (eqv ra i (j - 1))))), (0, .ref h0), (1, .int (zI x2)), (2, .int (zI y2)), (3, .int (zI i)), (4, .int (zI j))]) hx hb dX2_of_48 hl (by decide) rfl (fun ls hl => ?_)
                  refine lv_aload_n hx hb dX2_of_50 rfl (lv_at hl 1 rfl) ?_
                  refine lv_iload_n hx hb dX2_of_51 rfl (lv_at hl 4 rfl) ?_
                  refine z_iconst hF dX2_of_52 ?_
                  refine z_isub hF dX2_of_53 ?_
                  refine lv_iload hx hb dX2_of_54 (lv_at hl 5 rfl) ?_
                  refine cj_l (va_runV (As := [.int (zI (i - 2)), .int (zI j)]) (rest := []) hF (c_X2_at l G h0 a0 f1 ra (i - 2) j  (by omega) (by omega) H.size) (cwV 2 hF.2.2.2.2 gX2_of_X2_at rfl rfl rfl (by decide +kernel) ⟨Nat.le_of_ble_eq_true rfl, Nat.le_of_ble_eq_true rfl⟩) (z_preV hK hP hD hS hA hBd [0, 1] rfl rfl rfl rfl [.int (zI (i - 2)), .int (zI j)]) rfl rfl hl.1 rfl (lv_room (Nat.le_of_ble_eq_true rfl)) dX2_of_56 ⟨Nat.le_of_ble_eq_true rfl, Nat.le_of_ble_eq_true rfl⟩) hP hD hS hA [0, 1] rfl (fun _ => Nat.le_of_ble_eq_true rfl) (fun r_12 u_11 H locs hw hP hD hS => ?_)
                  have hP : va_P G.1 vwCl [(h0, .inr (2, [.ref a0, .int (zI ra)])), (a0, .inl (G.2.1.2.1, 676, .inr (.inl (aL f1))))] H := hP
                  have hD : va_D A [(h0, .inr (2, [.ref a0, .int (zI ra)])), (a0, .inl (G.2.1.2.1, 676, .inr (.inl (aL f1))))] := hD
                  obtain rfl := hw
                  refine z_tzl (b := (eqv ra (i - 2) j)) e3 ?_
                  refine lv_aload_n hx hb dX2_of_59 rfl (lv_at hl 1 rfl) ?_
                  refine lv_iload_n hx hb dX2_of_60 rfl (lv_at hl 4 rfl) ?_
                  refine lv_iload hx hb dX2_of_61 (lv_at hl 5 rfl) ?_
                  refine z_iconst hF dX2_of_63 ?_
                  refine z_isub hF dX2_of_64 ?_
                  refine cj_l (va_runV (As := [.int (zI i), .int (zI (j - 2))]) (rest := [.long (zL (eqv ra (i - 2) j))]) hF (c_X2_at l G h0 a0 f1 ra i (j - 2)  (by omega) (by omega) H.size) (cwV 2 hF.2.2.2.2 gX2_of_X2_at rfl rfl rfl (by decide +kernel) ⟨Nat.le_of_ble_eq_true rfl, Nat.le_of_ble_eq_true rfl⟩) (z_preV hK hP hD hS hA hBd [0, 1] rfl rfl rfl rfl [.int (zI i), .int (zI (j - 2))]) rfl rfl hl.1 rfl (lv_room (Nat.le_of_ble_eq_true rfl)) dX2_of_65 ⟨Nat.le_of_ble_eq_true rfl, Nat.le_of_ble_eq_true rfl⟩) hP hD hS hA [0, 1] rfl (fun _ => Nat.le_of_ble_eq_true rfl) (fun r_14 u_13 H locs hw hP hD hS => ?_)
                  have hP : va_P G.1 vwCl [(h0, .inr (2, [.ref a0, .int (zI ra)])), (a0, .inl (G.2.1.2.1, 676, .inr (.inl (aL f1))))] H := hP
                  have hD : va_D A [(h0, .inr (2, [.ref a0, .int (zI ra)])), (a0, .inl (G.2.1.2.1, 676, .inr (.inl (aL f1))))] := hD
                  obtain rfl := hw
                  refine z_tzl (b := (eqv ra i (j - 2))) e4 ?_
                  refine z_ladd hF dX2_of_68 ?_
                  refine lv_lstore (lv' := [(7, .long (zL ((eqv ra (i - 2) j) + (eqv ra i (j - 2))))), (5, .long (zL ((eqv ra (i - 1) j) + (eqv ra i (j - 1))))), (0, .ref h0), (1, .int (zI x2)), (2, .int (zI y2)), (3, .int (zI i)), (4, .int (zI j))]) hx hb dX2_of_69 hl (by decide) rfl (fun ls hl => ?_)
                  refine lv_aload_n hx hb dX2_of_71 rfl (lv_at hl 2 rfl) ?_
                  refine z_get (k := 0) hF hK hP 0 rfl rfl i_wsX20 (by decide) kf_11 rfl dX2_of_72 ?_
                  refine lv_iload_n hx hb dX2_of_75 rfl (lv_at hl 5 rfl) ?_
                  refine z_bipush hF dX2_of_76 (by decide) ?_
                  refine z_imul hF dX2_of_78 ?_
                  refine lv_iload hx hb dX2_of_79 (lv_at hl 6 rfl) ?_
                  refine z_iadd hF dX2_of_81 ?_
                  refine z_bipush hF dX2_of_82 (by decide) ?_
                  refine lv_aload_n hx hb dX2_of_84 rfl (lv_at hl 2 rfl) ?_
                  refine z_get (k := 1) hF hK hP 0 rfl rfl i_wsX20 (by decide) kf_15 rfl dX2_of_85 ?_
                  refine z_isub hF dX2_of_88 ?_
                  refine z_i2l hF dX2_of_89 (by omega) ?_
                  refine lv_lload hx hb dX2_of_90 (lv_at hl 1 rfl) ?_
                  refine z_lmul hF dX2_of_92 ?_
                  refine lv_aload_n hx hb dX2_of_93 rfl (lv_at hl 2 rfl) ?_
                  refine z_get (k := 1) hF hK hP 0 rfl rfl i_wsX20 (by decide) kf_15 rfl dX2_of_94 ?_
                  refine z_i2l hF dX2_of_97 (by omega) ?_
                  refine lv_lload hx hb dX2_of_98 (lv_at hl 0 rfl) ?_
                  refine z_lmul hF dX2_of_100 ?_
                  refine z_ladd hF dX2_of_101 ?_
                  refine lv_ldc2 hx hb hF.2.2.2.1 kc_23 dX2_of_102 ?_
                  refine z_topl (y := zL 200) (by decide) ?_
                  refine z_ldiv hF dX2_of_105 (by omega) (by decide) ?_
                  refine z_tzl (b := (eqv ra i j)) e5.symm ?_
                  refine z_last hF hK hP hD hS 1 rfl (by omega) rfl dX2_of_106 (fun H locs hP hD hS => ?_)
                  have hP : va_P G.1 vwCl [(h0, .inr (2, [.ref a0, .int (zI ra)])), (a0, .inl (G.2.1.2.1, 676, .inr (.inl (aL (up f1 ((i * 26) + j) (eqv ra i j))))))] H := hP
                  have hD : va_D A [(h0, .inr (2, [.ref a0, .int (zI ra)])), (a0, .inl (G.2.1.2.1, 676, .inr (.inl (aL (up f1 ((i * 26) + j) (eqv ra i j))))))] := hD
                  refine z_iinc (lv' := [(4, .int (zI (j + 1))), (7, .long (zL ((eqv ra (i - 2) j) + (eqv ra i (j - 2))))), (5, .long (zL ((eqv ra (i - 1) j) + (eqv ra i (j - 1))))), (0, .ref h0), (1, .int (zI x2)), (2, .int (zI y2)), (3, .int (zI i))]) hF dX2_of_107 hl (k := 6) rfl (by decide) rfl (fun ls hl => ?_)
                  refine z_goto (tgt := 16) hF dX2_of_110 (by decide) ?_
                  exact ih16 (j + 1) (up f1 ((i * 26) + j) (eqv ra i j)) (by omega) (by omega) (eqI_s hJ (by omega) (by omega) rfl) H locs ls hP hD hS (lv_sub hl [3, 4, 5, 6, 0] rfl)
          exact L16 _ 1 f0 (Nat.lt_succ_self _) (by omega) hI H locs ls hP hD hS (lv_sub hl [1, 2, 3, 4, 0] rfl)
  exact L2 _ 1 kn (Nat.lt_succ_self _) (by omega) (eqI_0 _ _ _) H locs ls hP hD hS (lv_sub hl [1, 2, 3, 0] rfl)
