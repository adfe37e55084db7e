set_option maxHeartbeats 4000000 in
set_option maxRecDepth 100000 in
theorem c_X0_stepBack (l : Launch) (G : wG) (h0 a0 : Nat) (b : Int → Int) (sd fr d : Int)  (hsd : 0 ≤ sd ∧ sd ≤ 1) (hfr : 1 ≤ fr ∧ fr ≤ 25) (hd6 : 1 ≤ d ∧ d ≤ 6) (z9 : Nat) : Met l yX0_stepBack wsX0_stepBack (rmL 2 0 0) (wPc G [(h0, .inr (0, [.ref a0])), (a0, .inl (G.2.1.1, 52, .inl (aI (stp b sd fr d))))] z9 [.ref h0, .int (zI sd), .int (zI fr), .int (zI d), .int (zI (hwB b sd fr d))]) (wQv G (fun (u : Unit) => True) (fun (u : Unit) => [(h0, .inr (0, [.ref a0])), (a0, .inl (G.2.1.1, 52, .inl (aI b)))]) (va_A [(h0, .inr (0, [.ref a0])), (a0, .inl (G.2.1.1, 52, .inl (aI (stp b sd fr d))))] z9)) 0 0 (va_A [(h0, .inr (0, [.ref a0])), (a0, .inl (G.2.1.1, 52, .inl (aI (stp b sd fr d))))] z9) := by
  refine z_ofW (Qc := fun A => wQv G (fun (u : Unit) => True) (fun (u : Unit) => [(h0, .inr (0, [.ref a0])), (a0, .inl (G.2.1.1, 52, .inl (aI b)))]) A) l G [(h0, .inr (0, [.ref a0])), (a0, .inl (G.2.1.1, 52, .inl (aI (stp b sd fr d))))] [.ref h0, .int (zI sd), .int (zI fr), .int (zI d), .int (zI (hwB b sd fr d))] (by decide) rfl rfl ?_ z9
  intro p e s m args below meth c A ls H locs hF hr hlocks hinit hP hK hD hA hS hBd hl
  have hF : wFx p m c cX0_stepBack 6 s args wsX0_stepBack RX0 := hF
  have hl : lv_has ls 6 [(0, .ref h0), (1, .int (zI sd)), (2, .int (zI fr)), (3, .int (zI d)), (4, .int (zI (hwB b sd fr d)))] := hl
  have hx := hF.1
  have hb := hF.2.1
  obtain ⟨Q0, hQ⟩ : ∃ q, q = (MQ below (wQv G (fun (u : Unit) => True) (fun (u : Unit) => [(h0, .inr (0, [.ref a0])), (a0, .inl (G.2.1.1, 52, .inl (aI b)))]) A) args s 0 0 A) := ⟨_, rfl⟩
  rw [← hQ]
  have km_33 : (Cond.methodLink RX0 33 Lib.Math.max.name).before args s = true := hF.2.2.2.2 _ (List.mem_cons_of_mem _ (List.mem_append_left _ (List.mem_of_getElem? (i := 0) rfl)))
  have kq_max : (Cond.code Lib.Math.max.name Lib.Math.max.code 2 (some .int)).before args s = true := hF.2.2.2.2 _ (List.mem_cons_of_mem _ (List.mem_append_left _ (List.mem_of_getElem? (i := 3) rfl)))
  have ks_max : (Cond.static Lib.Math.max.name).before args s = true := hF.2.2.2.2 _ (List.mem_cons_of_mem _ (List.mem_append_left _ (List.mem_of_getElem? (i := 1) rfl)))
  have kt_Math : (Cond.initialized "java/lang/Math").before args s = true := hF.2.2.2.2 _ (List.mem_cons_of_mem _ (List.mem_append_left _ (List.mem_of_getElem? (i := 2) rfl)))
  have qt : (d < fr ∧ toP fr d = fr - d) ∨ (fr ≤ d ∧ toP fr d = 0) := by unfold toP; split <;> omega
  have qw := hwB_cs b sd fr d
  refine lv_iload_n hx hb dX0_stepBack_0 rfl (lv_at hl 2 rfl) ?_
  refine lv_iload_n hx hb dX0_stepBack_1 rfl (lv_at hl 3 rfl) ?_
  refine z_isub hF dX0_stepBack_2 ?_
  refine z_iconst hF dX0_stepBack_3 ?_
  refine z_max hF km_33 ks_max kt_Math kq_max hl.1 (Nat.le_of_ble_eq_true rfl) (Nat.le_of_ble_eq_true rfl) (Nat.le_of_ble_eq_true rfl) (Nat.le_of_ble_eq_true rfl) (by omega) (by decide) dX0_stepBack_4 ?_
  refine z_tz (b := (toP fr d)) (zmax_to fr d) ?_
  refine lv_istore (lv' := [(5, .int (zI (toP fr d))), (0, .ref h0), (1, .int (zI sd)), (2, .int (zI fr)), (3, .int (zI d)), (4, .int (zI (hwB b sd fr d)))]) hx hb dX0_stepBack_7 hl (by decide) rfl (fun ls hl => ?_)
  refine lv_aload_n hx hb dX0_stepBack_9 rfl (lv_at hl 1 rfl) ?_
  refine lv_iload_n hx hb dX0_stepBack_10 rfl (lv_at hl 2 rfl) ?_
  refine lv_iload_n hx hb dX0_stepBack_11 rfl (lv_at hl 3 rfl) ?_
  refine z_iconst hF dX0_stepBack_12 ?_
  refine cj_v (va_runV (As := [.int (zI sd), .int (zI fr), .int (zI 1)]) (rest := []) hF (c_X0_add l G h0 a0 (stp b sd fr d) sd fr 1  (by omega) (by omega) H.size) (cwV 3 hF.2.2.2.2 gX0_stepBack_X0_add rfl rfl rfl (by decide +kernel) ⟨Nat.le_of_ble_eq_true rfl, Nat.le_of_ble_eq_true rfl⟩) (z_preV hK hP hD hS hA hBd [0, 1] rfl rfl rfl rfl [.int (zI sd), .int (zI fr), .int (zI 1)]) rfl rfl hl.1 rfl (lv_room (Nat.le_of_ble_eq_true rfl)) dX0_stepBack_13 ⟨Nat.le_of_ble_eq_true rfl, Nat.le_of_ble_eq_true rfl⟩) hP hD hS hA [0, 1] rfl (fun _ => Nat.le_of_ble_eq_true rfl) (fun u_1 H locs hw hP hD hS => ?_)
  have hP : va_P G.1 vwCl [(h0, .inr (0, [.ref a0])), (a0, .inl (G.2.1.1, 52, .inl (aI (up (stp b sd fr d) (26 * sd + fr) ((stp b sd fr d) (26 * sd + fr) + 1)))))] H := hP
  have hD : va_D A [(h0, .inr (0, [.ref a0])), (a0, .inl (G.2.1.1, 52, .inl (aI (up (stp b sd fr d) (26 * sd + fr) ((stp b sd fr d) (26 * sd + fr) + 1)))))] := hD
  obtain - := hw
  refine lv_aload_n hx hb dX0_stepBack_16 rfl (lv_at hl 1 rfl) ?_
  refine lv_iload_n hx hb dX0_stepBack_17 rfl (lv_at hl 2 rfl) ?_
  refine lv_iload hx hb dX0_stepBack_18 (lv_at hl 0 rfl) ?_
  refine z_iconst hF dX0_stepBack_20 ?_
  refine cj_v (va_runV (As := [.int (zI sd), .int (zI (toP fr d)), .int (zI (-1))]) (rest := []) hF (c_X0_add l G h0 a0 (up (stp b sd fr d) (26 * sd + fr) ((stp b sd fr d) (26 * sd + fr) + 1)) sd (toP fr d) (-1)  (by omega) (by omega) H.size) (cwV 3 hF.2.2.2.2 gX0_stepBack_X0_add rfl rfl rfl (by decide +kernel) ⟨Nat.le_of_ble_eq_true rfl, Nat.le_of_ble_eq_true rfl⟩) (z_preV hK hP hD hS hA hBd [0, 1] rfl rfl rfl rfl [.int (zI sd), .int (zI (toP fr d)), .int (zI (-1))]) rfl rfl hl.1 rfl (lv_room (Nat.le_of_ble_eq_true rfl)) dX0_stepBack_21 ⟨Nat.le_of_ble_eq_true rfl, Nat.le_of_ble_eq_true rfl⟩) hP hD hS hA [0, 1] rfl (fun _ => Nat.le_of_ble_eq_true rfl) (fun u_3 H locs hw hP hD hS => ?_)
  have hP : va_P G.1 vwCl [(h0, .inr (0, [.ref a0])), (a0, .inl (G.2.1.1, 52, .inl (aI (up (up (stp b sd fr d) (26 * sd + fr) ((stp b sd fr d) (26 * sd + fr) + 1)) (26 * sd + (toP fr d)) ((up (stp b sd fr d) (26 * sd + fr) ((stp b sd fr d) (26 * sd + fr) + 1)) (26 * sd + (toP fr d)) + (-1))))))] H := hP
  have hD : va_D A [(h0, .inr (0, [.ref a0])), (a0, .inl (G.2.1.1, 52, .inl (aI (up (up (stp b sd fr d) (26 * sd + fr) ((stp b sd fr d) (26 * sd + fr) + 1)) (26 * sd + (toP fr d)) ((up (stp b sd fr d) (26 * sd + fr) ((stp b sd fr d) (26 * sd + fr) + 1)) (26 * sd + (toP fr d)) + (-1))))))] := hD
  obtain - := hw
  refine lv_iload hx hb dX0_stepBack_24 (lv_at hl 5 rfl) ?_
  refine z_if_eq (tgt := 52) hF dX0_stepBack_26 (by decide) (by have := hwB_cs b sd fr d; omega) (fun c_5 => ?_) (fun c_5 => ?_)
  · have hc_26 := c_5
    have hh : ¬ hitP b sd fr d := by rcases qw with q9 | q9; exact absurd (q9.2.symm.trans hc_26) (by decide); exact q9.1
    rw [show (up (up (stp b sd fr d) (26 * sd + fr) ((stp b sd fr d) (26 * sd + fr) + 1)) (26 * sd + (toP fr d)) ((up (stp b sd fr d) (26 * sd + fr) ((stp b sd fr d) (26 * sd + fr) + 1)) (26 * sd + (toP fr d)) + (-1))) = b from back_f hsd hfr hd6.1 hh] at hP hD
    rw [hQ]
    exact z_vret hF hr hlocks () (trivial) hP hK hD hS dX0_stepBack_52
  · have hc_26 := c_5
    refine lv_aload_n hx hb dX0_stepBack_29 rfl (lv_at hl 1 rfl) ?_
    refine z_iconst hF dX0_stepBack_30 ?_
    refine lv_iload_n hx hb dX0_stepBack_31 rfl (lv_at hl 2 rfl) ?_
    refine z_isub hF dX0_stepBack_32 ?_
    refine z_bipush hF dX0_stepBack_33 (by decide) ?_
    refine lv_iload hx hb dX0_stepBack_35 (lv_at hl 0 rfl) ?_
    refine z_isub hF dX0_stepBack_37 ?_
    refine z_iconst hF dX0_stepBack_38 ?_
    refine cj_v (va_runV (As := [.int (zI (1 - sd)), .int (zI (25 - (toP fr d))), .int (zI 1)]) (rest := []) hF (c_X0_add l G h0 a0 (up (up (stp b sd fr d) (26 * sd + fr) ((stp b sd fr d) (26 * sd + fr) + 1)) (26 * sd + (toP fr d)) ((up (stp b sd fr d) (26 * sd + fr) ((stp b sd fr d) (26 * sd + fr) + 1)) (26 * sd + (toP fr d)) + (-1))) (1 - sd) (25 - (toP fr d)) 1  (by omega) (by omega) H.size) (cwV 3 hF.2.2.2.2 gX0_stepBack_X0_add rfl rfl rfl (by decide +kernel) ⟨Nat.le_of_ble_eq_true rfl, Nat.le_of_ble_eq_true rfl⟩) (z_preV hK hP hD hS hA hBd [0, 1] rfl rfl rfl rfl [.int (zI (1 - sd)), .int (zI (25 - (toP fr d))), .int (zI 1)]) rfl rfl hl.1 rfl (lv_room (Nat.le_of_ble_eq_true rfl)) dX0_stepBack_39 ⟨Nat.le_of_ble_eq_true rfl, Nat.le_of_ble_eq_true rfl⟩) hP hD hS hA [0, 1] rfl (fun _ => Nat.le_of_ble_eq_true rfl) (fun u_6 H locs hw hP hD hS => ?_)
    have hP : va_P G.1 vwCl [(h0, .inr (0, [.ref a0])), (a0, .inl (G.2.1.1, 52, .inl (aI (up (up (up (stp b sd fr d) (26 * sd + fr) ((stp b sd fr d) (26 * sd + fr) + 1)) (26 * sd + (toP fr d)) ((up (stp b sd fr d) (26 * sd + fr) ((stp b sd fr d) (26 * sd + fr) + 1)) (26 * sd + (toP fr d)) + (-1))) (26 * (1 - sd) + (25 - (toP fr d))) ((up (up (stp b sd fr d) (26 * sd + fr) ((stp b sd fr d) (26 * sd + fr) + 1)) (26 * sd + (toP fr d)) ((up (stp b sd fr d) (26 * sd + fr) ((stp b sd fr d) (26 * sd + fr) + 1)) (26 * sd + (toP fr d)) + (-1))) (26 * (1 - sd) + (25 - (toP fr d))) + 1)))))] H := hP
    have hD : va_D A [(h0, .inr (0, [.ref a0])), (a0, .inl (G.2.1.1, 52, .inl (aI (up (up (up (stp b sd fr d) (26 * sd + fr) ((stp b sd fr d) (26 * sd + fr) + 1)) (26 * sd + (toP fr d)) ((up (stp b sd fr d) (26 * sd + fr) ((stp b sd fr d) (26 * sd + fr) + 1)) (26 * sd + (toP fr d)) + (-1))) (26 * (1 - sd) + (25 - (toP fr d))) ((up (up (stp b sd fr d) (26 * sd + fr) ((stp b sd fr d) (26 * sd + fr) + 1)) (26 * sd + (toP fr d)) ((up (stp b sd fr d) (26 * sd + fr) ((stp b sd fr d) (26 * sd + fr) + 1)) (26 * sd + (toP fr d)) + (-1))) (26 * (1 - sd) + (25 - (toP fr d))) + 1)))))] := hD
    obtain - := hw
    refine lv_aload_n hx hb dX0_stepBack_42 rfl (lv_at hl 1 rfl) ?_
    refine z_iconst hF dX0_stepBack_43 ?_
    refine lv_iload_n hx hb dX0_stepBack_44 rfl (lv_at hl 2 rfl) ?_
    refine z_isub hF dX0_stepBack_45 ?_
    refine z_bipush hF dX0_stepBack_46 (by decide) ?_
    refine z_iconst hF dX0_stepBack_48 ?_
    refine cj_v (va_runV (As := [.int (zI (1 - sd)), .int (zI 25), .int (zI (-1))]) (rest := []) hF (c_X0_add l G h0 a0 (up (up (up (stp b sd fr d) (26 * sd + fr) ((stp b sd fr d) (26 * sd + fr) + 1)) (26 * sd + (toP fr d)) ((up (stp b sd fr d) (26 * sd + fr) ((stp b sd fr d) (26 * sd + fr) + 1)) (26 * sd + (toP fr d)) + (-1))) (26 * (1 - sd) + (25 - (toP fr d))) ((up (up (stp b sd fr d) (26 * sd + fr) ((stp b sd fr d) (26 * sd + fr) + 1)) (26 * sd + (toP fr d)) ((up (stp b sd fr d) (26 * sd + fr) ((stp b sd fr d) (26 * sd + fr) + 1)) (26 * sd + (toP fr d)) + (-1))) (26 * (1 - sd) + (25 - (toP fr d))) + 1)) (1 - sd) 25 (-1)  (by omega) (by omega) H.size) (cwV 3 hF.2.2.2.2 gX0_stepBack_X0_add rfl rfl rfl (by decide +kernel) ⟨Nat.le_of_ble_eq_true rfl, Nat.le_of_ble_eq_true rfl⟩) (z_preV hK hP hD hS hA hBd [0, 1] rfl rfl rfl rfl [.int (zI (1 - sd)), .int (zI 25), .int (zI (-1))]) rfl rfl hl.1 rfl (lv_room (Nat.le_of_ble_eq_true rfl)) dX0_stepBack_49 ⟨Nat.le_of_ble_eq_true rfl, Nat.le_of_ble_eq_true rfl⟩) hP hD hS hA [0, 1] rfl (fun _ => Nat.le_of_ble_eq_true rfl) (fun u_8 H locs hw hP hD hS => ?_)
    have hP : va_P G.1 vwCl [(h0, .inr (0, [.ref a0])), (a0, .inl (G.2.1.1, 52, .inl (aI (up (up (up (up (stp b sd fr d) (26 * sd + fr) ((stp b sd fr d) (26 * sd + fr) + 1)) (26 * sd + (toP fr d)) ((up (stp b sd fr d) (26 * sd + fr) ((stp b sd fr d) (26 * sd + fr) + 1)) (26 * sd + (toP fr d)) + (-1))) (26 * (1 - sd) + (25 - (toP fr d))) ((up (up (stp b sd fr d) (26 * sd + fr) ((stp b sd fr d) (26 * sd + fr) + 1)) (26 * sd + (toP fr d)) ((up (stp b sd fr d) (26 * sd + fr) ((stp b sd fr d) (26 * sd + fr) + 1)) (26 * sd + (toP fr d)) + (-1))) (26 * (1 - sd) + (25 - (toP fr d))) + 1)) (26 * (1 - sd) + 25) ((up (up (up (stp b sd fr d) (26 * sd + fr) ((stp b sd fr d) (26 * sd + fr) + 1)) (26 * sd + (toP fr d)) ((up (stp b sd fr d) (26 * sd + fr) ((stp b sd fr d) (26 * sd + fr) + 1)) (26 * sd + (toP fr d)) + (-1))) (26 * (1 - sd) + (25 - (toP fr d))) ((up (up (stp b sd fr d) (26 * sd + fr) ((stp b sd fr d) (26 * sd + fr) + 1)) (26 * sd + (toP fr d)) ((up (stp b sd fr d) (26 * sd + fr) ((stp b sd fr d) (26 * sd + fr) + 1)) (26 * sd + (toP fr d)) + (-1))) (26 * (1 - sd) + (25 - (toP fr d))) + 1)) (26 * (1 - sd) + 25) + (-1))))))] H := hP
    have hD : va_D A [(h0, .inr (0, [.ref a0])), (a0, .inl (G.2.1.1, 52, .inl (aI (up (up (up (up (stp b sd fr d) (26 * sd + fr) ((stp b sd fr d) (26 * sd + fr) + 1)) (26 * sd + (toP fr d)) ((up (stp b sd fr d) (26 * sd + fr) ((stp b sd fr d) (26 * sd + fr) + 1)) (26 * sd + (toP fr d)) + (-1))) (26 * (1 - sd) + (25 - (toP fr d))) ((up (up (stp b sd fr d) (26 * sd + fr) ((stp b sd fr d) (26 * sd + fr) + 1)) (26 * sd + (toP fr d)) ((up (stp b sd fr d) (26 * sd + fr) ((stp b sd fr d) (26 * sd + fr) + 1)) (26 * sd + (toP fr d)) + (-1))) (26 * (1 - sd) + (25 - (toP fr d))) + 1)) (26 * (1 - sd) + 25) ((up (up (up (stp b sd fr d) (26 * sd + fr) ((stp b sd fr d) (26 * sd + fr) + 1)) (26 * sd + (toP fr d)) ((up (stp b sd fr d) (26 * sd + fr) ((stp b sd fr d) (26 * sd + fr) + 1)) (26 * sd + (toP fr d)) + (-1))) (26 * (1 - sd) + (25 - (toP fr d))) ((up (up (stp b sd fr d) (26 * sd + fr) ((stp b sd fr d) (26 * sd + fr) + 1)) (26 * sd + (toP fr d)) ((up (stp b sd fr d) (26 * sd + fr) ((stp b sd fr d) (26 * sd + fr) + 1)) (26 * sd + (toP fr d)) + (-1))) (26 * (1 - sd) + (25 - (toP fr d))) + 1)) (26 * (1 - sd) + 25) + (-1))))))] := hD
    obtain - := hw
    have hh : hitP b sd fr d := by rcases qw with q9 | q9; exact q9.1; exact absurd q9.2 hc_26
    rw [show (up (up (up (up (stp b sd fr d) (26 * sd + fr) ((stp b sd fr d) (26 * sd + fr) + 1)) (26 * sd + (toP fr d)) ((up (stp b sd fr d) (26 * sd + fr) ((stp b sd fr d) (26 * sd + fr) + 1)) (26 * sd + (toP fr d)) + (-1))) (26 * (1 - sd) + (25 - (toP fr d))) ((up (up (stp b sd fr d) (26 * sd + fr) ((stp b sd fr d) (26 * sd + fr) + 1)) (26 * sd + (toP fr d)) ((up (stp b sd fr d) (26 * sd + fr) ((stp b sd fr d) (26 * sd + fr) + 1)) (26 * sd + (toP fr d)) + (-1))) (26 * (1 - sd) + (25 - (toP fr d))) + 1)) (26 * (1 - sd) + 25) ((up (up (up (stp b sd fr d) (26 * sd + fr) ((stp b sd fr d) (26 * sd + fr) + 1)) (26 * sd + (toP fr d)) ((up (stp b sd fr d) (26 * sd + fr) ((stp b sd fr d) (26 * sd + fr) + 1)) (26 * sd + (toP fr d)) + (-1))) (26 * (1 - sd) + (25 - (toP fr d))) ((up (up (stp b sd fr d) (26 * sd + fr) ((stp b sd fr d) (26 * sd + fr) + 1)) (26 * sd + (toP fr d)) ((up (stp b sd fr d) (26 * sd + fr) ((stp b sd fr d) (26 * sd + fr) + 1)) (26 * sd + (toP fr d)) + (-1))) (26 * (1 - sd) + (25 - (toP fr d))) + 1)) (26 * (1 - sd) + 25) + (-1))) = b from back_t hsd hfr hd6.1 hh] at hP hD
    rw [hQ]
    exact z_vret hF hr hlocks () (trivial) hP hK hD hS dX0_stepBack_52
set_option maxHeartbeats 4000000 in
set_option maxRecDepth 100000 in
theorem c_X9_codeAt (l : Launch) (G : wG) (z i : Int)  (hz : 0 ≤ z ∧ z < 4294967296) (hi3 : 0 ≤ i ∧ i ≤ 3) (z9 : Nat) : Met l yX9_codeAt wsX9_codeAt (rmL 1 0 0) (wPc G [] z9 [.int (zI z), .int (zI i)]) (wQi G (fun (r : Int32) (u : Unit) => r = zI (z / p8 i % 256)) (fun (u : Unit) => []) (va_A [] z9)) 0 0 (va_A [] z9) := by
  refine z_ofW (Qc := fun A => wQi G (fun (r : Int32) (u : Unit) => r = zI (z / p8 i % 256)) (fun (u : Unit) => []) A) l G [] [.int (zI z), .int (zI i)] (by decide) rfl rfl ?_ z9
  intro p e s m args below meth c A ls H locs hF hr hlocks hinit hP hK hD hA hS hBd hl
  have hF : wFx p m c cX9_codeAt 2 s args wsX9_codeAt RX9 := hF
  have hl : lv_has ls 2 [(0, .int (zI z)), (1, .int (zI i))] := hl
  have hx := hF.1
  have hb := hF.2.1
  obtain ⟨Q0, hQ⟩ : ∃ q, q = (MQ below (wQi G (fun (r : Int32) (u : Unit) => r = zI (z / p8 i % 256)) (fun (u : Unit) => []) A) args s 0 0 A) := ⟨_, rfl⟩
  rw [← hQ]
  refine lv_iload_n hx hb dX9_codeAt_0 rfl (lv_at hl 0 rfl) ?_
  refine z_bipush hF dX9_codeAt_1 (by decide) ?_
  refine lv_iload_n hx hb dX9_codeAt_3 rfl (lv_at hl 1 rfl) ?_
  refine z_imul hF dX9_codeAt_4 ?_
  refine lv_iushr hx hb dX9_codeAt_5 (zI_ushr8 hz hi3) ?_
  refine z_sipush hF dX9_codeAt_6 (by decide) ?_
  refine lv_iand hx hb dX9_codeAt_9 ?_
  refine z_top (zI_and255 ⟨Int.ediv_nonneg hz.1 (Int.le_of_lt (p8_pos i)), Int.lt_of_le_of_lt (Int.ediv_le_self _ hz.1) hz.2⟩) ?_
  rw [hQ]
  exact z_iret hF hr hlocks () (rfl) hP hK hD hS dX9_codeAt_10
set_option maxHeartbeats 4000000 in
set_option maxRecDepth 100000 in
theorem c_X9_fromOf (l : Launch) (G : wG) (z : Int)  (hz : 0 ≤ z ∧ z < 4294967296) (z9 : Nat) : Met l yX9_fromOf wsX9_fromOf (rmL 1 0 0) (wPc G [] z9 [.int (zI z)]) (wQi G (fun (r : Int32) (u : Unit) => r = zI (z / 8)) (fun (u : Unit) => []) (va_A [] z9)) 0 0 (va_A [] z9) := by
  refine z_ofW (Qc := fun A => wQi G (fun (r : Int32) (u : Unit) => r = zI (z / 8)) (fun (u : Unit) => []) A) l G [] [.int (zI z)] (by decide) rfl rfl ?_ z9
  intro p e s m args below meth c A ls H locs hF hr hlocks hinit hP hK hD hA hS hBd hl
  have hF : wFx p m c cX9_fromOf 1 s args wsX9_fromOf RX9 := hF
  have hl : lv_has ls 1 [(0, .int (zI z))] := hl
  have hx := hF.1
  have hb := hF.2.1
  obtain ⟨Q0, hQ⟩ : ∃ q, q = (MQ below (wQi G (fun (r : Int32) (u : Unit) => r = zI (z / 8)) (fun (u : Unit) => []) A) args s 0 0 A) := ⟨_, rfl⟩
  rw [← hQ]
  refine lv_iload_n hx hb dX9_fromOf_0 rfl (lv_at hl 0 rfl) ?_
  refine z_iconst hF dX9_fromOf_1 ?_
  refine lv_iushr hx hb dX9_fromOf_2 (zI_ushr hz (by decide)) ?_
  rw [hQ]
  exact z_iret hF hr hlocks () (rfl) hP hK hD hS dX9_fromOf_3
set_option maxHeartbeats 4000000 in
set_option maxRecDepth 100000 in
theorem c_X9_dieOf (l : Launch) (G : wG) (z : Int)  (hz : 0 ≤ z ∧ z < 4294967296) (z9 : Nat) : Met l yX9_dieOf wsX9_dieOf (rmL 1 0 0) (wPc G [] z9 [.int (zI z)]) (wQi G (fun (r : Int32) (u : Unit) => r = zI (z % 8)) (fun (u : Unit) => []) (va_A [] z9)) 0 0 (va_A [] z9) := by
  refine z_ofW (Qc := fun A => wQi G (fun (r : Int32) (u : Unit) => r = zI (z % 8)) (fun (u : Unit) => []) A) l G [] [.int (zI z)] (by decide) rfl rfl ?_ z9
  intro p e s m args below meth c A ls H locs hF hr hlocks hinit hP hK hD hA hS hBd hl
  have hF : wFx p m c cX9_dieOf 1 s args wsX9_dieOf RX9 := hF
  have hl : lv_has ls 1 [(0, .int (zI z))] := hl
  have hx := hF.1
  have hb := hF.2.1
  obtain ⟨Q0, hQ⟩ : ∃ q, q = (MQ below (wQi G (fun (r : Int32) (u : Unit) => r = zI (z % 8)) (fun (u : Unit) => []) A) args s 0 0 A) := ⟨_, rfl⟩
  rw [← hQ]
  refine lv_iload_n hx hb dX9_dieOf_0 rfl (lv_at hl 0 rfl) ?_
  refine z_bipush hF dX9_dieOf_1 (by decide) ?_
  refine lv_iand hx hb dX9_dieOf_3 ?_
  refine z_top (zI_and7 hz) ?_
  rw [hQ]
  exact z_iret hF hr hlocks () (rfl) hP hK hD hS dX9_dieOf_4
set_option maxHeartbeats 4000000 in
set_option maxRecDepth 100000 in
theorem c_X9_codeOf (l : Launch) (G : wG) (fr d : Int)  (hfr : 1 ≤ fr ∧ fr ≤ 25) (hd6 : 1 ≤ d ∧ d ≤ 6) (z9 : Nat) : Met l yX9_codeOf wsX9_codeOf (rmL 1 0 0) (wPc G [] z9 [.int (zI fr), .int (zI d)]) (wQi G (fun (r : Int32) (u : Unit) => r = zI (8 * fr + d)) (fun (u : Unit) => []) (va_A [] z9)) 0 0 (va_A [] z9) := by
  refine z_ofW (Qc := fun A => wQi G (fun (r : Int32) (u : Unit) => r = zI (8 * fr + d)) (fun (u : Unit) => []) A) l G [] [.int (zI fr), .int (zI d)] (by decide) rfl rfl ?_ z9
  intro p e s m args below meth c A ls H locs hF hr hlocks hinit hP hK hD hA hS hBd hl
  have hF : wFx p m c cX9_codeOf 2 s args wsX9_codeOf RX9 := hF
  have hl : lv_has ls 2 [(0, .int (zI fr)), (1, .int (zI d))] := hl
  have hx := hF.1
  have hb := hF.2.1
  obtain ⟨Q0, hQ⟩ : ∃ q, q = (MQ below (wQi G (fun (r : Int32) (u : Unit) => r = zI (8 * fr + d)) (fun (u : Unit) => []) A) args s 0 0 A) := ⟨_, rfl⟩
  rw [← hQ]
  refine lv_iload_n hx hb dX9_codeOf_0 rfl (lv_at hl 0 rfl) ?_
  refine z_iconst hF dX9_codeOf_1 ?_
  refine lv_ishl hx hb dX9_codeOf_2 ?_
  refine z_top (zI_shl (by omega) (by decide) (by show fr * 8 < _; omega)) ?_
  refine lv_iload_n hx hb dX9_codeOf_3 rfl (lv_at hl 1 rfl) ?_
  refine lv_ior hx hb dX9_codeOf_4 ?_
  refine z_top (zI_or 3 (by show 0 ≤ d ∧ d < 8; omega) (by omega)) ?_
  refine z_tz (b := 8 * fr + d) (by show fr * 8 + d = _; omega) ?_
  rw [hQ]
  exact z_iret hF hr hlocks () (rfl) hP hK hD hS dX9_codeOf_5
set_option maxHeartbeats 4000000 in
set_option maxRecDepth 100000 in
theorem c_X9_withCode (l : Launch) (G : wG) (z i w : Int)  (hi3 : 0 ≤ i ∧ i ≤ 3) (hz : 0 ≤ z ∧ z < p8 i) (hw : 0 ≤ w ∧ w < 256) (z9 : Nat) : Met l yX9_withCode wsX9_withCode (rmL 1 0 0) (wPc G [] z9 [.int (zI z), .int (zI i), .int (zI w)]) (wQi G (fun (r : Int32) (u : Unit) => r = zI (z + w * p8 i)) (fun (u : Unit) => []) (va_A [] z9)) 0 0 (va_A [] z9) := by
  refine z_ofW (Qc := fun A => wQi G (fun (r : Int32) (u : Unit) => r = zI (z + w * p8 i)) (fun (u : Unit) => []) A) l G [] [.int (zI z), .int (zI i), .int (zI w)] (by decide) rfl rfl ?_ z9
  intro p e s m args below meth c A ls H locs hF hr hlocks hinit hP hK hD hA hS hBd hl
  have hF : wFx p m c cX9_withCode 3 s args wsX9_withCode RX9 := hF
  have hl : lv_has ls 3 [(0, .int (zI z)), (1, .int (zI i)), (2, .int (zI w))] := hl
  have hx := hF.1
  have hb := hF.2.1
  obtain ⟨Q0, hQ⟩ : ∃ q, q = (MQ below (wQi G (fun (r : Int32) (u : Unit) => r = zI (z + w * p8 i)) (fun (u : Unit) => []) A) args s 0 0 A) := ⟨_, rfl⟩
  rw [← hQ]
  refine lv_iload_n hx hb dX9_withCode_0 rfl (lv_at hl 0 rfl) ?_
  refine lv_iload_n hx hb dX9_withCode_1 rfl (lv_at hl 2 rfl) ?_
  refine z_bipush hF dX9_withCode_2 (by decide) ?_
  refine lv_iload_n hx hb dX9_withCode_4 rfl (lv_at hl 1 rfl) ?_
  refine z_imul hF dX9_withCode_5 ?_
  refine lv_ishl hx hb dX9_withCode_6 ?_
  refine z_top (zI_shl8 hw hi3) ?_
  refine lv_ior hx hb dX9_withCode_7 ?_
  refine z_top (zI_or8 hi3 hz hw.1) ?_
  rw [hQ]
  exact z_iret hF hr hlocks () (rfl) hP hK hD hS dX9_withCode_8
set_option maxHeartbeats 4000000 in
set_option maxRecDepth 100000 in
theorem c_X1_pair (l : Launch) (G : wG) (x y : Int)  (hr_x : -2147483648 ≤ x ∧ x < 2147483648) (hr_y : -2147483648 ≤ y ∧ y < 2147483648) (z9 : Nat) : Met l yX1_pair wsX1_pair (rmL 2 0 0) (wPc G [] z9 [.int (zI x), .int (zI y)]) (wQi G (fun (r : Int32) (u : Unit) => r = zI (7 * zmax x y + zmin x y)) (fun (u : Unit) => []) (va_A [] z9)) 0 0 (va_A [] z9) := by
  refine z_ofW (Qc := fun A => wQi G (fun (r : Int32) (u : Unit) => r = zI (7 * zmax x y + zmin x y)) (fun (u : Unit) => []) A) l G [] [.int (zI x), .int (zI y)] (by decide) rfl rfl ?_ z9
  intro p e s m args below meth c A ls H locs hF hr hlocks hinit hP hK hD hA hS hBd hl
  have hF : wFx p m c cX1_pair 2 s args wsX1_pair RX1 := hF
  have hl : lv_has ls 2 [(0, .int (zI x)), (1, .int (zI y))] := hl
  have hx := hF.1
  have hb := hF.2.1
  obtain ⟨Q0, hQ⟩ : ∃ q, q = (MQ below (wQi G (fun (r : Int32) (u : Unit) => r = zI (7 * zmax x y + zmin x y)) (fun (u : Unit) => []) A) args s 0 0 A) := ⟨_, rfl⟩
  rw [← hQ]
  have km_23 : (Cond.methodLink RX1 23 Lib.Math.max.name).before args s = true := hF.2.2.2.2 _ (List.mem_cons_of_mem _ (List.mem_of_getElem? (i := 0) rfl))
  have km_29 : (Cond.methodLink RX1 29 Lib.Math.min.name).before args s = true := hF.2.2.2.2 _ (List.mem_cons_of_mem _ (List.mem_of_getElem? (i := 4) rfl))
  have kq_max : (Cond.code Lib.Math.max.name Lib.Math.max.code 2 (some .int)).before args s = true := hF.2.2.2.2 _ (List.mem_cons_of_mem _ (List.mem_of_getElem? (i := 3) rfl))
  have kq_min : (Cond.code Lib.Math.min.name Lib.Math.min.code 2 (some .int)).before args s = true := hF.2.2.2.2 _ (List.mem_cons_of_mem _ (List.mem_of_getElem? (i := 6) rfl))
  have ks_max : (Cond.static Lib.Math.max.name).before args s = true := hF.2.2.2.2 _ (List.mem_cons_of_mem _ (List.mem_of_getElem? (i := 1) rfl))
  have ks_min : (Cond.static Lib.Math.min.name).before args s = true := hF.2.2.2.2 _ (List.mem_cons_of_mem _ (List.mem_of_getElem? (i := 5) rfl))
  have kt_Math : (Cond.initialized "java/lang/Math").before args s = true := hF.2.2.2.2 _ (List.mem_cons_of_mem _ (List.mem_of_getElem? (i := 2) rfl))
  refine z_bipush hF dX1_pair_0 (by decide) ?_
  refine lv_iload_n hx hb dX1_pair_2 rfl (lv_at hl 0 rfl) ?_
  refine lv_iload_n hx hb dX1_pair_3 rfl (lv_at hl 1 rfl) ?_
  refine z_max hF km_23 ks_max kt_Math kq_max hl.1 (Nat.le_of_ble_eq_true rfl) (Nat.le_of_ble_eq_true rfl) (Nat.le_of_ble_eq_true rfl) (Nat.le_of_ble_eq_true rfl) (by omega) (by omega) dX1_pair_4 ?_
  refine z_imul hF dX1_pair_7 ?_
  refine lv_iload_n hx hb dX1_pair_8 rfl (lv_at hl 0 rfl) ?_
  refine lv_iload_n hx hb dX1_pair_9 rfl (lv_at hl 1 rfl) ?_
  refine z_min hF km_29 ks_min kt_Math kq_min hl.1 (Nat.le_of_ble_eq_true rfl) (Nat.le_of_ble_eq_true rfl) (Nat.le_of_ble_eq_true rfl) (Nat.le_of_ble_eq_true rfl) (by omega) (by omega) dX1_pair_10 ?_
  refine z_iadd hF dX1_pair_13 ?_
  rw [hQ]
  exact z_iret hF hr hlocks () (rfl) hP hK hD hS dX1_pair_14
set_option maxHeartbeats 4000000 in
set_option maxRecDepth 100000 in
theorem c_X0_carry (l : Launch) (G : wG) (h0 a0 : Nat) (b : Int → Int) (sd n z : Int) (ms : List (Int × Int))  (hsd : 0 ≤ sd ∧ sd ≤ 1) (hn : n ≤ 1000) (hz : z = rc ms) (hlen : ms.length ≤ 4) (hlg : lgR sd b ms) (hvb : VB n b) (z9 : Nat) : Met l yX0_carry wsX0_carry (rmL 3 0 0) (wPc G [(h0, .inr (0, [.ref a0])), (a0, .inl (G.2.1.1, 52, .inl (aI b)))] z9 [.ref h0, .int (zI sd), .int (zI z)]) (wQi G (fun (r : Int32) (u : Unit) => r = zI (hiR sd b ms)) (fun (u : Unit) => [(h0, .inr (0, [.ref a0])), (a0, .inl (G.2.1.1, 52, .inl (aI (poR sd b ms))))]) (va_A [(h0, .inr (0, [.ref a0])), (a0, .inl (G.2.1.1, 52, .inl (aI b)))] z9)) 0 0 (va_A [(h0, .inr (0, [.ref a0])), (a0, .inl (G.2.1.1, 52, .inl (aI b)))] z9) := by
  refine z_ofW (Qc := fun A => wQi G (fun (r : Int32) (u : Unit) => r = zI (hiR sd b ms)) (fun (u : Unit) => [(h0, .inr (0, [.ref a0])), (a0, .inl (G.2.1.1, 52, .inl (aI (poR sd b ms))))]) A) l G [(h0, .inr (0, [.ref a0])), (a0, .inl (G.2.1.1, 52, .inl (aI b)))] [.ref h0, .int (zI sd), .int (zI z)] (by decide) rfl rfl ?_ z9
  intro p e s m args below meth c A ls H locs hF hr hlocks hinit hP hK hD hA hS hBd hl
  have hF : wFx p m c cX0_carry 6 s args wsX0_carry RX0 := hF
  have hl : lv_has ls 6 [(0, .ref h0), (1, .int (zI sd)), (2, .int (zI z))] := hl
  have hx := hF.1
  have hb := hF.2.1
  obtain ⟨Q0, hQ⟩ : ∃ q, q = (MQ below (wQi G (fun (r : Int32) (u : Unit) => r = zI (hiR sd b ms)) (fun (u : Unit) => [(h0, .inr (0, [.ref a0])), (a0, .inl (G.2.1.1, 52, .inl (aI (poR sd b ms))))]) A) args s 0 0 A) := ⟨_, rfl⟩
  rw [← hQ]
  have ks_yX9_codeAt : (Cond.static yX9_codeAt).before args s = true := hF.2.2.2.2 _ (List.mem_cons_of_mem _ (List.mem_append_left _ (List.mem_append_left _ (List.mem_of_getElem? (i := 0) rfl))))
  have ks_yX9_dieOf : (Cond.static yX9_dieOf).before args s = true := hF.2.2.2.2 _ (List.mem_cons_of_mem _ (List.mem_append_left _ (List.mem_append_left _ (List.mem_of_getElem? (i := 5) rfl))))
  have ks_yX9_fromOf : (Cond.static yX9_fromOf).before args s = true := hF.2.2.2.2 _ (List.mem_cons_of_mem _ (List.mem_append_left _ (List.mem_append_left _ (List.mem_of_getElem? (i := 3) rfl))))
  have kt_RX9 : (Cond.initialized RX9).before args s = true := hF.2.2.2.2 _ (List.mem_cons_of_mem _ (List.mem_append_left _ (List.mem_append_left _ (List.mem_of_getElem? (i := 1) rfl))))
  have hz0 : 0 ≤ z ∧ z < 4294967296 := by rw [hz]; exact rc_4 hlg hlen
  refine z_iconst hF dX0_carry_0 ?_
  refine lv_istore_n (lv' := [(3, .int (zI 0)), (0, .ref h0), (1, .int (zI sd)), (2, .int (zI z))]) hx hb dX0_carry_1 rfl hl (by decide) rfl (fun ls hl => ?_)
  refine z_iconst hF dX0_carry_2 ?_
  refine lv_istore (lv' := [(4, .int (zI 0)), (3, .int (zI 0)), (0, .ref h0), (1, .int (zI sd)), (2, .int (zI z))]) hx hb dX0_carry_3 hl (by decide) rfl (fun ls hl => ?_)
  have L5 : ∀ (n9 : Nat) (i hits : Int) (t : List (Int × Int)) (c0 : Int → Int), (4 - i).toNat < n9 → (0 ≤ i ∧ i ≤ 4) → (t.length : Int) ≤ 4 - i → (i < 4 → z / p8 i = rc t) → lgR sd c0 t → VB n c0 → hits + hiR sd c0 t = hiR sd b ms → poR sd c0 t = poR sd b ms → ∀ (H : Heap) (locs : List Loc) (ls : Array Slot), va_P G.1 vwCl [(h0, .inr (0, [.ref a0])), (a0, .inl (G.2.1.1, 52, .inl (aI c0)))] H → va_D A [(h0, .inr (0, [.ref a0])), (a0, .inl (G.2.1.1, 52, .inl (aI c0)))] → va_S A s.heap H locs → lv_has ls 6 [(0, .ref h0), (1, .int (zI sd)), (2, .int (zI z)), (3, .int (zI hits)), (4, .int (zI i))] → W p l e (rmL 3 0 0) s m args below meth c H locs 0 0 Q0 (F0 m 5 ls []) := by
    intro n9
    induction n9 with
    | zero => intro i hits t c0 hmu; omega
    | succ n9 ih5 =>
      intro i hits t c0 hmu5 hzi htl hrc hlt hvc hhs hpo H locs ls hP hD hS hl
      refine lv_iload hx hb dX0_carry_5 (lv_at hl 4 rfl) ?_
      refine z_iconst hF dX0_carry_7 ?_
      refine z_icmp_ge (tgt := 51) hF dX0_carry_8 (by decide) (by omega) (by decide) (fun c_1 => ?_) (fun c_1 => ?_)
      · have hc_8 := c_1
        refine lv_iload_n hx hb dX0_carry_51 rfl (lv_at hl 3 rfl) ?_
        have ht0 : t = [] := List.eq_nil_of_length_eq_zero (by omega)
        subst ht0
        rw [show c0 = poR sd b ms from hpo] at hP hD
        rw [hQ]
        exact z_iret hF hr hlocks () (by rw [← hhs]; exact zI_congr (by rw [hiR]; omega)) hP hK hD hS dX0_carry_52
      · have hc_8 := c_1
        rcases t with _ | ⟨q, t9⟩
        · skip
          refine lv_iload_n hx hb dX0_carry_11 rfl (lv_at hl 2 rfl) ?_
          refine lv_iload hx hb dX0_carry_12 (lv_at hl 4 rfl) ?_
          refine cj_i (va_runSN (As := [.int (zI z), .int (zI i)]) (rest := []) hF (c_X9_codeAt l G z i  hz0 (by omega) H.size) ⟨va_cnB 2 hF.2.2.2.2 gX0_carry_X9_codeAt_n38 rfl rfl rfl (hBd.2.1 (RX0, 38, yX9_codeAt, RX9) (by decide)) kt_RX9 (by decide +kernel) ⟨Nat.le_of_ble_eq_true rfl, Nat.le_of_ble_eq_true rfl⟩, ks_yX9_codeAt, trivial⟩ (z_preS hK hP hD hS hA hBd [] rfl rfl [.int (zI z), .int (zI i)]) rfl rfl hl.1 rfl (lv_room (Nat.le_of_ble_eq_true rfl)) dX0_carry_14 ⟨Nat.le_of_ble_eq_true rfl, Nat.le_of_ble_eq_true rfl⟩) hP hD hS hA [] rfl (fun _ => Nat.le_of_ble_eq_true rfl) (fun r_3 u_2 H locs hw hP hD hS => ?_)
          have hP : va_P G.1 vwCl [(h0, .inr (0, [.ref a0])), (a0, .inl (G.2.1.1, 52, .inl (aI c0)))] H := hP
          have hD : va_D A [(h0, .inr (0, [.ref a0])), (a0, .inl (G.2.1.1, 52, .inl (aI c0)))] := hD
          obtain rfl := hw
          refine z_tz (b := 0) (by rw [hrc (by omega)]; rfl) ?_
          refine lv_istore (lv' := [(5, .int (zI 0)), (0, .ref h0), (1, .int (zI sd)), (2, .int (zI z)), (3, .int (zI hits)), (4, .int (zI i))]) hx hb dX0_carry_17 hl (by decide) rfl (fun ls hl => ?_)
          refine lv_iload hx hb dX0_carry_19 (lv_at hl 0 rfl) ?_
          refine z_if_eq (tgt := 45) hF dX0_carry_21 (by decide) (by decide) (fun c_4 => ?_) (fun c_4 => ?_)
          · have hc_21 := c_4
            refine z_iinc (lv' := [(4, .int (zI (i + 1))), (5, .int (zI 0)), (0, .ref h0), (1, .int (zI sd)), (2, .int (zI z)), (3, .int (zI hits))]) hF dX0_carry_45 hl (k := 5) rfl (by decide) rfl (fun ls hl => ?_)
            refine z_goto (tgt := 5) hF dX0_carry_48 (by decide) ?_
            exact ih5 (i + 1) hits ([]) c0 (by omega) (by omega) (by simp; omega) (fun h9 => by rw [p8_s (by omega), hrc (by omega)]; rfl) trivial hvc hhs hpo H locs ls hP hD hS (lv_sub hl [2, 3, 4, 5, 0] rfl)
          · exact absurd c_4 (by decide)
        · skip
          refine lv_iload_n hx hb dX0_carry_11 rfl (lv_at hl 2 rfl) ?_
          refine lv_iload hx hb dX0_carry_12 (lv_at hl 4 rfl) ?_
          refine cj_i (va_runSN (As := [.int (zI z), .int (zI i)]) (rest := []) hF (c_X9_codeAt l G z i  hz0 (by omega) H.size) ⟨va_cnB 2 hF.2.2.2.2 gX0_carry_X9_codeAt_n38 rfl rfl rfl (hBd.2.1 (RX0, 38, yX9_codeAt, RX9) (by decide)) kt_RX9 (by decide +kernel) ⟨Nat.le_of_ble_eq_true rfl, Nat.le_of_ble_eq_true rfl⟩, ks_yX9_codeAt, trivial⟩ (z_preS hK hP hD hS hA hBd [] rfl rfl [.int (zI z), .int (zI i)]) rfl rfl hl.1 rfl (lv_room (Nat.le_of_ble_eq_true rfl)) dX0_carry_14 ⟨Nat.le_of_ble_eq_true rfl, Nat.le_of_ble_eq_true rfl⟩) hP hD hS hA [] rfl (fun _ => Nat.le_of_ble_eq_true rfl) (fun r_6 u_5 H locs hw hP hD hS => ?_)
          have hP : va_P G.1 vwCl [(h0, .inr (0, [.ref a0])), (a0, .inl (G.2.1.1, 52, .inl (aI c0)))] H := hP
          have hD : va_D A [(h0, .inr (0, [.ref a0])), (a0, .inl (G.2.1.1, 52, .inl (aI c0)))] := hD
          obtain rfl := hw
          refine z_tz (b := (8 * q.1 + q.2)) (by rw [hrc (by omega)]; exact (rc_tl hlt).2) ?_
          refine lv_istore (lv' := [(5, .int (zI (8 * q.1 + q.2))), (0, .ref h0), (1, .int (zI sd)), (2, .int (zI z)), (3, .int (zI hits)), (4, .int (zI i))]) hx hb dX0_carry_17 hl (by decide) rfl (fun ls hl => ?_)
          refine lv_iload hx hb dX0_carry_19 (lv_at hl 0 rfl) ?_
          refine z_if_eq (tgt := 45) hF dX0_carry_21 (by decide) (by have := lgR_cd hlt; omega) (fun c_7 => ?_) (fun c_7 => ?_)
          · exfalso; have := lgR_cd hlt; omega
          · have hc_21 := c_7
            have hcd := lgR_cd hlt
            have hfr9 := hlt.1.rg
            have hd9 := hlt.2.1
            refine lv_aload_n hx hb dX0_carry_24 rfl (lv_at hl 1 rfl) ?_
            refine lv_iload_n hx hb dX0_carry_25 rfl (lv_at hl 2 rfl) ?_
            refine lv_iload hx hb dX0_carry_26 (lv_at hl 0 rfl) ?_
            refine cj_i (va_runSN (As := [.int (zI (8 * q.1 + q.2))]) (rest := [.int (zI sd), .ref h0]) hF (c_X9_fromOf l G (8 * q.1 + q.2)  (by omega) H.size) ⟨va_cnB 1 hF.2.2.2.2 gX0_carry_X9_fromOf_n41 rfl rfl rfl (hBd.2.1 (RX0, 41, yX9_fromOf, RX9) (by decide)) kt_RX9 (by decide +kernel) ⟨Nat.le_of_ble_eq_true rfl, Nat.le_of_ble_eq_true rfl⟩, ks_yX9_fromOf, trivial⟩ (z_preS hK hP hD hS hA hBd [] rfl rfl [.int (zI (8 * q.1 + q.2))]) rfl rfl hl.1 rfl (lv_room (Nat.le_of_ble_eq_true rfl)) dX0_carry_28 ⟨Nat.le_of_ble_eq_true rfl, Nat.le_of_ble_eq_true rfl⟩) hP hD hS hA [] rfl (fun _ => Nat.le_of_ble_eq_true rfl) (fun r_9 u_8 H locs hw hP hD hS => ?_)
            have hP : va_P G.1 vwCl [(h0, .inr (0, [.ref a0])), (a0, .inl (G.2.1.1, 52, .inl (aI c0)))] H := hP
            have hD : va_D A [(h0, .inr (0, [.ref a0])), (a0, .inl (G.2.1.1, 52, .inl (aI c0)))] := hD
            obtain rfl := hw
            refine z_tz (b := q.1) (by omega) ?_
            refine lv_iload hx hb dX0_carry_31 (lv_at hl 0 rfl) ?_
            refine cj_i (va_runSN (As := [.int (zI (8 * q.1 + q.2))]) (rest := [.int (zI q.1), .int (zI sd), .ref h0]) hF (c_X9_dieOf l G (8 * q.1 + q.2)  (by omega) H.size) ⟨va_cnB 1 hF.2.2.2.2 gX0_carry_X9_dieOf_n44 rfl rfl rfl (hBd.2.1 (RX0, 44, yX9_dieOf, RX9) (by decide)) kt_RX9 (by decide +kernel) ⟨Nat.le_of_ble_eq_true rfl, Nat.le_of_ble_eq_true rfl⟩, ks_yX9_dieOf, trivial⟩ (z_preS hK hP hD hS hA hBd [] rfl rfl [.int (zI (8 * q.1 + q.2))]) rfl rfl hl.1 rfl (lv_room (Nat.le_of_ble_eq_true rfl)) dX0_carry_33 ⟨Nat.le_of_ble_eq_true rfl, Nat.le_of_ble_eq_true rfl⟩) hP hD hS hA [] rfl (fun _ => Nat.le_of_ble_eq_true rfl) (fun r_11 u_10 H locs hw hP hD hS => ?_)
            have hP : va_P G.1 vwCl [(h0, .inr (0, [.ref a0])), (a0, .inl (G.2.1.1, 52, .inl (aI c0)))] H := hP
            have hD : va_D A [(h0, .inr (0, [.ref a0])), (a0, .inl (G.2.1.1, 52, .inl (aI c0)))] := hD
            obtain rfl := hw
            refine z_tz (b := q.2) (by omega) ?_
            refine cj_i (va_runV (As := [.int (zI sd), .int (zI q.1), .int (zI q.2)]) (rest := []) hF (c_X0_step l G h0 a0 c0 sd q.1 q.2  (by omega) hfr9 hd9 (hvc.ok hn) H.size) (cwV 3 hF.2.2.2.2 gX0_carry_X0_step rfl rfl rfl (by decide +kernel) ⟨Nat.le_of_ble_eq_true rfl, Nat.le_of_ble_eq_true rfl⟩) (z_preV hK hP hD hS hA hBd [0, 1] rfl rfl rfl rfl [.int (zI sd), .int (zI q.1), .int (zI q.2)]) rfl rfl hl.1 rfl (lv_room (Nat.le_of_ble_eq_true rfl)) dX0_carry_36 ⟨Nat.le_of_ble_eq_true rfl, Nat.le_of_ble_eq_true rfl⟩) hP hD hS hA [0, 1] rfl (fun _ => Nat.le_of_ble_eq_true rfl) (fun r_13 u_12 H locs hw hP hD hS => ?_)
            have hP : va_P G.1 vwCl [(h0, .inr (0, [.ref a0])), (a0, .inl (G.2.1.1, 52, .inl (aI (stp c0 sd q.1 q.2))))] H := hP
            have hD : va_D A [(h0, .inr (0, [.ref a0])), (a0, .inl (G.2.1.1, 52, .inl (aI (stp c0 sd q.1 q.2))))] := hD
            obtain rfl := hw
            refine z_if_eq (tgt := 45) hF dX0_carry_39 (by decide) (by have := hwB_cs c0 sd q.1 q.2; omega) (fun c_14 => ?_) (fun c_14 => ?_)
            · have hc_39 := c_14
              refine z_iinc (lv' := [(4, .int (zI (i + 1))), (5, .int (zI (8 * q.1 + q.2))), (0, .ref h0), (1, .int (zI sd)), (2, .int (zI z)), (3, .int (zI hits))]) hF dX0_carry_45 hl (k := 5) rfl (by decide) rfl (fun ls hl => ?_)
              refine z_goto (tgt := 5) hF dX0_carry_48 (by decide) ?_
              exact ih5 (i + 1) hits t9 (stp c0 sd q.1 q.2) (by omega) (by omega) (by simp at htl; omega) (fun h9 => by rw [p8_s (by omega), hrc (by omega)]; exact (rc_tl hlt).1) hlt.2.2 (hlt.1.VB hvc hsd hlt.2.1.1) (by have q9 := hhs; rw [hiR] at q9; have := hwB_cs c0 sd q.1 q.2; omega) hpo H locs ls hP hD hS (lv_sub hl [2, 3, 4, 5, 0] rfl)
            · have hc_39 := c_14
              refine z_iinc (lv' := [(3, .int (zI (hits + 1))), (5, .int (zI (8 * q.1 + q.2))), (0, .ref h0), (1, .int (zI sd)), (2, .int (zI z)), (4, .int (zI i))]) hF dX0_carry_42 hl (k := 4) rfl (by decide) rfl (fun ls hl => ?_)
              refine z_iinc (lv' := [(4, .int (zI (i + 1))), (3, .int (zI (hits + 1))), (5, .int (zI (8 * q.1 + q.2))), (0, .ref h0), (1, .int (zI sd)), (2, .int (zI z))]) hF dX0_carry_45 hl (k := 5) rfl (by decide) rfl (fun ls hl => ?_)
              refine z_goto (tgt := 5) hF dX0_carry_48 (by decide) ?_
              exact ih5 (i + 1) (hits + 1) t9 (stp c0 sd q.1 q.2) (by omega) (by omega) (by simp at htl; omega) (fun h9 => by rw [p8_s (by omega), hrc (by omega)]; exact (rc_tl hlt).1) hlt.2.2 (hlt.1.VB hvc hsd hlt.2.1.1) (by have q9 := hhs; rw [hiR] at q9; have := hwB_cs c0 sd q.1 q.2; omega) hpo H locs ls hP hD hS (lv_sub hl [3, 4, 5, 1, 0] rfl)
  exact L5 _ 0 0 ms b (Nat.lt_succ_self _) (by omega) (by omega) (fun _ => by rw [show p8 0 = 1 from rfl, Int.ediv_one]; exact hz) hlg hvb (Int.zero_add _) rfl H locs ls hP hD hS (lv_sub hl [2, 3, 4, 1, 0] rfl)
set_option maxHeartbeats 4000000 in
set_option maxRecDepth 100000 in
theorem c_X0_worthFor (l : Launch) (G : wG) (h0 a0 : Nat) (b : Int → Int) (sd : Int)  (hsd : 0 ≤ sd ∧ sd ≤ 1) (hok : okB b) (z9 : Nat) : Met l yX0_worthFor wsX0_worthFor (rmL 1 0 0) (wPc G [(h0, .inr (0, [.ref a0])), (a0, .inl (G.2.1.1, 52, .inl (aI b)))] z9 [.ref h0, .int (zI sd)]) (wQi G (fun (r : Int32) (u : Unit) => r = zI (wth b sd)) (fun (u : Unit) => [(h0, .inr (0, [.ref a0])), (a0, .inl (G.2.1.1, 52, .inl (aI b)))]) (va_A [(h0, .inr (0, [.ref a0])), (a0, .inl (G.2.1.1, 52, .inl (aI b)))] z9)) 0 0 (va_A [(h0, .inr (0, [.ref a0])), (a0, .inl (G.2.1.1, 52, .inl (aI b)))] z9) := by
  refine z_ofW (Qc := fun A => wQi G (fun (r : Int32) (u : Unit) => r = zI (wth b sd)) (fun (u : Unit) => [(h0, .inr (0, [.ref a0])), (a0, .inl (G.2.1.1, 52, .inl (aI b)))]) A) l G [(h0, .inr (0, [.ref a0])), (a0, .inl (G.2.1.1, 52, .inl (aI b)))] [.ref h0, .int (zI sd)] (by decide) rfl rfl ?_ z9
  intro p e s m args below meth c A ls H locs hF hr hlocks hinit hP hK hD hA hS hBd hl
  have hF : wFx p m c cX0_worthFor 10 s args wsX0_worthFor RX0 := hF
  have hl : lv_has ls 10 [(0, .ref h0), (1, .int (zI sd))] := hl
  have hx := hF.1
  have hb := hF.2.1
  obtain ⟨Q0, hQ⟩ : ∃ q, q = (MQ below (wQi G (fun (r : Int32) (u : Unit) => r = zI (wth b sd)) (fun (u : Unit) => [(h0, .inr (0, [.ref a0])), (a0, .inl (G.2.1.1, 52, .inl (aI b)))]) A) args s 0 0 A) := ⟨_, rfl⟩
  rw [← hQ]
  have i_wsX00 : ∀ w ∈ wsX00, w ∈ wsX0_worthFor := (fun _ h => (List.mem_cons_of_mem _ (List.mem_append_right _ h)))
  have kf_9 : (Cond.fieldLink RX0 9 "Gammonry$Board" "counts" "[I").before args s = true := hF.2.2.2.2 _ (List.mem_cons_of_mem _ (List.mem_append_left _ (List.mem_of_getElem? (i := 0) rfl)))
  refine lv_iload_n hx hb dX0_worthFor_0 rfl (lv_at hl 1 rfl) ?_
  refine z_if_lt (tgt := 9) hF dX0_worthFor_1 (by decide) (by omega) (fun c_1 => ?_) (fun c_1 => ?_)
  · exfalso; omega
  · have hc_1 := c_1
    refine lv_iload_n hx hb dX0_worthFor_4 rfl (lv_at hl 1 rfl) ?_
    refine z_iconst hF dX0_worthFor_5 ?_
    refine z_icmp_le (tgt := 11) hF dX0_worthFor_6 (by decide) (by omega) (by decide) (fun c_2 => ?_) (fun c_2 => ?_)
    · have hc_6 := c_2
      refine lv_iload_n hx hb dX0_worthFor_11 rfl (lv_at hl 1 rfl) ?_
      refine z_bipush hF dX0_worthFor_12 (by decide) ?_
      refine z_imul hF dX0_worthFor_14 ?_
      refine lv_istore_n (lv' := [(2, .int (zI (sd * 26))), (0, .ref h0), (1, .int (zI sd))]) hx hb dX0_worthFor_15 rfl hl (by decide) rfl (fun ls hl => ?_)
      refine z_bipush hF dX0_worthFor_16 (by decide) ?_
      refine lv_iload_n hx hb dX0_worthFor_18 rfl (lv_at hl 0 rfl) ?_
      refine z_isub hF dX0_worthFor_19 ?_
      refine lv_istore_n (lv' := [(3, .int (zI (26 - (sd * 26)))), (2, .int (zI (sd * 26))), (0, .ref h0), (1, .int (zI sd))]) hx hb dX0_worthFor_20 rfl hl (by decide) rfl (fun ls hl => ?_)
      refine lv_aload_n hx hb dX0_worthFor_21 rfl (lv_at hl 2 rfl) ?_
      refine z_get (k := 0) hF hK hP 0 rfl rfl i_wsX00 (by decide) kf_9 rfl dX0_worthFor_22 ?_
      refine lv_iload_n hx hb dX0_worthFor_25 rfl (lv_at hl 0 rfl) ?_
      refine z_bipush hF dX0_worthFor_26 (by decide) ?_
      refine z_iadd hF dX0_worthFor_28 ?_
      refine z_iald hF hK hP 1 rfl (by omega) rfl dX0_worthFor_29 ?_
      refine z_tz (b := (b (26 * (1 - sd) + 25))) (bx (by omega)) ?_
      refine lv_istore (lv' := [(4, .int (zI (b (26 * (1 - sd) + 25)))), (3, .int (zI (26 - (sd * 26)))), (2, .int (zI (sd * 26))), (0, .ref h0), (1, .int (zI sd))]) hx hb dX0_worthFor_30 hl (by decide) rfl (fun ls hl => ?_)
      refine z_bipush hF dX0_worthFor_32 (by decide) ?_
      refine lv_aload_n hx hb dX0_worthFor_34 rfl (lv_at hl 3 rfl) ?_
      refine z_get (k := 0) hF hK hP 0 rfl rfl i_wsX00 (by decide) kf_9 rfl dX0_worthFor_35 ?_
      refine lv_iload_n hx hb dX0_worthFor_38 rfl (lv_at hl 2 rfl) ?_
      refine z_iald hF hK hP 1 rfl (by omega) rfl dX0_worthFor_39 ?_
      refine z_tz (b := (b (26 * sd + 0))) (bx (by omega)) ?_
      refine z_imul hF dX0_worthFor_40 ?_
      refine z_bipush hF dX0_worthFor_41 (by decide) ?_
      refine lv_aload_n hx hb dX0_worthFor_43 rfl (lv_at hl 3 rfl) ?_
      refine z_get (k := 0) hF hK hP 0 rfl rfl i_wsX00 (by decide) kf_9 rfl dX0_worthFor_44 ?_
      refine lv_iload_n hx hb dX0_worthFor_47 rfl (lv_at hl 2 rfl) ?_
      refine z_bipush hF dX0_worthFor_48 (by decide) ?_
      refine z_iadd hF dX0_worthFor_50 ?_
      refine z_iald hF hK hP 1 rfl (by omega) rfl dX0_worthFor_51 ?_
      refine z_tz (b := (b (26 * sd + 25))) (bx (by omega)) ?_
      refine z_imul hF dX0_worthFor_52 ?_
      refine z_isub hF dX0_worthFor_53 ?_
      refine z_bipush hF dX0_worthFor_54 (by decide) ?_
      refine lv_iload hx hb dX0_worthFor_56 (lv_at hl 0 rfl) ?_
      refine z_imul hF dX0_worthFor_58 ?_
      refine z_iadd hF dX0_worthFor_59 ?_
      refine lv_istore (lv' := [(5, .int (zI (((10 * (b (26 * sd + 0))) - (25 * (b (26 * sd + 25)))) + (33 * (b (26 * (1 - sd) + 25)))))), (4, .int (zI (b (26 * (1 - sd) + 25)))), (3, .int (zI (26 - (sd * 26)))), (2, .int (zI (sd * 26))), (0, .ref h0), (1, .int (zI sd))]) hx hb dX0_worthFor_60 hl (by decide) rfl (fun ls hl => ?_)
      have qe := exZ_1 b sd
      have L77 : ∀ (n9 : Nat) (i sm0 ex : Int), (25 - i).toNat < n9 → (1 ≤ i ∧ i ≤ 25) → sm0 = wtZ b sd i → ex = exZ b sd i → ∀ (H : Heap) (locs : List Loc) (ls : Array Slot), va_P G.1 vwCl [(h0, .inr (0, [.ref a0])), (a0, .inl (G.2.1.1, 52, .inl (aI b)))] H → va_D A [(h0, .inr (0, [.ref a0])), (a0, .inl (G.2.1.1, 52, .inl (aI b)))] → va_S A s.heap H locs → lv_has ls 10 [(0, .ref h0), (1, .int (zI sd)), (2, .int (zI (sd * 26))), (3, .int (zI (26 - sd * 26))), (5, .int (zI sm0)), (6, .int (zI ex)), (7, .int (zI i))] → W p l e (rmL 1 0 0) s m args below meth c H locs 0 0 Q0 (F0 m 77 ls []) := by
        intro n9
        induction n9 with
        | zero => intro i sm0 ex hmu; omega
        | succ n9 ih77 =>
          intro i sm0 ex hmu77 hzi hsm hex H locs ls hP hD hS hl
          refine lv_iload hx hb dX0_worthFor_77 (lv_at hl 6 rfl) ?_
          refine z_bipush hF dX0_worthFor_79 (by decide) ?_
          refine z_icmp_gt (tgt := 177) hF dX0_worthFor_81 (by decide) (by omega) (by decide) (fun c_3 => ?_) (fun c_3 => ?_)
          · have hc_81 := c_3
            refine lv_iload hx hb dX0_worthFor_177 (lv_at hl 4 rfl) ?_
            rw [hQ]
            exact z_iret hF hr hlocks () (zI_congr (by rw [hsm, show i = 25 by omega]; rfl)) hP hK hD hS dX0_worthFor_179
          · have hc_81 := c_3
            have qa := adj_cs (b (26 * sd + i)) (exZ b sd i)
            have qb := wtZ_s (b := b) (sd := sd) (i := i) hzi.1
            have qc := exZ_cs (b := b) (sd := sd) (i := i) hzi.1
            have qd := exZ_rg b sd i
            refine lv_aload_n hx hb dX0_worthFor_84 rfl (lv_at hl 0 rfl) ?_
            refine z_get (k := 0) hF hK hP 0 rfl rfl i_wsX00 (by decide) kf_9 rfl dX0_worthFor_85 ?_
            refine lv_iload_n hx hb dX0_worthFor_88 rfl (lv_at hl 2 rfl) ?_
            refine lv_iload hx hb dX0_worthFor_89 (lv_at hl 6 rfl) ?_
            refine z_iadd hF dX0_worthFor_91 ?_
            refine z_iald hF hK hP 1 rfl (by omega) rfl dX0_worthFor_92 ?_
            refine z_tz (b := (b (26 * sd + i))) (bx (by omega)) ?_
            refine lv_istore (lv' := [(8, .int (zI (b (26 * sd + i)))), (0, .ref h0), (1, .int (zI sd)), (2, .int (zI (sd * 26))), (3, .int (zI (26 - sd * 26))), (5, .int (zI sm0)), (6, .int (zI ex)), (7, .int (zI i))]) hx hb dX0_worthFor_93 hl (by decide) rfl (fun ls hl => ?_)
            refine lv_aload_n hx hb dX0_worthFor_95 rfl (lv_at hl 1 rfl) ?_
            refine z_get (k := 0) hF hK hP 0 rfl rfl i_wsX00 (by decide) kf_9 rfl dX0_worthFor_96 ?_
            refine lv_iload_n hx hb dX0_worthFor_99 rfl (lv_at hl 4 rfl) ?_
            refine z_bipush hF dX0_worthFor_100 (by decide) ?_
            refine z_iadd hF dX0_worthFor_102 ?_
            refine lv_iload hx hb dX0_worthFor_103 (lv_at hl 7 rfl) ?_
            refine z_isub hF dX0_worthFor_105 ?_
            refine z_iald hF hK hP 1 rfl (by omega) rfl dX0_worthFor_106 ?_
            refine z_tz (b := (b (26 * (1 - sd) + (25 - i)))) (bx (by omega)) ?_
            refine lv_istore (lv' := [(9, .int (zI (b (26 * (1 - sd) + (25 - i))))), (8, .int (zI (b (26 * sd + i)))), (0, .ref h0), (1, .int (zI sd)), (2, .int (zI (sd * 26))), (3, .int (zI (26 - sd * 26))), (5, .int (zI sm0)), (6, .int (zI ex)), (7, .int (zI i))]) hx hb dX0_worthFor_107 hl (by decide) rfl (fun ls hl => ?_)
            refine lv_iload hx hb dX0_worthFor_109 (lv_at hl 6 rfl) ?_
            refine z_bipush hF dX0_worthFor_111 (by decide) ?_
            refine lv_iload hx hb dX0_worthFor_113 (lv_at hl 8 rfl) ?_
            refine z_isub hF dX0_worthFor_115 ?_
            refine lv_iload hx hb dX0_worthFor_116 (lv_at hl 0 rfl) ?_
            refine z_imul hF dX0_worthFor_118 ?_
            refine lv_iload hx hb dX0_worthFor_119 (lv_at hl 8 rfl) ?_
            refine lv_iload hx hb dX0_worthFor_121 (lv_at hl 1 rfl) ?_
            refine z_imul hF dX0_worthFor_123 ?_
            refine z_isub hF dX0_worthFor_124 ?_
            refine z_iadd hF dX0_worthFor_125 ?_
            refine lv_istore (lv' := [(5, .int (zI (sm0 + (((25 - i) * (b (26 * (1 - sd) + (25 - i)))) - (i * (b (26 * sd + i))))))), (9, .int (zI (b (26 * (1 - sd) + (25 - i))))), (8, .int (zI (b (26 * sd + i)))), (0, .ref h0), (1, .int (zI sd)), (2, .int (zI (sd * 26))), (3, .int (zI (26 - sd * 26))), (6, .int (zI ex)), (7, .int (zI i))]) hx hb dX0_worthFor_126 hl (by decide) rfl (fun ls hl => ?_)
            refine lv_iload hx hb dX0_worthFor_128 (lv_at hl 2 rfl) ?_
            refine z_iconst hF dX0_worthFor_130 ?_
            refine z_icmp_lt (tgt := 140) hF dX0_worthFor_131 (by decide) (by have := hok (26 * sd + i); omega) (by decide) (fun c_4 => ?_) (fun c_4 => ?_)
            · have hc_131 := c_4
              refine lv_iload hx hb dX0_worthFor_140 (lv_at hl 2 rfl) ?_
              refine z_iconst hF dX0_worthFor_142 ?_
              refine z_icmp_ne (tgt := 154) hF dX0_worthFor_143 (by decide) (by have := hok (26 * sd + i); omega) (by decide) (fun c_5 => ?_) (fun c_5 => ?_)
              · have hc_143 := c_5
                refine lv_iload hx hb dX0_worthFor_154 (lv_at hl 7 rfl) ?_
                refine z_if_ne (tgt := 164) hF dX0_worthFor_156 (by decide) (by have := exZ_rg b sd i; omega) (fun c_6 => ?_) (fun c_6 => ?_)
                · have hc_156 := c_6
                  refine z_iconst hF dX0_worthFor_164 ?_
                  refine z_goto (tgt := 169) hF dX0_worthFor_165 (by decide) ?_
                  refine lv_istore (lv' := [(6, .int (zI 1)), (5, .int (zI (sm0 + (((25 - i) * (b (26 * (1 - sd) + (25 - i)))) - (i * (b (26 * sd + i))))))), (9, .int (zI (b (26 * (1 - sd) + (25 - i))))), (8, .int (zI (b (26 * sd + i)))), (0, .ref h0), (1, .int (zI sd)), (2, .int (zI (sd * 26))), (3, .int (zI (26 - sd * 26))), (7, .int (zI i))]) hx hb dX0_worthFor_169 hl (by decide) rfl (fun ls hl => ?_)
                  refine z_iinc (lv' := [(7, .int (zI (i + 1))), (6, .int (zI 1)), (5, .int (zI (sm0 + (((25 - i) * (b (26 * (1 - sd) + (25 - i)))) - (i * (b (26 * sd + i))))))), (9, .int (zI (b (26 * (1 - sd) + (25 - i))))), (8, .int (zI (b (26 * sd + i)))), (0, .ref h0), (1, .int (zI sd)), (2, .int (zI (sd * 26))), (3, .int (zI (26 - sd * 26)))]) hF dX0_worthFor_171 hl (k := 8) rfl (by decide) rfl (fun ls hl => ?_)
                  refine z_goto (tgt := 77) hF dX0_worthFor_174 (by decide) ?_
                  exact ih77 (i + 1) (sm0 + (((25 - i) * (b (26 * (1 - sd) + (25 - i)))) - (i * (b (26 * sd + i))))) 1 (by omega) (by omega) (by first | rfl | omega) (by omega) H locs ls hP hD hS (lv_sub hl [5, 6, 7, 8, 2, 1, 0] rfl)
                · have hc_156 := c_6
                  refine lv_iload hx hb dX0_worthFor_159 (lv_at hl 1 rfl) ?_
                  refine z_if_le (tgt := 168) hF dX0_worthFor_161 (by decide) (by have := hok (26 * (1 - sd) + (25 - i)); omega) (fun c_7 => ?_) (fun c_7 => ?_)
                  · have hc_161 := c_7
                    refine z_iconst hF dX0_worthFor_168 ?_
                    refine lv_istore (lv' := [(6, .int (zI 0)), (5, .int (zI (sm0 + (((25 - i) * (b (26 * (1 - sd) + (25 - i)))) - (i * (b (26 * sd + i))))))), (9, .int (zI (b (26 * (1 - sd) + (25 - i))))), (8, .int (zI (b (26 * sd + i)))), (0, .ref h0), (1, .int (zI sd)), (2, .int (zI (sd * 26))), (3, .int (zI (26 - sd * 26))), (7, .int (zI i))]) hx hb dX0_worthFor_169 hl (by decide) rfl (fun ls hl => ?_)
                    refine z_iinc (lv' := [(7, .int (zI (i + 1))), (6, .int (zI 0)), (5, .int (zI (sm0 + (((25 - i) * (b (26 * (1 - sd) + (25 - i)))) - (i * (b (26 * sd + i))))))), (9, .int (zI (b (26 * (1 - sd) + (25 - i))))), (8, .int (zI (b (26 * sd + i)))), (0, .ref h0), (1, .int (zI sd)), (2, .int (zI (sd * 26))), (3, .int (zI (26 - sd * 26)))]) hF dX0_worthFor_171 hl (k := 8) rfl (by decide) rfl (fun ls hl => ?_)
                    refine z_goto (tgt := 77) hF dX0_worthFor_174 (by decide) ?_
                    exact ih77 (i + 1) (sm0 + (((25 - i) * (b (26 * (1 - sd) + (25 - i)))) - (i * (b (26 * sd + i))))) 0 (by omega) (by omega) (by first | rfl | omega) (by omega) H locs ls hP hD hS (lv_sub hl [5, 6, 7, 8, 2, 1, 0] rfl)
                  · have hc_161 := c_7
                    refine z_iconst hF dX0_worthFor_164 ?_
                    refine z_goto (tgt := 169) hF dX0_worthFor_165 (by decide) ?_
                    refine lv_istore (lv' := [(6, .int (zI 1)), (5, .int (zI (sm0 + (((25 - i) * (b (26 * (1 - sd) + (25 - i)))) - (i * (b (26 * sd + i))))))), (9, .int (zI (b (26 * (1 - sd) + (25 - i))))), (8, .int (zI (b (26 * sd + i)))), (0, .ref h0), (1, .int (zI sd)), (2, .int (zI (sd * 26))), (3, .int (zI (26 - sd * 26))), (7, .int (zI i))]) hx hb dX0_worthFor_169 hl (by decide) rfl (fun ls hl => ?_)
                    refine z_iinc (lv' := [(7, .int (zI (i + 1))), (6, .int (zI 1)), (5, .int (zI (sm0 + (((25 - i) * (b (26 * (1 - sd) + (25 - i)))) - (i * (b (26 * sd + i))))))), (9, .int (zI (b (26 * (1 - sd) + (25 - i))))), (8, .int (zI (b (26 * sd + i)))), (0, .ref h0), (1, .int (zI sd)), (2, .int (zI (sd * 26))), (3, .int (zI (26 - sd * 26)))]) hF dX0_worthFor_171 hl (k := 8) rfl (by decide) rfl (fun ls hl => ?_)
                    refine z_goto (tgt := 77) hF dX0_worthFor_174 (by decide) ?_
                    exact ih77 (i + 1) (sm0 + (((25 - i) * (b (26 * (1 - sd) + (25 - i)))) - (i * (b (26 * sd + i))))) 1 (by omega) (by omega) (by first | rfl | omega) (by omega) H locs ls hP hD hS (lv_sub hl [5, 6, 7, 8, 2, 1, 0] rfl)
              · have hc_143 := c_5
                refine lv_iload hx hb dX0_worthFor_146 (lv_at hl 7 rfl) ?_
                refine z_if_eq (tgt := 154) hF dX0_worthFor_148 (by decide) (by have := exZ_rg b sd i; omega) (fun c_8 => ?_) (fun c_8 => ?_)
                · have hc_148 := c_8
                  refine lv_iload hx hb dX0_worthFor_154 (lv_at hl 7 rfl) ?_
                  refine z_if_ne (tgt := 164) hF dX0_worthFor_156 (by decide) (by have := exZ_rg b sd i; omega) (fun c_9 => ?_) (fun c_9 => ?_)
                  · have hc_156 := c_9
                    refine z_iconst hF dX0_worthFor_164 ?_
                    refine z_goto (tgt := 169) hF dX0_worthFor_165 (by decide) ?_
                    refine lv_istore (lv' := [(6, .int (zI 1)), (5, .int (zI (sm0 + (((25 - i) * (b (26 * (1 - sd) + (25 - i)))) - (i * (b (26 * sd + i))))))), (9, .int (zI (b (26 * (1 - sd) + (25 - i))))), (8, .int (zI (b (26 * sd + i)))), (0, .ref h0), (1, .int (zI sd)), (2, .int (zI (sd * 26))), (3, .int (zI (26 - sd * 26))), (7, .int (zI i))]) hx hb dX0_worthFor_169 hl (by decide) rfl (fun ls hl => ?_)
                    refine z_iinc (lv' := [(7, .int (zI (i + 1))), (6, .int (zI 1)), (5, .int (zI (sm0 + (((25 - i) * (b (26 * (1 - sd) + (25 - i)))) - (i * (b (26 * sd + i))))))), (9, .int (zI (b (26 * (1 - sd) + (25 - i))))), (8, .int (zI (b (26 * sd + i)))), (0, .ref h0), (1, .int (zI sd)), (2, .int (zI (sd * 26))), (3, .int (zI (26 - sd * 26)))]) hF dX0_worthFor_171 hl (k := 8) rfl (by decide) rfl (fun ls hl => ?_)
                    refine z_goto (tgt := 77) hF dX0_worthFor_174 (by decide) ?_
                    exact ih77 (i + 1) (sm0 + (((25 - i) * (b (26 * (1 - sd) + (25 - i)))) - (i * (b (26 * sd + i))))) 1 (by omega) (by omega) (by first | rfl | omega) (by omega) H locs ls hP hD hS (lv_sub hl [5, 6, 7, 8, 2, 1, 0] rfl)
                  · have hc_156 := c_9
                    refine lv_iload hx hb dX0_worthFor_159 (lv_at hl 1 rfl) ?_
                    refine z_if_le (tgt := 168) hF dX0_worthFor_161 (by decide) (by have := hok (26 * (1 - sd) + (25 - i)); omega) (fun c_10 => ?_) (fun c_10 => ?_)
                    · have hc_161 := c_10
                      refine z_iconst hF dX0_worthFor_168 ?_
                      refine lv_istore (lv' := [(6, .int (zI 0)), (5, .int (zI (sm0 + (((25 - i) * (b (26 * (1 - sd) + (25 - i)))) - (i * (b (26 * sd + i))))))), (9, .int (zI (b (26 * (1 - sd) + (25 - i))))), (8, .int (zI (b (26 * sd + i)))), (0, .ref h0), (1, .int (zI sd)), (2, .int (zI (sd * 26))), (3, .int (zI (26 - sd * 26))), (7, .int (zI i))]) hx hb dX0_worthFor_169 hl (by decide) rfl (fun ls hl => ?_)
                      refine z_iinc (lv' := [(7, .int (zI (i + 1))), (6, .int (zI 0)), (5, .int (zI (sm0 + (((25 - i) * (b (26 * (1 - sd) + (25 - i)))) - (i * (b (26 * sd + i))))))), (9, .int (zI (b (26 * (1 - sd) + (25 - i))))), (8, .int (zI (b (26 * sd + i)))), (0, .ref h0), (1, .int (zI sd)), (2, .int (zI (sd * 26))), (3, .int (zI (26 - sd * 26)))]) hF dX0_worthFor_171 hl (k := 8) rfl (by decide) rfl (fun ls hl => ?_)
                      refine z_goto (tgt := 77) hF dX0_worthFor_174 (by decide) ?_
                      exact ih77 (i + 1) (sm0 + (((25 - i) * (b (26 * (1 - sd) + (25 - i)))) - (i * (b (26 * sd + i))))) 0 (by omega) (by omega) (by first | rfl | omega) (by omega) H locs ls hP hD hS (lv_sub hl [5, 6, 7, 8, 2, 1, 0] rfl)
                    · have hc_161 := c_10
                      refine z_iconst hF dX0_worthFor_164 ?_
                      refine z_goto (tgt := 169) hF dX0_worthFor_165 (by decide) ?_
                      refine lv_istore (lv' := [(6, .int (zI 1)), (5, .int (zI (sm0 + (((25 - i) * (b (26 * (1 - sd) + (25 - i)))) - (i * (b (26 * sd + i))))))), (9, .int (zI (b (26 * (1 - sd) + (25 - i))))), (8, .int (zI (b (26 * sd + i)))), (0, .ref h0), (1, .int (zI sd)), (2, .int (zI (sd * 26))), (3, .int (zI (26 - sd * 26))), (7, .int (zI i))]) hx hb dX0_worthFor_169 hl (by decide) rfl (fun ls hl => ?_)
                      refine z_iinc (lv' := [(7, .int (zI (i + 1))), (6, .int (zI 1)), (5, .int (zI (sm0 + (((25 - i) * (b (26 * (1 - sd) + (25 - i)))) - (i * (b (26 * sd + i))))))), (9, .int (zI (b (26 * (1 - sd) + (25 - i))))), (8, .int (zI (b (26 * sd + i)))), (0, .ref h0), (1, .int (zI sd)), (2, .int (zI (sd * 26))), (3, .int (zI (26 - sd * 26)))]) hF dX0_worthFor_171 hl (k := 8) rfl (by decide) rfl (fun ls hl => ?_)
                      refine z_goto (tgt := 77) hF dX0_worthFor_174 (by decide) ?_
                      exact ih77 (i + 1) (sm0 + (((25 - i) * (b (26 * (1 - sd) + (25 - i)))) - (i * (b (26 * sd + i))))) 1 (by omega) (by omega) (by first | rfl | omega) (by omega) H locs ls hP hD hS (lv_sub hl [5, 6, 7, 8, 2, 1, 0] rfl)
                · have hc_148 := c_8
                  refine z_iinc (lv' := [(5, .int (zI ((sm0 + (((25 - i) * (b (26 * (1 - sd) + (25 - i)))) - (i * (b (26 * sd + i))))) + (-4)))), (9, .int (zI (b (26 * (1 - sd) + (25 - i))))), (8, .int (zI (b (26 * sd + i)))), (0, .ref h0), (1, .int (zI sd)), (2, .int (zI (sd * 26))), (3, .int (zI (26 - sd * 26))), (6, .int (zI ex)), (7, .int (zI i))]) hF dX0_worthFor_151 hl (k := 0) rfl (by decide) rfl (fun ls hl => ?_)
                  refine lv_iload hx hb dX0_worthFor_154 (lv_at hl 7 rfl) ?_
                  refine z_if_ne (tgt := 164) hF dX0_worthFor_156 (by decide) (by have := exZ_rg b sd i; omega) (fun c_11 => ?_) (fun c_11 => ?_)
                  · have hc_156 := c_11
                    refine z_iconst hF dX0_worthFor_164 ?_
                    refine z_goto (tgt := 169) hF dX0_worthFor_165 (by decide) ?_
                    refine lv_istore (lv' := [(6, .int (zI 1)), (5, .int (zI ((sm0 + (((25 - i) * (b (26 * (1 - sd) + (25 - i)))) - (i * (b (26 * sd + i))))) + (-4)))), (9, .int (zI (b (26 * (1 - sd) + (25 - i))))), (8, .int (zI (b (26 * sd + i)))), (0, .ref h0), (1, .int (zI sd)), (2, .int (zI (sd * 26))), (3, .int (zI (26 - sd * 26))), (7, .int (zI i))]) hx hb dX0_worthFor_169 hl (by decide) rfl (fun ls hl => ?_)
                    refine z_iinc (lv' := [(7, .int (zI (i + 1))), (6, .int (zI 1)), (5, .int (zI ((sm0 + (((25 - i) * (b (26 * (1 - sd) + (25 - i)))) - (i * (b (26 * sd + i))))) + (-4)))), (9, .int (zI (b (26 * (1 - sd) + (25 - i))))), (8, .int (zI (b (26 * sd + i)))), (0, .ref h0), (1, .int (zI sd)), (2, .int (zI (sd * 26))), (3, .int (zI (26 - sd * 26)))]) hF dX0_worthFor_171 hl (k := 8) rfl (by decide) rfl (fun ls hl => ?_)
                    refine z_goto (tgt := 77) hF dX0_worthFor_174 (by decide) ?_
                    exact ih77 (i + 1) ((sm0 + (((25 - i) * (b (26 * (1 - sd) + (25 - i)))) - (i * (b (26 * sd + i))))) + (-4)) 1 (by omega) (by omega) (by first | rfl | omega) (by omega) H locs ls hP hD hS (lv_sub hl [5, 6, 7, 8, 2, 1, 0] rfl)
                  · have hc_156 := c_11
                    refine lv_iload hx hb dX0_worthFor_159 (lv_at hl 1 rfl) ?_
                    refine z_if_le (tgt := 168) hF dX0_worthFor_161 (by decide) (by have := hok (26 * (1 - sd) + (25 - i)); omega) (fun c_12 => ?_) (fun c_12 => ?_)
                    · have hc_161 := c_12
                      refine z_iconst hF dX0_worthFor_168 ?_
                      refine lv_istore (lv' := [(6, .int (zI 0)), (5, .int (zI ((sm0 + (((25 - i) * (b (26 * (1 - sd) + (25 - i)))) - (i * (b (26 * sd + i))))) + (-4)))), (9, .int (zI (b (26 * (1 - sd) + (25 - i))))), (8, .int (zI (b (26 * sd + i)))), (0, .ref h0), (1, .int (zI sd)), (2, .int (zI (sd * 26))), (3, .int (zI (26 - sd * 26))), (7, .int (zI i))]) hx hb dX0_worthFor_169 hl (by decide) rfl (fun ls hl => ?_)
                      refine z_iinc (lv' := [(7, .int (zI (i + 1))), (6, .int (zI 0)), (5, .int (zI ((sm0 + (((25 - i) * (b (26 * (1 - sd) + (25 - i)))) - (i * (b (26 * sd + i))))) + (-4)))), (9, .int (zI (b (26 * (1 - sd) + (25 - i))))), (8, .int (zI (b (26 * sd + i)))), (0, .ref h0), (1, .int (zI sd)), (2, .int (zI (sd * 26))), (3, .int (zI (26 - sd * 26)))]) hF dX0_worthFor_171 hl (k := 8) rfl (by decide) rfl (fun ls hl => ?_)
                      refine z_goto (tgt := 77) hF dX0_worthFor_174 (by decide) ?_
                      exact ih77 (i + 1) ((sm0 + (((25 - i) * (b (26 * (1 - sd) + (25 - i)))) - (i * (b (26 * sd + i))))) + (-4)) 0 (by omega) (by omega) (by first | rfl | omega) (by omega) H locs ls hP hD hS (lv_sub hl [5, 6, 7, 8, 2, 1, 0] rfl)
                    · have hc_161 := c_12
                      refine z_iconst hF dX0_worthFor_164 ?_
                      refine z_goto (tgt := 169) hF dX0_worthFor_165 (by decide) ?_
                      refine lv_istore (lv' := [(6, .int (zI 1)), (5, .int (zI ((sm0 + (((25 - i) * (b (26 * (1 - sd) + (25 - i)))) - (i * (b (26 * sd + i))))) + (-4)))), (9, .int (zI (b (26 * (1 - sd) + (25 - i))))), (8, .int (zI (b (26 * sd + i)))), (0, .ref h0), (1, .int (zI sd)), (2, .int (zI (sd * 26))), (3, .int (zI (26 - sd * 26))), (7, .int (zI i))]) hx hb dX0_worthFor_169 hl (by decide) rfl (fun ls hl => ?_)
                      refine z_iinc (lv' := [(7, .int (zI (i + 1))), (6, .int (zI 1)), (5, .int (zI ((sm0 + (((25 - i) * (b (26 * (1 - sd) + (25 - i)))) - (i * (b (26 * sd + i))))) + (-4)))), (9, .int (zI (b (26 * (1 - sd) + (25 - i))))), (8, .int (zI (b (26 * sd + i)))), (0, .ref h0), (1, .int (zI sd)), (2, .int (zI (sd * 26))), (3, .int (zI (26 - sd * 26)))]) hF dX0_worthFor_171 hl (k := 8) rfl (by decide) rfl (fun ls hl => ?_)
                      refine z_goto (tgt := 77) hF dX0_worthFor_174 (by decide) ?_
                      exact ih77 (i + 1) ((sm0 + (((25 - i) * (b (26 * (1 - sd) + (25 - i)))) - (i * (b (26 * sd + i))))) + (-4)) 1 (by omega) (by omega) (by first | rfl | omega) (by omega) H locs ls hP hD hS (lv_sub hl [5, 6, 7, 8, 2, 1, 0] rfl)
            · have hc_131 := c_4
              refine z_iinc (lv' := [(5, .int (zI ((sm0 + (((25 - i) * (b (26 * (1 - sd) + (25 - i)))) - (i * (b (26 * sd + i))))) + 6))), (9, .int (zI (b (26 * (1 - sd) + (25 - i))))), (8, .int (zI (b (26 * sd + i)))), (0, .ref h0), (1, .int (zI sd)), (2, .int (zI (sd * 26))), (3, .int (zI (26 - sd * 26))), (6, .int (zI ex)), (7, .int (zI i))]) hF dX0_worthFor_134 hl (k := 0) rfl (by decide) rfl (fun ls hl => ?_)
              refine z_goto (tgt := 154) hF dX0_worthFor_137 (by decide) ?_
              refine lv_iload hx hb dX0_worthFor_154 (lv_at hl 7 rfl) ?_
              refine z_if_ne (tgt := 164) hF dX0_worthFor_156 (by decide) (by have := exZ_rg b sd i; omega) (fun c_13 => ?_) (fun c_13 => ?_)
              · have hc_156 := c_13
                refine z_iconst hF dX0_worthFor_164 ?_
                refine z_goto (tgt := 169) hF dX0_worthFor_165 (by decide) ?_
                refine lv_istore (lv' := [(6, .int (zI 1)), (5, .int (zI ((sm0 + (((25 - i) * (b (26 * (1 - sd) + (25 - i)))) - (i * (b (26 * sd + i))))) + 6))), (9, .int (zI (b (26 * (1 - sd) + (25 - i))))), (8, .int (zI (b (26 * sd + i)))), (0, .ref h0), (1, .int (zI sd)), (2, .int (zI (sd * 26))), (3, .int (zI (26 - sd * 26))), (7, .int (zI i))]) hx hb dX0_worthFor_169 hl (by decide) rfl (fun ls hl => ?_)
                refine z_iinc (lv' := [(7, .int (zI (i + 1))), (6, .int (zI 1)), (5, .int (zI ((sm0 + (((25 - i) * (b (26 * (1 - sd) + (25 - i)))) - (i * (b (26 * sd + i))))) + 6))), (9, .int (zI (b (26 * (1 - sd) + (25 - i))))), (8, .int (zI (b (26 * sd + i)))), (0, .ref h0), (1, .int (zI sd)), (2, .int (zI (sd * 26))), (3, .int (zI (26 - sd * 26)))]) hF dX0_worthFor_171 hl (k := 8) rfl (by decide) rfl (fun ls hl => ?_)
                refine z_goto (tgt := 77) hF dX0_worthFor_174 (by decide) ?_
                exact ih77 (i + 1) ((sm0 + (((25 - i) * (b (26 * (1 - sd) + (25 - i)))) - (i * (b (26 * sd + i))))) + 6) 1 (by omega) (by omega) (by first | rfl | omega) (by omega) H locs ls hP hD hS (lv_sub hl [5, 6, 7, 8, 2, 1, 0] rfl)
              · have hc_156 := c_13
                refine lv_iload hx hb dX0_worthFor_159 (lv_at hl 1 rfl) ?_
                refine z_if_le (tgt := 168) hF dX0_worthFor_161 (by decide) (by have := hok (26 * (1 - sd) + (25 - i)); omega) (fun c_14 => ?_) (fun c_14 => ?_)
                · have hc_161 := c_14
                  refine z_iconst hF dX0_worthFor_168 ?_
                  refine lv_istore (lv' := [(6, .int (zI 0)), (5, .int (zI ((sm0 + (((25 - i) * (b (26 * (1 - sd) + (25 - i)))) - (i * (b (26 * sd + i))))) + 6))), (9, .int (zI (b (26 * (1 - sd) + (25 - i))))), (8, .int (zI (b (26 * sd + i)))), (0, .ref h0), (1, .int (zI sd)), (2, .int (zI (sd * 26))), (3, .int (zI (26 - sd * 26))), (7, .int (zI i))]) hx hb dX0_worthFor_169 hl (by decide) rfl (fun ls hl => ?_)
                  refine z_iinc (lv' := [(7, .int (zI (i + 1))), (6, .int (zI 0)), (5, .int (zI ((sm0 + (((25 - i) * (b (26 * (1 - sd) + (25 - i)))) - (i * (b (26 * sd + i))))) + 6))), (9, .int (zI (b (26 * (1 - sd) + (25 - i))))), (8, .int (zI (b (26 * sd + i)))), (0, .ref h0), (1, .int (zI sd)), (2, .int (zI (sd * 26))), (3, .int (zI (26 - sd * 26)))]) hF dX0_worthFor_171 hl (k := 8) rfl (by decide) rfl (fun ls hl => ?_)
                  refine z_goto (tgt := 77) hF dX0_worthFor_174 (by decide) ?_
                  exact ih77 (i + 1) ((sm0 + (((25 - i) * (b (26 * (1 - sd) + (25 - i)))) - (i * (b (26 * sd + i))))) + 6) 0 (by omega) (by omega) (by first | rfl | omega) (by omega) H locs ls hP hD hS (lv_sub hl [5, 6, 7, 8, 2, 1, 0] rfl)
                · have hc_161 := c_14
                  refine z_iconst hF dX0_worthFor_164 ?_
                  refine z_goto (tgt := 169) hF dX0_worthFor_165 (by decide) ?_
                  refine lv_istore (lv' := [(6, .int (zI 1)), (5, .int (zI ((sm0 + (((25 - i) * (b (26 * (1 - sd) + (25 - i)))) - (i * (b (26 * sd + i))))) + 6))), (9, .int (zI (b (26 * (1 - sd) + (25 - i))))), (8, .int (zI (b (26 * sd + i)))), (0, .ref h0), (1, .int (zI sd)), (2, .int (zI (sd * 26))), (3, .int (zI (26 - sd * 26))), (7, .int (zI i))]) hx hb dX0_worthFor_169 hl (by decide) rfl (fun ls hl => ?_)
                  refine z_iinc (lv' := [(7, .int (zI (i + 1))), (6, .int (zI 1)), (5, .int (zI ((sm0 + (((25 - i) * (b (26 * (1 - sd) + (25 - i)))) - (i * (b (26 * sd + i))))) + 6))), (9, .int (zI (b (26 * (1 - sd) + (25 - i))))), (8, .int (zI (b (26 * sd + i)))), (0, .ref h0), (1, .int (zI sd)), (2, .int (zI (sd * 26))), (3, .int (zI (26 - sd * 26)))]) hF dX0_worthFor_171 hl (k := 8) rfl (by decide) rfl (fun ls hl => ?_)
                  refine z_goto (tgt := 77) hF dX0_worthFor_174 (by decide) ?_
                  exact ih77 (i + 1) ((sm0 + (((25 - i) * (b (26 * (1 - sd) + (25 - i)))) - (i * (b (26 * sd + i))))) + 6) 1 (by omega) (by omega) (by first | rfl | omega) (by omega) H locs ls hP hD hS (lv_sub hl [5, 6, 7, 8, 2, 1, 0] rfl)
      refine lv_iload hx hb dX0_worthFor_62 (lv_at hl 1 rfl) ?_
      refine z_if_le (tgt := 71) hF dX0_worthFor_64 (by decide) (by have := hok (26 * (1 - sd) + 25); omega) (fun c_15 => ?_) (fun c_15 => ?_)
      · have hc_64 := c_15
        refine z_iconst hF dX0_worthFor_71 ?_
        refine lv_istore (lv' := [(6, .int (zI 0)), (5, .int (zI (((10 * (b (26 * sd + 0))) - (25 * (b (26 * sd + 25)))) + (33 * (b (26 * (1 - sd) + 25)))))), (4, .int (zI (b (26 * (1 - sd) + 25)))), (3, .int (zI (26 - (sd * 26)))), (2, .int (zI (sd * 26))), (0, .ref h0), (1, .int (zI sd))]) hx hb dX0_worthFor_72 hl (by decide) rfl (fun ls hl => ?_)
        refine z_iconst hF dX0_worthFor_74 ?_
        refine lv_istore (lv' := [(7, .int (zI 1)), (6, .int (zI 0)), (5, .int (zI (((10 * (b (26 * sd + 0))) - (25 * (b (26 * sd + 25)))) + (33 * (b (26 * (1 - sd) + 25)))))), (4, .int (zI (b (26 * (1 - sd) + 25)))), (3, .int (zI (26 - (sd * 26)))), (2, .int (zI (sd * 26))), (0, .ref h0), (1, .int (zI sd))]) hx hb dX0_worthFor_75 hl (by decide) rfl (fun ls hl => ?_)
        exact L77 _ 1 (((10 * (b (26 * sd + 0))) - (25 * (b (26 * sd + 25)))) + (33 * (b (26 * (1 - sd) + 25)))) 0 (Nat.lt_succ_self _) (by omega) (by first | rfl | omega) (by omega) H locs ls hP hD hS (lv_sub hl [6, 7, 5, 4, 2, 1, 0] rfl)
      · have hc_64 := c_15
        refine z_iconst hF dX0_worthFor_67 ?_
        refine z_goto (tgt := 72) hF dX0_worthFor_68 (by decide) ?_
        refine lv_istore (lv' := [(6, .int (zI 1)), (5, .int (zI (((10 * (b (26 * sd + 0))) - (25 * (b (26 * sd + 25)))) + (33 * (b (26 * (1 - sd) + 25)))))), (4, .int (zI (b (26 * (1 - sd) + 25)))), (3, .int (zI (26 - (sd * 26)))), (2, .int (zI (sd * 26))), (0, .ref h0), (1, .int (zI sd))]) hx hb dX0_worthFor_72 hl (by decide) rfl (fun ls hl => ?_)
        refine z_iconst hF dX0_worthFor_74 ?_
        refine lv_istore (lv' := [(7, .int (zI 1)), (6, .int (zI 1)), (5, .int (zI (((10 * (b (26 * sd + 0))) - (25 * (b (26 * sd + 25)))) + (33 * (b (26 * (1 - sd) + 25)))))), (4, .int (zI (b (26 * (1 - sd) + 25)))), (3, .int (zI (26 - (sd * 26)))), (2, .int (zI (sd * 26))), (0, .ref h0), (1, .int (zI sd))]) hx hb dX0_worthFor_75 hl (by decide) rfl (fun ls hl => ?_)
        exact L77 _ 1 (((10 * (b (26 * sd + 0))) - (25 * (b (26 * sd + 25)))) + (33 * (b (26 * (1 - sd) + 25)))) 1 (Nat.lt_succ_self _) (by omega) (by first | rfl | omega) (by omega) H locs ls hP hD hS (lv_sub hl [6, 7, 5, 4, 2, 1, 0] rfl)
    · exfalso; omega
