set_option maxHeartbeats 4000000 in
set_option maxRecDepth 100000 in
theorem sp_1 {p : Program} {l : Launch} {e : Env} {s : State} {m : MethodId} {args : Array Value} {below : List Frame} {meth : Method} {c : Code} {G : wG} {A : Nat → Prop} {b Ln : Nat} {sx : Nat → Int32} {Q0 : State → Prop} {cells slots : Nat} {a : Nat → Nat} (hC : lwC6 p l s m args c G A b Ln sx)  (hr : cells + 4 ≤ 600130 ∧ slots + 24 ≤ 7301080)
    (K1 : kp (∀ (σ : gS) (all seats rate : Int), gY seats 25 σ → (all = 3 ∨ all = 15) → (2 ≤ seats ∧ seats ≤ 5) → (0 ≤ rate ∧ rate ≤ 100) → ∀ (H : Heap) (locs : List Loc) (ls : Array Slot), va_P G.1 vwCl (gW G a σ) H → va_D A (gW G a σ) → va_S A s.heap H locs → lv_has ls 31 [(0, .ref b), (1, .ref (a 0)), (2, .int (zI all)), (3, .int (zI seats)), (4, .int (zI rate)), (5, .int (zI 0)), (6, .int (zI 0))] → W p l e room_1 s m args below meth c H locs (cells + 4) (slots + 24) Q0 (F0 m 61 ls [])))
    {H : Heap} {locs : List Loc} {ls : Array Slot} (hP : va_P G.1 vwCl (gW G a s_0) H) (hD : va_D A (gW G a s_0)) (hS : va_S A s.heap H locs) (hl : lv_has ls 31 [(0, .ref b), (1, .ref (a 0))]) : W p l e room_1 s m args below meth c H locs cells slots Q0 (F0 m 8 ls []) := by
  obtain ⟨hF, hst, hK, hBd, hA, hX, hbl, hbA, hLn, hts⟩ := hC
  have hx := hF.1
  have hb := hF.2.1
  refine lv_aload_n hx hb dL_law_8 rfl (lv_at hl 0 rfl) ?_
  refine z_iconst hF dL_law_9 ?_
  refine z_iconst hF dL_law_10 ?_
  refine cj0_i (va_runS (As := [.ref b, .int (zI 0), .int (zI 3)]) (rest := []) hF (c_L_some l G b Ln sx 0 3 (by omega) (by omega) (by omega) H.size) (va_cwS 3 hF.2.2.2.2 gL_law_L_some rfl rfl rfl (by decide +kernel) ⟨Nat.le_of_ble_eq_true rfl, Nat.le_of_ble_eq_true rfl⟩) (z_preSs hK hS hA hBd hX hbl hbA [.ref b, .int (zI 0), .int (zI 3)]) rfl rfl hl.1 rfl (lv_room (Nat.le_of_ble_eq_true rfl)) dL_law_11 (lx_fit (by omega) (by omega) hr)) hP hD hS hA (fun r_2 u_1 H locs hw hP hD hS => ?_)
  obtain ⟨hv_3, rfl⟩ := hw
  have hv_u_1 : 0 ≤ u_1 ∧ u_1 < 3 := hv_3
  refine z_if_le (tgt := 21) hF dL_law_14 (by decide) (by omega) (fun c_4 => ?_) (fun c_4 => ?_)
  · have hc_14 := c_4
    refine z_bipush hF dL_law_21 (by decide) ?_
    refine lv_istore_n (lv' := [(2, .int (zI 15)), (0, .ref b), (1, .ref (a 0))]) hx hb dL_law_23 rfl hl (by decide) rfl (fun ls hl => ?_)
    refine lv_aload_n hx hb dL_law_24 rfl (lv_at hl 1 rfl) ?_
    refine z_iconst hF dL_law_25 ?_
    refine z_iconst hF dL_law_26 ?_
    refine cj0_i (va_runS (As := [.ref b, .int (zI 1), .int (zI 4)]) (rest := []) hF (c_L_some l G b Ln sx 1 4 (by omega) (by omega) (by omega) H.size) (va_cwS 3 hF.2.2.2.2 gL_law_L_some rfl rfl rfl (by decide +kernel) ⟨Nat.le_of_ble_eq_true rfl, Nat.le_of_ble_eq_true rfl⟩) (z_preSs hK hS hA hBd hX hbl hbA [.ref b, .int (zI 1), .int (zI 4)]) rfl rfl hl.1 rfl (lv_room (Nat.le_of_ble_eq_true rfl)) dL_law_27 (lx_fit (by omega) (by omega) hr)) hP hD hS hA (fun r_6 u_5 H locs hw hP hD hS => ?_)
    obtain ⟨hv_7, rfl⟩ := hw
    have hv_u_5 : 0 ≤ u_5 ∧ u_5 < 4 := hv_7
    refine z_iconst hF dL_law_30 ?_
    refine z_iadd hF dL_law_31 ?_
    refine lv_istore_n (lv' := [(3, .int (zI (u_5 + 2))), (2, .int (zI 15)), (0, .ref b), (1, .ref (a 0))]) hx hb dL_law_32 rfl hl (by decide) rfl (fun ls hl => ?_)
    refine lv_aload_n hx hb dL_law_33 rfl (lv_at hl 2 rfl) ?_
    refine z_iconst hF dL_law_34 ?_
    refine z_bipush hF dL_law_35 (by decide) ?_
    refine cj0_i (va_runS (As := [.ref b, .int (zI 2), .int (zI 101)]) (rest := []) hF (c_L_some l G b Ln sx 2 101 (by omega) (by omega) (by omega) H.size) (va_cwS 3 hF.2.2.2.2 gL_law_L_some rfl rfl rfl (by decide +kernel) ⟨Nat.le_of_ble_eq_true rfl, Nat.le_of_ble_eq_true rfl⟩) (z_preSs hK hS hA hBd hX hbl hbA [.ref b, .int (zI 2), .int (zI 101)]) rfl rfl hl.1 rfl (lv_room (Nat.le_of_ble_eq_true rfl)) dL_law_37 (lx_fit (by omega) (by omega) hr)) hP hD hS hA (fun r_9 u_8 H locs hw hP hD hS => ?_)
    obtain ⟨hv_10, rfl⟩ := hw
    have hv_u_8 : 0 ≤ u_8 ∧ u_8 < 101 := hv_10
    refine lv_istore (lv' := [(4, .int (zI u_8)), (3, .int (zI (u_5 + 2))), (2, .int (zI 15)), (0, .ref b), (1, .ref (a 0))]) hx hb dL_law_40 hl (by decide) rfl (fun ls hl => ?_)
    refine z_iconst hF dL_law_42 ?_
    refine lv_istore (lv' := [(5, .int (zI 0)), (4, .int (zI u_8)), (3, .int (zI (u_5 + 2))), (2, .int (zI 15)), (0, .ref b), (1, .ref (a 0))]) hx hb dL_law_43 hl (by decide) rfl (fun ls hl => ?_)
    refine z_iconst hF dL_law_45 ?_
    refine lv_istore (lv' := [(6, .int (zI 0)), (5, .int (zI 0)), (4, .int (zI u_8)), (3, .int (zI (u_5 + 2))), (2, .int (zI 15)), (0, .ref b), (1, .ref (a 0))]) hx hb dL_law_46 hl (by decide) rfl (fun ls hl => ?_)
    refine lv_iload_n hx hb dL_law_48 rfl (lv_at hl 3 rfl) ?_
    refine z_iconst hF dL_law_49 ?_
    refine z_icmp_le (tgt := 61) hF dL_law_50 (by decide) (by omega) (by decide) (fun c_11 => ?_) (fun c_11 => ?_)
    · have hc_50 := c_11
      refine W.widen (k := cells + 4) (n := slots + 24) (by omega) (by omega) ?_
      exact (kp.go K1) s_0 15 (u_5 + 2) u_8 (gY_0 (by omega)) (Or.inr rfl) (by omega) (by omega) H locs ls hP hD hS (lv_sub hl [5, 6, 4, 3, 2, 1, 0] rfl)
    · have hc_50 := c_11
      refine lv_aload_n hx hb dL_law_53 rfl (lv_at hl 6 rfl) ?_
      refine lv_iload_n hx hb dL_law_54 rfl (lv_at hl 3 rfl) ?_
      refine cj_i (vx_runSW (As := [.ref (a 0), .int (zI (u_5 + 2))]) (rest := []) hF (c_L_seat l hst G (a 0) (a 1) (a 2) (a 5) (a 9) (a 11) (a 12) (a 14) (a 16) (a 24) (a 32) (a 34) (a 36) (g_ph s_0) (g_mv s_0) (g_sk s_0) (g_ho s_0) (g_lk s_0) (g_op s_0) (g_va s_0) (g_le s_0) (g_ja s_0) (g_cr s_0) (g_p0 s_0) (g_p1 s_0) (a 3) (a 4) (g_se s_0) (g_ba s_0) (g_tn s_0) (u_5 + 2)  (by decide) (Or.inl rfl) (by decide) (by omega) (by omega) ⟨rfl, Or.inl rfl⟩ H.size) (vx_cwSW 2 hF.2.2.2.2 gL_law_L_seat rfl rfl rfl (by decide +kernel) ⟨Nat.le_of_ble_eq_true rfl, Nat.le_of_ble_eq_true rfl⟩) (z_preS hK hP hD hS hA hBd [0, 1, 2, 3, 4] rfl rfl [.ref (a 0), .int (zI (u_5 + 2))]) rfl rfl hl.1 rfl (lv_room (Nat.le_of_ble_eq_true rfl)) dL_law_55 (lx_fit (by omega) (by omega) hr)) hP hD hS hA [0, 1, 2, 3, 4] rfl (fun _ => Nat.le_of_ble_eq_true rfl) (fun r_13 u_12 H locs hw hP hD hS => ?_)
      have hP := wmixP [true, true, true, true, true] (by decide +kernel) hP
      have hD := wmixD [true, true, true, true, true] (by decide +kernel) hD
      obtain ⟨-, -, -, rfl⟩ := hw
      have hP : va_P G.1 vwCl (gW G a (s_seat s_0 (u_5 + 2))) H := hP
      have hD : va_D A (gW G a (s_seat s_0 (u_5 + 2))) := hD
      obtain ⟨σ1, e9, hY, hY2⟩ : ∃ q : gS, gW G a q = gW G a (s_seat s_0 (u_5 + 2)) ∧ gY (u_5 + 2) 25 q ∧ 0 ≤ (u_5 + 2) := ⟨s_seat s_0 (u_5 + 2), rfl, ⟨gY_seat (by omega), by omega⟩⟩
      rw [← e9] at hP hD
      clear e9
      have hP : va_P G.1 vwCl (gW G a σ1) H := hP
      have hD : va_D A (gW G a σ1) := hD
      refine z_tz (b := 0) rfl ?_
      refine z_if_ne (tgt := 83) hF dL_law_58 (by decide) (by decide) (fun c_14 => ?_) (fun c_14 => ?_)
      · exact absurd c_14 (by decide)
      · have hc_58 := c_14
        refine W.widen (k := cells + 4) (n := slots + 24) (by omega) (by omega) ?_
        exact (kp.go K1) σ1 15 (u_5 + 2) u_8 hY (Or.inr rfl) (by omega) (by omega) H locs ls hP hD hS (lv_sub hl [5, 6, 4, 3, 2, 1, 0] rfl)
  · have hc_14 := c_4
    refine z_iconst hF dL_law_17 ?_
    refine z_goto (tgt := 23) hF dL_law_18 (by decide) ?_
    refine lv_istore_n (lv' := [(2, .int (zI 3)), (0, .ref b), (1, .ref (a 0))]) hx hb dL_law_23 rfl hl (by decide) rfl (fun ls hl => ?_)
    refine lv_aload_n hx hb dL_law_24 rfl (lv_at hl 1 rfl) ?_
    refine z_iconst hF dL_law_25 ?_
    refine z_iconst hF dL_law_26 ?_
    refine cj0_i (va_runS (As := [.ref b, .int (zI 1), .int (zI 4)]) (rest := []) hF (c_L_some l G b Ln sx 1 4 (by omega) (by omega) (by omega) H.size) (va_cwS 3 hF.2.2.2.2 gL_law_L_some rfl rfl rfl (by decide +kernel) ⟨Nat.le_of_ble_eq_true rfl, Nat.le_of_ble_eq_true rfl⟩) (z_preSs hK hS hA hBd hX hbl hbA [.ref b, .int (zI 1), .int (zI 4)]) rfl rfl hl.1 rfl (lv_room (Nat.le_of_ble_eq_true rfl)) dL_law_27 (lx_fit (by omega) (by omega) hr)) hP hD hS hA (fun r_16 u_15 H locs hw hP hD hS => ?_)
    obtain ⟨hv_17, rfl⟩ := hw
    have hv_u_15 : 0 ≤ u_15 ∧ u_15 < 4 := hv_17
    refine z_iconst hF dL_law_30 ?_
    refine z_iadd hF dL_law_31 ?_
    refine lv_istore_n (lv' := [(3, .int (zI (u_15 + 2))), (2, .int (zI 3)), (0, .ref b), (1, .ref (a 0))]) hx hb dL_law_32 rfl hl (by decide) rfl (fun ls hl => ?_)
    refine lv_aload_n hx hb dL_law_33 rfl (lv_at hl 2 rfl) ?_
    refine z_iconst hF dL_law_34 ?_
    refine z_bipush hF dL_law_35 (by decide) ?_
    refine cj0_i (va_runS (As := [.ref b, .int (zI 2), .int (zI 101)]) (rest := []) hF (c_L_some l G b Ln sx 2 101 (by omega) (by omega) (by omega) H.size) (va_cwS 3 hF.2.2.2.2 gL_law_L_some rfl rfl rfl (by decide +kernel) ⟨Nat.le_of_ble_eq_true rfl, Nat.le_of_ble_eq_true rfl⟩) (z_preSs hK hS hA hBd hX hbl hbA [.ref b, .int (zI 2), .int (zI 101)]) rfl rfl hl.1 rfl (lv_room (Nat.le_of_ble_eq_true rfl)) dL_law_37 (lx_fit (by omega) (by omega) hr)) hP hD hS hA (fun r_19 u_18 H locs hw hP hD hS => ?_)
    obtain ⟨hv_20, rfl⟩ := hw
    have hv_u_18 : 0 ≤ u_18 ∧ u_18 < 101 := hv_20
    refine lv_istore (lv' := [(4, .int (zI u_18)), (3, .int (zI (u_15 + 2))), (2, .int (zI 3)), (0, .ref b), (1, .ref (a 0))]) hx hb dL_law_40 hl (by decide) rfl (fun ls hl => ?_)
    refine z_iconst hF dL_law_42 ?_
    refine lv_istore (lv' := [(5, .int (zI 0)), (4, .int (zI u_18)), (3, .int (zI (u_15 + 2))), (2, .int (zI 3)), (0, .ref b), (1, .ref (a 0))]) hx hb dL_law_43 hl (by decide) rfl (fun ls hl => ?_)
    refine z_iconst hF dL_law_45 ?_
    refine lv_istore (lv' := [(6, .int (zI 0)), (5, .int (zI 0)), (4, .int (zI u_18)), (3, .int (zI (u_15 + 2))), (2, .int (zI 3)), (0, .ref b), (1, .ref (a 0))]) hx hb dL_law_46 hl (by decide) rfl (fun ls hl => ?_)
    refine lv_iload_n hx hb dL_law_48 rfl (lv_at hl 3 rfl) ?_
    refine z_iconst hF dL_law_49 ?_
    refine z_icmp_le (tgt := 61) hF dL_law_50 (by decide) (by omega) (by decide) (fun c_21 => ?_) (fun c_21 => ?_)
    · have hc_50 := c_21
      refine W.widen (k := cells + 4) (n := slots + 24) (by omega) (by omega) ?_
      exact (kp.go K1) s_0 3 (u_15 + 2) u_18 (gY_0 (by omega)) (Or.inl rfl) (by omega) (by omega) H locs ls hP hD hS (lv_sub hl [5, 6, 4, 3, 2, 1, 0] rfl)
    · have hc_50 := c_21
      refine lv_aload_n hx hb dL_law_53 rfl (lv_at hl 6 rfl) ?_
      refine lv_iload_n hx hb dL_law_54 rfl (lv_at hl 3 rfl) ?_
      refine cj_i (vx_runSW (As := [.ref (a 0), .int (zI (u_15 + 2))]) (rest := []) hF (c_L_seat l hst G (a 0) (a 1) (a 2) (a 5) (a 9) (a 11) (a 12) (a 14) (a 16) (a 24) (a 32) (a 34) (a 36) (g_ph s_0) (g_mv s_0) (g_sk s_0) (g_ho s_0) (g_lk s_0) (g_op s_0) (g_va s_0) (g_le s_0) (g_ja s_0) (g_cr s_0) (g_p0 s_0) (g_p1 s_0) (a 3) (a 4) (g_se s_0) (g_ba s_0) (g_tn s_0) (u_15 + 2)  (by decide) (Or.inl rfl) (by decide) (by omega) (by omega) ⟨rfl, Or.inl rfl⟩ H.size) (vx_cwSW 2 hF.2.2.2.2 gL_law_L_seat rfl rfl rfl (by decide +kernel) ⟨Nat.le_of_ble_eq_true rfl, Nat.le_of_ble_eq_true rfl⟩) (z_preS hK hP hD hS hA hBd [0, 1, 2, 3, 4] rfl rfl [.ref (a 0), .int (zI (u_15 + 2))]) rfl rfl hl.1 rfl (lv_room (Nat.le_of_ble_eq_true rfl)) dL_law_55 (lx_fit (by omega) (by omega) hr)) hP hD hS hA [0, 1, 2, 3, 4] rfl (fun _ => Nat.le_of_ble_eq_true rfl) (fun r_23 u_22 H locs hw hP hD hS => ?_)
      have hP := wmixP [true, true, true, true, true] (by decide +kernel) hP
      have hD := wmixD [true, true, true, true, true] (by decide +kernel) hD
      obtain ⟨-, -, -, rfl⟩ := hw
      have hP : va_P G.1 vwCl (gW G a (s_seat s_0 (u_15 + 2))) H := hP
      have hD : va_D A (gW G a (s_seat s_0 (u_15 + 2))) := hD
      obtain ⟨σ2, e9, hY, hY2⟩ : ∃ q : gS, gW G a q = gW G a (s_seat s_0 (u_15 + 2)) ∧ gY (u_15 + 2) 25 q ∧ 0 ≤ (u_15 + 2) := ⟨s_seat s_0 (u_15 + 2), rfl, ⟨gY_seat (by omega), by omega⟩⟩
      rw [← e9] at hP hD
      clear e9
      have hP : va_P G.1 vwCl (gW G a σ2) H := hP
      have hD : va_D A (gW G a σ2) := hD
      refine z_tz (b := 0) rfl ?_
      refine z_if_ne (tgt := 83) hF dL_law_58 (by decide) (by decide) (fun c_24 => ?_) (fun c_24 => ?_)
      · exact absurd c_24 (by decide)
      · have hc_58 := c_24
        refine W.widen (k := cells + 4) (n := slots + 24) (by omega) (by omega) ?_
        exact (kp.go K1) σ2 3 (u_15 + 2) u_18 hY (Or.inl rfl) (by omega) (by omega) H locs ls hP hD hS (lv_sub hl [5, 6, 4, 3, 2, 1, 0] rfl)

set_option maxHeartbeats 4000000 in
set_option maxRecDepth 100000 in
theorem sp_2 {p : Program} {l : Launch} {e : Env} {s : State} {m : MethodId} {args : Array Value} {below : List Frame} {meth : Method} {c : Code} {G : wG} {A : Nat → Prop} {b Ln : Nat} {sx : Nat → Int32} {Q0 : State → Prop} {cells slots : Nat} {a : Nat → Nat} (hC : lwC6 p l s m args c G A b Ln sx) {all seats rate : Int} {σ : gS} (hr : cells + 4 ≤ 600130 ∧ slots + 24 ≤ 7301080) (hY : gY seats 25 σ) (hra : 0 ≤ rate ∧ rate ≤ 100)
    (K1 : kp (∀ (σ : gS), gY seats rate σ → ∀ (H : Heap) (locs : List Loc) (ls : Array Slot), va_P G.1 vwCl (gW G a σ) H → va_D A (gW G a σ) → va_S A s.heap H locs → lv_has ls 31 [(0, .ref b), (1, .ref (a 0)), (2, .int (zI all)), (3, .int (zI seats)), (4, .int (zI rate)), (5, .int (zI 0)), (6, .int (zI 0))] → W p l e room_1 s m args below meth c H locs (cells + 4) (slots + 24) Q0 (F0 m 85 ls [])))
    {H : Heap} {locs : List Loc} {ls : Array Slot} (hP : va_P G.1 vwCl (gW G a σ) H) (hD : va_D A (gW G a σ)) (hS : va_S A s.heap H locs) (hl : lv_has ls 31 [(0, .ref b), (1, .ref (a 0)), (2, .int (zI all)), (3, .int (zI seats)), (4, .int (zI rate)), (5, .int (zI 0)), (6, .int (zI 0))]) : W p l e room_1 s m args below meth c H locs cells slots Q0 (F0 m 61 ls []) := by
  obtain ⟨hF, hst, hK, hBd, hA, hX, hbl, hbA, hLn, hts⟩ := hC
  have hx := hF.1
  have hb := hF.2.1
  refine lv_aload_n hx hb dL_law_61 rfl (lv_at hl 1 rfl) ?_
  refine lv_iload hx hb dL_law_62 (lv_at hl 4 rfl) ?_
  refine cj_i (vx_runSW (As := [.ref (a 0), .int (zI rate)]) (rest := []) hF (c_L_setRate l hst G (a 0) (a 1) (a 2) (a 5) (a 9) (a 11) (a 12) (a 14) (a 16) (a 24) (a 32) (a 34) (a 36) (g_ph σ) (g_mv σ) (g_sk σ) (g_ho σ) (g_lk σ) (a 13) (g_kn σ) (g_ra σ) rate  (by omega) (by omega) H.size) (vx_cwSW 2 hF.2.2.2.2 gL_law_L_setRate rfl rfl rfl (by decide +kernel) ⟨Nat.le_of_ble_eq_true rfl, Nat.le_of_ble_eq_true rfl⟩) (z_preS hK hP hD hS hA hBd [0, 12, 13] rfl rfl [.ref (a 0), .int (zI rate)]) rfl rfl hl.1 rfl (lv_room (Nat.le_of_ble_eq_true rfl)) dL_law_64 (lx_fit (by omega) (by omega) hr)) hP hD hS hA [0, 12, 13] rfl (fun _ => Nat.le_of_ble_eq_true rfl) (fun r_2 u_1 H locs hw hP hD hS => ?_)
  have hP := wmixP [true, false, false, false, false, false, false, false, false, false, false, false, true, true] (by decide +kernel) hP
  have hD := wmixD [true, false, false, false, false, false, false, false, false, false, false, false, true, true] (by decide +kernel) hD
  obtain ⟨-, rfl⟩ := hw
  have hP : va_P G.1 vwCl (gW G a (s_rate σ rate)) H := hP
  have hD : va_D A (gW G a (s_rate σ rate)) := hD
  obtain ⟨σ1, e9, hY2, hx1⟩ : ∃ q : gS, gW G a q = gW G a (s_rate σ rate) ∧ gY seats rate q ∧ 0 ≤ rate := ⟨s_rate σ rate, rfl, ⟨gY_rate hY, by omega⟩⟩
  rw [← e9] at hP hD
  clear e9
  have hP : va_P G.1 vwCl (gW G a σ1) H := hP
  have hD : va_D A (gW G a σ1) := hD
  refine z_tz (b := 25) hY.2.2.1 ?_
  refine z_bipush hF dL_law_67 (by decide) ?_
  refine z_icmp_ne (tgt := 83) hF dL_law_69 (by decide) (by decide) (by decide) (fun c_3 => ?_) (fun c_3 => ?_)
  · exact absurd c_3 (by decide)
  · have hc_69 := c_3
    refine lv_aload_n hx hb dL_law_72 rfl (lv_at hl 1 rfl) ?_
    refine lv_iload hx hb dL_law_73 (lv_at hl 4 rfl) ?_
    refine cj_i (vx_runSW (As := [.ref (a 0), .int (zI rate)]) (rest := []) hF (c_L_setRate l hst G (a 0) (a 1) (a 2) (a 5) (a 9) (a 11) (a 12) (a 14) (a 16) (a 24) (a 32) (a 34) (a 36) (g_ph σ1) (g_mv σ1) (g_sk σ1) (g_ho σ1) (g_lk σ1) (a 13) (g_kn σ1) (g_ra σ1) rate  (by omega) (by omega) H.size) (vx_cwSW 2 hF.2.2.2.2 gL_law_L_setRate rfl rfl rfl (by decide +kernel) ⟨Nat.le_of_ble_eq_true rfl, Nat.le_of_ble_eq_true rfl⟩) (z_preS hK hP hD hS hA hBd [0, 12, 13] rfl rfl [.ref (a 0), .int (zI rate)]) rfl rfl hl.1 rfl (lv_room (Nat.le_of_ble_eq_true rfl)) dL_law_75 (lx_fit (by omega) (by omega) hr)) hP hD hS hA [0, 12, 13] rfl (fun _ => Nat.le_of_ble_eq_true rfl) (fun r_5 u_4 H locs hw hP hD hS => ?_)
    have hP := wmixP [true, false, false, false, false, false, false, false, false, false, false, false, true, true] (by decide +kernel) hP
    have hD := wmixD [true, false, false, false, false, false, false, false, false, false, false, false, true, true] (by decide +kernel) hD
    obtain ⟨-, rfl⟩ := hw
    have hP : va_P G.1 vwCl (gW G a (s_rate σ1 rate)) H := hP
    have hD : va_D A (gW G a (s_rate σ1 rate)) := hD
    obtain ⟨σ2, e9, hY3, hx2⟩ : ∃ q : gS, gW G a q = gW G a (s_rate σ1 rate) ∧ gY seats rate q ∧ 0 ≤ rate := ⟨s_rate σ1 rate, rfl, ⟨gY_rate hY2, by omega⟩⟩
    rw [← e9] at hP hD
    clear e9
    have hP : va_P G.1 vwCl (gW G a σ2) H := hP
    have hD : va_D A (gW G a σ2) := hD
    refine z_tz (b := rate) hY2.2.2.1 ?_
    refine lv_iload hx hb dL_law_78 (lv_at hl 4 rfl) ?_
    refine z_icmp_eq (tgt := 85) hF dL_law_80 (by decide) (by omega) (by omega) (fun c_6 => ?_) (fun c_6 => ?_)
    · have hc_80 := c_6
      refine W.widen (k := cells + 4) (n := slots + 24) (by omega) (by omega) ?_
      exact (kp.go K1) σ2 hY3 H locs ls hP hD hS (lv_sub hl [0, 1, 2, 3, 4, 5, 6] rfl)
    · exfalso; omega

