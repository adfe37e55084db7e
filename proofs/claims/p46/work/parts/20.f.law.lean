set_option maxHeartbeats 4000000 in
set_option maxRecDepth 100000 in
theorem sg_8 {p : Program} {l : Launch} {e : Env} {s : State} {m : MethodId} {args : Array Value} {below : List Frame} {meth : Method} {c : Code} {G : wG} {A : Nat → Prop} {b Ln : Nat} {sx : Nat → Int32} {Q0 : State → Prop} {cells slots : Nat} {a : Nat → Nat} (hC : lwC6 p l s m args c G A b Ln sx) {all seats t dz rec sd q8 : Int} {f : Int → Int} {nw : Nat} {σ : gS} (hr : cells + 20 ≤ 600130 ∧ slots + 120 ≤ 7301080) (hfp : FPL) (hfm : FPM) (h1 : gI all seats (t + 1) dz σ) (h2 : gB all (t + 1) σ) (h4 : g_bb σ = g_bs σ) (h5 : g_tu σ = rec) (h80 : (g_ph σ = 100 ∧ g_mv σ = 1 - sd) ∨ (g_ph σ = 45 ∧ pipB (g_bb σ) sd = 0 ∧ 1 ≤ g_lk σ ∧ g_lk σ ≤ 3)) (hsd : 0 ≤ sd ∧ sd ≤ 1)
    (K1 : kp (∀ (σ : gS) (rec : Int), gI all seats (t + 1) dz σ → gB all (t + 1) σ → g_bb σ = g_bs σ → (g_ph σ = 45 ∨ (g_ph σ = 100 ∧ rec = g_tu σ)) → ∀ (H : Heap) (locs : List Loc) (ls : Array Slot), va_P G.1 vwCl (gW G a σ) H → va_D A (gW G a σ) → va_S A s.heap H locs → lv_has ls 31 [(0, .ref b), (1, .ref (a 0)), (2, .int (zI all)), (3, .int (zI seats)), (5, .int (zI rec)), (6, .int (zI dz)), (13, .int (zI t))] → W p l e room_1 s m args below meth c H locs (cells + 20) (slots + 120) Q0 (F0 m 1074 ls [])))
    {H : Heap} {locs : List Loc} {ls : Array Slot} (hP : va_P G.1 vwCl (gW G a σ ++ [(nw, .inl (G.2.1.1, 52, .inl (aI f)))]) H) (hD : va_D A (gW G a σ ++ [(nw, .inl (G.2.1.1, 52, .inl (aI f)))])) (hS : va_S A s.heap H locs) (hl : lv_has ls 31 [(0, .ref b), (1, .ref (a 0)), (2, .int (zI all)), (3, .int (zI seats)), (5, .int (zI rec)), (6, .int (zI dz)), (13, .int (zI t)), (15, .int (zI sd)), (25, .ref nw), (27, .int (zI q8))]) : W p l e room_1 s m args below meth c H locs cells slots Q0 (F0 m 984 ls []) := by
  obtain ⟨hF, hst, hK, hBd, hA, hX, hbl, hbA, hLn, hts⟩ := hC
  have hx := hF.1
  have hb := hF.2.1
  have hmv := h1.mv
  have hph9 := h1.ph
  have hB9 := h2.2.2.1.1
  have kc_146 : (Cond.constantDouble RL 146 (13922565299518832640)).before args s = true := hts _ (by decide +kernel)
  refine lv_aload_n hx hb dL_law_984 rfl (lv_at hl 1 rfl) ?_
  refine cj_i (va_runV (As := []) (rest := []) hF (c_X9_state l G (a 0) (a 1) (a 2) (a 5) (a 9) (a 11) (a 12) (a 14) (a 16) (a 24) (a 32) (a 34) (a 36) (g_ph σ) (g_mv σ) (g_sk σ) (g_ho σ) (g_lk σ)  (gI.ph h1) H.size) (cwV 0 hF.2.2.2.2 gL_law_X9_state rfl rfl rfl (by decide +kernel) ⟨Nat.le_of_ble_eq_true rfl, Nat.le_of_ble_eq_true rfl⟩) (z_preV hK hP hD hS hA hBd [0] rfl rfl rfl rfl []) rfl rfl hl.1 rfl (lv_room (Nat.le_of_ble_eq_true rfl)) dL_law_985 (lx_fit (by omega) (by omega) hr)) hP hD hS hA [0] rfl (fun _ => Nat.le_of_ble_eq_true rfl) (fun r_2 u_1 H locs hw hP hD hS => ?_)
  have hP := wmixP [true] (by decide +kernel) hP
  have hD := wmixD [true] (by decide +kernel) hD
  obtain rfl := hw
  have hP : va_P G.1 vwCl (gW G a σ ++ [(nw, .inl (G.2.1.1, 52, .inl (aI f)))]) H := hP
  have hD : va_D A (gW G a σ ++ [(nw, .inl (G.2.1.1, 52, .inl (aI f)))]) := hD
  refine z_bipush hF dL_law_988 (by decide) ?_
  refine z_icmp_ne (tgt := 1038) hF dL_law_990 (by decide) (by omega) (by decide) (fun c_3 => ?_) (fun c_3 => ?_)
  · have hc_990 := c_3
    have hph : g_ph σ = 45 := by omega
    have h8 : g_ph σ = 45 ∧ pipB (g_bb σ) sd = 0 ∧ 1 ≤ g_lk σ ∧ g_lk σ ≤ 3 := by
      rcases h80 with h9 | h9
      · omega
      · exact h9
    refine lv_aload_n hx hb dL_law_1038 rfl (lv_at hl 1 rfl) ?_
    refine cj_i (va_runV (As := []) (rest := []) hF (c_X9_state l G (a 0) (a 1) (a 2) (a 5) (a 9) (a 11) (a 12) (a 14) (a 16) (a 24) (a 32) (a 34) (a 36) (g_ph σ) (g_mv σ) (g_sk σ) (g_ho σ) (g_lk σ)  (gI.ph h1) H.size) (cwV 0 hF.2.2.2.2 gL_law_X9_state rfl rfl rfl (by decide +kernel) ⟨Nat.le_of_ble_eq_true rfl, Nat.le_of_ble_eq_true rfl⟩) (z_preV hK hP hD hS hA hBd [0] rfl rfl rfl rfl []) rfl rfl hl.1 rfl (lv_room (Nat.le_of_ble_eq_true rfl)) dL_law_1039 (lx_fit (by omega) (by omega) hr)) hP hD hS hA [0] rfl (fun _ => Nat.le_of_ble_eq_true rfl) (fun r_5 u_4 H locs hw hP hD hS => ?_)
    have hP := wmixP [true] (by decide +kernel) hP
    have hD := wmixD [true] (by decide +kernel) hD
    obtain rfl := hw
    have hP : va_P G.1 vwCl (gW G a σ ++ [(nw, .inl (G.2.1.1, 52, .inl (aI f)))]) H := hP
    have hD : va_D A (gW G a σ ++ [(nw, .inl (G.2.1.1, 52, .inl (aI f)))]) := hD
    refine z_bipush hF dL_law_1042 (by decide) ?_
    refine z_icmp_ne (tgt := 1072) hF dL_law_1044 (by decide) (by omega) (by decide) (fun c_6 => ?_) (fun c_6 => ?_)
    · exfalso; omega
    · have hc_1044 := c_6
      refine lv_aload_n hx hb dL_law_1047 rfl (lv_at hl 1 rfl) ?_
      refine lv_iload hx hb dL_law_1048 (lv_at hl 7 rfl) ?_
      refine cj_i (vx_runSW (As := [.ref (a 0), .int (zI sd)]) (rest := []) hF (c_L_pips l hst G (a 0) (a 1) (a 2) (a 5) (a 9) (a 11) (a 12) (a 14) (a 16) (a 24) (a 32) (a 34) (a 36) (g_ph σ) (g_mv σ) (g_sk σ) (g_ho σ) (g_lk σ) (a 35) (g_bb σ) sd  (by omega) (by omega) H.size) (vx_cwSW 2 hF.2.2.2.2 gL_law_L_pips rfl rfl rfl (by decide +kernel) ⟨Nat.le_of_ble_eq_true rfl, Nat.le_of_ble_eq_true rfl⟩) (z_preS hK hP hD hS hA hBd [0, 34, 35] rfl rfl [.ref (a 0), .int (zI sd)]) rfl rfl hl.1 rfl (lv_room (Nat.le_of_ble_eq_true rfl)) dL_law_1050 (lx_fit (by omega) (by omega) hr)) hP hD hS hA [0, 34, 35] rfl (fun _ => Nat.le_of_ble_eq_true rfl) (fun r_8 u_7 H locs hw hP hD hS => ?_)
      have hP := wmixP [true, false, false, false, false, false, false, false, false, false, false, false, false, false, false, false, false, false, false, false, false, false, false, false, false, false, false, false, false, false, false, false, false, false, true, true] (by decide +kernel) hP
      have hD := wmixD [true, false, false, false, false, false, false, false, false, false, false, false, false, false, false, false, false, false, false, false, false, false, false, false, false, false, false, false, false, false, false, false, false, false, true, true] (by decide +kernel) hD
      obtain ⟨-, rfl⟩ := hw
      have hP : va_P G.1 vwCl (gW G a σ ++ [(nw, .inl (G.2.1.1, 52, .inl (aI f)))]) H := hP
      have hD : va_D A (gW G a σ ++ [(nw, .inl (G.2.1.1, 52, .inl (aI f)))]) := hD
      refine z_tz (b := 0) (h8.2.1 : pipB (g_bb σ) sd = 0) ?_
      refine z_if_ne (tgt := 1072) hF dL_law_1053 (by decide) (by decide) (fun c_9 => ?_) (fun c_9 => ?_)
      · exact absurd c_9 (by decide)
      · have hc_1053 := c_9
        refine lv_aload_n hx hb dL_law_1056 rfl (lv_at hl 1 rfl) ?_
        refine cj_i (va_runV (As := []) (rest := []) hF (c_X9_won l G (a 0) (a 1) (a 2) (a 5) (a 9) (a 11) (a 12) (a 14) (a 16) (a 24) (a 32) (a 34) (a 36) (g_ph σ) (g_mv σ) (g_sk σ) (g_ho σ) (g_lk σ)   H.size) (cwV 0 hF.2.2.2.2 gL_law_X9_won rfl rfl rfl (by decide +kernel) ⟨Nat.le_of_ble_eq_true rfl, Nat.le_of_ble_eq_true rfl⟩) (z_preV hK hP hD hS hA hBd [0] rfl rfl rfl rfl []) rfl rfl hl.1 rfl (lv_room (Nat.le_of_ble_eq_true rfl)) dL_law_1057 (lx_fit (by omega) (by omega) hr)) hP hD hS hA [0] rfl (fun _ => Nat.le_of_ble_eq_true rfl) (fun r_11 u_10 H locs hw hP hD hS => ?_)
        have hP := wmixP [true] (by decide +kernel) hP
        have hD := wmixD [true] (by decide +kernel) hD
        obtain rfl := hw
        have hP : va_P G.1 vwCl (gW G a σ ++ [(nw, .inl (G.2.1.1, 52, .inl (aI f)))]) H := hP
        have hD : va_D A (gW G a σ ++ [(nw, .inl (G.2.1.1, 52, .inl (aI f)))]) := hD
        refine z_iconst hF dL_law_1060 ?_
        refine z_icmp_lt (tgt := 1072) hF dL_law_1061 (by decide) (by omega) (by decide) (fun c_12 => ?_) (fun c_12 => ?_)
        · exfalso; omega
        · have hc_1061 := c_12
          refine lv_aload_n hx hb dL_law_1064 rfl (lv_at hl 1 rfl) ?_
          refine cj_i (va_runV (As := []) (rest := []) hF (c_X9_won l G (a 0) (a 1) (a 2) (a 5) (a 9) (a 11) (a 12) (a 14) (a 16) (a 24) (a 32) (a 34) (a 36) (g_ph σ) (g_mv σ) (g_sk σ) (g_ho σ) (g_lk σ)   H.size) (cwV 0 hF.2.2.2.2 gL_law_X9_won rfl rfl rfl (by decide +kernel) ⟨Nat.le_of_ble_eq_true rfl, Nat.le_of_ble_eq_true rfl⟩) (z_preV hK hP hD hS hA hBd [0] rfl rfl rfl rfl []) rfl rfl hl.1 rfl (lv_room (Nat.le_of_ble_eq_true rfl)) dL_law_1065 (lx_fit (by omega) (by omega) hr)) hP hD hS hA [0] rfl (fun _ => Nat.le_of_ble_eq_true rfl) (fun r_14 u_13 H locs hw hP hD hS => ?_)
          have hP := wmixP [true] (by decide +kernel) hP
          have hD := wmixD [true] (by decide +kernel) hD
          obtain rfl := hw
          have hP : va_P G.1 vwCl (gW G a σ ++ [(nw, .inl (G.2.1.1, 52, .inl (aI f)))]) H := hP
          have hD : va_D A (gW G a σ ++ [(nw, .inl (G.2.1.1, 52, .inl (aI f)))]) := hD
          refine z_iconst hF dL_law_1068 ?_
          refine z_icmp_le (tgt := 1074) hF dL_law_1069 (by decide) (by omega) (by decide) (fun c_15 => ?_) (fun c_15 => ?_)
          · have hc_1069 := c_15
            have hP : va_P G.1 vwCl (gW G a σ) H := va_P_left hP
            have hD : va_D A (gW G a σ) := va_D_left hD
            refine W.widen (k := cells + 20) (n := slots + 120) (by omega) (by omega) ?_
            exact (kp.go K1) σ rec h1 h2 h4 (Or.inl hph) H locs ls hP hD hS (lv_sub hl [0, 1, 2, 3, 4, 5, 6] rfl)
          · exfalso; omega
  · have hc_990 := c_3
    have hph : g_ph σ = 100 := by omega
    have h8 : g_mv σ = 1 - sd := by omega
    refine lv_aload_n hx hb dL_law_993 rfl (lv_at hl 1 rfl) ?_
    refine cj_d (vx_runSW (As := [.ref (a 0)]) (rest := []) hF (c_L_chance l hst G (a 0) (a 1) (a 2) (a 5) (a 9) (a 11) (a 12) (a 14) (a 16) (a 24) (a 32) (a 34) (a 36) (g_ph σ) (g_mv σ) (g_sk σ) (g_ho σ) (g_lk σ) (a 15) (g_fe σ) (a 33) (g_bs σ) all hfp (gI.ph h1) (gI.mv h1) (gI.all15 h1) h2.2.2.1.1 h1.2.2.2.1 (by omega) H.size) (vx_cwSW 1 hF.2.2.2.2 gL_law_L_chance rfl rfl rfl (by decide +kernel) ⟨Nat.le_of_ble_eq_true rfl, Nat.le_of_ble_eq_true rfl⟩) (z_preS hK hP hD hS hA hBd [0, 14, 15, 32, 33] rfl rfl [.ref (a 0)]) rfl rfl hl.1 rfl (lv_room (Nat.le_of_ble_eq_true rfl)) dL_law_994 (lx_fit (by omega) (by omega) hr)) hP hD hS hA [0, 14, 15, 32, 33] rfl (fun _ => Nat.le_of_ble_eq_true rfl) (fun r_17 u_16 H locs hw hP hD hS => ?_)
    have hP := wmixP [true, false, false, false, false, false, false, false, false, false, false, false, false, false, true, true, false, false, false, false, false, false, false, false, false, false, false, false, false, false, false, false, true, true] (by decide +kernel) hP
    have hD := wmixD [true, false, false, false, false, false, false, false, false, false, false, false, false, false, true, true, false, false, false, false, false, false, false, false, false, false, false, false, false, false, false, false, true, true] (by decide +kernel) hD
    obtain ⟨uk, u2⟩ := u_16
    dsimp only at hw
    rcases hw with ⟨rfl, hq1, hq2, hq3, hq4, rfl⟩ | ⟨rfl, hq1, rfl⟩
    · skip
      have hP : va_P G.1 vwCl (gW G a (s_fe σ u2) ++ [(nw, .inl (G.2.1.1, 52, .inl (aI f)))]) H := hP
      have hD : va_D A (gW G a (s_fe σ u2) ++ [(nw, .inl (G.2.1.1, 52, .inl (aI f)))]) := hD
      obtain ⟨σ1, e9, h1, h2, hph2⟩ : ∃ q : gS, gW G a q = gW G a (s_fe σ u2) ∧ gI all seats (t + 1) dz q ∧ gB all (t + 1) q ∧ (g_ph q = g_ph σ ∧ g_mv q = g_mv σ ∧ g_tu q = g_tu σ ∧ g_bb q = g_bs q) := ⟨s_fe σ u2, rfl, ⟨h1.1, h1.2.1, h1.2.2.1, hq4, h1.2.2.2.2⟩, h2, rfl, rfl, rfl, h4⟩
      rw [← e9] at hP hD
      clear e9
      have hP : va_P G.1 vwCl (gW G a σ1 ++ [(nw, .inl (G.2.1.1, 52, .inl (aI f)))]) H := hP
      have hD : va_D A (gW G a σ1 ++ [(nw, .inl (G.2.1.1, 52, .inl (aI f)))]) := hD
      obtain ⟨hp2, hm2, ht2, hb2⟩ := hph2
      obtain ⟨cv, hcv⟩ : ∃ cv, cv = chV (l2V (g_bs σ) (g_mv σ)) (l2V (g_bs σ) (1 - g_mv σ)) := ⟨_, rfl⟩
      have hv1 := l2V_v (sd := g_mv σ) hB9 hmv (isE_mv hmv hq2 hq3)
      have hv2 := l2V_v (sd := 1 - g_mv σ) hB9 (by omega) (isE_mv (by omega) hq2 hq3)
      have hch := chV_pos hfp hfm hv1.1 hv1.2 hv2.1 hv2.2
      rw [← hcv] at hch
      rw [← hcv]
      refine lv_dstore (lv' := [(27, .double cv), (0, .ref b), (1, .ref (a 0)), (2, .int (zI all)), (3, .int (zI seats)), (5, .int (zI rec)), (6, .int (zI dz)), (13, .int (zI t)), (15, .int (zI sd)), (25, .ref nw)]) hx hb dL_law_997 hl (by decide) rfl (fun ls hl => ?_)
      refine lv_aload_n hx hb dL_law_999 rfl (lv_at hl 2 rfl) ?_
      refine cj_i (vx_runSW (As := [.ref (a 0)]) (rest := []) hF (c_L_turn l hst G (a 0) (a 1) (a 2) (a 5) (a 9) (a 11) (a 12) (a 14) (a 16) (a 24) (a 32) (a 34) (a 36) (g_ph σ1) (g_mv σ1) (g_sk σ1) (g_ho σ1) (g_lk σ1)  (gI.ph h1) (by omega) H.size) (vx_cwSW 1 hF.2.2.2.2 gL_law_L_turn rfl rfl rfl (by decide +kernel) ⟨Nat.le_of_ble_eq_true rfl, Nat.le_of_ble_eq_true rfl⟩) (z_preS hK hP hD hS hA hBd [0] rfl rfl [.ref (a 0)]) rfl rfl hl.1 rfl (lv_room (Nat.le_of_ble_eq_true rfl)) dL_law_1000 (lx_fit (by omega) (by omega) hr)) hP hD hS hA [0] rfl (fun _ => Nat.le_of_ble_eq_true rfl) (fun r_19 u_18 H locs hw hP hD hS => ?_)
      have hP := wmixP [true] (by decide +kernel) hP
      have hD := wmixD [true] (by decide +kernel) hD
      obtain ⟨-, rfl⟩ := hw
      have hP : va_P G.1 vwCl (gW G a σ1 ++ [(nw, .inl (G.2.1.1, 52, .inl (aI f)))]) H := hP
      have hD : va_D A (gW G a σ1 ++ [(nw, .inl (G.2.1.1, 52, .inl (aI f)))]) := hD
      refine z_tz (b := g_mv σ1) (if_neg (by omega)) ?_
      refine z_iconst hF dL_law_1003 ?_
      refine lv_iload hx hb dL_law_1004 (lv_at hl 8 rfl) ?_
      refine z_isub hF dL_law_1006 ?_
      refine z_icmp_ne (tgt := 1033) hF dL_law_1007 (by decide) (by omega) (by omega) (fun c_20 => ?_) (fun c_20 => ?_)
      · exfalso; omega
      · have hc_1007 := c_20
        refine lv_dload hx hb dL_law_1010 (lv_at hl 0 rfl) ?_
        refine lv_ldc2d hx hb hF.2.2.2.1 kc_146 dL_law_1012 ?_
        obtain ⟨dcv, hdcv, hdcr⟩ := z_i32 (Op.cmpValue (FP.dcmp cv dUN) .l)
        refine lv_dcmp hx hb dL_law_1015 ?_
        refine z_top (y := zI dcv) hdcv ?_
        refine z_if_eq (tgt := 1035) hF dL_law_1016 (by decide) (by omega) (fun c_21 => ?_) (fun c_21 => ?_)
        · have hc_1016 := c_21
          refine z_goto (tgt := 1074) hF dL_law_1035 (by decide) ?_
          have hP : va_P G.1 vwCl (gW G a σ1) H := va_P_left hP
          have hD : va_D A (gW G a σ1) := va_D_left hD
          refine W.widen (k := cells + 20) (n := slots + 120) (by omega) (by omega) ?_
          exact (kp.go K1) σ1 rec h1 h2 hb2 (Or.inr ⟨by omega, by omega⟩) H locs ls hP hD hS (lv_sub hl [1, 2, 3, 4, 5, 6, 7] rfl)
        · have hc_1016 := c_21
          refine lv_dload hx hb dL_law_1019 (lv_at hl 0 rfl) ?_
          refine lv_dconst0 hx hb dL_law_1021 ?_
          refine lv_dcmp hx hb dL_law_1022 ?_
          refine z_top (y := zI 1) (dc_pos hfp hch) ?_
          refine z_if_le (tgt := 1033) hF dL_law_1023 (by decide) (by decide) (fun c_22 => ?_) (fun c_22 => ?_)
          · exact absurd c_22 (by decide)
          · have hc_1023 := c_22
            refine lv_dload hx hb dL_law_1026 (lv_at hl 0 rfl) ?_
            refine lv_dconst1 hx hb dL_law_1028 ?_
            obtain ⟨dcw, hdcw, hdcx⟩ := dc_one hfp hch
            refine lv_dcmp hx hb dL_law_1029 ?_
            refine z_top (y := zI dcw) hdcw ?_
            refine z_if_le (tgt := 1035) hF dL_law_1030 (by decide) (by omega) (fun c_23 => ?_) (fun c_23 => ?_)
            · have hc_1030 := c_23
              refine z_goto (tgt := 1074) hF dL_law_1035 (by decide) ?_
              have hP : va_P G.1 vwCl (gW G a σ1) H := va_P_left hP
              have hD : va_D A (gW G a σ1) := va_D_left hD
              refine W.widen (k := cells + 20) (n := slots + 120) (by omega) (by omega) ?_
              exact (kp.go K1) σ1 rec h1 h2 hb2 (Or.inr ⟨by omega, by omega⟩) H locs ls hP hD hS (lv_sub hl [1, 2, 3, 4, 5, 6, 7] rfl)
            · exfalso; omega
    · skip
      have hP : va_P G.1 vwCl (gW G a σ ++ [(nw, .inl (G.2.1.1, 52, .inl (aI f)))]) H := hP
      have hD : va_D A (gW G a σ ++ [(nw, .inl (G.2.1.1, 52, .inl (aI f)))]) := hD
      have hp2 := hph
      have hm2 : g_mv σ = g_mv σ := rfl
      refine lv_dstore (lv' := [(27, .double dUN), (0, .ref b), (1, .ref (a 0)), (2, .int (zI all)), (3, .int (zI seats)), (5, .int (zI rec)), (6, .int (zI dz)), (13, .int (zI t)), (15, .int (zI sd)), (25, .ref nw)]) hx hb dL_law_997 hl (by decide) rfl (fun ls hl => ?_)
      refine lv_aload_n hx hb dL_law_999 rfl (lv_at hl 2 rfl) ?_
      refine cj_i (vx_runSW (As := [.ref (a 0)]) (rest := []) hF (c_L_turn l hst G (a 0) (a 1) (a 2) (a 5) (a 9) (a 11) (a 12) (a 14) (a 16) (a 24) (a 32) (a 34) (a 36) (g_ph σ) (g_mv σ) (g_sk σ) (g_ho σ) (g_lk σ)  (gI.ph h1) (by omega) H.size) (vx_cwSW 1 hF.2.2.2.2 gL_law_L_turn rfl rfl rfl (by decide +kernel) ⟨Nat.le_of_ble_eq_true rfl, Nat.le_of_ble_eq_true rfl⟩) (z_preS hK hP hD hS hA hBd [0] rfl rfl [.ref (a 0)]) rfl rfl hl.1 rfl (lv_room (Nat.le_of_ble_eq_true rfl)) dL_law_1000 (lx_fit (by omega) (by omega) hr)) hP hD hS hA [0] rfl (fun _ => Nat.le_of_ble_eq_true rfl) (fun r_25 u_24 H locs hw hP hD hS => ?_)
      have hP := wmixP [true] (by decide +kernel) hP
      have hD := wmixD [true] (by decide +kernel) hD
      obtain ⟨-, rfl⟩ := hw
      have hP : va_P G.1 vwCl (gW G a σ ++ [(nw, .inl (G.2.1.1, 52, .inl (aI f)))]) H := hP
      have hD : va_D A (gW G a σ ++ [(nw, .inl (G.2.1.1, 52, .inl (aI f)))]) := hD
      refine z_tz (b := g_mv σ) (if_neg (by omega)) ?_
      refine z_iconst hF dL_law_1003 ?_
      refine lv_iload hx hb dL_law_1004 (lv_at hl 8 rfl) ?_
      refine z_isub hF dL_law_1006 ?_
      refine z_icmp_ne (tgt := 1033) hF dL_law_1007 (by decide) (by omega) (by omega) (fun c_26 => ?_) (fun c_26 => ?_)
      · exfalso; omega
      · have hc_1007 := c_26
        refine lv_dload hx hb dL_law_1010 (lv_at hl 0 rfl) ?_
        refine lv_ldc2d hx hb hF.2.2.2.1 kc_146 dL_law_1012 ?_
        refine lv_dcmp hx hb dL_law_1015 ?_
        refine z_top (y := zI 0) (dc_eq hfp) ?_
        refine z_if_eq (tgt := 1035) hF dL_law_1016 (by decide) (by decide) (fun c_27 => ?_) (fun c_27 => ?_)
        · have hc_1016 := c_27
          refine z_goto (tgt := 1074) hF dL_law_1035 (by decide) ?_
          have hP : va_P G.1 vwCl (gW G a σ) H := va_P_left hP
          have hD : va_D A (gW G a σ) := va_D_left hD
          refine W.widen (k := cells + 20) (n := slots + 120) (by omega) (by omega) ?_
          exact (kp.go K1) σ rec h1 h2 h4 (Or.inr ⟨by omega, by omega⟩) H locs ls hP hD hS (lv_sub hl [1, 2, 3, 4, 5, 6, 7] rfl)
        · exact absurd c_27 (by decide)

