set_option maxHeartbeats 4000000 in
set_option maxRecDepth 100000 in
theorem sg_3 {p : Program} {l : Launch} {e : Env} {s : State} {m : MethodId} {args : Array Value} {below : List Frame} {meth : Method} {c : Code} {G : wG} {A : Nat → Prop} {b Ln : Nat} {sx : Nat → Int32} {Q0 : State → Prop} {cells slots : Nat} {a : Nat → Nat} (hC : lwC6 p l s m args c G A b Ln sx) {all seats t dz rec sd : Int} {σ : gS} (hr : cells + 40 ≤ 600130 ∧ slots + 240 ≤ 7301080) (hI : gI all seats t dz σ) (hB : gB all t σ) (hph : g_ph σ = 100) (hbb : g_bb σ = g_bs σ) (hrec : rec = g_tu σ) (ht : 0 ≤ t ∧ t < 30) (hdz : 0 ≤ dz) (hsd : sd = g_mv σ)
    (K1 : kp (∀ (σ : gS) (f1 f2 k n0 c0 : Int) (fr0 : Int → Int) (P0 P1 : Int), gI all seats t (dz + 2) σ → gB all t σ → gR σ → g_ph σ = 114 → g_bb σ = g_bs σ → g_gl σ = (if g_dg σ = g_dl σ then 4 else 1) → g_ll σ = (if g_dg σ = g_dl σ then 0 else 1) → sd = g_mv σ → rec = g_tu σ → n0 = g_ln σ → c0 = g_cnt σ → fr0 = g_fr σ → P0 = pipB (g_bb σ) sd → P1 = pipB (g_bb σ) (1 - sd) → g_dg σ = zmax f1 f2 → g_dl σ = zmin f1 f2 → (1 ≤ f1 ∧ f1 ≤ 6) → (1 ≤ f2 ∧ f2 ≤ 6) → (0 ≤ k ∧ k < c0) → ∀ (H : Heap) (locs : List Loc) (ls : Array Slot), va_P G.1 vwCl (gW G a σ) H → va_D A (gW G a σ) → va_S A s.heap H locs → lv_has ls 31 [(0, .ref b), (1, .ref (a 0)), (2, .int (zI all)), (3, .int (zI seats)), (5, .int (zI rec)), (6, .int (zI (dz + 2))), (13, .int (zI t)), (15, .int (zI sd)), (16, .int (zI f1)), (17, .int (zI f2)), (19, .int (zI P0)), (20, .int (zI P1)), (21, .int (zI k)), (22, .int (zI n0)), (23, .int (zI 0)), (24, .int (zI 0)), (25, .int (zI 0))] → W p l e room_1 s m args below meth c H locs (cells + 40) (slots + 240) Q0 (F0 m 618 ls [])))
    {H : Heap} {locs : List Loc} {ls : Array Slot} (hP : va_P G.1 vwCl (gW G a σ) H) (hD : va_D A (gW G a σ)) (hS : va_S A s.heap H locs) (hl : lv_has ls 31 [(0, .ref b), (1, .ref (a 0)), (2, .int (zI all)), (3, .int (zI seats)), (5, .int (zI rec)), (6, .int (zI dz)), (13, .int (zI t)), (14, .int (zI (7 + 5 * t))), (15, .int (zI sd))]) : W p l e room_1 s m args below meth c H locs cells slots Q0 (F0 m 482 ls []) := by
  obtain ⟨hF, hst, hK, hBd, hA, hX, hbl, hbA, hLn, hts⟩ := hC
  have hx := hF.1
  have hb := hF.2.1
  have hmv := hI.mv
  have kc_97 : (Cond.constantLong RL 97 (-2500000)).before args s = true := hts _ (by decide +kernel)
  refine lv_aload_n hx hb dL_law_482 rfl (lv_at hl 1 rfl) ?_
  refine cj_i (va_runV (As := []) (rest := []) hF (c_X9_state l G (a 0) (a 1) (a 2) (a 5) (a 9) (a 11) (a 12) (a 14) (a 16) (a 24) (a 32) (a 34) (a 36) (g_ph σ) (g_mv σ) (g_sk σ) (g_ho σ) (g_lk σ)  (gI.ph hI) H.size) (cwV 0 hF.2.2.2.2 gL_law_X9_state rfl rfl rfl (by decide +kernel) ⟨Nat.le_of_ble_eq_true rfl, Nat.le_of_ble_eq_true rfl⟩) (z_preV hK hP hD hS hA hBd [0] rfl rfl rfl rfl []) rfl rfl hl.1 rfl (lv_room (Nat.le_of_ble_eq_true rfl)) dL_law_483 (lx_fit (by omega) (by omega) hr)) hP hD hS hA [0] rfl (fun _ => Nat.le_of_ble_eq_true rfl) (fun r_2 u_1 H locs hw hP hD hS => ?_)
  have hP := wmixP [true] (by decide +kernel) hP
  have hD := wmixD [true] (by decide +kernel) hD
  obtain rfl := hw
  have hP : va_P G.1 vwCl (gW G a σ) H := hP
  have hD : va_D A (gW G a σ) := hD
  refine z_bipush hF dL_law_486 (by decide) ?_
  refine z_icmp_ne (tgt := 1074) hF dL_law_488 (by decide) (by omega) (by decide) (fun c_3 => ?_) (fun c_3 => ?_)
  · exfalso; omega
  · have hc_488 := c_3
    refine z_iconst hF dL_law_491 ?_
    refine lv_aload_n hx hb dL_law_492 rfl (lv_at hl 0 rfl) ?_
    refine lv_iload hx hb dL_law_493 (lv_at hl 7 rfl) ?_
    refine z_iconst hF dL_law_495 ?_
    refine z_iadd hF dL_law_496 ?_
    refine z_bipush hF dL_law_497 (by decide) ?_
    refine cj0_i (va_runS (As := [.ref b, .int (zI ((7 + 5 * t) + 2)), .int (zI 6)]) (rest := [.int (zI 1)]) hF (c_L_some l G b Ln sx ((7 + 5 * t) + 2) 6 (by omega) (by omega) (by omega) H.size) (va_cwS 3 hF.2.2.2.2 gL_law_L_some rfl rfl rfl (by decide +kernel) ⟨Nat.le_of_ble_eq_true rfl, Nat.le_of_ble_eq_true rfl⟩) (z_preSs hK hS hA hBd hX hbl hbA [.ref b, .int (zI ((7 + 5 * t) + 2)), .int (zI 6)]) rfl rfl hl.1 rfl (lv_room (Nat.le_of_ble_eq_true rfl)) dL_law_499 (lx_fit (by omega) (by omega) hr)) hP hD hS hA (fun r_5 u_4 H locs hw hP hD hS => ?_)
    obtain ⟨hv_6, rfl⟩ := hw
    have hv_u_4 : 0 ≤ u_4 ∧ u_4 < 6 := hv_6
    refine z_iadd hF dL_law_502 ?_
    refine lv_istore (lv' := [(16, .int (zI (1 + u_4))), (0, .ref b), (1, .ref (a 0)), (2, .int (zI all)), (3, .int (zI seats)), (5, .int (zI rec)), (6, .int (zI dz)), (13, .int (zI t)), (14, .int (zI (7 + 5 * t))), (15, .int (zI sd))]) hx hb dL_law_503 hl (by decide) rfl (fun ls hl => ?_)
    refine z_iconst hF dL_law_505 ?_
    refine lv_aload_n hx hb dL_law_506 rfl (lv_at hl 1 rfl) ?_
    refine lv_iload hx hb dL_law_507 (lv_at hl 8 rfl) ?_
    refine z_iconst hF dL_law_509 ?_
    refine z_iadd hF dL_law_510 ?_
    refine z_bipush hF dL_law_511 (by decide) ?_
    refine cj0_i (va_runS (As := [.ref b, .int (zI ((7 + 5 * t) + 3)), .int (zI 6)]) (rest := [.int (zI 1)]) hF (c_L_some l G b Ln sx ((7 + 5 * t) + 3) 6 (by omega) (by omega) (by omega) H.size) (va_cwS 3 hF.2.2.2.2 gL_law_L_some rfl rfl rfl (by decide +kernel) ⟨Nat.le_of_ble_eq_true rfl, Nat.le_of_ble_eq_true rfl⟩) (z_preSs hK hS hA hBd hX hbl hbA [.ref b, .int (zI ((7 + 5 * t) + 3)), .int (zI 6)]) rfl rfl hl.1 rfl (lv_room (Nat.le_of_ble_eq_true rfl)) dL_law_513 (lx_fit (by omega) (by omega) hr)) hP hD hS hA (fun r_8 u_7 H locs hw hP hD hS => ?_)
    obtain ⟨hv_9, rfl⟩ := hw
    have hv_u_7 : 0 ≤ u_7 ∧ u_7 < 6 := hv_9
    refine z_iadd hF dL_law_516 ?_
    refine lv_istore (lv' := [(17, .int (zI (1 + u_7))), (16, .int (zI (1 + u_4))), (0, .ref b), (1, .ref (a 0)), (2, .int (zI all)), (3, .int (zI seats)), (5, .int (zI rec)), (6, .int (zI dz)), (13, .int (zI t)), (14, .int (zI (7 + 5 * t))), (15, .int (zI sd))]) hx hb dL_law_517 hl (by decide) rfl (fun ls hl => ?_)
    refine lv_aload_n hx hb dL_law_519 rfl (lv_at hl 3 rfl) ?_
    refine lv_iload hx hb dL_law_520 (lv_at hl 1 rfl) ?_
    refine lv_iload hx hb dL_law_522 (lv_at hl 0 rfl) ?_
    refine cj_i (vx_runSW (As := [.ref (a 0), .int (zI (1 + u_4)), .int (zI (1 + u_7))]) (rest := []) hF (c_L_roll l hst G (a 0) (a 1) (a 2) (a 5) (a 9) (a 11) (a 12) (a 14) (a 16) (a 24) (a 32) (a 34) (a 36) (g_ph σ) (g_mv σ) (g_sk σ) (g_ho σ) (g_lk σ) (a 10) (g_fa σ) (g_al σ) (g_hi0 σ) (g_er σ) (g_dg σ) (g_dl σ) (g_gl σ) (g_ll σ) (g_us σ) (a 17) (a 18) (a 19) (a 20) (a 21) (a 22) (a 23) (g_bl σ) (g_fr σ) (g_fw σ) (g_fc σ) (g_fh σ) (g_sd0 σ) (g_cnt σ) (g_ln σ) (g_gr σ) (a 33) (g_bs σ) all (1 + u_4) (1 + u_7)  (gI.ph hI) (gI.mv hI) (gI.all15 hI) hB.2.2.1.1 hI.2.2.1.1 hI.2.2.1.2.1 hI.2.2.1.2.2.1 hI.2.2.1.2.2.2.1 (by omega) (by omega) (by omega) hph H.size) (vx_cwSW 3 hF.2.2.2.2 gL_law_L_roll rfl rfl rfl (by decide +kernel) ⟨Nat.le_of_ble_eq_true rfl, Nat.le_of_ble_eq_true rfl⟩) (z_preS hK hP hD hS hA hBd [0, 9, 10, 11, 16, 17, 18, 19, 20, 21, 22, 23, 32, 33] rfl rfl [.ref (a 0), .int (zI (1 + u_4)), .int (zI (1 + u_7))]) rfl rfl hl.1 rfl (lv_room (Nat.le_of_ble_eq_true rfl)) dL_law_524 (lx_fit (by omega) (by omega) hr)) hP hD hS hA [0, 9, 10, 11, 16, 17, 18, 19, 20, 21, 22, 23, 32, 33] rfl (fun _ => Nat.le_of_ble_eq_true rfl) (fun r_11 u_10 H locs hw hP hD hS => ?_)
    have hP := wmixP [true, false, false, false, false, false, false, false, false, true, true, true, false, false, false, false, true, true, true, true, true, true, true, true, false, false, false, false, false, false, false, false, true, true] (by decide +kernel) hP
    have hD := wmixD [true, false, false, false, false, false, false, false, false, true, true, true, false, false, false, false, true, true, true, true, true, true, true, true, false, false, false, false, false, false, false, false, true, true] (by decide +kernel) hD
    obtain ⟨-, -, hRp, hln, hfc, hfh, rfl⟩ := hw
    have hP : va_P G.1 vwCl (gW G a (s_roll σ (1 + u_4) (1 + u_7) u_10.1 u_10.2.1 u_10.2.2.1 u_10.2.2.2.1 u_10.2.2.2.2.1 u_10.2.2.2.2.2.1 u_10.2.2.2.2.2.2)) H := hP
    have hD : va_D A (gW G a (s_roll σ (1 + u_4) (1 + u_7) u_10.1 u_10.2.1 u_10.2.2.1 u_10.2.2.2.1 u_10.2.2.2.2.1 u_10.2.2.2.2.2.1 u_10.2.2.2.2.2.2)) := hD
    obtain ⟨σ1, e9, hI2, hB2, hR2, hp2, hus2, hcn2, hk2⟩ : ∃ q : gS, gW G a q = gW G a (s_roll σ (1 + u_4) (1 + u_7) u_10.1 u_10.2.1 u_10.2.2.1 u_10.2.2.2.1 u_10.2.2.2.2.1 u_10.2.2.2.2.2.1 u_10.2.2.2.2.2.2) ∧ gI all seats t (dz + 2) q ∧ gB all t q ∧ gR q ∧ g_ph q = 114 ∧ g_us q = 0 ∧ 1 ≤ g_cnt q ∧ (g_mv q = g_mv σ ∧ g_tu q = g_tu σ ∧ g_bs q = g_bs σ ∧ g_bb q = g_bb σ ∧ g_dg q = zmax (1 + u_4) (1 + u_7) ∧ g_dl q = zmin (1 + u_4) (1 + u_7) ∧ g_cnt q = u_10.2.2.2.2.1) := ⟨s_roll σ (1 + u_4) (1 + u_7) u_10.1 u_10.2.1 u_10.2.2.1 u_10.2.2.2.1 u_10.2.2.2.2.1 u_10.2.2.2.2.2.1 u_10.2.2.2.2.2.2, rfl, (by obtain ⟨z1, z2, z3, z4, z5, z6⟩ := tr_roll hI hB hph hdz hbb (by omega) (by omega) hRp hln hfc hfh; exact ⟨z1, z2, z3, z4, z5, z6, rfl, rfl, rfl, rfl, rfl, rfl, rfl⟩)⟩
    rw [← e9] at hP hD
    clear e9
    have hP : va_P G.1 vwCl (gW G a σ1) H := hP
    have hD : va_D A (gW G a σ1) := hD
    obtain ⟨hmv2, htu2, hbs2, hbb2, hdg2, hdl2, hct2⟩ := hk2
    rw [← hct2]
    have hcc := hI2.2.2.1.1
    refine lv_istore (lv' := [(18, .int (zI (g_cnt σ1))), (17, .int (zI (1 + u_7))), (16, .int (zI (1 + u_4))), (0, .ref b), (1, .ref (a 0)), (2, .int (zI all)), (3, .int (zI seats)), (5, .int (zI rec)), (6, .int (zI dz)), (13, .int (zI t)), (14, .int (zI (7 + 5 * t))), (15, .int (zI sd))]) hx hb dL_law_527 hl (by decide) rfl (fun ls hl => ?_)
    refine lv_aload_n hx hb dL_law_529 rfl (lv_at hl 4 rfl) ?_
    refine lv_iload hx hb dL_law_530 (lv_at hl 11 rfl) ?_
    refine cj_i (vx_runSW (As := [.ref (a 0), .int (zI sd)]) (rest := []) hF (c_L_pips l hst G (a 0) (a 1) (a 2) (a 5) (a 9) (a 11) (a 12) (a 14) (a 16) (a 24) (a 32) (a 34) (a 36) (g_ph σ1) (g_mv σ1) (g_sk σ1) (g_ho σ1) (g_lk σ1) (a 35) (g_bb σ1) sd  (by omega) (by omega) H.size) (vx_cwSW 2 hF.2.2.2.2 gL_law_L_pips rfl rfl rfl (by decide +kernel) ⟨Nat.le_of_ble_eq_true rfl, Nat.le_of_ble_eq_true rfl⟩) (z_preS hK hP hD hS hA hBd [0, 34, 35] rfl rfl [.ref (a 0), .int (zI sd)]) rfl rfl hl.1 rfl (lv_room (Nat.le_of_ble_eq_true rfl)) dL_law_532 (lx_fit (by omega) (by omega) hr)) hP hD hS hA [0, 34, 35] rfl (fun _ => Nat.le_of_ble_eq_true rfl) (fun r_13 u_12 H locs hw hP hD hS => ?_)
    have hP := wmixP [true, false, false, false, false, false, false, false, false, false, false, false, false, false, false, false, false, false, false, false, false, false, false, false, false, false, false, false, false, false, false, false, false, false, true, true] (by decide +kernel) hP
    have hD := wmixD [true, false, false, false, false, false, false, false, false, false, false, false, false, false, false, false, false, false, false, false, false, false, false, false, false, false, false, false, false, false, false, false, false, false, true, true] (by decide +kernel) hD
    obtain ⟨-, rfl⟩ := hw
    have hP : va_P G.1 vwCl (gW G a σ1) H := hP
    have hD : va_D A (gW G a σ1) := hD
    refine z_tz (b := pipB (g_bb σ1) sd) rfl ?_
    refine lv_istore (lv' := [(19, .int (zI (pipB (g_bb σ1) sd))), (18, .int (zI (g_cnt σ1))), (17, .int (zI (1 + u_7))), (16, .int (zI (1 + u_4))), (0, .ref b), (1, .ref (a 0)), (2, .int (zI all)), (3, .int (zI seats)), (5, .int (zI rec)), (6, .int (zI dz)), (13, .int (zI t)), (14, .int (zI (7 + 5 * t))), (15, .int (zI sd))]) hx hb dL_law_535 hl (by decide) rfl (fun ls hl => ?_)
    refine lv_aload_n hx hb dL_law_537 rfl (lv_at hl 5 rfl) ?_
    refine z_iconst hF dL_law_538 ?_
    refine lv_iload hx hb dL_law_539 (lv_at hl 12 rfl) ?_
    refine z_isub hF dL_law_541 ?_
    refine cj_i (vx_runSW (As := [.ref (a 0), .int (zI (1 - sd))]) (rest := []) hF (c_L_pips l hst G (a 0) (a 1) (a 2) (a 5) (a 9) (a 11) (a 12) (a 14) (a 16) (a 24) (a 32) (a 34) (a 36) (g_ph σ1) (g_mv σ1) (g_sk σ1) (g_ho σ1) (g_lk σ1) (a 35) (g_bb σ1) (1 - sd)  (by omega) (by omega) H.size) (vx_cwSW 2 hF.2.2.2.2 gL_law_L_pips rfl rfl rfl (by decide +kernel) ⟨Nat.le_of_ble_eq_true rfl, Nat.le_of_ble_eq_true rfl⟩) (z_preS hK hP hD hS hA hBd [0, 34, 35] rfl rfl [.ref (a 0), .int (zI (1 - sd))]) rfl rfl hl.1 rfl (lv_room (Nat.le_of_ble_eq_true rfl)) dL_law_542 (lx_fit (by omega) (by omega) hr)) hP hD hS hA [0, 34, 35] rfl (fun _ => Nat.le_of_ble_eq_true rfl) (fun r_15 u_14 H locs hw hP hD hS => ?_)
    have hP := wmixP [true, false, false, false, false, false, false, false, false, false, false, false, false, false, false, false, false, false, false, false, false, false, false, false, false, false, false, false, false, false, false, false, false, false, true, true] (by decide +kernel) hP
    have hD := wmixD [true, false, false, false, false, false, false, false, false, false, false, false, false, false, false, false, false, false, false, false, false, false, false, false, false, false, false, false, false, false, false, false, false, false, true, true] (by decide +kernel) hD
    obtain ⟨-, rfl⟩ := hw
    have hP : va_P G.1 vwCl (gW G a σ1) H := hP
    have hD : va_D A (gW G a σ1) := hD
    refine z_tz (b := pipB (g_bb σ1) (1 - sd)) rfl ?_
    refine lv_istore (lv' := [(20, .int (zI (pipB (g_bb σ1) (1 - sd)))), (19, .int (zI (pipB (g_bb σ1) sd))), (18, .int (zI (g_cnt σ1))), (17, .int (zI (1 + u_7))), (16, .int (zI (1 + u_4))), (0, .ref b), (1, .ref (a 0)), (2, .int (zI all)), (3, .int (zI seats)), (5, .int (zI rec)), (6, .int (zI dz)), (13, .int (zI t)), (14, .int (zI (7 + 5 * t))), (15, .int (zI sd))]) hx hb dL_law_545 hl (by decide) rfl (fun ls hl => ?_)
    refine lv_iload hx hb dL_law_547 (lv_at hl 2 rfl) ?_
    refine z_iconst hF dL_law_549 ?_
    refine z_icmp_lt (tgt := 584) hF dL_law_550 (by decide) (by omega) (by decide) (fun c_16 => ?_) (fun c_16 => ?_)
    · exfalso; omega
    · have hc_550 := c_16
      refine lv_aload_n hx hb dL_law_553 rfl (lv_at hl 6 rfl) ?_
      refine cj_i (vx_runSW (As := [.ref (a 0)]) (rest := []) hF (c_L_undo l hst G (a 0) (a 1) (a 2) (a 5) (a 9) (a 11) (a 12) (a 14) (a 16) (a 24) (a 32) (a 34) (a 36) (g_ph σ1) (g_mv σ1) (g_sk σ1) (g_ho σ1) (g_lk σ1) (g_dg σ1) (g_dl σ1) (g_gl σ1) (g_ll σ1) (g_us σ1) (a 33) (g_bs σ1) (a 35) (g_bb σ1)  (gI.ph hI2) (gR_dg9 hR2) (gR_dl9 hR2) hp2 H.size) (vx_cwSW 1 hF.2.2.2.2 gL_law_L_undo rfl rfl rfl (by decide +kernel) ⟨Nat.le_of_ble_eq_true rfl, Nat.le_of_ble_eq_true rfl⟩) (z_preS hK hP hD hS hA hBd [0, 11, 32, 33, 34, 35] rfl rfl [.ref (a 0)]) rfl rfl hl.1 rfl (lv_room (Nat.le_of_ble_eq_true rfl)) dL_law_554 (lx_fit (by omega) (by omega) hr)) hP hD hS hA [0, 11, 32, 33, 34, 35] rfl (fun _ => Nat.le_of_ble_eq_true rfl) (fun r_18 u_17 H locs hw hP hD hS => ?_)
      have hP := wmixP [true, false, false, false, false, false, false, false, false, false, false, true, false, false, false, false, false, false, false, false, false, false, false, false, false, false, false, false, false, false, false, false, true, true, true, true] (by decide +kernel) hP
      have hD := wmixD [true, false, false, false, false, false, false, false, false, false, false, true, false, false, false, false, false, false, false, false, false, false, false, false, false, false, false, false, false, false, false, false, true, true, true, true] (by decide +kernel) hD
      obtain ⟨-, rfl⟩ := hw
      have hP : va_P G.1 vwCl (gW G a (s_undo σ1)) H := hP
      have hD : va_D A (gW G a (s_undo σ1)) := hD
      obtain ⟨σ2, e9, hI3, hB3, hR3, hp3, hbb3, hgl3, hll3, hmv3, htu3, hbs3, hdg3, hdl3, hct3⟩ : ∃ q : gS, gW G a q = gW G a (s_undo σ1) ∧ gI all seats t (dz + 2) q ∧ gB all t q ∧ gR q ∧ g_ph q = g_ph σ1 ∧ g_bb q = g_bs q ∧ g_gl q = (if g_dg σ1 = g_dl σ1 then 4 else 1) ∧ g_ll q = (if g_dg σ1 = g_dl σ1 then 0 else 1) ∧ g_mv q = g_mv σ1 ∧ g_tu q = g_tu σ1 ∧ g_bs q = g_bs σ1 ∧ g_dg q = g_dg σ1 ∧ g_dl q = g_dl σ1 ∧ g_cnt q = g_cnt σ1 := ⟨s_undo σ1, rfl, tr_undo hI2 hB2 hR2⟩
      rw [← e9] at hP hD
      clear e9
      have hP : va_P G.1 vwCl (gW G a σ2) H := hP
      have hD : va_D A (gW G a σ2) := hD
      refine z_tz (b := 0) hus2 ?_
      refine z_if_ne (tgt := 584) hF dL_law_557 (by decide) (by decide) (fun c_19 => ?_) (fun c_19 => ?_)
      · exact absurd c_19 (by decide)
      · have hc_557 := c_19
        refine lv_aload_n hx hb dL_law_560 rfl (lv_at hl 6 rfl) ?_
        refine lv_aload_n hx hb dL_law_561 rfl (lv_at hl 6 rfl) ?_
        refine cj_i (vx_runSW (As := [.ref (a 0)]) (rest := [.ref (a 0)]) hF (c_L_best l hst G (a 0) (a 1) (a 2) (a 5) (a 9) (a 11) (a 12) (a 14) (a 16) (a 24) (a 32) (a 34) (a 36) (g_ph σ2) (g_mv σ2) (g_sk σ2) (g_ho σ2) (g_lk σ2) (a 17) (a 19) (a 20) (a 21) (a 22) (a 23) (g_sd0 σ2) (g_cnt σ2) (g_ln σ2) (g_gr σ2)  (gI.ph hI3) (by omega) H.size) (vx_cwSW 1 hF.2.2.2.2 gL_law_L_best rfl rfl rfl (by decide +kernel) ⟨Nat.le_of_ble_eq_true rfl, Nat.le_of_ble_eq_true rfl⟩) (z_preS hK hP hD hS hA hBd [0, 16] rfl rfl [.ref (a 0)]) rfl rfl hl.1 rfl (lv_room (Nat.le_of_ble_eq_true rfl)) dL_law_562 (lx_fit (by omega) (by omega) hr)) hP hD hS hA [0, 16] rfl (fun _ => Nat.le_of_ble_eq_true rfl) (fun r_21 u_20 H locs hw hP hD hS => ?_)
        have hP := wmixP [true, false, false, false, false, false, false, false, false, false, false, false, false, false, false, false, true] (by decide +kernel) hP
        have hD := wmixD [true, false, false, false, false, false, false, false, false, false, false, false, false, false, false, false, true] (by decide +kernel) hD
        obtain ⟨-, rfl⟩ := hw
        have hP : va_P G.1 vwCl (gW G a σ2) H := hP
        have hD : va_D A (gW G a σ2) := hD
        have hg9 := RepP_gr hR3.2.1
        refine cj_i (vx_runSW (As := [.ref (a 0), .int (zI (g_gr σ2))]) (rest := []) hF (c_L_error l hst G (a 0) (a 1) (a 2) (a 5) (a 9) (a 11) (a 12) (a 14) (a 16) (a 24) (a 32) (a 34) (a 36) (g_ph σ2) (g_mv σ2) (g_sk σ2) (g_ho σ2) (g_lk σ2) (a 17) (a 19) (a 20) (a 21) (a 22) (a 23) (g_fw σ2) (g_sd0 σ2) (g_cnt σ2) (g_ln σ2) (g_gr σ2) (g_gr σ2)  (gI.ph hI3) hI3.2.2.1.1 (gR_g9 hR3) (by omega) (by omega) (by omega) H.size) (vx_cwSW 2 hF.2.2.2.2 gL_law_L_error rfl rfl rfl (by decide +kernel) ⟨Nat.le_of_ble_eq_true rfl, Nat.le_of_ble_eq_true rfl⟩) (z_preS hK hP hD hS hA hBd [0, 16, 20] rfl rfl [.ref (a 0), .int (zI (g_gr σ2))]) rfl rfl hl.1 rfl (lv_room (Nat.le_of_ble_eq_true rfl)) dL_law_565 (lx_fit (by omega) (by omega) hr)) hP hD hS hA [0, 16, 20] rfl (fun _ => Nat.le_of_ble_eq_true rfl) (fun r_23 u_22 H locs hw hP hD hS => ?_)
        have hP := wmixP [true, false, false, false, false, false, false, false, false, false, false, false, false, false, false, false, true, false, false, false, true] (by decide +kernel) hP
        have hD := wmixD [true, false, false, false, false, false, false, false, false, false, false, false, false, false, false, false, true, false, false, false, true] (by decide +kernel) hD
        obtain ⟨-, -, rfl⟩ := hw
        have hP : va_P G.1 vwCl (gW G a σ2) H := hP
        have hD : va_D A (gW G a σ2) := hD
        refine z_tz (b := 0) (Int.sub_self _) ?_
        refine z_if_ne (tgt := 584) hF dL_law_568 (by decide) (by decide) (fun c_24 => ?_) (fun c_24 => ?_)
        · exact absurd c_24 (by decide)
        · have hc_568 := c_24
          refine lv_aload_n hx hb dL_law_571 rfl (lv_at hl 6 rfl) ?_
          refine lv_iload hx hb dL_law_572 (lv_at hl 2 rfl) ?_
          refine cj_l (vx_runSW (As := [.ref (a 0), .int (zI (g_cnt σ1))]) (rest := []) hF (c_L_deep l hst G (a 0) (a 1) (a 2) (a 5) (a 9) (a 11) (a 12) (a 14) (a 16) (a 24) (a 32) (a 34) (a 36) (g_ph σ2) (g_mv σ2) (g_sk σ2) (g_ho σ2) (g_lk σ2) (a 17) (a 19) (a 20) (a 21) (a 22) (a 23) (g_fr σ2) (g_fw σ2) (g_sd0 σ2) (g_cnt σ2) (g_ln σ2) (g_gr σ2) (a 25) (a 26) (a 27) (a 28) (a 29) (a 30) (a 31) (g_br σ2) (g_qr σ2) (g_qw σ2) (g_qc σ2) (g_qh σ2) (g_sr σ2) (g_crn σ2) (g_lrn σ2) (g_grn σ2) (a 33) (g_bs σ2) (a 37) (g_bc σ2) all (g_cnt σ1) ((plc (g_mv σ2) (g_bs σ2) (g_dg σ2) (g_dl σ2)).2)  (gI.ph hI3) (gI.mv hI3) (gI.all15 hI3) hB3.2.2.1.1 hI3.2.2.1.1 hR3.2.1 (gR_ls hI3 hB3 hR3) hI3.2.2.1.2.2.2.2.1 hI3.2.2.1.2.2.2.2.2.1 hI3.2.2.1.2.2.2.2.2.2 (by omega) (by omega) (by omega) H.size) (vx_cwSW 2 hF.2.2.2.2 gL_law_L_deep rfl rfl rfl (by decide +kernel) ⟨Nat.le_of_ble_eq_true rfl, Nat.le_of_ble_eq_true rfl⟩) (z_preS hK hP hD hS hA hBd [0, 16, 19, 20, 24, 25, 26, 27, 28, 29, 30, 31, 36, 37, 32, 33] rfl rfl [.ref (a 0), .int (zI (g_cnt σ1))]) rfl rfl hl.1 rfl (lv_room (Nat.le_of_ble_eq_true rfl)) dL_law_574 (lx_fit (by omega) (by omega) hr)) hP hD hS hA [0, 16, 19, 20, 24, 25, 26, 27, 28, 29, 30, 31, 36, 37, 32, 33] rfl (fun _ => Nat.le_of_ble_eq_true rfl) (fun r_26 u_25 H locs hw hP hD hS => ?_)
          obtain ⟨-, rfl⟩ := hw
          have hP : va_P G.1 vwCl (gW G a σ2) H := hP
          have hD : va_D A (gW G a σ2) := hD
          refine lv_ldc2 hx hb hF.2.2.2.1 kc_97 dL_law_577 ?_
          refine z_topl (y := zL (-2500000)) (by decide) ?_
          refine z_lcmpE hF rfl dL_law_580 ?_
          refine z_if_eq (tgt := 586) hF dL_law_581 (by decide) (by decide) (fun c_27 => ?_) (fun c_27 => ?_)
          · have hc_581 := c_27
            refine z_iinc (lv' := [(6, .int (zI (dz + 2))), (20, .int (zI (pipB (g_bb σ1) (1 - sd)))), (19, .int (zI (pipB (g_bb σ1) sd))), (18, .int (zI (g_cnt σ1))), (17, .int (zI (1 + u_7))), (16, .int (zI (1 + u_4))), (0, .ref b), (1, .ref (a 0)), (2, .int (zI all)), (3, .int (zI seats)), (5, .int (zI rec)), (13, .int (zI t)), (14, .int (zI (7 + 5 * t))), (15, .int (zI sd))]) hF dL_law_586 hl (k := 10) rfl (by decide) rfl (fun ls hl => ?_)
            refine lv_aload_n hx hb dL_law_589 rfl (lv_at hl 6 rfl) ?_
            refine lv_iload hx hb dL_law_590 (lv_at hl 12 rfl) ?_
            refine z_iconst hF dL_law_592 ?_
            refine z_iadd hF dL_law_593 ?_
            refine lv_iload hx hb dL_law_594 (lv_at hl 3 rfl) ?_
            refine cj0_i (va_runS (As := [.ref b, .int (zI ((7 + 5 * t) + 4)), .int (zI (g_cnt σ1))]) (rest := []) hF (c_L_some l G b Ln sx ((7 + 5 * t) + 4) (g_cnt σ1) (by omega) (by omega) (by omega) H.size) (va_cwS 3 hF.2.2.2.2 gL_law_L_some rfl rfl rfl (by decide +kernel) ⟨Nat.le_of_ble_eq_true rfl, Nat.le_of_ble_eq_true rfl⟩) (z_preSs hK hS hA hBd hX hbl hbA [.ref b, .int (zI ((7 + 5 * t) + 4)), .int (zI (g_cnt σ1))]) rfl rfl hl.1 rfl (lv_room (Nat.le_of_ble_eq_true rfl)) dL_law_596 (lx_fit (by omega) (by omega) hr)) hP hD hS hA (fun r_29 u_28 H locs hw hP hD hS => ?_)
            obtain ⟨hv_30, rfl⟩ := hw
            have hv_u_28 : 0 ≤ u_28 ∧ u_28 < (g_cnt σ1) := hv_30
            refine lv_istore (lv' := [(21, .int (zI u_28)), (6, .int (zI (dz + 2))), (20, .int (zI (pipB (g_bb σ1) (1 - sd)))), (19, .int (zI (pipB (g_bb σ1) sd))), (18, .int (zI (g_cnt σ1))), (17, .int (zI (1 + u_7))), (16, .int (zI (1 + u_4))), (0, .ref b), (1, .ref (a 0)), (2, .int (zI all)), (3, .int (zI seats)), (5, .int (zI rec)), (13, .int (zI t)), (14, .int (zI (7 + 5 * t))), (15, .int (zI sd))]) hx hb dL_law_599 hl (by decide) rfl (fun ls hl => ?_)
            refine lv_aload_n hx hb dL_law_601 rfl (lv_at hl 8 rfl) ?_
            refine lv_iload hx hb dL_law_602 (lv_at hl 0 rfl) ?_
            refine cj_i (vx_runSW (As := [.ref (a 0), .int (zI u_28)]) (rest := []) hF (c_L_moves l hst G (a 0) (a 1) (a 2) (a 5) (a 9) (a 11) (a 12) (a 14) (a 16) (a 24) (a 32) (a 34) (a 36) (g_ph σ2) (g_mv σ2) (g_sk σ2) (g_ho σ2) (g_lk σ2) (a 17) (a 19) (a 20) (a 21) (a 22) (a 23) (g_sd0 σ2) (g_cnt σ2) (g_ln σ2) (g_gr σ2) u_28  (gI.ph hI3) hI3.2.2.1.1 (by omega) (by omega) (by omega) H.size) (vx_cwSW 2 hF.2.2.2.2 gL_law_L_moves rfl rfl rfl (by decide +kernel) ⟨Nat.le_of_ble_eq_true rfl, Nat.le_of_ble_eq_true rfl⟩) (z_preS hK hP hD hS hA hBd [0, 16] rfl rfl [.ref (a 0), .int (zI u_28)]) rfl rfl hl.1 rfl (lv_room (Nat.le_of_ble_eq_true rfl)) dL_law_604 (lx_fit (by omega) (by omega) hr)) hP hD hS hA [0, 16] rfl (fun _ => Nat.le_of_ble_eq_true rfl) (fun r_32 u_31 H locs hw hP hD hS => ?_)
            have hP := wmixP [true, false, false, false, false, false, false, false, false, false, false, false, false, false, false, false, true] (by decide +kernel) hP
            have hD := wmixD [true, false, false, false, false, false, false, false, false, false, false, false, false, false, false, false, true] (by decide +kernel) hD
            obtain ⟨-, -, rfl⟩ := hw
            have hP : va_P G.1 vwCl (gW G a σ2) H := hP
            have hD : va_D A (gW G a σ2) := hD
            refine lv_istore (lv' := [(22, .int (zI (g_ln σ2))), (21, .int (zI u_28)), (6, .int (zI (dz + 2))), (20, .int (zI (pipB (g_bb σ1) (1 - sd)))), (19, .int (zI (pipB (g_bb σ1) sd))), (18, .int (zI (g_cnt σ1))), (17, .int (zI (1 + u_7))), (16, .int (zI (1 + u_4))), (0, .ref b), (1, .ref (a 0)), (2, .int (zI all)), (3, .int (zI seats)), (5, .int (zI rec)), (13, .int (zI t)), (14, .int (zI (7 + 5 * t))), (15, .int (zI sd))]) hx hb dL_law_607 hl (by decide) rfl (fun ls hl => ?_)
            refine z_iconst hF dL_law_609 ?_
            refine lv_istore (lv' := [(23, .int (zI 0)), (22, .int (zI (g_ln σ2))), (21, .int (zI u_28)), (6, .int (zI (dz + 2))), (20, .int (zI (pipB (g_bb σ1) (1 - sd)))), (19, .int (zI (pipB (g_bb σ1) sd))), (18, .int (zI (g_cnt σ1))), (17, .int (zI (1 + u_7))), (16, .int (zI (1 + u_4))), (0, .ref b), (1, .ref (a 0)), (2, .int (zI all)), (3, .int (zI seats)), (5, .int (zI rec)), (13, .int (zI t)), (14, .int (zI (7 + 5 * t))), (15, .int (zI sd))]) hx hb dL_law_610 hl (by decide) rfl (fun ls hl => ?_)
            refine z_iconst hF dL_law_612 ?_
            refine lv_istore (lv' := [(24, .int (zI 0)), (23, .int (zI 0)), (22, .int (zI (g_ln σ2))), (21, .int (zI u_28)), (6, .int (zI (dz + 2))), (20, .int (zI (pipB (g_bb σ1) (1 - sd)))), (19, .int (zI (pipB (g_bb σ1) sd))), (18, .int (zI (g_cnt σ1))), (17, .int (zI (1 + u_7))), (16, .int (zI (1 + u_4))), (0, .ref b), (1, .ref (a 0)), (2, .int (zI all)), (3, .int (zI seats)), (5, .int (zI rec)), (13, .int (zI t)), (14, .int (zI (7 + 5 * t))), (15, .int (zI sd))]) hx hb dL_law_613 hl (by decide) rfl (fun ls hl => ?_)
            refine z_iconst hF dL_law_615 ?_
            refine lv_istore (lv' := [(25, .int (zI 0)), (24, .int (zI 0)), (23, .int (zI 0)), (22, .int (zI (g_ln σ2))), (21, .int (zI u_28)), (6, .int (zI (dz + 2))), (20, .int (zI (pipB (g_bb σ1) (1 - sd)))), (19, .int (zI (pipB (g_bb σ1) sd))), (18, .int (zI (g_cnt σ1))), (17, .int (zI (1 + u_7))), (16, .int (zI (1 + u_4))), (0, .ref b), (1, .ref (a 0)), (2, .int (zI all)), (3, .int (zI seats)), (5, .int (zI rec)), (13, .int (zI t)), (14, .int (zI (7 + 5 * t))), (15, .int (zI sd))]) hx hb dL_law_616 hl (by decide) rfl (fun ls hl => ?_)
            have hP0 : pipB (g_bb σ1) sd = pipB (g_bb σ2) sd := by rw [hbb2, hbb, hbb3, hbs3, hbs2]
            have hP1 : pipB (g_bb σ1) (1 - sd) = pipB (g_bb σ2) (1 - sd) := by rw [hbb2, hbb, hbb3, hbs3, hbs2]
            refine W.widen (k := cells + 40) (n := slots + 240) (by omega) (by omega) ?_
            exact (kp.go K1) σ2 (1 + u_4) (1 + u_7) u_28 (g_ln σ2) (g_cnt σ2) (g_fr σ2) (pipB (g_bb σ1) sd) (pipB (g_bb σ1) (1 - sd)) hI3 hB3 hR3 (by omega) hbb3 (by rw [hgl3, hdg3, hdl3]) (by rw [hll3, hdg3, hdl3]) (by omega) (by omega) rfl rfl rfl hP0 hP1 (hdg3.trans hdg2) (hdl3.trans hdl2) (by omega) (by omega) (by omega) H locs ls hP hD hS (lv_sub hl [11, 12, 13, 14, 15, 5, 16, 18, 10, 9, 7, 6, 4, 3, 2, 1, 0] rfl)
          · exact absurd c_27 (by decide)

