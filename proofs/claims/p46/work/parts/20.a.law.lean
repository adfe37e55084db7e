set_option maxHeartbeats 4000000 in
set_option maxRecDepth 100000 in
theorem sg_1 {p : Program} {l : Launch} {e : Env} {s : State} {m : MethodId} {args : Array Value} {below : List Frame} {meth : Method} {c : Code} {G : wG} {A : Nat → Prop} {b Ln : Nat} {sx : Nat → Int32} {Q0 : State → Prop} {cells slots : Nat} {a : Nat → Nat} (hC : lwC6 p l s m args c G A b Ln sx) {all seats t dz rec : Int} {σ : gS} (hr : cells + 8 ≤ 600130 ∧ slots + 48 ≤ 7301080) (hI : gI all seats t dz σ) (ht : 0 ≤ t ∧ t < 30) (hP0 : g_ph σ = 45 ∨ (g_ph σ = 100 ∧ gB all t σ ∧ g_bb σ = g_bs σ ∧ rec = g_tu σ))
    (K1 : kp (∀ (σ : gS) (rec : Int), gI all seats t dz σ → gB all t σ → g_ph σ = 100 → g_bb σ = g_bs σ → rec = g_tu σ → ∀ (H : Heap) (locs : List Loc) (ls : Array Slot), va_P G.1 vwCl (gW G a σ) H → va_D A (gW G a σ) → va_S A s.heap H locs → lv_has ls 31 [(0, .ref b), (1, .ref (a 0)), (2, .int (zI all)), (3, .int (zI seats)), (5, .int (zI rec)), (6, .int (zI dz)), (13, .int (zI t)), (14, .int (zI (7 + 5 * t)))] → W p l e room_1 s m args below meth c H locs (cells + 8) (slots + 48) Q0 (F0 m 333 ls [])))
    {H : Heap} {locs : List Loc} {ls : Array Slot} (hP : va_P G.1 vwCl (gW G a σ) H) (hD : va_D A (gW G a σ)) (hS : va_S A s.heap H locs) (hl : lv_has ls 31 [(0, .ref b), (1, .ref (a 0)), (2, .int (zI all)), (3, .int (zI seats)), (5, .int (zI rec)), (6, .int (zI dz)), (13, .int (zI t))]) : W p l e room_1 s m args below meth c H locs cells slots Q0 (F0 m 263 ls []) := by
  obtain ⟨hF, hst, hK, hBd, hA, hX, hbl, hbA, hLn, hts⟩ := hC
  have hx := hF.1
  have hb := hF.2.1
  have kc_24 : (Cond.constant RL 24 (-1000000)).before args s = true := hts _ (by decide +kernel)
  refine z_bipush hF dL_law_263 (by decide) ?_
  refine z_iconst hF dL_law_265 ?_
  refine lv_iload hx hb dL_law_266 (lv_at hl 6 rfl) ?_
  refine z_imul hF dL_law_268 ?_
  refine z_iadd hF dL_law_269 ?_
  refine z_tz (b := (7 + 5 * t)) rfl ?_
  refine lv_istore (lv' := [(14, .int (zI (7 + 5 * t))), (0, .ref b), (1, .ref (a 0)), (2, .int (zI all)), (3, .int (zI seats)), (5, .int (zI rec)), (6, .int (zI dz)), (13, .int (zI t))]) hx hb dL_law_270 hl (by decide) rfl (fun ls hl => ?_)
  have hph9 := hI.ph
  refine lv_aload_n hx hb dL_law_272 rfl (lv_at hl 2 rfl) ?_
  refine cj_i (va_runV (As := []) (rest := []) hF (c_X9_state l G (a 0) (a 1) (a 2) (a 5) (a 9) (a 11) (a 12) (a 14) (a 16) (a 24) (a 32) (a 34) (a 36) (g_ph σ) (g_mv σ) (g_sk σ) (g_ho σ) (g_lk σ)  (gI.ph hI) H.size) (cwV 0 hF.2.2.2.2 gL_law_X9_state rfl rfl rfl (by decide +kernel) ⟨Nat.le_of_ble_eq_true rfl, Nat.le_of_ble_eq_true rfl⟩) (z_preV hK hP hD hS hA hBd [0] rfl rfl rfl rfl []) rfl rfl hl.1 rfl (lv_room (Nat.le_of_ble_eq_true rfl)) dL_law_273 (lx_fit (by omega) (by omega) hr)) hP hD hS hA [0] rfl (fun _ => Nat.le_of_ble_eq_true rfl) (fun r_2 u_1 H locs hw hP hD hS => ?_)
  have hP := wmixP [true] (by decide +kernel) hP
  have hD := wmixD [true] (by decide +kernel) hD
  obtain rfl := hw
  have hP : va_P G.1 vwCl (gW G a σ) H := hP
  have hD : va_D A (gW G a σ) := hD
  refine z_bipush hF dL_law_276 (by decide) ?_
  refine z_icmp_ne (tgt := 333) hF dL_law_278 (by decide) (by omega) (by decide) (fun c_3 => ?_) (fun c_3 => ?_)
  · have hc_278 := c_3
    have hB9 : gB all t σ ∧ g_bb σ = g_bs σ ∧ rec = g_tu σ := by
      rcases hP0 with h9 | h9
      · exact absurd h9 c_3
      · exact h9.2
    refine W.widen (k := cells + 8) (n := slots + 48) (by omega) (by omega) ?_
    exact (kp.go K1) σ rec hI hB9.1 (by omega) hB9.2.1 hB9.2.2 H locs ls hP hD hS (lv_sub hl [1, 2, 3, 4, 5, 6, 7, 0] rfl)
  · have hc_278 := c_3
    have hph : g_ph σ = 45 := by omega
    refine lv_aload_n hx hb dL_law_281 rfl (lv_at hl 2 rfl) ?_
    refine lv_aload_n hx hb dL_law_282 rfl (lv_at hl 1 rfl) ?_
    refine lv_iload hx hb dL_law_283 (lv_at hl 0 rfl) ?_
    refine z_iconst hF dL_law_285 ?_
    refine cj0_i (va_runS (As := [.ref b, .int (zI (7 + 5 * t)), .int (zI 2)]) (rest := [.ref (a 0)]) hF (c_L_some l G b Ln sx (7 + 5 * t) 2 (by omega) (by omega) (by omega) H.size) (va_cwS 3 hF.2.2.2.2 gL_law_L_some rfl rfl rfl (by decide +kernel) ⟨Nat.le_of_ble_eq_true rfl, Nat.le_of_ble_eq_true rfl⟩) (z_preSs hK hS hA hBd hX hbl hbA [.ref b, .int (zI (7 + 5 * t)), .int (zI 2)]) rfl rfl hl.1 rfl (lv_room (Nat.le_of_ble_eq_true rfl)) dL_law_286 (lx_fit (by omega) (by omega) hr)) hP hD hS hA (fun r_5 u_4 H locs hw hP hD hS => ?_)
    obtain ⟨hv_6, rfl⟩ := hw
    have hv_u_4 : 0 ≤ u_4 ∧ u_4 < 2 := hv_6
    refine cj_i (vx_runSW (As := [.ref (a 0), .int (zI u_4)]) (rest := []) hF (c_L_begin l hst G (a 0) (a 1) (a 2) (a 5) (a 9) (a 11) (a 12) (a 14) (a 16) (a 24) (a 32) (a 34) (a 36) (g_ph σ) (g_mv σ) (g_sk σ) (g_ho σ) (g_lk σ) (g_op σ) (g_va σ) (g_le σ) (g_ja σ) (g_cr σ) (g_p0 σ) (g_p1 σ) (a 6) (a 7) (a 8) (g_fd σ) (g_fn σ) (g_fr0 σ) (g_tu σ) (g_hv σ) (g_fi σ) (a 33) (g_bs σ) (a 35) (g_bb σ) u_4  (gI.ph hI) (Or.inr (gI.op hI)) (gI_le9 hI) (gI_p09 hI) (gI_p19 hI) (gI_cr9 hI) (gI_va9 hI) (by omega) (by omega) ⟨hph, by have := hI.op; omega, by have := hI.le; omega⟩ (by have := hI.cr; omega) H.size) (vx_cwSW 2 hF.2.2.2.2 gL_law_L_begin rfl rfl rfl (by decide +kernel) ⟨Nat.le_of_ble_eq_true rfl, Nat.le_of_ble_eq_true rfl⟩) (z_preS hK hP hD hS hA hBd [0, 1, 5, 6, 7, 8, 32, 33, 34, 35] rfl rfl [.ref (a 0), .int (zI u_4)]) rfl rfl hl.1 rfl (lv_room (Nat.le_of_ble_eq_true rfl)) dL_law_289 (lx_fit (by omega) (by omega) hr)) hP hD hS hA [0, 1, 5, 6, 7, 8, 32, 33, 34, 35] rfl (fun _ => Nat.le_of_ble_eq_true rfl) (fun r_8 u_7 H locs hw hP hD hS => ?_)
    have hP := wmixP [true, true, false, false, false, true, true, true, true, false, false, false, false, false, false, false, false, false, false, false, false, false, false, false, false, false, false, false, false, false, false, false, true, true, true, true] (by decide +kernel) hP
    have hD := wmixD [true, true, false, false, false, true, true, true, true, false, false, false, false, false, false, false, false, false, false, false, false, false, false, false, false, false, false, false, false, false, false, false, true, true, true, true] (by decide +kernel) hD
    obtain ⟨-, -, rfl⟩ := hw
    have hP : va_P G.1 vwCl (gW G a (s_begin σ u_4)) H := hP
    have hD : va_D A (gW G a (s_begin σ u_4)) := hD
    obtain ⟨σ1, e9, hI2, hB2, hp2, hbb2, htu2, hsk2, hho2⟩ : ∃ q : gS, gW G a q = gW G a (s_begin σ u_4) ∧ gI all seats t dz q ∧ gB all t q ∧ g_ph q = 100 ∧ g_bb q = g_bs q ∧ g_tu q = 0 ∧ g_sk q = 1 ∧ g_ho q = -1 := ⟨s_begin σ u_4, rfl, tr_begin hI (by omega)⟩
    rw [← e9] at hP hD
    clear e9
    have hP : va_P G.1 vwCl (gW G a σ1) H := hP
    have hD : va_D A (gW G a σ1) := hD
    refine z_if_ne (tgt := 328) hF dL_law_292 (by decide) (by decide) (fun c_9 => ?_) (fun c_9 => ?_)
    · exact absurd c_9 (by decide)
    · have hc_292 := c_9
      refine lv_aload_n hx hb dL_law_295 rfl (lv_at hl 2 rfl) ?_
      refine z_iconst hF dL_law_296 ?_
      refine cj_i (vx_runSW (As := [.ref (a 0), .int (zI 0)]) (rest := []) hF (c_L_beginS l hst G (a 0) (a 1) (a 2) (a 5) (a 9) (a 11) (a 12) (a 14) (a 16) (a 24) (a 32) (a 34) (a 36) (g_ph σ1) (g_mv σ1) (g_sk σ1) (g_ho σ1) (g_lk σ1) (g_op σ1) (g_va σ1) (g_le σ1) (g_ja σ1) (g_cr σ1) (g_p0 σ1) (g_p1 σ1) (a 6) (a 7) (a 8) (g_fd σ1) (g_fn σ1) (g_fr0 σ1) (g_tu σ1) (g_hv σ1) (g_fi σ1) (a 33) (g_bs σ1) (a 35) (g_bb σ1) 0  (gI.ph hI2) (Or.inr (gI.op hI2)) (gI_le9 hI2) (gI_p09 hI2) (gI_p19 hI2) (gI_cr9 hI2) (gI_va9 hI2) (by decide) (by decide) (by omega) H.size) (vx_cwSW 2 hF.2.2.2.2 gL_law_L_begin rfl rfl rfl (by decide +kernel) ⟨Nat.le_of_ble_eq_true rfl, Nat.le_of_ble_eq_true rfl⟩) (z_preS hK hP hD hS hA hBd [0, 1, 5, 6, 7, 8, 32, 33, 34, 35] rfl rfl [.ref (a 0), .int (zI 0)]) rfl rfl hl.1 rfl (lv_room (Nat.le_of_ble_eq_true rfl)) dL_law_297 (lx_fit (by omega) (by omega) hr)) hP hD hS hA [0, 1, 5, 6, 7, 8, 32, 33, 34, 35] rfl (fun _ => Nat.le_of_ble_eq_true rfl) (fun r_11 u_10 H locs hw hP hD hS => ?_)
      have hP := wmixP [true, true, false, false, false, true, true, true, true, false, false, false, false, false, false, false, false, false, false, false, false, false, false, false, false, false, false, false, false, false, false, false, true, true, true, true] (by decide +kernel) hP
      have hD := wmixD [true, true, false, false, false, true, true, true, true, false, false, false, false, false, false, false, false, false, false, false, false, false, false, false, false, false, false, false, false, false, false, false, true, true, true, true] (by decide +kernel) hD
      obtain ⟨-, rfl⟩ := hw
      have hP : va_P G.1 vwCl (gW G a σ1) H := hP
      have hD : va_D A (gW G a σ1) := hD
      refine lv_ldc hx hb hF.2.2.2.1 kc_24 dL_law_300 ?_
      refine z_top (y := zI (-1000000)) (by decide) ?_
      refine z_icmp_ne (tgt := 328) hF dL_law_302 (by decide) (by decide) (by decide) (fun c_12 => ?_) (fun c_12 => ?_)
      · exact absurd c_12 (by decide)
      · have hc_302 := c_12
        refine lv_aload_n hx hb dL_law_305 rfl (lv_at hl 2 rfl) ?_
        refine cj_i (va_runV (As := []) (rest := []) hF (c_X9_cube l G (a 0) (a 1) (a 2) (a 5) (a 9) (a 11) (a 12) (a 14) (a 16) (a 24) (a 32) (a 34) (a 36) (g_ph σ1) (g_mv σ1) (g_sk σ1) (g_ho σ1) (g_lk σ1)   H.size) (cwV 0 hF.2.2.2.2 gL_law_X9_cube rfl rfl rfl (by decide +kernel) ⟨Nat.le_of_ble_eq_true rfl, Nat.le_of_ble_eq_true rfl⟩) (z_preV hK hP hD hS hA hBd [0] rfl rfl rfl rfl []) rfl rfl hl.1 rfl (lv_room (Nat.le_of_ble_eq_true rfl)) dL_law_306 (lx_fit (by omega) (by omega) hr)) hP hD hS hA [0] rfl (fun _ => Nat.le_of_ble_eq_true rfl) (fun r_14 u_13 H locs hw hP hD hS => ?_)
        have hP := wmixP [true] (by decide +kernel) hP
        have hD := wmixD [true] (by decide +kernel) hD
        obtain rfl := hw
        have hP : va_P G.1 vwCl (gW G a σ1) H := hP
        have hD : va_D A (gW G a σ1) := hD
        refine z_tz (b := 1) hsk2 ?_
        refine z_iconst hF dL_law_309 ?_
        refine z_icmp_ne (tgt := 328) hF dL_law_310 (by decide) (by decide) (by decide) (fun c_15 => ?_) (fun c_15 => ?_)
        · exact absurd c_15 (by decide)
        · have hc_310 := c_15
          refine lv_aload_n hx hb dL_law_313 rfl (lv_at hl 2 rfl) ?_
          refine cj_i (va_runV (As := []) (rest := []) hF (c_X9_owner l G (a 0) (a 1) (a 2) (a 5) (a 9) (a 11) (a 12) (a 14) (a 16) (a 24) (a 32) (a 34) (a 36) (g_ph σ1) (g_mv σ1) (g_sk σ1) (g_ho σ1) (g_lk σ1)   H.size) (cwV 0 hF.2.2.2.2 gL_law_X9_owner rfl rfl rfl (by decide +kernel) ⟨Nat.le_of_ble_eq_true rfl, Nat.le_of_ble_eq_true rfl⟩) (z_preV hK hP hD hS hA hBd [0] rfl rfl rfl rfl []) rfl rfl hl.1 rfl (lv_room (Nat.le_of_ble_eq_true rfl)) dL_law_314 (lx_fit (by omega) (by omega) hr)) hP hD hS hA [0] rfl (fun _ => Nat.le_of_ble_eq_true rfl) (fun r_17 u_16 H locs hw hP hD hS => ?_)
          have hP := wmixP [true] (by decide +kernel) hP
          have hD := wmixD [true] (by decide +kernel) hD
          obtain rfl := hw
          have hP : va_P G.1 vwCl (gW G a σ1) H := hP
          have hD : va_D A (gW G a σ1) := hD
          refine z_tz (b := -1) hho2 ?_
          refine z_iconst hF dL_law_317 ?_
          refine z_icmp_ne (tgt := 328) hF dL_law_318 (by decide) (by decide) (by decide) (fun c_18 => ?_) (fun c_18 => ?_)
          · exact absurd c_18 (by decide)
          · have hc_318 := c_18
            refine lv_aload_n hx hb dL_law_321 rfl (lv_at hl 2 rfl) ?_
            refine cj_i (va_runV (As := []) (rest := []) hF (c_X9_played l G (a 0) (a 1) (a 2) (a 5) (a 9) (a 11) (a 12) (a 14) (a 16) (a 24) (a 32) (a 34) (a 36) (g_ph σ1) (g_mv σ1) (g_sk σ1) (g_ho σ1) (g_lk σ1) (a 6) (a 7) (a 8) (g_fd σ1) (g_fn σ1) (g_fr0 σ1) (g_tu σ1) (g_hv σ1) (g_fi σ1)   H.size) (cwV 0 hF.2.2.2.2 gL_law_X9_played rfl rfl rfl (by decide +kernel) ⟨Nat.le_of_ble_eq_true rfl, Nat.le_of_ble_eq_true rfl⟩) (z_preV hK hP hD hS hA hBd [0, 5, 6, 7, 8] rfl rfl rfl rfl []) rfl rfl hl.1 rfl (lv_room (Nat.le_of_ble_eq_true rfl)) dL_law_322 (lx_fit (by omega) (by omega) hr)) hP hD hS hA [0, 5, 6, 7, 8] rfl (fun _ => Nat.le_of_ble_eq_true rfl) (fun r_20 u_19 H locs hw hP hD hS => ?_)
            have hP := wmixP [true, false, false, false, false, true, true, true, true] (by decide +kernel) hP
            have hD := wmixD [true, false, false, false, false, true, true, true, true] (by decide +kernel) hD
            obtain rfl := hw
            have hP : va_P G.1 vwCl (gW G a σ1) H := hP
            have hD : va_D A (gW G a σ1) := hD
            refine z_tz (b := 0) htu2 ?_
            refine z_if_eq (tgt := 330) hF dL_law_325 (by decide) (by decide) (fun c_21 => ?_) (fun c_21 => ?_)
            · have hc_325 := c_21
              refine z_iconst hF dL_law_330 ?_
              refine lv_istore (lv' := [(5, .int (zI 0)), (14, .int (zI (7 + 5 * t))), (0, .ref b), (1, .ref (a 0)), (2, .int (zI all)), (3, .int (zI seats)), (6, .int (zI dz)), (13, .int (zI t))]) hx hb dL_law_331 hl (by decide) rfl (fun ls hl => ?_)
              refine W.widen (k := cells + 8) (n := slots + 48) (by omega) (by omega) ?_
              exact (kp.go K1) σ1 0 hI2 hB2 hp2 hbb2 htu2.symm H locs ls hP hD hS (lv_sub hl [2, 3, 4, 5, 0, 6, 7, 1] rfl)
            · exact absurd c_21 (by decide)

set_option maxHeartbeats 4000000 in
set_option maxRecDepth 100000 in
theorem sg_2 {p : Program} {l : Launch} {e : Env} {s : State} {m : MethodId} {args : Array Value} {below : List Frame} {meth : Method} {c : Code} {G : wG} {A : Nat → Prop} {b Ln : Nat} {sx : Nat → Int32} {Q0 : State → Prop} {cells slots : Nat} {a : Nat → Nat} (hC : lwC6 p l s m args c G A b Ln sx) {all seats t dz rec : Int} {σ : gS} (hr : cells + 20 ≤ 600130 ∧ slots + 120 ≤ 7301080) (hI : gI all seats t dz σ) (hB : gB all t σ) (hph : g_ph σ = 100) (hbb : g_bb σ = g_bs σ) (hrec : rec = g_tu σ) (ht : 0 ≤ t ∧ t < 30)
    (K1 : kp (∀ (sd : Int), sd = g_mv σ → ∀ (H : Heap) (locs : List Loc) (ls : Array Slot), va_P G.1 vwCl (gW G a σ) H → va_D A (gW G a σ) → va_S A s.heap H locs → lv_has ls 31 [(0, .ref b), (1, .ref (a 0)), (2, .int (zI all)), (3, .int (zI seats)), (5, .int (zI rec)), (6, .int (zI dz)), (13, .int (zI t)), (14, .int (zI (7 + 5 * t))), (15, .int (zI sd))] → W p l e room_1 s m args below meth c H locs (cells + 20) (slots + 120) Q0 (F0 m 482 ls [])))
    (K2 : kp (∀ (σ : gS) (rec : Int), gI all seats (t + 1) dz σ → gB all (t + 1) σ → g_bb σ = g_bs σ → (g_ph σ = 45 ∨ (g_ph σ = 100 ∧ rec = g_tu σ)) → ∀ (H : Heap) (locs : List Loc) (ls : Array Slot), va_P G.1 vwCl (gW G a σ) H → va_D A (gW G a σ) → va_S A s.heap H locs → lv_has ls 31 [(0, .ref b), (1, .ref (a 0)), (2, .int (zI all)), (3, .int (zI seats)), (5, .int (zI rec)), (6, .int (zI dz)), (13, .int (zI t))] → W p l e room_1 s m args below meth c H locs (cells + 20) (slots + 120) Q0 (F0 m 1074 ls [])))
    {H : Heap} {locs : List Loc} {ls : Array Slot} (hP : va_P G.1 vwCl (gW G a σ) H) (hD : va_D A (gW G a σ)) (hS : va_S A s.heap H locs) (hl : lv_has ls 31 [(0, .ref b), (1, .ref (a 0)), (2, .int (zI all)), (3, .int (zI seats)), (5, .int (zI rec)), (6, .int (zI dz)), (13, .int (zI t)), (14, .int (zI (7 + 5 * t)))]) : W p l e room_1 s m args below meth c H locs cells slots Q0 (F0 m 333 ls []) := by
  obtain ⟨hF, hst, hK, hBd, hA, hX, hbl, hbA, hLn, hts⟩ := hC
  have hx := hF.1
  have hb := hF.2.1
  have hmv := hI.mv
  have hsk := hI.sk
  have kc_63 : (Cond.constant RL 63 (-1500000)).before args s = true := hts _ (by decide +kernel)
  refine lv_aload_n hx hb dL_law_333 rfl (lv_at hl 1 rfl) ?_
  refine cj_i (vx_runSW (As := [.ref (a 0)]) (rest := []) hF (c_L_turn l hst G (a 0) (a 1) (a 2) (a 5) (a 9) (a 11) (a 12) (a 14) (a 16) (a 24) (a 32) (a 34) (a 36) (g_ph σ) (g_mv σ) (g_sk σ) (g_ho σ) (g_lk σ)  (gI.ph hI) (by omega) H.size) (vx_cwSW 1 hF.2.2.2.2 gL_law_L_turn rfl rfl rfl (by decide +kernel) ⟨Nat.le_of_ble_eq_true rfl, Nat.le_of_ble_eq_true rfl⟩) (z_preS hK hP hD hS hA hBd [0] rfl rfl [.ref (a 0)]) rfl rfl hl.1 rfl (lv_room (Nat.le_of_ble_eq_true rfl)) dL_law_334 (lx_fit (by omega) (by omega) hr)) hP hD hS hA [0] rfl (fun _ => Nat.le_of_ble_eq_true rfl) (fun r_2 u_1 H locs hw hP hD hS => ?_)
  have hP := wmixP [true] (by decide +kernel) hP
  have hD := wmixD [true] (by decide +kernel) hD
  obtain ⟨-, rfl⟩ := hw
  have hP : va_P G.1 vwCl (gW G a σ) H := hP
  have hD : va_D A (gW G a σ) := hD
  refine z_tz (b := g_mv σ) (if_neg (by omega)) ?_
  refine lv_istore (lv' := [(15, .int (zI (g_mv σ))), (0, .ref b), (1, .ref (a 0)), (2, .int (zI all)), (3, .int (zI seats)), (5, .int (zI rec)), (6, .int (zI dz)), (13, .int (zI t)), (14, .int (zI (7 + 5 * t)))]) hx hb dL_law_337 hl (by decide) rfl (fun ls hl => ?_)
  refine lv_aload_n hx hb dL_law_339 rfl (lv_at hl 1 rfl) ?_
  refine lv_iload hx hb dL_law_340 (lv_at hl 8 rfl) ?_
  refine z_iconst hF dL_law_342 ?_
  refine z_iadd hF dL_law_343 ?_
  refine z_iconst hF dL_law_344 ?_
  refine cj0_i (va_runS (As := [.ref b, .int (zI ((7 + 5 * t) + 1)), .int (zI 5)]) (rest := []) hF (c_L_some l G b Ln sx ((7 + 5 * t) + 1) 5 (by omega) (by omega) (by omega) H.size) (va_cwS 3 hF.2.2.2.2 gL_law_L_some rfl rfl rfl (by decide +kernel) ⟨Nat.le_of_ble_eq_true rfl, Nat.le_of_ble_eq_true rfl⟩) (z_preSs hK hS hA hBd hX hbl hbA [.ref b, .int (zI ((7 + 5 * t) + 1)), .int (zI 5)]) rfl rfl hl.1 rfl (lv_room (Nat.le_of_ble_eq_true rfl)) dL_law_345 (lx_fit (by omega) (by omega) hr)) hP hD hS hA (fun r_4 u_3 H locs hw hP hD hS => ?_)
  obtain ⟨hv_5, rfl⟩ := hw
  have hv_u_3 : 0 ≤ u_3 ∧ u_3 < 5 := hv_5
  refine z_if_ne (tgt := 482) hF dL_law_348 (by decide) (by omega) (fun c_6 => ?_) (fun c_6 => ?_)
  · have hc_348 := c_6
    refine W.widen (k := cells + 20) (n := slots + 120) (by omega) (by omega) ?_
    exact (kp.go K1) (g_mv σ) rfl H locs ls hP hD hS (lv_sub hl [1, 2, 3, 4, 5, 6, 7, 8, 0] rfl)
  · have hc_348 := c_6
    refine lv_aload_n hx hb dL_law_351 rfl (lv_at hl 2 rfl) ?_
    refine cj_i (vx_runSW (As := [.ref (a 0)]) (rest := []) hF (c_L_offer l hst G (a 0) (a 1) (a 2) (a 5) (a 9) (a 11) (a 12) (a 14) (a 16) (a 24) (a 32) (a 34) (a 36) (g_ph σ) (g_mv σ) (g_sk σ) (g_ho σ) (g_lk σ) (g_op σ) (g_va σ) (g_le σ) (g_ja σ) (g_cr σ) (g_p0 σ) (g_p1 σ)  (gI.ph hI) (gI.mv hI) (gI.sk hI) (gI.ho hI) (gI_cr9 hI) (by omega) H.size) (vx_cwSW 1 hF.2.2.2.2 gL_law_L_offer rfl rfl rfl (by decide +kernel) ⟨Nat.le_of_ble_eq_true rfl, Nat.le_of_ble_eq_true rfl⟩) (z_preS hK hP hD hS hA hBd [0, 1] rfl rfl [.ref (a 0)]) rfl rfl hl.1 rfl (lv_room (Nat.le_of_ble_eq_true rfl)) dL_law_352 (lx_fit (by omega) (by omega) hr)) hP hD hS hA [0, 1] rfl (fun _ => Nat.le_of_ble_eq_true rfl) (fun r_8 u_7 H locs hw hP hD hS => ?_)
    have hP := wmixP [true, true] (by decide +kernel) hP
    have hD := wmixD [true, true] (by decide +kernel) hD
    rcases hw with ⟨rfl, hq1, hq2, hq3, hq4, rfl⟩ | ⟨rfl, hq1, rfl⟩
    · skip
      have hP : va_P G.1 vwCl (gW G a (s_offer σ)) H := hP
      have hD : va_D A (gW G a (s_offer σ)) := hD
      obtain ⟨σ1, e9, hI2, hB2, hp2, hm2, hs2, h32, hbs2, hbt2, htu2⟩ : ∃ q : gS, gW G a q = gW G a (s_offer σ) ∧ gI all seats t dz q ∧ gB all t q ∧ g_ph q = 116 ∧ g_mv q = g_mv σ ∧ g_sk q = g_sk σ ∧ g_sk σ ≤ 32 ∧ g_bb q = g_bb σ ∧ g_bs q = g_bs σ ∧ g_tu q = g_tu σ := ⟨s_offer σ, rfl, tr_offer hI hB hph hq2⟩
      rw [← e9] at hP hD
      clear e9
      have hP : va_P G.1 vwCl (gW G a σ1) H := hP
      have hD : va_D A (gW G a σ1) := hD
      refine z_if_le (tgt := 482) hF dL_law_355 (by decide) (by omega) (fun c_9 => ?_) (fun c_9 => ?_)
      · exfalso; omega
      · have hc_355 := c_9
        refine lv_aload_n hx hb dL_law_358 rfl (lv_at hl 2 rfl) ?_
        refine cj_i (va_runV (As := []) (rest := []) hF (c_X9_cube l G (a 0) (a 1) (a 2) (a 5) (a 9) (a 11) (a 12) (a 14) (a 16) (a 24) (a 32) (a 34) (a 36) (g_ph σ1) (g_mv σ1) (g_sk σ1) (g_ho σ1) (g_lk σ1)   H.size) (cwV 0 hF.2.2.2.2 gL_law_X9_cube rfl rfl rfl (by decide +kernel) ⟨Nat.le_of_ble_eq_true rfl, Nat.le_of_ble_eq_true rfl⟩) (z_preV hK hP hD hS hA hBd [0] rfl rfl rfl rfl []) rfl rfl hl.1 rfl (lv_room (Nat.le_of_ble_eq_true rfl)) dL_law_359 (lx_fit (by omega) (by omega) hr)) hP hD hS hA [0] rfl (fun _ => Nat.le_of_ble_eq_true rfl) (fun r_11 u_10 H locs hw hP hD hS => ?_)
        have hP := wmixP [true] (by decide +kernel) hP
        have hD := wmixD [true] (by decide +kernel) hD
        obtain rfl := hw
        have hP : va_P G.1 vwCl (gW G a σ1) H := hP
        have hD : va_D A (gW G a σ1) := hD
        rw [hs2]
        refine lv_istore (lv' := [(16, .int (zI (g_sk σ))), (15, .int (zI (g_mv σ))), (0, .ref b), (1, .ref (a 0)), (2, .int (zI all)), (3, .int (zI seats)), (5, .int (zI rec)), (6, .int (zI dz)), (13, .int (zI t)), (14, .int (zI (7 + 5 * t)))]) hx hb dL_law_362 hl (by decide) rfl (fun ls hl => ?_)
        refine lv_aload_n hx hb dL_law_364 rfl (lv_at hl 2 rfl) ?_
        refine lv_iload hx hb dL_law_365 (lv_at hl 9 rfl) ?_
        refine z_iconst hF dL_law_367 ?_
        refine z_iadd hF dL_law_368 ?_
        refine z_iconst hF dL_law_369 ?_
        refine cj0_i (va_runS (As := [.ref b, .int (zI ((7 + 5 * t) + 2)), .int (zI 3)]) (rest := []) hF (c_L_some l G b Ln sx ((7 + 5 * t) + 2) 3 (by omega) (by omega) (by omega) H.size) (va_cwS 3 hF.2.2.2.2 gL_law_L_some rfl rfl rfl (by decide +kernel) ⟨Nat.le_of_ble_eq_true rfl, Nat.le_of_ble_eq_true rfl⟩) (z_preSs hK hS hA hBd hX hbl hbA [.ref b, .int (zI ((7 + 5 * t) + 2)), .int (zI 3)]) rfl rfl hl.1 rfl (lv_room (Nat.le_of_ble_eq_true rfl)) dL_law_370 (lx_fit (by omega) (by omega) hr)) hP hD hS hA (fun r_13 u_12 H locs hw hP hD hS => ?_)
        obtain ⟨hv_14, rfl⟩ := hw
        have hv_u_12 : 0 ≤ u_12 ∧ u_12 < 3 := hv_14
        refine z_if_ne (tgt := 383) hF dL_law_373 (by decide) (by omega) (fun c_15 => ?_) (fun c_15 => ?_)
        · have hc_373 := c_15
          refine lv_aload_n hx hb dL_law_383 rfl (lv_at hl 2 rfl) ?_
          refine lv_iload hx hb dL_law_384 (lv_at hl 9 rfl) ?_
          refine z_iconst hF dL_law_386 ?_
          refine z_iadd hF dL_law_387 ?_
          refine z_iconst hF dL_law_388 ?_
          refine cj0_i (va_runS (As := [.ref b, .int (zI ((7 + 5 * t) + 2)), .int (zI 3)]) (rest := []) hF (c_L_some l G b Ln sx ((7 + 5 * t) + 2) 3 (by omega) (by omega) (by omega) H.size) (va_cwS 3 hF.2.2.2.2 gL_law_L_some rfl rfl rfl (by decide +kernel) ⟨Nat.le_of_ble_eq_true rfl, Nat.le_of_ble_eq_true rfl⟩) (z_preSs hK hS hA hBd hX hbl hbA [.ref b, .int (zI ((7 + 5 * t) + 2)), .int (zI 3)]) rfl rfl hl.1 rfl (lv_room (Nat.le_of_ble_eq_true rfl)) dL_law_389 (lx_fit (by omega) (by omega) hr)) hP hD hS hA (fun r_17 u_16 H locs hw hP hD hS => ?_)
          obtain ⟨hv_18, rfl⟩ := hw
          have hv_u_16 : 0 ≤ u_16 ∧ u_16 < 3 := hv_18
          refine z_iconst hF dL_law_392 ?_
          refine z_icmp_ne (tgt := 403) hF dL_law_393 (by decide) (by omega) (by decide) (fun c_19 => ?_) (fun c_19 => ?_)
          · have hc_393 := c_19
            refine lv_aload_n hx hb dL_law_403 rfl (lv_at hl 3 rfl) ?_
            refine cj_i (vx_runSW (As := [.ref (a 0)]) (rest := []) hF (c_L_take l hst G (a 0) (a 1) (a 2) (a 5) (a 9) (a 11) (a 12) (a 14) (a 16) (a 24) (a 32) (a 34) (a 36) (g_ph σ1) (g_mv σ1) (g_sk σ1) (g_ho σ1) (g_lk σ1)  (gI.ph hI2) (by omega) H.size) (vx_cwSW 1 hF.2.2.2.2 gL_law_L_take rfl rfl rfl (by decide +kernel) ⟨Nat.le_of_ble_eq_true rfl, Nat.le_of_ble_eq_true rfl⟩) (z_preS hK hP hD hS hA hBd [0] rfl rfl [.ref (a 0)]) rfl rfl hl.1 rfl (lv_room (Nat.le_of_ble_eq_true rfl)) dL_law_404 (lx_fit (by omega) (by omega) hr)) hP hD hS hA [0] rfl (fun _ => Nat.le_of_ble_eq_true rfl) (fun r_21 u_20 H locs hw hP hD hS => ?_)
            have hP := wmixP [true] (by decide +kernel) hP
            have hD := wmixD [true] (by decide +kernel) hD
            obtain ⟨-, rfl⟩ := hw
            have hP : va_P G.1 vwCl (gW G a (s_cube σ1 2)) H := hP
            have hD : va_D A (gW G a (s_cube σ1 2)) := hD
            obtain ⟨σ2, e9, hI3, hB3, hp3, hm3, hs3, ho3, hbb3, hbs3, htu3⟩ : ∃ q : gS, gW G a q = gW G a (s_cube σ1 2) ∧ gI all seats t dz q ∧ gB all t q ∧ g_ph q = 100 ∧ g_mv q = g_mv σ1 ∧ g_sk q = 2 * g_sk σ1 ∧ g_ho q = 1 - g_mv σ1 ∧ g_bb q = g_bb σ1 ∧ g_bs q = g_bs σ1 ∧ g_tu q = g_tu σ1 := ⟨s_cube σ1 2, rfl, tr_cube hI2 hB2 hp2 (Or.inl rfl)⟩
            rw [← e9] at hP hD
            clear e9
            have hP : va_P G.1 vwCl (gW G a σ2) H := hP
            have hD : va_D A (gW G a σ2) := hD
            rw [hs2]
            refine lv_istore (lv' := [(17, .int (zI (2 * g_sk σ))), (16, .int (zI (g_sk σ))), (15, .int (zI (g_mv σ))), (0, .ref b), (1, .ref (a 0)), (2, .int (zI all)), (3, .int (zI seats)), (5, .int (zI rec)), (6, .int (zI dz)), (13, .int (zI t)), (14, .int (zI (7 + 5 * t)))]) hx hb dL_law_407 hl (by decide) rfl (fun ls hl => ?_)
            refine lv_iload hx hb dL_law_409 (lv_at hl 0 rfl) ?_
            refine lv_ldc hx hb hF.2.2.2.1 kc_63 dL_law_411 ?_
            refine z_top (y := zI (-1500000)) (by decide) ?_
            refine z_icmp_ne (tgt := 422) hF dL_law_413 (by decide) (by omega) (by decide) (fun c_22 => ?_) (fun c_22 => ?_)
            · have hc_413 := c_22
              refine lv_aload_n hx hb dL_law_422 rfl (lv_at hl 4 rfl) ?_
              refine cj_i (va_runV (As := []) (rest := []) hF (c_X9_state l G (a 0) (a 1) (a 2) (a 5) (a 9) (a 11) (a 12) (a 14) (a 16) (a 24) (a 32) (a 34) (a 36) (g_ph σ2) (g_mv σ2) (g_sk σ2) (g_ho σ2) (g_lk σ2)  (gI.ph hI3) H.size) (cwV 0 hF.2.2.2.2 gL_law_X9_state rfl rfl rfl (by decide +kernel) ⟨Nat.le_of_ble_eq_true rfl, Nat.le_of_ble_eq_true rfl⟩) (z_preV hK hP hD hS hA hBd [0] rfl rfl rfl rfl []) rfl rfl hl.1 rfl (lv_room (Nat.le_of_ble_eq_true rfl)) dL_law_423 (lx_fit (by omega) (by omega) hr)) hP hD hS hA [0] rfl (fun _ => Nat.le_of_ble_eq_true rfl) (fun r_24 u_23 H locs hw hP hD hS => ?_)
              have hP := wmixP [true] (by decide +kernel) hP
              have hD := wmixD [true] (by decide +kernel) hD
              obtain rfl := hw
              have hP : va_P G.1 vwCl (gW G a σ2) H := hP
              have hD : va_D A (gW G a σ2) := hD
              refine z_bipush hF dL_law_426 (by decide) ?_
              refine z_icmp_ne (tgt := 441) hF dL_law_428 (by decide) (by omega) (by decide) (fun c_25 => ?_) (fun c_25 => ?_)
              · have hc_428 := c_25
                refine lv_iload hx hb dL_law_441 (lv_at hl 0 rfl) ?_
                refine lv_aload_n hx hb dL_law_443 rfl (lv_at hl 4 rfl) ?_
                refine cj_i (va_runV (As := []) (rest := [.int (zI (2 * g_sk σ))]) hF (c_X9_cube l G (a 0) (a 1) (a 2) (a 5) (a 9) (a 11) (a 12) (a 14) (a 16) (a 24) (a 32) (a 34) (a 36) (g_ph σ2) (g_mv σ2) (g_sk σ2) (g_ho σ2) (g_lk σ2)   H.size) (cwV 0 hF.2.2.2.2 gL_law_X9_cube rfl rfl rfl (by decide +kernel) ⟨Nat.le_of_ble_eq_true rfl, Nat.le_of_ble_eq_true rfl⟩) (z_preV hK hP hD hS hA hBd [0] rfl rfl rfl rfl []) rfl rfl hl.1 rfl (lv_room (Nat.le_of_ble_eq_true rfl)) dL_law_444 (lx_fit (by omega) (by omega) hr)) hP hD hS hA [0] rfl (fun _ => Nat.le_of_ble_eq_true rfl) (fun r_27 u_26 H locs hw hP hD hS => ?_)
                have hP := wmixP [true] (by decide +kernel) hP
                have hD := wmixD [true] (by decide +kernel) hD
                obtain rfl := hw
                have hP : va_P G.1 vwCl (gW G a σ2) H := hP
                have hD : va_D A (gW G a σ2) := hD
                refine z_icmp_ne (tgt := 477) hF dL_law_447 (by decide) (by omega) (by omega) (fun c_28 => ?_) (fun c_28 => ?_)
                · exfalso; omega
                · have hc_447 := c_28
                  refine lv_iload hx hb dL_law_450 (lv_at hl 0 rfl) ?_
                  refine lv_iload hx hb dL_law_452 (lv_at hl 1 rfl) ?_
                  refine z_icmp_le (tgt := 477) hF dL_law_454 (by decide) (by omega) (by omega) (fun c_29 => ?_) (fun c_29 => ?_)
                  · exfalso; omega
                  · have hc_454 := c_29
                    refine lv_aload_n hx hb dL_law_457 rfl (lv_at hl 4 rfl) ?_
                    refine cj_i (va_runV (As := []) (rest := []) hF (c_X9_owner l G (a 0) (a 1) (a 2) (a 5) (a 9) (a 11) (a 12) (a 14) (a 16) (a 24) (a 32) (a 34) (a 36) (g_ph σ2) (g_mv σ2) (g_sk σ2) (g_ho σ2) (g_lk σ2)   H.size) (cwV 0 hF.2.2.2.2 gL_law_X9_owner rfl rfl rfl (by decide +kernel) ⟨Nat.le_of_ble_eq_true rfl, Nat.le_of_ble_eq_true rfl⟩) (z_preV hK hP hD hS hA hBd [0] rfl rfl rfl rfl []) rfl rfl hl.1 rfl (lv_room (Nat.le_of_ble_eq_true rfl)) dL_law_458 (lx_fit (by omega) (by omega) hr)) hP hD hS hA [0] rfl (fun _ => Nat.le_of_ble_eq_true rfl) (fun r_31 u_30 H locs hw hP hD hS => ?_)
                    have hP := wmixP [true] (by decide +kernel) hP
                    have hD := wmixD [true] (by decide +kernel) hD
                    obtain rfl := hw
                    have hP : va_P G.1 vwCl (gW G a σ2) H := hP
                    have hD : va_D A (gW G a σ2) := hD
                    refine z_iconst hF dL_law_461 ?_
                    refine lv_iload hx hb dL_law_462 (lv_at hl 2 rfl) ?_
                    refine z_isub hF dL_law_464 ?_
                    refine z_icmp_ne (tgt := 477) hF dL_law_465 (by decide) (by omega) (by omega) (fun c_32 => ?_) (fun c_32 => ?_)
                    · exfalso; omega
                    · have hc_465 := c_32
                      refine lv_aload_n hx hb dL_law_468 rfl (lv_at hl 4 rfl) ?_
                      refine cj_i (vx_runSW (As := [.ref (a 0)]) (rest := []) hF (c_L_turn l hst G (a 0) (a 1) (a 2) (a 5) (a 9) (a 11) (a 12) (a 14) (a 16) (a 24) (a 32) (a 34) (a 36) (g_ph σ2) (g_mv σ2) (g_sk σ2) (g_ho σ2) (g_lk σ2)  (gI.ph hI3) (by omega) H.size) (vx_cwSW 1 hF.2.2.2.2 gL_law_L_turn rfl rfl rfl (by decide +kernel) ⟨Nat.le_of_ble_eq_true rfl, Nat.le_of_ble_eq_true rfl⟩) (z_preS hK hP hD hS hA hBd [0] rfl rfl [.ref (a 0)]) rfl rfl hl.1 rfl (lv_room (Nat.le_of_ble_eq_true rfl)) dL_law_469 (lx_fit (by omega) (by omega) hr)) hP hD hS hA [0] rfl (fun _ => Nat.le_of_ble_eq_true rfl) (fun r_34 u_33 H locs hw hP hD hS => ?_)
                      have hP := wmixP [true] (by decide +kernel) hP
                      have hD := wmixD [true] (by decide +kernel) hD
                      obtain ⟨-, rfl⟩ := hw
                      have hP : va_P G.1 vwCl (gW G a σ2) H := hP
                      have hD : va_D A (gW G a σ2) := hD
                      refine z_tz (b := g_mv σ2) (if_neg (by omega)) ?_
                      refine lv_iload hx hb dL_law_472 (lv_at hl 2 rfl) ?_
                      refine z_icmp_eq (tgt := 479) hF dL_law_474 (by decide) (by omega) (by omega) (fun c_35 => ?_) (fun c_35 => ?_)
                      · have hc_474 := c_35
                        refine z_goto (tgt := 1074) hF dL_law_479 (by decide) ?_
                        refine W.widen (k := cells + 20) (n := slots + 120) (by omega) (by omega) ?_
                        exact (kp.go K2) σ2 rec (tr_more hI3 (by omega)) (tr_moreB hB3) (by rw [hbb3, hbs3, hbs2, hbt2]; exact hbb) (Or.inr ⟨hp3, by omega⟩) H locs ls hP hD hS (lv_sub hl [3, 4, 5, 6, 7, 8, 9] rfl)
                      · exfalso; omega
              · exfalso; omega
            · exfalso; omega
          · have hc_393 := c_19
            refine lv_aload_n hx hb dL_law_396 rfl (lv_at hl 3 rfl) ?_
            refine cj_i (vx_runSW (As := [.ref (a 0)]) (rest := []) hF (c_L_beaver l hst G (a 0) (a 1) (a 2) (a 5) (a 9) (a 11) (a 12) (a 14) (a 16) (a 24) (a 32) (a 34) (a 36) (g_ph σ1) (g_mv σ1) (g_sk σ1) (g_ho σ1) (g_lk σ1) (g_op σ1) (g_va σ1) (g_le σ1) (g_ja σ1) (g_cr σ1) (g_p0 σ1) (g_p1 σ1)  (gI.ph hI2) (gI.sk hI2) (gI_op9 hI2) (gI_le9 hI2) (by omega) H.size) (vx_cwSW 1 hF.2.2.2.2 gL_law_L_beaver rfl rfl rfl (by decide +kernel) ⟨Nat.le_of_ble_eq_true rfl, Nat.le_of_ble_eq_true rfl⟩) (z_preS hK hP hD hS hA hBd [0, 1] rfl rfl [.ref (a 0)]) rfl rfl hl.1 rfl (lv_room (Nat.le_of_ble_eq_true rfl)) dL_law_397 (lx_fit (by omega) (by omega) hr)) hP hD hS hA [0, 1] rfl (fun _ => Nat.le_of_ble_eq_true rfl) (fun r_37 u_36 H locs hw hP hD hS => ?_)
            have hP := wmixP [true, true] (by decide +kernel) hP
            have hD := wmixD [true, true] (by decide +kernel) hD
            rcases hw with ⟨rfl, hq1, hq2, hq3, rfl⟩ | ⟨rfl, hq1, rfl⟩
            · skip
              have hP : va_P G.1 vwCl (gW G a (s_cube σ1 4)) H := hP
              have hD : va_D A (gW G a (s_cube σ1 4)) := hD
              obtain ⟨σ3, e9, hI3, hB3, hp3, hm3, hs3, ho3, hbb3, hbs3, htu3⟩ : ∃ q : gS, gW G a q = gW G a (s_cube σ1 4) ∧ gI all seats t dz q ∧ gB all t q ∧ g_ph q = 100 ∧ g_mv q = g_mv σ1 ∧ g_sk q = 4 * g_sk σ1 ∧ g_ho q = 1 - g_mv σ1 ∧ g_bb q = g_bb σ1 ∧ g_bs q = g_bs σ1 ∧ g_tu q = g_tu σ1 := ⟨s_cube σ1 4, rfl, tr_cube hI2 hB2 hp2 (Or.inr ⟨rfl, hq3⟩)⟩
              rw [← e9] at hP hD
              clear e9
              have hP : va_P G.1 vwCl (gW G a σ3) H := hP
              have hD : va_D A (gW G a σ3) := hD
              rw [hs2]
              refine z_goto (tgt := 407) hF dL_law_400 (by decide) ?_
              refine lv_istore (lv' := [(17, .int (zI (4 * g_sk σ))), (16, .int (zI (g_sk σ))), (15, .int (zI (g_mv σ))), (0, .ref b), (1, .ref (a 0)), (2, .int (zI all)), (3, .int (zI seats)), (5, .int (zI rec)), (6, .int (zI dz)), (13, .int (zI t)), (14, .int (zI (7 + 5 * t)))]) hx hb dL_law_407 hl (by decide) rfl (fun ls hl => ?_)
              refine lv_iload hx hb dL_law_409 (lv_at hl 0 rfl) ?_
              refine lv_ldc hx hb hF.2.2.2.1 kc_63 dL_law_411 ?_
              refine z_top (y := zI (-1500000)) (by decide) ?_
              refine z_icmp_ne (tgt := 422) hF dL_law_413 (by decide) (by omega) (by decide) (fun c_38 => ?_) (fun c_38 => ?_)
              · have hc_413 := c_38
                refine lv_aload_n hx hb dL_law_422 rfl (lv_at hl 4 rfl) ?_
                refine cj_i (va_runV (As := []) (rest := []) hF (c_X9_state l G (a 0) (a 1) (a 2) (a 5) (a 9) (a 11) (a 12) (a 14) (a 16) (a 24) (a 32) (a 34) (a 36) (g_ph σ3) (g_mv σ3) (g_sk σ3) (g_ho σ3) (g_lk σ3)  (gI.ph hI3) H.size) (cwV 0 hF.2.2.2.2 gL_law_X9_state rfl rfl rfl (by decide +kernel) ⟨Nat.le_of_ble_eq_true rfl, Nat.le_of_ble_eq_true rfl⟩) (z_preV hK hP hD hS hA hBd [0] rfl rfl rfl rfl []) rfl rfl hl.1 rfl (lv_room (Nat.le_of_ble_eq_true rfl)) dL_law_423 (lx_fit (by omega) (by omega) hr)) hP hD hS hA [0] rfl (fun _ => Nat.le_of_ble_eq_true rfl) (fun r_40 u_39 H locs hw hP hD hS => ?_)
                have hP := wmixP [true] (by decide +kernel) hP
                have hD := wmixD [true] (by decide +kernel) hD
                obtain rfl := hw
                have hP : va_P G.1 vwCl (gW G a σ3) H := hP
                have hD : va_D A (gW G a σ3) := hD
                refine z_bipush hF dL_law_426 (by decide) ?_
                refine z_icmp_ne (tgt := 441) hF dL_law_428 (by decide) (by omega) (by decide) (fun c_41 => ?_) (fun c_41 => ?_)
                · have hc_428 := c_41
                  refine lv_iload hx hb dL_law_441 (lv_at hl 0 rfl) ?_
                  refine lv_aload_n hx hb dL_law_443 rfl (lv_at hl 4 rfl) ?_
                  refine cj_i (va_runV (As := []) (rest := [.int (zI (4 * g_sk σ))]) hF (c_X9_cube l G (a 0) (a 1) (a 2) (a 5) (a 9) (a 11) (a 12) (a 14) (a 16) (a 24) (a 32) (a 34) (a 36) (g_ph σ3) (g_mv σ3) (g_sk σ3) (g_ho σ3) (g_lk σ3)   H.size) (cwV 0 hF.2.2.2.2 gL_law_X9_cube rfl rfl rfl (by decide +kernel) ⟨Nat.le_of_ble_eq_true rfl, Nat.le_of_ble_eq_true rfl⟩) (z_preV hK hP hD hS hA hBd [0] rfl rfl rfl rfl []) rfl rfl hl.1 rfl (lv_room (Nat.le_of_ble_eq_true rfl)) dL_law_444 (lx_fit (by omega) (by omega) hr)) hP hD hS hA [0] rfl (fun _ => Nat.le_of_ble_eq_true rfl) (fun r_43 u_42 H locs hw hP hD hS => ?_)
                  have hP := wmixP [true] (by decide +kernel) hP
                  have hD := wmixD [true] (by decide +kernel) hD
                  obtain rfl := hw
                  have hP : va_P G.1 vwCl (gW G a σ3) H := hP
                  have hD : va_D A (gW G a σ3) := hD
                  refine z_icmp_ne (tgt := 477) hF dL_law_447 (by decide) (by omega) (by omega) (fun c_44 => ?_) (fun c_44 => ?_)
                  · exfalso; omega
                  · have hc_447 := c_44
                    refine lv_iload hx hb dL_law_450 (lv_at hl 0 rfl) ?_
                    refine lv_iload hx hb dL_law_452 (lv_at hl 1 rfl) ?_
                    refine z_icmp_le (tgt := 477) hF dL_law_454 (by decide) (by omega) (by omega) (fun c_45 => ?_) (fun c_45 => ?_)
                    · exfalso; omega
                    · have hc_454 := c_45
                      refine lv_aload_n hx hb dL_law_457 rfl (lv_at hl 4 rfl) ?_
                      refine cj_i (va_runV (As := []) (rest := []) hF (c_X9_owner l G (a 0) (a 1) (a 2) (a 5) (a 9) (a 11) (a 12) (a 14) (a 16) (a 24) (a 32) (a 34) (a 36) (g_ph σ3) (g_mv σ3) (g_sk σ3) (g_ho σ3) (g_lk σ3)   H.size) (cwV 0 hF.2.2.2.2 gL_law_X9_owner rfl rfl rfl (by decide +kernel) ⟨Nat.le_of_ble_eq_true rfl, Nat.le_of_ble_eq_true rfl⟩) (z_preV hK hP hD hS hA hBd [0] rfl rfl rfl rfl []) rfl rfl hl.1 rfl (lv_room (Nat.le_of_ble_eq_true rfl)) dL_law_458 (lx_fit (by omega) (by omega) hr)) hP hD hS hA [0] rfl (fun _ => Nat.le_of_ble_eq_true rfl) (fun r_47 u_46 H locs hw hP hD hS => ?_)
                      have hP := wmixP [true] (by decide +kernel) hP
                      have hD := wmixD [true] (by decide +kernel) hD
                      obtain rfl := hw
                      have hP : va_P G.1 vwCl (gW G a σ3) H := hP
                      have hD : va_D A (gW G a σ3) := hD
                      refine z_iconst hF dL_law_461 ?_
                      refine lv_iload hx hb dL_law_462 (lv_at hl 2 rfl) ?_
                      refine z_isub hF dL_law_464 ?_
                      refine z_icmp_ne (tgt := 477) hF dL_law_465 (by decide) (by omega) (by omega) (fun c_48 => ?_) (fun c_48 => ?_)
                      · exfalso; omega
                      · have hc_465 := c_48
                        refine lv_aload_n hx hb dL_law_468 rfl (lv_at hl 4 rfl) ?_
                        refine cj_i (vx_runSW (As := [.ref (a 0)]) (rest := []) hF (c_L_turn l hst G (a 0) (a 1) (a 2) (a 5) (a 9) (a 11) (a 12) (a 14) (a 16) (a 24) (a 32) (a 34) (a 36) (g_ph σ3) (g_mv σ3) (g_sk σ3) (g_ho σ3) (g_lk σ3)  (gI.ph hI3) (by omega) H.size) (vx_cwSW 1 hF.2.2.2.2 gL_law_L_turn rfl rfl rfl (by decide +kernel) ⟨Nat.le_of_ble_eq_true rfl, Nat.le_of_ble_eq_true rfl⟩) (z_preS hK hP hD hS hA hBd [0] rfl rfl [.ref (a 0)]) rfl rfl hl.1 rfl (lv_room (Nat.le_of_ble_eq_true rfl)) dL_law_469 (lx_fit (by omega) (by omega) hr)) hP hD hS hA [0] rfl (fun _ => Nat.le_of_ble_eq_true rfl) (fun r_50 u_49 H locs hw hP hD hS => ?_)
                        have hP := wmixP [true] (by decide +kernel) hP
                        have hD := wmixD [true] (by decide +kernel) hD
                        obtain ⟨-, rfl⟩ := hw
                        have hP : va_P G.1 vwCl (gW G a σ3) H := hP
                        have hD : va_D A (gW G a σ3) := hD
                        refine z_tz (b := g_mv σ3) (if_neg (by omega)) ?_
                        refine lv_iload hx hb dL_law_472 (lv_at hl 2 rfl) ?_
                        refine z_icmp_eq (tgt := 479) hF dL_law_474 (by decide) (by omega) (by omega) (fun c_51 => ?_) (fun c_51 => ?_)
                        · have hc_474 := c_51
                          refine z_goto (tgt := 1074) hF dL_law_479 (by decide) ?_
                          refine W.widen (k := cells + 20) (n := slots + 120) (by omega) (by omega) ?_
                          exact (kp.go K2) σ3 rec (tr_more hI3 (by omega)) (tr_moreB hB3) (by rw [hbb3, hbs3, hbs2, hbt2]; exact hbb) (Or.inr ⟨hp3, by omega⟩) H locs ls hP hD hS (lv_sub hl [3, 4, 5, 6, 7, 8, 9] rfl)
                        · exfalso; omega
                · exfalso; omega
              · exfalso; omega
            · skip
              have hP : va_P G.1 vwCl (gW G a σ1) H := hP
              have hD : va_D A (gW G a σ1) := hD
              refine z_goto (tgt := 407) hF dL_law_400 (by decide) ?_
              refine lv_istore (lv' := [(17, .int (zI (-1500000))), (16, .int (zI (g_sk σ))), (15, .int (zI (g_mv σ))), (0, .ref b), (1, .ref (a 0)), (2, .int (zI all)), (3, .int (zI seats)), (5, .int (zI rec)), (6, .int (zI dz)), (13, .int (zI t)), (14, .int (zI (7 + 5 * t)))]) hx hb dL_law_407 hl (by decide) rfl (fun ls hl => ?_)
              refine lv_iload hx hb dL_law_409 (lv_at hl 0 rfl) ?_
              refine lv_ldc hx hb hF.2.2.2.1 kc_63 dL_law_411 ?_
              refine z_top (y := zI (-1500000)) (by decide) ?_
              refine z_icmp_ne (tgt := 422) hF dL_law_413 (by decide) (by decide) (by decide) (fun c_52 => ?_) (fun c_52 => ?_)
              · exact absurd c_52 (by decide)
              · have hc_413 := c_52
                refine lv_aload_n hx hb dL_law_416 rfl (lv_at hl 4 rfl) ?_
                refine cj_i (vx_runSW (As := [.ref (a 0)]) (rest := []) hF (c_L_take l hst G (a 0) (a 1) (a 2) (a 5) (a 9) (a 11) (a 12) (a 14) (a 16) (a 24) (a 32) (a 34) (a 36) (g_ph σ1) (g_mv σ1) (g_sk σ1) (g_ho σ1) (g_lk σ1)  (gI.ph hI2) (by omega) H.size) (vx_cwSW 1 hF.2.2.2.2 gL_law_L_take rfl rfl rfl (by decide +kernel) ⟨Nat.le_of_ble_eq_true rfl, Nat.le_of_ble_eq_true rfl⟩) (z_preS hK hP hD hS hA hBd [0] rfl rfl [.ref (a 0)]) rfl rfl hl.1 rfl (lv_room (Nat.le_of_ble_eq_true rfl)) dL_law_417 (lx_fit (by omega) (by omega) hr)) hP hD hS hA [0] rfl (fun _ => Nat.le_of_ble_eq_true rfl) (fun r_54 u_53 H locs hw hP hD hS => ?_)
                have hP := wmixP [true] (by decide +kernel) hP
                have hD := wmixD [true] (by decide +kernel) hD
                obtain ⟨-, rfl⟩ := hw
                have hP : va_P G.1 vwCl (gW G a (s_cube σ1 2)) H := hP
                have hD : va_D A (gW G a (s_cube σ1 2)) := hD
                obtain ⟨σ4, e9, hI3, hB3, hp3, hm3, hs3, ho3, hbb3, hbs3, htu3⟩ : ∃ q : gS, gW G a q = gW G a (s_cube σ1 2) ∧ gI all seats t dz q ∧ gB all t q ∧ g_ph q = 100 ∧ g_mv q = g_mv σ1 ∧ g_sk q = 2 * g_sk σ1 ∧ g_ho q = 1 - g_mv σ1 ∧ g_bb q = g_bb σ1 ∧ g_bs q = g_bs σ1 ∧ g_tu q = g_tu σ1 := ⟨s_cube σ1 2, rfl, tr_cube hI2 hB2 hp2 (Or.inl rfl)⟩
                rw [← e9] at hP hD
                clear e9
                have hP : va_P G.1 vwCl (gW G a σ4) H := hP
                have hD : va_D A (gW G a σ4) := hD
                rw [hs2]
                refine lv_istore (lv' := [(17, .int (zI (2 * g_sk σ))), (16, .int (zI (g_sk σ))), (15, .int (zI (g_mv σ))), (0, .ref b), (1, .ref (a 0)), (2, .int (zI all)), (3, .int (zI seats)), (5, .int (zI rec)), (6, .int (zI dz)), (13, .int (zI t)), (14, .int (zI (7 + 5 * t)))]) hx hb dL_law_420 hl (by decide) rfl (fun ls hl => ?_)
                refine lv_aload_n hx hb dL_law_422 rfl (lv_at hl 4 rfl) ?_
                refine cj_i (va_runV (As := []) (rest := []) hF (c_X9_state l G (a 0) (a 1) (a 2) (a 5) (a 9) (a 11) (a 12) (a 14) (a 16) (a 24) (a 32) (a 34) (a 36) (g_ph σ4) (g_mv σ4) (g_sk σ4) (g_ho σ4) (g_lk σ4)  (gI.ph hI3) H.size) (cwV 0 hF.2.2.2.2 gL_law_X9_state rfl rfl rfl (by decide +kernel) ⟨Nat.le_of_ble_eq_true rfl, Nat.le_of_ble_eq_true rfl⟩) (z_preV hK hP hD hS hA hBd [0] rfl rfl rfl rfl []) rfl rfl hl.1 rfl (lv_room (Nat.le_of_ble_eq_true rfl)) dL_law_423 (lx_fit (by omega) (by omega) hr)) hP hD hS hA [0] rfl (fun _ => Nat.le_of_ble_eq_true rfl) (fun r_56 u_55 H locs hw hP hD hS => ?_)
                have hP := wmixP [true] (by decide +kernel) hP
                have hD := wmixD [true] (by decide +kernel) hD
                obtain rfl := hw
                have hP : va_P G.1 vwCl (gW G a σ4) H := hP
                have hD : va_D A (gW G a σ4) := hD
                refine z_bipush hF dL_law_426 (by decide) ?_
                refine z_icmp_ne (tgt := 441) hF dL_law_428 (by decide) (by omega) (by decide) (fun c_57 => ?_) (fun c_57 => ?_)
                · have hc_428 := c_57
                  refine lv_iload hx hb dL_law_441 (lv_at hl 0 rfl) ?_
                  refine lv_aload_n hx hb dL_law_443 rfl (lv_at hl 4 rfl) ?_
                  refine cj_i (va_runV (As := []) (rest := [.int (zI (2 * g_sk σ))]) hF (c_X9_cube l G (a 0) (a 1) (a 2) (a 5) (a 9) (a 11) (a 12) (a 14) (a 16) (a 24) (a 32) (a 34) (a 36) (g_ph σ4) (g_mv σ4) (g_sk σ4) (g_ho σ4) (g_lk σ4)   H.size) (cwV 0 hF.2.2.2.2 gL_law_X9_cube rfl rfl rfl (by decide +kernel) ⟨Nat.le_of_ble_eq_true rfl, Nat.le_of_ble_eq_true rfl⟩) (z_preV hK hP hD hS hA hBd [0] rfl rfl rfl rfl []) rfl rfl hl.1 rfl (lv_room (Nat.le_of_ble_eq_true rfl)) dL_law_444 (lx_fit (by omega) (by omega) hr)) hP hD hS hA [0] rfl (fun _ => Nat.le_of_ble_eq_true rfl) (fun r_59 u_58 H locs hw hP hD hS => ?_)
                  have hP := wmixP [true] (by decide +kernel) hP
                  have hD := wmixD [true] (by decide +kernel) hD
                  obtain rfl := hw
                  have hP : va_P G.1 vwCl (gW G a σ4) H := hP
                  have hD : va_D A (gW G a σ4) := hD
                  refine z_icmp_ne (tgt := 477) hF dL_law_447 (by decide) (by omega) (by omega) (fun c_60 => ?_) (fun c_60 => ?_)
                  · exfalso; omega
                  · have hc_447 := c_60
                    refine lv_iload hx hb dL_law_450 (lv_at hl 0 rfl) ?_
                    refine lv_iload hx hb dL_law_452 (lv_at hl 1 rfl) ?_
                    refine z_icmp_le (tgt := 477) hF dL_law_454 (by decide) (by omega) (by omega) (fun c_61 => ?_) (fun c_61 => ?_)
                    · exfalso; omega
                    · have hc_454 := c_61
                      refine lv_aload_n hx hb dL_law_457 rfl (lv_at hl 4 rfl) ?_
                      refine cj_i (va_runV (As := []) (rest := []) hF (c_X9_owner l G (a 0) (a 1) (a 2) (a 5) (a 9) (a 11) (a 12) (a 14) (a 16) (a 24) (a 32) (a 34) (a 36) (g_ph σ4) (g_mv σ4) (g_sk σ4) (g_ho σ4) (g_lk σ4)   H.size) (cwV 0 hF.2.2.2.2 gL_law_X9_owner rfl rfl rfl (by decide +kernel) ⟨Nat.le_of_ble_eq_true rfl, Nat.le_of_ble_eq_true rfl⟩) (z_preV hK hP hD hS hA hBd [0] rfl rfl rfl rfl []) rfl rfl hl.1 rfl (lv_room (Nat.le_of_ble_eq_true rfl)) dL_law_458 (lx_fit (by omega) (by omega) hr)) hP hD hS hA [0] rfl (fun _ => Nat.le_of_ble_eq_true rfl) (fun r_63 u_62 H locs hw hP hD hS => ?_)
                      have hP := wmixP [true] (by decide +kernel) hP
                      have hD := wmixD [true] (by decide +kernel) hD
                      obtain rfl := hw
                      have hP : va_P G.1 vwCl (gW G a σ4) H := hP
                      have hD : va_D A (gW G a σ4) := hD
                      refine z_iconst hF dL_law_461 ?_
                      refine lv_iload hx hb dL_law_462 (lv_at hl 2 rfl) ?_
                      refine z_isub hF dL_law_464 ?_
                      refine z_icmp_ne (tgt := 477) hF dL_law_465 (by decide) (by omega) (by omega) (fun c_64 => ?_) (fun c_64 => ?_)
                      · exfalso; omega
                      · have hc_465 := c_64
                        refine lv_aload_n hx hb dL_law_468 rfl (lv_at hl 4 rfl) ?_
                        refine cj_i (vx_runSW (As := [.ref (a 0)]) (rest := []) hF (c_L_turn l hst G (a 0) (a 1) (a 2) (a 5) (a 9) (a 11) (a 12) (a 14) (a 16) (a 24) (a 32) (a 34) (a 36) (g_ph σ4) (g_mv σ4) (g_sk σ4) (g_ho σ4) (g_lk σ4)  (gI.ph hI3) (by omega) H.size) (vx_cwSW 1 hF.2.2.2.2 gL_law_L_turn rfl rfl rfl (by decide +kernel) ⟨Nat.le_of_ble_eq_true rfl, Nat.le_of_ble_eq_true rfl⟩) (z_preS hK hP hD hS hA hBd [0] rfl rfl [.ref (a 0)]) rfl rfl hl.1 rfl (lv_room (Nat.le_of_ble_eq_true rfl)) dL_law_469 (lx_fit (by omega) (by omega) hr)) hP hD hS hA [0] rfl (fun _ => Nat.le_of_ble_eq_true rfl) (fun r_66 u_65 H locs hw hP hD hS => ?_)
                        have hP := wmixP [true] (by decide +kernel) hP
                        have hD := wmixD [true] (by decide +kernel) hD
                        obtain ⟨-, rfl⟩ := hw
                        have hP : va_P G.1 vwCl (gW G a σ4) H := hP
                        have hD : va_D A (gW G a σ4) := hD
                        refine z_tz (b := g_mv σ4) (if_neg (by omega)) ?_
                        refine lv_iload hx hb dL_law_472 (lv_at hl 2 rfl) ?_
                        refine z_icmp_eq (tgt := 479) hF dL_law_474 (by decide) (by omega) (by omega) (fun c_67 => ?_) (fun c_67 => ?_)
                        · have hc_474 := c_67
                          refine z_goto (tgt := 1074) hF dL_law_479 (by decide) ?_
                          refine W.widen (k := cells + 20) (n := slots + 120) (by omega) (by omega) ?_
                          exact (kp.go K2) σ4 rec (tr_more hI3 (by omega)) (tr_moreB hB3) (by rw [hbb3, hbs3, hbs2, hbt2]; exact hbb) (Or.inr ⟨hp3, by omega⟩) H locs ls hP hD hS (lv_sub hl [3, 4, 5, 6, 7, 8, 9] rfl)
                        · exfalso; omega
                · exfalso; omega
        · have hc_373 := c_15
          refine lv_aload_n hx hb dL_law_376 rfl (lv_at hl 3 rfl) ?_
          refine cj_i (vx_runSW (As := [.ref (a 0)]) (rest := []) hF (c_L_drop l hst G (a 0) (a 1) (a 2) (a 5) (a 9) (a 11) (a 12) (a 14) (a 16) (a 24) (a 32) (a 34) (a 36) (g_ph σ1) (g_mv σ1) (g_sk σ1) (g_ho σ1) (g_lk σ1) (g_op σ1) (g_va σ1) (g_le σ1) (g_ja σ1) (g_cr σ1) (g_p0 σ1) (g_p1 σ1) (a 3) (a 4) (g_se σ1) (g_ba σ1) (g_tn σ1)  (gI.ph hI2) (gI.mv hI2) (gI.sk hI2) (gI.tn hI2) (gI.se hI2) (Or.inr (gI.op hI2)) (gI_cr9 hI2) (gI_le9 hI2) (gI_lem hI2) (gI_p0m hI2) (gI_p1m hI2) (by omega) H.size) (vx_cwSW 1 hF.2.2.2.2 gL_law_L_drop rfl rfl rfl (by decide +kernel) ⟨Nat.le_of_ble_eq_true rfl, Nat.le_of_ble_eq_true rfl⟩) (z_preS hK hP hD hS hA hBd [0, 1, 2, 3, 4] rfl rfl [.ref (a 0)]) rfl rfl hl.1 rfl (lv_room (Nat.le_of_ble_eq_true rfl)) dL_law_377 (lx_fit (by omega) (by omega) hr)) hP hD hS hA [0, 1, 2, 3, 4] rfl (fun _ => Nat.le_of_ble_eq_true rfl) (fun r_69 u_68 H locs hw hP hD hS => ?_)
          have hP := wmixP [true, true, true, true, true] (by decide +kernel) hP
          have hD := wmixD [true, true, true, true, true] (by decide +kernel) hD
          obtain ⟨-, rfl⟩ := hw
          have hP : va_P G.1 vwCl (gW G a (s_drop σ1)) H := hP
          have hD : va_D A (gW G a (s_drop σ1)) := hD
          obtain ⟨σ5, e9, hI3, hB3, hp3, hbb3, hbs3⟩ : ∃ q : gS, gW G a q = gW G a (s_drop σ1) ∧ gI all seats (t + 1) dz q ∧ gB all (t + 1) q ∧ g_ph q = 45 ∧ g_bb q = g_bb σ1 ∧ g_bs q = g_bs σ1 := ⟨s_drop σ1, rfl, tr_drop hI2 hB2 hp2 (by omega)⟩
          rw [← e9] at hP hD
          clear e9
          have hP : va_P G.1 vwCl (gW G a σ5) H := hP
          have hD : va_D A (gW G a σ5) := hD
          rw [hs2]
          refine z_goto (tgt := 407) hF dL_law_380 (by decide) ?_
          refine lv_istore (lv' := [(17, .int (zI (g_sk σ))), (16, .int (zI (g_sk σ))), (15, .int (zI (g_mv σ))), (0, .ref b), (1, .ref (a 0)), (2, .int (zI all)), (3, .int (zI seats)), (5, .int (zI rec)), (6, .int (zI dz)), (13, .int (zI t)), (14, .int (zI (7 + 5 * t)))]) hx hb dL_law_407 hl (by decide) rfl (fun ls hl => ?_)
          refine lv_iload hx hb dL_law_409 (lv_at hl 0 rfl) ?_
          refine lv_ldc hx hb hF.2.2.2.1 kc_63 dL_law_411 ?_
          refine z_top (y := zI (-1500000)) (by decide) ?_
          refine z_icmp_ne (tgt := 422) hF dL_law_413 (by decide) (by omega) (by decide) (fun c_70 => ?_) (fun c_70 => ?_)
          · have hc_413 := c_70
            refine lv_aload_n hx hb dL_law_422 rfl (lv_at hl 4 rfl) ?_
            refine cj_i (va_runV (As := []) (rest := []) hF (c_X9_state l G (a 0) (a 1) (a 2) (a 5) (a 9) (a 11) (a 12) (a 14) (a 16) (a 24) (a 32) (a 34) (a 36) (g_ph σ5) (g_mv σ5) (g_sk σ5) (g_ho σ5) (g_lk σ5)  (gI.ph hI3) H.size) (cwV 0 hF.2.2.2.2 gL_law_X9_state rfl rfl rfl (by decide +kernel) ⟨Nat.le_of_ble_eq_true rfl, Nat.le_of_ble_eq_true rfl⟩) (z_preV hK hP hD hS hA hBd [0] rfl rfl rfl rfl []) rfl rfl hl.1 rfl (lv_room (Nat.le_of_ble_eq_true rfl)) dL_law_423 (lx_fit (by omega) (by omega) hr)) hP hD hS hA [0] rfl (fun _ => Nat.le_of_ble_eq_true rfl) (fun r_72 u_71 H locs hw hP hD hS => ?_)
            have hP := wmixP [true] (by decide +kernel) hP
            have hD := wmixD [true] (by decide +kernel) hD
            obtain rfl := hw
            have hP : va_P G.1 vwCl (gW G a σ5) H := hP
            have hD : va_D A (gW G a σ5) := hD
            refine z_bipush hF dL_law_426 (by decide) ?_
            refine z_icmp_ne (tgt := 441) hF dL_law_428 (by decide) (by omega) (by decide) (fun c_73 => ?_) (fun c_73 => ?_)
            · exfalso; omega
            · have hc_428 := c_73
              refine lv_iload hx hb dL_law_431 (lv_at hl 0 rfl) ?_
              refine lv_iload hx hb dL_law_433 (lv_at hl 1 rfl) ?_
              refine z_icmp_eq (tgt := 479) hF dL_law_435 (by decide) (by omega) (by omega) (fun c_74 => ?_) (fun c_74 => ?_)
              · have hc_435 := c_74
                refine z_goto (tgt := 1074) hF dL_law_479 (by decide) ?_
                refine W.widen (k := cells + 20) (n := slots + 120) (by omega) (by omega) ?_
                exact (kp.go K2) σ5 rec hI3 hB3 (by rw [hbb3, hbs3, hbs2, hbt2]; exact hbb) (Or.inl hp3) H locs ls hP hD hS (lv_sub hl [3, 4, 5, 6, 7, 8, 9] rfl)
              · exfalso; omega
          · exfalso; omega
    · skip
      have hP : va_P G.1 vwCl (gW G a σ) H := hP
      have hD : va_D A (gW G a σ) := hD
      refine z_if_le (tgt := 482) hF dL_law_355 (by decide) (by decide) (fun c_75 => ?_) (fun c_75 => ?_)
      · have hc_355 := c_75
        refine W.widen (k := cells + 20) (n := slots + 120) (by omega) (by omega) ?_
        exact (kp.go K1) (g_mv σ) rfl H locs ls hP hD hS (lv_sub hl [1, 2, 3, 4, 5, 6, 7, 8, 0] rfl)
      · exact absurd c_75 (by decide)

