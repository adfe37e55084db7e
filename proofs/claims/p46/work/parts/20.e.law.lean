set_option maxHeartbeats 4000000 in
set_option maxRecDepth 100000 in
theorem sg_6 {p : Program} {l : Launch} {e : Env} {s : State} {m : MethodId} {args : Array Value} {below : List Frame} {meth : Method} {c : Code} {G : wG} {A : Nat → Prop} {b Ln : Nat} {sx : Nat → Int32} {Q0 : State → Prop} {cells slots : Nat} {a : Nat → Nat} (hC : lwC6 p l s m args c G A b Ln sx) {all seats t dz rec sd D E n0 c0 k P0 P1 f1 f2 : Int} {fr0 b0 : Int → Int} {hits spent j p8 : Int} {f : Int → Int} {nw : Nat} {σ : gS} (hr : cells + 4 ≤ 600130 ∧ slots + 24 ≤ 7301080) (hg : gL all seats t dz sd D E n0 c0 rec k fr0 P0 P1 hits spent j b0 σ) (hj : n0 ≤ j) (ht : 0 ≤ t ∧ t < 30)
    (K1 : kp (∀ (σ2 : gS), gI all seats (t + 1) dz σ2 → gB all (t + 1) σ2 → g_bb σ2 = g_bb σ → g_bb σ2 = g_bs σ2 → g_tu σ2 = rec + 1 → g_fn σ2 rec = k → g_fd σ2 rec = 10 * D + E → ((g_ph σ2 = 100 ∧ g_mv σ2 = 1 - sd) ∨ (g_ph σ2 = 45 ∧ pipB (g_bb σ2) sd = 0 ∧ 1 ≤ g_lk σ2 ∧ g_lk σ2 ≤ 3)) → ∀ (H : Heap) (locs : List Loc) (ls : Array Slot), va_P G.1 vwCl (gW G a σ2 ++ [(nw, .inl (G.2.1.1, 52, .inl (aI f)))]) H → va_D A (gW G a σ2 ++ [(nw, .inl (G.2.1.1, 52, .inl (aI f)))]) → va_S A s.heap H locs → lv_has ls 31 [(0, .ref b), (1, .ref (a 0)), (2, .int (zI all)), (3, .int (zI seats)), (5, .int (zI rec)), (6, .int (zI dz)), (13, .int (zI t)), (15, .int (zI sd)), (16, .int (zI f1)), (17, .int (zI f2)), (21, .int (zI k)), (25, .ref nw), (26, .int (zI k))] → W p l e room_1 s m args below meth c H locs (cells + 4) (slots + 24) Q0 (F0 m 881 ls [])))
    {H : Heap} {locs : List Loc} {ls : Array Slot} (hP : va_P G.1 vwCl (gW G a σ ++ [(nw, .inl (G.2.1.1, 52, .inl (aI f)))]) H) (hD : va_D A (gW G a σ ++ [(nw, .inl (G.2.1.1, 52, .inl (aI f)))])) (hS : va_S A s.heap H locs) (hl : lv_has ls 31 [(0, .ref b), (1, .ref (a 0)), (2, .int (zI all)), (3, .int (zI seats)), (5, .int (zI rec)), (6, .int (zI dz)), (13, .int (zI t)), (15, .int (zI sd)), (16, .int (zI f1)), (17, .int (zI f2)), (21, .int (zI k)), (25, .ref nw), (26, .int (zI p8))]) : W p l e room_1 s m args below meth c H locs cells slots Q0 (F0 m 875 ls []) := by
  obtain ⟨hF, hst, hK, hBd, hA, hX, hbl, hbA, hLn, hts⟩ := hC
  have hx := hF.1
  have hb := hF.2.1
  have hg0 := hg
  obtain ⟨hI, hB, hR, ⟨e1, e2, e3, e4, e5, e6, e7, e8, e9⟩, hk, hm, hp0, hp1, hh, hgl, hll, hq0, hq9⟩ := hg0
  have hmv := hI.mv
  have hfd := gL_fd hg hj
  refine lv_aload_n hx hb dL_law_875 rfl (lv_at hl 1 rfl) ?_
  refine cj_i (vx_runSW (As := [.ref (a 0)]) (rest := []) hF (c_L_finish l hst G (a 0) (a 1) (a 2) (a 5) (a 9) (a 11) (a 12) (a 14) (a 16) (a 24) (a 32) (a 34) (a 36) (g_ph σ) (g_mv σ) (g_sk σ) (g_ho σ) (g_lk σ) (g_op σ) (g_va σ) (g_le σ) (g_ja σ) (g_cr σ) (g_p0 σ) (g_p1 σ) (a 3) (a 4) (g_se σ) (g_ba σ) (g_tn σ) (a 6) (a 7) (a 8) (g_fd σ) (g_fn σ) (g_fr0 σ) (g_tu σ) (g_hv σ) (g_fi σ) (a 10) (g_fa σ) (g_al σ) (g_hi0 σ) (g_er σ) (g_dg σ) (g_dl σ) (g_gl σ) (g_ll σ) (g_us σ) (a 17) (a 19) (a 20) (a 21) (a 22) (a 23) (g_fr σ) (g_fw σ) (g_sd0 σ) (g_cnt σ) (g_ln σ) (g_gr σ) (a 33) (g_bs σ) (a 35) (g_bb σ) (a 37) (g_bc σ) all ((plc (g_mv σ) (g_bs σ) (g_dg σ) (g_dl σ)).2)  (gI.ph hI) (gI.mv hI) (gI.sk hI) (gI.tn hI) (gI.se hI) (Or.inr (gI.op hI)) (gI_cr9 hI) (gI_le9 hI) (gI_lem hI) (gI_p0m hI) (gI_p1m hI) (gI_ja9 hI) (gI.all15 hI) hB.2.2.1.1 hI.2.2.1.1 (gB_tu hI hB) hR.2.1 (gR_ls hI hB hR) hB.2.2.2.1 e1 (by omega) H.size) (vx_cwSW 1 hF.2.2.2.2 gL_law_L_finish rfl rfl rfl (by decide +kernel) ⟨Nat.le_of_ble_eq_true rfl, Nat.le_of_ble_eq_true rfl⟩) (z_preS hK hP hD hS hA hBd [0, 1, 2, 3, 4, 5, 6, 7, 8, 9, 10, 11, 16, 19, 20, 32, 33, 34, 35, 36, 37] rfl rfl [.ref (a 0)]) rfl rfl hl.1 rfl (lv_room (Nat.le_of_ble_eq_true rfl)) dL_law_876 (lx_fit (by omega) (by omega) hr)) hP hD hS hA [0, 1, 2, 3, 4, 5, 6, 7, 8, 9, 10, 11, 16, 19, 20, 32, 33, 34, 35, 36, 37] rfl (fun _ => Nat.le_of_ble_eq_true rfl) (fun r_2 u_1 H locs hw hP hD hS => ?_)
  have hP := wmixP [true, true, true, true, true, true, true, true, true, true, true, true, false, false, false, false, true, false, false, true, true, false, false, false, false, false, false, false, false, false, false, false, true, true, true, true, true, true] (by decide +kernel) hP
  have hD := wmixD [true, true, true, true, true, true, true, true, true, true, true, true, false, false, false, false, true, false, false, true, true, false, false, false, false, false, false, false, false, false, false, false, true, true, true, true, true, true] (by decide +kernel) hD
  obtain ⟨v0, v1, v2, v3, v4, v5, v6, v7, v8, v9, v10, v11, v12, v13, v14, v15, v16, u2⟩ := u_1
  dsimp only at hw
  rcases hw with ⟨rfl, rfl, rfl, rfl, rfl, rfl, rfl, rfl, rfl, rfl, rfl, rfl, rfl, rfl, rfl, rfl, rfl, hq1, hq2, hq3, rfl⟩ | ⟨rfl, rfl, rfl, rfl, rfl, rfl, rfl, rfl, rfl, rfl, rfl, rfl, rfl, rfl, rfl, rfl, rfl, hq1, hq2, hq3, rfl⟩
  · skip
    have hP : va_P G.1 vwCl (gW G a (s_fin0 σ (fdI (g_mv σ) (g_bs σ) (g_bb σ) (plc (g_mv σ) (g_bs σ) (g_dg σ) (g_dl σ)).2) (hiR (g_mv σ) (g_bs σ) ((plc (g_mv σ) (g_bs σ) (g_dg σ) (g_dl σ)).2.getD (fdI (g_mv σ) (g_bs σ) (g_bb σ) (plc (g_mv σ) (g_bs σ) (g_dg σ) (g_dl σ)).2).toNat [])) (poR (g_mv σ) (g_bs σ) ((plc (g_mv σ) (g_bs σ) (g_dg σ) (g_dl σ)).2.getD (fdI (g_mv σ) (g_bs σ) (g_bb σ) (plc (g_mv σ) (g_bs σ) (g_dg σ) (g_dl σ)).2).toNat [])) u2) ++ [(nw, .inl (G.2.1.1, 52, .inl (aI f)))]) H := hP
    have hD : va_D A (gW G a (s_fin0 σ (fdI (g_mv σ) (g_bs σ) (g_bb σ) (plc (g_mv σ) (g_bs σ) (g_dg σ) (g_dl σ)).2) (hiR (g_mv σ) (g_bs σ) ((plc (g_mv σ) (g_bs σ) (g_dg σ) (g_dl σ)).2.getD (fdI (g_mv σ) (g_bs σ) (g_bb σ) (plc (g_mv σ) (g_bs σ) (g_dg σ) (g_dl σ)).2).toNat [])) (poR (g_mv σ) (g_bs σ) ((plc (g_mv σ) (g_bs σ) (g_dg σ) (g_dl σ)).2.getD (fdI (g_mv σ) (g_bs σ) (g_bb σ) (plc (g_mv σ) (g_bs σ) (g_dg σ) (g_dl σ)).2).toNat [])) u2) ++ [(nw, .inl (G.2.1.1, 52, .inl (aI f)))]) := hD
    have hfa := fin_all (hr := hiR (g_mv σ) (g_bs σ) ((plc (g_mv σ) (g_bs σ) (g_dg σ) (g_dl σ)).2.getD (fdI (g_mv σ) (g_bs σ) (g_bb σ) (plc (g_mv σ) (g_bs σ) (g_dg σ) (g_dl σ)).2).toNat [])) (u := u2) hg hj hfd (by omega) (plc (g_mv σ) (g_bs σ) (g_dg σ) (g_dl σ)).2 rfl
    obtain ⟨σ2, e99, h1, h2, h3, h4, h5, h6, h7, h8⟩ : ∃ q : gS, gW G a q = gW G a (s_fin0 σ (fdI (g_mv σ) (g_bs σ) (g_bb σ) (plc (g_mv σ) (g_bs σ) (g_dg σ) (g_dl σ)).2) (hiR (g_mv σ) (g_bs σ) ((plc (g_mv σ) (g_bs σ) (g_dg σ) (g_dl σ)).2.getD (fdI (g_mv σ) (g_bs σ) (g_bb σ) (plc (g_mv σ) (g_bs σ) (g_dg σ) (g_dl σ)).2).toNat [])) (poR (g_mv σ) (g_bs σ) ((plc (g_mv σ) (g_bs σ) (g_dg σ) (g_dl σ)).2.getD (fdI (g_mv σ) (g_bs σ) (g_bb σ) (plc (g_mv σ) (g_bs σ) (g_dg σ) (g_dl σ)).2).toNat [])) u2) ∧ gI all seats (t + 1) dz q ∧ gB all (t + 1) q ∧ g_bb q = g_bb σ ∧ g_bb q = g_bs q ∧ g_tu q = rec + 1 ∧ g_fn q rec = k ∧ g_fd q rec = 10 * D + E ∧ ((g_ph q = 100 ∧ g_mv q = 1 - sd) ∨ (g_ph q = 45 ∧ pipB (g_bb q) sd = 0 ∧ 1 ≤ g_lk q ∧ g_lk q ≤ 3)) := ⟨s_fin0 σ (fdI (g_mv σ) (g_bs σ) (g_bb σ) (plc (g_mv σ) (g_bs σ) (g_dg σ) (g_dl σ)).2) (hiR (g_mv σ) (g_bs σ) ((plc (g_mv σ) (g_bs σ) (g_dg σ) (g_dl σ)).2.getD (fdI (g_mv σ) (g_bs σ) (g_bb σ) (plc (g_mv σ) (g_bs σ) (g_dg σ) (g_dl σ)).2).toNat [])) (poR (g_mv σ) (g_bs σ) ((plc (g_mv σ) (g_bs σ) (g_dg σ) (g_dl σ)).2.getD (fdI (g_mv σ) (g_bs σ) (g_bb σ) (plc (g_mv σ) (g_bs σ) (g_dg σ) (g_dl σ)).2).toNat [])) u2, rfl, hfa.1.1, hfa.1.2.1, hfa.1.2.2, rfl, (by show g_tu σ + 1 = rec + 1; rw [e8]), (by show up (g_fn σ) (g_tu σ) _ rec = k; rw [e8, up_s]; exact hfd), (by show up (g_fd σ) (g_tu σ) _ rec = _; rw [e8, up_s, e4, e5]), Or.inl ⟨rfl, by show 1 - g_mv σ = 1 - sd; rw [e2]⟩⟩
    rw [← e99] at hP hD
    clear e99
    have hP : va_P G.1 vwCl (gW G a σ2 ++ [(nw, .inl (G.2.1.1, 52, .inl (aI f)))]) H := hP
    have hD : va_D A (gW G a σ2 ++ [(nw, .inl (G.2.1.1, 52, .inl (aI f)))]) := hD
    refine z_tz (b := k) hfd ?_
    refine lv_istore (lv' := [(26, .int (zI k)), (0, .ref b), (1, .ref (a 0)), (2, .int (zI all)), (3, .int (zI seats)), (5, .int (zI rec)), (6, .int (zI dz)), (13, .int (zI t)), (15, .int (zI sd)), (16, .int (zI f1)), (17, .int (zI f2)), (21, .int (zI k)), (25, .ref nw)]) hx hb dL_law_879 hl (by decide) rfl (fun ls hl => ?_)
    refine W.widen (k := cells + 4) (n := slots + 24) (by omega) (by omega) ?_
    exact (kp.go K1) σ2 h1 h2 h3 h4 h5 h6 h7 h8 H locs ls hP hD hS (lv_sub hl [1, 2, 3, 4, 5, 6, 7, 8, 9, 10, 11, 12, 0] rfl)
  · skip
    have hP : va_P G.1 vwCl (gW G a (s_fin1 σ (fdI (g_mv σ) (g_bs σ) (g_bb σ) (plc (g_mv σ) (g_bs σ) (g_dg σ) (g_dl σ)).2) (hiR (g_mv σ) (g_bs σ) ((plc (g_mv σ) (g_bs σ) (g_dg σ) (g_dl σ)).2.getD (fdI (g_mv σ) (g_bs σ) (g_bb σ) (plc (g_mv σ) (g_bs σ) (g_dg σ) (g_dl σ)).2).toNat [])) (poR (g_mv σ) (g_bs σ) ((plc (g_mv σ) (g_bs σ) (g_dg σ) (g_dl σ)).2.getD (fdI (g_mv σ) (g_bs σ) (g_bb σ) (plc (g_mv σ) (g_bs σ) (g_dg σ) (g_dl σ)).2).toNat [])) u2) ++ [(nw, .inl (G.2.1.1, 52, .inl (aI f)))]) H := hP
    have hD : va_D A (gW G a (s_fin1 σ (fdI (g_mv σ) (g_bs σ) (g_bb σ) (plc (g_mv σ) (g_bs σ) (g_dg σ) (g_dl σ)).2) (hiR (g_mv σ) (g_bs σ) ((plc (g_mv σ) (g_bs σ) (g_dg σ) (g_dl σ)).2.getD (fdI (g_mv σ) (g_bs σ) (g_bb σ) (plc (g_mv σ) (g_bs σ) (g_dg σ) (g_dl σ)).2).toNat [])) (poR (g_mv σ) (g_bs σ) ((plc (g_mv σ) (g_bs σ) (g_dg σ) (g_dl σ)).2.getD (fdI (g_mv σ) (g_bs σ) (g_bb σ) (plc (g_mv σ) (g_bs σ) (g_dg σ) (g_dl σ)).2).toNat [])) u2) ++ [(nw, .inl (G.2.1.1, 52, .inl (aI f)))]) := hD
    have hfa := fin_all (hr := hiR (g_mv σ) (g_bs σ) ((plc (g_mv σ) (g_bs σ) (g_dg σ) (g_dl σ)).2.getD (fdI (g_mv σ) (g_bs σ) (g_bb σ) (plc (g_mv σ) (g_bs σ) (g_dg σ) (g_dl σ)).2).toNat [])) (u := u2) hg hj hfd (by omega) (plc (g_mv σ) (g_bs σ) (g_dg σ) (g_dl σ)).2 rfl
    obtain ⟨σ2, e99, h1, h2, h3, h4, h5, h6, h7, h8⟩ : ∃ q : gS, gW G a q = gW G a (s_fin1 σ (fdI (g_mv σ) (g_bs σ) (g_bb σ) (plc (g_mv σ) (g_bs σ) (g_dg σ) (g_dl σ)).2) (hiR (g_mv σ) (g_bs σ) ((plc (g_mv σ) (g_bs σ) (g_dg σ) (g_dl σ)).2.getD (fdI (g_mv σ) (g_bs σ) (g_bb σ) (plc (g_mv σ) (g_bs σ) (g_dg σ) (g_dl σ)).2).toNat [])) (poR (g_mv σ) (g_bs σ) ((plc (g_mv σ) (g_bs σ) (g_dg σ) (g_dl σ)).2.getD (fdI (g_mv σ) (g_bs σ) (g_bb σ) (plc (g_mv σ) (g_bs σ) (g_dg σ) (g_dl σ)).2).toNat [])) u2) ∧ gI all seats (t + 1) dz q ∧ gB all (t + 1) q ∧ g_bb q = g_bb σ ∧ g_bb q = g_bs q ∧ g_tu q = rec + 1 ∧ g_fn q rec = k ∧ g_fd q rec = 10 * D + E ∧ ((g_ph q = 100 ∧ g_mv q = 1 - sd) ∨ (g_ph q = 45 ∧ pipB (g_bb q) sd = 0 ∧ 1 ≤ g_lk q ∧ g_lk q ≤ 3)) := ⟨s_fin1 σ (fdI (g_mv σ) (g_bs σ) (g_bb σ) (plc (g_mv σ) (g_bs σ) (g_dg σ) (g_dl σ)).2) (hiR (g_mv σ) (g_bs σ) ((plc (g_mv σ) (g_bs σ) (g_dg σ) (g_dl σ)).2.getD (fdI (g_mv σ) (g_bs σ) (g_bb σ) (plc (g_mv σ) (g_bs σ) (g_dg σ) (g_dl σ)).2).toNat [])) (poR (g_mv σ) (g_bs σ) ((plc (g_mv σ) (g_bs σ) (g_dg σ) (g_dl σ)).2.getD (fdI (g_mv σ) (g_bs σ) (g_bb σ) (plc (g_mv σ) (g_bs σ) (g_dg σ) (g_dl σ)).2).toNat [])) u2, rfl, hfa.2.1, hfa.2.2, hfa.1.2.2, rfl, (by show g_tu σ + 1 = rec + 1; rw [e8]), (by show up (g_fn σ) (g_tu σ) _ rec = k; rw [e8, up_s]; exact hfd), (by show up (g_fd σ) (g_tu σ) _ rec = _; rw [e8, up_s, e4, e5]), Or.inr ⟨rfl, by show pipB (poR (g_mv σ) (g_bs σ) ((plc (g_mv σ) (g_bs σ) (g_dg σ) (g_dl σ)).2.getD (fdI (g_mv σ) (g_bs σ) (g_bb σ) (plc (g_mv σ) (g_bs σ) (g_dg σ) (g_dl σ)).2).toNat [])) sd = 0; rw [hfa.1.2.2]; exact pip_off hB.2.2.2.1 (by omega) (by rw [← e2, ← hfa.1.2.2]; exact hq1), iz_kd3 _ _ _ _ _ _⟩⟩
    rw [← e99] at hP hD
    clear e99
    have hP : va_P G.1 vwCl (gW G a σ2 ++ [(nw, .inl (G.2.1.1, 52, .inl (aI f)))]) H := hP
    have hD : va_D A (gW G a σ2 ++ [(nw, .inl (G.2.1.1, 52, .inl (aI f)))]) := hD
    refine z_tz (b := k) hfd ?_
    refine lv_istore (lv' := [(26, .int (zI k)), (0, .ref b), (1, .ref (a 0)), (2, .int (zI all)), (3, .int (zI seats)), (5, .int (zI rec)), (6, .int (zI dz)), (13, .int (zI t)), (15, .int (zI sd)), (16, .int (zI f1)), (17, .int (zI f2)), (21, .int (zI k)), (25, .ref nw)]) hx hb dL_law_879 hl (by decide) rfl (fun ls hl => ?_)
    refine W.widen (k := cells + 4) (n := slots + 24) (by omega) (by omega) ?_
    exact (kp.go K1) σ2 h1 h2 h3 h4 h5 h6 h7 h8 H locs ls hP hD hS (lv_sub hl [1, 2, 3, 4, 5, 6, 7, 8, 9, 10, 11, 12, 0] rfl)

set_option maxHeartbeats 4000000 in
set_option maxRecDepth 100000 in
theorem sg_6b {p : Program} {l : Launch} {e : Env} {s : State} {m : MethodId} {args : Array Value} {below : List Frame} {meth : Method} {c : Code} {G : wG} {A : Nat → Prop} {b Ln : Nat} {sx : Nat → Int32} {Q0 : State → Prop} {cells slots : Nat} {a : Nat → Nat} (hC : lwC6 p l s m args c G A b Ln sx) {all seats t dz rec sd D E n0 c0 k P0 P1 f1 f2 : Int} {fr0 b0 : Int → Int} {f : Int → Int} {nw : Nat} {σ : gS} (hr : cells + 4 ≤ 600130 ∧ slots + 24 ≤ 7301080) (h1 : gI all seats (t + 1) dz σ) (h2 : gB all (t + 1) σ) (h5 : g_tu σ = rec + 1) (h6 : g_fn σ rec = k) (h7 : g_fd σ rec = 10 * D + E) (hk : 0 ≤ k ∧ k < 4000) (hrec0 : 0 ≤ rec) (hDD : D = zmax f1 f2) (hEE : E = zmin f1 f2) (hf1 : 1 ≤ f1 ∧ f1 ≤ 6) (hf2 : 1 ≤ f2 ∧ f2 ≤ 6)
    (K1 : kp (∀ (H : Heap) (locs : List Loc) (ls : Array Slot), va_P G.1 vwCl (gW G a σ ++ [(nw, .inl (G.2.1.1, 52, .inl (aI f)))]) H → va_D A (gW G a σ ++ [(nw, .inl (G.2.1.1, 52, .inl (aI f)))]) → va_S A s.heap H locs → lv_has ls 31 [(0, .ref b), (1, .ref (a 0)), (2, .int (zI all)), (3, .int (zI seats)), (5, .int (zI (rec + 1))), (6, .int (zI dz)), (13, .int (zI t)), (15, .int (zI sd)), (25, .ref nw), (27, .int (zI 0))] → W p l e room_1 s m args below meth c H locs (cells + 4) (slots + 24) Q0 (F0 m 947 ls [])))
    {H : Heap} {locs : List Loc} {ls : Array Slot} (hP : va_P G.1 vwCl (gW G a σ ++ [(nw, .inl (G.2.1.1, 52, .inl (aI f)))]) H) (hD : va_D A (gW G a σ ++ [(nw, .inl (G.2.1.1, 52, .inl (aI f)))])) (hS : va_S A s.heap H locs) (hl : lv_has ls 31 [(0, .ref b), (1, .ref (a 0)), (2, .int (zI all)), (3, .int (zI seats)), (5, .int (zI rec)), (6, .int (zI dz)), (13, .int (zI t)), (15, .int (zI sd)), (16, .int (zI f1)), (17, .int (zI f2)), (21, .int (zI k)), (25, .ref nw), (26, .int (zI k))]) : W p l e room_1 s m args below meth c H locs cells slots Q0 (F0 m 881 ls []) := by
  obtain ⟨hF, hst, hK, hBd, hA, hX, hbl, hbA, hLn, hts⟩ := hC
  have hx := hF.1
  have hb := hF.2.1
  have h9 := gB_tu h1 h2
  have hx1 : 1 ≤ D ∧ D ≤ 6 ∧ 1 ≤ E ∧ E ≤ 6 := by rw [hDD, hEE]; have := zmm hf1 hf2; omega
  have km_218 : (Cond.methodLink RL 218 Lib.Math.max.name).before args s = true := hts _ (by decide +kernel)
  have km_223 : (Cond.methodLink RL 223 Lib.Math.min.name).before args s = true := hts _ (by decide +kernel)
  have kq_max : (Cond.code Lib.Math.max.name Lib.Math.max.code 2 (some .int)).before args s = true := hts _ (by decide +kernel)
  have kq_min : (Cond.code Lib.Math.min.name Lib.Math.min.code 2 (some .int)).before args s = true := hts _ (by decide +kernel)
  have ks_max : (Cond.static Lib.Math.max.name).before args s = true := hts _ (by decide +kernel)
  have ks_min : (Cond.static Lib.Math.min.name).before args s = true := hts _ (by decide +kernel)
  have kt_Math : (Cond.initialized "java/lang/Math").before args s = true := hts _ (by decide +kernel)
  refine lv_iload hx hb dL_law_881 (lv_at hl 12 rfl) ?_
  refine lv_iload hx hb dL_law_883 (lv_at hl 10 rfl) ?_
  refine z_icmp_ne (tgt := 942) hF dL_law_885 (by decide) (by omega) (by omega) (fun c_1 => ?_) (fun c_1 => ?_)
  · exfalso; omega
  · have hc_885 := c_1
    refine lv_aload_n hx hb dL_law_888 rfl (lv_at hl 1 rfl) ?_
    refine cj_i (va_runV (As := []) (rest := []) hF (c_X9_played l G (a 0) (a 1) (a 2) (a 5) (a 9) (a 11) (a 12) (a 14) (a 16) (a 24) (a 32) (a 34) (a 36) (g_ph σ) (g_mv σ) (g_sk σ) (g_ho σ) (g_lk σ) (a 6) (a 7) (a 8) (g_fd σ) (g_fn σ) (g_fr0 σ) (g_tu σ) (g_hv σ) (g_fi σ)   H.size) (cwV 0 hF.2.2.2.2 gL_law_X9_played rfl rfl rfl (by decide +kernel) ⟨Nat.le_of_ble_eq_true rfl, Nat.le_of_ble_eq_true rfl⟩) (z_preV hK hP hD hS hA hBd [0, 5, 6, 7, 8] rfl rfl rfl rfl []) rfl rfl hl.1 rfl (lv_room (Nat.le_of_ble_eq_true rfl)) dL_law_889 (lx_fit (by omega) (by omega) hr)) hP hD hS hA [0, 5, 6, 7, 8] rfl (fun _ => Nat.le_of_ble_eq_true rfl) (fun r_3 u_2 H locs hw hP hD hS => ?_)
    have hP := wmixP [true, false, false, false, false, true, true, true, true] (by decide +kernel) hP
    have hD := wmixD [true, false, false, false, false, true, true, true, true] (by decide +kernel) hD
    obtain rfl := hw
    have hP : va_P G.1 vwCl (gW G a σ ++ [(nw, .inl (G.2.1.1, 52, .inl (aI f)))]) H := hP
    have hD : va_D A (gW G a σ ++ [(nw, .inl (G.2.1.1, 52, .inl (aI f)))]) := hD
    refine z_tz (b := (rec + 1)) h5 ?_
    refine z_iinc (lv' := [(5, .int (zI (rec + 1))), (0, .ref b), (1, .ref (a 0)), (2, .int (zI all)), (3, .int (zI seats)), (6, .int (zI dz)), (13, .int (zI t)), (15, .int (zI sd)), (16, .int (zI f1)), (17, .int (zI f2)), (21, .int (zI k)), (25, .ref nw), (26, .int (zI k))]) hF dL_law_892 hl (k := 4) rfl (by decide) rfl (fun ls hl => ?_)
    refine lv_iload hx hb dL_law_895 (lv_at hl 0 rfl) ?_
    refine z_icmp_ne (tgt := 942) hF dL_law_897 (by decide) (by omega) (by omega) (fun c_4 => ?_) (fun c_4 => ?_)
    · exfalso; omega
    · have hc_897 := c_4
      refine lv_aload_n hx hb dL_law_900 rfl (lv_at hl 2 rfl) ?_
      refine lv_iload hx hb dL_law_901 (lv_at hl 0 rfl) ?_
      refine z_iconst hF dL_law_903 ?_
      refine z_isub hF dL_law_904 ?_
      refine cj_i (vx_runSW (As := [.ref (a 0), .int (zI ((rec + 1) - 1))]) (rest := []) hF (c_L_playedAt l hst G (a 0) (a 1) (a 2) (a 5) (a 9) (a 11) (a 12) (a 14) (a 16) (a 24) (a 32) (a 34) (a 36) (g_ph σ) (g_mv σ) (g_sk σ) (g_ho σ) (g_lk σ) (a 6) (a 7) (a 8) (g_fd σ) (g_fn σ) (g_fr0 σ) (g_tu σ) (g_hv σ) (g_fi σ) ((rec + 1) - 1)  (gB_tu5 h1 h2) (by omega) (by omega) H.size) (vx_cwSW 2 hF.2.2.2.2 gL_law_L_playedAt rfl rfl rfl (by decide +kernel) ⟨Nat.le_of_ble_eq_true rfl, Nat.le_of_ble_eq_true rfl⟩) (z_preS hK hP hD hS hA hBd [0, 5, 6, 7, 8] rfl rfl [.ref (a 0), .int (zI ((rec + 1) - 1))]) rfl rfl hl.1 rfl (lv_room (Nat.le_of_ble_eq_true rfl)) dL_law_905 (lx_fit (by omega) (by omega) hr)) hP hD hS hA [0, 5, 6, 7, 8] rfl (fun _ => Nat.le_of_ble_eq_true rfl) (fun r_6 u_5 H locs hw hP hD hS => ?_)
      have hP := wmixP [true, false, false, false, false, true, true, true, true] (by decide +kernel) hP
      have hD := wmixD [true, false, false, false, false, true, true, true, true] (by decide +kernel) hD
      obtain ⟨-, rfl⟩ := hw
      have hP : va_P G.1 vwCl (gW G a σ ++ [(nw, .inl (G.2.1.1, 52, .inl (aI f)))]) H := hP
      have hD : va_D A (gW G a σ ++ [(nw, .inl (G.2.1.1, 52, .inl (aI f)))]) := hD
      refine z_tz (b := k) (by rw [show rec + 1 - 1 = rec by omega]; exact h6) ?_
      refine lv_iload hx hb dL_law_908 (lv_at hl 10 rfl) ?_
      refine z_icmp_ne (tgt := 942) hF dL_law_910 (by decide) (by omega) (by omega) (fun c_7 => ?_) (fun c_7 => ?_)
      · exfalso; omega
      · have hc_910 := c_7
        refine lv_aload_n hx hb dL_law_913 rfl (lv_at hl 2 rfl) ?_
        refine lv_iload hx hb dL_law_914 (lv_at hl 0 rfl) ?_
        refine z_iconst hF dL_law_916 ?_
        refine z_isub hF dL_law_917 ?_
        refine cj_i (vx_runSW (As := [.ref (a 0), .int (zI ((rec + 1) - 1))]) (rest := []) hF (c_L_rolledAt l hst G (a 0) (a 1) (a 2) (a 5) (a 9) (a 11) (a 12) (a 14) (a 16) (a 24) (a 32) (a 34) (a 36) (g_ph σ) (g_mv σ) (g_sk σ) (g_ho σ) (g_lk σ) (a 6) (a 7) (a 8) (g_fd σ) (g_fn σ) (g_fr0 σ) (g_tu σ) (g_hv σ) (g_fi σ) ((rec + 1) - 1)  (gB_tu5 h1 h2) (by omega) (by omega) H.size) (vx_cwSW 2 hF.2.2.2.2 gL_law_L_rolledAt rfl rfl rfl (by decide +kernel) ⟨Nat.le_of_ble_eq_true rfl, Nat.le_of_ble_eq_true rfl⟩) (z_preS hK hP hD hS hA hBd [0, 5, 6, 7, 8] rfl rfl [.ref (a 0), .int (zI ((rec + 1) - 1))]) rfl rfl hl.1 rfl (lv_room (Nat.le_of_ble_eq_true rfl)) dL_law_918 (lx_fit (by omega) (by omega) hr)) hP hD hS hA [0, 5, 6, 7, 8] rfl (fun _ => Nat.le_of_ble_eq_true rfl) (fun r_9 u_8 H locs hw hP hD hS => ?_)
        have hP := wmixP [true, false, false, false, false, true, true, true, true] (by decide +kernel) hP
        have hD := wmixD [true, false, false, false, false, true, true, true, true] (by decide +kernel) hD
        obtain ⟨-, rfl⟩ := hw
        have hP : va_P G.1 vwCl (gW G a σ ++ [(nw, .inl (G.2.1.1, 52, .inl (aI f)))]) H := hP
        have hD : va_D A (gW G a σ ++ [(nw, .inl (G.2.1.1, 52, .inl (aI f)))]) := hD
        refine z_tz (b := (10 * D + E)) (by rw [show rec + 1 - 1 = rec by omega]; exact h7) ?_
        refine z_bipush hF dL_law_921 (by decide) ?_
        refine lv_iload hx hb dL_law_923 (lv_at hl 8 rfl) ?_
        refine lv_iload hx hb dL_law_925 (lv_at hl 9 rfl) ?_
        refine z_max hF km_218 ks_max kt_Math kq_max hl.1 (Nat.le_of_ble_eq_true rfl) (Nat.le_of_ble_eq_true rfl) (lx_c (by omega) hr) (lx_s (by omega) hr) (by omega) (by omega) dL_law_927 ?_
        refine z_tz (b := D) hDD.symm ?_
        refine z_imul hF dL_law_930 ?_
        refine lv_iload hx hb dL_law_931 (lv_at hl 8 rfl) ?_
        refine lv_iload hx hb dL_law_933 (lv_at hl 9 rfl) ?_
        refine z_min hF km_223 ks_min kt_Math kq_min hl.1 (Nat.le_of_ble_eq_true rfl) (Nat.le_of_ble_eq_true rfl) (lx_c (by omega) hr) (lx_s (by omega) hr) (by omega) (by omega) dL_law_935 ?_
        refine z_tz (b := E) hEE.symm ?_
        refine z_iadd hF dL_law_938 ?_
        refine z_icmp_eq (tgt := 944) hF dL_law_939 (by decide) (by omega) (by omega) (fun c_10 => ?_) (fun c_10 => ?_)
        · have hc_939 := c_10
          refine z_iconst hF dL_law_944 ?_
          refine lv_istore (lv' := [(27, .int (zI 0)), (5, .int (zI (rec + 1))), (0, .ref b), (1, .ref (a 0)), (2, .int (zI all)), (3, .int (zI seats)), (6, .int (zI dz)), (13, .int (zI t)), (15, .int (zI sd)), (16, .int (zI f1)), (17, .int (zI f2)), (21, .int (zI k)), (25, .ref nw), (26, .int (zI k))]) hx hb dL_law_945 hl (by decide) rfl (fun ls hl => ?_)
          refine W.widen (k := cells + 4) (n := slots + 24) (by omega) (by omega) ?_
          exact (kp.go K1)  H locs ls hP hD hS (lv_sub hl [2, 3, 4, 5, 1, 6, 7, 8, 12, 0] rfl)
        · exfalso; omega

set_option maxHeartbeats 4000000 in
set_option maxRecDepth 100000 in
theorem sg_7 {p : Program} {l : Launch} {e : Env} {s : State} {m : MethodId} {args : Array Value} {below : List Frame} {meth : Method} {c : Code} {G : wG} {A : Nat → Prop} {b Ln : Nat} {sx : Nat → Int32} {Q0 : State → Prop} {cells slots : Nat} {a : Nat → Nat} (hC : lwC6 p l s m args c G A b Ln sx) {all seats t dz rec sd q8 : Int} {f : Int → Int} {nw : Nat} {σ : gS} (hr : cells + 4 ≤ 600130 ∧ slots + 24 ≤ 7301080) (hq8 : 0 ≤ q8 ∧ q8 ≤ 52) (hf : ∀ q : Int, 0 ≤ q → q < 52 → f q = g_bb σ q) (hbr : ∀ q : Int, 0 ≤ g_bb σ q ∧ g_bb σ q ≤ 15)
    (K1 : kp (q8 < 52 → ∀ (H : Heap) (locs : List Loc) (ls : Array Slot), va_P G.1 vwCl (gW G a σ ++ [(nw, .inl (G.2.1.1, 52, .inl (aI f)))]) H → va_D A (gW G a σ ++ [(nw, .inl (G.2.1.1, 52, .inl (aI f)))]) → va_S A s.heap H locs → lv_has ls 31 [(0, .ref b), (1, .ref (a 0)), (2, .int (zI all)), (3, .int (zI seats)), (5, .int (zI rec)), (6, .int (zI dz)), (13, .int (zI t)), (15, .int (zI sd)), (25, .ref nw), (27, .int (zI (q8 + 1)))] → W p l e room_1 s m args below meth c H locs (cells + 4) (slots + 24) Q0 (F0 m 947 ls [])))
    (K2 : kp (52 ≤ q8 → ∀ (H : Heap) (locs : List Loc) (ls : Array Slot), va_P G.1 vwCl (gW G a σ ++ [(nw, .inl (G.2.1.1, 52, .inl (aI f)))]) H → va_D A (gW G a σ ++ [(nw, .inl (G.2.1.1, 52, .inl (aI f)))]) → va_S A s.heap H locs → lv_has ls 31 [(0, .ref b), (1, .ref (a 0)), (2, .int (zI all)), (3, .int (zI seats)), (5, .int (zI rec)), (6, .int (zI dz)), (13, .int (zI t)), (15, .int (zI sd)), (25, .ref nw), (27, .int (zI q8))] → W p l e room_1 s m args below meth c H locs (cells + 4) (slots + 24) Q0 (F0 m 984 ls [])))
    {H : Heap} {locs : List Loc} {ls : Array Slot} (hP : va_P G.1 vwCl (gW G a σ ++ [(nw, .inl (G.2.1.1, 52, .inl (aI f)))]) H) (hD : va_D A (gW G a σ ++ [(nw, .inl (G.2.1.1, 52, .inl (aI f)))])) (hS : va_S A s.heap H locs) (hl : lv_has ls 31 [(0, .ref b), (1, .ref (a 0)), (2, .int (zI all)), (3, .int (zI seats)), (5, .int (zI rec)), (6, .int (zI dz)), (13, .int (zI t)), (15, .int (zI sd)), (25, .ref nw), (27, .int (zI q8))]) : W p l e room_1 s m args below meth c H locs cells slots Q0 (F0 m 947 ls []) := by
  obtain ⟨hF, hst, hK, hBd, hA, hX, hbl, hbA, hLn, hts⟩ := hC
  have hx := hF.1
  have hb := hF.2.1
  refine lv_iload hx hb dL_law_947 (lv_at hl 9 rfl) ?_
  refine z_bipush hF dL_law_949 (by decide) ?_
  refine z_icmp_ge (tgt := 984) hF dL_law_951 (by decide) (by omega) (by decide) (fun c_1 => ?_) (fun c_1 => ?_)
  · have hc_951 := c_1
    refine W.widen (k := cells + 4) (n := slots + 24) (by omega) (by omega) ?_
    exact (kp.go K2) (by omega) H locs ls hP hD hS (lv_sub hl [0, 1, 2, 3, 4, 5, 6, 7, 8, 9] rfl)
  · have hc_951 := c_1
    have hlt0 : q8 < 52 := by omega
    have hf9 := hf q8 (by omega) hlt0
    have hb9 := hbr q8
    refine lv_aload hx hb dL_law_954 (lv_at hl 8 rfl) ?_
    refine lv_iload hx hb dL_law_956 (lv_at hl 9 rfl) ?_
    refine z_iald hF hK hP 38 rfl (by omega) rfl dL_law_958 ?_
    refine lv_aload_n hx hb dL_law_959 rfl (lv_at hl 1 rfl) ?_
    refine lv_iload hx hb dL_law_960 (lv_at hl 9 rfl) ?_
    refine z_bipush hF dL_law_962 (by decide) ?_
    refine z_idiv hF dL_law_964 (by omega) (by decide) ?_
    refine lv_iload hx hb dL_law_965 (lv_at hl 9 rfl) ?_
    refine z_bipush hF dL_law_967 (by decide) ?_
    refine z_irem hF dL_law_969 (by omega) (by decide) ?_
    refine cj_i (vx_runSW (As := [.ref (a 0), .int (zI (q8 / 26)), .int (zI (q8 % 26))]) (rest := [.int (zI (f q8))]) hF (c_L_men l hst G (a 0) (a 1) (a 2) (a 5) (a 9) (a 11) (a 12) (a 14) (a 16) (a 24) (a 32) (a 34) (a 36) (g_ph σ) (g_mv σ) (g_sk σ) (g_ho σ) (g_lk σ) (a 35) (g_bb σ) (q8 / 26) (q8 % 26)  (by omega) (by omega) (by omega) (by omega) H.size) (vx_cwSW 3 hF.2.2.2.2 gL_law_L_men rfl rfl rfl (by decide +kernel) ⟨Nat.le_of_ble_eq_true rfl, Nat.le_of_ble_eq_true rfl⟩) (z_preS hK hP hD hS hA hBd [0, 34, 35] rfl rfl [.ref (a 0), .int (zI (q8 / 26)), .int (zI (q8 % 26))]) rfl rfl hl.1 rfl (lv_room (Nat.le_of_ble_eq_true rfl)) dL_law_970 (lx_fit (by omega) (by omega) hr)) hP hD hS hA [0, 34, 35] rfl (fun _ => Nat.le_of_ble_eq_true rfl) (fun r_3 u_2 H locs hw hP hD hS => ?_)
    have hP := wmixP [true, false, false, false, false, false, false, false, false, false, false, false, false, false, false, false, false, false, false, false, false, false, false, false, false, false, false, false, false, false, false, false, false, false, true, true] (by decide +kernel) hP
    have hD := wmixD [true, false, false, false, false, false, false, false, false, false, false, false, false, false, false, false, false, false, false, false, false, false, false, false, false, false, false, false, false, false, false, false, false, false, true, true] (by decide +kernel) hD
    obtain ⟨-, -, rfl⟩ := hw
    have hP : va_P G.1 vwCl (gW G a σ ++ [(nw, .inl (G.2.1.1, 52, .inl (aI f)))]) H := hP
    have hD : va_D A (gW G a σ ++ [(nw, .inl (G.2.1.1, 52, .inl (aI f)))]) := hD
    refine z_tz (b := g_bb σ q8) (congrArg (g_bb σ) (by omega)) ?_
    refine z_icmp_eq (tgt := 978) hF dL_law_973 (by decide) (by omega) (by omega) (fun c_4 => ?_) (fun c_4 => ?_)
    · have hc_973 := c_4
      refine z_iinc (lv' := [(27, .int (zI (q8 + 1))), (0, .ref b), (1, .ref (a 0)), (2, .int (zI all)), (3, .int (zI seats)), (5, .int (zI rec)), (6, .int (zI dz)), (13, .int (zI t)), (15, .int (zI sd)), (25, .ref nw)]) hF dL_law_978 hl (k := 9) rfl (by decide) rfl (fun ls hl => ?_)
      refine z_goto (tgt := 947) hF dL_law_981 (by decide) ?_
      refine W.widen (k := cells + 4) (n := slots + 24) (by omega) (by omega) ?_
      exact (kp.go K1) hlt0 H locs ls hP hD hS (lv_sub hl [1, 2, 3, 4, 5, 6, 7, 8, 9, 0] rfl)
    · exfalso; omega

/-- the men compared -/
theorem lp_7 {p : Program} {l : Launch} {e : Env} {s : State} {m : MethodId} {args : Array Value} {below : List Frame} {meth : Method} {c : Code} {G : wG} {A : Nat → Prop} {b Ln : Nat} {sx : Nat → Int32} {Q0 : State → Prop} {cells slots : Nat} {a : Nat → Nat} (hC : lwC6 p l s m args c G A b Ln sx) {all seats t dz rec sd : Int} {σ : gS} {f : Int → Int} {nw : Nat} (hr : cells + 300 ≤ 600130 ∧ slots + 1500 ≤ 7301080) (hf : ∀ q : Int, 0 ≤ q → q < 52 → f q = g_bb σ q) (hbr : ∀ q : Int, 0 ≤ g_bb σ q ∧ g_bb σ q ≤ 15)
    (K : ∀ {q8 : Int} {kc ks : Nat}, kc ≤ cells + 212 ∧ ks ≤ slots + 1272 → ∀ {H : Heap} {locs : List Loc} {ls : Array Slot}, va_P G.1 vwCl (gW G a σ ++ [(nw, .inl (G.2.1.1, 52, .inl (aI f)))]) H → va_D A (gW G a σ ++ [(nw, .inl (G.2.1.1, 52, .inl (aI f)))]) → va_S A s.heap H locs → lv_has ls 31 [(0, .ref b), (1, .ref (a 0)), (2, .int (zI all)), (3, .int (zI seats)), (5, .int (zI rec)), (6, .int (zI dz)), (13, .int (zI t)), (15, .int (zI sd)), (25, .ref nw), (27, .int (zI q8))] → W p l e room_1 s m args below meth c H locs kc ks Q0 (F0 m 984 ls [])) :
    ∀ (g9 : Nat) {q8 : Int} {kc ks : Nat}, (53 - q8).toNat < g9 → 0 ≤ q8 ∧ q8 ≤ 52 → kc ≤ cells + 4 * q8.toNat ∧ ks ≤ slots + 24 * q8.toNat → ∀ {H : Heap} {locs : List Loc} {ls : Array Slot}, va_P G.1 vwCl (gW G a σ ++ [(nw, .inl (G.2.1.1, 52, .inl (aI f)))]) H → va_D A (gW G a σ ++ [(nw, .inl (G.2.1.1, 52, .inl (aI f)))]) → va_S A s.heap H locs → lv_has ls 31 [(0, .ref b), (1, .ref (a 0)), (2, .int (zI all)), (3, .int (zI seats)), (5, .int (zI rec)), (6, .int (zI dz)), (13, .int (zI t)), (15, .int (zI sd)), (25, .ref nw), (27, .int (zI q8))] → W p l e room_1 s m args below meth c H locs kc ks Q0 (F0 m 947 ls []) := by
  intro g9
  induction g9 with
  | zero => intro q8 kc ks h; omega
  | succ g9 ih =>
    intro q8 kc ks hmu hp hk H locs ls hP hD hS hl
    have hp4 : q8.toNat ≤ 52 := by omega
    refine sg_7 hC (by omega) hp hf hbr (kp.mk ?_) (kp.mk ?_) hP hD hS hl
    · intro hlt H locs ls hP hD hS hl
      exact ih (by omega) (by omega) (by omega) hP hD hS hl
    · intro hn H locs ls hP hD hS hl
      exact K (by omega) hP hD hS hl
