set_option maxHeartbeats 4000000 in
set_option maxRecDepth 100000 in
theorem sg_4 {p : Program} {l : Launch} {e : Env} {s : State} {m : MethodId} {args : Array Value} {below : List Frame} {meth : Method} {c : Code} {G : wG} {A : Nat → Prop} {b Ln : Nat} {sx : Nat → Int32} {Q0 : State → Prop} {cells slots : Nat} {a : Nat → Nat} (hC : lwC6 p l s m args c G A b Ln sx) {all seats t dz rec sd D E n0 c0 k P0 P1 f1 f2 : Int} {fr0 b0 : Int → Int} {hits spent j : Int} {σ : gS} (hr : cells + 240 ≤ 600130 ∧ slots + 1440 ≤ 7301080) (hg : gL all seats t dz sd D E n0 c0 rec k fr0 P0 P1 hits spent j b0 σ) (hj : 0 ≤ j ∧ j ≤ n0) (hall : 0 ≤ all ∧ all ≤ 15) (hDD : D = zmax f1 f2) (hEE : E = zmin f1 f2) (hf1 : 1 ≤ f1 ∧ f1 ≤ 6) (hf2 : 1 ≤ f2 ∧ f2 ≤ 6)
    (K1 : kp (∀ (σ : gS) (hits spent : Int), gL all seats t dz sd D E n0 c0 rec k fr0 P0 P1 hits spent (j + 1) b0 σ → j < n0 → ∀ (H : Heap) (locs : List Loc) (ls : Array Slot), va_P G.1 vwCl (gW G a σ) H → va_D A (gW G a σ) → va_S A s.heap H locs → lv_has ls 31 [(0, .ref b), (1, .ref (a 0)), (2, .int (zI all)), (3, .int (zI seats)), (5, .int (zI rec)), (6, .int (zI dz)), (13, .int (zI t)), (15, .int (zI sd)), (16, .int (zI f1)), (17, .int (zI f2)), (19, .int (zI P0)), (20, .int (zI P1)), (21, .int (zI k)), (22, .int (zI n0)), (23, .int (zI hits)), (24, .int (zI spent)), (25, .int (zI (j + 1)))] → W p l e room_1 s m args below meth c H locs (cells + 240) (slots + 1440) Q0 (F0 m 618 ls [])))
    (K2 : kp (n0 ≤ j → ∀ (H : Heap) (locs : List Loc) (ls : Array Slot), va_P G.1 vwCl (gW G a σ) H → va_D A (gW G a σ) → va_S A s.heap H locs → lv_has ls 31 [(0, .ref b), (1, .ref (a 0)), (2, .int (zI all)), (3, .int (zI seats)), (5, .int (zI rec)), (6, .int (zI dz)), (13, .int (zI t)), (15, .int (zI sd)), (16, .int (zI f1)), (17, .int (zI f2)), (19, .int (zI P0)), (20, .int (zI P1)), (21, .int (zI k)), (22, .int (zI n0)), (23, .int (zI hits)), (24, .int (zI spent)), (25, .int (zI j))] → W p l e room_1 s m args below meth c H locs (cells + 240) (slots + 1440) Q0 (F0 m 802 ls [])))
    {H : Heap} {locs : List Loc} {ls : Array Slot} (hP : va_P G.1 vwCl (gW G a σ) H) (hD : va_D A (gW G a σ)) (hS : va_S A s.heap H locs) (hl : lv_has ls 31 [(0, .ref b), (1, .ref (a 0)), (2, .int (zI all)), (3, .int (zI seats)), (5, .int (zI rec)), (6, .int (zI dz)), (13, .int (zI t)), (15, .int (zI sd)), (16, .int (zI f1)), (17, .int (zI f2)), (19, .int (zI P0)), (20, .int (zI P1)), (21, .int (zI k)), (22, .int (zI n0)), (23, .int (zI hits)), (24, .int (zI spent)), (25, .int (zI j))]) : W p l e room_1 s m args below meth c H locs cells slots Q0 (F0 m 618 ls []) := by
  obtain ⟨hF, hst, hK, hBd, hA, hX, hbl, hbA, hLn, hts⟩ := hC
  have hx := hF.1
  have hb := hF.2.1
  have hg0 := hg
  obtain ⟨hI, hB, hR, ⟨e1, e2, e3, e4, e5, e6, e7, e8, e9⟩, hk, hm, hp0, hp1, hh, hgl, hll, hq0, hq9⟩ := hg0
  have hn4 := gR_ln hI hB hR
  have hc30 := hI.2.2.1.1
  have hz := zab hf1 hf2
  have hDr := gR_dg hR
  have hEr := gR_dl hR
  have hx1 : 1 ≤ zmax f1 f2 ∧ zmax f1 f2 ≤ 6 ∧ 1 ≤ zmin f1 f2 ∧ zmin f1 f2 ≤ 6 := by rw [← hDD, ← hEE]; omega
  have hp9 := pipB_rg (sd := 1 - sd) hB.2.2.2.1 hI.all15 (by have := hI.mv; omega)
  have hpa := pipB_rg (sd := sd) hB.2.2.2.1 hI.all15 (by have := hI.mv; omega)
  have kc_63 : (Cond.constant RL 63 (-1500000)).before args s = true := hts _ (by decide +kernel)
  have km_218 : (Cond.methodLink RL 218 Lib.Math.max.name).before args s = true := hts _ (by decide +kernel)
  have km_223 : (Cond.methodLink RL 223 Lib.Math.min.name).before args s = true := hts _ (by decide +kernel)
  have km_226 : (Cond.methodLink RL 226 Lib.Math.abs.name).before args s = true := hts _ (by decide +kernel)
  have kq_abs : (Cond.code Lib.Math.abs.name Lib.Math.abs.code 1 (some .int)).before args s = true := hts _ (by decide +kernel)
  have kq_max : (Cond.code Lib.Math.max.name Lib.Math.max.code 2 (some .int)).before args s = true := hts _ (by decide +kernel)
  have kq_min : (Cond.code Lib.Math.min.name Lib.Math.min.code 2 (some .int)).before args s = true := hts _ (by decide +kernel)
  have ks_abs : (Cond.static Lib.Math.abs.name).before args s = true := hts _ (by decide +kernel)
  have ks_max : (Cond.static Lib.Math.max.name).before args s = true := hts _ (by decide +kernel)
  have ks_min : (Cond.static Lib.Math.min.name).before args s = true := hts _ (by decide +kernel)
  have kt_Math : (Cond.initialized "java/lang/Math").before args s = true := hts _ (by decide +kernel)
  refine lv_iload hx hb dL_law_618 (lv_at hl 16 rfl) ?_
  refine lv_iload hx hb dL_law_620 (lv_at hl 13 rfl) ?_
  refine z_icmp_ge (tgt := 802) hF dL_law_622 (by decide) (by omega) (by omega) (fun c_1 => ?_) (fun c_1 => ?_)
  · have hc_622 := c_1
    refine W.widen (k := cells + 240) (n := slots + 1440) (by omega) (by omega) ?_
    exact (kp.go K2) (by omega) H locs ls hP hD hS (lv_sub hl [0, 1, 2, 3, 4, 5, 6, 7, 8, 9, 10, 11, 12, 13, 14, 15, 16] rfl)
  · have hc_622 := c_1
    have hlt0 : j < n0 := by omega
    obtain ⟨F, T, d, eF, eT, hFT, hc, hd, hTd, hus, hnx, halt, hED⟩ := gL_step hg ⟨hj.1, hlt0⟩
    refine lv_aload_n hx hb dL_law_625 rfl (lv_at hl 1 rfl) ?_
    refine lv_iload hx hb dL_law_626 (lv_at hl 12 rfl) ?_
    refine lv_iload hx hb dL_law_628 (lv_at hl 16 rfl) ?_
    refine cj_i (vx_runSW (As := [.ref (a 0), .int (zI k), .int (zI j)]) (rest := []) hF (c_L_moveFrom l hst G (a 0) (a 1) (a 2) (a 5) (a 9) (a 11) (a 12) (a 14) (a 16) (a 24) (a 32) (a 34) (a 36) (g_ph σ) (g_mv σ) (g_sk σ) (g_ho σ) (g_lk σ) (a 17) (a 19) (a 20) (a 21) (a 22) (a 23) (g_sd0 σ) (g_cnt σ) (g_ln σ) (g_gr σ) (g_fr σ) k j  (gI.ph hI) hI.2.2.1.1 (gR_ln hI hB hR) (gR_rr hI hB hR) (by omega) (by omega) e1 (by omega) (by omega) H.size) (vx_cwSW 3 hF.2.2.2.2 gL_law_L_moveFrom rfl rfl rfl (by decide +kernel) ⟨Nat.le_of_ble_eq_true rfl, Nat.le_of_ble_eq_true rfl⟩) (z_preS hK hP hD hS hA hBd [0, 16, 19] rfl rfl [.ref (a 0), .int (zI k), .int (zI j)]) rfl rfl hl.1 rfl (lv_room (Nat.le_of_ble_eq_true rfl)) dL_law_630 (lx_fit (by omega) (by omega) hr)) hP hD hS hA [0, 16, 19] rfl (fun _ => Nat.le_of_ble_eq_true rfl) (fun r_3 u_2 H locs hw hP hD hS => ?_)
    have hP := wmixP [true, false, false, false, false, false, false, false, false, false, false, false, false, false, false, false, true, false, false, true] (by decide +kernel) hP
    have hD := wmixD [true, false, false, false, false, false, false, false, false, false, false, false, false, false, false, false, true, false, false, true] (by decide +kernel) hD
    obtain ⟨-, -, -, rfl⟩ := hw
    have hP : va_P G.1 vwCl (gW G a σ) H := hP
    have hD : va_D A (gW G a σ) := hD
    refine z_tz (b := F) eF ?_
    refine lv_istore (lv' := [(26, .int (zI F)), (0, .ref b), (1, .ref (a 0)), (2, .int (zI all)), (3, .int (zI seats)), (5, .int (zI rec)), (6, .int (zI dz)), (13, .int (zI t)), (15, .int (zI sd)), (16, .int (zI f1)), (17, .int (zI f2)), (19, .int (zI P0)), (20, .int (zI P1)), (21, .int (zI k)), (22, .int (zI n0)), (23, .int (zI hits)), (24, .int (zI spent)), (25, .int (zI j))]) hx hb dL_law_633 hl (by decide) rfl (fun ls hl => ?_)
    refine lv_aload_n hx hb dL_law_635 rfl (lv_at hl 2 rfl) ?_
    refine lv_iload hx hb dL_law_636 (lv_at hl 13 rfl) ?_
    refine lv_iload hx hb dL_law_638 (lv_at hl 17 rfl) ?_
    refine cj_i (vx_runSW (As := [.ref (a 0), .int (zI k), .int (zI j)]) (rest := []) hF (c_L_moveTo l hst G (a 0) (a 1) (a 2) (a 5) (a 9) (a 11) (a 12) (a 14) (a 16) (a 24) (a 32) (a 34) (a 36) (g_ph σ) (g_mv σ) (g_sk σ) (g_ho σ) (g_lk σ) (a 17) (a 19) (a 20) (a 21) (a 22) (a 23) (g_sd0 σ) (g_cnt σ) (g_ln σ) (g_gr σ) (g_fr σ) k j  (gI.ph hI) hI.2.2.1.1 (gR_ln hI hB hR) (gR_rr hI hB hR) (by omega) (by omega) e1 (by omega) (by omega) H.size) (vx_cwSW 3 hF.2.2.2.2 gL_law_L_moveTo rfl rfl rfl (by decide +kernel) ⟨Nat.le_of_ble_eq_true rfl, Nat.le_of_ble_eq_true rfl⟩) (z_preS hK hP hD hS hA hBd [0, 16, 19] rfl rfl [.ref (a 0), .int (zI k), .int (zI j)]) rfl rfl hl.1 rfl (lv_room (Nat.le_of_ble_eq_true rfl)) dL_law_640 (lx_fit (by omega) (by omega) hr)) hP hD hS hA [0, 16, 19] rfl (fun _ => Nat.le_of_ble_eq_true rfl) (fun r_5 u_4 H locs hw hP hD hS => ?_)
    have hP := wmixP [true, false, false, false, false, false, false, false, false, false, false, false, false, false, false, false, true, false, false, true] (by decide +kernel) hP
    have hD := wmixD [true, false, false, false, false, false, false, false, false, false, false, false, false, false, false, false, true, false, false, true] (by decide +kernel) hD
    obtain ⟨-, -, -, rfl⟩ := hw
    have hP : va_P G.1 vwCl (gW G a σ) H := hP
    have hD : va_D A (gW G a σ) := hD
    refine z_tz (b := T) eT ?_
    refine lv_istore (lv' := [(27, .int (zI T)), (26, .int (zI F)), (0, .ref b), (1, .ref (a 0)), (2, .int (zI all)), (3, .int (zI seats)), (5, .int (zI rec)), (6, .int (zI dz)), (13, .int (zI t)), (15, .int (zI sd)), (16, .int (zI f1)), (17, .int (zI f2)), (19, .int (zI P0)), (20, .int (zI P1)), (21, .int (zI k)), (22, .int (zI n0)), (23, .int (zI hits)), (24, .int (zI spent)), (25, .int (zI j))]) hx hb dL_law_643 hl (by decide) rfl (fun ls hl => ?_)
    refine lv_iload hx hb dL_law_645 (lv_at hl 0 rfl) ?_
    refine z_if_le (tgt := 658) hF dL_law_647 (by decide) (by omega) (fun c_6 => ?_) (fun c_6 => ?_)
    · have hc_647 := c_6
      refine z_iconst hF dL_law_658 ?_
      refine lv_istore (lv' := [(28, .int (zI 0)), (27, .int (zI T)), (26, .int (zI F)), (0, .ref b), (1, .ref (a 0)), (2, .int (zI all)), (3, .int (zI seats)), (5, .int (zI rec)), (6, .int (zI dz)), (13, .int (zI t)), (15, .int (zI sd)), (16, .int (zI f1)), (17, .int (zI f2)), (19, .int (zI P0)), (20, .int (zI P1)), (21, .int (zI k)), (22, .int (zI n0)), (23, .int (zI hits)), (24, .int (zI spent)), (25, .int (zI j))]) hx hb dL_law_659 hl (by decide) rfl (fun ls hl => ?_)
      refine lv_ldc hx hb hF.2.2.2.1 kc_63 dL_law_661 ?_
      refine z_top (y := zI (-1500000)) (by decide) ?_
      refine lv_istore (lv' := [(29, .int (zI (-1500000))), (28, .int (zI 0)), (27, .int (zI T)), (26, .int (zI F)), (0, .ref b), (1, .ref (a 0)), (2, .int (zI all)), (3, .int (zI seats)), (5, .int (zI rec)), (6, .int (zI dz)), (13, .int (zI t)), (15, .int (zI sd)), (16, .int (zI f1)), (17, .int (zI f2)), (19, .int (zI P0)), (20, .int (zI P1)), (21, .int (zI k)), (22, .int (zI n0)), (23, .int (zI hits)), (24, .int (zI spent)), (25, .int (zI j))]) hx hb dL_law_663 hl (by decide) rfl (fun ls hl => ?_)
      refine lv_iload hx hb dL_law_665 (lv_at hl 3 rfl) ?_
      refine lv_iload hx hb dL_law_667 (lv_at hl 2 rfl) ?_
      refine z_icmp_le (tgt := 684) hF dL_law_669 (by decide) (by omega) (by omega) (fun c_7 => ?_) (fun c_7 => ?_)
      · exfalso; omega
      · have hc_669 := c_7
        refine lv_iload hx hb dL_law_672 (lv_at hl 3 rfl) ?_
        refine z_bipush hF dL_law_674 (by decide) ?_
        refine z_icmp_gt (tgt := 684) hF dL_law_676 (by decide) (by omega) (by decide) (fun c_8 => ?_) (fun c_8 => ?_)
        · exfalso; omega
        · have hc_676 := c_8
          refine lv_iload hx hb dL_law_679 (lv_at hl 2 rfl) ?_
          refine z_if_ge (tgt := 686) hF dL_law_681 (by decide) (by omega) (fun c_9 => ?_) (fun c_9 => ?_)
          · have hc_681 := c_9
            refine lv_iload hx hb dL_law_686 (lv_at hl 1 rfl) ?_
            refine z_if_le (tgt := 704) hF dL_law_688 (by decide) (by decide) (fun c_10 => ?_) (fun c_10 => ?_)
            · have hc_688 := c_10
              have hT0 : T = 0 := by omega
              refine lv_iload hx hb dL_law_704 (lv_at hl 12 rfl) ?_
              refine lv_iload hx hb dL_law_706 (lv_at hl 13 rfl) ?_
              refine z_max hF km_218 ks_max kt_Math kq_max hl.1 (Nat.le_of_ble_eq_true rfl) (Nat.le_of_ble_eq_true rfl) (lx_c (by omega) hr) (lx_s (by omega) hr) (by omega) (by omega) dL_law_708 ?_
              refine z_tz (b := D) hDD.symm ?_
              refine lv_istore (lv' := [(30, .int (zI D)), (29, .int (zI (-1500000))), (28, .int (zI 0)), (27, .int (zI T)), (26, .int (zI F)), (0, .ref b), (1, .ref (a 0)), (2, .int (zI all)), (3, .int (zI seats)), (5, .int (zI rec)), (6, .int (zI dz)), (13, .int (zI t)), (15, .int (zI sd)), (16, .int (zI f1)), (17, .int (zI f2)), (19, .int (zI P0)), (20, .int (zI P1)), (21, .int (zI k)), (22, .int (zI n0)), (23, .int (zI hits)), (24, .int (zI spent)), (25, .int (zI j))]) hx hb dL_law_711 hl (by decide) rfl (fun ls hl => ?_)
              refine lv_iload hx hb dL_law_713 (lv_at hl 0 rfl) ?_
              refine lv_iload hx hb dL_law_715 (lv_at hl 13 rfl) ?_
              refine lv_iload hx hb dL_law_717 (lv_at hl 14 rfl) ?_
              refine z_min hF km_223 ks_min kt_Math kq_min hl.1 (Nat.le_of_ble_eq_true rfl) (Nat.le_of_ble_eq_true rfl) (lx_c (by omega) hr) (lx_s (by omega) hr) (by omega) (by omega) dL_law_719 ?_
              refine z_tz (b := E) hEE.symm ?_
              refine z_icmp_lt (tgt := 762) hF dL_law_722 (by decide) (by omega) (by omega) (fun c_11 => ?_) (fun c_11 => ?_)
              · exfalso; omega
              · have hc_722 := c_11
                refine lv_iload hx hb dL_law_725 (lv_at hl 1 rfl) ?_
                refine lv_ldc hx hb hF.2.2.2.1 kc_63 dL_law_727 ?_
                refine z_top (y := zI (-1500000)) (by decide) ?_
                refine z_icmp_ne (tgt := 762) hF dL_law_729 (by decide) (by decide) (by decide) (fun c_12 => ?_) (fun c_12 => ?_)
                · exact absurd c_12 (by decide)
                · have hc_729 := c_12
                  refine lv_aload_n hx hb dL_law_732 rfl (lv_at hl 6 rfl) ?_
                  refine lv_iload hx hb dL_law_733 (lv_at hl 4 rfl) ?_
                  refine lv_iload hx hb dL_law_735 (lv_at hl 0 rfl) ?_
                  refine cj_i (vx_runSW (As := [.ref (a 0), .int (zI F), .int (zI D)]) (rest := []) hF (c_L_move l hst G (a 0) (a 1) (a 2) (a 5) (a 9) (a 11) (a 12) (a 14) (a 16) (a 24) (a 32) (a 34) (a 36) (g_ph σ) (g_mv σ) (g_sk σ) (g_ho σ) (g_lk σ) (g_dg σ) (g_dl σ) (g_gl σ) (g_ll σ) (g_us σ) (a 35) (g_bb σ) all F D  (gI.ph hI) (gI.mv hI) (gI.all15 hI) hB.2.2.2.1 (gR_dg hR) (gR_dl hR) (by omega) (by omega) (by omega) (by omega) e1 H.size) (vx_cwSW 3 hF.2.2.2.2 gL_law_L_move rfl rfl rfl (by decide +kernel) ⟨Nat.le_of_ble_eq_true rfl, Nat.le_of_ble_eq_true rfl⟩) (z_preS hK hP hD hS hA hBd [0, 11, 34, 35] rfl rfl [.ref (a 0), .int (zI F), .int (zI D)]) rfl rfl hl.1 rfl (lv_room (Nat.le_of_ble_eq_true rfl)) dL_law_737 (lx_fit (by omega) (by omega) hr)) hP hD hS hA [0, 11, 34, 35] rfl (fun _ => Nat.le_of_ble_eq_true rfl) (fun r_14 u_13 H locs hw hP hD hS => ?_)
                  have hP := wmixP [true, false, false, false, false, false, false, false, false, false, false, true, false, false, false, false, false, false, false, false, false, false, false, false, false, false, false, false, false, false, false, false, false, false, true, true] (by decide +kernel) hP
                  have hD := wmixD [true, false, false, false, false, false, false, false, false, false, false, true, false, false, false, false, false, false, false, false, false, false, false, false, false, false, false, false, false, false, false, false, false, false, true, true] (by decide +kernel) hD
                  rcases hw with ⟨rfl, hq1, hq2, hq3, rfl⟩ | ⟨rfl, hq1, rfl⟩
                  · skip
                    have hP : va_P G.1 vwCl (gW G a (s_move σ F D)) H := hP
                    have hD : va_D A (gW G a (s_move σ F D)) := hD
                    obtain ⟨σ1, e9, hg2⟩ : ∃ q : gS, gW G a q = gW G a (s_move σ F D) ∧ gL all seats t dz sd D E n0 c0 rec k fr0 P0 P1 (hits + hwB (g_bb σ) sd F D) (spent + (F - T)) (j + 1) b0 q := ⟨s_move σ F D, rfl, (halt hT0 (by omega) (by rw [← e2]; exact hq3))⟩
                    rw [← e9] at hP hD
                    clear e9
                    have hP : va_P G.1 vwCl (gW G a σ1) H := hP
                    have hD : va_D A (gW G a σ1) := hD
                    rw [e2]
                    have hw9 : 0 ≤ hwB (g_bb σ) sd F D ∧ hwB (g_bb σ) sd F D ≤ 1 := by unfold hwB; split <;> omega
                    refine lv_istore (lv' := [(29, .int (zI (hwB (g_bb σ) sd F D))), (30, .int (zI D)), (28, .int (zI 0)), (27, .int (zI T)), (26, .int (zI F)), (0, .ref b), (1, .ref (a 0)), (2, .int (zI all)), (3, .int (zI seats)), (5, .int (zI rec)), (6, .int (zI dz)), (13, .int (zI t)), (15, .int (zI sd)), (16, .int (zI f1)), (17, .int (zI f2)), (19, .int (zI P0)), (20, .int (zI P1)), (21, .int (zI k)), (22, .int (zI n0)), (23, .int (zI hits)), (24, .int (zI spent)), (25, .int (zI j))]) hx hb dL_law_740 hl (by decide) rfl (fun ls hl => ?_)
                    refine lv_iload hx hb dL_law_742 (lv_at hl 1 rfl) ?_
                    refine z_iconst hF dL_law_744 ?_
                    refine lv_iload hx hb dL_law_745 (lv_at hl 13 rfl) ?_
                    refine lv_iload hx hb dL_law_747 (lv_at hl 14 rfl) ?_
                    refine z_isub hF dL_law_749 ?_
                    refine z_absF hF km_226 ks_abs kt_Math kq_abs hl.1 (Nat.le_of_ble_eq_true rfl) (Nat.le_of_ble_eq_true rfl) (lx_c (by omega) hr) (lx_s (by omega) hr) (by omega) dL_law_750 ?_
                    refine z_max hF km_218 ks_max kt_Math kq_max hl.1 (Nat.le_of_ble_eq_true rfl) (Nat.le_of_ble_eq_true rfl) (lx_c (by omega) hr) (lx_s (by omega) hr) (by decide) (by omega) dL_law_753 ?_
                    refine z_isub hF dL_law_756 ?_
                    refine lv_istore (lv' := [(30, .int (zI (D - (zmax 1 (zabs (f1 - f2)))))), (29, .int (zI (hwB (g_bb σ) sd F D))), (28, .int (zI 0)), (27, .int (zI T)), (26, .int (zI F)), (0, .ref b), (1, .ref (a 0)), (2, .int (zI all)), (3, .int (zI seats)), (5, .int (zI rec)), (6, .int (zI dz)), (13, .int (zI t)), (15, .int (zI sd)), (16, .int (zI f1)), (17, .int (zI f2)), (19, .int (zI P0)), (20, .int (zI P1)), (21, .int (zI k)), (22, .int (zI n0)), (23, .int (zI hits)), (24, .int (zI spent)), (25, .int (zI j))]) hx hb dL_law_757 hl (by decide) rfl (fun ls hl => ?_)
                    refine z_goto (tgt := 713) hF dL_law_759 (by decide) ?_
                    refine lv_iload hx hb dL_law_713 (lv_at hl 0 rfl) ?_
                    refine lv_iload hx hb dL_law_715 (lv_at hl 13 rfl) ?_
                    refine lv_iload hx hb dL_law_717 (lv_at hl 14 rfl) ?_
                    refine z_min hF km_223 ks_min kt_Math kq_min hl.1 (Nat.le_of_ble_eq_true rfl) (Nat.le_of_ble_eq_true rfl) (lx_c (by omega) hr) (lx_s (by omega) hr) (by omega) (by omega) dL_law_719 ?_
                    refine z_tz (b := E) hEE.symm ?_
                    refine z_icmp_lt (tgt := 762) hF dL_law_722 (by decide) (by omega) (by omega) (fun c_15 => ?_) (fun c_15 => ?_)
                    · have hc_722 := c_15
                      refine lv_iload hx hb dL_law_762 (lv_at hl 1 rfl) ?_
                      refine z_if_ge (tgt := 769) hF dL_law_764 (by decide) (by omega) (fun c_16 => ?_) (fun c_16 => ?_)
                      · have hc_764 := c_16
                        refine lv_iload hx hb dL_law_769 (lv_at hl 19 rfl) ?_
                        refine lv_iload hx hb dL_law_771 (lv_at hl 1 rfl) ?_
                        refine z_iadd hF dL_law_773 ?_
                        refine lv_istore (lv' := [(23, .int (zI (hits + (hwB (g_bb σ) sd F D)))), (30, .int (zI (D - (zmax 1 (zabs (f1 - f2)))))), (29, .int (zI (hwB (g_bb σ) sd F D))), (28, .int (zI 0)), (27, .int (zI T)), (26, .int (zI F)), (0, .ref b), (1, .ref (a 0)), (2, .int (zI all)), (3, .int (zI seats)), (5, .int (zI rec)), (6, .int (zI dz)), (13, .int (zI t)), (15, .int (zI sd)), (16, .int (zI f1)), (17, .int (zI f2)), (19, .int (zI P0)), (20, .int (zI P1)), (21, .int (zI k)), (22, .int (zI n0)), (24, .int (zI spent)), (25, .int (zI j))]) hx hb dL_law_774 hl (by decide) rfl (fun ls hl => ?_)
                        refine lv_iload hx hb dL_law_776 (lv_at hl 20 rfl) ?_
                        refine lv_iload hx hb dL_law_778 (lv_at hl 5 rfl) ?_
                        refine lv_iload hx hb dL_law_780 (lv_at hl 4 rfl) ?_
                        refine z_isub hF dL_law_782 ?_
                        refine z_iadd hF dL_law_783 ?_
                        refine lv_istore (lv' := [(24, .int (zI (spent + (F - T)))), (23, .int (zI (hits + (hwB (g_bb σ) sd F D)))), (30, .int (zI (D - (zmax 1 (zabs (f1 - f2)))))), (29, .int (zI (hwB (g_bb σ) sd F D))), (28, .int (zI 0)), (27, .int (zI T)), (26, .int (zI F)), (0, .ref b), (1, .ref (a 0)), (2, .int (zI all)), (3, .int (zI seats)), (5, .int (zI rec)), (6, .int (zI dz)), (13, .int (zI t)), (15, .int (zI sd)), (16, .int (zI f1)), (17, .int (zI f2)), (19, .int (zI P0)), (20, .int (zI P1)), (21, .int (zI k)), (22, .int (zI n0)), (25, .int (zI j))]) hx hb dL_law_784 hl (by decide) rfl (fun ls hl => ?_)
                        refine lv_aload_n hx hb dL_law_786 rfl (lv_at hl 8 rfl) ?_
                        refine lv_iload_n hx hb dL_law_787 rfl (lv_at hl 9 rfl) ?_
                        refine cj_i (va_runS (As := [.ref (a 0), .int (zI all)]) (rest := []) hF (c_L_whole l hst G a σ1 all hall hg2.2.1.2.2.2.1 hg2.2.1.2.2.2.2 H.size) (va_cwS 2 hF.2.2.2.2 gL_law_L_whole rfl rfl rfl (by decide +kernel) ⟨Nat.le_of_ble_eq_true rfl, Nat.le_of_ble_eq_true rfl⟩) (z_preS hK hP hD hS hA hBd [0, 1, 2, 3, 4, 5, 6, 7, 8, 9, 10, 11, 12, 13, 14, 15, 16, 17, 18, 19, 20, 21, 22, 23, 24, 25, 26, 27, 28, 29, 30, 31, 32, 33, 34, 35, 36, 37] rfl rfl [.ref (a 0), .int (zI all)]) rfl rfl hl.1 rfl (lv_room (Nat.le_of_ble_eq_true rfl)) dL_law_788 (lx_fit (by omega) (by omega) hr)) hP hD hS hA [0, 1, 2, 3, 4, 5, 6, 7, 8, 9, 10, 11, 12, 13, 14, 15, 16, 17, 18, 19, 20, 21, 22, 23, 24, 25, 26, 27, 28, 29, 30, 31, 32, 33, 34, 35, 36, 37] rfl (fun _ => Nat.le_of_ble_eq_true rfl) (fun r_18 u_17 H locs hw hP hD hS => ?_)
                        have hP := wmixP [true, true, true, true, true, true, true, true, true, true, true, true, true, true, true, true, true, true, true, true, true, true, true, true, true, true, true, true, true, true, true, true, true, true, true, true, true, true] (by decide +kernel) hP
                        have hD := wmixD [true, true, true, true, true, true, true, true, true, true, true, true, true, true, true, true, true, true, true, true, true, true, true, true, true, true, true, true, true, true, true, true, true, true, true, true, true, true] (by decide +kernel) hD
                        obtain rfl := hw
                        have hP : va_P G.1 vwCl (gW G a σ1) H := hP
                        have hD : va_D A (gW G a σ1) := hD
                        refine z_if_ne (tgt := 796) hF dL_law_791 (by decide) (by decide) (fun c_19 => ?_) (fun c_19 => ?_)
                        · have hc_791 := c_19
                          refine z_iinc (lv' := [(25, .int (zI (j + 1))), (24, .int (zI (spent + (F - T)))), (23, .int (zI (hits + (hwB (g_bb σ) sd F D)))), (30, .int (zI (D - (zmax 1 (zabs (f1 - f2)))))), (29, .int (zI (hwB (g_bb σ) sd F D))), (28, .int (zI 0)), (27, .int (zI T)), (26, .int (zI F)), (0, .ref b), (1, .ref (a 0)), (2, .int (zI all)), (3, .int (zI seats)), (5, .int (zI rec)), (6, .int (zI dz)), (13, .int (zI t)), (15, .int (zI sd)), (16, .int (zI f1)), (17, .int (zI f2)), (19, .int (zI P0)), (20, .int (zI P1)), (21, .int (zI k)), (22, .int (zI n0))]) hF dL_law_796 hl (k := 21) rfl (by decide) rfl (fun ls hl => ?_)
                          refine z_goto (tgt := 618) hF dL_law_799 (by decide) ?_
                          refine W.widen (k := cells + 240) (n := slots + 1440) (by omega) (by omega) ?_
                          exact (kp.go K1) σ1 (hits + (hwB (g_bb σ) sd F D)) (spent + (F - T)) hg2 hlt0 H locs ls hP hD hS (lv_sub hl [8, 9, 10, 11, 12, 13, 14, 15, 16, 17, 18, 19, 20, 21, 2, 1, 0] rfl)
                        · exact absurd c_19 (by decide)
                      · exfalso; omega
                    · have hc_722 := c_15
                      refine lv_iload hx hb dL_law_725 (lv_at hl 1 rfl) ?_
                      refine lv_ldc hx hb hF.2.2.2.1 kc_63 dL_law_727 ?_
                      refine z_top (y := zI (-1500000)) (by decide) ?_
                      refine z_icmp_ne (tgt := 762) hF dL_law_729 (by decide) (by omega) (by decide) (fun c_20 => ?_) (fun c_20 => ?_)
                      · have hc_729 := c_20
                        refine lv_iload hx hb dL_law_762 (lv_at hl 1 rfl) ?_
                        refine z_if_ge (tgt := 769) hF dL_law_764 (by decide) (by omega) (fun c_21 => ?_) (fun c_21 => ?_)
                        · have hc_764 := c_21
                          refine lv_iload hx hb dL_law_769 (lv_at hl 19 rfl) ?_
                          refine lv_iload hx hb dL_law_771 (lv_at hl 1 rfl) ?_
                          refine z_iadd hF dL_law_773 ?_
                          refine lv_istore (lv' := [(23, .int (zI (hits + (hwB (g_bb σ) sd F D)))), (30, .int (zI (D - (zmax 1 (zabs (f1 - f2)))))), (29, .int (zI (hwB (g_bb σ) sd F D))), (28, .int (zI 0)), (27, .int (zI T)), (26, .int (zI F)), (0, .ref b), (1, .ref (a 0)), (2, .int (zI all)), (3, .int (zI seats)), (5, .int (zI rec)), (6, .int (zI dz)), (13, .int (zI t)), (15, .int (zI sd)), (16, .int (zI f1)), (17, .int (zI f2)), (19, .int (zI P0)), (20, .int (zI P1)), (21, .int (zI k)), (22, .int (zI n0)), (24, .int (zI spent)), (25, .int (zI j))]) hx hb dL_law_774 hl (by decide) rfl (fun ls hl => ?_)
                          refine lv_iload hx hb dL_law_776 (lv_at hl 20 rfl) ?_
                          refine lv_iload hx hb dL_law_778 (lv_at hl 5 rfl) ?_
                          refine lv_iload hx hb dL_law_780 (lv_at hl 4 rfl) ?_
                          refine z_isub hF dL_law_782 ?_
                          refine z_iadd hF dL_law_783 ?_
                          refine lv_istore (lv' := [(24, .int (zI (spent + (F - T)))), (23, .int (zI (hits + (hwB (g_bb σ) sd F D)))), (30, .int (zI (D - (zmax 1 (zabs (f1 - f2)))))), (29, .int (zI (hwB (g_bb σ) sd F D))), (28, .int (zI 0)), (27, .int (zI T)), (26, .int (zI F)), (0, .ref b), (1, .ref (a 0)), (2, .int (zI all)), (3, .int (zI seats)), (5, .int (zI rec)), (6, .int (zI dz)), (13, .int (zI t)), (15, .int (zI sd)), (16, .int (zI f1)), (17, .int (zI f2)), (19, .int (zI P0)), (20, .int (zI P1)), (21, .int (zI k)), (22, .int (zI n0)), (25, .int (zI j))]) hx hb dL_law_784 hl (by decide) rfl (fun ls hl => ?_)
                          refine lv_aload_n hx hb dL_law_786 rfl (lv_at hl 8 rfl) ?_
                          refine lv_iload_n hx hb dL_law_787 rfl (lv_at hl 9 rfl) ?_
                          refine cj_i (va_runS (As := [.ref (a 0), .int (zI all)]) (rest := []) hF (c_L_whole l hst G a σ1 all hall hg2.2.1.2.2.2.1 hg2.2.1.2.2.2.2 H.size) (va_cwS 2 hF.2.2.2.2 gL_law_L_whole rfl rfl rfl (by decide +kernel) ⟨Nat.le_of_ble_eq_true rfl, Nat.le_of_ble_eq_true rfl⟩) (z_preS hK hP hD hS hA hBd [0, 1, 2, 3, 4, 5, 6, 7, 8, 9, 10, 11, 12, 13, 14, 15, 16, 17, 18, 19, 20, 21, 22, 23, 24, 25, 26, 27, 28, 29, 30, 31, 32, 33, 34, 35, 36, 37] rfl rfl [.ref (a 0), .int (zI all)]) rfl rfl hl.1 rfl (lv_room (Nat.le_of_ble_eq_true rfl)) dL_law_788 (lx_fit (by omega) (by omega) hr)) hP hD hS hA [0, 1, 2, 3, 4, 5, 6, 7, 8, 9, 10, 11, 12, 13, 14, 15, 16, 17, 18, 19, 20, 21, 22, 23, 24, 25, 26, 27, 28, 29, 30, 31, 32, 33, 34, 35, 36, 37] rfl (fun _ => Nat.le_of_ble_eq_true rfl) (fun r_23 u_22 H locs hw hP hD hS => ?_)
                          have hP := wmixP [true, true, true, true, true, true, true, true, true, true, true, true, true, true, true, true, true, true, true, true, true, true, true, true, true, true, true, true, true, true, true, true, true, true, true, true, true, true] (by decide +kernel) hP
                          have hD := wmixD [true, true, true, true, true, true, true, true, true, true, true, true, true, true, true, true, true, true, true, true, true, true, true, true, true, true, true, true, true, true, true, true, true, true, true, true, true, true] (by decide +kernel) hD
                          obtain rfl := hw
                          have hP : va_P G.1 vwCl (gW G a σ1) H := hP
                          have hD : va_D A (gW G a σ1) := hD
                          refine z_if_ne (tgt := 796) hF dL_law_791 (by decide) (by decide) (fun c_24 => ?_) (fun c_24 => ?_)
                          · have hc_791 := c_24
                            refine z_iinc (lv' := [(25, .int (zI (j + 1))), (24, .int (zI (spent + (F - T)))), (23, .int (zI (hits + (hwB (g_bb σ) sd F D)))), (30, .int (zI (D - (zmax 1 (zabs (f1 - f2)))))), (29, .int (zI (hwB (g_bb σ) sd F D))), (28, .int (zI 0)), (27, .int (zI T)), (26, .int (zI F)), (0, .ref b), (1, .ref (a 0)), (2, .int (zI all)), (3, .int (zI seats)), (5, .int (zI rec)), (6, .int (zI dz)), (13, .int (zI t)), (15, .int (zI sd)), (16, .int (zI f1)), (17, .int (zI f2)), (19, .int (zI P0)), (20, .int (zI P1)), (21, .int (zI k)), (22, .int (zI n0))]) hF dL_law_796 hl (k := 21) rfl (by decide) rfl (fun ls hl => ?_)
                            refine z_goto (tgt := 618) hF dL_law_799 (by decide) ?_
                            refine W.widen (k := cells + 240) (n := slots + 1440) (by omega) (by omega) ?_
                            exact (kp.go K1) σ1 (hits + (hwB (g_bb σ) sd F D)) (spent + (F - T)) hg2 hlt0 H locs ls hP hD hS (lv_sub hl [8, 9, 10, 11, 12, 13, 14, 15, 16, 17, 18, 19, 20, 21, 2, 1, 0] rfl)
                          · exact absurd c_24 (by decide)
                        · exfalso; omega
                      · exfalso; omega
                  · skip
                    have hP : va_P G.1 vwCl (gW G a σ) H := hP
                    have hD : va_D A (gW G a σ) := hD
                    have hdE2 : d ≠ D ∧ d = E := by
                      rcases hus with h9 | h9
                      · exact (hq1.2 ⟨Or.inl ⟨by omega, h9.2⟩, by rw [e2, ← h9.1]; exact hc⟩).elim
                      · exact ⟨h9.1, h9.2.1⟩
                    have hdE : d = E := hdE2.2
                    have hlt : E < D := by have := hdE2.1; omega
                    refine lv_istore (lv' := [(29, .int (zI (-1500000))), (30, .int (zI D)), (28, .int (zI 0)), (27, .int (zI T)), (26, .int (zI F)), (0, .ref b), (1, .ref (a 0)), (2, .int (zI all)), (3, .int (zI seats)), (5, .int (zI rec)), (6, .int (zI dz)), (13, .int (zI t)), (15, .int (zI sd)), (16, .int (zI f1)), (17, .int (zI f2)), (19, .int (zI P0)), (20, .int (zI P1)), (21, .int (zI k)), (22, .int (zI n0)), (23, .int (zI hits)), (24, .int (zI spent)), (25, .int (zI j))]) hx hb dL_law_740 hl (by decide) rfl (fun ls hl => ?_)
                    refine lv_iload hx hb dL_law_742 (lv_at hl 1 rfl) ?_
                    refine z_iconst hF dL_law_744 ?_
                    refine lv_iload hx hb dL_law_745 (lv_at hl 13 rfl) ?_
                    refine lv_iload hx hb dL_law_747 (lv_at hl 14 rfl) ?_
                    refine z_isub hF dL_law_749 ?_
                    refine z_absF hF km_226 ks_abs kt_Math kq_abs hl.1 (Nat.le_of_ble_eq_true rfl) (Nat.le_of_ble_eq_true rfl) (lx_c (by omega) hr) (lx_s (by omega) hr) (by omega) dL_law_750 ?_
                    refine z_max hF km_218 ks_max kt_Math kq_max hl.1 (Nat.le_of_ble_eq_true rfl) (Nat.le_of_ble_eq_true rfl) (lx_c (by omega) hr) (lx_s (by omega) hr) (by decide) (by omega) dL_law_753 ?_
                    refine z_isub hF dL_law_756 ?_
                    refine z_tz (b := E) (by have := hz.2.2 (by omega); omega) ?_
                    refine lv_istore (lv' := [(30, .int (zI E)), (29, .int (zI (-1500000))), (28, .int (zI 0)), (27, .int (zI T)), (26, .int (zI F)), (0, .ref b), (1, .ref (a 0)), (2, .int (zI all)), (3, .int (zI seats)), (5, .int (zI rec)), (6, .int (zI dz)), (13, .int (zI t)), (15, .int (zI sd)), (16, .int (zI f1)), (17, .int (zI f2)), (19, .int (zI P0)), (20, .int (zI P1)), (21, .int (zI k)), (22, .int (zI n0)), (23, .int (zI hits)), (24, .int (zI spent)), (25, .int (zI j))]) hx hb dL_law_757 hl (by decide) rfl (fun ls hl => ?_)
                    refine z_goto (tgt := 713) hF dL_law_759 (by decide) ?_
                    refine lv_iload hx hb dL_law_713 (lv_at hl 0 rfl) ?_
                    refine lv_iload hx hb dL_law_715 (lv_at hl 13 rfl) ?_
                    refine lv_iload hx hb dL_law_717 (lv_at hl 14 rfl) ?_
                    refine z_min hF km_223 ks_min kt_Math kq_min hl.1 (Nat.le_of_ble_eq_true rfl) (Nat.le_of_ble_eq_true rfl) (lx_c (by omega) hr) (lx_s (by omega) hr) (by omega) (by omega) dL_law_719 ?_
                    refine z_tz (b := E) hEE.symm ?_
                    refine z_icmp_lt (tgt := 762) hF dL_law_722 (by decide) (by omega) (by omega) (fun c_25 => ?_) (fun c_25 => ?_)
                    · exfalso; omega
                    · have hc_722 := c_25
                      refine lv_iload hx hb dL_law_725 (lv_at hl 1 rfl) ?_
                      refine lv_ldc hx hb hF.2.2.2.1 kc_63 dL_law_727 ?_
                      refine z_top (y := zI (-1500000)) (by decide) ?_
                      refine z_icmp_ne (tgt := 762) hF dL_law_729 (by decide) (by decide) (by decide) (fun c_26 => ?_) (fun c_26 => ?_)
                      · exact absurd c_26 (by decide)
                      · have hc_729 := c_26
                        refine lv_aload_n hx hb dL_law_732 rfl (lv_at hl 6 rfl) ?_
                        refine lv_iload hx hb dL_law_733 (lv_at hl 4 rfl) ?_
                        refine lv_iload hx hb dL_law_735 (lv_at hl 0 rfl) ?_
                        refine cj_i (vx_runSW (As := [.ref (a 0), .int (zI F), .int (zI E)]) (rest := []) hF (c_L_move l hst G (a 0) (a 1) (a 2) (a 5) (a 9) (a 11) (a 12) (a 14) (a 16) (a 24) (a 32) (a 34) (a 36) (g_ph σ) (g_mv σ) (g_sk σ) (g_ho σ) (g_lk σ) (g_dg σ) (g_dl σ) (g_gl σ) (g_ll σ) (g_us σ) (a 35) (g_bb σ) all F E  (gI.ph hI) (gI.mv hI) (gI.all15 hI) hB.2.2.2.1 (gR_dg hR) (gR_dl hR) (by omega) (by omega) (by omega) (by omega) e1 H.size) (vx_cwSW 3 hF.2.2.2.2 gL_law_L_move rfl rfl rfl (by decide +kernel) ⟨Nat.le_of_ble_eq_true rfl, Nat.le_of_ble_eq_true rfl⟩) (z_preS hK hP hD hS hA hBd [0, 11, 34, 35] rfl rfl [.ref (a 0), .int (zI F), .int (zI E)]) rfl rfl hl.1 rfl (lv_room (Nat.le_of_ble_eq_true rfl)) dL_law_737 (lx_fit (by omega) (by omega) hr)) hP hD hS hA [0, 11, 34, 35] rfl (fun _ => Nat.le_of_ble_eq_true rfl) (fun r_28 u_27 H locs hw hP hD hS => ?_)
                        have hP := wmixP [true, false, false, false, false, false, false, false, false, false, false, true, false, false, false, false, false, false, false, false, false, false, false, false, false, false, false, false, false, false, false, false, false, false, true, true] (by decide +kernel) hP
                        have hD := wmixD [true, false, false, false, false, false, false, false, false, false, false, true, false, false, false, false, false, false, false, false, false, false, false, false, false, false, false, false, false, false, false, false, false, false, true, true] (by decide +kernel) hD
                        rcases hw with ⟨rfl, hq1, hq2, hq3, rfl⟩ | ⟨rfl, hq1, rfl⟩
                        · skip
                          have hP : va_P G.1 vwCl (gW G a (s_move σ F E)) H := hP
                          have hD : va_D A (gW G a (s_move σ F E)) := hD
                          obtain ⟨σ2, e9, hg2⟩ : ∃ q : gS, gW G a q = gW G a (s_move σ F E) ∧ gL all seats t dz sd D E n0 c0 rec k fr0 P0 P1 (hits + hwB (g_bb σ) sd F E) (spent + (F - T)) (j + 1) b0 q := ⟨s_move σ F E, rfl, (by have h9 := hnx; rw [hdE] at h9; exact h9)⟩
                          rw [← e9] at hP hD
                          clear e9
                          have hP : va_P G.1 vwCl (gW G a σ2) H := hP
                          have hD : va_D A (gW G a σ2) := hD
                          rw [e2]
                          have hw9 : 0 ≤ hwB (g_bb σ) sd F E ∧ hwB (g_bb σ) sd F E ≤ 1 := by unfold hwB; split <;> omega
                          refine lv_istore (lv' := [(29, .int (zI (hwB (g_bb σ) sd F E))), (30, .int (zI E)), (28, .int (zI 0)), (27, .int (zI T)), (26, .int (zI F)), (0, .ref b), (1, .ref (a 0)), (2, .int (zI all)), (3, .int (zI seats)), (5, .int (zI rec)), (6, .int (zI dz)), (13, .int (zI t)), (15, .int (zI sd)), (16, .int (zI f1)), (17, .int (zI f2)), (19, .int (zI P0)), (20, .int (zI P1)), (21, .int (zI k)), (22, .int (zI n0)), (23, .int (zI hits)), (24, .int (zI spent)), (25, .int (zI j))]) hx hb dL_law_740 hl (by decide) rfl (fun ls hl => ?_)
                          refine lv_iload hx hb dL_law_742 (lv_at hl 1 rfl) ?_
                          refine z_iconst hF dL_law_744 ?_
                          refine lv_iload hx hb dL_law_745 (lv_at hl 13 rfl) ?_
                          refine lv_iload hx hb dL_law_747 (lv_at hl 14 rfl) ?_
                          refine z_isub hF dL_law_749 ?_
                          refine z_absF hF km_226 ks_abs kt_Math kq_abs hl.1 (Nat.le_of_ble_eq_true rfl) (Nat.le_of_ble_eq_true rfl) (lx_c (by omega) hr) (lx_s (by omega) hr) (by omega) dL_law_750 ?_
                          refine z_max hF km_218 ks_max kt_Math kq_max hl.1 (Nat.le_of_ble_eq_true rfl) (Nat.le_of_ble_eq_true rfl) (lx_c (by omega) hr) (lx_s (by omega) hr) (by decide) (by omega) dL_law_753 ?_
                          refine z_isub hF dL_law_756 ?_
                          refine lv_istore (lv' := [(30, .int (zI (E - (zmax 1 (zabs (f1 - f2)))))), (29, .int (zI (hwB (g_bb σ) sd F E))), (28, .int (zI 0)), (27, .int (zI T)), (26, .int (zI F)), (0, .ref b), (1, .ref (a 0)), (2, .int (zI all)), (3, .int (zI seats)), (5, .int (zI rec)), (6, .int (zI dz)), (13, .int (zI t)), (15, .int (zI sd)), (16, .int (zI f1)), (17, .int (zI f2)), (19, .int (zI P0)), (20, .int (zI P1)), (21, .int (zI k)), (22, .int (zI n0)), (23, .int (zI hits)), (24, .int (zI spent)), (25, .int (zI j))]) hx hb dL_law_757 hl (by decide) rfl (fun ls hl => ?_)
                          refine z_goto (tgt := 713) hF dL_law_759 (by decide) ?_
                          refine lv_iload hx hb dL_law_713 (lv_at hl 0 rfl) ?_
                          refine lv_iload hx hb dL_law_715 (lv_at hl 13 rfl) ?_
                          refine lv_iload hx hb dL_law_717 (lv_at hl 14 rfl) ?_
                          refine z_min hF km_223 ks_min kt_Math kq_min hl.1 (Nat.le_of_ble_eq_true rfl) (Nat.le_of_ble_eq_true rfl) (lx_c (by omega) hr) (lx_s (by omega) hr) (by omega) (by omega) dL_law_719 ?_
                          refine z_tz (b := E) hEE.symm ?_
                          refine z_icmp_lt (tgt := 762) hF dL_law_722 (by decide) (by omega) (by omega) (fun c_29 => ?_) (fun c_29 => ?_)
                          · have hc_722 := c_29
                            refine lv_iload hx hb dL_law_762 (lv_at hl 1 rfl) ?_
                            refine z_if_ge (tgt := 769) hF dL_law_764 (by decide) (by omega) (fun c_30 => ?_) (fun c_30 => ?_)
                            · have hc_764 := c_30
                              refine lv_iload hx hb dL_law_769 (lv_at hl 19 rfl) ?_
                              refine lv_iload hx hb dL_law_771 (lv_at hl 1 rfl) ?_
                              refine z_iadd hF dL_law_773 ?_
                              refine lv_istore (lv' := [(23, .int (zI (hits + (hwB (g_bb σ) sd F E)))), (30, .int (zI (E - (zmax 1 (zabs (f1 - f2)))))), (29, .int (zI (hwB (g_bb σ) sd F E))), (28, .int (zI 0)), (27, .int (zI T)), (26, .int (zI F)), (0, .ref b), (1, .ref (a 0)), (2, .int (zI all)), (3, .int (zI seats)), (5, .int (zI rec)), (6, .int (zI dz)), (13, .int (zI t)), (15, .int (zI sd)), (16, .int (zI f1)), (17, .int (zI f2)), (19, .int (zI P0)), (20, .int (zI P1)), (21, .int (zI k)), (22, .int (zI n0)), (24, .int (zI spent)), (25, .int (zI j))]) hx hb dL_law_774 hl (by decide) rfl (fun ls hl => ?_)
                              refine lv_iload hx hb dL_law_776 (lv_at hl 20 rfl) ?_
                              refine lv_iload hx hb dL_law_778 (lv_at hl 5 rfl) ?_
                              refine lv_iload hx hb dL_law_780 (lv_at hl 4 rfl) ?_
                              refine z_isub hF dL_law_782 ?_
                              refine z_iadd hF dL_law_783 ?_
                              refine lv_istore (lv' := [(24, .int (zI (spent + (F - T)))), (23, .int (zI (hits + (hwB (g_bb σ) sd F E)))), (30, .int (zI (E - (zmax 1 (zabs (f1 - f2)))))), (29, .int (zI (hwB (g_bb σ) sd F E))), (28, .int (zI 0)), (27, .int (zI T)), (26, .int (zI F)), (0, .ref b), (1, .ref (a 0)), (2, .int (zI all)), (3, .int (zI seats)), (5, .int (zI rec)), (6, .int (zI dz)), (13, .int (zI t)), (15, .int (zI sd)), (16, .int (zI f1)), (17, .int (zI f2)), (19, .int (zI P0)), (20, .int (zI P1)), (21, .int (zI k)), (22, .int (zI n0)), (25, .int (zI j))]) hx hb dL_law_784 hl (by decide) rfl (fun ls hl => ?_)
                              refine lv_aload_n hx hb dL_law_786 rfl (lv_at hl 8 rfl) ?_
                              refine lv_iload_n hx hb dL_law_787 rfl (lv_at hl 9 rfl) ?_
                              refine cj_i (va_runS (As := [.ref (a 0), .int (zI all)]) (rest := []) hF (c_L_whole l hst G a σ2 all hall hg2.2.1.2.2.2.1 hg2.2.1.2.2.2.2 H.size) (va_cwS 2 hF.2.2.2.2 gL_law_L_whole rfl rfl rfl (by decide +kernel) ⟨Nat.le_of_ble_eq_true rfl, Nat.le_of_ble_eq_true rfl⟩) (z_preS hK hP hD hS hA hBd [0, 1, 2, 3, 4, 5, 6, 7, 8, 9, 10, 11, 12, 13, 14, 15, 16, 17, 18, 19, 20, 21, 22, 23, 24, 25, 26, 27, 28, 29, 30, 31, 32, 33, 34, 35, 36, 37] rfl rfl [.ref (a 0), .int (zI all)]) rfl rfl hl.1 rfl (lv_room (Nat.le_of_ble_eq_true rfl)) dL_law_788 (lx_fit (by omega) (by omega) hr)) hP hD hS hA [0, 1, 2, 3, 4, 5, 6, 7, 8, 9, 10, 11, 12, 13, 14, 15, 16, 17, 18, 19, 20, 21, 22, 23, 24, 25, 26, 27, 28, 29, 30, 31, 32, 33, 34, 35, 36, 37] rfl (fun _ => Nat.le_of_ble_eq_true rfl) (fun r_32 u_31 H locs hw hP hD hS => ?_)
                              have hP := wmixP [true, true, true, true, true, true, true, true, true, true, true, true, true, true, true, true, true, true, true, true, true, true, true, true, true, true, true, true, true, true, true, true, true, true, true, true, true, true] (by decide +kernel) hP
                              have hD := wmixD [true, true, true, true, true, true, true, true, true, true, true, true, true, true, true, true, true, true, true, true, true, true, true, true, true, true, true, true, true, true, true, true, true, true, true, true, true, true] (by decide +kernel) hD
                              obtain rfl := hw
                              have hP : va_P G.1 vwCl (gW G a σ2) H := hP
                              have hD : va_D A (gW G a σ2) := hD
                              refine z_if_ne (tgt := 796) hF dL_law_791 (by decide) (by decide) (fun c_33 => ?_) (fun c_33 => ?_)
                              · have hc_791 := c_33
                                refine z_iinc (lv' := [(25, .int (zI (j + 1))), (24, .int (zI (spent + (F - T)))), (23, .int (zI (hits + (hwB (g_bb σ) sd F E)))), (30, .int (zI (E - (zmax 1 (zabs (f1 - f2)))))), (29, .int (zI (hwB (g_bb σ) sd F E))), (28, .int (zI 0)), (27, .int (zI T)), (26, .int (zI F)), (0, .ref b), (1, .ref (a 0)), (2, .int (zI all)), (3, .int (zI seats)), (5, .int (zI rec)), (6, .int (zI dz)), (13, .int (zI t)), (15, .int (zI sd)), (16, .int (zI f1)), (17, .int (zI f2)), (19, .int (zI P0)), (20, .int (zI P1)), (21, .int (zI k)), (22, .int (zI n0))]) hF dL_law_796 hl (k := 21) rfl (by decide) rfl (fun ls hl => ?_)
                                refine z_goto (tgt := 618) hF dL_law_799 (by decide) ?_
                                refine W.widen (k := cells + 240) (n := slots + 1440) (by omega) (by omega) ?_
                                exact (kp.go K1) σ2 (hits + (hwB (g_bb σ) sd F E)) (spent + (F - T)) hg2 hlt0 H locs ls hP hD hS (lv_sub hl [8, 9, 10, 11, 12, 13, 14, 15, 16, 17, 18, 19, 20, 21, 2, 1, 0] rfl)
                              · exact absurd c_33 (by decide)
                            · exfalso; omega
                          · exfalso; omega
                        · skip
                          exact (hq1.2 ⟨by omega, by rw [e2, ← hdE]; exact hc⟩).elim
            · exact absurd c_10 (by decide)
          · exfalso; omega
    · have hc_647 := c_6
      refine lv_iload hx hb dL_law_650 (lv_at hl 1 rfl) ?_
      refine lv_iload hx hb dL_law_652 (lv_at hl 0 rfl) ?_
      refine z_isub hF dL_law_654 ?_
      refine z_goto (tgt := 659) hF dL_law_655 (by decide) ?_
      refine lv_istore (lv' := [(28, .int (zI (F - T))), (27, .int (zI T)), (26, .int (zI F)), (0, .ref b), (1, .ref (a 0)), (2, .int (zI all)), (3, .int (zI seats)), (5, .int (zI rec)), (6, .int (zI dz)), (13, .int (zI t)), (15, .int (zI sd)), (16, .int (zI f1)), (17, .int (zI f2)), (19, .int (zI P0)), (20, .int (zI P1)), (21, .int (zI k)), (22, .int (zI n0)), (23, .int (zI hits)), (24, .int (zI spent)), (25, .int (zI j))]) hx hb dL_law_659 hl (by decide) rfl (fun ls hl => ?_)
      refine lv_ldc hx hb hF.2.2.2.1 kc_63 dL_law_661 ?_
      refine z_top (y := zI (-1500000)) (by decide) ?_
      refine lv_istore (lv' := [(29, .int (zI (-1500000))), (28, .int (zI (F - T))), (27, .int (zI T)), (26, .int (zI F)), (0, .ref b), (1, .ref (a 0)), (2, .int (zI all)), (3, .int (zI seats)), (5, .int (zI rec)), (6, .int (zI dz)), (13, .int (zI t)), (15, .int (zI sd)), (16, .int (zI f1)), (17, .int (zI f2)), (19, .int (zI P0)), (20, .int (zI P1)), (21, .int (zI k)), (22, .int (zI n0)), (23, .int (zI hits)), (24, .int (zI spent)), (25, .int (zI j))]) hx hb dL_law_663 hl (by decide) rfl (fun ls hl => ?_)
      refine lv_iload hx hb dL_law_665 (lv_at hl 3 rfl) ?_
      refine lv_iload hx hb dL_law_667 (lv_at hl 2 rfl) ?_
      refine z_icmp_le (tgt := 684) hF dL_law_669 (by decide) (by omega) (by omega) (fun c_34 => ?_) (fun c_34 => ?_)
      · exfalso; omega
      · have hc_669 := c_34
        refine lv_iload hx hb dL_law_672 (lv_at hl 3 rfl) ?_
        refine z_bipush hF dL_law_674 (by decide) ?_
        refine z_icmp_gt (tgt := 684) hF dL_law_676 (by decide) (by omega) (by decide) (fun c_35 => ?_) (fun c_35 => ?_)
        · exfalso; omega
        · have hc_676 := c_35
          refine lv_iload hx hb dL_law_679 (lv_at hl 2 rfl) ?_
          refine z_if_ge (tgt := 686) hF dL_law_681 (by decide) (by omega) (fun c_36 => ?_) (fun c_36 => ?_)
          · have hc_681 := c_36
            refine lv_iload hx hb dL_law_686 (lv_at hl 1 rfl) ?_
            refine z_if_le (tgt := 704) hF dL_law_688 (by decide) (by omega) (fun c_37 => ?_) (fun c_37 => ?_)
            · exfalso; omega
            · have hc_688 := c_37
              have hdT : F - T = d := by
                have h9 := toP_2 (fr := F) (d := d) (by omega)
                omega
              refine lv_aload_n hx hb dL_law_691 rfl (lv_at hl 5 rfl) ?_
              refine lv_iload hx hb dL_law_692 (lv_at hl 3 rfl) ?_
              refine lv_iload hx hb dL_law_694 (lv_at hl 1 rfl) ?_
              refine cj_i (vx_runSW (As := [.ref (a 0), .int (zI F), .int (zI (F - T))]) (rest := []) hF (c_L_move l hst G (a 0) (a 1) (a 2) (a 5) (a 9) (a 11) (a 12) (a 14) (a 16) (a 24) (a 32) (a 34) (a 36) (g_ph σ) (g_mv σ) (g_sk σ) (g_ho σ) (g_lk σ) (g_dg σ) (g_dl σ) (g_gl σ) (g_ll σ) (g_us σ) (a 35) (g_bb σ) all F (F - T)  (gI.ph hI) (gI.mv hI) (gI.all15 hI) hB.2.2.2.1 (gR_dg hR) (gR_dl hR) (by omega) (by omega) (by omega) (by omega) e1 H.size) (vx_cwSW 3 hF.2.2.2.2 gL_law_L_move rfl rfl rfl (by decide +kernel) ⟨Nat.le_of_ble_eq_true rfl, Nat.le_of_ble_eq_true rfl⟩) (z_preS hK hP hD hS hA hBd [0, 11, 34, 35] rfl rfl [.ref (a 0), .int (zI F), .int (zI (F - T))]) rfl rfl hl.1 rfl (lv_room (Nat.le_of_ble_eq_true rfl)) dL_law_696 (lx_fit (by omega) (by omega) hr)) hP hD hS hA [0, 11, 34, 35] rfl (fun _ => Nat.le_of_ble_eq_true rfl) (fun r_39 u_38 H locs hw hP hD hS => ?_)
              have hP := wmixP [true, false, false, false, false, false, false, false, false, false, false, true, false, false, false, false, false, false, false, false, false, false, false, false, false, false, false, false, false, false, false, false, false, false, true, true] (by decide +kernel) hP
              have hD := wmixD [true, false, false, false, false, false, false, false, false, false, false, true, false, false, false, false, false, false, false, false, false, false, false, false, false, false, false, false, false, false, false, false, false, false, true, true] (by decide +kernel) hD
              rcases hw with ⟨rfl, hq1, hq2, hq3, rfl⟩ | ⟨rfl, hq1, rfl⟩
              · skip
                have hP : va_P G.1 vwCl (gW G a (s_move σ F (F - T))) H := hP
                have hD : va_D A (gW G a (s_move σ F (F - T))) := hD
                obtain ⟨σ3, e9, hg2⟩ : ∃ q : gS, gW G a q = gW G a (s_move σ F (F - T)) ∧ gL all seats t dz sd D E n0 c0 rec k fr0 P0 P1 (hits + hwB (g_bb σ) sd F (F - T)) (spent + (F - T)) (j + 1) b0 q := ⟨s_move σ F (F - T), rfl, (by have h9 := hnx; rw [hdT]; rw [hdT] at h9; exact h9)⟩
                rw [← e9] at hP hD
                clear e9
                have hP : va_P G.1 vwCl (gW G a σ3) H := hP
                have hD : va_D A (gW G a σ3) := hD
                rw [e2]
                have hw9 : 0 ≤ hwB (g_bb σ) sd F (F - T) ∧ hwB (g_bb σ) sd F (F - T) ≤ 1 := by unfold hwB; split <;> omega
                refine lv_istore (lv' := [(29, .int (zI (hwB (g_bb σ) sd F (F - T)))), (28, .int (zI (F - T))), (27, .int (zI T)), (26, .int (zI F)), (0, .ref b), (1, .ref (a 0)), (2, .int (zI all)), (3, .int (zI seats)), (5, .int (zI rec)), (6, .int (zI dz)), (13, .int (zI t)), (15, .int (zI sd)), (16, .int (zI f1)), (17, .int (zI f2)), (19, .int (zI P0)), (20, .int (zI P1)), (21, .int (zI k)), (22, .int (zI n0)), (23, .int (zI hits)), (24, .int (zI spent)), (25, .int (zI j))]) hx hb dL_law_699 hl (by decide) rfl (fun ls hl => ?_)
                refine z_goto (tgt := 762) hF dL_law_701 (by decide) ?_
                refine lv_iload hx hb dL_law_762 (lv_at hl 0 rfl) ?_
                refine z_if_ge (tgt := 769) hF dL_law_764 (by decide) (by omega) (fun c_40 => ?_) (fun c_40 => ?_)
                · have hc_764 := c_40
                  refine lv_iload hx hb dL_law_769 (lv_at hl 18 rfl) ?_
                  refine lv_iload hx hb dL_law_771 (lv_at hl 0 rfl) ?_
                  refine z_iadd hF dL_law_773 ?_
                  refine lv_istore (lv' := [(23, .int (zI (hits + (hwB (g_bb σ) sd F (F - T))))), (29, .int (zI (hwB (g_bb σ) sd F (F - T)))), (28, .int (zI (F - T))), (27, .int (zI T)), (26, .int (zI F)), (0, .ref b), (1, .ref (a 0)), (2, .int (zI all)), (3, .int (zI seats)), (5, .int (zI rec)), (6, .int (zI dz)), (13, .int (zI t)), (15, .int (zI sd)), (16, .int (zI f1)), (17, .int (zI f2)), (19, .int (zI P0)), (20, .int (zI P1)), (21, .int (zI k)), (22, .int (zI n0)), (24, .int (zI spent)), (25, .int (zI j))]) hx hb dL_law_774 hl (by decide) rfl (fun ls hl => ?_)
                  refine lv_iload hx hb dL_law_776 (lv_at hl 19 rfl) ?_
                  refine lv_iload hx hb dL_law_778 (lv_at hl 4 rfl) ?_
                  refine lv_iload hx hb dL_law_780 (lv_at hl 3 rfl) ?_
                  refine z_isub hF dL_law_782 ?_
                  refine z_iadd hF dL_law_783 ?_
                  refine lv_istore (lv' := [(24, .int (zI (spent + (F - T)))), (23, .int (zI (hits + (hwB (g_bb σ) sd F (F - T))))), (29, .int (zI (hwB (g_bb σ) sd F (F - T)))), (28, .int (zI (F - T))), (27, .int (zI T)), (26, .int (zI F)), (0, .ref b), (1, .ref (a 0)), (2, .int (zI all)), (3, .int (zI seats)), (5, .int (zI rec)), (6, .int (zI dz)), (13, .int (zI t)), (15, .int (zI sd)), (16, .int (zI f1)), (17, .int (zI f2)), (19, .int (zI P0)), (20, .int (zI P1)), (21, .int (zI k)), (22, .int (zI n0)), (25, .int (zI j))]) hx hb dL_law_784 hl (by decide) rfl (fun ls hl => ?_)
                  refine lv_aload_n hx hb dL_law_786 rfl (lv_at hl 7 rfl) ?_
                  refine lv_iload_n hx hb dL_law_787 rfl (lv_at hl 8 rfl) ?_
                  refine cj_i (va_runS (As := [.ref (a 0), .int (zI all)]) (rest := []) hF (c_L_whole l hst G a σ3 all hall hg2.2.1.2.2.2.1 hg2.2.1.2.2.2.2 H.size) (va_cwS 2 hF.2.2.2.2 gL_law_L_whole rfl rfl rfl (by decide +kernel) ⟨Nat.le_of_ble_eq_true rfl, Nat.le_of_ble_eq_true rfl⟩) (z_preS hK hP hD hS hA hBd [0, 1, 2, 3, 4, 5, 6, 7, 8, 9, 10, 11, 12, 13, 14, 15, 16, 17, 18, 19, 20, 21, 22, 23, 24, 25, 26, 27, 28, 29, 30, 31, 32, 33, 34, 35, 36, 37] rfl rfl [.ref (a 0), .int (zI all)]) rfl rfl hl.1 rfl (lv_room (Nat.le_of_ble_eq_true rfl)) dL_law_788 (lx_fit (by omega) (by omega) hr)) hP hD hS hA [0, 1, 2, 3, 4, 5, 6, 7, 8, 9, 10, 11, 12, 13, 14, 15, 16, 17, 18, 19, 20, 21, 22, 23, 24, 25, 26, 27, 28, 29, 30, 31, 32, 33, 34, 35, 36, 37] rfl (fun _ => Nat.le_of_ble_eq_true rfl) (fun r_42 u_41 H locs hw hP hD hS => ?_)
                  have hP := wmixP [true, true, true, true, true, true, true, true, true, true, true, true, true, true, true, true, true, true, true, true, true, true, true, true, true, true, true, true, true, true, true, true, true, true, true, true, true, true] (by decide +kernel) hP
                  have hD := wmixD [true, true, true, true, true, true, true, true, true, true, true, true, true, true, true, true, true, true, true, true, true, true, true, true, true, true, true, true, true, true, true, true, true, true, true, true, true, true] (by decide +kernel) hD
                  obtain rfl := hw
                  have hP : va_P G.1 vwCl (gW G a σ3) H := hP
                  have hD : va_D A (gW G a σ3) := hD
                  refine z_if_ne (tgt := 796) hF dL_law_791 (by decide) (by decide) (fun c_43 => ?_) (fun c_43 => ?_)
                  · have hc_791 := c_43
                    refine z_iinc (lv' := [(25, .int (zI (j + 1))), (24, .int (zI (spent + (F - T)))), (23, .int (zI (hits + (hwB (g_bb σ) sd F (F - T))))), (29, .int (zI (hwB (g_bb σ) sd F (F - T)))), (28, .int (zI (F - T))), (27, .int (zI T)), (26, .int (zI F)), (0, .ref b), (1, .ref (a 0)), (2, .int (zI all)), (3, .int (zI seats)), (5, .int (zI rec)), (6, .int (zI dz)), (13, .int (zI t)), (15, .int (zI sd)), (16, .int (zI f1)), (17, .int (zI f2)), (19, .int (zI P0)), (20, .int (zI P1)), (21, .int (zI k)), (22, .int (zI n0))]) hF dL_law_796 hl (k := 20) rfl (by decide) rfl (fun ls hl => ?_)
                    refine z_goto (tgt := 618) hF dL_law_799 (by decide) ?_
                    refine W.widen (k := cells + 240) (n := slots + 1440) (by omega) (by omega) ?_
                    exact (kp.go K1) σ3 (hits + (hwB (g_bb σ) sd F (F - T))) (spent + (F - T)) hg2 hlt0 H locs ls hP hD hS (lv_sub hl [7, 8, 9, 10, 11, 12, 13, 14, 15, 16, 17, 18, 19, 20, 2, 1, 0] rfl)
                  · exact absurd c_43 (by decide)
                · exfalso; omega
              · skip
                exact (hq1.2 ⟨by omega, by rw [e2, hdT]; exact hc⟩).elim
          · exfalso; omega

/-- all moves of a play -/
theorem lp_4 {p : Program} {l : Launch} {e : Env} {s : State} {m : MethodId} {args : Array Value} {below : List Frame} {meth : Method} {c : Code} {G : wG} {A : Nat → Prop} {b Ln : Nat} {sx : Nat → Int32} {Q0 : State → Prop} {cells slots : Nat} {a : Nat → Nat} (hC : lwC6 p l s m args c G A b Ln sx) {all seats t dz rec sd D E n0 c0 k P0 P1 f1 f2 : Int} {fr0 b0 : Int → Int} (hr : cells + 1300 ≤ 600130 ∧ slots + 7800 ≤ 7301080) (hall : 0 ≤ all ∧ all ≤ 15) (hDD : D = zmax f1 f2) (hEE : E = zmin f1 f2) (hf1 : 1 ≤ f1 ∧ f1 ≤ 6) (hf2 : 1 ≤ f2 ∧ f2 ≤ 6)
    (K : ∀ {hits spent j : Int} {σ : gS} {kc ks : Nat}, gL all seats t dz sd D E n0 c0 rec k fr0 P0 P1 hits spent j b0 σ → n0 ≤ j → kc ≤ cells + 1200 ∧ ks ≤ slots + 7200 → ∀ {H : Heap} {locs : List Loc} {ls : Array Slot}, va_P G.1 vwCl (gW G a σ) H → va_D A (gW G a σ) → va_S A s.heap H locs → lv_has ls 31 [(0, .ref b), (1, .ref (a 0)), (2, .int (zI all)), (3, .int (zI seats)), (5, .int (zI rec)), (6, .int (zI dz)), (13, .int (zI t)), (15, .int (zI sd)), (16, .int (zI f1)), (17, .int (zI f2)), (19, .int (zI P0)), (20, .int (zI P1)), (21, .int (zI k)), (22, .int (zI n0)), (23, .int (zI hits)), (24, .int (zI spent)), (25, .int (zI j))] → W p l e room_1 s m args below meth c H locs kc ks Q0 (F0 m 802 ls [])) :
    ∀ (g9 : Nat) {hits spent j : Int} {σ : gS} {kc ks : Nat}, (n0 - j).toNat < g9 → 0 ≤ j ∧ j ≤ n0 → gL all seats t dz sd D E n0 c0 rec k fr0 P0 P1 hits spent j b0 σ → kc ≤ cells + 240 * j.toNat ∧ ks ≤ slots + 1440 * j.toNat → ∀ {H : Heap} {locs : List Loc} {ls : Array Slot}, va_P G.1 vwCl (gW G a σ) H → va_D A (gW G a σ) → va_S A s.heap H locs → lv_has ls 31 [(0, .ref b), (1, .ref (a 0)), (2, .int (zI all)), (3, .int (zI seats)), (5, .int (zI rec)), (6, .int (zI dz)), (13, .int (zI t)), (15, .int (zI sd)), (16, .int (zI f1)), (17, .int (zI f2)), (19, .int (zI P0)), (20, .int (zI P1)), (21, .int (zI k)), (22, .int (zI n0)), (23, .int (zI hits)), (24, .int (zI spent)), (25, .int (zI j))] → W p l e room_1 s m args below meth c H locs kc ks Q0 (F0 m 618 ls []) := by
  intro g9
  induction g9 with
  | zero => intro hits spent j σ kc ks h; omega
  | succ g9 ih =>
    intro hits spent j σ kc ks hmu hj hg hk H locs ls hP hD9 hS hl
    have hn4 := gR_ln hg.1 hg.2.1 hg.2.2.1
    have hln : g_ln σ = n0 := hg.2.2.2.1.2.2.2.2.2.1
    have hj4 : j.toNat ≤ 4 := by omega
    refine sg_4 hC (by omega) hg hj hall hDD hEE hf1 hf2 (kp.mk ?_) (kp.mk ?_) hP hD9 hS hl
    · intro σ2 hits2 spent2 hg2 hlt H locs ls hP hD9 hS hl
      exact ih (by omega) (by omega) hg2 (by omega) hP hD9 hS hl
    · intro hn H locs ls hP hD9 hS hl
      exact K hg hn (by omega) hP hD9 hS hl
