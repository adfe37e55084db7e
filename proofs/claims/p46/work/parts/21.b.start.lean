set_option maxHeartbeats 4000000 in
set_option maxRecDepth 100000 in
theorem sp_3 {p : Program} {l : Launch} {e : Env} {s : State} {m : MethodId} {args : Array Value} {below : List Frame} {meth : Method} {c : Code} {G : wG} {A : Nat → Prop} {b Ln : Nat} {sx : Nat → Int32} {Q0 : State → Prop} {cells slots : Nat} {a : Nat → Nat} (hC : lwC6 p l s m args c G A b Ln sx) {all seats rate : Int} {σ : gS} (hr : cells + 6 ≤ 600130 ∧ slots + 36 ≤ 7301080) (hY : gY seats rate σ) (hra : 0 ≤ rate ∧ rate ≤ 100)
    (K1 : kp (∀ (σ : gS), gY seats rate σ → ∀ (H : Heap) (locs : List Loc) (ls : Array Slot), va_P G.1 vwCl (gW G a σ) H → va_D A (gW G a σ) → va_S A s.heap H locs → lv_has ls 31 [(0, .ref b), (1, .ref (a 0)), (2, .int (zI all)), (3, .int (zI seats)), (5, .int (zI 0)), (6, .int (zI 0))] → W p l e room_1 s m args below meth c H locs (cells + 6) (slots + 36) Q0 (F0 m 192 ls [])))
    {H : Heap} {locs : List Loc} {ls : Array Slot} (hP : va_P G.1 vwCl (gW G a σ) H) (hD : va_D A (gW G a σ)) (hS : va_S A s.heap H locs) (hl : lv_has ls 31 [(0, .ref b), (1, .ref (a 0)), (2, .int (zI all)), (3, .int (zI seats)), (4, .int (zI rate)), (5, .int (zI 0)), (6, .int (zI 0))]) : W p l e room_1 s m args below meth c H locs cells slots Q0 (F0 m 85 ls []) := by
  obtain ⟨hF, hst, hK, hBd, hA, hX, hbl, hbA, hLn, hts⟩ := hC
  have hx := hF.1
  have hb := hF.2.1
  have kc_166 : (Cond.constantLong RL 166 (1000000)).before args s = true := hts _ (by decide +kernel)
  have kc_168 : (Cond.constantLong RL 168 (999600)).before args s = true := hts _ (by decide +kernel)
  refine z_iconst hF dL_law_85 ?_
  refine lv_aload_n hx hb dL_law_86 rfl (lv_at hl 0 rfl) ?_
  refine z_iconst hF dL_law_87 ?_
  refine z_bipush hF dL_law_88 (by decide) ?_
  refine cj0_i (va_runS (As := [.ref b, .int (zI 3), .int (zI 25)]) (rest := [.int (zI 1)]) hF (c_L_some l G b Ln sx 3 25 (by omega) (by omega) (by omega) H.size) (va_cwS 3 hF.2.2.2.2 gL_law_L_some rfl rfl rfl (by decide +kernel) ⟨Nat.le_of_ble_eq_true rfl, Nat.le_of_ble_eq_true rfl⟩) (z_preSs hK hS hA hBd hX hbl hbA [.ref b, .int (zI 3), .int (zI 25)]) rfl rfl hl.1 rfl (lv_room (Nat.le_of_ble_eq_true rfl)) dL_law_90 (lx_fit (by omega) (by omega) hr)) hP hD hS hA (fun r_2 u_1 H locs hw hP hD hS => ?_)
  obtain ⟨hv_3, rfl⟩ := hw
  have hv_u_1 : 0 ≤ u_1 ∧ u_1 < 25 := hv_3
  refine z_iadd hF dL_law_93 ?_
  refine lv_istore (lv' := [(7, .int (zI (1 + u_1))), (0, .ref b), (1, .ref (a 0)), (2, .int (zI all)), (3, .int (zI seats)), (4, .int (zI rate)), (5, .int (zI 0)), (6, .int (zI 0))]) hx hb dL_law_94 hl (by decide) rfl (fun ls hl => ?_)
  refine z_iconst hF dL_law_96 ?_
  refine lv_aload_n hx hb dL_law_97 rfl (lv_at hl 1 rfl) ?_
  refine z_iconst hF dL_law_98 ?_
  refine z_bipush hF dL_law_99 (by decide) ?_
  refine cj0_i (va_runS (As := [.ref b, .int (zI 4), .int (zI 25)]) (rest := [.int (zI 1)]) hF (c_L_some l G b Ln sx 4 25 (by omega) (by omega) (by omega) H.size) (va_cwS 3 hF.2.2.2.2 gL_law_L_some rfl rfl rfl (by decide +kernel) ⟨Nat.le_of_ble_eq_true rfl, Nat.le_of_ble_eq_true rfl⟩) (z_preSs hK hS hA hBd hX hbl hbA [.ref b, .int (zI 4), .int (zI 25)]) rfl rfl hl.1 rfl (lv_room (Nat.le_of_ble_eq_true rfl)) dL_law_101 (lx_fit (by omega) (by omega) hr)) hP hD hS hA (fun r_5 u_4 H locs hw hP hD hS => ?_)
  obtain ⟨hv_6, rfl⟩ := hw
  have hv_u_4 : 0 ≤ u_4 ∧ u_4 < 25 := hv_6
  refine z_iadd hF dL_law_104 ?_
  refine lv_istore (lv' := [(8, .int (zI (1 + u_4))), (7, .int (zI (1 + u_1))), (0, .ref b), (1, .ref (a 0)), (2, .int (zI all)), (3, .int (zI seats)), (4, .int (zI rate)), (5, .int (zI 0)), (6, .int (zI 0))]) hx hb dL_law_105 hl (by decide) rfl (fun ls hl => ?_)
  refine lv_aload_n hx hb dL_law_107 rfl (lv_at hl 3 rfl) ?_
  refine lv_iload hx hb dL_law_108 (lv_at hl 1 rfl) ?_
  refine lv_iload hx hb dL_law_110 (lv_at hl 0 rfl) ?_
  refine cj_l (vx_runSW (As := [.ref (a 0), .int (zI (1 + u_1)), .int (zI (1 + u_4))]) (rest := []) hF (c_L_equity l hst G (a 0) (a 1) (a 2) (a 5) (a 9) (a 11) (a 12) (a 14) (a 16) (a 24) (a 32) (a 34) (a 36) (g_ph σ) (g_mv σ) (g_sk σ) (g_ho σ) (g_lk σ) (a 13) (g_kn σ) (g_ra σ) (1 + u_1) (1 + u_4)  (gY_ra hY hra) (by omega) (by omega) (by omega) H.size) (vx_cwSW 3 hF.2.2.2.2 gL_law_L_equity rfl rfl rfl (by decide +kernel) ⟨Nat.le_of_ble_eq_true rfl, Nat.le_of_ble_eq_true rfl⟩) (z_preS hK hP hD hS hA hBd [0, 12, 13] rfl rfl [.ref (a 0), .int (zI (1 + u_1)), .int (zI (1 + u_4))]) rfl rfl hl.1 rfl (lv_room (Nat.le_of_ble_eq_true rfl)) dL_law_112 (lx_fit (by omega) (by omega) hr)) hP hD hS hA [0, 12, 13] rfl (fun _ => Nat.le_of_ble_eq_true rfl) (fun r_8 u_7 H locs hw hP hD hS => ?_)
  have hP := wmixP [true, false, false, false, false, false, false, false, false, false, false, false, true, true] (by decide +kernel) hP
  have hD := wmixD [true, false, false, false, false, false, false, false, false, false, false, false, true, true] (by decide +kernel) hD
  obtain ⟨-, rfl⟩ := hw
  have hP : va_P G.1 vwCl (gW G a (s_kn σ u_7)) H := hP
  have hD : va_D A (gW G a (s_kn σ u_7)) := hD
  obtain ⟨σ1, e9, hY1, hy91⟩ : ∃ q : gS, gW G a q = gW G a (s_kn σ u_7) ∧ gY seats rate q ∧ 0 ≤ rate := ⟨s_kn σ u_7, rfl, ⟨gY_kn hY, hra.1⟩⟩
  rw [← e9] at hP hD
  clear e9
  have hP : va_P G.1 vwCl (gW G a σ1) H := hP
  have hD : va_D A (gW G a σ1) := hD
  refine z_tzl (b := eqv rate (1 + u_1) (1 + u_4)) (congrArg (fun z9 : Int => eqv z9 (1 + u_1) (1 + u_4)) hY.2.2.1) ?_
  have hrg1 := eqv_rg hra (1 + u_1) (1 + u_4)
  refine lv_lstore (lv' := [(9, .long (zL (eqv rate (1 + u_1) (1 + u_4)))), (8, .int (zI (1 + u_4))), (7, .int (zI (1 + u_1))), (0, .ref b), (1, .ref (a 0)), (2, .int (zI all)), (3, .int (zI seats)), (4, .int (zI rate)), (5, .int (zI 0)), (6, .int (zI 0))]) hx hb dL_law_115 hl (by decide) rfl (fun ls hl => ?_)
  refine lv_aload_n hx hb dL_law_117 rfl (lv_at hl 4 rfl) ?_
  refine lv_iload hx hb dL_law_118 (lv_at hl 1 rfl) ?_
  refine lv_iload hx hb dL_law_120 (lv_at hl 2 rfl) ?_
  refine cj_l (vx_runSW (As := [.ref (a 0), .int (zI (1 + u_4)), .int (zI (1 + u_1))]) (rest := []) hF (c_L_equity l hst G (a 0) (a 1) (a 2) (a 5) (a 9) (a 11) (a 12) (a 14) (a 16) (a 24) (a 32) (a 34) (a 36) (g_ph σ1) (g_mv σ1) (g_sk σ1) (g_ho σ1) (g_lk σ1) (a 13) (g_kn σ1) (g_ra σ1) (1 + u_4) (1 + u_1)  (gY_ra hY1 hra) (by omega) (by omega) (by omega) H.size) (vx_cwSW 3 hF.2.2.2.2 gL_law_L_equity rfl rfl rfl (by decide +kernel) ⟨Nat.le_of_ble_eq_true rfl, Nat.le_of_ble_eq_true rfl⟩) (z_preS hK hP hD hS hA hBd [0, 12, 13] rfl rfl [.ref (a 0), .int (zI (1 + u_4)), .int (zI (1 + u_1))]) rfl rfl hl.1 rfl (lv_room (Nat.le_of_ble_eq_true rfl)) dL_law_122 (lx_fit (by omega) (by omega) hr)) hP hD hS hA [0, 12, 13] rfl (fun _ => Nat.le_of_ble_eq_true rfl) (fun r_10 u_9 H locs hw hP hD hS => ?_)
  have hP := wmixP [true, false, false, false, false, false, false, false, false, false, false, false, true, true] (by decide +kernel) hP
  have hD := wmixD [true, false, false, false, false, false, false, false, false, false, false, false, true, true] (by decide +kernel) hD
  obtain ⟨-, rfl⟩ := hw
  have hP : va_P G.1 vwCl (gW G a (s_kn σ1 u_9)) H := hP
  have hD : va_D A (gW G a (s_kn σ1 u_9)) := hD
  obtain ⟨σ2, e9, hY2, hy92⟩ : ∃ q : gS, gW G a q = gW G a (s_kn σ1 u_9) ∧ gY seats rate q ∧ 0 ≤ rate := ⟨s_kn σ1 u_9, rfl, ⟨gY_kn hY1, hra.1⟩⟩
  rw [← e9] at hP hD
  clear e9
  have hP : va_P G.1 vwCl (gW G a σ2) H := hP
  have hD : va_D A (gW G a σ2) := hD
  refine z_tzl (b := eqv rate (1 + u_4) (1 + u_1)) (congrArg (fun z9 : Int => eqv z9 (1 + u_4) (1 + u_1)) hY1.2.2.1) ?_
  have hrg2 := eqv_rg hra (1 + u_4) (1 + u_1)
  refine lv_lstore (lv' := [(11, .long (zL (eqv rate (1 + u_4) (1 + u_1)))), (9, .long (zL (eqv rate (1 + u_1) (1 + u_4)))), (8, .int (zI (1 + u_4))), (7, .int (zI (1 + u_1))), (0, .ref b), (1, .ref (a 0)), (2, .int (zI all)), (3, .int (zI seats)), (4, .int (zI rate)), (5, .int (zI 0)), (6, .int (zI 0))]) hx hb dL_law_125 hl (by decide) rfl (fun ls hl => ?_)
  have h400 := eq_400 (ra := rate) hra (a := 1 + u_1) (b := 1 + u_4) (by omega) (by omega)
  have hdec := eq_dec (ra := rate) hra ((1 + u_1).toNat + (1 + u_4).toNat) (1 + u_1) (1 + u_4) (Nat.le_refl _)
  refine lv_lload hx hb dL_law_127 (lv_at hl 1 rfl) ?_
  refine z_lconst hF dL_law_129 ?_
  refine z_tzl (b := 0) rfl ?_
  refine z_lcmp hF (by omega) (by omega) dL_law_130 ?_
  have qcm_130 := cmZ_cs (eqv rate (1 + u_1) (1 + u_4)) 0
  refine z_if_lt (tgt := 190) hF dL_law_131 (by decide) (by omega) (fun c_11 => ?_) (fun c_11 => ?_)
  · exfalso; omega
  · have hc_131 := c_11
    refine lv_lload hx hb dL_law_134 (lv_at hl 1 rfl) ?_
    refine lv_ldc2 hx hb hF.2.2.2.1 kc_166 dL_law_136 ?_
    refine z_topl (y := zL 1000000) (by decide) ?_
    refine z_lcmp hF (by omega) (by omega) dL_law_139 ?_
    have qcm_139 := cmZ_cs (eqv rate (1 + u_1) (1 + u_4)) 1000000
    refine z_if_gt (tgt := 190) hF dL_law_140 (by decide) (by omega) (fun c_12 => ?_) (fun c_12 => ?_)
    · exfalso; omega
    · have hc_140 := c_12
      refine lv_lload hx hb dL_law_143 (lv_at hl 1 rfl) ?_
      refine lv_lload hx hb dL_law_145 (lv_at hl 0 rfl) ?_
      refine z_ladd hF dL_law_147 ?_
      refine lv_ldc2 hx hb hF.2.2.2.1 kc_166 dL_law_148 ?_
      refine z_topl (y := zL 1000000) (by decide) ?_
      refine z_lcmp hF (by omega) (by omega) dL_law_151 ?_
      have qcm_151 := cmZ_cs ((eqv rate (1 + u_1) (1 + u_4)) + (eqv rate (1 + u_4) (1 + u_1))) 1000000
      refine z_if_gt (tgt := 190) hF dL_law_152 (by decide) (by omega) (fun c_13 => ?_) (fun c_13 => ?_)
      · exfalso; omega
      · have hc_152 := c_13
        refine lv_lload hx hb dL_law_155 (lv_at hl 1 rfl) ?_
        refine lv_lload hx hb dL_law_157 (lv_at hl 0 rfl) ?_
        refine z_ladd hF dL_law_159 ?_
        refine lv_ldc2 hx hb hF.2.2.2.1 kc_168 dL_law_160 ?_
        refine z_topl (y := zL 999600) (by decide) ?_
        refine z_lcmp hF (by omega) (by omega) dL_law_163 ?_
        have qcm_163 := cmZ_cs ((eqv rate (1 + u_1) (1 + u_4)) + (eqv rate (1 + u_4) (1 + u_1))) 999600
        refine z_if_lt (tgt := 190) hF dL_law_164 (by decide) (by omega) (fun c_14 => ?_) (fun c_14 => ?_)
        · exfalso; omega
        · have hc_164 := c_14
          refine lv_iload hx hb dL_law_167 (lv_at hl 3 rfl) ?_
          refine z_bipush hF dL_law_169 (by decide) ?_
          refine z_icmp_ge (tgt := 192) hF dL_law_171 (by decide) (by omega) (by decide) (fun c_15 => ?_) (fun c_15 => ?_)
          · have hc_171 := c_15
            refine W.widen (k := cells + 6) (n := slots + 36) (by omega) (by omega) ?_
            exact (kp.go K1) σ2 hY2 H locs ls hP hD hS (lv_sub hl [4, 5, 6, 7, 9, 10] rfl)
          · have hc_171 := c_15
            refine lv_aload_n hx hb dL_law_174 rfl (lv_at hl 5 rfl) ?_
            refine lv_iload hx hb dL_law_175 (lv_at hl 3 rfl) ?_
            refine z_iconst hF dL_law_177 ?_
            refine z_iadd hF dL_law_178 ?_
            refine lv_iload hx hb dL_law_179 (lv_at hl 2 rfl) ?_
            refine cj_l (vx_runSW (As := [.ref (a 0), .int (zI ((1 + u_1) + 1)), .int (zI (1 + u_4))]) (rest := []) hF (c_L_equity l hst G (a 0) (a 1) (a 2) (a 5) (a 9) (a 11) (a 12) (a 14) (a 16) (a 24) (a 32) (a 34) (a 36) (g_ph σ2) (g_mv σ2) (g_sk σ2) (g_ho σ2) (g_lk σ2) (a 13) (g_kn σ2) (g_ra σ2) ((1 + u_1) + 1) (1 + u_4)  (gY_ra hY2 hra) (by omega) (by omega) (by omega) H.size) (vx_cwSW 3 hF.2.2.2.2 gL_law_L_equity rfl rfl rfl (by decide +kernel) ⟨Nat.le_of_ble_eq_true rfl, Nat.le_of_ble_eq_true rfl⟩) (z_preS hK hP hD hS hA hBd [0, 12, 13] rfl rfl [.ref (a 0), .int (zI ((1 + u_1) + 1)), .int (zI (1 + u_4))]) rfl rfl hl.1 rfl (lv_room (Nat.le_of_ble_eq_true rfl)) dL_law_181 (lx_fit (by omega) (by omega) hr)) hP hD hS hA [0, 12, 13] rfl (fun _ => Nat.le_of_ble_eq_true rfl) (fun r_17 u_16 H locs hw hP hD hS => ?_)
            have hP := wmixP [true, false, false, false, false, false, false, false, false, false, false, false, true, true] (by decide +kernel) hP
            have hD := wmixD [true, false, false, false, false, false, false, false, false, false, false, false, true, true] (by decide +kernel) hD
            obtain ⟨-, rfl⟩ := hw
            have hP : va_P G.1 vwCl (gW G a (s_kn σ2 u_16)) H := hP
            have hD : va_D A (gW G a (s_kn σ2 u_16)) := hD
            obtain ⟨σ3, e9, hY3, hy93⟩ : ∃ q : gS, gW G a q = gW G a (s_kn σ2 u_16) ∧ gY seats rate q ∧ 0 ≤ rate := ⟨s_kn σ2 u_16, rfl, ⟨gY_kn hY2, hra.1⟩⟩
            rw [← e9] at hP hD
            clear e9
            have hP : va_P G.1 vwCl (gW G a σ3) H := hP
            have hD : va_D A (gW G a σ3) := hD
            refine z_tzl (b := eqv rate ((1 + u_1) + 1) (1 + u_4)) (congrArg (fun z9 : Int => eqv z9 ((1 + u_1) + 1) (1 + u_4)) hY2.2.2.1) ?_
            have hrg3 := eqv_rg hra ((1 + u_1) + 1) (1 + u_4)
            refine lv_lload hx hb dL_law_184 (lv_at hl 1 rfl) ?_
            refine z_lcmp hF (by omega) (by omega) dL_law_186 ?_
            have qcm_186 := cmZ_cs (eqv rate ((1 + u_1) + 1) (1 + u_4)) (eqv rate (1 + u_1) (1 + u_4))
            refine z_if_le (tgt := 192) hF dL_law_187 (by decide) (by omega) (fun c_18 => ?_) (fun c_18 => ?_)
            · have hc_187 := c_18
              refine W.widen (k := cells + 6) (n := slots + 36) (by omega) (by omega) ?_
              exact (kp.go K1) σ3 hY3 H locs ls hP hD hS (lv_sub hl [4, 5, 6, 7, 9, 10] rfl)
            · exfalso; omega

set_option maxHeartbeats 4000000 in
set_option maxRecDepth 100000 in
theorem sp_4 {p : Program} {l : Launch} {e : Env} {s : State} {m : MethodId} {args : Array Value} {below : List Frame} {meth : Method} {c : Code} {G : wG} {A : Nat → Prop} {b Ln : Nat} {sx : Nat → Int32} {Q0 : State → Prop} {cells slots : Nat} {a : Nat → Nat} (hC : lwC6 p l s m args c G A b Ln sx) {all seats rate : Int} {σ : gS} (hr : cells + 4 ≤ 600130 ∧ slots + 24 ≤ 7301080) (hY : gY seats rate σ) (hall : all = 3 ∨ all = 15)
    (K1 : kp (∀ (σ : gS), gI all seats 0 0 σ → gT all 0 0 σ → ∀ (H : Heap) (locs : List Loc) (ls : Array Slot), va_P G.1 vwCl (gW G a σ) H → va_D A (gW G a σ) → va_S A s.heap H locs → lv_has ls 31 [(0, .ref b), (1, .ref (a 0)), (2, .int (zI all)), (3, .int (zI seats)), (5, .int (zI 0)), (6, .int (zI 0)), (13, .int (zI 0))] → W p l e room_1 s m args below meth c H locs (cells + 4) (slots + 24) Q0 (F0 m 247 ls [])))
    {H : Heap} {locs : List Loc} {ls : Array Slot} (hP : va_P G.1 vwCl (gW G a σ) H) (hD : va_D A (gW G a σ)) (hS : va_S A s.heap H locs) (hl : lv_has ls 31 [(0, .ref b), (1, .ref (a 0)), (2, .int (zI all)), (3, .int (zI seats)), (5, .int (zI 0)), (6, .int (zI 0))]) : W p l e room_1 s m args below meth c H locs cells slots Q0 (F0 m 192 ls []) := by
  obtain ⟨hF, hst, hK, hBd, hA, hX, hbl, hbA, hLn, hts⟩ := hC
  have hx := hF.1
  have hb := hF.2.1
  refine lv_aload_n hx hb dL_law_192 rfl (lv_at hl 1 rfl) ?_
  refine lv_iload_n hx hb dL_law_193 rfl (lv_at hl 2 rfl) ?_
  refine z_iconst hF dL_law_194 ?_
  refine z_icmp_ne (tgt := 203) hF dL_law_195 (by decide) (by omega) (by decide) (fun c_1 => ?_) (fun c_1 => ?_)
  · have hc_195 := c_1
    refine lv_aload_n hx hb dL_law_203 rfl (lv_at hl 0 rfl) ?_
    refine z_iconst hF dL_law_204 ?_
    refine z_iconst hF dL_law_205 ?_
    refine cj0_i (va_runS (As := [.ref b, .int (zI 5), .int (zI 2)]) (rest := [.ref (a 0)]) hF (c_L_some l G b Ln sx 5 2 (by omega) (by omega) (by omega) H.size) (va_cwS 3 hF.2.2.2.2 gL_law_L_some rfl rfl rfl (by decide +kernel) ⟨Nat.le_of_ble_eq_true rfl, Nat.le_of_ble_eq_true rfl⟩) (z_preSs hK hS hA hBd hX hbl hbA [.ref b, .int (zI 5), .int (zI 2)]) rfl rfl hl.1 rfl (lv_room (Nat.le_of_ble_eq_true rfl)) dL_law_206 (lx_fit (by omega) (by omega) hr)) hP hD hS hA (fun r_3 u_2 H locs hw hP hD hS => ?_)
    obtain ⟨hv_4, rfl⟩ := hw
    have hv_u_2 : 0 ≤ u_2 ∧ u_2 < 2 := hv_4
    refine z_if_ne (tgt := 217) hF dL_law_209 (by decide) (by omega) (fun c_5 => ?_) (fun c_5 => ?_)
    · have hc_209 := c_5
      refine z_bipush hF dL_law_217 (by decide) ?_
      refine z_iconst hF dL_law_219 ?_
      refine lv_aload_n hx hb dL_law_220 rfl (lv_at hl 0 rfl) ?_
      refine z_bipush hF dL_law_221 (by decide) ?_
      refine z_iconst hF dL_law_223 ?_
      refine cj0_i (va_runS (As := [.ref b, .int (zI 6), .int (zI 2)]) (rest := [.int (zI 0), .int (zI 110), .ref (a 0)]) hF (c_L_some l G b Ln sx 6 2 (by omega) (by omega) (by omega) H.size) (va_cwS 3 hF.2.2.2.2 gL_law_L_some rfl rfl rfl (by decide +kernel) ⟨Nat.le_of_ble_eq_true rfl, Nat.le_of_ble_eq_true rfl⟩) (z_preSs hK hS hA hBd hX hbl hbA [.ref b, .int (zI 6), .int (zI 2)]) rfl rfl hl.1 rfl (lv_room (Nat.le_of_ble_eq_true rfl)) dL_law_224 (lx_fit (by omega) (by omega) hr)) hP hD hS hA (fun r_7 u_6 H locs hw hP hD hS => ?_)
      obtain ⟨hv_8, rfl⟩ := hw
      have hv_u_6 : 0 ≤ u_6 ∧ u_6 < 2 := hv_8
      refine z_if_ne (tgt := 234) hF dL_law_227 (by decide) (by omega) (fun c_9 => ?_) (fun c_9 => ?_)
      · have hc_227 := c_9
        refine z_iconst hF dL_law_234 ?_
        refine cj_i (vx_runSW (As := [.ref (a 0), .int (zI 110), .int (zI 0), .int (zI 0)]) (rest := []) hF (c_L_start l hst G (a 0) (a 1) (a 2) (a 5) (a 9) (a 11) (a 12) (a 14) (a 16) (a 24) (a 32) (a 34) (a 36) (g_ph σ) (g_mv σ) (g_sk σ) (g_ho σ) (g_lk σ) (g_op σ) (g_va σ) (g_le σ) (g_ja σ) (g_cr σ) (g_p0 σ) (g_p1 σ) (a 3) (a 4) (g_se σ) (g_ba σ) (g_tn σ) 110 0 0  (by have := hY.1; omega) (gY_tn hY) (by decide) (by decide) (by decide) ⟨by decide, by decide, by decide⟩ ⟨hY.1, Or.inr (by decide)⟩ H.size) (vx_cwSW 4 hF.2.2.2.2 gL_law_L_start rfl rfl rfl (by decide +kernel) ⟨Nat.le_of_ble_eq_true rfl, Nat.le_of_ble_eq_true rfl⟩) (z_preS hK hP hD hS hA hBd [0, 1, 2, 3, 4] rfl rfl [.ref (a 0), .int (zI 110), .int (zI 0), .int (zI 0)]) rfl rfl hl.1 rfl (lv_room (Nat.le_of_ble_eq_true rfl)) dL_law_235 (lx_fit (by omega) (by omega) hr)) hP hD hS hA [0, 1, 2, 3, 4] rfl (fun _ => Nat.le_of_ble_eq_true rfl) (fun r_11 u_10 H locs hw hP hD hS => ?_)
        have hP := wmixP [true, true, true, true, true] (by decide +kernel) hP
        have hD := wmixD [true, true, true, true, true] (by decide +kernel) hD
        obtain ⟨-, -, -, rfl⟩ := hw
        have hP : va_P G.1 vwCl (gW G a (s_start σ 110 0 0)) H := hP
        have hD : va_D A (gW G a (s_start σ 110 0 0)) := hD
        obtain ⟨σ1, e9, hI2, hT2⟩ : ∃ q : gS, gW G a q = gW G a (s_start σ 110 0 0) ∧ gI all seats 0 0 q ∧ gT all 0 0 q := ⟨s_start σ 110 0 0, rfl, gY_start hY (by decide) (by omega) (by have := lyE_cs 110; omega)⟩
        rw [← e9] at hP hD
        clear e9
        have hP : va_P G.1 vwCl (gW G a σ1) H := hP
        have hD : va_D A (gW G a σ1) := hD
        refine z_tz (b := all) (by have := lyE_cs 110; omega) ?_
        refine lv_iload_n hx hb dL_law_238 rfl (lv_at hl 2 rfl) ?_
        refine z_icmp_eq (tgt := 244) hF dL_law_239 (by decide) (by omega) (by omega) (fun c_12 => ?_) (fun c_12 => ?_)
        · have hc_239 := c_12
          refine z_iconst hF dL_law_244 ?_
          refine lv_istore (lv' := [(13, .int (zI 0)), (0, .ref b), (1, .ref (a 0)), (2, .int (zI all)), (3, .int (zI seats)), (5, .int (zI 0)), (6, .int (zI 0))]) hx hb dL_law_245 hl (by decide) rfl (fun ls hl => ?_)
          refine W.widen (k := cells + 4) (n := slots + 24) (by omega) (by omega) ?_
          exact (kp.go K1) σ1 hI2 hT2 H locs ls hP hD hS (lv_sub hl [1, 2, 3, 4, 5, 6, 0] rfl)
        · exfalso; omega
      · have hc_227 := c_9
        refine z_iconst hF dL_law_230 ?_
        refine z_goto (tgt := 235) hF dL_law_231 (by decide) ?_
        refine cj_i (vx_runSW (As := [.ref (a 0), .int (zI 110), .int (zI 0), .int (zI 1)]) (rest := []) hF (c_L_start l hst G (a 0) (a 1) (a 2) (a 5) (a 9) (a 11) (a 12) (a 14) (a 16) (a 24) (a 32) (a 34) (a 36) (g_ph σ) (g_mv σ) (g_sk σ) (g_ho σ) (g_lk σ) (g_op σ) (g_va σ) (g_le σ) (g_ja σ) (g_cr σ) (g_p0 σ) (g_p1 σ) (a 3) (a 4) (g_se σ) (g_ba σ) (g_tn σ) 110 0 1  (by have := hY.1; omega) (gY_tn hY) (by decide) (by decide) (by decide) ⟨by decide, by decide, by decide⟩ ⟨hY.1, Or.inr (by decide)⟩ H.size) (vx_cwSW 4 hF.2.2.2.2 gL_law_L_start rfl rfl rfl (by decide +kernel) ⟨Nat.le_of_ble_eq_true rfl, Nat.le_of_ble_eq_true rfl⟩) (z_preS hK hP hD hS hA hBd [0, 1, 2, 3, 4] rfl rfl [.ref (a 0), .int (zI 110), .int (zI 0), .int (zI 1)]) rfl rfl hl.1 rfl (lv_room (Nat.le_of_ble_eq_true rfl)) dL_law_235 (lx_fit (by omega) (by omega) hr)) hP hD hS hA [0, 1, 2, 3, 4] rfl (fun _ => Nat.le_of_ble_eq_true rfl) (fun r_14 u_13 H locs hw hP hD hS => ?_)
        have hP := wmixP [true, true, true, true, true] (by decide +kernel) hP
        have hD := wmixD [true, true, true, true, true] (by decide +kernel) hD
        obtain ⟨-, -, -, rfl⟩ := hw
        have hP : va_P G.1 vwCl (gW G a (s_start σ 110 0 1)) H := hP
        have hD : va_D A (gW G a (s_start σ 110 0 1)) := hD
        obtain ⟨σ2, e9, hI2, hT2⟩ : ∃ q : gS, gW G a q = gW G a (s_start σ 110 0 1) ∧ gI all seats 0 0 q ∧ gT all 0 0 q := ⟨s_start σ 110 0 1, rfl, gY_start hY (by decide) (by omega) (by have := lyE_cs 110; omega)⟩
        rw [← e9] at hP hD
        clear e9
        have hP : va_P G.1 vwCl (gW G a σ2) H := hP
        have hD : va_D A (gW G a σ2) := hD
        refine z_tz (b := all) (by have := lyE_cs 110; omega) ?_
        refine lv_iload_n hx hb dL_law_238 rfl (lv_at hl 2 rfl) ?_
        refine z_icmp_eq (tgt := 244) hF dL_law_239 (by decide) (by omega) (by omega) (fun c_15 => ?_) (fun c_15 => ?_)
        · have hc_239 := c_15
          refine z_iconst hF dL_law_244 ?_
          refine lv_istore (lv' := [(13, .int (zI 0)), (0, .ref b), (1, .ref (a 0)), (2, .int (zI all)), (3, .int (zI seats)), (5, .int (zI 0)), (6, .int (zI 0))]) hx hb dL_law_245 hl (by decide) rfl (fun ls hl => ?_)
          refine W.widen (k := cells + 4) (n := slots + 24) (by omega) (by omega) ?_
          exact (kp.go K1) σ2 hI2 hT2 H locs ls hP hD hS (lv_sub hl [1, 2, 3, 4, 5, 6, 0] rfl)
        · exfalso; omega
    · have hc_209 := c_5
      refine z_bipush hF dL_law_212 (by decide) ?_
      refine z_goto (tgt := 219) hF dL_law_214 (by decide) ?_
      refine z_iconst hF dL_law_219 ?_
      refine lv_aload_n hx hb dL_law_220 rfl (lv_at hl 0 rfl) ?_
      refine z_bipush hF dL_law_221 (by decide) ?_
      refine z_iconst hF dL_law_223 ?_
      refine cj0_i (va_runS (As := [.ref b, .int (zI 6), .int (zI 2)]) (rest := [.int (zI 0), .int (zI 98), .ref (a 0)]) hF (c_L_some l G b Ln sx 6 2 (by omega) (by omega) (by omega) H.size) (va_cwS 3 hF.2.2.2.2 gL_law_L_some rfl rfl rfl (by decide +kernel) ⟨Nat.le_of_ble_eq_true rfl, Nat.le_of_ble_eq_true rfl⟩) (z_preSs hK hS hA hBd hX hbl hbA [.ref b, .int (zI 6), .int (zI 2)]) rfl rfl hl.1 rfl (lv_room (Nat.le_of_ble_eq_true rfl)) dL_law_224 (lx_fit (by omega) (by omega) hr)) hP hD hS hA (fun r_17 u_16 H locs hw hP hD hS => ?_)
      obtain ⟨hv_18, rfl⟩ := hw
      have hv_u_16 : 0 ≤ u_16 ∧ u_16 < 2 := hv_18
      refine z_if_ne (tgt := 234) hF dL_law_227 (by decide) (by omega) (fun c_19 => ?_) (fun c_19 => ?_)
      · have hc_227 := c_19
        refine z_iconst hF dL_law_234 ?_
        refine cj_i (vx_runSW (As := [.ref (a 0), .int (zI 98), .int (zI 0), .int (zI 0)]) (rest := []) hF (c_L_start l hst G (a 0) (a 1) (a 2) (a 5) (a 9) (a 11) (a 12) (a 14) (a 16) (a 24) (a 32) (a 34) (a 36) (g_ph σ) (g_mv σ) (g_sk σ) (g_ho σ) (g_lk σ) (g_op σ) (g_va σ) (g_le σ) (g_ja σ) (g_cr σ) (g_p0 σ) (g_p1 σ) (a 3) (a 4) (g_se σ) (g_ba σ) (g_tn σ) 98 0 0  (by have := hY.1; omega) (gY_tn hY) (by decide) (by decide) (by decide) ⟨by decide, by decide, by decide⟩ ⟨hY.1, Or.inr (by decide)⟩ H.size) (vx_cwSW 4 hF.2.2.2.2 gL_law_L_start rfl rfl rfl (by decide +kernel) ⟨Nat.le_of_ble_eq_true rfl, Nat.le_of_ble_eq_true rfl⟩) (z_preS hK hP hD hS hA hBd [0, 1, 2, 3, 4] rfl rfl [.ref (a 0), .int (zI 98), .int (zI 0), .int (zI 0)]) rfl rfl hl.1 rfl (lv_room (Nat.le_of_ble_eq_true rfl)) dL_law_235 (lx_fit (by omega) (by omega) hr)) hP hD hS hA [0, 1, 2, 3, 4] rfl (fun _ => Nat.le_of_ble_eq_true rfl) (fun r_21 u_20 H locs hw hP hD hS => ?_)
        have hP := wmixP [true, true, true, true, true] (by decide +kernel) hP
        have hD := wmixD [true, true, true, true, true] (by decide +kernel) hD
        obtain ⟨-, -, -, rfl⟩ := hw
        have hP : va_P G.1 vwCl (gW G a (s_start σ 98 0 0)) H := hP
        have hD : va_D A (gW G a (s_start σ 98 0 0)) := hD
        obtain ⟨σ3, e9, hI2, hT2⟩ : ∃ q : gS, gW G a q = gW G a (s_start σ 98 0 0) ∧ gI all seats 0 0 q ∧ gT all 0 0 q := ⟨s_start σ 98 0 0, rfl, gY_start hY (by decide) (by omega) (by have := lyE_cs 98; omega)⟩
        rw [← e9] at hP hD
        clear e9
        have hP : va_P G.1 vwCl (gW G a σ3) H := hP
        have hD : va_D A (gW G a σ3) := hD
        refine z_tz (b := all) (by have := lyE_cs 98; omega) ?_
        refine lv_iload_n hx hb dL_law_238 rfl (lv_at hl 2 rfl) ?_
        refine z_icmp_eq (tgt := 244) hF dL_law_239 (by decide) (by omega) (by omega) (fun c_22 => ?_) (fun c_22 => ?_)
        · have hc_239 := c_22
          refine z_iconst hF dL_law_244 ?_
          refine lv_istore (lv' := [(13, .int (zI 0)), (0, .ref b), (1, .ref (a 0)), (2, .int (zI all)), (3, .int (zI seats)), (5, .int (zI 0)), (6, .int (zI 0))]) hx hb dL_law_245 hl (by decide) rfl (fun ls hl => ?_)
          refine W.widen (k := cells + 4) (n := slots + 24) (by omega) (by omega) ?_
          exact (kp.go K1) σ3 hI2 hT2 H locs ls hP hD hS (lv_sub hl [1, 2, 3, 4, 5, 6, 0] rfl)
        · exfalso; omega
      · have hc_227 := c_19
        refine z_iconst hF dL_law_230 ?_
        refine z_goto (tgt := 235) hF dL_law_231 (by decide) ?_
        refine cj_i (vx_runSW (As := [.ref (a 0), .int (zI 98), .int (zI 0), .int (zI 1)]) (rest := []) hF (c_L_start l hst G (a 0) (a 1) (a 2) (a 5) (a 9) (a 11) (a 12) (a 14) (a 16) (a 24) (a 32) (a 34) (a 36) (g_ph σ) (g_mv σ) (g_sk σ) (g_ho σ) (g_lk σ) (g_op σ) (g_va σ) (g_le σ) (g_ja σ) (g_cr σ) (g_p0 σ) (g_p1 σ) (a 3) (a 4) (g_se σ) (g_ba σ) (g_tn σ) 98 0 1  (by have := hY.1; omega) (gY_tn hY) (by decide) (by decide) (by decide) ⟨by decide, by decide, by decide⟩ ⟨hY.1, Or.inr (by decide)⟩ H.size) (vx_cwSW 4 hF.2.2.2.2 gL_law_L_start rfl rfl rfl (by decide +kernel) ⟨Nat.le_of_ble_eq_true rfl, Nat.le_of_ble_eq_true rfl⟩) (z_preS hK hP hD hS hA hBd [0, 1, 2, 3, 4] rfl rfl [.ref (a 0), .int (zI 98), .int (zI 0), .int (zI 1)]) rfl rfl hl.1 rfl (lv_room (Nat.le_of_ble_eq_true rfl)) dL_law_235 (lx_fit (by omega) (by omega) hr)) hP hD hS hA [0, 1, 2, 3, 4] rfl (fun _ => Nat.le_of_ble_eq_true rfl) (fun r_24 u_23 H locs hw hP hD hS => ?_)
        have hP := wmixP [true, true, true, true, true] (by decide +kernel) hP
        have hD := wmixD [true, true, true, true, true] (by decide +kernel) hD
        obtain ⟨-, -, -, rfl⟩ := hw
        have hP : va_P G.1 vwCl (gW G a (s_start σ 98 0 1)) H := hP
        have hD : va_D A (gW G a (s_start σ 98 0 1)) := hD
        obtain ⟨σ4, e9, hI2, hT2⟩ : ∃ q : gS, gW G a q = gW G a (s_start σ 98 0 1) ∧ gI all seats 0 0 q ∧ gT all 0 0 q := ⟨s_start σ 98 0 1, rfl, gY_start hY (by decide) (by omega) (by have := lyE_cs 98; omega)⟩
        rw [← e9] at hP hD
        clear e9
        have hP : va_P G.1 vwCl (gW G a σ4) H := hP
        have hD : va_D A (gW G a σ4) := hD
        refine z_tz (b := all) (by have := lyE_cs 98; omega) ?_
        refine lv_iload_n hx hb dL_law_238 rfl (lv_at hl 2 rfl) ?_
        refine z_icmp_eq (tgt := 244) hF dL_law_239 (by decide) (by omega) (by omega) (fun c_25 => ?_) (fun c_25 => ?_)
        · have hc_239 := c_25
          refine z_iconst hF dL_law_244 ?_
          refine lv_istore (lv' := [(13, .int (zI 0)), (0, .ref b), (1, .ref (a 0)), (2, .int (zI all)), (3, .int (zI seats)), (5, .int (zI 0)), (6, .int (zI 0))]) hx hb dL_law_245 hl (by decide) rfl (fun ls hl => ?_)
          refine W.widen (k := cells + 4) (n := slots + 24) (by omega) (by omega) ?_
          exact (kp.go K1) σ4 hI2 hT2 H locs ls hP hD hS (lv_sub hl [1, 2, 3, 4, 5, 6, 0] rfl)
        · exfalso; omega
  · have hc_195 := c_1
    refine z_bipush hF dL_law_198 (by decide) ?_
    refine z_goto (tgt := 219) hF dL_law_200 (by decide) ?_
    refine z_iconst hF dL_law_219 ?_
    refine lv_aload_n hx hb dL_law_220 rfl (lv_at hl 0 rfl) ?_
    refine z_bipush hF dL_law_221 (by decide) ?_
    refine z_iconst hF dL_law_223 ?_
    refine cj0_i (va_runS (As := [.ref b, .int (zI 6), .int (zI 2)]) (rest := [.int (zI 0), .int (zI 104), .ref (a 0)]) hF (c_L_some l G b Ln sx 6 2 (by omega) (by omega) (by omega) H.size) (va_cwS 3 hF.2.2.2.2 gL_law_L_some rfl rfl rfl (by decide +kernel) ⟨Nat.le_of_ble_eq_true rfl, Nat.le_of_ble_eq_true rfl⟩) (z_preSs hK hS hA hBd hX hbl hbA [.ref b, .int (zI 6), .int (zI 2)]) rfl rfl hl.1 rfl (lv_room (Nat.le_of_ble_eq_true rfl)) dL_law_224 (lx_fit (by omega) (by omega) hr)) hP hD hS hA (fun r_27 u_26 H locs hw hP hD hS => ?_)
    obtain ⟨hv_28, rfl⟩ := hw
    have hv_u_26 : 0 ≤ u_26 ∧ u_26 < 2 := hv_28
    refine z_if_ne (tgt := 234) hF dL_law_227 (by decide) (by omega) (fun c_29 => ?_) (fun c_29 => ?_)
    · have hc_227 := c_29
      refine z_iconst hF dL_law_234 ?_
      refine cj_i (vx_runSW (As := [.ref (a 0), .int (zI 104), .int (zI 0), .int (zI 0)]) (rest := []) hF (c_L_start l hst G (a 0) (a 1) (a 2) (a 5) (a 9) (a 11) (a 12) (a 14) (a 16) (a 24) (a 32) (a 34) (a 36) (g_ph σ) (g_mv σ) (g_sk σ) (g_ho σ) (g_lk σ) (g_op σ) (g_va σ) (g_le σ) (g_ja σ) (g_cr σ) (g_p0 σ) (g_p1 σ) (a 3) (a 4) (g_se σ) (g_ba σ) (g_tn σ) 104 0 0  (by have := hY.1; omega) (gY_tn hY) (by decide) (by decide) (by decide) ⟨by decide, by decide, by decide⟩ ⟨hY.1, Or.inr (by decide)⟩ H.size) (vx_cwSW 4 hF.2.2.2.2 gL_law_L_start rfl rfl rfl (by decide +kernel) ⟨Nat.le_of_ble_eq_true rfl, Nat.le_of_ble_eq_true rfl⟩) (z_preS hK hP hD hS hA hBd [0, 1, 2, 3, 4] rfl rfl [.ref (a 0), .int (zI 104), .int (zI 0), .int (zI 0)]) rfl rfl hl.1 rfl (lv_room (Nat.le_of_ble_eq_true rfl)) dL_law_235 (lx_fit (by omega) (by omega) hr)) hP hD hS hA [0, 1, 2, 3, 4] rfl (fun _ => Nat.le_of_ble_eq_true rfl) (fun r_31 u_30 H locs hw hP hD hS => ?_)
      have hP := wmixP [true, true, true, true, true] (by decide +kernel) hP
      have hD := wmixD [true, true, true, true, true] (by decide +kernel) hD
      obtain ⟨-, -, -, rfl⟩ := hw
      have hP : va_P G.1 vwCl (gW G a (s_start σ 104 0 0)) H := hP
      have hD : va_D A (gW G a (s_start σ 104 0 0)) := hD
      obtain ⟨σ5, e9, hI2, hT2⟩ : ∃ q : gS, gW G a q = gW G a (s_start σ 104 0 0) ∧ gI all seats 0 0 q ∧ gT all 0 0 q := ⟨s_start σ 104 0 0, rfl, gY_start hY (by decide) (by omega) (by have := lyE_cs 104; omega)⟩
      rw [← e9] at hP hD
      clear e9
      have hP : va_P G.1 vwCl (gW G a σ5) H := hP
      have hD : va_D A (gW G a σ5) := hD
      refine z_tz (b := all) (by have := lyE_cs 104; omega) ?_
      refine lv_iload_n hx hb dL_law_238 rfl (lv_at hl 2 rfl) ?_
      refine z_icmp_eq (tgt := 244) hF dL_law_239 (by decide) (by omega) (by omega) (fun c_32 => ?_) (fun c_32 => ?_)
      · have hc_239 := c_32
        refine z_iconst hF dL_law_244 ?_
        refine lv_istore (lv' := [(13, .int (zI 0)), (0, .ref b), (1, .ref (a 0)), (2, .int (zI all)), (3, .int (zI seats)), (5, .int (zI 0)), (6, .int (zI 0))]) hx hb dL_law_245 hl (by decide) rfl (fun ls hl => ?_)
        refine W.widen (k := cells + 4) (n := slots + 24) (by omega) (by omega) ?_
        exact (kp.go K1) σ5 hI2 hT2 H locs ls hP hD hS (lv_sub hl [1, 2, 3, 4, 5, 6, 0] rfl)
      · exfalso; omega
    · have hc_227 := c_29
      refine z_iconst hF dL_law_230 ?_
      refine z_goto (tgt := 235) hF dL_law_231 (by decide) ?_
      refine cj_i (vx_runSW (As := [.ref (a 0), .int (zI 104), .int (zI 0), .int (zI 1)]) (rest := []) hF (c_L_start l hst G (a 0) (a 1) (a 2) (a 5) (a 9) (a 11) (a 12) (a 14) (a 16) (a 24) (a 32) (a 34) (a 36) (g_ph σ) (g_mv σ) (g_sk σ) (g_ho σ) (g_lk σ) (g_op σ) (g_va σ) (g_le σ) (g_ja σ) (g_cr σ) (g_p0 σ) (g_p1 σ) (a 3) (a 4) (g_se σ) (g_ba σ) (g_tn σ) 104 0 1  (by have := hY.1; omega) (gY_tn hY) (by decide) (by decide) (by decide) ⟨by decide, by decide, by decide⟩ ⟨hY.1, Or.inr (by decide)⟩ H.size) (vx_cwSW 4 hF.2.2.2.2 gL_law_L_start rfl rfl rfl (by decide +kernel) ⟨Nat.le_of_ble_eq_true rfl, Nat.le_of_ble_eq_true rfl⟩) (z_preS hK hP hD hS hA hBd [0, 1, 2, 3, 4] rfl rfl [.ref (a 0), .int (zI 104), .int (zI 0), .int (zI 1)]) rfl rfl hl.1 rfl (lv_room (Nat.le_of_ble_eq_true rfl)) dL_law_235 (lx_fit (by omega) (by omega) hr)) hP hD hS hA [0, 1, 2, 3, 4] rfl (fun _ => Nat.le_of_ble_eq_true rfl) (fun r_34 u_33 H locs hw hP hD hS => ?_)
      have hP := wmixP [true, true, true, true, true] (by decide +kernel) hP
      have hD := wmixD [true, true, true, true, true] (by decide +kernel) hD
      obtain ⟨-, -, -, rfl⟩ := hw
      have hP : va_P G.1 vwCl (gW G a (s_start σ 104 0 1)) H := hP
      have hD : va_D A (gW G a (s_start σ 104 0 1)) := hD
      obtain ⟨σ6, e9, hI2, hT2⟩ : ∃ q : gS, gW G a q = gW G a (s_start σ 104 0 1) ∧ gI all seats 0 0 q ∧ gT all 0 0 q := ⟨s_start σ 104 0 1, rfl, gY_start hY (by decide) (by omega) (by have := lyE_cs 104; omega)⟩
      rw [← e9] at hP hD
      clear e9
      have hP : va_P G.1 vwCl (gW G a σ6) H := hP
      have hD : va_D A (gW G a σ6) := hD
      refine z_tz (b := all) (by have := lyE_cs 104; omega) ?_
      refine lv_iload_n hx hb dL_law_238 rfl (lv_at hl 2 rfl) ?_
      refine z_icmp_eq (tgt := 244) hF dL_law_239 (by decide) (by omega) (by omega) (fun c_35 => ?_) (fun c_35 => ?_)
      · have hc_239 := c_35
        refine z_iconst hF dL_law_244 ?_
        refine lv_istore (lv' := [(13, .int (zI 0)), (0, .ref b), (1, .ref (a 0)), (2, .int (zI all)), (3, .int (zI seats)), (5, .int (zI 0)), (6, .int (zI 0))]) hx hb dL_law_245 hl (by decide) rfl (fun ls hl => ?_)
        refine W.widen (k := cells + 4) (n := slots + 24) (by omega) (by omega) ?_
        exact (kp.go K1) σ6 hI2 hT2 H locs ls hP hD hS (lv_sub hl [1, 2, 3, 4, 5, 6, 0] rfl)
      · exfalso; omega

