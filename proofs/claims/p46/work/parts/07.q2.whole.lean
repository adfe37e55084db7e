theorem sz_men {b : Int → Int} {sd : Int} : sz (fun q => b (26 * sd + q)) 26 = men b sd := rfl
set_option maxHeartbeats 4000000 in
set_option maxRecDepth 100000 in
theorem c_L_whole (l : Launch) (hst : l.stackTraces = false) (G : wG) (a : Nat → Nat) (σ : gS) (all : Int) (hall : 0 ≤ all ∧ all ≤ 15) (hv : VB all (g_bb σ)) (hno : nOv (g_bb σ)) (z9 : Nat) : Met l yL_whole wsL_whole (rmL 10 212 1272) (wPc G (gW G a σ) z9 [.ref (a 0), .int (zI all)]) (wQi G (fun (r : Int32) (u : Unit) => r = zI 1) (fun (_ : Unit) => gW G a σ) (va_A (gW G a σ) z9)) 212 1272 (va_A (gW G a σ) z9) := by
  refine z_ofW (Qc := fun A => wQi G (fun (r : Int32) (u : Unit) => r = zI 1) (fun (_ : Unit) => gW G a σ) A) l G (gW G a σ) [.ref (a 0), .int (zI all)] (by decide) rfl rfl ?_ z9
  intro p e s m args below meth c A ls H locs hF hr9 hlocks hinit hP hK hD hA hS hBd hl
  have hF : wFx p m c cL_whole 7 s args wsL_whole RL := hF
  have hl : lv_has ls 7 [(0, .ref (a 0)), (1, .int (zI all))] := hl
  have hx := hF.1
  have hb := hF.2.1
  have bbr : ∀ k : Int, 0 ≤ g_bb σ k ∧ g_bb σ k ≤ 15 := fun k => ⟨hv.1 k, by have := hv.le k; omega⟩
  obtain ⟨Q0, hQ⟩ : ∃ q, q = (MQ below (wQi G (fun (r : Int32) (u : Unit) => r = zI 1) (fun (_ : Unit) => gW G a σ) A) args s 212 1272 A) := ⟨_, rfl⟩
  rw [← hQ]
  have LO : ∀ (n9 : Nat) (sd : Int) (kc ks : Nat), (2 - sd).toNat < n9 → 0 ≤ sd ∧ sd ≤ 2 → (kc : Int) ≤ 106 * sd ∧ (ks : Int) ≤ 636 * sd → ∀ (H : Heap) (locs : List Loc) (ls : Array Slot), va_P G.1 vwCl (gW G a σ) H → va_D A (gW G a σ) → va_S A s.heap H locs → lv_has ls 7 [(2, .int (zI sd)), (0, .ref (a 0)), (1, .int (zI all))] → W p l e (rmL 10 212 1272) s m args below meth c H locs kc ks Q0 (F0 m 2 ls []) := by
    intro n9
    induction n9 with
    | zero => intro sd kc ks h; omega
    | succ n9 ihO =>
      intro sd kc ks hmu hsd hcs H locs ls hP hD hS hl
      refine lv_iload_n hx hb dL_whole_2 rfl (lv_at hl 0 rfl) ?_
      refine z_iconst hF dL_whole_3 ?_
      refine z_icmp_ge (tgt := 114) hF dL_whole_4 (by decide) (by omega) (by decide) (fun c_1 => ?_) (fun c_1 => ?_)
      · have hc_4 := c_1
        refine z_iconst hF dL_whole_114 ?_
        rw [hQ]
        refine W.widen (k := 212) (n := 1272) (by omega) (by omega) ?_
        exact z_zret hF hr9 hlocks rfl () rfl hP hK hD hS dL_whole_115
      · have hc_4 := c_1
        refine z_iconst hF dL_whole_7 ?_
        refine lv_istore_n (lv' := [(3, .int (zI 0)), (2, .int (zI sd)), (0, .ref (a 0)), (1, .int (zI all))]) hx hb dL_whole_8 rfl hl (by decide) rfl (fun ls hl => ?_)
        refine z_iconst hF dL_whole_9 ?_
        refine lv_istore (lv' := [(4, .int (zI 0)), (3, .int (zI 0)), (2, .int (zI sd)), (0, .ref (a 0)), (1, .int (zI all))]) hx hb dL_whole_10 hl (by decide) rfl (fun ls hl => ?_)
        refine z_iconst hF dL_whole_12 ?_
        refine lv_istore (lv' := [(5, .int (zI 0)), (4, .int (zI 0)), (3, .int (zI 0)), (2, .int (zI sd)), (0, .ref (a 0)), (1, .int (zI all))]) hx hb dL_whole_13 hl (by decide) rfl (fun ls hl => ?_)
        have LI : ∀ (n8 : Nat) (p8 mn pp : Int) (kc ks : Nat), (26 - p8).toNat < n8 → 0 ≤ p8 ∧ p8 ≤ 26 → mn = sz (fun q => g_bb σ (26 * sd + q)) p8 → pp = sz (fun q => q * g_bb σ (26 * sd + q)) p8 → (kc : Int) ≤ 106 * sd + 4 * p8 ∧ (ks : Int) ≤ 636 * sd + 24 * p8 → ∀ (H : Heap) (locs : List Loc) (ls : Array Slot), va_P G.1 vwCl (gW G a σ) H → va_D A (gW G a σ) → va_S A s.heap H locs → lv_has ls 7 [(5, .int (zI p8)), (4, .int (zI pp)), (3, .int (zI mn)), (2, .int (zI sd)), (0, .ref (a 0)), (1, .int (zI all))] → W p l e (rmL 10 212 1272) s m args below meth c H locs kc ks Q0 (F0 m 15 ls []) := by
          intro n8
          induction n8 with
          | zero => intro p8 mn pp kc ks h; omega
          | succ n8 ihI =>
            intro p8 mn pp kc ks hmu8 hp8 hmn hpp9 hcs8 H locs ls hP hD hS hl
            refine lv_iload hx hb dL_whole_15 (lv_at hl 0 rfl) ?_
            refine z_bipush hF dL_whole_17 (by decide) ?_
            refine z_icmp_ge (tgt := 91) hF dL_whole_19 (by decide) (by omega) (by decide) (fun c_2 => ?_) (fun c_2 => ?_)
            · have hc_19 := c_2
              have h26 : p8 = 26 := by omega
              have hmn2 : mn = all := by rw [hmn, h26]; exact hv.m (by omega)
              have hpp2 : pp = pipB (g_bb σ) sd := by rw [hpp9, h26]; rfl
              refine lv_iload_n hx hb dL_whole_91 rfl (lv_at hl 2 rfl) ?_
              refine lv_iload_n hx hb dL_whole_92 rfl (lv_at hl 5 rfl) ?_
              refine z_icmp_ne (tgt := 106) hF dL_whole_93 (by decide) (by omega) (by omega) (fun c_3 => ?_) (fun c_3 => ?_)
              · exfalso; omega
              · have hc_93 := c_3
                refine lv_aload_n hx hb dL_whole_96 rfl (lv_at hl 4 rfl) ?_
                refine lv_iload_n hx hb dL_whole_97 rfl (lv_at hl 3 rfl) ?_
                refine cj_i (vx_runSW (As := [.ref (a 0), .int (zI sd)]) (rest := []) hF (c_L_pips l hst G (a 0) (a 1) (a 2) (a 5) (a 9) (a 11) (a 12) (a 14) (a 16) (a 24) (a 32) (a 34) (a 36) (g_ph σ) (g_mv σ) (g_sk σ) (g_ho σ) (g_lk σ) (a 35) (g_bb σ) sd  (by omega) (by omega) H.size) (vx_cwSW 2 hF.2.2.2.2 gL_whole_L_pips rfl rfl rfl (by decide +kernel) ⟨Nat.le_of_ble_eq_true rfl, Nat.le_of_ble_eq_true rfl⟩) (z_preS hK hP hD hS hA hBd [0, 34, 35] rfl rfl [.ref (a 0), .int (zI sd)]) rfl rfl hl.1 rfl (lv_room (Nat.le_of_ble_eq_true rfl)) dL_whole_98 (rm_fit (by omega) (by omega))) hP hD hS hA [0, 34, 35] rfl (fun _ => Nat.le_of_ble_eq_true rfl) (fun r_5 u_4 H locs hw hP hD hS => ?_)
                have hP := wmixP [true, false, false, false, false, false, false, false, false, false, false, false, false, false, false, false, false, false, false, false, false, false, false, false, false, false, false, false, false, false, false, false, false, false, true, true] (by decide +kernel) hP
                have hD := wmixD [true, false, false, false, false, false, false, false, false, false, false, false, false, false, false, false, false, false, false, false, false, false, false, false, false, false, false, false, false, false, false, false, false, false, true, true] (by decide +kernel) hD
                obtain ⟨-, rfl⟩ := hw
                have hP : va_P G.1 vwCl (gW G a σ) H := hP
                have hD : va_D A (gW G a σ) := hD
                refine z_tz (b := pipB (g_bb σ) sd) rfl ?_
                have hpp := pipB_rg (sd := sd) hv hall.2 (by omega)
                refine lv_iload hx hb dL_whole_101 (lv_at hl 1 rfl) ?_
                refine z_icmp_eq (tgt := 108) hF dL_whole_103 (by decide) (by omega) (by omega) (fun c_6 => ?_) (fun c_6 => ?_)
                · have hc_103 := c_6
                  refine z_iinc (lv' := [(2, .int (zI (sd + 1))), (5, .int (zI p8)), (4, .int (zI pp)), (3, .int (zI mn)), (0, .ref (a 0)), (1, .int (zI all))]) hF dL_whole_108 hl (k := 3) rfl (by decide) rfl (fun ls hl => ?_)
                  refine z_goto (tgt := 2) hF dL_whole_111 (by decide) ?_
                  exact ihO (sd + 1) _ _ (by omega) (by omega) (by omega) H locs ls hP hD hS (lv_sub hl [0, 4, 5] rfl)
                · exfalso; omega
            · have hc_19 := c_2
              refine lv_aload_n hx hb dL_whole_22 rfl (lv_at hl 4 rfl) ?_
              refine lv_iload_n hx hb dL_whole_23 rfl (lv_at hl 3 rfl) ?_
              refine lv_iload hx hb dL_whole_24 (lv_at hl 0 rfl) ?_
              refine cj_i (vx_runSW (As := [.ref (a 0), .int (zI sd), .int (zI p8)]) (rest := []) hF (c_L_men l hst G (a 0) (a 1) (a 2) (a 5) (a 9) (a 11) (a 12) (a 14) (a 16) (a 24) (a 32) (a 34) (a 36) (g_ph σ) (g_mv σ) (g_sk σ) (g_ho σ) (g_lk σ) (a 35) (g_bb σ) sd p8  (by omega) (by omega) (by omega) (by omega) H.size) (vx_cwSW 3 hF.2.2.2.2 gL_whole_L_men rfl rfl rfl (by decide +kernel) ⟨Nat.le_of_ble_eq_true rfl, Nat.le_of_ble_eq_true rfl⟩) (z_preS hK hP hD hS hA hBd [0, 34, 35] rfl rfl [.ref (a 0), .int (zI sd), .int (zI p8)]) rfl rfl hl.1 rfl (lv_room (Nat.le_of_ble_eq_true rfl)) dL_whole_26 (rm_fit (by omega) (by omega))) hP hD hS hA [0, 34, 35] rfl (fun _ => Nat.le_of_ble_eq_true rfl) (fun r_8 u_7 H locs hw hP hD hS => ?_)
              have hP := wmixP [true, false, false, false, false, false, false, false, false, false, false, false, false, false, false, false, false, false, false, false, false, false, false, false, false, false, false, false, false, false, false, false, false, false, true, true] (by decide +kernel) hP
              have hD := wmixD [true, false, false, false, false, false, false, false, false, false, false, false, false, false, false, false, false, false, false, false, false, false, false, false, false, false, false, false, false, false, false, false, false, false, true, true] (by decide +kernel) hD
              obtain ⟨-, -, rfl⟩ := hw
              have hP : va_P G.1 vwCl (gW G a σ) H := hP
              have hD : va_D A (gW G a σ) := hD
              have hmn_r_8 := bbr (26 * sd + p8)
              refine lv_istore (lv' := [(6, .int (zI (g_bb σ (26 * sd + p8)))), (5, .int (zI p8)), (4, .int (zI pp)), (3, .int (zI mn)), (2, .int (zI sd)), (0, .ref (a 0)), (1, .int (zI all))]) hx hb dL_whole_29 hl (by decide) rfl (fun ls hl => ?_)
              refine lv_iload hx hb dL_whole_31 (lv_at hl 0 rfl) ?_
              refine z_if_lt (tgt := 68) hF dL_whole_33 (by decide) (by omega) (fun c_9 => ?_) (fun c_9 => ?_)
              · exfalso; omega
              · have hc_33 := c_9
                refine lv_iload hx hb dL_whole_36 (lv_at hl 1 rfl) ?_
                refine z_if_le (tgt := 70) hF dL_whole_38 (by decide) (by omega) (fun c_10 => ?_) (fun c_10 => ?_)
                · have hc_38 := c_10
                  refine lv_iload_n hx hb dL_whole_70 rfl (lv_at hl 3 rfl) ?_
                  refine lv_iload hx hb dL_whole_71 (lv_at hl 0 rfl) ?_
                  refine z_iadd hF dL_whole_73 ?_
                  refine lv_istore_n (lv' := [(3, .int (zI (mn + (g_bb σ (26 * sd + p8))))), (6, .int (zI (g_bb σ (26 * sd + p8)))), (5, .int (zI p8)), (4, .int (zI pp)), (2, .int (zI sd)), (0, .ref (a 0)), (1, .int (zI all))]) hx hb dL_whole_74 rfl hl (by decide) rfl (fun ls hl => ?_)
                  refine lv_iload hx hb dL_whole_75 (lv_at hl 3 rfl) ?_
                  refine lv_iload hx hb dL_whole_77 (lv_at hl 2 rfl) ?_
                  refine lv_iload hx hb dL_whole_79 (lv_at hl 1 rfl) ?_
                  refine z_imul hF dL_whole_81 ?_
                  refine z_iadd hF dL_whole_82 ?_
                  refine lv_istore (lv' := [(4, .int (zI (pp + (p8 * (g_bb σ (26 * sd + p8)))))), (3, .int (zI (mn + (g_bb σ (26 * sd + p8))))), (6, .int (zI (g_bb σ (26 * sd + p8)))), (5, .int (zI p8)), (2, .int (zI sd)), (0, .ref (a 0)), (1, .int (zI all))]) hx hb dL_whole_83 hl (by decide) rfl (fun ls hl => ?_)
                  refine z_iinc (lv' := [(5, .int (zI (p8 + 1))), (4, .int (zI (pp + (p8 * (g_bb σ (26 * sd + p8)))))), (3, .int (zI (mn + (g_bb σ (26 * sd + p8))))), (6, .int (zI (g_bb σ (26 * sd + p8)))), (2, .int (zI sd)), (0, .ref (a 0)), (1, .int (zI all))]) hF dL_whole_85 hl (k := 3) rfl (by decide) rfl (fun ls hl => ?_)
                  refine z_goto (tgt := 15) hF dL_whole_88 (by decide) ?_
                  refine ihI (p8 + 1) (mn + g_bb σ (26 * sd + p8)) (pp + p8 * g_bb σ (26 * sd + p8)) _ _ (by omega) (by omega) ?_ ?_ (by omega) H locs ls hP hD hS (lv_sub hl [0, 1, 2, 4, 5, 6] rfl)
                  · rw [sz_s _ (by omega), hmn]
                  · rw [sz_s _ (by omega), hpp9]
                · have hc_38 := c_10
                  refine lv_iload hx hb dL_whole_41 (lv_at hl 1 rfl) ?_
                  refine z_bipush hF dL_whole_43 (by decide) ?_
                  refine z_icmp_ge (tgt := 70) hF dL_whole_45 (by decide) (by omega) (by decide) (fun c_11 => ?_) (fun c_11 => ?_)
                  · have hc_45 := c_11
                    refine lv_iload_n hx hb dL_whole_70 rfl (lv_at hl 3 rfl) ?_
                    refine lv_iload hx hb dL_whole_71 (lv_at hl 0 rfl) ?_
                    refine z_iadd hF dL_whole_73 ?_
                    refine lv_istore_n (lv' := [(3, .int (zI (mn + (g_bb σ (26 * sd + p8))))), (6, .int (zI (g_bb σ (26 * sd + p8)))), (5, .int (zI p8)), (4, .int (zI pp)), (2, .int (zI sd)), (0, .ref (a 0)), (1, .int (zI all))]) hx hb dL_whole_74 rfl hl (by decide) rfl (fun ls hl => ?_)
                    refine lv_iload hx hb dL_whole_75 (lv_at hl 3 rfl) ?_
                    refine lv_iload hx hb dL_whole_77 (lv_at hl 2 rfl) ?_
                    refine lv_iload hx hb dL_whole_79 (lv_at hl 1 rfl) ?_
                    refine z_imul hF dL_whole_81 ?_
                    refine z_iadd hF dL_whole_82 ?_
                    refine lv_istore (lv' := [(4, .int (zI (pp + (p8 * (g_bb σ (26 * sd + p8)))))), (3, .int (zI (mn + (g_bb σ (26 * sd + p8))))), (6, .int (zI (g_bb σ (26 * sd + p8)))), (5, .int (zI p8)), (2, .int (zI sd)), (0, .ref (a 0)), (1, .int (zI all))]) hx hb dL_whole_83 hl (by decide) rfl (fun ls hl => ?_)
                    refine z_iinc (lv' := [(5, .int (zI (p8 + 1))), (4, .int (zI (pp + (p8 * (g_bb σ (26 * sd + p8)))))), (3, .int (zI (mn + (g_bb σ (26 * sd + p8))))), (6, .int (zI (g_bb σ (26 * sd + p8)))), (2, .int (zI sd)), (0, .ref (a 0)), (1, .int (zI all))]) hF dL_whole_85 hl (k := 3) rfl (by decide) rfl (fun ls hl => ?_)
                    refine z_goto (tgt := 15) hF dL_whole_88 (by decide) ?_
                    refine ihI (p8 + 1) (mn + g_bb σ (26 * sd + p8)) (pp + p8 * g_bb σ (26 * sd + p8)) _ _ (by omega) (by omega) ?_ ?_ (by omega) H locs ls hP hD hS (lv_sub hl [0, 1, 2, 4, 5, 6] rfl)
                    · rw [sz_s _ (by omega), hmn]
                    · rw [sz_s _ (by omega), hpp9]
                  · have hc_45 := c_11
                    refine lv_iload hx hb dL_whole_48 (lv_at hl 0 rfl) ?_
                    refine z_if_le (tgt := 70) hF dL_whole_50 (by decide) (by omega) (fun c_12 => ?_) (fun c_12 => ?_)
                    · have hc_50 := c_12
                      refine lv_iload_n hx hb dL_whole_70 rfl (lv_at hl 3 rfl) ?_
                      refine lv_iload hx hb dL_whole_71 (lv_at hl 0 rfl) ?_
                      refine z_iadd hF dL_whole_73 ?_
                      refine lv_istore_n (lv' := [(3, .int (zI (mn + (g_bb σ (26 * sd + p8))))), (6, .int (zI (g_bb σ (26 * sd + p8)))), (5, .int (zI p8)), (4, .int (zI pp)), (2, .int (zI sd)), (0, .ref (a 0)), (1, .int (zI all))]) hx hb dL_whole_74 rfl hl (by decide) rfl (fun ls hl => ?_)
                      refine lv_iload hx hb dL_whole_75 (lv_at hl 3 rfl) ?_
                      refine lv_iload hx hb dL_whole_77 (lv_at hl 2 rfl) ?_
                      refine lv_iload hx hb dL_whole_79 (lv_at hl 1 rfl) ?_
                      refine z_imul hF dL_whole_81 ?_
                      refine z_iadd hF dL_whole_82 ?_
                      refine lv_istore (lv' := [(4, .int (zI (pp + (p8 * (g_bb σ (26 * sd + p8)))))), (3, .int (zI (mn + (g_bb σ (26 * sd + p8))))), (6, .int (zI (g_bb σ (26 * sd + p8)))), (5, .int (zI p8)), (2, .int (zI sd)), (0, .ref (a 0)), (1, .int (zI all))]) hx hb dL_whole_83 hl (by decide) rfl (fun ls hl => ?_)
                      refine z_iinc (lv' := [(5, .int (zI (p8 + 1))), (4, .int (zI (pp + (p8 * (g_bb σ (26 * sd + p8)))))), (3, .int (zI (mn + (g_bb σ (26 * sd + p8))))), (6, .int (zI (g_bb σ (26 * sd + p8)))), (2, .int (zI sd)), (0, .ref (a 0)), (1, .int (zI all))]) hF dL_whole_85 hl (k := 3) rfl (by decide) rfl (fun ls hl => ?_)
                      refine z_goto (tgt := 15) hF dL_whole_88 (by decide) ?_
                      refine ihI (p8 + 1) (mn + g_bb σ (26 * sd + p8)) (pp + p8 * g_bb σ (26 * sd + p8)) _ _ (by omega) (by omega) ?_ ?_ (by omega) H locs ls hP hD hS (lv_sub hl [0, 1, 2, 4, 5, 6] rfl)
                      · rw [sz_s _ (by omega), hmn]
                      · rw [sz_s _ (by omega), hpp9]
                    · have hc_50 := c_12
                      refine lv_aload_n hx hb dL_whole_53 rfl (lv_at hl 5 rfl) ?_
                      refine z_iconst hF dL_whole_54 ?_
                      refine lv_iload_n hx hb dL_whole_55 rfl (lv_at hl 4 rfl) ?_
                      refine z_isub hF dL_whole_56 ?_
                      refine z_bipush hF dL_whole_57 (by decide) ?_
                      refine lv_iload hx hb dL_whole_59 (lv_at hl 1 rfl) ?_
                      refine z_isub hF dL_whole_61 ?_
                      refine cj_i (vx_runSW (As := [.ref (a 0), .int (zI (1 - sd)), .int (zI (25 - p8))]) (rest := []) hF (c_L_men l hst G (a 0) (a 1) (a 2) (a 5) (a 9) (a 11) (a 12) (a 14) (a 16) (a 24) (a 32) (a 34) (a 36) (g_ph σ) (g_mv σ) (g_sk σ) (g_ho σ) (g_lk σ) (a 35) (g_bb σ) (1 - sd) (25 - p8)  (by omega) (by omega) (by omega) (by omega) H.size) (vx_cwSW 3 hF.2.2.2.2 gL_whole_L_men rfl rfl rfl (by decide +kernel) ⟨Nat.le_of_ble_eq_true rfl, Nat.le_of_ble_eq_true rfl⟩) (z_preS hK hP hD hS hA hBd [0, 34, 35] rfl rfl [.ref (a 0), .int (zI (1 - sd)), .int (zI (25 - p8))]) rfl rfl hl.1 rfl (lv_room (Nat.le_of_ble_eq_true rfl)) dL_whole_62 (rm_fit (by omega) (by omega))) hP hD hS hA [0, 34, 35] rfl (fun _ => Nat.le_of_ble_eq_true rfl) (fun r_14 u_13 H locs hw hP hD hS => ?_)
                      have hP := wmixP [true, false, false, false, false, false, false, false, false, false, false, false, false, false, false, false, false, false, false, false, false, false, false, false, false, false, false, false, false, false, false, false, false, false, true, true] (by decide +kernel) hP
                      have hD := wmixD [true, false, false, false, false, false, false, false, false, false, false, false, false, false, false, false, false, false, false, false, false, false, false, false, false, false, false, false, false, false, false, false, false, false, true, true] (by decide +kernel) hD
                      obtain ⟨-, -, rfl⟩ := hw
                      have hP : va_P G.1 vwCl (gW G a σ) H := hP
                      have hD : va_D A (gW G a σ) := hD
                      have hmn_r_14 := bbr (26 * (1 - sd) + (25 - p8))
                      refine z_if_le (tgt := 70) hF dL_whole_65 (by decide) (by omega) (fun c_15 => ?_) (fun c_15 => ?_)
                      · have hc_65 := c_15
                        refine lv_iload_n hx hb dL_whole_70 rfl (lv_at hl 3 rfl) ?_
                        refine lv_iload hx hb dL_whole_71 (lv_at hl 0 rfl) ?_
                        refine z_iadd hF dL_whole_73 ?_
                        refine lv_istore_n (lv' := [(3, .int (zI (mn + (g_bb σ (26 * sd + p8))))), (6, .int (zI (g_bb σ (26 * sd + p8)))), (5, .int (zI p8)), (4, .int (zI pp)), (2, .int (zI sd)), (0, .ref (a 0)), (1, .int (zI all))]) hx hb dL_whole_74 rfl hl (by decide) rfl (fun ls hl => ?_)
                        refine lv_iload hx hb dL_whole_75 (lv_at hl 3 rfl) ?_
                        refine lv_iload hx hb dL_whole_77 (lv_at hl 2 rfl) ?_
                        refine lv_iload hx hb dL_whole_79 (lv_at hl 1 rfl) ?_
                        refine z_imul hF dL_whole_81 ?_
                        refine z_iadd hF dL_whole_82 ?_
                        refine lv_istore (lv' := [(4, .int (zI (pp + (p8 * (g_bb σ (26 * sd + p8)))))), (3, .int (zI (mn + (g_bb σ (26 * sd + p8))))), (6, .int (zI (g_bb σ (26 * sd + p8)))), (5, .int (zI p8)), (2, .int (zI sd)), (0, .ref (a 0)), (1, .int (zI all))]) hx hb dL_whole_83 hl (by decide) rfl (fun ls hl => ?_)
                        refine z_iinc (lv' := [(5, .int (zI (p8 + 1))), (4, .int (zI (pp + (p8 * (g_bb σ (26 * sd + p8)))))), (3, .int (zI (mn + (g_bb σ (26 * sd + p8))))), (6, .int (zI (g_bb σ (26 * sd + p8)))), (2, .int (zI sd)), (0, .ref (a 0)), (1, .int (zI all))]) hF dL_whole_85 hl (k := 3) rfl (by decide) rfl (fun ls hl => ?_)
                        refine z_goto (tgt := 15) hF dL_whole_88 (by decide) ?_
                        refine ihI (p8 + 1) (mn + g_bb σ (26 * sd + p8)) (pp + p8 * g_bb σ (26 * sd + p8)) _ _ (by omega) (by omega) ?_ ?_ (by omega) H locs ls hP hD hS (lv_sub hl [0, 1, 2, 4, 5, 6] rfl)
                        · rw [sz_s _ (by omega), hmn]
                        · rw [sz_s _ (by omega), hpp9]
                      · exfalso; have h9 := hno.sd (sd := sd) (by omega) (p := p8) (by omega) (by omega); omega
        exact LI _ 0 0 0 kc ks (Nat.lt_succ_self _) (by omega) rfl rfl (by omega) H locs ls hP hD hS (lv_sub hl [0, 1, 2, 3, 4, 5] rfl)
  refine z_iconst hF dL_whole_0 ?_
  refine lv_istore_n (lv' := [(2, .int (zI 0)), (0, .ref (a 0)), (1, .int (zI all))]) hx hb dL_whole_1 rfl hl (by decide) rfl (fun ls hl => ?_)
  exact LO _ 0 0 0 (Nat.lt_succ_self _) (by omega) (by omega) H locs ls hP hD hS (lv_sub hl [0, 1, 2] rfl)
