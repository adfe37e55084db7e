def CHS (l : Launch) (G : wG) (n : Nat) : Prop := ∀ (h0 a0 : Nat) (f : Int → UInt64) (v w dp : Int)  (hv : v7 v) (hw : v7 w) (hw0 : w ≠ 0) (hv0 : v ≠ 0) (hnn : pip v + pip w ≤ n) (hdp : 0 ≤ dp ∧ 2 * dp + pip v + pip w ≤ 24) (hI : chI f) (z9 : Nat), Met l yX1_chanceFrom wsX1_chanceFrom (rmL (20 + 9 * n) 0 0) (wPc G [(h0, .inr (1, [.ref a0])), (a0, .inl (G.2.1.2.2, 2401, .inr (.inr (.inr (.inl (aD f))))))] z9 [.ref h0, .int (zI v), .int (zI w), .int (zI dp)]) (wQd G (fun (r : UInt64) (u : (Int → UInt64)) => chI u ∧ r = (chV v w)) (fun (u : (Int → UInt64)) => [(h0, .inr (1, [.ref a0])), (a0, .inl (G.2.1.2.2, 2401, .inr (.inr (.inr (.inl (aD u))))))]) (va_A [(h0, .inr (1, [.ref a0])), (a0, .inl (G.2.1.2.2, 2401, .inr (.inr (.inr (.inl (aD f))))))] z9)) 0 0 (va_A [(h0, .inr (1, [.ref a0])), (a0, .inl (G.2.1.2.2, 2401, .inr (.inr (.inr (.inl (aD f))))))] z9)
def GRS (l : Launch) (G : wG) (n mm : Nat) : Prop := ∀ (h0 a0 : Nat) (f : Int → UInt64) (v w d nd k dp j : Int)  (hv : v7 v) (hw : v7 w) (hw0 : w ≠ 0) (hd6 : 1 ≤ d ∧ d ≤ 6) (hn6 : 1 ≤ nd ∧ nd ≤ 6) (hkm : k = (mm : Int) ∧ k ≤ 4) (hj : 0 ≤ j ∧ 2 ≤ j + k) (hnn : pip v + pip w + j ≤ n) (hdp : 0 ≤ dp ∧ 2 * dp + pip v + pip w + j ≤ 24) (hI : chI f) (z9 : Nat), Met l yX1_greatest wsX1_greatest (rmL (12 + 9 * n + mm) 0 0) (wPc G [(h0, .inr (1, [.ref a0])), (a0, .inl (G.2.1.2.2, 2401, .inr (.inr (.inr (.inl (aD f))))))] z9 [.ref h0, .int (zI v), .int (zI w), .int (zI d), .int (zI nd), .int (zI k), .int (zI dp)]) (wQd G (fun (r : UInt64) (u : (Int → UInt64)) => chI u ∧ r = (grC chV w mm v d nd)) (fun (u : (Int → UInt64)) => [(h0, .inr (1, [.ref a0])), (a0, .inl (G.2.1.2.2, 2401, .inr (.inr (.inr (.inl (aD u))))))]) (va_A [(h0, .inr (1, [.ref a0])), (a0, .inl (G.2.1.2.2, 2401, .inr (.inr (.inr (.inl (aD f))))))] z9)) 0 0 (va_A [(h0, .inr (1, [.ref a0])), (a0, .inl (G.2.1.2.2, 2401, .inr (.inr (.inr (.inl (aD f))))))] z9)
set_option maxHeartbeats 4000000 in
set_option maxRecDepth 100000 in
theorem c_X1_greatest_s (l : Launch) (G : wG) (n mm : Nat) (hfp : FPL) (CHH : ∀ k : Nat, k < n → CHS l G k) (IH : ∀ m0 : Nat, mm = m0 + 1 → GRS l G n m0) : GRS l G n mm := by
  intro h0 a0 f v w d nd k dp j hv hw hw0 hd6 hn6 hkm hj hnn hdp hI z9
  refine z_ofW (Qc := fun A => wQd G (fun (r : UInt64) (u : (Int → UInt64)) => chI u ∧ r = (grC chV w mm v d nd)) (fun (u : (Int → UInt64)) => [(h0, .inr (1, [.ref a0])), (a0, .inl (G.2.1.2.2, 2401, .inr (.inr (.inr (.inl (aD u))))))]) A) l G [(h0, .inr (1, [.ref a0])), (a0, .inl (G.2.1.2.2, 2401, .inr (.inr (.inr (.inl (aD f))))))] [.ref h0, .int (zI v), .int (zI w), .int (zI d), .int (zI nd), .int (zI k), .int (zI dp)] (by decide) rfl rfl ?_ z9
  intro p e s m args below meth c A ls H locs hF hr hlocks hinit hP hK hD hA hS hBd hl
  have hF : wFx p m c cX1_greatest 13 s args wsX1_greatest RX1 := hF
  have hl : lv_has ls 13 [(0, .ref h0), (1, .int (zI v)), (2, .int (zI w)), (3, .int (zI d)), (4, .int (zI nd)), (5, .int (zI k)), (6, .int (zI dp))] := hl
  have hx := hF.1
  have hb := hF.2.1
  obtain ⟨Q0, hQ⟩ : ∃ q, q = (MQ below (wQd G (fun (r : UInt64) (u : (Int → UInt64)) => chI u ∧ r = (grC chV w mm v d nd)) (fun (u : (Int → UInt64)) => [(h0, .inr (1, [.ref a0])), (a0, .inl (G.2.1.2.2, 2401, .inr (.inr (.inr (.inl (aD u))))))]) A) args s 0 0 A) := ⟨_, rfl⟩
  rw [← hQ]
  have km_23 : (Cond.methodLink RX1 23 Lib.Math.max.name).before args s = true := hF.2.2.2.2 _ (List.mem_cons_of_mem _ (List.mem_append_left _ (List.mem_append_left _ (List.mem_of_getElem? (i := 0) rfl))))
  have kq_max : (Cond.code Lib.Math.max.name Lib.Math.max.code 2 (some .int)).before args s = true := hF.2.2.2.2 _ (List.mem_cons_of_mem _ (List.mem_append_left _ (List.mem_append_left _ (List.mem_of_getElem? (i := 3) rfl))))
  have ks_max : (Cond.static Lib.Math.max.name).before args s = true := hF.2.2.2.2 _ (List.mem_cons_of_mem _ (List.mem_append_left _ (List.mem_append_left _ (List.mem_of_getElem? (i := 1) rfl))))
  have kt_Math : (Cond.initialized "java/lang/Math").before args s = true := hF.2.2.2.2 _ (List.mem_cons_of_mem _ (List.mem_append_left _ (List.mem_append_left _ (List.mem_of_getElem? (i := 2) rfl))))
  have hr9 := v7_rg hv
  have hr8 := v7_rg hw
  refine lv_iload_n hx hb dX1_greatest_0 rfl (lv_at hl 1 rfl) ?_
  refine z_if_ne (tgt := 6) hF dX1_greatest_1 (by decide) (by omega) (fun c_1 => ?_) (fun c_1 => ?_)
  · have hc_1 := c_1
    have hv0 : v ≠ 0 := c_1
    have hp9 := v7_pos hv hv0
    have hp8 := v7_pos hw hw0
    refine lv_iload hx hb dX1_greatest_6 (lv_at hl 5 rfl) ?_
    refine z_if_gt (tgt := 24) hF dX1_greatest_8 (by decide) (by omega) (fun c_2 => ?_) (fun c_2 => ?_)
    · have hc_8 := c_2
      obtain ⟨m0, hm0⟩ : ∃ m0, mm = m0 + 1 := ⟨mm - 1, by omega⟩
      subst hm0
      have IHm := IH m0 rfl
      have hmF := mvF hv hv0 hd6.1
      have hz9 : 0 ≤ zmax (v / 7 - d) 0 ∧ zmax (v / 7 - d) 0 ≤ 6 := by rw [zmx0]; split <;> omega
      have hB1 := grC_D (m := m0) (d := nd) (nd := d) hfp hmF.1 hw hw0 hn6.1 hd6.1
      refine lv_iload_n hx hb dX1_greatest_24 rfl (lv_at hl 1 rfl) ?_
      refine z_bipush hF dX1_greatest_25 (by decide) ?_
      refine z_idiv hF dX1_greatest_27 (by omega) (by decide) ?_
      refine lv_istore (lv' := [(7, .int (zI (v / 7))), (0, .ref h0), (1, .int (zI v)), (2, .int (zI w)), (3, .int (zI d)), (4, .int (zI nd)), (5, .int (zI k)), (6, .int (zI dp))]) hx hb dX1_greatest_28 hl (by decide) rfl (fun ls hl => ?_)
      refine lv_iload_n hx hb dX1_greatest_30 rfl (lv_at hl 2 rfl) ?_
      refine z_bipush hF dX1_greatest_31 (by decide) ?_
      refine z_irem hF dX1_greatest_33 (by omega) (by decide) ?_
      refine lv_istore (lv' := [(8, .int (zI (v % 7))), (7, .int (zI (v / 7))), (0, .ref h0), (1, .int (zI v)), (2, .int (zI w)), (3, .int (zI d)), (4, .int (zI nd)), (5, .int (zI k)), (6, .int (zI dp))]) hx hb dX1_greatest_34 hl (by decide) rfl (fun ls hl => ?_)
      refine lv_aload_n hx hb dX1_greatest_36 rfl (lv_at hl 2 rfl) ?_
      refine lv_iload hx hb dX1_greatest_37 (lv_at hl 1 rfl) ?_
      refine lv_iload_n hx hb dX1_greatest_39 rfl (lv_at hl 5 rfl) ?_
      refine z_isub hF dX1_greatest_40 ?_
      refine z_iconst hF dX1_greatest_41 ?_
      refine z_max hF km_23 ks_max kt_Math kq_max hl.1 (Nat.le_of_ble_eq_true rfl) (Nat.le_of_ble_eq_true rfl) (Nat.le_of_ble_eq_true rfl) (Nat.le_of_ble_eq_true rfl) (by omega) (by decide) dX1_greatest_42 ?_
      refine lv_iload hx hb dX1_greatest_45 (lv_at hl 0 rfl) ?_
      refine cj_i (va_runS (As := [.int (zI (zmax ((v / 7) - d) 0)), .int (zI (v % 7))]) (rest := [.ref h0]) hF (c_X1_pair l G (zmax ((v / 7) - d) 0) (v % 7)  (by omega) (by omega) H.size) (va_cwS 2 hF.2.2.2.2 gX1_greatest_X1_pair rfl rfl rfl (by decide +kernel) ⟨by dsimp only [rmL]; omega, by dsimp only [rmL]; omega⟩) (z_preS hK hP hD hS hA hBd [] rfl rfl [.int (zI (zmax ((v / 7) - d) 0)), .int (zI (v % 7))]) rfl rfl hl.1 rfl (lv_room (Nat.le_of_ble_eq_true rfl)) dX1_greatest_47 ⟨Nat.le_of_ble_eq_true rfl, Nat.le_of_ble_eq_true rfl⟩) hP hD hS hA [] rfl (fun _ => Nat.le_of_ble_eq_true rfl) (fun r_4 u_3 H locs hw hP hD hS => ?_)
      have hP : va_P G.1 vwCl [(h0, .inr (1, [.ref a0])), (a0, .inl (G.2.1.2.2, 2401, .inr (.inr (.inr (.inl (aD f))))))] H := hP
      have hD : va_D A [(h0, .inr (1, [.ref a0])), (a0, .inl (G.2.1.2.2, 2401, .inr (.inr (.inr (.inl (aD f))))))] := hD
      obtain rfl := hw
      refine z_tz (b := (pr7 (zmax (v / 7 - d) 0) (v % 7))) rfl ?_
      refine lv_iload_n hx hb dX1_greatest_50 rfl (lv_at hl 4 rfl) ?_
      refine lv_iload hx hb dX1_greatest_51 (lv_at hl 6 rfl) ?_
      refine lv_iload_n hx hb dX1_greatest_53 rfl (lv_at hl 5 rfl) ?_
      refine lv_iload hx hb dX1_greatest_54 (lv_at hl 7 rfl) ?_
      refine z_iconst hF dX1_greatest_56 ?_
      refine z_isub hF dX1_greatest_57 ?_
      refine lv_iload hx hb dX1_greatest_58 (lv_at hl 8 rfl) ?_
      refine cj_d (va_runV (As := [.int (zI (pr7 (zmax (v / 7 - d) 0) (v % 7))), .int (zI w), .int (zI nd), .int (zI d), .int (zI (k - 1)), .int (zI dp)]) (rest := []) hF (IHm h0 a0 f (pr7 (zmax (v / 7 - d) 0) (v % 7)) w nd d (k - 1) dp (j + 1) hmF.1 hw hw0 hn6 hd6 (by omega) (by omega) (by omega) (by omega) hI H.size) (cwV 6 hF.2.2.2.2 gX1_greatest_X1_greatest rfl rfl rfl (by decide +kernel) ⟨by dsimp only [rmL]; omega, by dsimp only [rmL]; omega⟩) (z_preV hK hP hD hS hA hBd [0, 1] rfl rfl rfl rfl [.int (zI (pr7 (zmax (v / 7 - d) 0) (v % 7))), .int (zI w), .int (zI nd), .int (zI d), .int (zI (k - 1)), .int (zI dp)]) rfl rfl hl.1 rfl (lv_room (Nat.le_of_ble_eq_true rfl)) dX1_greatest_60 ⟨Nat.le_of_ble_eq_true rfl, Nat.le_of_ble_eq_true rfl⟩) hP hD hS hA [0, 1] rfl (fun _ => Nat.le_of_ble_eq_true rfl) (fun r_6 u_5 H locs hw hP hD hS => ?_)
      have hP : va_P G.1 vwCl [(h0, .inr (1, [.ref a0])), (a0, .inl (G.2.1.2.2, 2401, .inr (.inr (.inr (.inl (aD u_5))))))] H := hP
      have hD : va_D A [(h0, .inr (1, [.ref a0])), (a0, .inl (G.2.1.2.2, 2401, .inr (.inr (.inr (.inl (aD u_5))))))] := hD
      obtain ⟨h_7, rfl⟩ := hw
      have hS1 := h_7
      refine lv_dstore (lv' := [(9, .double (grC chV w m0 (pr7 (zmax (v / 7 - d) 0) (v % 7)) nd d)), (8, .int (zI (v % 7))), (7, .int (zI (v / 7))), (0, .ref h0), (1, .int (zI v)), (2, .int (zI w)), (3, .int (zI d)), (4, .int (zI nd)), (5, .int (zI k)), (6, .int (zI dp))]) hx hb dX1_greatest_63 hl (by decide) rfl (fun ls hl => ?_)
      refine lv_iload hx hb dX1_greatest_65 (lv_at hl 1 rfl) ?_
      refine lv_iload_n hx hb dX1_greatest_67 rfl (lv_at hl 6 rfl) ?_
      refine z_icmp_lt (tgt := 78) hF dX1_greatest_68 (by decide) (by omega) (by omega) (fun c_8 => ?_) (fun c_8 => ?_)
      · have hc_68 := c_8
        refine lv_dload hx hb dX1_greatest_78 (lv_at hl 0 rfl) ?_
        rw [hQ]
        exact z_dret hF hr hlocks u_5 ⟨hS1, by rw [grC, if_neg hv0, if_pos (by omega)]⟩ hP hK hD hS dX1_greatest_80
      · have hc_68 := c_8
        refine lv_iload hx hb dX1_greatest_71 (lv_at hl 1 rfl) ?_
        refine lv_iload hx hb dX1_greatest_73 (lv_at hl 2 rfl) ?_
        refine z_icmp_ne (tgt := 81) hF dX1_greatest_75 (by decide) (by omega) (by omega) (fun c_9 => ?_) (fun c_9 => ?_)
        · have hc_75 := c_9
          have hmN := mvN hv hd6.1 (by omega)
          have hB2 := grC_D (m := m0) (d := nd) (nd := d) hfp hmN.1 hw hw0 hn6.1 hd6.1
          refine lv_aload_n hx hb dX1_greatest_81 rfl (lv_at hl 3 rfl) ?_
          refine lv_iload hx hb dX1_greatest_82 (lv_at hl 2 rfl) ?_
          refine lv_iload hx hb dX1_greatest_84 (lv_at hl 1 rfl) ?_
          refine lv_iload_n hx hb dX1_greatest_86 rfl (lv_at hl 6 rfl) ?_
          refine z_isub hF dX1_greatest_87 ?_
          refine cj_i (va_runS (As := [.int (zI (v / 7)), .int (zI ((v % 7) - d))]) (rest := [.ref h0]) hF (c_X1_pair l G (v / 7) ((v % 7) - d)  (by omega) (by omega) H.size) (va_cwS 2 hF.2.2.2.2 gX1_greatest_X1_pair rfl rfl rfl (by decide +kernel) ⟨by dsimp only [rmL]; omega, by dsimp only [rmL]; omega⟩) (z_preS hK hP hD hS hA hBd [] rfl rfl [.int (zI (v / 7)), .int (zI ((v % 7) - d))]) rfl rfl hl.1 rfl (lv_room (Nat.le_of_ble_eq_true rfl)) dX1_greatest_88 ⟨Nat.le_of_ble_eq_true rfl, Nat.le_of_ble_eq_true rfl⟩) hP hD hS hA [] rfl (fun _ => Nat.le_of_ble_eq_true rfl) (fun r_11 u_10 H locs hw hP hD hS => ?_)
          have hP : va_P G.1 vwCl [(h0, .inr (1, [.ref a0])), (a0, .inl (G.2.1.2.2, 2401, .inr (.inr (.inr (.inl (aD u_5))))))] H := hP
          have hD : va_D A [(h0, .inr (1, [.ref a0])), (a0, .inl (G.2.1.2.2, 2401, .inr (.inr (.inr (.inl (aD u_5))))))] := hD
          obtain rfl := hw
          refine z_tz (b := (pr7 (v / 7) (v % 7 - d))) rfl ?_
          refine lv_iload_n hx hb dX1_greatest_91 rfl (lv_at hl 5 rfl) ?_
          refine lv_iload hx hb dX1_greatest_92 (lv_at hl 7 rfl) ?_
          refine lv_iload_n hx hb dX1_greatest_94 rfl (lv_at hl 6 rfl) ?_
          refine lv_iload hx hb dX1_greatest_95 (lv_at hl 8 rfl) ?_
          refine z_iconst hF dX1_greatest_97 ?_
          refine z_isub hF dX1_greatest_98 ?_
          refine lv_iload hx hb dX1_greatest_99 (lv_at hl 9 rfl) ?_
          refine cj_d (va_runV (As := [.int (zI (pr7 (v / 7) (v % 7 - d))), .int (zI w), .int (zI nd), .int (zI d), .int (zI (k - 1)), .int (zI dp)]) (rest := []) hF (IHm h0 a0 u_5 (pr7 (v / 7) (v % 7 - d)) w nd d (k - 1) dp (j + 1) hmN.1 hw hw0 hn6 hd6 (by omega) (by omega) (by omega) (by omega) hS1 H.size) (cwV 6 hF.2.2.2.2 gX1_greatest_X1_greatest rfl rfl rfl (by decide +kernel) ⟨by dsimp only [rmL]; omega, by dsimp only [rmL]; omega⟩) (z_preV hK hP hD hS hA hBd [0, 1] rfl rfl rfl rfl [.int (zI (pr7 (v / 7) (v % 7 - d))), .int (zI w), .int (zI nd), .int (zI d), .int (zI (k - 1)), .int (zI dp)]) rfl rfl hl.1 rfl (lv_room (Nat.le_of_ble_eq_true rfl)) dX1_greatest_101 ⟨Nat.le_of_ble_eq_true rfl, Nat.le_of_ble_eq_true rfl⟩) hP hD hS hA [0, 1] rfl (fun _ => Nat.le_of_ble_eq_true rfl) (fun r_13 u_12 H locs hw hP hD hS => ?_)
          have hP : va_P G.1 vwCl [(h0, .inr (1, [.ref a0])), (a0, .inl (G.2.1.2.2, 2401, .inr (.inr (.inr (.inl (aD u_12))))))] H := hP
          have hD : va_D A [(h0, .inr (1, [.ref a0])), (a0, .inl (G.2.1.2.2, 2401, .inr (.inr (.inr (.inl (aD u_12))))))] := hD
          obtain ⟨h_14, rfl⟩ := hw
          have hS2 := h_14
          refine lv_dstore (lv' := [(11, .double (grC chV w m0 (pr7 (v / 7) (v % 7 - d)) nd d)), (9, .double (grC chV w m0 (pr7 (zmax (v / 7 - d) 0) (v % 7)) nd d)), (8, .int (zI (v % 7))), (7, .int (zI (v / 7))), (0, .ref h0), (1, .int (zI v)), (2, .int (zI w)), (3, .int (zI d)), (4, .int (zI nd)), (5, .int (zI k)), (6, .int (zI dp))]) hx hb dX1_greatest_104 hl (by decide) rfl (fun ls hl => ?_)
          refine lv_dload hx hb dX1_greatest_106 (lv_at hl 1 rfl) ?_
          refine lv_dload hx hb dX1_greatest_108 (lv_at hl 0 rfl) ?_
          refine lv_dcmp hx hb dX1_greatest_110 ?_
          refine z_top (z_dcmp hfp (hB1.mono (by decide) (by decide)) (hB2.mono (by decide) (by decide))) ?_
          have qcm := cmZ_cs (bI (grC chV w m0 (pr7 (zmax (v / 7 - d) 0) (v % 7)) nd d)) (bI (grC chV w m0 (pr7 (v / 7) (v % 7 - d)) nd d))
          refine z_if_lt (tgt := 119) hF dX1_greatest_111 (by decide) (by omega) (fun c_15 => ?_) (fun c_15 => ?_)
          · have hc_111 := c_15
            refine lv_dload hx hb dX1_greatest_119 (lv_at hl 0 rfl) ?_
            rw [hQ]
            exact z_dret hF hr hlocks u_12 ⟨hS2, by rw [grC, if_neg hv0, if_neg (by omega)]; unfold mx; first | rw [if_pos (by omega)] | rw [if_neg (by omega)]⟩ hP hK hD hS dX1_greatest_121
          · have hc_111 := c_15
            refine lv_dload hx hb dX1_greatest_114 (lv_at hl 1 rfl) ?_
            refine z_goto (tgt := 121) hF dX1_greatest_116 (by decide) ?_
            rw [hQ]
            exact z_dret hF hr hlocks u_12 ⟨hS2, by rw [grC, if_neg hv0, if_neg (by omega)]; unfold mx; first | rw [if_pos (by omega)] | rw [if_neg (by omega)]⟩ hP hK hD hS dX1_greatest_121
        · have hc_75 := c_9
          refine lv_dload hx hb dX1_greatest_78 (lv_at hl 0 rfl) ?_
          rw [hQ]
          exact z_dret hF hr hlocks u_5 ⟨hS1, by rw [grC, if_neg hv0, if_pos (by omega)]⟩ hP hK hD hS dX1_greatest_80
    · have hc_8 := c_2
      have hm0 : mm = 0 := by omega
      subst hm0
      have hE9 : grC chV w 0 v d nd = FP.dsub FP.dconst1 (chV w v) := by rw [grC, if_neg hv0]
      have hB9 := grC_D (m := 0) (nd := nd) hfp hv hw hw0 hd6.1 hn6.1
      rw [hE9] at hB9
      refine lv_dconst1 hx hb dX1_greatest_11 ?_
      refine lv_aload_n hx hb dX1_greatest_12 rfl (lv_at hl 0 rfl) ?_
      refine lv_iload_n hx hb dX1_greatest_13 rfl (lv_at hl 2 rfl) ?_
      refine lv_iload_n hx hb dX1_greatest_14 rfl (lv_at hl 1 rfl) ?_
      refine lv_iload hx hb dX1_greatest_15 (lv_at hl 6 rfl) ?_
      refine z_iconst hF dX1_greatest_17 ?_
      refine z_iadd hF dX1_greatest_18 ?_
      refine cj_d (va_runV (As := [.int (zI w), .int (zI v), .int (zI (dp + 1))]) (rest := [.double FP.dconst1]) hF (CHH ((pip v + pip w).toNat) (by omega) h0 a0 f w v (dp + 1) hw hv hv0 hw0 (by omega) (by omega) hI H.size) (cwV 3 hF.2.2.2.2 gX1_greatest_X1_chanceFrom rfl rfl rfl (by decide +kernel) ⟨by dsimp only [rmL]; omega, by dsimp only [rmL]; omega⟩) (z_preV hK hP hD hS hA hBd [0, 1] rfl rfl rfl rfl [.int (zI w), .int (zI v), .int (zI (dp + 1))]) rfl rfl hl.1 rfl (lv_room (Nat.le_of_ble_eq_true rfl)) dX1_greatest_19 ⟨Nat.le_of_ble_eq_true rfl, Nat.le_of_ble_eq_true rfl⟩) hP hD hS hA [0, 1] rfl (fun _ => Nat.le_of_ble_eq_true rfl) (fun r_17 u_16 H locs hw hP hD hS => ?_)
      have hP : va_P G.1 vwCl [(h0, .inr (1, [.ref a0])), (a0, .inl (G.2.1.2.2, 2401, .inr (.inr (.inr (.inl (aD u_16))))))] H := hP
      have hD : va_D A [(h0, .inr (1, [.ref a0])), (a0, .inl (G.2.1.2.2, 2401, .inr (.inr (.inr (.inl (aD u_16))))))] := hD
      obtain ⟨h_18, rfl⟩ := hw
      have hS0 := h_18
      refine lv_dsub hx hb dX1_greatest_22 (hB9.no (by decide)) ?_
      rw [hQ]
      exact z_dret hF hr hlocks u_16 ⟨hS0, hE9.symm⟩ hP hK hD hS dX1_greatest_23
  · have hc_1 := c_1
    refine lv_dconst1 hx hb dX1_greatest_4 ?_
    rw [hQ]
    exact z_dret hF hr hlocks f ⟨hI, by cases mm <;> exact (if_pos (by omega)).symm⟩ hP hK hD hS dX1_greatest_5
theorem c_X1_greatest (l : Launch) (G : wG) (n : Nat) (hfp : FPL) (CHH : ∀ k : Nat, k < n → CHS l G k) : ∀ m : Nat, GRS l G n m
  | 0 => c_X1_greatest_s l G n 0 hfp CHH (fun m0 h9 => absurd h9 (by omega))
  | m + 1 => c_X1_greatest_s l G n (m + 1) hfp CHH (fun m0 h9 => by
      have e : m0 = m := by omega
      subst e
      exact c_X1_greatest l G n hfp CHH m0)
set_option maxHeartbeats 4000000 in
set_option maxRecDepth 100000 in
theorem c_X1_ofRoll (l : Launch) (G : wG) (h0 a0 : Nat) (f : Int → UInt64) (v w g3 l3 dp : Int) (hfp : FPL) (n : Nat) (CHH : ∀ k : Nat, k < n → CHS l G k) (hv : v7 v) (hw : v7 w) (hw0 : w ≠ 0) (hd6 : 1 ≤ g3 ∧ g3 ≤ 6) (hn6 : 1 ≤ l3 ∧ l3 ≤ 6) (hnn : pip v + pip w ≤ n) (hdp : 0 ≤ dp ∧ 2 * dp + pip v + pip w ≤ 24) (hI : chI f) (z9 : Nat) : Met l yX1_ofRoll wsX1_ofRoll (rmL (17 + 9 * n) 0 0) (wPc G [(h0, .inr (1, [.ref a0])), (a0, .inl (G.2.1.2.2, 2401, .inr (.inr (.inr (.inl (aD f))))))] z9 [.ref h0, .int (zI v), .int (zI w), .int (zI g3), .int (zI l3), .int (zI dp)]) (wQd G (fun (r : UInt64) (u : (Int → UInt64)) => chI u ∧ r = (rlC chV v w g3 l3)) (fun (u : (Int → UInt64)) => [(h0, .inr (1, [.ref a0])), (a0, .inl (G.2.1.2.2, 2401, .inr (.inr (.inr (.inl (aD u))))))]) (va_A [(h0, .inr (1, [.ref a0])), (a0, .inl (G.2.1.2.2, 2401, .inr (.inr (.inr (.inl (aD f))))))] z9)) 0 0 (va_A [(h0, .inr (1, [.ref a0])), (a0, .inl (G.2.1.2.2, 2401, .inr (.inr (.inr (.inl (aD f))))))] z9) := by
  refine z_ofW (Qc := fun A => wQd G (fun (r : UInt64) (u : (Int → UInt64)) => chI u ∧ r = (rlC chV v w g3 l3)) (fun (u : (Int → UInt64)) => [(h0, .inr (1, [.ref a0])), (a0, .inl (G.2.1.2.2, 2401, .inr (.inr (.inr (.inl (aD u))))))]) A) l G [(h0, .inr (1, [.ref a0])), (a0, .inl (G.2.1.2.2, 2401, .inr (.inr (.inr (.inl (aD f))))))] [.ref h0, .int (zI v), .int (zI w), .int (zI g3), .int (zI l3), .int (zI dp)] (by decide) rfl rfl ?_ z9
  intro p e s m args below meth c A ls H locs hF hr hlocks hinit hP hK hD hA hS hBd hl
  have hF : wFx p m c cX1_ofRoll 10 s args wsX1_ofRoll RX1 := hF
  have hl : lv_has ls 10 [(0, .ref h0), (1, .int (zI v)), (2, .int (zI w)), (3, .int (zI g3)), (4, .int (zI l3)), (5, .int (zI dp))] := hl
  have hx := hF.1
  have hb := hF.2.1
  obtain ⟨Q0, hQ⟩ : ∃ q, q = (MQ below (wQd G (fun (r : UInt64) (u : (Int → UInt64)) => chI u ∧ r = (rlC chV v w g3 l3)) (fun (u : (Int → UInt64)) => [(h0, .inr (1, [.ref a0])), (a0, .inl (G.2.1.2.2, 2401, .inr (.inr (.inr (.inl (aD u))))))]) A) args s 0 0 A) := ⟨_, rfl⟩
  rw [← hQ]
  refine lv_iload_n hx hb dX1_ofRoll_0 rfl (lv_at hl 3 rfl) ?_
  refine lv_iload hx hb dX1_ofRoll_1 (lv_at hl 4 rfl) ?_
  refine z_icmp_ne (tgt := 18) hF dX1_ofRoll_3 (by decide) (by omega) (by omega) (fun c_1 => ?_) (fun c_1 => ?_)
  · have hc_3 := c_1
    refine lv_aload_n hx hb dX1_ofRoll_18 rfl (lv_at hl 0 rfl) ?_
    refine lv_iload_n hx hb dX1_ofRoll_19 rfl (lv_at hl 1 rfl) ?_
    refine lv_iload_n hx hb dX1_ofRoll_20 rfl (lv_at hl 2 rfl) ?_
    refine lv_iload_n hx hb dX1_ofRoll_21 rfl (lv_at hl 3 rfl) ?_
    refine lv_iload hx hb dX1_ofRoll_22 (lv_at hl 4 rfl) ?_
    refine z_iconst hF dX1_ofRoll_24 ?_
    refine lv_iload hx hb dX1_ofRoll_25 (lv_at hl 5 rfl) ?_
    refine cj_d (va_runV (As := [.int (zI v), .int (zI w), .int (zI g3), .int (zI l3), .int (zI 2), .int (zI dp)]) (rest := []) hF (c_X1_greatest l G n hfp CHH 2 h0 a0 f v w g3 l3 2 dp 0 hv hw hw0 hd6 hn6 (by omega) (by omega) (by omega) (by omega) hI H.size) (cwV 6 hF.2.2.2.2 gX1_ofRoll_X1_greatest rfl rfl rfl (by decide +kernel) ⟨by dsimp only [rmL]; omega, by dsimp only [rmL]; omega⟩) (z_preV hK hP hD hS hA hBd [0, 1] rfl rfl rfl rfl [.int (zI v), .int (zI w), .int (zI g3), .int (zI l3), .int (zI 2), .int (zI dp)]) rfl rfl hl.1 rfl (lv_room (Nat.le_of_ble_eq_true rfl)) dX1_ofRoll_27 ⟨Nat.le_of_ble_eq_true rfl, Nat.le_of_ble_eq_true rfl⟩) hP hD hS hA [0, 1] rfl (fun _ => Nat.le_of_ble_eq_true rfl) (fun r_3 u_2 H locs hw hP hD hS => ?_)
    have hP : va_P G.1 vwCl [(h0, .inr (1, [.ref a0])), (a0, .inl (G.2.1.2.2, 2401, .inr (.inr (.inr (.inl (aD u_2))))))] H := hP
    have hD : va_D A [(h0, .inr (1, [.ref a0])), (a0, .inl (G.2.1.2.2, 2401, .inr (.inr (.inr (.inl (aD u_2))))))] := hD
    obtain ⟨h_4, rfl⟩ := hw
    have hS1 := h_4
    have hB1 := grC_D (m := 2) (d := g3) (nd := l3) hfp hv hw hw0 hd6.1 hn6.1
    refine lv_dstore (lv' := [(6, .double (grC chV w 2 v g3 l3)), (0, .ref h0), (1, .int (zI v)), (2, .int (zI w)), (3, .int (zI g3)), (4, .int (zI l3)), (5, .int (zI dp))]) hx hb dX1_ofRoll_30 hl (by decide) rfl (fun ls hl => ?_)
    refine lv_aload_n hx hb dX1_ofRoll_32 rfl (lv_at hl 1 rfl) ?_
    refine lv_iload_n hx hb dX1_ofRoll_33 rfl (lv_at hl 2 rfl) ?_
    refine lv_iload_n hx hb dX1_ofRoll_34 rfl (lv_at hl 3 rfl) ?_
    refine lv_iload hx hb dX1_ofRoll_35 (lv_at hl 5 rfl) ?_
    refine lv_iload_n hx hb dX1_ofRoll_37 rfl (lv_at hl 4 rfl) ?_
    refine z_iconst hF dX1_ofRoll_38 ?_
    refine lv_iload hx hb dX1_ofRoll_39 (lv_at hl 6 rfl) ?_
    refine cj_d (va_runV (As := [.int (zI v), .int (zI w), .int (zI l3), .int (zI g3), .int (zI 2), .int (zI dp)]) (rest := []) hF (c_X1_greatest l G n hfp CHH 2 h0 a0 u_2 v w l3 g3 2 dp 0 hv hw hw0 hn6 hd6 (by omega) (by omega) (by omega) (by omega) hS1 H.size) (cwV 6 hF.2.2.2.2 gX1_ofRoll_X1_greatest rfl rfl rfl (by decide +kernel) ⟨by dsimp only [rmL]; omega, by dsimp only [rmL]; omega⟩) (z_preV hK hP hD hS hA hBd [0, 1] rfl rfl rfl rfl [.int (zI v), .int (zI w), .int (zI l3), .int (zI g3), .int (zI 2), .int (zI dp)]) rfl rfl hl.1 rfl (lv_room (Nat.le_of_ble_eq_true rfl)) dX1_ofRoll_41 ⟨Nat.le_of_ble_eq_true rfl, Nat.le_of_ble_eq_true rfl⟩) hP hD hS hA [0, 1] rfl (fun _ => Nat.le_of_ble_eq_true rfl) (fun r_6 u_5 H locs hw hP hD hS => ?_)
    have hP : va_P G.1 vwCl [(h0, .inr (1, [.ref a0])), (a0, .inl (G.2.1.2.2, 2401, .inr (.inr (.inr (.inl (aD u_5))))))] H := hP
    have hD : va_D A [(h0, .inr (1, [.ref a0])), (a0, .inl (G.2.1.2.2, 2401, .inr (.inr (.inr (.inl (aD u_5))))))] := hD
    obtain ⟨h_7, rfl⟩ := hw
    have hS2 := h_7
    have hB2 := grC_D (m := 2) (d := l3) (nd := g3) hfp hv hw hw0 hn6.1 hd6.1
    refine lv_dstore (lv' := [(8, .double (grC chV w 2 v l3 g3)), (6, .double (grC chV w 2 v g3 l3)), (0, .ref h0), (1, .int (zI v)), (2, .int (zI w)), (3, .int (zI g3)), (4, .int (zI l3)), (5, .int (zI dp))]) hx hb dX1_ofRoll_44 hl (by decide) rfl (fun ls hl => ?_)
    refine lv_dload hx hb dX1_ofRoll_46 (lv_at hl 1 rfl) ?_
    refine lv_dload hx hb dX1_ofRoll_48 (lv_at hl 0 rfl) ?_
    refine lv_dcmp hx hb dX1_ofRoll_50 ?_
    refine z_top (z_dcmp hfp (hB1.mono (by decide) (by decide)) (hB2.mono (by decide) (by decide))) ?_
    have qcm := cmZ_cs (bI (grC chV w 2 v g3 l3)) (bI (grC chV w 2 v l3 g3))
    refine z_if_lt (tgt := 59) hF dX1_ofRoll_51 (by decide) (by omega) (fun c_8 => ?_) (fun c_8 => ?_)
    · have hc_51 := c_8
      refine lv_dload hx hb dX1_ofRoll_59 (lv_at hl 0 rfl) ?_
      rw [hQ]
      exact z_dret hF hr hlocks u_5 ⟨hS2, by rw [rlC, if_neg (by omega)]; unfold mx; first | rw [if_pos (by omega)] | rw [if_neg (by omega)]⟩ hP hK hD hS dX1_ofRoll_61
    · have hc_51 := c_8
      refine lv_dload hx hb dX1_ofRoll_54 (lv_at hl 1 rfl) ?_
      refine z_goto (tgt := 61) hF dX1_ofRoll_56 (by decide) ?_
      rw [hQ]
      exact z_dret hF hr hlocks u_5 ⟨hS2, by rw [rlC, if_neg (by omega)]; unfold mx; first | rw [if_pos (by omega)] | rw [if_neg (by omega)]⟩ hP hK hD hS dX1_ofRoll_61
  · have hc_3 := c_1
    refine lv_aload_n hx hb dX1_ofRoll_6 rfl (lv_at hl 0 rfl) ?_
    refine lv_iload_n hx hb dX1_ofRoll_7 rfl (lv_at hl 1 rfl) ?_
    refine lv_iload_n hx hb dX1_ofRoll_8 rfl (lv_at hl 2 rfl) ?_
    refine lv_iload_n hx hb dX1_ofRoll_9 rfl (lv_at hl 3 rfl) ?_
    refine lv_iload_n hx hb dX1_ofRoll_10 rfl (lv_at hl 3 rfl) ?_
    refine z_iconst hF dX1_ofRoll_11 ?_
    refine lv_iload hx hb dX1_ofRoll_12 (lv_at hl 5 rfl) ?_
    refine cj_d (va_runV (As := [.int (zI v), .int (zI w), .int (zI g3), .int (zI g3), .int (zI 4), .int (zI dp)]) (rest := []) hF (c_X1_greatest l G n hfp CHH 4 h0 a0 f v w g3 g3 4 dp 0 hv hw hw0 hd6 hd6 (by omega) (by omega) (by omega) (by omega) hI H.size) (cwV 6 hF.2.2.2.2 gX1_ofRoll_X1_greatest rfl rfl rfl (by decide +kernel) ⟨by dsimp only [rmL]; omega, by dsimp only [rmL]; omega⟩) (z_preV hK hP hD hS hA hBd [0, 1] rfl rfl rfl rfl [.int (zI v), .int (zI w), .int (zI g3), .int (zI g3), .int (zI 4), .int (zI dp)]) rfl rfl hl.1 rfl (lv_room (Nat.le_of_ble_eq_true rfl)) dX1_ofRoll_14 ⟨Nat.le_of_ble_eq_true rfl, Nat.le_of_ble_eq_true rfl⟩) hP hD hS hA [0, 1] rfl (fun _ => Nat.le_of_ble_eq_true rfl) (fun r_10 u_9 H locs hw hP hD hS => ?_)
    have hP : va_P G.1 vwCl [(h0, .inr (1, [.ref a0])), (a0, .inl (G.2.1.2.2, 2401, .inr (.inr (.inr (.inl (aD u_9))))))] H := hP
    have hD : va_D A [(h0, .inr (1, [.ref a0])), (a0, .inl (G.2.1.2.2, 2401, .inr (.inr (.inr (.inl (aD u_9))))))] := hD
    obtain ⟨h_11, rfl⟩ := hw
    have hS0 := h_11
    rw [hQ]
    exact z_dret hF hr hlocks u_9 ⟨hS0, (if_pos (by omega)).symm⟩ hP hK hD hS dX1_ofRoll_17
set_option maxHeartbeats 4000000 in
set_option maxRecDepth 100000 in
theorem c_X1_sumOverRolls (l : Launch) (G : wG) (h0 a0 : Nat) (f : Int → UInt64) (v w dp : Int) (hfp : FPL) (n : Nat) (CHH : ∀ k : Nat, k < n → CHS l G k) (hv : v7 v) (hw : v7 w) (hw0 : w ≠ 0) (hv0 : v ≠ 0) (hnn : pip v + pip w ≤ n) (hdp : 0 ≤ dp ∧ 2 * dp + pip v + pip w ≤ 24) (hI : chI f) (z9 : Nat) : Met l yX1_sumOverRolls wsX1_sumOverRolls (rmL (18 + 9 * n) 0 0) (wPc G [(h0, .inr (1, [.ref a0])), (a0, .inl (G.2.1.2.2, 2401, .inr (.inr (.inr (.inl (aD f))))))] z9 [.ref h0, .int (zI v), .int (zI w), .int (zI dp)]) (wQd G (fun (r : UInt64) (u : (Int → UInt64)) => chI u ∧ r = (ouS chV v w 6)) (fun (u : (Int → UInt64)) => [(h0, .inr (1, [.ref a0])), (a0, .inl (G.2.1.2.2, 2401, .inr (.inr (.inr (.inl (aD u))))))]) (va_A [(h0, .inr (1, [.ref a0])), (a0, .inl (G.2.1.2.2, 2401, .inr (.inr (.inr (.inl (aD f))))))] z9)) 0 0 (va_A [(h0, .inr (1, [.ref a0])), (a0, .inl (G.2.1.2.2, 2401, .inr (.inr (.inr (.inl (aD f))))))] z9) := by
  refine z_ofW (Qc := fun A => wQd G (fun (r : UInt64) (u : (Int → UInt64)) => chI u ∧ r = (ouS chV v w 6)) (fun (u : (Int → UInt64)) => [(h0, .inr (1, [.ref a0])), (a0, .inl (G.2.1.2.2, 2401, .inr (.inr (.inr (.inl (aD u))))))]) A) l G [(h0, .inr (1, [.ref a0])), (a0, .inl (G.2.1.2.2, 2401, .inr (.inr (.inr (.inl (aD f))))))] [.ref h0, .int (zI v), .int (zI w), .int (zI dp)] (by decide) rfl rfl ?_ z9
  intro p e s m args below meth c A ls H locs hF hr hlocks hinit hP hK hD hA hS hBd hl
  have hF : wFx p m c cX1_sumOverRolls 8 s args wsX1_sumOverRolls RX1 := hF
  have hl : lv_has ls 8 [(0, .ref h0), (1, .int (zI v)), (2, .int (zI w)), (3, .int (zI dp))] := hl
  have hx := hF.1
  have hb := hF.2.1
  obtain ⟨Q0, hQ⟩ : ∃ q, q = (MQ below (wQd G (fun (r : UInt64) (u : (Int → UInt64)) => chI u ∧ r = (ouS chV v w 6)) (fun (u : (Int → UInt64)) => [(h0, .inr (1, [.ref a0])), (a0, .inl (G.2.1.2.2, 2401, .inr (.inr (.inr (.inl (aD u))))))]) A) args s 0 0 A) := ⟨_, rfl⟩
  rw [← hQ]
  have kc_45 : (Cond.constantDouble RX1 45 (4611686018427387904)).before args s = true := hF.2.2.2.2 _ (List.mem_cons_of_mem _ (List.mem_append_left _ (List.mem_append_left _ (List.mem_of_getElem? (i := 0) rfl))))
  refine lv_dconst0 hx hb dX1_sumOverRolls_0 ?_
  refine lv_dstore (lv' := [(4, .double FP.dconst0), (0, .ref h0), (1, .int (zI v)), (2, .int (zI w)), (3, .int (zI dp))]) hx hb dX1_sumOverRolls_1 hl (by decide) rfl (fun ls hl => ?_)
  refine z_iconst hF dX1_sumOverRolls_3 ?_
  refine lv_istore (lv' := [(6, .int (zI 1)), (4, .double FP.dconst0), (0, .ref h0), (1, .int (zI v)), (2, .int (zI w)), (3, .int (zI dp))]) hx hb dX1_sumOverRolls_4 hl (by decide) rfl (fun ls hl => ?_)
  have L6 : ∀ (n9 : Nat) (i : Int) (ss : UInt64) (f0 : Int → UInt64), (7 - i).toNat < n9 → (1 ≤ i ∧ i ≤ 7) → ss = ouZ chV v w i → dB (bd2 i i) ss → chI f0 → ∀ (H : Heap) (locs : List Loc) (ls : Array Slot), va_P G.1 vwCl [(h0, .inr (1, [.ref a0])), (a0, .inl (G.2.1.2.2, 2401, .inr (.inr (.inr (.inl (aD f0))))))] H → va_D A [(h0, .inr (1, [.ref a0])), (a0, .inl (G.2.1.2.2, 2401, .inr (.inr (.inr (.inl (aD f0))))))] → va_S A s.heap H locs → lv_has ls 8 [(0, .ref h0), (1, .int (zI v)), (2, .int (zI w)), (3, .int (zI dp)), (4, .double ss), (6, .int (zI i))] → W p l e (rmL (18 + 9 * n) 0 0) s m args below meth c H locs 0 0 Q0 (F0 m 6 ls []) := by
    intro n9
    induction n9 with
    | zero => intro i ss f0 hmu; omega
    | succ n9 ih6 =>
      intro i ss f0 hmu6 hzi hss hsB hI0 H locs ls hP hD hS hl
      refine lv_iload hx hb dX1_sumOverRolls_6 (lv_at hl 5 rfl) ?_
      refine z_bipush hF dX1_sumOverRolls_8 (by decide) ?_
      refine z_icmp_gt (tgt := 67) hF dX1_sumOverRolls_10 (by decide) (by omega) (by decide) (fun c_1 => ?_) (fun c_1 => ?_)
      · have hc_10 := c_1
        refine lv_dload hx hb dX1_sumOverRolls_67 (lv_at hl 4 rfl) ?_
        rw [hQ]
        exact z_dret hF hr hlocks f0 ⟨hI0, by rw [hss, show i = 7 by omega]; rfl⟩ hP hK hD hS dX1_sumOverRolls_69
      · have hc_10 := c_1
        refine lv_iload hx hb dX1_sumOverRolls_13 (lv_at hl 5 rfl) ?_
        refine lv_istore (lv' := [(7, .int (zI i)), (0, .ref h0), (1, .int (zI v)), (2, .int (zI w)), (3, .int (zI dp)), (4, .double ss), (6, .int (zI i))]) hx hb dX1_sumOverRolls_15 hl (by decide) rfl (fun ls hl => ?_)
        have L17 : ∀ (n9 : Nat) (j : Int) (st : UInt64) (f1 : Int → UInt64), (7 - j).toNat < n9 → (i ≤ j ∧ j ≤ 7) → st = inZ chV v w i (ouZ chV v w i) j → dB (bd2 i j) st → chI f1 → ∀ (H : Heap) (locs : List Loc) (ls : Array Slot), va_P G.1 vwCl [(h0, .inr (1, [.ref a0])), (a0, .inl (G.2.1.2.2, 2401, .inr (.inr (.inr (.inl (aD f1))))))] H → va_D A [(h0, .inr (1, [.ref a0])), (a0, .inl (G.2.1.2.2, 2401, .inr (.inr (.inr (.inl (aD f1))))))] → va_S A s.heap H locs → lv_has ls 8 [(0, .ref h0), (1, .int (zI v)), (2, .int (zI w)), (3, .int (zI dp)), (4, .double st), (6, .int (zI i)), (7, .int (zI j))] → W p l e (rmL (18 + 9 * n) 0 0) s m args below meth c H locs 0 0 Q0 (F0 m 17 ls []) := by
          intro n9
          induction n9 with
          | zero => intro j st f1 hmu; omega
          | succ n9 ih17 =>
            intro j st f1 hmu17 hzj hst htB hI1 H locs ls hP hD hS hl
            refine lv_iload hx hb dX1_sumOverRolls_17 (lv_at hl 6 rfl) ?_
            refine z_bipush hF dX1_sumOverRolls_19 (by decide) ?_
            refine z_icmp_gt (tgt := 61) hF dX1_sumOverRolls_21 (by decide) (by omega) (by decide) (fun c_2 => ?_) (fun c_2 => ?_)
            · have hc_21 := c_2
              refine z_iinc (lv' := [(6, .int (zI (i + 1))), (0, .ref h0), (1, .int (zI v)), (2, .int (zI w)), (3, .int (zI dp)), (4, .double st), (7, .int (zI j))]) hF dX1_sumOverRolls_61 hl (k := 5) rfl (by decide) rfl (fun ls hl => ?_)
              refine z_goto (tgt := 6) hF dX1_sumOverRolls_64 (by decide) ?_
              exact ih6 (i + 1) st f1 (by omega) (by omega) (by rw [ouZ_s (by omega), hst, show j = 7 by omega]) (by have h9 := (bd2_r (l := i) (by omega)).1; rw [show j = 7 by omega, h9] at htB; exact htB) hI1 H locs ls hP hD hS (lv_sub hl [1, 2, 3, 4, 5, 0] rfl)
            · have hc_21 := c_2
              refine lv_dload hx hb dX1_sumOverRolls_24 (lv_at hl 4 rfl) ?_
              refine lv_aload_n hx hb dX1_sumOverRolls_26 rfl (lv_at hl 0 rfl) ?_
              refine lv_iload_n hx hb dX1_sumOverRolls_27 rfl (lv_at hl 1 rfl) ?_
              refine lv_iload_n hx hb dX1_sumOverRolls_28 rfl (lv_at hl 2 rfl) ?_
              refine lv_iload hx hb dX1_sumOverRolls_29 (lv_at hl 6 rfl) ?_
              refine lv_iload hx hb dX1_sumOverRolls_31 (lv_at hl 5 rfl) ?_
              refine lv_iload_n hx hb dX1_sumOverRolls_33 rfl (lv_at hl 3 rfl) ?_
              refine cj_d (va_runV (As := [.int (zI v), .int (zI w), .int (zI j), .int (zI i), .int (zI dp)]) (rest := [.double st]) hF (c_X1_ofRoll l G h0 a0 f1 v w j i dp hfp n CHH hv hw hw0 (by omega) (by omega) (by omega) (by omega) hI1 H.size) (cwV 5 hF.2.2.2.2 gX1_sumOverRolls_X1_ofRoll rfl rfl rfl (by decide +kernel) ⟨by dsimp only [rmL]; omega, by dsimp only [rmL]; omega⟩) (z_preV hK hP hD hS hA hBd [0, 1] rfl rfl rfl rfl [.int (zI v), .int (zI w), .int (zI j), .int (zI i), .int (zI dp)]) rfl rfl hl.1 rfl (lv_room (Nat.le_of_ble_eq_true rfl)) dX1_sumOverRolls_34 ⟨Nat.le_of_ble_eq_true rfl, Nat.le_of_ble_eq_true rfl⟩) hP hD hS hA [0, 1] rfl (fun _ => Nat.le_of_ble_eq_true rfl) (fun r_4 u_3 H locs hw hP hD hS => ?_)
              have hP : va_P G.1 vwCl [(h0, .inr (1, [.ref a0])), (a0, .inl (G.2.1.2.2, 2401, .inr (.inr (.inr (.inl (aD u_3))))))] H := hP
              have hD : va_D A [(h0, .inr (1, [.ref a0])), (a0, .inl (G.2.1.2.2, 2401, .inr (.inr (.inr (.inl (aD u_3))))))] := hD
              obtain ⟨h_5, rfl⟩ := hw
              have hS1 := h_5
              have hB1 := rlC_D (g := j) (l := i) hfp hv hw hw0 (by omega) (by omega)
              have hW1 := wt_B hfp hB1 j i
              have hW2 := wtN2_le j i
              have hT1 := inZ_B (g := j) hfp (by omega) (by omega) htB hB1
              have hT2 := bd2_s (l := i) (g := j) (by omega) (by omega)
              refine lv_iload hx hb dX1_sumOverRolls_37 (lv_at hl 6 rfl) ?_
              refine lv_iload hx hb dX1_sumOverRolls_39 (lv_at hl 5 rfl) ?_
              refine z_icmp_ne (tgt := 48) hF dX1_sumOverRolls_41 (by decide) (by omega) (by omega) (fun c_6 => ?_) (fun c_6 => ?_)
              · have hc_41 := c_6
                refine lv_ldc2d hx hb hF.2.2.2.1 kc_45 dX1_sumOverRolls_48 ?_
                refine z_topd (y := wt2 j i) (by unfold wt2; first | exact (if_pos (by omega)).symm | exact (if_neg (by omega)).symm) ?_
                refine lv_dmul hx hb dX1_sumOverRolls_51 (hW1.no (by omega)) ?_
                refine lv_dadd hx hb dX1_sumOverRolls_52 (hT1.no (by omega)) ?_
                refine lv_dstore (lv' := [(4, .double (FP.dadd st (FP.dmul (rlC chV v w j i) (wt2 j i)))), (0, .ref h0), (1, .int (zI v)), (2, .int (zI w)), (3, .int (zI dp)), (6, .int (zI i)), (7, .int (zI j))]) hx hb dX1_sumOverRolls_53 hl (by decide) rfl (fun ls hl => ?_)
                refine z_iinc (lv' := [(7, .int (zI (j + 1))), (4, .double (FP.dadd st (FP.dmul (rlC chV v w j i) (wt2 j i)))), (0, .ref h0), (1, .int (zI v)), (2, .int (zI w)), (3, .int (zI dp)), (6, .int (zI i))]) hF dX1_sumOverRolls_55 hl (k := 6) rfl (by decide) rfl (fun ls hl => ?_)
                refine z_goto (tgt := 17) hF dX1_sumOverRolls_58 (by decide) ?_
                exact ih17 (j + 1) (FP.dadd st (FP.dmul (rlC chV v w j i) (wt2 j i))) u_3 (by omega) (by omega) (by rw [inZ_s hzj.1, ← hst]) hT1 hS1 H locs ls hP hD hS (lv_sub hl [2, 3, 4, 5, 1, 6, 0] rfl)
              · have hc_41 := c_6
                refine lv_dconst1 hx hb dX1_sumOverRolls_44 ?_
                refine z_goto (tgt := 51) hF dX1_sumOverRolls_45 (by decide) ?_
                refine z_topd (y := wt2 j i) (by unfold wt2; first | exact (if_pos (by omega)).symm | exact (if_neg (by omega)).symm) ?_
                refine lv_dmul hx hb dX1_sumOverRolls_51 (hW1.no (by omega)) ?_
                refine lv_dadd hx hb dX1_sumOverRolls_52 (hT1.no (by omega)) ?_
                refine lv_dstore (lv' := [(4, .double (FP.dadd st (FP.dmul (rlC chV v w j i) (wt2 j i)))), (0, .ref h0), (1, .int (zI v)), (2, .int (zI w)), (3, .int (zI dp)), (6, .int (zI i)), (7, .int (zI j))]) hx hb dX1_sumOverRolls_53 hl (by decide) rfl (fun ls hl => ?_)
                refine z_iinc (lv' := [(7, .int (zI (j + 1))), (4, .double (FP.dadd st (FP.dmul (rlC chV v w j i) (wt2 j i)))), (0, .ref h0), (1, .int (zI v)), (2, .int (zI w)), (3, .int (zI dp)), (6, .int (zI i))]) hF dX1_sumOverRolls_55 hl (k := 6) rfl (by decide) rfl (fun ls hl => ?_)
                refine z_goto (tgt := 17) hF dX1_sumOverRolls_58 (by decide) ?_
                exact ih17 (j + 1) (FP.dadd st (FP.dmul (rlC chV v w j i) (wt2 j i))) u_3 (by omega) (by omega) (by rw [inZ_s hzj.1, ← hst]) hT1 hS1 H locs ls hP hD hS (lv_sub hl [2, 3, 4, 5, 1, 6, 0] rfl)
        exact L17 _ i ss f0 (Nat.lt_succ_self _) (by omega) (by rw [inZ_0]; exact hss) hsB hI0 H locs ls hP hD hS (lv_sub hl [1, 2, 3, 4, 5, 6, 0] rfl)
  exact L6 _ 1 FP.dconst0 f (Nat.lt_succ_self _) (by omega) rfl dB_0 hI H locs ls hP hD hS (lv_sub hl [2, 3, 4, 5, 1, 0] rfl)
set_option maxHeartbeats 4000000 in
set_option maxRecDepth 100000 in
theorem c_X1_chanceFrom_s (l : Launch) (G : wG) (n : Nat) (hfp : FPL) (IHS : ∀ k : Nat, k < n → CHS l G k) : CHS l G n := by
  intro h0 a0 f v w dp hv hw hw0 hv0 hnn hdp hI z9
  refine z_ofW (Qc := fun A => wQd G (fun (r : UInt64) (u : (Int → UInt64)) => chI u ∧ r = (chV v w)) (fun (u : (Int → UInt64)) => [(h0, .inr (1, [.ref a0])), (a0, .inl (G.2.1.2.2, 2401, .inr (.inr (.inr (.inl (aD u))))))]) A) l G [(h0, .inr (1, [.ref a0])), (a0, .inl (G.2.1.2.2, 2401, .inr (.inr (.inr (.inl (aD f))))))] [.ref h0, .int (zI v), .int (zI w), .int (zI dp)] (by decide) rfl rfl ?_ z9
  intro p e s m args below meth c A ls H locs hF hr hlocks hinit hP hK hD hA hS hBd hl
  have hF : wFx p m c cX1_chanceFrom 5 s args wsX1_chanceFrom RX1 := hF
  have hl : lv_has ls 5 [(0, .ref h0), (1, .int (zI v)), (2, .int (zI w)), (3, .int (zI dp))] := hl
  have hx := hF.1
  have hb := hF.2.1
  obtain ⟨Q0, hQ⟩ : ∃ q, q = (MQ below (wQd G (fun (r : UInt64) (u : (Int → UInt64)) => chI u ∧ r = (chV v w)) (fun (u : (Int → UInt64)) => [(h0, .inr (1, [.ref a0])), (a0, .inl (G.2.1.2.2, 2401, .inr (.inr (.inr (.inl (aD u))))))]) A) args s 0 0 A) := ⟨_, rfl⟩
  rw [← hQ]
  have i_wsX10 : ∀ w ∈ wsX10, w ∈ wsX1_chanceFrom := (fun _ h => (List.mem_cons_of_mem _ (List.mem_append_right _ h)))
  have kc_39 : (Cond.constantDouble RX1 39 (4630263366890291200)).before args s = true := hF.2.2.2.2 _ (List.mem_cons_of_mem _ (List.mem_append_left _ (List.mem_append_left _ (List.mem_of_getElem? (i := 1) rfl))))
  have kf_11 : (Cond.fieldLink RX1 11 "Gammonry$Ending" "chances" "[D").before args s = true := hF.2.2.2.2 _ (List.mem_cons_of_mem _ (List.mem_append_left _ (List.mem_append_left _ (List.mem_of_getElem? (i := 0) rfl))))
  have hr9 := v7_rg hv
  have hr8 := v7_rg hw
  have hp9 := v7_pos hv hv0
  have hp8 := v7_pos hw hw0
  have hI9 := hI v w hv hv0 hw hw0
  have hB9 := chV_D hfp hv hv0 hw hw0
  refine lv_iload_n hx hb dX1_chanceFrom_0 rfl (lv_at hl 1 rfl) ?_
  refine z_if_lt (tgt := 26) hF dX1_chanceFrom_1 (by decide) (by omega) (fun c_1 => ?_) (fun c_1 => ?_)
  · exfalso; omega
  · have hc_1 := c_1
    refine lv_iload_n hx hb dX1_chanceFrom_4 rfl (lv_at hl 1 rfl) ?_
    refine z_bipush hF dX1_chanceFrom_5 (by decide) ?_
    refine z_icmp_ge (tgt := 26) hF dX1_chanceFrom_7 (by decide) (by omega) (by decide) (fun c_2 => ?_) (fun c_2 => ?_)
    · exfalso; omega
    · have hc_7 := c_2
      refine lv_iload_n hx hb dX1_chanceFrom_10 rfl (lv_at hl 2 rfl) ?_
      refine z_if_lt (tgt := 26) hF dX1_chanceFrom_11 (by decide) (by omega) (fun c_3 => ?_) (fun c_3 => ?_)
      · exfalso; omega
      · have hc_11 := c_3
        refine lv_iload_n hx hb dX1_chanceFrom_14 rfl (lv_at hl 2 rfl) ?_
        refine z_bipush hF dX1_chanceFrom_15 (by decide) ?_
        refine z_icmp_ge (tgt := 26) hF dX1_chanceFrom_17 (by decide) (by omega) (by decide) (fun c_4 => ?_) (fun c_4 => ?_)
        · exfalso; omega
        · have hc_17 := c_4
          refine lv_iload_n hx hb dX1_chanceFrom_20 rfl (lv_at hl 3 rfl) ?_
          refine z_bipush hF dX1_chanceFrom_21 (by decide) ?_
          refine z_icmp_le (tgt := 28) hF dX1_chanceFrom_23 (by decide) (by omega) (by decide) (fun c_5 => ?_) (fun c_5 => ?_)
          · have hc_23 := c_5
            refine lv_iload_n hx hb dX1_chanceFrom_28 rfl (lv_at hl 1 rfl) ?_
            refine z_bipush hF dX1_chanceFrom_29 (by decide) ?_
            refine z_imul hF dX1_chanceFrom_31 ?_
            refine lv_iload_n hx hb dX1_chanceFrom_32 rfl (lv_at hl 2 rfl) ?_
            refine z_iadd hF dX1_chanceFrom_33 ?_
            refine lv_istore (lv' := [(4, .int (zI ((v * 49) + w))), (0, .ref h0), (1, .int (zI v)), (2, .int (zI w)), (3, .int (zI dp))]) hx hb dX1_chanceFrom_34 hl (by decide) rfl (fun ls hl => ?_)
            refine lv_aload_n hx hb dX1_chanceFrom_36 rfl (lv_at hl 1 rfl) ?_
            refine z_get (k := 0) hF hK hP 0 rfl rfl i_wsX10 (by decide) kf_11 rfl dX1_chanceFrom_37 ?_
            refine lv_iload hx hb dX1_chanceFrom_40 (lv_at hl 0 rfl) ?_
            refine z_dald hF hK hP 1 rfl (by omega) rfl dX1_chanceFrom_42 ?_
            rcases hI9 with hf9 | hf9
            · skip
              refine lv_dconst0 hx hb dX1_chanceFrom_43 ?_
              refine lv_dcmp hx hb dX1_chanceFrom_44 ?_
              refine z_top (y := zI (-1)) (by rw [hf9]; exact z_dcmpm) ?_
              refine z_if_ge (tgt := 66) hF dX1_chanceFrom_45 (by decide) (by decide) (fun c_6 => ?_) (fun c_6 => ?_)
              · exact absurd c_6 (by decide)
              · have hc_45 := c_6
                refine lv_aload_n hx hb dX1_chanceFrom_48 rfl (lv_at hl 1 rfl) ?_
                refine z_get (k := 0) hF hK hP 0 rfl rfl i_wsX10 (by decide) kf_11 rfl dX1_chanceFrom_49 ?_
                refine lv_iload hx hb dX1_chanceFrom_52 (lv_at hl 0 rfl) ?_
                refine lv_aload_n hx hb dX1_chanceFrom_54 rfl (lv_at hl 1 rfl) ?_
                refine lv_iload_n hx hb dX1_chanceFrom_55 rfl (lv_at hl 2 rfl) ?_
                refine lv_iload_n hx hb dX1_chanceFrom_56 rfl (lv_at hl 3 rfl) ?_
                refine lv_iload_n hx hb dX1_chanceFrom_57 rfl (lv_at hl 4 rfl) ?_
                refine cj_d (va_runV (As := [.int (zI v), .int (zI w), .int (zI dp)]) (rest := [.int (zI ((v * 49) + w)), .ref a0]) hF (c_X1_sumOverRolls l G h0 a0 f v w dp hfp n IHS hv hw hw0 hv0 hnn hdp hI H.size) (cwV 3 hF.2.2.2.2 gX1_chanceFrom_X1_sumOverRolls rfl rfl rfl (by decide +kernel) ⟨by dsimp only [rmL]; omega, by dsimp only [rmL]; omega⟩) (z_preV hK hP hD hS hA hBd [0, 1] rfl rfl rfl rfl [.int (zI v), .int (zI w), .int (zI dp)]) rfl rfl hl.1 rfl (lv_room (Nat.le_of_ble_eq_true rfl)) dX1_chanceFrom_58 ⟨Nat.le_of_ble_eq_true rfl, Nat.le_of_ble_eq_true rfl⟩) hP hD hS hA [0, 1] rfl (fun _ => Nat.le_of_ble_eq_true rfl) (fun r_8 u_7 H locs hw hP hD hS => ?_)
                have hP : va_P G.1 vwCl [(h0, .inr (1, [.ref a0])), (a0, .inl (G.2.1.2.2, 2401, .inr (.inr (.inr (.inl (aD u_7))))))] H := hP
                have hD : va_D A [(h0, .inr (1, [.ref a0])), (a0, .inl (G.2.1.2.2, 2401, .inr (.inr (.inr (.inl (aD u_7))))))] := hD
                obtain ⟨h_9, rfl⟩ := hw
                have hS1 := h_9
                refine lv_ldc2d hx hb hF.2.2.2.1 kc_39 dX1_chanceFrom_61 ?_
                refine lv_ddiv hx hb dX1_chanceFrom_64 (by have h8 := hB9.no (by decide); rw [chV_eq hv hv0 hw hw0] at h8; exact h8) ?_
                refine z_topd (y := chV v w) (chV_eq hv hv0 hw hw0).symm ?_
                refine z_dast hF hK hP hD hS 1 rfl (by omega) rfl dX1_chanceFrom_65 (fun H locs hP hD hS => ?_)
                have hP : va_P G.1 vwCl [(h0, .inr (1, [.ref a0])), (a0, .inl (G.2.1.2.2, 2401, .inr (.inr (.inr (.inl (aD (upD u_7 ((v * 49) + w) (chV v w))))))))] H := hP
                have hD : va_D A [(h0, .inr (1, [.ref a0])), (a0, .inl (G.2.1.2.2, 2401, .inr (.inr (.inr (.inl (aD (upD u_7 ((v * 49) + w) (chV v w))))))))] := hD
                refine lv_aload_n hx hb dX1_chanceFrom_66 rfl (lv_at hl 1 rfl) ?_
                refine z_get (k := 0) hF hK hP 0 rfl rfl i_wsX10 (by decide) kf_11 rfl dX1_chanceFrom_67 ?_
                refine lv_iload hx hb dX1_chanceFrom_70 (lv_at hl 0 rfl) ?_
                refine z_dald hF hK hP 1 rfl (by omega) rfl dX1_chanceFrom_72 ?_
                refine z_topd (y := (chV v w)) (upD_s _ _ _) ?_
                rw [hQ]
                exact z_dret hF hr hlocks (upD u_7 ((v * 49) + w) (chV v w)) ⟨chI_up hS1 hv hw, rfl⟩ hP hK hD hS dX1_chanceFrom_73
            · skip
              refine lv_dconst0 hx hb dX1_chanceFrom_43 ?_
              refine lv_dcmp hx hb dX1_chanceFrom_44 ?_
              refine z_top (y := zI (cmZ (bI (chV v w)) 0)) (by rw [hf9]; exact z_dcmp0 hfp hB9) ?_
              have qcm := cmZ_cs (bI (chV v w)) 0
              have qbi := bI_rg (chV v w)
              refine z_if_ge (tgt := 66) hF dX1_chanceFrom_45 (by decide) (by omega) (fun c_10 => ?_) (fun c_10 => ?_)
              · have hc_45 := c_10
                refine lv_aload_n hx hb dX1_chanceFrom_66 rfl (lv_at hl 1 rfl) ?_
                refine z_get (k := 0) hF hK hP 0 rfl rfl i_wsX10 (by decide) kf_11 rfl dX1_chanceFrom_67 ?_
                refine lv_iload hx hb dX1_chanceFrom_70 (lv_at hl 0 rfl) ?_
                refine z_dald hF hK hP 1 rfl (by omega) rfl dX1_chanceFrom_72 ?_
                refine z_topd (y := (chV v w)) hf9 ?_
                rw [hQ]
                exact z_dret hF hr hlocks f ⟨hI, rfl⟩ hP hK hD hS dX1_chanceFrom_73
              · exfalso; omega
          · exfalso; omega
theorem c_X1_chanceFrom (l : Launch) (G : wG) (hfp : FPL) : ∀ n : Nat, CHS l G n := by
  intro n
  induction n using Nat.strongRecOn with
  | ind n ih => exact c_X1_chanceFrom_s l G n hfp ih
set_option maxHeartbeats 4000000 in
set_option maxRecDepth 100000 in
theorem c_X1_chanceOf (l : Launch) (G : wG) (h0 a0 : Nat) (f : Int → UInt64) (v w : Int) (hfp : FPL) (hv : v7 v) (hw : v7 w) (hw0 : w ≠ 0) (hv0 : v ≠ 0) (hI : chI f) (z9 : Nat) : Met l yX1_chanceOf wsX1_chanceOf (rmL 300 0 0) (wPc G [(h0, .inr (1, [.ref a0])), (a0, .inl (G.2.1.2.2, 2401, .inr (.inr (.inr (.inl (aD f))))))] z9 [.ref h0, .int (zI v), .int (zI w)]) (wQd G (fun (r : UInt64) (u : (Int → UInt64)) => chI u ∧ r = (chV v w)) (fun (u : (Int → UInt64)) => [(h0, .inr (1, [.ref a0])), (a0, .inl (G.2.1.2.2, 2401, .inr (.inr (.inr (.inl (aD u))))))]) (va_A [(h0, .inr (1, [.ref a0])), (a0, .inl (G.2.1.2.2, 2401, .inr (.inr (.inr (.inl (aD f))))))] z9)) 0 0 (va_A [(h0, .inr (1, [.ref a0])), (a0, .inl (G.2.1.2.2, 2401, .inr (.inr (.inr (.inl (aD f))))))] z9) := by
  refine z_ofW (Qc := fun A => wQd G (fun (r : UInt64) (u : (Int → UInt64)) => chI u ∧ r = (chV v w)) (fun (u : (Int → UInt64)) => [(h0, .inr (1, [.ref a0])), (a0, .inl (G.2.1.2.2, 2401, .inr (.inr (.inr (.inl (aD u))))))]) A) l G [(h0, .inr (1, [.ref a0])), (a0, .inl (G.2.1.2.2, 2401, .inr (.inr (.inr (.inl (aD f))))))] [.ref h0, .int (zI v), .int (zI w)] (by decide) rfl rfl ?_ z9
  intro p e s m args below meth c A ls H locs hF hr hlocks hinit hP hK hD hA hS hBd hl
  have hF : wFx p m c cX1_chanceOf 3 s args wsX1_chanceOf RX1 := hF
  have hl : lv_has ls 3 [(0, .ref h0), (1, .int (zI v)), (2, .int (zI w))] := hl
  have hx := hF.1
  have hb := hF.2.1
  obtain ⟨Q0, hQ⟩ : ∃ q, q = (MQ below (wQd G (fun (r : UInt64) (u : (Int → UInt64)) => chI u ∧ r = (chV v w)) (fun (u : (Int → UInt64)) => [(h0, .inr (1, [.ref a0])), (a0, .inl (G.2.1.2.2, 2401, .inr (.inr (.inr (.inl (aD u))))))]) A) args s 0 0 A) := ⟨_, rfl⟩
  rw [← hQ]
  have hp9 := v7_pos hv hv0
  have hp8 := v7_pos hw hw0
  refine lv_aload_n hx hb dX1_chanceOf_0 rfl (lv_at hl 0 rfl) ?_
  refine lv_iload_n hx hb dX1_chanceOf_1 rfl (lv_at hl 1 rfl) ?_
  refine lv_iload_n hx hb dX1_chanceOf_2 rfl (lv_at hl 2 rfl) ?_
  refine z_iconst hF dX1_chanceOf_3 ?_
  refine cj_d (va_runV (As := [.int (zI v), .int (zI w), .int (zI 0)]) (rest := []) hF (c_X1_chanceFrom l G hfp 24 h0 a0 f v w 0 hv hw hw0 hv0 (by omega) (by omega) hI H.size) (cwV 3 hF.2.2.2.2 gX1_chanceOf_X1_chanceFrom rfl rfl rfl (by decide +kernel) ⟨Nat.le_of_ble_eq_true rfl, Nat.le_of_ble_eq_true rfl⟩) (z_preV hK hP hD hS hA hBd [0, 1] rfl rfl rfl rfl [.int (zI v), .int (zI w), .int (zI 0)]) rfl rfl hl.1 rfl (lv_room (Nat.le_of_ble_eq_true rfl)) dX1_chanceOf_4 ⟨Nat.le_of_ble_eq_true rfl, Nat.le_of_ble_eq_true rfl⟩) hP hD hS hA [0, 1] rfl (fun _ => Nat.le_of_ble_eq_true rfl) (fun r_2 u_1 H locs hw hP hD hS => ?_)
  have hP : va_P G.1 vwCl [(h0, .inr (1, [.ref a0])), (a0, .inl (G.2.1.2.2, 2401, .inr (.inr (.inr (.inl (aD u_1))))))] H := hP
  have hD : va_D A [(h0, .inr (1, [.ref a0])), (a0, .inl (G.2.1.2.2, 2401, .inr (.inr (.inr (.inl (aD u_1))))))] := hD
  obtain ⟨h_3, rfl⟩ := hw
  rw [hQ]
  exact z_dret hF hr hlocks u_1 (⟨by first | omega | assumption, rfl⟩) hP hK hD hS dX1_chanceOf_7
set_option maxHeartbeats 4000000 in
set_option maxRecDepth 100000 in
theorem c_J7_fill_7f8df (l : Launch) (G : wG) (a0 : Nat) (f : Int → UInt64) (v : UInt64)  (z9 : Nat) : Met l yJ7_fill_7f8df wsJ7_fill_7f8df (rmL 1 0 0) (wPc G [(a0, .inl (G.2.1.2.2, 2401, .inr (.inr (.inr (.inl (aD f))))))] z9 [.ref a0, .double v]) (wQv G (fun (u : Unit) => True) (fun (u : Unit) => [(a0, .inl (G.2.1.2.2, 2401, .inr (.inr (.inr (.inl (aD (fun _ => v)))))))]) (va_A [(a0, .inl (G.2.1.2.2, 2401, .inr (.inr (.inr (.inl (aD f))))))] z9)) 0 0 (va_A [(a0, .inl (G.2.1.2.2, 2401, .inr (.inr (.inr (.inl (aD f))))))] z9) := by
  refine z_ofW (Qc := fun A => wQv G (fun (u : Unit) => True) (fun (u : Unit) => [(a0, .inl (G.2.1.2.2, 2401, .inr (.inr (.inr (.inl (aD (fun _ => v)))))))]) A) l G [(a0, .inl (G.2.1.2.2, 2401, .inr (.inr (.inr (.inl (aD f))))))] [.ref a0, .double v] (by decide) rfl rfl ?_ z9
  intro p e s m args below meth c A ls H locs hF hr hlocks hinit hP hK hD hA hS hBd hl
  have hF : wFx p m c cJ7_fill_7f8df 5 s args wsJ7_fill_7f8df RJ7 := hF
  have hl : lv_has ls 5 [(0, .ref a0), (1, .double v)] := hl
  have hx := hF.1
  have hb := hF.2.1
  obtain ⟨Q0, hQ⟩ : ∃ q, q = (MQ below (wQv G (fun (u : Unit) => True) (fun (u : Unit) => [(a0, .inl (G.2.1.2.2, 2401, .inr (.inr (.inr (.inl (aD (fun _ => v)))))))]) A) args s 0 0 A) := ⟨_, rfl⟩
  rw [← hQ]
  refine z_iconst hF dJ7_fill_7f8df_0 ?_
  refine lv_istore_n (lv' := [(3, .int (zI 0)), (0, .ref a0), (1, .double v)]) hx hb dJ7_fill_7f8df_1 rfl hl (by decide) rfl (fun ls hl => ?_)
  refine lv_aload_n hx hb dJ7_fill_7f8df_2 rfl (lv_at hl 1 rfl) ?_
  refine z_dlen hF hK hP 0 rfl dJ7_fill_7f8df_3 ?_
  refine z_tz (b := 2401) rfl ?_
  refine lv_istore (lv' := [(4, .int (zI 2401)), (3, .int (zI 0)), (0, .ref a0), (1, .double v)]) hx hb dJ7_fill_7f8df_4 hl (by decide) rfl (fun ls hl => ?_)
  have L6 : ∀ (n9 : Nat) (i : Int), (2401 - i).toNat < n9 → (0 ≤ i ∧ i ≤ 2401) → ∀ (H : Heap) (locs : List Loc) (ls : Array Slot), va_P G.1 vwCl [(a0, .inl (G.2.1.2.2, 2401, .inr (.inr (.inr (.inl (aD (flD (fun _ => v) f i)))))))] H → va_D A [(a0, .inl (G.2.1.2.2, 2401, .inr (.inr (.inr (.inl (aD (flD (fun _ => v) f i)))))))] → va_S A s.heap H locs → lv_has ls 5 [(0, .ref a0), (1, .double v), (3, .int (zI i)), (4, .int (zI 2401))] → W p l e (rmL 1 0 0) s m args below meth c H locs 0 0 Q0 (F0 m 6 ls []) := by
    intro n9
    induction n9 with
    | zero => intro i hmu; omega
    | succ n9 ih6 =>
      intro i hmu6 hzi H locs ls hP hD hS hl
      refine lv_iload_n hx hb dJ7_fill_7f8df_6 rfl (lv_at hl 2 rfl) ?_
      refine lv_iload hx hb dJ7_fill_7f8df_7 (lv_at hl 3 rfl) ?_
      refine z_icmp_ge (tgt := 22) hF dJ7_fill_7f8df_9 (by decide) (by omega) (by decide) (fun c_1 => ?_) (fun c_1 => ?_)
      · have hc_9 := c_1
        have hP : va_P G.1 vwCl [(a0, .inl (G.2.1.2.2, 2401, .inr (.inr (.inr (.inl (aD (fun _ => v)))))))] H := z_extD (q := 0) (g := (fun _ => v)) hP rfl (fun k h0 h1 => by unfold flD; rw [if_pos ⟨h0, by omega⟩])
        have hD : va_D A [(a0, .inl (G.2.1.2.2, 2401, .inr (.inr (.inr (.inl (aD (fun _ => v)))))))] := va_D_cell (q := 0) hD rfl
        rw [hQ]
        exact z_vret hF hr hlocks () (trivial) hP hK hD hS dJ7_fill_7f8df_22
      · have hc_9 := c_1
        refine lv_aload_n hx hb dJ7_fill_7f8df_12 rfl (lv_at hl 0 rfl) ?_
        refine lv_iload_n hx hb dJ7_fill_7f8df_13 rfl (lv_at hl 2 rfl) ?_
        refine lv_dload_n hx hb dJ7_fill_7f8df_14 rfl (lv_at hl 1 rfl) ?_
        refine z_dast hF hK hP hD hS 0 rfl (by omega) rfl dJ7_fill_7f8df_15 (fun H locs hP hD hS => ?_)
        have hP : va_P G.1 vwCl [(a0, .inl (G.2.1.2.2, 2401, .inr (.inr (.inr (.inl (aD (upD (flD (fun _ => v) f i) i v)))))))] H := hP
        have hD : va_D A [(a0, .inl (G.2.1.2.2, 2401, .inr (.inr (.inr (.inl (aD (upD (flD (fun _ => v) f i) i v)))))))] := hD
        rw [show upD (flD (fun _ => v) f i) i v = flD (fun _ => v) f (i + 1) from (flD_s (fun _ => v) f hzi.1)] at hP hD
        refine z_iinc (lv' := [(3, .int (zI (i + 1))), (0, .ref a0), (1, .double v), (4, .int (zI 2401))]) hF dJ7_fill_7f8df_16 hl (k := 2) rfl (by decide) rfl (fun ls hl => ?_)
        refine z_goto (tgt := 6) hF dJ7_fill_7f8df_19 (by decide) ?_
        exact ih6 (i + 1) (by omega) (by omega) H locs ls hP hD hS (lv_sub hl [1, 2, 0, 3] rfl)
  have hP : va_P G.1 vwCl [(a0, .inl (G.2.1.2.2, 2401, .inr (.inr (.inr (.inl (aD (flD (fun _ => v) f 0)))))))] H := z_extD (q := 0) (g := (flD (fun _ => v) f 0)) hP rfl (fun k h0 h1 => by rw [flD_0])
  have hD : va_D A [(a0, .inl (G.2.1.2.2, 2401, .inr (.inr (.inr (.inl (aD (flD (fun _ => v) f 0)))))))] := va_D_cell (q := 0) hD rfl
  exact L6 _ 0 (Nat.lt_succ_self _) (by omega) H locs ls hP hD hS (lv_sub hl [2, 3, 1, 0] rfl)
set_option maxHeartbeats 4000000 in
set_option maxRecDepth 100000 in
theorem c_X1_init (l : Launch) (G : wG) (h0 : Nat)  (z9 : Nat) : Met l yX1_init wsX1_init (rmL 2 1 2401) (wPc G [(h0, .inr (1, [.null]))] z9 [.ref h0]) (wQv G (fun (u : Nat) => True) (fun (u : Nat) => [(h0, .inr (1, [.ref u])), (u, .inl (G.2.1.2.2, 2401, .inr (.inr (.inr (.inl (aD (fun _ => dm1)))))))]) (va_A [(h0, .inr (1, [.null]))] z9)) 1 2401 (va_A [(h0, .inr (1, [.null]))] z9) := by
  refine z_ofW (Qc := fun A => wQv G (fun (u : Nat) => True) (fun (u : Nat) => [(h0, .inr (1, [.ref u])), (u, .inl (G.2.1.2.2, 2401, .inr (.inr (.inr (.inl (aD (fun _ => dm1)))))))]) A) l G [(h0, .inr (1, [.null]))] [.ref h0] (by decide) rfl rfl ?_ z9
  intro p e s m args below meth c A ls H locs hF hr hlocks hinit hP hK hD hA hS hBd hl
  have hF : wFx p m c cX1_init 1 s args wsX1_init RX1 := hF
  have hl : lv_has ls 1 [(0, .ref h0)] := hl
  have hx := hF.1
  have hb := hF.2.1
  obtain ⟨Q0, hQ⟩ : ∃ q, q = (MQ below (wQv G (fun (u : Nat) => True) (fun (u : Nat) => [(h0, .inr (1, [.ref u])), (u, .inl (G.2.1.2.2, 2401, .inr (.inr (.inr (.inl (aD (fun _ => dm1)))))))]) A) args s 1 2401 A) := ⟨_, rfl⟩
  rw [← hQ]
  have i_wsX10 : ∀ w ∈ wsX10, w ∈ wsX1_init := (fun _ h => (List.mem_cons_of_mem _ (List.mem_append_right _ h)))
  have ka_double : (Cond.arrayClass .double).before args s = true := hF.2.2.2.2 _ (List.mem_cons_of_mem _ (List.mem_append_left _ (List.mem_of_getElem? (i := 3) rfl)))
  have kc_15 : (Cond.constantDouble RX1 15 (13830554455654793216)).before args s = true := hF.2.2.2.2 _ (List.mem_cons_of_mem _ (List.mem_append_left _ (List.mem_of_getElem? (i := 5) rfl)))
  have kf_11 : (Cond.fieldLink RX1 11 "Gammonry$Ending" "chances" "[D").before args s = true := hF.2.2.2.2 _ (List.mem_cons_of_mem _ (List.mem_append_left _ (List.mem_of_getElem? (i := 4) rfl)))
  have km_3 : (Cond.methodLink RX1 3 objectInit).before args s = true := hF.2.2.2.2 _ (List.mem_cons_of_mem _ (List.mem_append_left _ (List.mem_of_getElem? (i := 0) rfl)))
  have ko_c : (Cond.code objectInit ⟨#[0xb1]⟩ 1 none).before args s = true := hF.2.2.2.2 _ (List.mem_cons_of_mem _ (List.mem_append_left _ (List.mem_of_getElem? (i := 2) rfl)))
  have ko_i : (Cond.instanceMethod objectInit).before args s = true := hF.2.2.2.2 _ (List.mem_cons_of_mem _ (List.mem_append_left _ (List.mem_of_getElem? (i := 1) rfl)))
  refine lv_aload_n hx hb dX1_init_0 rfl (lv_at hl 0 rfl) ?_
  refine W.objInit hx hb hF.2.2.2.1 km_3 ko_i ko_c rfl (by rw [hF.2.2.1]; exact hl.1) rfl dX1_init_1 (Nat.le_of_ble_eq_true rfl) (Nat.le_of_ble_eq_true rfl) ?_
  refine W.eq (g2 := F0 m 4 ls []) rfl ?_
  refine lv_aload_n hx hb dX1_init_4 rfl (lv_at hl 0 rfl) ?_
  refine z_sipush hF dX1_init_5 (by decide) ?_
  refine z_newad hF ka_double hK hP hD hS hA (N := 2401) (by decide) (by decide) rfl rfl rfl dX1_init_8 (fun q_1 H hP hD hS => ?_)
  have hP : va_P G.1 vwCl [(h0, .inr (1, [.null])), (q_1, .inl (G.2.1.2.2, 2401, .inr (.inr (.inr (.inl (aD (fun _ => FP.dconst0)))))))] H := hP
  have hD : va_D A [(h0, .inr (1, [.null])), (q_1, .inl (G.2.1.2.2, 2401, .inr (.inr (.inr (.inl (aD (fun _ => FP.dconst0)))))))] := hD
  refine W.widen (k := 1) (n := 2401) (Nat.le_of_ble_eq_true rfl) (Nat.le_of_ble_eq_true rfl) ?_
  refine va_putF (D := G.1) (ty := tyX1 0) (ci := 1) (C := RX1) (T := TX1) (N := 1) hx hb hF.2.2.2.2 i_wsX10 tyX1 tyX1_ok nmX1 hF.2.2.2.1 hK hP hD hS 0 rfl rfl 0 (by decide) kf_11 (fun _ h9 => h9) rfl (hinit rfl) rfl (tyX1_ok 0 (by decide)) rfl rfl (Nat.le_of_ble_eq_true rfl) dX1_init_10 (fun H locs hP hD hS => ?_)
  have hP : va_P G.1 vwCl [(h0, .inr (1, [.ref q_1])), (q_1, .inl (G.2.1.2.2, 2401, .inr (.inr (.inr (.inl (aD (fun _ => FP.dconst0)))))))] H := hP
  have hD : va_D A [(h0, .inr (1, [.ref q_1])), (q_1, .inl (G.2.1.2.2, 2401, .inr (.inr (.inr (.inl (aD (fun _ => FP.dconst0)))))))] := hD
  refine lv_aload_n hx hb dX1_init_13 rfl (lv_at hl 0 rfl) ?_
  refine z_get (k := 0) hF hK hP 0 rfl rfl i_wsX10 (by decide) kf_11 rfl dX1_init_14 ?_
  refine lv_ldc2d hx hb hF.2.2.2.1 kc_15 dX1_init_17 ?_
  refine cj_v (va_runS (As := [.ref q_1, .double 13830554455654793216]) (rest := []) hF (c_J7_fill_7f8df l G q_1 (fun _ => FP.dconst0) 13830554455654793216   H.size) (va_cwS 2 hF.2.2.2.2 gX1_init_J7_fill_7f8df rfl rfl rfl (by decide +kernel) ⟨Nat.le_of_ble_eq_true rfl, Nat.le_of_ble_eq_true rfl⟩) (z_preS hK hP hD hS hA hBd [1] rfl rfl [.ref q_1, .double 13830554455654793216]) rfl rfl hl.1 rfl (lv_room (Nat.le_of_ble_eq_true rfl)) dX1_init_20 ⟨Nat.le_of_ble_eq_true rfl, Nat.le_of_ble_eq_true rfl⟩) hP hD hS hA [1] rfl (fun _ => Nat.le_of_ble_eq_true rfl) (fun u_2 H locs hw hP hD hS => ?_)
  have hP : va_P G.1 vwCl [(h0, .inr (1, [.ref q_1])), (q_1, .inl (G.2.1.2.2, 2401, .inr (.inr (.inr (.inl (aD (fun _ => 13830554455654793216)))))))] H := hP
  have hD : va_D A [(h0, .inr (1, [.ref q_1])), (q_1, .inl (G.2.1.2.2, 2401, .inr (.inr (.inr (.inl (aD (fun _ => 13830554455654793216)))))))] := hD
  obtain - := hw
  have hP : va_P G.1 vwCl [(h0, .inr (1, [.ref q_1])), (q_1, .inl (G.2.1.2.2, 2401, .inr (.inr (.inr (.inl (aD (fun _ => dm1)))))))] H := hP
  have hD : va_D A [(h0, .inr (1, [.ref q_1])), (q_1, .inl (G.2.1.2.2, 2401, .inr (.inr (.inr (.inl (aD (fun _ => dm1)))))))] := hD
  rw [hQ]
  refine W.widen (k := 1) (n := 2401) (Nat.le_of_ble_eq_true rfl) (Nat.le_of_ble_eq_true rfl) ?_
  exact z_vret hF hr hlocks q_1 (trivial) hP hK hD hS dX1_init_23
