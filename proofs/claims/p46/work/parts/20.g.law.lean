set_option maxHeartbeats 4000000 in
set_option maxRecDepth 100000 in
theorem sg_9 {p : Program} {l : Launch} {e : Env} {s : State} {m : MethodId} {args : Array Value} {below : List Frame} {meth : Method} {c : Code} {G : wG} {A : Nat → Prop} {b Ln : Nat} {sx : Nat → Int32} {Q0 : State → Prop} {cells slots : Nat} {a : Nat → Nat} (hC : lwC6 p l s m args c G A b Ln sx) {all seats t t0 dz rec : Int} {σ : gS} (hr : cells + 220 ≤ 600130 ∧ slots + 1320 ≤ 7301080) (hI : gI all seats t0 dz σ) (hB : gB all t0 σ) (hall : 0 ≤ all ∧ all ≤ 15)
    (K1 : kp (∀ (H : Heap) (locs : List Loc) (ls : Array Slot), va_P G.1 vwCl (gW G a σ) H → va_D A (gW G a σ) → va_S A s.heap H locs → lv_has ls 31 [(0, .ref b), (1, .ref (a 0)), (2, .int (zI all)), (3, .int (zI seats)), (5, .int (zI rec)), (6, .int (zI dz)), (13, .int (zI t)), (16, .long (zL 0)), (18, .int (zI 0))] → W p l e room_1 s m args below meth c H locs (cells + 220) (slots + 1320) Q0 (F0 m 1100 ls [])))
    {H : Heap} {locs : List Loc} {ls : Array Slot} (hP : va_P G.1 vwCl (gW G a σ) H) (hD : va_D A (gW G a σ)) (hS : va_S A s.heap H locs) (hl : lv_has ls 31 [(0, .ref b), (1, .ref (a 0)), (2, .int (zI all)), (3, .int (zI seats)), (5, .int (zI rec)), (6, .int (zI dz)), (13, .int (zI t))]) : W p l e room_1 s m args below meth c H locs cells slots Q0 (F0 m 1074 ls []) := by
  obtain ⟨hF, hst, hK, hBd, hA, hX, hbl, hbA, hLn, hts⟩ := hC
  have hx := hF.1
  have hb := hF.2.1
  have kc_21 : (Cond.constant RL 21 (-2000000)).before args s = true := hts _ (by decide +kernel)
  refine lv_aload_n hx hb dL_law_1074 rfl (lv_at hl 1 rfl) ?_
  refine lv_iload_n hx hb dL_law_1075 rfl (lv_at hl 2 rfl) ?_
  refine cj_i (va_runS (As := [.ref (a 0), .int (zI all)]) (rest := []) hF (c_L_whole l hst G a σ all hall hB.2.2.2.1 hB.2.2.2.2 H.size) (va_cwS 2 hF.2.2.2.2 gL_law_L_whole rfl rfl rfl (by decide +kernel) ⟨Nat.le_of_ble_eq_true rfl, Nat.le_of_ble_eq_true rfl⟩) (z_preS hK hP hD hS hA hBd [0, 1, 2, 3, 4, 5, 6, 7, 8, 9, 10, 11, 12, 13, 14, 15, 16, 17, 18, 19, 20, 21, 22, 23, 24, 25, 26, 27, 28, 29, 30, 31, 32, 33, 34, 35, 36, 37] rfl rfl [.ref (a 0), .int (zI all)]) rfl rfl hl.1 rfl (lv_room (Nat.le_of_ble_eq_true rfl)) dL_law_1076 (lx_fit (by omega) (by omega) hr)) hP hD hS hA [0, 1, 2, 3, 4, 5, 6, 7, 8, 9, 10, 11, 12, 13, 14, 15, 16, 17, 18, 19, 20, 21, 22, 23, 24, 25, 26, 27, 28, 29, 30, 31, 32, 33, 34, 35, 36, 37] rfl (fun _ => Nat.le_of_ble_eq_true rfl) (fun r_2 u_1 H locs hw hP hD hS => ?_)
  have hP := wmixP [true, true, true, true, true, true, true, true, true, true, true, true, true, true, true, true, true, true, true, true, true, true, true, true, true, true, true, true, true, true, true, true, true, true, true, true, true, true] (by decide +kernel) hP
  have hD := wmixD [true, true, true, true, true, true, true, true, true, true, true, true, true, true, true, true, true, true, true, true, true, true, true, true, true, true, true, true, true, true, true, true, true, true, true, true, true, true] (by decide +kernel) hD
  obtain rfl := hw
  have hP : va_P G.1 vwCl (gW G a σ) H := hP
  have hD : va_D A (gW G a σ) := hD
  refine z_if_eq (tgt := 1092) hF dL_law_1079 (by decide) (by decide) (fun c_3 => ?_) (fun c_3 => ?_)
  · exact absurd c_3 (by decide)
  · have hc_1079 := c_3
    refine lv_aload_n hx hb dL_law_1082 rfl (lv_at hl 1 rfl) ?_
    refine z_iconst hF dL_law_1083 ?_
    refine cj_i (vx_runSW (As := [.ref (a 0), .int (zI 2)]) (rest := []) hF (c_L_worth l hst G (a 0) (a 1) (a 2) (a 5) (a 9) (a 11) (a 12) (a 14) (a 16) (a 24) (a 32) (a 34) (a 36) (g_ph σ) (g_mv σ) (g_sk σ) (g_ho σ) (g_lk σ) (a 35) (g_bb σ) 2  (gI.ph hI) (gB_ok hI hB) (by decide) rfl H.size) (vx_cwSW 2 hF.2.2.2.2 gL_law_L_worth rfl rfl rfl (by decide +kernel) ⟨Nat.le_of_ble_eq_true rfl, Nat.le_of_ble_eq_true rfl⟩) (z_preS hK hP hD hS hA hBd [0, 34, 35] rfl rfl [.ref (a 0), .int (zI 2)]) rfl rfl hl.1 rfl (lv_room (Nat.le_of_ble_eq_true rfl)) dL_law_1084 (lx_fit (by omega) (by omega) hr)) hP hD hS hA [0, 34, 35] rfl (fun _ => Nat.le_of_ble_eq_true rfl) (fun r_5 u_4 H locs hw hP hD hS => ?_)
    have hP := wmixP [true, false, false, false, false, false, false, false, false, false, false, false, false, false, false, false, false, false, false, false, false, false, false, false, false, false, false, false, false, false, false, false, false, false, true, true] (by decide +kernel) hP
    have hD := wmixD [true, false, false, false, false, false, false, false, false, false, false, false, false, false, false, false, false, false, false, false, false, false, false, false, false, false, false, false, false, false, false, false, false, false, true, true] (by decide +kernel) hD
    obtain ⟨-, rfl⟩ := hw
    have hP : va_P G.1 vwCl (gW G a σ) H := hP
    have hD : va_D A (gW G a σ) := hD
    refine lv_ldc hx hb hF.2.2.2.1 kc_21 dL_law_1087 ?_
    refine z_top (y := zI (-2000000)) (by decide) ?_
    refine z_icmp_eq (tgt := 1094) hF dL_law_1089 (by decide) (by decide) (by decide) (fun c_6 => ?_) (fun c_6 => ?_)
    · have hc_1089 := c_6
      refine z_lconst hF dL_law_1094 ?_
      refine z_tzl (b := 0) rfl ?_
      refine lv_lstore (lv' := [(16, .long (zL 0)), (0, .ref b), (1, .ref (a 0)), (2, .int (zI all)), (3, .int (zI seats)), (5, .int (zI rec)), (6, .int (zI dz)), (13, .int (zI t))]) hx hb dL_law_1095 hl (by decide) rfl (fun ls hl => ?_)
      refine z_iconst hF dL_law_1097 ?_
      refine lv_istore (lv' := [(18, .int (zI 0)), (16, .long (zL 0)), (0, .ref b), (1, .ref (a 0)), (2, .int (zI all)), (3, .int (zI seats)), (5, .int (zI rec)), (6, .int (zI dz)), (13, .int (zI t))]) hx hb dL_law_1098 hl (by decide) rfl (fun ls hl => ?_)
      refine W.widen (k := cells + 220) (n := slots + 1320) (by omega) (by omega) ?_
      exact (kp.go K1)  H locs ls hP hD hS (lv_sub hl [2, 3, 4, 5, 6, 7, 8, 1, 0] rfl)
    · exact absurd c_6 (by decide)

set_option maxHeartbeats 4000000 in
set_option maxRecDepth 100000 in
theorem sg_9b {p : Program} {l : Launch} {e : Env} {s : State} {m : MethodId} {args : Array Value} {below : List Frame} {meth : Method} {c : Code} {G : wG} {A : Nat → Prop} {b Ln : Nat} {sx : Nat → Int32} {Q0 : State → Prop} {cells slots : Nat} {a : Nat → Nat} (hC : lwC6 p l s m args c G A b Ln sx) {all seats t t0 dz rec S9 k9 : Int} {σ : gS} (hr : cells + 2 ≤ 600130 ∧ slots + 12 ≤ 7301080) (hI : gI all seats t0 dz σ) (hB : gB all t0 σ) (hk9 : 0 ≤ k9 ∧ k9 ≤ seats) (hS9 : S9 = sz (g_ba σ) k9) (hk0 : seats ≤ 2 → k9 = 0)
    (K1 : kp (∀ (S9 : Int), S9 = sz (g_ba σ) (k9 + 1) → (k9 < seats ∧ 2 < seats) → ∀ (H : Heap) (locs : List Loc) (ls : Array Slot), va_P G.1 vwCl (gW G a σ) H → va_D A (gW G a σ) → va_S A s.heap H locs → lv_has ls 31 [(0, .ref b), (1, .ref (a 0)), (2, .int (zI all)), (3, .int (zI seats)), (5, .int (zI rec)), (6, .int (zI dz)), (13, .int (zI t)), (16, .long (zL S9)), (18, .int (zI (k9 + 1)))] → W p l e room_1 s m args below meth c H locs (cells + 2) (slots + 12) Q0 (F0 m 1100 ls [])))
    (K2 : kp (S9 = 0 → ∀ (H : Heap) (locs : List Loc) (ls : Array Slot), va_P G.1 vwCl (gW G a σ) H → va_D A (gW G a σ) → va_S A s.heap H locs → lv_has ls 31 [(0, .ref b), (1, .ref (a 0)), (2, .int (zI all)), (3, .int (zI seats)), (5, .int (zI rec)), (6, .int (zI dz)), (13, .int (zI t)), (16, .long (zL S9)), (18, .int (zI k9))] → W p l e room_1 s m args below meth c H locs (cells + 2) (slots + 12) Q0 (F0 m 1128 ls [])))
    {H : Heap} {locs : List Loc} {ls : Array Slot} (hP : va_P G.1 vwCl (gW G a σ) H) (hD : va_D A (gW G a σ)) (hS : va_S A s.heap H locs) (hl : lv_has ls 31 [(0, .ref b), (1, .ref (a 0)), (2, .int (zI all)), (3, .int (zI seats)), (5, .int (zI rec)), (6, .int (zI dz)), (13, .int (zI t)), (16, .long (zL S9)), (18, .int (zI k9))]) : W p l e room_1 s m args below meth c H locs cells slots Q0 (F0 m 1100 ls []) := by
  obtain ⟨hF, hst, hK, hBd, hA, hX, hbl, hbA, hLn, hts⟩ := hC
  have hx := hF.1
  have hb := hF.2.1
  have ht9 := hI.2.1.1
  have ht0 := hI.2.1.2.2.2
  refine lv_iload hx hb dL_law_1100 (lv_at hl 8 rfl) ?_
  refine lv_iload_n hx hb dL_law_1102 rfl (lv_at hl 3 rfl) ?_
  refine z_icmp_ge (tgt := 1128) hF dL_law_1103 (by decide) (by omega) (by omega) (fun c_1 => ?_) (fun c_1 => ?_)
  · have hc_1103 := c_1
    have hS0 : S9 = 0 := by
      rw [hS9]
      by_cases e9 : seats = 2
      · exfalso; have := hk0 (by omega); omega
      · rw [show k9 = g_tn σ by omega]; exact ht0
    refine W.widen (k := cells + 2) (n := slots + 12) (by omega) (by omega) ?_
    exact (kp.go K2) hS0 H locs ls hP hD hS (lv_sub hl [0, 1, 2, 3, 4, 5, 6, 7, 8] rfl)
  · have hc_1103 := c_1
    refine lv_iload_n hx hb dL_law_1106 rfl (lv_at hl 3 rfl) ?_
    refine z_iconst hF dL_law_1107 ?_
    refine z_icmp_le (tgt := 1128) hF dL_law_1108 (by decide) (by omega) (by decide) (fun c_2 => ?_) (fun c_2 => ?_)
    · have hc_1108 := c_2
      have hS0 : S9 = 0 := by
        rw [hS9, hk0 (by omega)]
        rfl
      refine W.widen (k := cells + 2) (n := slots + 12) (by omega) (by omega) ?_
      exact (kp.go K2) hS0 H locs ls hP hD hS (lv_sub hl [0, 1, 2, 3, 4, 5, 6, 7, 8] rfl)
    · have hc_1108 := c_2
      refine lv_lload hx hb dL_law_1111 (lv_at hl 7 rfl) ?_
      refine lv_aload_n hx hb dL_law_1113 rfl (lv_at hl 1 rfl) ?_
      refine lv_iload hx hb dL_law_1114 (lv_at hl 8 rfl) ?_
      refine cj_l (vx_runSW (As := [.ref (a 0), .int (zI k9)]) (rest := [.long (zL S9)]) hF (c_L_account l hst G (a 0) (a 1) (a 2) (a 5) (a 9) (a 11) (a 12) (a 14) (a 16) (a 24) (a 32) (a 34) (a 36) (g_ph σ) (g_mv σ) (g_sk σ) (g_ho σ) (g_lk σ) (a 3) (a 4) (g_se σ) (g_ba σ) (g_tn σ) k9  (gI.tn hI) (by omega) (by omega) H.size) (vx_cwSW 2 hF.2.2.2.2 gL_law_L_account rfl rfl rfl (by decide +kernel) ⟨Nat.le_of_ble_eq_true rfl, Nat.le_of_ble_eq_true rfl⟩) (z_preS hK hP hD hS hA hBd [0, 2, 3, 4] rfl rfl [.ref (a 0), .int (zI k9)]) rfl rfl hl.1 rfl (lv_room (Nat.le_of_ble_eq_true rfl)) dL_law_1116 (lx_fit (by omega) (by omega) hr)) hP hD hS hA [0, 2, 3, 4] rfl (fun _ => Nat.le_of_ble_eq_true rfl) (fun r_4 u_3 H locs hw hP hD hS => ?_)
      have hP := wmixP [true, false, true, true, true] (by decide +kernel) hP
      have hD := wmixD [true, false, true, true, true] (by decide +kernel) hD
      obtain ⟨-, rfl⟩ := hw
      have hP : va_P G.1 vwCl (gW G a σ) H := hP
      have hD : va_D A (gW G a σ) := hD
      refine z_ladd hF dL_law_1119 ?_
      refine lv_lstore (lv' := [(16, .long (zL (S9 + (g_ba σ k9)))), (0, .ref b), (1, .ref (a 0)), (2, .int (zI all)), (3, .int (zI seats)), (5, .int (zI rec)), (6, .int (zI dz)), (13, .int (zI t)), (18, .int (zI k9))]) hx hb dL_law_1120 hl (by decide) rfl (fun ls hl => ?_)
      refine z_iinc (lv' := [(18, .int (zI (k9 + 1))), (16, .long (zL (S9 + (g_ba σ k9)))), (0, .ref b), (1, .ref (a 0)), (2, .int (zI all)), (3, .int (zI seats)), (5, .int (zI rec)), (6, .int (zI dz)), (13, .int (zI t))]) hF dL_law_1122 hl (k := 8) rfl (by decide) rfl (fun ls hl => ?_)
      refine z_goto (tgt := 1100) hF dL_law_1125 (by decide) ?_
      refine W.widen (k := cells + 2) (n := slots + 12) (by omega) (by omega) ?_
      exact (kp.go K1) (S9 + (g_ba σ k9)) (by rw [sz_s _ hk9.1, hS9]) (by omega) H locs ls hP hD hS (lv_sub hl [2, 3, 4, 5, 6, 7, 8, 1, 0] rfl)

/-- the accounts summed -/
theorem lp_9 {p : Program} {l : Launch} {e : Env} {s : State} {m : MethodId} {args : Array Value} {below : List Frame} {meth : Method} {c : Code} {G : wG} {A : Nat → Prop} {b Ln : Nat} {sx : Nat → Int32} {Q0 : State → Prop} {cells slots : Nat} {a : Nat → Nat} (hC : lwC6 p l s m args c G A b Ln sx) {all seats t t0 dz rec : Int} {σ : gS} (hr : cells + 100 ≤ 600130 ∧ slots + 600 ≤ 7301080) (hI : gI all seats t0 dz σ) (hB : gB all t0 σ)
    (K : ∀ {S9 k9 : Int} {kc ks : Nat}, S9 = 0 → kc ≤ cells + 20 ∧ ks ≤ slots + 120 → ∀ {H : Heap} {locs : List Loc} {ls : Array Slot}, va_P G.1 vwCl (gW G a σ) H → va_D A (gW G a σ) → va_S A s.heap H locs → lv_has ls 31 [(0, .ref b), (1, .ref (a 0)), (2, .int (zI all)), (3, .int (zI seats)), (5, .int (zI rec)), (6, .int (zI dz)), (13, .int (zI t)), (16, .long (zL S9)), (18, .int (zI k9))] → W p l e room_1 s m args below meth c H locs kc ks Q0 (F0 m 1128 ls [])) :
    ∀ (g9 : Nat) {S9 k9 : Int} {kc ks : Nat}, (7 - k9).toNat < g9 → 0 ≤ k9 ∧ k9 ≤ seats → S9 = sz (g_ba σ) k9 → (seats ≤ 2 → k9 = 0) → kc ≤ cells + 2 * k9.toNat ∧ ks ≤ slots + 12 * k9.toNat → ∀ {H : Heap} {locs : List Loc} {ls : Array Slot}, va_P G.1 vwCl (gW G a σ) H → va_D A (gW G a σ) → va_S A s.heap H locs → lv_has ls 31 [(0, .ref b), (1, .ref (a 0)), (2, .int (zI all)), (3, .int (zI seats)), (5, .int (zI rec)), (6, .int (zI dz)), (13, .int (zI t)), (16, .long (zL S9)), (18, .int (zI k9))] → W p l e room_1 s m args below meth c H locs kc ks Q0 (F0 m 1100 ls []) := by
  have ht9 := hI.2.1.1
  intro g9
  induction g9 with
  | zero => intro S9 k9 kc ks h h2; omega
  | succ g9 ih =>
    intro S9 k9 kc ks hmu hp hS9 hk0 hk H locs ls hP hD hS hl
    have hp4 : k9.toNat ≤ 6 := by omega
    refine sg_9b hC (by omega) hI hB hp hS9 hk0 (kp.mk ?_) (kp.mk ?_) hP hD hS hl
    · intro S2 hS2 hlt H locs ls hP hD hS hl
      exact ih (by omega) (by omega) hS2 (fun h => by omega) (by omega) hP hD hS hl
    · intro hn H locs ls hP hD hS hl
      exact K hn (by omega) hP hD hS hl
set_option maxHeartbeats 4000000 in
set_option maxRecDepth 100000 in
theorem sg_9c {p : Program} {l : Launch} {e : Env} {s : State} {m : MethodId} {args : Array Value} {below : List Frame} {meth : Method} {c : Code} {G : wG} {A : Nat → Prop} {b Ln : Nat} {sx : Nat → Int32} {Q0 : State → Prop} {cells slots : Nat} {a : Nat → Nat} (hC : lwC6 p l s m args c G A b Ln sx) {all seats t dz rec S9 k9 : Int} {σ : gS} (hr : cells + 2 ≤ 600130 ∧ slots + 12 ≤ 7301080) (hS0 : S9 = 0) (ht : 0 ≤ t ∧ t < 1000)
    (K1 : kp (∀ (H : Heap) (locs : List Loc) (ls : Array Slot), va_P G.1 vwCl (gW G a σ) H → va_D A (gW G a σ) → va_S A s.heap H locs → lv_has ls 31 [(0, .ref b), (1, .ref (a 0)), (2, .int (zI all)), (3, .int (zI seats)), (5, .int (zI rec)), (6, .int (zI dz)), (13, .int (zI (t + 1)))] → W p l e room_1 s m args below meth c H locs (cells + 2) (slots + 12) Q0 (F0 m 247 ls [])))
    {H : Heap} {locs : List Loc} {ls : Array Slot} (hP : va_P G.1 vwCl (gW G a σ) H) (hD : va_D A (gW G a σ)) (hS : va_S A s.heap H locs) (hl : lv_has ls 31 [(0, .ref b), (1, .ref (a 0)), (2, .int (zI all)), (3, .int (zI seats)), (5, .int (zI rec)), (6, .int (zI dz)), (13, .int (zI t)), (16, .long (zL S9)), (18, .int (zI k9))]) : W p l e room_1 s m args below meth c H locs cells slots Q0 (F0 m 1128 ls []) := by
  obtain ⟨hF, hst, hK, hBd, hA, hX, hbl, hbA, hLn, hts⟩ := hC
  have hx := hF.1
  have hb := hF.2.1
  refine lv_lload hx hb dL_law_1128 (lv_at hl 7 rfl) ?_
  refine z_tzl (b := 0) hS0 ?_
  refine z_lconst hF dL_law_1130 ?_
  refine z_tzl (b := 0) rfl ?_
  refine z_lcmpE hF rfl dL_law_1131 ?_
  refine z_if_eq (tgt := 1137) hF dL_law_1132 (by decide) (by decide) (fun c_1 => ?_) (fun c_1 => ?_)
  · have hc_1132 := c_1
    refine z_iinc (lv' := [(13, .int (zI (t + 1))), (0, .ref b), (1, .ref (a 0)), (2, .int (zI all)), (3, .int (zI seats)), (5, .int (zI rec)), (6, .int (zI dz)), (16, .long (zL S9)), (18, .int (zI k9))]) hF dL_law_1137 hl (k := 6) rfl (by decide) rfl (fun ls hl => ?_)
    refine z_goto (tgt := 247) hF dL_law_1140 (by decide) ?_
    refine W.widen (k := cells + 2) (n := slots + 12) (by omega) (by omega) ?_
    exact (kp.go K1)  H locs ls hP hD hS (lv_sub hl [1, 2, 3, 4, 5, 6, 0] rfl)
  · exact absurd c_1 (by decide)

set_option maxHeartbeats 4000000 in
set_option maxRecDepth 100000 in
theorem sg_0 {p : Program} {l : Launch} {e : Env} {s : State} {m : MethodId} {args : Array Value} {below : List Frame} {meth : Method} {c : Code} {G : wG} {A : Nat → Prop} {b Ln : Nat} {sx : Nat → Int32} {Q0 : State → Prop} {cells slots : Nat} {a : Nat → Nat} (hC : lwC6 p l s m args c G A b Ln sx) {all seats t dz rec : Int} {σ : gS} (hr : cells + 2 ≤ 600130 ∧ slots + 12 ≤ 7301080) (hall : all = 3 ∨ all = 15) (ht : 0 ≤ t ∧ t ≤ 30)
    (K1 : kp (t < 30 → ∀ (H : Heap) (locs : List Loc) (ls : Array Slot), va_P G.1 vwCl (gW G a σ) H → va_D A (gW G a σ) → va_S A s.heap H locs → lv_has ls 31 [(0, .ref b), (1, .ref (a 0)), (2, .int (zI all)), (3, .int (zI seats)), (5, .int (zI rec)), (6, .int (zI dz)), (13, .int (zI t))] → W p l e room_1 s m args below meth c H locs (cells + 2) (slots + 12) Q0 (F0 m 263 ls [])))
    (K2 : kp (4 ≤ t → ∀ (H : Heap) (locs : List Loc) (ls : Array Slot), va_P G.1 vwCl (gW G a σ) H → va_D A (gW G a σ) → va_S A s.heap H locs → lv_has ls 31 [(0, .ref b), (1, .ref (a 0)), (2, .int (zI all)), (3, .int (zI seats)), (5, .int (zI rec)), (6, .int (zI dz)), (13, .int (zI t))] → W p l e room_1 s m args below meth c H locs (cells + 2) (slots + 12) Q0 (F0 m 1143 ls [])))
    {H : Heap} {locs : List Loc} {ls : Array Slot} (hP : va_P G.1 vwCl (gW G a σ) H) (hD : va_D A (gW G a σ)) (hS : va_S A s.heap H locs) (hl : lv_has ls 31 [(0, .ref b), (1, .ref (a 0)), (2, .int (zI all)), (3, .int (zI seats)), (5, .int (zI rec)), (6, .int (zI dz)), (13, .int (zI t))]) : W p l e room_1 s m args below meth c H locs cells slots Q0 (F0 m 247 ls []) := by
  obtain ⟨hF, hst, hK, hBd, hA, hX, hbl, hbA, hLn, hts⟩ := hC
  have hx := hF.1
  have hb := hF.2.1
  refine lv_iload hx hb dL_law_247 (lv_at hl 6 rfl) ?_
  refine lv_iload_n hx hb dL_law_249 rfl (lv_at hl 2 rfl) ?_
  refine z_iconst hF dL_law_250 ?_
  refine z_icmp_ne (tgt := 259) hF dL_law_251 (by decide) (by omega) (by decide) (fun c_1 => ?_) (fun c_1 => ?_)
  · have hc_251 := c_1
    refine z_iconst hF dL_law_259 ?_
    refine z_icmp_ge (tgt := 1143) hF dL_law_260 (by decide) (by omega) (by decide) (fun c_2 => ?_) (fun c_2 => ?_)
    · have hc_260 := c_2
      refine W.widen (k := cells + 2) (n := slots + 12) (by omega) (by omega) ?_
      exact (kp.go K2) (by omega) H locs ls hP hD hS (lv_sub hl [0, 1, 2, 3, 4, 5, 6] rfl)
    · have hc_260 := c_2
      refine W.widen (k := cells + 2) (n := slots + 12) (by omega) (by omega) ?_
      exact (kp.go K1) (by omega) H locs ls hP hD hS (lv_sub hl [0, 1, 2, 3, 4, 5, 6] rfl)
  · have hc_251 := c_1
    refine z_bipush hF dL_law_254 (by decide) ?_
    refine z_goto (tgt := 260) hF dL_law_256 (by decide) ?_
    refine z_icmp_ge (tgt := 1143) hF dL_law_260 (by decide) (by omega) (by decide) (fun c_3 => ?_) (fun c_3 => ?_)
    · have hc_260 := c_3
      refine W.widen (k := cells + 2) (n := slots + 12) (by omega) (by omega) ?_
      exact (kp.go K2) (by omega) H locs ls hP hD hS (lv_sub hl [0, 1, 2, 3, 4, 5, 6] rfl)
    · have hc_260 := c_3
      refine W.widen (k := cells + 2) (n := slots + 12) (by omega) (by omega) ?_
      exact (kp.go K1) (by omega) H locs ls hP hD hS (lv_sub hl [0, 1, 2, 3, 4, 5, 6] rfl)

set_option maxHeartbeats 4000000 in
set_option maxRecDepth 100000 in
theorem sg_10 {p : Program} {l : Launch} {e : Env} {s : State} {m : MethodId} {args : Array Value} {below : List Frame} {meth : Method} {c : Code} {G : wG} {A : Nat → Prop} {b Ln : Nat} {sx : Nat → Int32} {Q0 : State → Prop} {cells slots : Nat} {a : Nat → Nat} (hC : lwC6 p l s m args c G A b Ln sx) {all seats t dz rec : Int} {σ : gS} (hr : cells + 8 ≤ 600130 ∧ slots + 48 ≤ 7301080) (hI : gI all seats t dz σ) (hB : gB all t σ) (hdz : 0 ≤ dz) (hdm : dz < 1000)
    (K1 : kp (∀ (H : Heap) (locs : List Loc) (ls : Array Slot), va_S A s.heap H locs → W p l e room_1 s m args below meth c H locs (cells + 8) (slots + 48) Q0 (F0 m 1181 ls [.int (zI 1)])))
    {H : Heap} {locs : List Loc} {ls : Array Slot} (hP : va_P G.1 vwCl (gW G a σ) H) (hD : va_D A (gW G a σ)) (hS : va_S A s.heap H locs) (hl : lv_has ls 31 [(0, .ref b), (1, .ref (a 0)), (2, .int (zI all)), (3, .int (zI seats)), (5, .int (zI rec)), (6, .int (zI dz)), (13, .int (zI t))]) : W p l e room_1 s m args below meth c H locs cells slots Q0 (F0 m 1143 ls []) := by
  obtain ⟨hF, hst, hK, hBd, hA, hX, hbl, hbA, hLn, hts⟩ := hC
  have hx := hF.1
  have hb := hF.2.1
  have hB2 := hB.2.1
  have hB3 := hB2
  obtain ⟨-, -, -, -, -, T9, t1, t2, t3, t4, -⟩ := hB3
  have kc_97 : (Cond.constantLong RL 97 (-2500000)).before args s = true := hts _ (by decide +kernel)
  refine lv_aload_n hx hb dL_law_1143 rfl (lv_at hl 1 rfl) ?_
  refine cj_i (va_runV (As := []) (rest := []) hF (c_X9_isSound l G (a 0) (a 1) (a 2) (a 5) (a 9) (a 11) (a 12) (a 14) (a 16) (a 24) (a 32) (a 34) (a 36) (g_ph σ) (g_mv σ) (g_sk σ) (g_ho σ) (g_lk σ) (a 3) (a 4) (g_se σ) (g_ba σ) (g_tn σ) (a 6) (a 7) (a 8) (g_fd σ) (g_fn σ) (g_fr0 σ) (g_tu σ) (g_hv σ) (g_fi σ) (a 33) (g_bs σ) (a 35) (g_bb σ) (a 37) (g_bc σ) T9  hB2.2.1 (iz_lyP _) hB2.2.2.1 ⟨t1, by have := hB2.1; have := hI.tmx; omega⟩ t2 t3 hI.2.1.2.2.1 (by rw [hB.1, hI.al]; exact hB.2.2.2.1) (by rw [hB.1, hI.al]; exact hB.2.2.1.1) t4 H.size) (cwV 0 hF.2.2.2.2 gL_law_X9_isSound rfl rfl rfl (by decide +kernel) ⟨Nat.le_of_ble_eq_true rfl, Nat.le_of_ble_eq_true rfl⟩) (z_preV hK hP hD hS hA hBd [0, 2, 3, 4, 5, 6, 7, 8, 32, 33, 34, 35, 36, 37] rfl rfl rfl rfl []) rfl rfl hl.1 rfl (lv_room (Nat.le_of_ble_eq_true rfl)) dL_law_1144 (lx_fit (by omega) (by omega) hr)) hP hD hS hA [0, 2, 3, 4, 5, 6, 7, 8, 32, 33, 34, 35, 36, 37] rfl (fun _ => Nat.le_of_ble_eq_true rfl) (fun r_2 u_1 H locs hw hP hD hS => ?_)
  have hP := wmixP [true, false, true, true, true, true, true, true, true, false, false, false, false, false, false, false, false, false, false, false, false, false, false, false, false, false, false, false, false, false, false, false, true, true, true, true, true, true] (by decide +kernel) hP
  have hD := wmixD [true, false, true, true, true, true, true, true, true, false, false, false, false, false, false, false, false, false, false, false, false, false, false, false, false, false, false, false, false, false, false, false, true, true, true, true, true, true] (by decide +kernel) hD
  obtain rfl := hw
  have hP : va_P G.1 vwCl (gW G a (s_bc σ u_1)) H := hP
  have hD : va_D A (gW G a (s_bc σ u_1)) := hD
  obtain ⟨σ1, e99, hI2⟩ : ∃ q : gS, gW G a q = gW G a (s_bc σ u_1) ∧ gI all seats t dz q := ⟨s_bc σ u_1, rfl, ⟨hI.1, hI.2⟩⟩
  rw [← e99] at hP hD
  clear e99
  have hP : va_P G.1 vwCl (gW G a σ1) H := hP
  have hD : va_D A (gW G a σ1) := hD
  have ht9 := hI2.2.1.1
  refine z_if_eq (tgt := 1180) hF dL_law_1147 (by decide) (by decide) (fun c_3 => ?_) (fun c_3 => ?_)
  · exact absurd c_3 (by decide)
  · have hc_1147 := c_3
    refine lv_iload hx hb dL_law_1150 (lv_at hl 5 rfl) ?_
    refine z_if_gt (tgt := 1164) hF dL_law_1152 (by decide) (by omega) (fun c_4 => ?_) (fun c_4 => ?_)
    · have hc_1152 := c_4
      refine lv_aload_n hx hb dL_law_1164 rfl (lv_at hl 1 rfl) ?_
      refine lv_iload_n hx hb dL_law_1165 rfl (lv_at hl 3 rfl) ?_
      refine cj_l (vx_runSW (As := [.ref (a 0), .int (zI seats)]) (rest := []) hF (c_L_accountN l hst G (a 0) (a 1) (a 2) (a 5) (a 9) (a 11) (a 12) (a 14) (a 16) (a 24) (a 32) (a 34) (a 36) (g_ph σ1) (g_mv σ1) (g_sk σ1) (g_ho σ1) (g_lk σ1) (a 3) (a 4) (g_se σ1) (g_ba σ1) (g_tn σ1) seats  (gI.tn hI2) (by omega) (by omega) H.size) (vx_cwSW 2 hF.2.2.2.2 gL_law_L_account rfl rfl rfl (by decide +kernel) ⟨Nat.le_of_ble_eq_true rfl, Nat.le_of_ble_eq_true rfl⟩) (z_preS hK hP hD hS hA hBd [0, 2, 3, 4] rfl rfl [.ref (a 0), .int (zI seats)]) rfl rfl hl.1 rfl (lv_room (Nat.le_of_ble_eq_true rfl)) dL_law_1166 (lx_fit (by omega) (by omega) hr)) hP hD hS hA [0, 2, 3, 4] rfl (fun _ => Nat.le_of_ble_eq_true rfl) (fun r_6 u_5 H locs hw hP hD hS => ?_)
      have hP := wmixP [true, false, true, true, true] (by decide +kernel) hP
      have hD := wmixD [true, false, true, true, true] (by decide +kernel) hD
      obtain ⟨-, rfl⟩ := hw
      have hP : va_P G.1 vwCl (gW G a σ1) H := hP
      have hD : va_D A (gW G a σ1) := hD
      refine lv_ldc2 hx hb hF.2.2.2.1 kc_97 dL_law_1169 ?_
      refine z_topl (y := zL (-2500000)) (by decide) ?_
      refine z_lcmpE hF rfl dL_law_1172 ?_
      refine z_if_ne (tgt := 1180) hF dL_law_1173 (by decide) (by decide) (fun c_7 => ?_) (fun c_7 => ?_)
      · exact absurd c_7 (by decide)
      · have hc_1173 := c_7
        refine z_iconst hF dL_law_1176 ?_
        refine z_goto (tgt := 1181) hF dL_law_1177 (by decide) ?_
        refine W.widen (k := cells + 8) (n := slots + 48) (by omega) (by omega) ?_
        exact (kp.go K1) H locs ls hS
    · have hc_1152 := c_4
      have hfa0 : g_fa σ1 = fun _ => 0 := hI2.2.2.2.2 (by omega)
      refine lv_aload_n hx hb dL_law_1155 rfl (lv_at hl 1 rfl) ?_
      refine cj_l (va_runV (As := []) (rest := []) hF (c_X9_fairness l G (a 0) (a 1) (a 2) (a 5) (a 9) (a 11) (a 12) (a 14) (a 16) (a 24) (a 32) (a 34) (a 36) (g_ph σ1) (g_mv σ1) (g_sk σ1) (g_ho σ1) (g_lk σ1) (a 10) (g_fa σ1) (g_al σ1) (g_hi0 σ1) (g_er σ1)  (by rw [hfa0]; intro k; show (0 : Int) ≤ 0 ∧ (0 : Int) ≤ 100000; decide) H.size) (cwV 0 hF.2.2.2.2 gL_law_X9_fairness rfl rfl rfl (by decide +kernel) ⟨Nat.le_of_ble_eq_true rfl, Nat.le_of_ble_eq_true rfl⟩) (z_preV hK hP hD hS hA hBd [0, 9, 10] rfl rfl rfl rfl []) rfl rfl hl.1 rfl (lv_room (Nat.le_of_ble_eq_true rfl)) dL_law_1156 (lx_fit (by omega) (by omega) hr)) hP hD hS hA [0, 9, 10] rfl (fun _ => Nat.le_of_ble_eq_true rfl) (fun r_9 u_8 H locs hw hP hD hS => ?_)
      have hP := wmixP [true, false, false, false, false, false, false, false, false, true, true] (by decide +kernel) hP
      have hD := wmixD [true, false, false, false, false, false, false, false, false, true, true] (by decide +kernel) hD
      obtain rfl := hw
      have hP : va_P G.1 vwCl (gW G a σ1) H := hP
      have hD : va_D A (gW G a σ1) := hD
      refine z_tzl (b := 0) (by rw [hfa0]; rfl) ?_
      refine z_lconst hF dL_law_1159 ?_
      refine z_tzl (b := 0) rfl ?_
      refine z_lcmpE hF rfl dL_law_1160 ?_
      refine z_if_ne (tgt := 1180) hF dL_law_1161 (by decide) (by decide) (fun c_10 => ?_) (fun c_10 => ?_)
      · exact absurd c_10 (by decide)
      · have hc_1161 := c_10
        refine lv_aload_n hx hb dL_law_1164 rfl (lv_at hl 1 rfl) ?_
        refine lv_iload_n hx hb dL_law_1165 rfl (lv_at hl 3 rfl) ?_
        refine cj_l (vx_runSW (As := [.ref (a 0), .int (zI seats)]) (rest := []) hF (c_L_accountN l hst G (a 0) (a 1) (a 2) (a 5) (a 9) (a 11) (a 12) (a 14) (a 16) (a 24) (a 32) (a 34) (a 36) (g_ph σ1) (g_mv σ1) (g_sk σ1) (g_ho σ1) (g_lk σ1) (a 3) (a 4) (g_se σ1) (g_ba σ1) (g_tn σ1) seats  (gI.tn hI2) (by omega) (by omega) H.size) (vx_cwSW 2 hF.2.2.2.2 gL_law_L_account rfl rfl rfl (by decide +kernel) ⟨Nat.le_of_ble_eq_true rfl, Nat.le_of_ble_eq_true rfl⟩) (z_preS hK hP hD hS hA hBd [0, 2, 3, 4] rfl rfl [.ref (a 0), .int (zI seats)]) rfl rfl hl.1 rfl (lv_room (Nat.le_of_ble_eq_true rfl)) dL_law_1166 (lx_fit (by omega) (by omega) hr)) hP hD hS hA [0, 2, 3, 4] rfl (fun _ => Nat.le_of_ble_eq_true rfl) (fun r_12 u_11 H locs hw hP hD hS => ?_)
        have hP := wmixP [true, false, true, true, true] (by decide +kernel) hP
        have hD := wmixD [true, false, true, true, true] (by decide +kernel) hD
        obtain ⟨-, rfl⟩ := hw
        have hP : va_P G.1 vwCl (gW G a σ1) H := hP
        have hD : va_D A (gW G a σ1) := hD
        refine lv_ldc2 hx hb hF.2.2.2.1 kc_97 dL_law_1169 ?_
        refine z_topl (y := zL (-2500000)) (by decide) ?_
        refine z_lcmpE hF rfl dL_law_1172 ?_
        refine z_if_ne (tgt := 1180) hF dL_law_1173 (by decide) (by decide) (fun c_13 => ?_) (fun c_13 => ?_)
        · exact absurd c_13 (by decide)
        · have hc_1173 := c_13
          refine z_iconst hF dL_law_1176 ?_
          refine z_goto (tgt := 1181) hF dL_law_1177 (by decide) ?_
          refine W.widen (k := cells + 8) (n := slots + 48) (by omega) (by omega) ?_
          exact (kp.go K1) H locs ls hS

