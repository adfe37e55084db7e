set_option maxHeartbeats 4000000 in
set_option maxRecDepth 100000 in
theorem sg_5 {p : Program} {l : Launch} {e : Env} {s : State} {m : MethodId} {args : Array Value} {below : List Frame} {meth : Method} {c : Code} {G : wG} {A : Nat → Prop} {b Ln : Nat} {sx : Nat → Int32} {Q0 : State → Prop} {cells slots : Nat} {a : Nat → Nat} (hC : lwC6 p l s m args c G A b Ln sx) {all seats t dz rec sd D E n0 c0 k P0 P1 f1 f2 : Int} {fr0 b0 : Int → Int} {hits spent j : Int} {σ : gS} (hr : cells + 20 ≤ 600130 ∧ slots + 120 ≤ 7301080) (hg : gL all seats t dz sd D E n0 c0 rec k fr0 P0 P1 hits spent j b0 σ) (hj : n0 ≤ j)
    (K1 : kp (∀ (nw : Nat), ∀ (H : Heap) (locs : List Loc) (ls : Array Slot), va_P G.1 vwCl (gW G a σ ++ [(nw, .inl (G.2.1.1, 52, .inl (aI (fun _ => 0))))]) H → va_D A (gW G a σ ++ [(nw, .inl (G.2.1.1, 52, .inl (aI (fun _ => 0))))]) → va_S A s.heap H locs → lv_has ls 31 [(0, .ref b), (1, .ref (a 0)), (2, .int (zI all)), (3, .int (zI seats)), (5, .int (zI rec)), (6, .int (zI dz)), (13, .int (zI t)), (15, .int (zI sd)), (16, .int (zI f1)), (17, .int (zI f2)), (21, .int (zI k)), (25, .ref nw), (26, .int (zI 0))] → W p l e room_1 s m args below meth c H locs (cells + 20) (slots + 120) Q0 (F0 m 843 ls [])))
    {H : Heap} {locs : List Loc} {ls : Array Slot} (hP : va_P G.1 vwCl (gW G a σ) H) (hD : va_D A (gW G a σ)) (hS : va_S A s.heap H locs) (hl : lv_has ls 31 [(0, .ref b), (1, .ref (a 0)), (2, .int (zI all)), (3, .int (zI seats)), (5, .int (zI rec)), (6, .int (zI dz)), (13, .int (zI t)), (15, .int (zI sd)), (16, .int (zI f1)), (17, .int (zI f2)), (19, .int (zI P0)), (20, .int (zI P1)), (21, .int (zI k)), (22, .int (zI n0)), (23, .int (zI hits)), (24, .int (zI spent)), (25, .int (zI j))]) : W p l e room_1 s m args below meth c H locs cells slots Q0 (F0 m 802 ls []) := by
  obtain ⟨hF, hst, hK, hBd, hA, hX, hbl, hbA, hLn, hts⟩ := hC
  have hx := hF.1
  have hb := hF.2.1
  have hg0 := hg
  obtain ⟨hI, hB, hR, ⟨e1, e2, e3, e4, e5, e6, e7, e8, e9⟩, hk, hm, hp0, hp1, hh, hgl, hll, hq0, hq9⟩ := hg0
  have hmv := hI.mv
  have hpa := pipB_rg (sd := sd) hB.2.2.2.1 hI.all15 (by omega)
  have hpb := pipB_rg (sd := 1 - sd) hB.2.2.2.1 hI.all15 (by omega)
  have ka_int : (Cond.arrayClass .int).before args s = true := hts _ (by decide +kernel)
  refine lv_aload_n hx hb dL_law_802 rfl (lv_at hl 1 rfl) ?_
  refine lv_iload hx hb dL_law_803 (lv_at hl 7 rfl) ?_
  refine cj_i (vx_runSW (As := [.ref (a 0), .int (zI sd)]) (rest := []) hF (c_L_pips l hst G (a 0) (a 1) (a 2) (a 5) (a 9) (a 11) (a 12) (a 14) (a 16) (a 24) (a 32) (a 34) (a 36) (g_ph σ) (g_mv σ) (g_sk σ) (g_ho σ) (g_lk σ) (a 35) (g_bb σ) sd  (by omega) (by omega) H.size) (vx_cwSW 2 hF.2.2.2.2 gL_law_L_pips rfl rfl rfl (by decide +kernel) ⟨Nat.le_of_ble_eq_true rfl, Nat.le_of_ble_eq_true rfl⟩) (z_preS hK hP hD hS hA hBd [0, 34, 35] rfl rfl [.ref (a 0), .int (zI sd)]) rfl rfl hl.1 rfl (lv_room (Nat.le_of_ble_eq_true rfl)) dL_law_805 (lx_fit (by omega) (by omega) hr)) hP hD hS hA [0, 34, 35] rfl (fun _ => Nat.le_of_ble_eq_true rfl) (fun r_2 u_1 H locs hw hP hD hS => ?_)
  have hP := wmixP [true, false, false, false, false, false, false, false, false, false, false, false, false, false, false, false, false, false, false, false, false, false, false, false, false, false, false, false, false, false, false, false, false, false, true, true] (by decide +kernel) hP
  have hD := wmixD [true, false, false, false, false, false, false, false, false, false, false, false, false, false, false, false, false, false, false, false, false, false, false, false, false, false, false, false, false, false, false, false, false, false, true, true] (by decide +kernel) hD
  obtain ⟨-, rfl⟩ := hw
  have hP : va_P G.1 vwCl (gW G a σ) H := hP
  have hD : va_D A (gW G a σ) := hD
  refine z_tz (b := pipB (g_bb σ) sd) rfl ?_
  refine lv_iload hx hb dL_law_808 (lv_at hl 10 rfl) ?_
  refine lv_iload hx hb dL_law_810 (lv_at hl 15 rfl) ?_
  refine z_isub hF dL_law_812 ?_
  refine z_icmp_ne (tgt := 832) hF dL_law_813 (by decide) (by omega) (by omega) (fun c_3 => ?_) (fun c_3 => ?_)
  · exfalso; omega
  · have hc_813 := c_3
    refine lv_aload_n hx hb dL_law_816 rfl (lv_at hl 1 rfl) ?_
    refine z_iconst hF dL_law_817 ?_
    refine lv_iload hx hb dL_law_818 (lv_at hl 7 rfl) ?_
    refine z_isub hF dL_law_820 ?_
    refine cj_i (vx_runSW (As := [.ref (a 0), .int (zI (1 - sd))]) (rest := []) hF (c_L_pips l hst G (a 0) (a 1) (a 2) (a 5) (a 9) (a 11) (a 12) (a 14) (a 16) (a 24) (a 32) (a 34) (a 36) (g_ph σ) (g_mv σ) (g_sk σ) (g_ho σ) (g_lk σ) (a 35) (g_bb σ) (1 - sd)  (by omega) (by omega) H.size) (vx_cwSW 2 hF.2.2.2.2 gL_law_L_pips rfl rfl rfl (by decide +kernel) ⟨Nat.le_of_ble_eq_true rfl, Nat.le_of_ble_eq_true rfl⟩) (z_preS hK hP hD hS hA hBd [0, 34, 35] rfl rfl [.ref (a 0), .int (zI (1 - sd))]) rfl rfl hl.1 rfl (lv_room (Nat.le_of_ble_eq_true rfl)) dL_law_821 (lx_fit (by omega) (by omega) hr)) hP hD hS hA [0, 34, 35] rfl (fun _ => Nat.le_of_ble_eq_true rfl) (fun r_5 u_4 H locs hw hP hD hS => ?_)
    have hP := wmixP [true, false, false, false, false, false, false, false, false, false, false, false, false, false, false, false, false, false, false, false, false, false, false, false, false, false, false, false, false, false, false, false, false, false, true, true] (by decide +kernel) hP
    have hD := wmixD [true, false, false, false, false, false, false, false, false, false, false, false, false, false, false, false, false, false, false, false, false, false, false, false, false, false, false, false, false, false, false, false, false, false, true, true] (by decide +kernel) hD
    obtain ⟨-, rfl⟩ := hw
    have hP : va_P G.1 vwCl (gW G a σ) H := hP
    have hD : va_D A (gW G a σ) := hD
    refine z_tz (b := pipB (g_bb σ) (1 - sd)) rfl ?_
    refine lv_iload hx hb dL_law_824 (lv_at hl 11 rfl) ?_
    refine lv_iload hx hb dL_law_826 (lv_at hl 14 rfl) ?_
    refine z_iadd hF dL_law_828 ?_
    refine z_icmp_ge (tgt := 834) hF dL_law_829 (by decide) (by omega) (by omega) (fun c_6 => ?_) (fun c_6 => ?_)
    · have hc_829 := c_6
      refine z_bipush hF dL_law_834 (by decide) ?_
      refine z_newai hF ka_int hK hP hD hS hA (N := 52) (by decide) (by decide) rfl (Nat.ble_eq_true_of_le (lx_c (by omega) hr)) (Nat.ble_eq_true_of_le (lx_s (by omega) hr)) dL_law_836 (fun nw H hP hD hS => ?_)
      have hP : va_P G.1 vwCl (gW G a σ ++ [(nw, .inl (G.2.1.1, 52, .inl (aI (fun _ => 0))))]) H := hP
      have hD : va_D A (gW G a σ ++ [(nw, .inl (G.2.1.1, 52, .inl (aI (fun _ => 0))))]) := hD
      refine lv_astore (lv' := [(25, .ref nw), (0, .ref b), (1, .ref (a 0)), (2, .int (zI all)), (3, .int (zI seats)), (5, .int (zI rec)), (6, .int (zI dz)), (13, .int (zI t)), (15, .int (zI sd)), (16, .int (zI f1)), (17, .int (zI f2)), (19, .int (zI P0)), (20, .int (zI P1)), (21, .int (zI k)), (22, .int (zI n0)), (23, .int (zI hits)), (24, .int (zI spent))]) hx hb dL_law_838 hl (by decide) rfl (fun ls hl => ?_)
      refine z_iconst hF dL_law_840 ?_
      refine lv_istore (lv' := [(26, .int (zI 0)), (25, .ref nw), (0, .ref b), (1, .ref (a 0)), (2, .int (zI all)), (3, .int (zI seats)), (5, .int (zI rec)), (6, .int (zI dz)), (13, .int (zI t)), (15, .int (zI sd)), (16, .int (zI f1)), (17, .int (zI f2)), (19, .int (zI P0)), (20, .int (zI P1)), (21, .int (zI k)), (22, .int (zI n0)), (23, .int (zI hits)), (24, .int (zI spent))]) hx hb dL_law_841 hl (by decide) rfl (fun ls hl => ?_)
      refine W.widen (k := cells + 20) (n := slots + 120) (by omega) (by omega) ?_
      exact (kp.go K1) nw H locs ls hP hD hS (lv_sub hl [2, 3, 4, 5, 6, 7, 8, 9, 10, 11, 14, 1, 0] rfl)
    · exfalso; omega

set_option maxHeartbeats 4000000 in
set_option maxRecDepth 100000 in
theorem sg_5b {p : Program} {l : Launch} {e : Env} {s : State} {m : MethodId} {args : Array Value} {below : List Frame} {meth : Method} {c : Code} {G : wG} {A : Nat → Prop} {b Ln : Nat} {sx : Nat → Int32} {Q0 : State → Prop} {cells slots : Nat} {a : Nat → Nat} (hC : lwC6 p l s m args c G A b Ln sx) {all seats t dz rec sd D E n0 c0 k P0 P1 f1 f2 : Int} {fr0 b0 : Int → Int} {p8 : Int} {f : Int → Int} {nw : Nat} {σ : gS} (hr : cells + 4 ≤ 600130 ∧ slots + 24 ≤ 7301080) (hp8 : 0 ≤ p8 ∧ p8 ≤ 52) (hf : ∀ q : Int, 0 ≤ q → q < p8 → f q = g_bb σ q)
    (K1 : kp (∀ (f : Int → Int), (∀ q : Int, 0 ≤ q → q < p8 + 1 → f q = g_bb σ q) → p8 < 52 → ∀ (H : Heap) (locs : List Loc) (ls : Array Slot), va_P G.1 vwCl (gW G a σ ++ [(nw, .inl (G.2.1.1, 52, .inl (aI f)))]) H → va_D A (gW G a σ ++ [(nw, .inl (G.2.1.1, 52, .inl (aI f)))]) → va_S A s.heap H locs → lv_has ls 31 [(0, .ref b), (1, .ref (a 0)), (2, .int (zI all)), (3, .int (zI seats)), (5, .int (zI rec)), (6, .int (zI dz)), (13, .int (zI t)), (15, .int (zI sd)), (16, .int (zI f1)), (17, .int (zI f2)), (21, .int (zI k)), (25, .ref nw), (26, .int (zI (p8 + 1)))] → W p l e room_1 s m args below meth c H locs (cells + 4) (slots + 24) Q0 (F0 m 843 ls [])))
    (K2 : kp (52 ≤ p8 → ∀ (H : Heap) (locs : List Loc) (ls : Array Slot), va_P G.1 vwCl (gW G a σ ++ [(nw, .inl (G.2.1.1, 52, .inl (aI f)))]) H → va_D A (gW G a σ ++ [(nw, .inl (G.2.1.1, 52, .inl (aI f)))]) → va_S A s.heap H locs → lv_has ls 31 [(0, .ref b), (1, .ref (a 0)), (2, .int (zI all)), (3, .int (zI seats)), (5, .int (zI rec)), (6, .int (zI dz)), (13, .int (zI t)), (15, .int (zI sd)), (16, .int (zI f1)), (17, .int (zI f2)), (21, .int (zI k)), (25, .ref nw), (26, .int (zI p8))] → W p l e room_1 s m args below meth c H locs (cells + 4) (slots + 24) Q0 (F0 m 875 ls [])))
    {H : Heap} {locs : List Loc} {ls : Array Slot} (hP : va_P G.1 vwCl (gW G a σ ++ [(nw, .inl (G.2.1.1, 52, .inl (aI f)))]) H) (hD : va_D A (gW G a σ ++ [(nw, .inl (G.2.1.1, 52, .inl (aI f)))])) (hS : va_S A s.heap H locs) (hl : lv_has ls 31 [(0, .ref b), (1, .ref (a 0)), (2, .int (zI all)), (3, .int (zI seats)), (5, .int (zI rec)), (6, .int (zI dz)), (13, .int (zI t)), (15, .int (zI sd)), (16, .int (zI f1)), (17, .int (zI f2)), (21, .int (zI k)), (25, .ref nw), (26, .int (zI p8))]) : W p l e room_1 s m args below meth c H locs cells slots Q0 (F0 m 843 ls []) := by
  obtain ⟨hF, hst, hK, hBd, hA, hX, hbl, hbA, hLn, hts⟩ := hC
  have hx := hF.1
  have hb := hF.2.1
  refine lv_iload hx hb dL_law_843 (lv_at hl 12 rfl) ?_
  refine z_bipush hF dL_law_845 (by decide) ?_
  refine z_icmp_ge (tgt := 875) hF dL_law_847 (by decide) (by omega) (by decide) (fun c_1 => ?_) (fun c_1 => ?_)
  · have hc_847 := c_1
    refine W.widen (k := cells + 4) (n := slots + 24) (by omega) (by omega) ?_
    exact (kp.go K2) (by omega) H locs ls hP hD hS (lv_sub hl [0, 1, 2, 3, 4, 5, 6, 7, 8, 9, 10, 11, 12] rfl)
  · have hc_847 := c_1
    have hlt0 : p8 < 52 := by omega
    refine lv_aload hx hb dL_law_850 (lv_at hl 11 rfl) ?_
    refine lv_iload hx hb dL_law_852 (lv_at hl 12 rfl) ?_
    refine lv_aload_n hx hb dL_law_854 rfl (lv_at hl 1 rfl) ?_
    refine lv_iload hx hb dL_law_855 (lv_at hl 12 rfl) ?_
    refine z_bipush hF dL_law_857 (by decide) ?_
    refine z_idiv hF dL_law_859 (by omega) (by decide) ?_
    refine lv_iload hx hb dL_law_860 (lv_at hl 12 rfl) ?_
    refine z_bipush hF dL_law_862 (by decide) ?_
    refine z_irem hF dL_law_864 (by omega) (by decide) ?_
    refine cj_i (vx_runSW (As := [.ref (a 0), .int (zI (p8 / 26)), .int (zI (p8 % 26))]) (rest := [.int (zI p8), .ref nw]) hF (c_L_men l hst G (a 0) (a 1) (a 2) (a 5) (a 9) (a 11) (a 12) (a 14) (a 16) (a 24) (a 32) (a 34) (a 36) (g_ph σ) (g_mv σ) (g_sk σ) (g_ho σ) (g_lk σ) (a 35) (g_bb σ) (p8 / 26) (p8 % 26)  (by omega) (by omega) (by omega) (by omega) H.size) (vx_cwSW 3 hF.2.2.2.2 gL_law_L_men rfl rfl rfl (by decide +kernel) ⟨Nat.le_of_ble_eq_true rfl, Nat.le_of_ble_eq_true rfl⟩) (z_preS hK hP hD hS hA hBd [0, 34, 35] rfl rfl [.ref (a 0), .int (zI (p8 / 26)), .int (zI (p8 % 26))]) rfl rfl hl.1 rfl (lv_room (Nat.le_of_ble_eq_true rfl)) dL_law_865 (lx_fit (by omega) (by omega) hr)) hP hD hS hA [0, 34, 35] rfl (fun _ => Nat.le_of_ble_eq_true rfl) (fun r_3 u_2 H locs hw hP hD hS => ?_)
    have hP := wmixP [true, false, false, false, false, false, false, false, false, false, false, false, false, false, false, false, false, false, false, false, false, false, false, false, false, false, false, false, false, false, false, false, false, false, true, true] (by decide +kernel) hP
    have hD := wmixD [true, false, false, false, false, false, false, false, false, false, false, false, false, false, false, false, false, false, false, false, false, false, false, false, false, false, false, false, false, false, false, false, false, false, true, true] (by decide +kernel) hD
    obtain ⟨-, -, rfl⟩ := hw
    have hP : va_P G.1 vwCl (gW G a σ ++ [(nw, .inl (G.2.1.1, 52, .inl (aI f)))]) H := hP
    have hD : va_D A (gW G a σ ++ [(nw, .inl (G.2.1.1, 52, .inl (aI f)))]) := hD
    refine z_tz (b := g_bb σ p8) (congrArg (g_bb σ) (by omega)) ?_
    refine z_iast hF hK hP hD hS 38 rfl (by omega) rfl dL_law_868 (fun H locs hP hD hS => ?_)
    have hP : va_P G.1 vwCl (gW G a σ ++ [(nw, .inl (G.2.1.1, 52, .inl (aI (up f p8 (g_bb σ p8)))))]) H := hP
    have hD : va_D A (gW G a σ ++ [(nw, .inl (G.2.1.1, 52, .inl (aI (up f p8 (g_bb σ p8)))))]) := hD
    refine z_iinc (lv' := [(26, .int (zI (p8 + 1))), (0, .ref b), (1, .ref (a 0)), (2, .int (zI all)), (3, .int (zI seats)), (5, .int (zI rec)), (6, .int (zI dz)), (13, .int (zI t)), (15, .int (zI sd)), (16, .int (zI f1)), (17, .int (zI f2)), (21, .int (zI k)), (25, .ref nw)]) hF dL_law_869 hl (k := 12) rfl (by decide) rfl (fun ls hl => ?_)
    refine z_goto (tgt := 843) hF dL_law_872 (by decide) ?_
    have hf2 : ∀ q : Int, 0 ≤ q → q < p8 + 1 → up f p8 (g_bb σ p8) q = g_bb σ q := fun q h0 h1 => by
      by_cases e9 : q = p8
      · rw [e9, up_s]
      · rw [up_n _ _ e9]
        exact hf q h0 (by omega)
    refine W.widen (k := cells + 4) (n := slots + 24) (by omega) (by omega) ?_
    exact (kp.go K1) (up f p8 (g_bb σ p8)) hf2 (by omega) H locs ls hP hD hS (lv_sub hl [1, 2, 3, 4, 5, 6, 7, 8, 9, 10, 11, 12, 0] rfl)

/-- the men written down -/
theorem lp_5 {p : Program} {l : Launch} {e : Env} {s : State} {m : MethodId} {args : Array Value} {below : List Frame} {meth : Method} {c : Code} {G : wG} {A : Nat → Prop} {b Ln : Nat} {sx : Nat → Int32} {Q0 : State → Prop} {cells slots : Nat} {a : Nat → Nat} (hC : lwC6 p l s m args c G A b Ln sx) {all seats t dz rec sd D E n0 c0 k P0 P1 f1 f2 : Int} {fr0 b0 : Int → Int} {σ : gS} {nw : Nat} (hr : cells + 300 ≤ 600130 ∧ slots + 1500 ≤ 7301080)
    (K : ∀ {p8 : Int} {f : Int → Int} {kc ks : Nat}, (∀ q : Int, 0 ≤ q → q < 52 → f q = g_bb σ q) → kc ≤ cells + 212 ∧ ks ≤ slots + 1272 → ∀ {H : Heap} {locs : List Loc} {ls : Array Slot}, va_P G.1 vwCl (gW G a σ ++ [(nw, .inl (G.2.1.1, 52, .inl (aI f)))]) H → va_D A (gW G a σ ++ [(nw, .inl (G.2.1.1, 52, .inl (aI f)))]) → va_S A s.heap H locs → lv_has ls 31 [(0, .ref b), (1, .ref (a 0)), (2, .int (zI all)), (3, .int (zI seats)), (5, .int (zI rec)), (6, .int (zI dz)), (13, .int (zI t)), (15, .int (zI sd)), (16, .int (zI f1)), (17, .int (zI f2)), (21, .int (zI k)), (25, .ref nw), (26, .int (zI p8))] → W p l e room_1 s m args below meth c H locs kc ks Q0 (F0 m 875 ls [])) :
    ∀ (g9 : Nat) {p8 : Int} {f : Int → Int} {kc ks : Nat}, (53 - p8).toNat < g9 → 0 ≤ p8 ∧ p8 ≤ 52 → (∀ q : Int, 0 ≤ q → q < p8 → f q = g_bb σ q) → kc ≤ cells + 4 * p8.toNat ∧ ks ≤ slots + 24 * p8.toNat → ∀ {H : Heap} {locs : List Loc} {ls : Array Slot}, va_P G.1 vwCl (gW G a σ ++ [(nw, .inl (G.2.1.1, 52, .inl (aI f)))]) H → va_D A (gW G a σ ++ [(nw, .inl (G.2.1.1, 52, .inl (aI f)))]) → va_S A s.heap H locs → lv_has ls 31 [(0, .ref b), (1, .ref (a 0)), (2, .int (zI all)), (3, .int (zI seats)), (5, .int (zI rec)), (6, .int (zI dz)), (13, .int (zI t)), (15, .int (zI sd)), (16, .int (zI f1)), (17, .int (zI f2)), (21, .int (zI k)), (25, .ref nw), (26, .int (zI p8))] → W p l e room_1 s m args below meth c H locs kc ks Q0 (F0 m 843 ls []) := by
  intro g9
  induction g9 with
  | zero => intro p8 f kc ks h; omega
  | succ g9 ih =>
    intro p8 f kc ks hmu hp hf hk H locs ls hP hD hS hl
    have hp4 : p8.toNat ≤ 52 := by omega
    refine sg_5b (all := all) (seats := seats) (t := t) (dz := dz) (rec := rec) (sd := sd) (D := D) (E := E) (n0 := n0) (c0 := c0) (k := k) (P0 := P0) (P1 := P1) (f1 := f1) (f2 := f2) (fr0 := fr0) (b0 := b0) hC (by omega) hp hf (kp.mk ?_) (kp.mk ?_) hP hD hS hl
    · intro f9 hf9 hlt H locs ls hP hD hS hl
      exact ih (by omega) (by omega) hf9 (by omega) hP hD hS hl
    · intro hn H locs ls hP hD hS hl
      exact K (fun q h0 h1 => hf q h0 (by omega)) (by omega) hP hD hS hl
