set_option maxHeartbeats 4000000 in
set_option maxRecDepth 100000 in
theorem c_X4_init (l : Launch) (G : wG) (h0 : Nat) (op va le ja cr p0 p1 : Int)  (z9 : Nat) : Met l yX4_init wsX4_init (rmL 2 0 0) (wPc G [(h0, .inr (4, [.int (zI op), .int (zI va), .int (zI le), .int (zI ja), .int (zI cr), .int (zI p0), .int (zI p1)]))] z9 [.ref h0]) (wQv G (fun (u : Unit) => True) (fun (u : Unit) => [(h0, .inr (4, [.int (zI 0), .int (zI 32), .int (zI 0), .int (zI 0), .int (zI 0), .int (zI 0), .int (zI 0)]))]) (va_A [(h0, .inr (4, [.int (zI op), .int (zI va), .int (zI le), .int (zI ja), .int (zI cr), .int (zI p0), .int (zI p1)]))] z9)) 0 0 (va_A [(h0, .inr (4, [.int (zI op), .int (zI va), .int (zI le), .int (zI ja), .int (zI cr), .int (zI p0), .int (zI p1)]))] z9) := by
  refine z_ofW (Qc := fun A => wQv G (fun (u : Unit) => True) (fun (u : Unit) => [(h0, .inr (4, [.int (zI 0), .int (zI 32), .int (zI 0), .int (zI 0), .int (zI 0), .int (zI 0), .int (zI 0)]))]) A) l G [(h0, .inr (4, [.int (zI op), .int (zI va), .int (zI le), .int (zI ja), .int (zI cr), .int (zI p0), .int (zI p1)]))] [.ref h0] (by decide) rfl rfl ?_ z9
  intro p e s m args below meth c A ls H locs hF hr hlocks hinit hP hK hD hA hS hBd hl
  have hF : wFx p m c cX4_init 1 s args wsX4_init RX4 := hF
  have hl : lv_has ls 1 [(0, .ref h0)] := hl
  have hx := hF.1
  have hb := hF.2.1
  obtain ⟨Q0, hQ⟩ : ∃ q, q = (MQ below (wQv G (fun (u : Unit) => True) (fun (u : Unit) => [(h0, .inr (4, [.int (zI 0), .int (zI 32), .int (zI 0), .int (zI 0), .int (zI 0), .int (zI 0), .int (zI 0)]))]) A) args s 0 0 A) := ⟨_, rfl⟩
  rw [← hQ]
  have i_wsX40 : ∀ w ∈ wsX40, w ∈ wsX4_init := (fun _ h => (List.mem_cons_of_mem _ (List.mem_append_right _ h)))
  have kf_13 : (Cond.fieldLink RX4 13 "Gammonry$Match" "variant" "C").before args s = true := hF.2.2.2.2 _ (List.mem_cons_of_mem _ (List.mem_append_left _ (List.mem_of_getElem? (i := 4) rfl)))
  have kf_17 : (Cond.fieldLink RX4 17 "Gammonry$Match" "length" "I").before args s = true := hF.2.2.2.2 _ (List.mem_cons_of_mem _ (List.mem_append_left _ (List.mem_of_getElem? (i := 5) rfl)))
  have kf_21 : (Cond.fieldLink RX4 21 "Gammonry$Match" "hasJacoby" "Z").before args s = true := hF.2.2.2.2 _ (List.mem_cons_of_mem _ (List.mem_append_left _ (List.mem_of_getElem? (i := 6) rfl)))
  have kf_24 : (Cond.fieldLink RX4 24 "Gammonry$Match" "crawford" "I").before args s = true := hF.2.2.2.2 _ (List.mem_cons_of_mem _ (List.mem_append_left _ (List.mem_of_getElem? (i := 7) rfl)))
  have kf_27 : (Cond.fieldLink RX4 27 "Gammonry$Match" "pointsOf0" "I").before args s = true := hF.2.2.2.2 _ (List.mem_cons_of_mem _ (List.mem_append_left _ (List.mem_of_getElem? (i := 8) rfl)))
  have kf_30 : (Cond.fieldLink RX4 30 "Gammonry$Match" "pointsOf1" "I").before args s = true := hF.2.2.2.2 _ (List.mem_cons_of_mem _ (List.mem_append_left _ (List.mem_of_getElem? (i := 9) rfl)))
  have kf_7 : (Cond.fieldLink RX4 7 "Gammonry$Match" "isOpen" "Z").before args s = true := hF.2.2.2.2 _ (List.mem_cons_of_mem _ (List.mem_append_left _ (List.mem_of_getElem? (i := 3) rfl)))
  have km_1 : (Cond.methodLink RX4 1 objectInit).before args s = true := hF.2.2.2.2 _ (List.mem_cons_of_mem _ (List.mem_append_left _ (List.mem_of_getElem? (i := 0) rfl)))
  have ko_c : (Cond.code objectInit ⟨#[0xb1]⟩ 1 none).before args s = true := hF.2.2.2.2 _ (List.mem_cons_of_mem _ (List.mem_append_left _ (List.mem_of_getElem? (i := 2) rfl)))
  have ko_i : (Cond.instanceMethod objectInit).before args s = true := hF.2.2.2.2 _ (List.mem_cons_of_mem _ (List.mem_append_left _ (List.mem_of_getElem? (i := 1) rfl)))
  refine lv_aload_n hx hb dX4_init_0 rfl (lv_at hl 0 rfl) ?_
  refine W.objInit hx hb hF.2.2.2.1 km_1 ko_i ko_c rfl (by rw [hF.2.2.1]; exact hl.1) rfl dX4_init_1 (Nat.le_of_ble_eq_true rfl) (Nat.le_of_ble_eq_true rfl) ?_
  refine W.eq (g2 := F0 m 4 ls []) rfl ?_
  refine lv_aload_n hx hb dX4_init_4 rfl (lv_at hl 0 rfl) ?_
  refine z_iconst hF dX4_init_5 ?_
  refine z_put (k := 0) hF hK hP hD hS 0 rfl rfl i_wsX40 (by decide) tyX4 tyX4_ok nmX4 rfl kf_7 rfl rfl (Nat.le_of_ble_eq_true rfl) dX4_init_6 (fun H locs hP hD hS => ?_)
  have hP : va_P G.1 vwCl [(h0, .inr (4, [.int (zI 0), .int (zI va), .int (zI le), .int (zI ja), .int (zI cr), .int (zI p0), .int (zI p1)]))] H := hP
  have hD : va_D A [(h0, .inr (4, [.int (zI 0), .int (zI va), .int (zI le), .int (zI ja), .int (zI cr), .int (zI p0), .int (zI p1)]))] := hD
  refine lv_aload_n hx hb dX4_init_9 rfl (lv_at hl 0 rfl) ?_
  refine z_bipush hF dX4_init_10 (by decide) ?_
  refine z_put (k := 1) hF hK hP hD hS 0 rfl rfl i_wsX40 (by decide) tyX4 tyX4_ok nmX4 rfl kf_13 rfl rfl (Nat.le_of_ble_eq_true rfl) dX4_init_12 (fun H locs hP hD hS => ?_)
  have hP : va_P G.1 vwCl [(h0, .inr (4, [.int (zI 0), .int (zI 32), .int (zI le), .int (zI ja), .int (zI cr), .int (zI p0), .int (zI p1)]))] H := hP
  have hD : va_D A [(h0, .inr (4, [.int (zI 0), .int (zI 32), .int (zI le), .int (zI ja), .int (zI cr), .int (zI p0), .int (zI p1)]))] := hD
  refine lv_aload_n hx hb dX4_init_15 rfl (lv_at hl 0 rfl) ?_
  refine z_iconst hF dX4_init_16 ?_
  refine z_put (k := 2) hF hK hP hD hS 0 rfl rfl i_wsX40 (by decide) tyX4 tyX4_ok nmX4 rfl kf_17 rfl rfl (Nat.le_of_ble_eq_true rfl) dX4_init_17 (fun H locs hP hD hS => ?_)
  have hP : va_P G.1 vwCl [(h0, .inr (4, [.int (zI 0), .int (zI 32), .int (zI 0), .int (zI ja), .int (zI cr), .int (zI p0), .int (zI p1)]))] H := hP
  have hD : va_D A [(h0, .inr (4, [.int (zI 0), .int (zI 32), .int (zI 0), .int (zI ja), .int (zI cr), .int (zI p0), .int (zI p1)]))] := hD
  refine lv_aload_n hx hb dX4_init_20 rfl (lv_at hl 0 rfl) ?_
  refine z_iconst hF dX4_init_21 ?_
  refine z_put (k := 3) hF hK hP hD hS 0 rfl rfl i_wsX40 (by decide) tyX4 tyX4_ok nmX4 rfl kf_21 rfl rfl (Nat.le_of_ble_eq_true rfl) dX4_init_22 (fun H locs hP hD hS => ?_)
  have hP : va_P G.1 vwCl [(h0, .inr (4, [.int (zI 0), .int (zI 32), .int (zI 0), .int (zI 0), .int (zI cr), .int (zI p0), .int (zI p1)]))] H := hP
  have hD : va_D A [(h0, .inr (4, [.int (zI 0), .int (zI 32), .int (zI 0), .int (zI 0), .int (zI cr), .int (zI p0), .int (zI p1)]))] := hD
  refine lv_aload_n hx hb dX4_init_25 rfl (lv_at hl 0 rfl) ?_
  refine z_iconst hF dX4_init_26 ?_
  refine z_put (k := 4) hF hK hP hD hS 0 rfl rfl i_wsX40 (by decide) tyX4 tyX4_ok nmX4 rfl kf_24 rfl rfl (Nat.le_of_ble_eq_true rfl) dX4_init_27 (fun H locs hP hD hS => ?_)
  have hP : va_P G.1 vwCl [(h0, .inr (4, [.int (zI 0), .int (zI 32), .int (zI 0), .int (zI 0), .int (zI 0), .int (zI p0), .int (zI p1)]))] H := hP
  have hD : va_D A [(h0, .inr (4, [.int (zI 0), .int (zI 32), .int (zI 0), .int (zI 0), .int (zI 0), .int (zI p0), .int (zI p1)]))] := hD
  refine lv_aload_n hx hb dX4_init_30 rfl (lv_at hl 0 rfl) ?_
  refine z_iconst hF dX4_init_31 ?_
  refine z_put (k := 5) hF hK hP hD hS 0 rfl rfl i_wsX40 (by decide) tyX4 tyX4_ok nmX4 rfl kf_27 rfl rfl (Nat.le_of_ble_eq_true rfl) dX4_init_32 (fun H locs hP hD hS => ?_)
  have hP : va_P G.1 vwCl [(h0, .inr (4, [.int (zI 0), .int (zI 32), .int (zI 0), .int (zI 0), .int (zI 0), .int (zI 0), .int (zI p1)]))] H := hP
  have hD : va_D A [(h0, .inr (4, [.int (zI 0), .int (zI 32), .int (zI 0), .int (zI 0), .int (zI 0), .int (zI 0), .int (zI p1)]))] := hD
  refine lv_aload_n hx hb dX4_init_35 rfl (lv_at hl 0 rfl) ?_
  refine z_iconst hF dX4_init_36 ?_
  refine z_put (k := 6) hF hK hP hD hS 0 rfl rfl i_wsX40 (by decide) tyX4 tyX4_ok nmX4 rfl kf_30 rfl rfl (Nat.le_of_ble_eq_true rfl) dX4_init_37 (fun H locs hP hD hS => ?_)
  have hP : va_P G.1 vwCl [(h0, .inr (4, [.int (zI 0), .int (zI 32), .int (zI 0), .int (zI 0), .int (zI 0), .int (zI 0), .int (zI 0)]))] H := hP
  have hD : va_D A [(h0, .inr (4, [.int (zI 0), .int (zI 32), .int (zI 0), .int (zI 0), .int (zI 0), .int (zI 0), .int (zI 0)]))] := hD
  rw [hQ]
  exact z_vret hF hr hlocks () (trivial) hP hK hD hS dX4_init_40
set_option maxHeartbeats 4000000 in
set_option maxRecDepth 100000 in
theorem c_X4_open (l : Launch) (G : wG) (h0 : Nat) (op va le ja cr p0 p1 : Int) (va1 le1 ja1 : Int)  (hva1 : 0 ≤ va1 ∧ va1 < 65536) (h01_ja1 : ja1 = 0 ∨ ja1 = 1) (z9 : Nat) : Met l yX4_open wsX4_open (rmL 1 0 0) (wPc G [(h0, .inr (4, [.int (zI op), .int (zI va), .int (zI le), .int (zI ja), .int (zI cr), .int (zI p0), .int (zI p1)]))] z9 [.ref h0, .int (zI va1), .int (zI le1), .int (zI ja1)]) (wQv G (fun (u : Unit) => True) (fun (u : Unit) => [(h0, .inr (4, [.int (zI 1), .int (zI va1), .int (zI le1), .int (zI ja1), .int (zI 0), .int (zI 0), .int (zI 0)]))]) (va_A [(h0, .inr (4, [.int (zI op), .int (zI va), .int (zI le), .int (zI ja), .int (zI cr), .int (zI p0), .int (zI p1)]))] z9)) 0 0 (va_A [(h0, .inr (4, [.int (zI op), .int (zI va), .int (zI le), .int (zI ja), .int (zI cr), .int (zI p0), .int (zI p1)]))] z9) := by
  refine z_ofW (Qc := fun A => wQv G (fun (u : Unit) => True) (fun (u : Unit) => [(h0, .inr (4, [.int (zI 1), .int (zI va1), .int (zI le1), .int (zI ja1), .int (zI 0), .int (zI 0), .int (zI 0)]))]) A) l G [(h0, .inr (4, [.int (zI op), .int (zI va), .int (zI le), .int (zI ja), .int (zI cr), .int (zI p0), .int (zI p1)]))] [.ref h0, .int (zI va1), .int (zI le1), .int (zI ja1)] (by decide) rfl rfl ?_ z9
  intro p e s m args below meth c A ls H locs hF hr hlocks hinit hP hK hD hA hS hBd hl
  have hF : wFx p m c cX4_open 4 s args wsX4_open RX4 := hF
  have hl : lv_has ls 4 [(0, .ref h0), (1, .int (zI va1)), (2, .int (zI le1)), (3, .int (zI ja1))] := hl
  have hx := hF.1
  have hb := hF.2.1
  obtain ⟨Q0, hQ⟩ : ∃ q, q = (MQ below (wQv G (fun (u : Unit) => True) (fun (u : Unit) => [(h0, .inr (4, [.int (zI 1), .int (zI va1), .int (zI le1), .int (zI ja1), .int (zI 0), .int (zI 0), .int (zI 0)]))]) A) args s 0 0 A) := ⟨_, rfl⟩
  rw [← hQ]
  have i_wsX40 : ∀ w ∈ wsX40, w ∈ wsX4_open := (fun _ h => (List.mem_cons_of_mem _ (List.mem_append_right _ h)))
  have kf_13 : (Cond.fieldLink RX4 13 "Gammonry$Match" "variant" "C").before args s = true := hF.2.2.2.2 _ (List.mem_cons_of_mem _ (List.mem_append_left _ (List.mem_of_getElem? (i := 1) rfl)))
  have kf_17 : (Cond.fieldLink RX4 17 "Gammonry$Match" "length" "I").before args s = true := hF.2.2.2.2 _ (List.mem_cons_of_mem _ (List.mem_append_left _ (List.mem_of_getElem? (i := 2) rfl)))
  have kf_21 : (Cond.fieldLink RX4 21 "Gammonry$Match" "hasJacoby" "Z").before args s = true := hF.2.2.2.2 _ (List.mem_cons_of_mem _ (List.mem_append_left _ (List.mem_of_getElem? (i := 3) rfl)))
  have kf_24 : (Cond.fieldLink RX4 24 "Gammonry$Match" "crawford" "I").before args s = true := hF.2.2.2.2 _ (List.mem_cons_of_mem _ (List.mem_append_left _ (List.mem_of_getElem? (i := 4) rfl)))
  have kf_27 : (Cond.fieldLink RX4 27 "Gammonry$Match" "pointsOf0" "I").before args s = true := hF.2.2.2.2 _ (List.mem_cons_of_mem _ (List.mem_append_left _ (List.mem_of_getElem? (i := 5) rfl)))
  have kf_30 : (Cond.fieldLink RX4 30 "Gammonry$Match" "pointsOf1" "I").before args s = true := hF.2.2.2.2 _ (List.mem_cons_of_mem _ (List.mem_append_left _ (List.mem_of_getElem? (i := 6) rfl)))
  have kf_7 : (Cond.fieldLink RX4 7 "Gammonry$Match" "isOpen" "Z").before args s = true := hF.2.2.2.2 _ (List.mem_cons_of_mem _ (List.mem_append_left _ (List.mem_of_getElem? (i := 0) rfl)))
  refine lv_aload_n hx hb dX4_open_0 rfl (lv_at hl 0 rfl) ?_
  refine z_iconst hF dX4_open_1 ?_
  refine z_put (k := 0) hF hK hP hD hS 0 rfl rfl i_wsX40 (by decide) tyX4 tyX4_ok nmX4 rfl kf_7 rfl rfl (Nat.le_of_ble_eq_true rfl) dX4_open_2 (fun H locs hP hD hS => ?_)
  have hP : va_P G.1 vwCl [(h0, .inr (4, [.int (zI 1), .int (zI va), .int (zI le), .int (zI ja), .int (zI cr), .int (zI p0), .int (zI p1)]))] H := hP
  have hD : va_D A [(h0, .inr (4, [.int (zI 1), .int (zI va), .int (zI le), .int (zI ja), .int (zI cr), .int (zI p0), .int (zI p1)]))] := hD
  refine lv_aload_n hx hb dX4_open_5 rfl (lv_at hl 0 rfl) ?_
  refine lv_iload_n hx hb dX4_open_6 rfl (lv_at hl 1 rfl) ?_
  refine z_put (k := 1) hF hK hP hD hS 0 rfl rfl i_wsX40 (by decide) tyX4 tyX4_ok nmX4 rfl kf_13 (zc_n hva1) (zc_f hva1) (Nat.le_of_ble_eq_true rfl) dX4_open_7 (fun H locs hP hD hS => ?_)
  have hP : va_P G.1 vwCl [(h0, .inr (4, [.int (zI 1), .int (zI va1), .int (zI le), .int (zI ja), .int (zI cr), .int (zI p0), .int (zI p1)]))] H := hP
  have hD : va_D A [(h0, .inr (4, [.int (zI 1), .int (zI va1), .int (zI le), .int (zI ja), .int (zI cr), .int (zI p0), .int (zI p1)]))] := hD
  refine lv_aload_n hx hb dX4_open_10 rfl (lv_at hl 0 rfl) ?_
  refine lv_iload_n hx hb dX4_open_11 rfl (lv_at hl 2 rfl) ?_
  refine z_put (k := 2) hF hK hP hD hS 0 rfl rfl i_wsX40 (by decide) tyX4 tyX4_ok nmX4 rfl kf_17 rfl rfl (Nat.le_of_ble_eq_true rfl) dX4_open_12 (fun H locs hP hD hS => ?_)
  have hP : va_P G.1 vwCl [(h0, .inr (4, [.int (zI 1), .int (zI va1), .int (zI le1), .int (zI ja), .int (zI cr), .int (zI p0), .int (zI p1)]))] H := hP
  have hD : va_D A [(h0, .inr (4, [.int (zI 1), .int (zI va1), .int (zI le1), .int (zI ja), .int (zI cr), .int (zI p0), .int (zI p1)]))] := hD
  refine lv_aload_n hx hb dX4_open_15 rfl (lv_at hl 0 rfl) ?_
  refine lv_iload_n hx hb dX4_open_16 rfl (lv_at hl 3 rfl) ?_
  refine z_put (k := 3) hF hK hP hD hS 0 rfl rfl i_wsX40 (by decide) tyX4 tyX4_ok nmX4 rfl kf_21 (zb_n h01_ja1) (zb_f h01_ja1) (Nat.le_of_ble_eq_true rfl) dX4_open_17 (fun H locs hP hD hS => ?_)
  have hP : va_P G.1 vwCl [(h0, .inr (4, [.int (zI 1), .int (zI va1), .int (zI le1), .int (zI ja1), .int (zI cr), .int (zI p0), .int (zI p1)]))] H := hP
  have hD : va_D A [(h0, .inr (4, [.int (zI 1), .int (zI va1), .int (zI le1), .int (zI ja1), .int (zI cr), .int (zI p0), .int (zI p1)]))] := hD
  refine lv_aload_n hx hb dX4_open_20 rfl (lv_at hl 0 rfl) ?_
  refine z_iconst hF dX4_open_21 ?_
  refine z_put (k := 4) hF hK hP hD hS 0 rfl rfl i_wsX40 (by decide) tyX4 tyX4_ok nmX4 rfl kf_24 rfl rfl (Nat.le_of_ble_eq_true rfl) dX4_open_22 (fun H locs hP hD hS => ?_)
  have hP : va_P G.1 vwCl [(h0, .inr (4, [.int (zI 1), .int (zI va1), .int (zI le1), .int (zI ja1), .int (zI 0), .int (zI p0), .int (zI p1)]))] H := hP
  have hD : va_D A [(h0, .inr (4, [.int (zI 1), .int (zI va1), .int (zI le1), .int (zI ja1), .int (zI 0), .int (zI p0), .int (zI p1)]))] := hD
  refine lv_aload_n hx hb dX4_open_25 rfl (lv_at hl 0 rfl) ?_
  refine z_iconst hF dX4_open_26 ?_
  refine z_put (k := 5) hF hK hP hD hS 0 rfl rfl i_wsX40 (by decide) tyX4 tyX4_ok nmX4 rfl kf_27 rfl rfl (Nat.le_of_ble_eq_true rfl) dX4_open_27 (fun H locs hP hD hS => ?_)
  have hP : va_P G.1 vwCl [(h0, .inr (4, [.int (zI 1), .int (zI va1), .int (zI le1), .int (zI ja1), .int (zI 0), .int (zI 0), .int (zI p1)]))] H := hP
  have hD : va_D A [(h0, .inr (4, [.int (zI 1), .int (zI va1), .int (zI le1), .int (zI ja1), .int (zI 0), .int (zI 0), .int (zI p1)]))] := hD
  refine lv_aload_n hx hb dX4_open_30 rfl (lv_at hl 0 rfl) ?_
  refine z_iconst hF dX4_open_31 ?_
  refine z_put (k := 6) hF hK hP hD hS 0 rfl rfl i_wsX40 (by decide) tyX4 tyX4_ok nmX4 rfl kf_30 rfl rfl (Nat.le_of_ble_eq_true rfl) dX4_open_32 (fun H locs hP hD hS => ?_)
  have hP : va_P G.1 vwCl [(h0, .inr (4, [.int (zI 1), .int (zI va1), .int (zI le1), .int (zI ja1), .int (zI 0), .int (zI 0), .int (zI 0)]))] H := hP
  have hD : va_D A [(h0, .inr (4, [.int (zI 1), .int (zI va1), .int (zI le1), .int (zI ja1), .int (zI 0), .int (zI 0), .int (zI 0)]))] := hD
  rw [hQ]
  exact z_vret hF hr hlocks () (trivial) hP hK hD hS dX4_open_35
set_option maxHeartbeats 4000000 in
set_option maxRecDepth 100000 in
theorem c_X4_isOpen (l : Launch) (G : wG) (h0 : Nat) (op va le ja cr p0 p1 : Int)  (h01_op : op = 0 ∨ op = 1) (z9 : Nat) : Met l yX4_isOpen wsX4_isOpen (rmL 1 0 0) (wPc G [(h0, .inr (4, [.int (zI op), .int (zI va), .int (zI le), .int (zI ja), .int (zI cr), .int (zI p0), .int (zI p1)]))] z9 [.ref h0]) (wQi G (fun (r : Int32) (u : Unit) => r = zI op) (fun (u : Unit) => [(h0, .inr (4, [.int (zI op), .int (zI va), .int (zI le), .int (zI ja), .int (zI cr), .int (zI p0), .int (zI p1)]))]) (va_A [(h0, .inr (4, [.int (zI op), .int (zI va), .int (zI le), .int (zI ja), .int (zI cr), .int (zI p0), .int (zI p1)]))] z9)) 0 0 (va_A [(h0, .inr (4, [.int (zI op), .int (zI va), .int (zI le), .int (zI ja), .int (zI cr), .int (zI p0), .int (zI p1)]))] z9) := by
  refine z_ofW (Qc := fun A => wQi G (fun (r : Int32) (u : Unit) => r = zI op) (fun (u : Unit) => [(h0, .inr (4, [.int (zI op), .int (zI va), .int (zI le), .int (zI ja), .int (zI cr), .int (zI p0), .int (zI p1)]))]) A) l G [(h0, .inr (4, [.int (zI op), .int (zI va), .int (zI le), .int (zI ja), .int (zI cr), .int (zI p0), .int (zI p1)]))] [.ref h0] (by decide) rfl rfl ?_ z9
  intro p e s m args below meth c A ls H locs hF hr hlocks hinit hP hK hD hA hS hBd hl
  have hF : wFx p m c cX4_isOpen 1 s args wsX4_isOpen RX4 := hF
  have hl : lv_has ls 1 [(0, .ref h0)] := hl
  have hx := hF.1
  have hb := hF.2.1
  obtain ⟨Q0, hQ⟩ : ∃ q, q = (MQ below (wQi G (fun (r : Int32) (u : Unit) => r = zI op) (fun (u : Unit) => [(h0, .inr (4, [.int (zI op), .int (zI va), .int (zI le), .int (zI ja), .int (zI cr), .int (zI p0), .int (zI p1)]))]) A) args s 0 0 A) := ⟨_, rfl⟩
  rw [← hQ]
  have i_wsX40 : ∀ w ∈ wsX40, w ∈ wsX4_isOpen := (fun _ h => (List.mem_cons_of_mem _ (List.mem_append_right _ h)))
  have kf_7 : (Cond.fieldLink RX4 7 "Gammonry$Match" "isOpen" "Z").before args s = true := hF.2.2.2.2 _ (List.mem_cons_of_mem _ (List.mem_append_left _ (List.mem_of_getElem? (i := 0) rfl)))
  refine lv_aload_n hx hb dX4_isOpen_0 rfl (lv_at hl 0 rfl) ?_
  refine z_get (k := 0) hF hK hP 0 rfl rfl i_wsX40 (by decide) kf_7 rfl dX4_isOpen_1 ?_
  rw [hQ]
  exact z_zret hF hr hlocks (zb_n h01_op) () (rfl) hP hK hD hS dX4_isOpen_4
set_option maxHeartbeats 4000000 in
set_option maxRecDepth 100000 in
theorem c_X4_variant (l : Launch) (G : wG) (h0 : Nat) (op va le ja cr p0 p1 : Int)  (hva : 0 ≤ va ∧ va < 65536) (z9 : Nat) : Met l yX4_variant wsX4_variant (rmL 1 0 0) (wPc G [(h0, .inr (4, [.int (zI op), .int (zI va), .int (zI le), .int (zI ja), .int (zI cr), .int (zI p0), .int (zI p1)]))] z9 [.ref h0]) (wQi G (fun (r : Int32) (u : Unit) => r = zI va) (fun (u : Unit) => [(h0, .inr (4, [.int (zI op), .int (zI va), .int (zI le), .int (zI ja), .int (zI cr), .int (zI p0), .int (zI p1)]))]) (va_A [(h0, .inr (4, [.int (zI op), .int (zI va), .int (zI le), .int (zI ja), .int (zI cr), .int (zI p0), .int (zI p1)]))] z9)) 0 0 (va_A [(h0, .inr (4, [.int (zI op), .int (zI va), .int (zI le), .int (zI ja), .int (zI cr), .int (zI p0), .int (zI p1)]))] z9) := by
  refine z_ofW (Qc := fun A => wQi G (fun (r : Int32) (u : Unit) => r = zI va) (fun (u : Unit) => [(h0, .inr (4, [.int (zI op), .int (zI va), .int (zI le), .int (zI ja), .int (zI cr), .int (zI p0), .int (zI p1)]))]) A) l G [(h0, .inr (4, [.int (zI op), .int (zI va), .int (zI le), .int (zI ja), .int (zI cr), .int (zI p0), .int (zI p1)]))] [.ref h0] (by decide) rfl rfl ?_ z9
  intro p e s m args below meth c A ls H locs hF hr hlocks hinit hP hK hD hA hS hBd hl
  have hF : wFx p m c cX4_variant 1 s args wsX4_variant RX4 := hF
  have hl : lv_has ls 1 [(0, .ref h0)] := hl
  have hx := hF.1
  have hb := hF.2.1
  obtain ⟨Q0, hQ⟩ : ∃ q, q = (MQ below (wQi G (fun (r : Int32) (u : Unit) => r = zI va) (fun (u : Unit) => [(h0, .inr (4, [.int (zI op), .int (zI va), .int (zI le), .int (zI ja), .int (zI cr), .int (zI p0), .int (zI p1)]))]) A) args s 0 0 A) := ⟨_, rfl⟩
  rw [← hQ]
  have i_wsX40 : ∀ w ∈ wsX40, w ∈ wsX4_variant := (fun _ h => (List.mem_cons_of_mem _ (List.mem_append_right _ h)))
  have kf_13 : (Cond.fieldLink RX4 13 "Gammonry$Match" "variant" "C").before args s = true := hF.2.2.2.2 _ (List.mem_cons_of_mem _ (List.mem_append_left _ (List.mem_of_getElem? (i := 0) rfl)))
  refine lv_aload_n hx hb dX4_variant_0 rfl (lv_at hl 0 rfl) ?_
  refine z_get (k := 1) hF hK hP 0 rfl rfl i_wsX40 (by decide) kf_13 rfl dX4_variant_1 ?_
  rw [hQ]
  exact z_zret hF hr hlocks (zc_n hva) () (rfl) hP hK hD hS dX4_variant_4
set_option maxHeartbeats 4000000 in
set_option maxRecDepth 100000 in
theorem c_X4_isForMoney (l : Launch) (G : wG) (h0 : Nat) (op va le ja cr p0 p1 : Int)  (hr_op : -2147483648 ≤ op ∧ op < 2147483648) (hr_le : -2147483648 ≤ le ∧ le < 2147483648) (z9 : Nat) : Met l yX4_isForMoney wsX4_isForMoney (rmL 1 0 0) (wPc G [(h0, .inr (4, [.int (zI op), .int (zI va), .int (zI le), .int (zI ja), .int (zI cr), .int (zI p0), .int (zI p1)]))] z9 [.ref h0]) (wQi G (fun (r : Int32) (u : Unit) => ((op ≠ 0 ∧ le = 0) ∧ r = zI 1) ∨ ((¬ (op ≠ 0 ∧ le = 0)) ∧ r = zI 0)) (fun (u : Unit) => [(h0, .inr (4, [.int (zI op), .int (zI va), .int (zI le), .int (zI ja), .int (zI cr), .int (zI p0), .int (zI p1)]))]) (va_A [(h0, .inr (4, [.int (zI op), .int (zI va), .int (zI le), .int (zI ja), .int (zI cr), .int (zI p0), .int (zI p1)]))] z9)) 0 0 (va_A [(h0, .inr (4, [.int (zI op), .int (zI va), .int (zI le), .int (zI ja), .int (zI cr), .int (zI p0), .int (zI p1)]))] z9) := by
  refine z_ofW (Qc := fun A => wQi G (fun (r : Int32) (u : Unit) => ((op ≠ 0 ∧ le = 0) ∧ r = zI 1) ∨ ((¬ (op ≠ 0 ∧ le = 0)) ∧ r = zI 0)) (fun (u : Unit) => [(h0, .inr (4, [.int (zI op), .int (zI va), .int (zI le), .int (zI ja), .int (zI cr), .int (zI p0), .int (zI p1)]))]) A) l G [(h0, .inr (4, [.int (zI op), .int (zI va), .int (zI le), .int (zI ja), .int (zI cr), .int (zI p0), .int (zI p1)]))] [.ref h0] (by decide) rfl rfl ?_ z9
  intro p e s m args below meth c A ls H locs hF hr hlocks hinit hP hK hD hA hS hBd hl
  have hF : wFx p m c cX4_isForMoney 1 s args wsX4_isForMoney RX4 := hF
  have hl : lv_has ls 1 [(0, .ref h0)] := hl
  have hx := hF.1
  have hb := hF.2.1
  obtain ⟨Q0, hQ⟩ : ∃ q, q = (MQ below (wQi G (fun (r : Int32) (u : Unit) => ((op ≠ 0 ∧ le = 0) ∧ r = zI 1) ∨ ((¬ (op ≠ 0 ∧ le = 0)) ∧ r = zI 0)) (fun (u : Unit) => [(h0, .inr (4, [.int (zI op), .int (zI va), .int (zI le), .int (zI ja), .int (zI cr), .int (zI p0), .int (zI p1)]))]) A) args s 0 0 A) := ⟨_, rfl⟩
  rw [← hQ]
  have i_wsX40 : ∀ w ∈ wsX40, w ∈ wsX4_isForMoney := (fun _ h => (List.mem_cons_of_mem _ (List.mem_append_right _ h)))
  have kf_17 : (Cond.fieldLink RX4 17 "Gammonry$Match" "length" "I").before args s = true := hF.2.2.2.2 _ (List.mem_cons_of_mem _ (List.mem_append_left _ (List.mem_of_getElem? (i := 1) rfl)))
  have kf_7 : (Cond.fieldLink RX4 7 "Gammonry$Match" "isOpen" "Z").before args s = true := hF.2.2.2.2 _ (List.mem_cons_of_mem _ (List.mem_append_left _ (List.mem_of_getElem? (i := 0) rfl)))
  refine lv_aload_n hx hb dX4_isForMoney_0 rfl (lv_at hl 0 rfl) ?_
  refine z_get (k := 0) hF hK hP 0 rfl rfl i_wsX40 (by decide) kf_7 rfl dX4_isForMoney_1 ?_
  refine z_if_eq (tgt := 18) hF dX4_isForMoney_4 (by decide) (by omega) (fun c_1 => ?_) (fun c_1 => ?_)
  · have hc_4 := c_1
    refine z_iconst hF dX4_isForMoney_18 ?_
    rw [hQ]
    exact z_zret hF hr hlocks rfl () (by first | exact Or.inl ⟨by omega, rfl⟩ | exact Or.inr ⟨by omega, rfl⟩) hP hK hD hS dX4_isForMoney_19
  · have hc_4 := c_1
    refine lv_aload_n hx hb dX4_isForMoney_7 rfl (lv_at hl 0 rfl) ?_
    refine z_get (k := 2) hF hK hP 0 rfl rfl i_wsX40 (by decide) kf_17 rfl dX4_isForMoney_8 ?_
    refine z_if_ne (tgt := 18) hF dX4_isForMoney_11 (by decide) (by omega) (fun c_2 => ?_) (fun c_2 => ?_)
    · have hc_11 := c_2
      refine z_iconst hF dX4_isForMoney_18 ?_
      rw [hQ]
      exact z_zret hF hr hlocks rfl () (by first | exact Or.inl ⟨by omega, rfl⟩ | exact Or.inr ⟨by omega, rfl⟩) hP hK hD hS dX4_isForMoney_19
    · have hc_11 := c_2
      refine z_iconst hF dX4_isForMoney_14 ?_
      refine z_goto (tgt := 19) hF dX4_isForMoney_15 (by decide) ?_
      rw [hQ]
      exact z_zret hF hr hlocks rfl () (by first | exact Or.inl ⟨by omega, rfl⟩ | exact Or.inr ⟨by omega, rfl⟩) hP hK hD hS dX4_isForMoney_19
set_option maxHeartbeats 4000000 in
set_option maxRecDepth 100000 in
theorem c_X4_isJacoby (l : Launch) (G : wG) (h0 : Nat) (op va le ja cr p0 p1 : Int)  (hr_op : -2147483648 ≤ op ∧ op < 2147483648) (hr_le : -2147483648 ≤ le ∧ le < 2147483648) (hr_ja : -2147483648 ≤ ja ∧ ja < 2147483648) (z9 : Nat) : Met l yX4_isJacoby wsX4_isJacoby (rmL 2 0 0) (wPc G [(h0, .inr (4, [.int (zI op), .int (zI va), .int (zI le), .int (zI ja), .int (zI cr), .int (zI p0), .int (zI p1)]))] z9 [.ref h0]) (wQi G (fun (r : Int32) (u : Unit) => ((op ≠ 0 ∧ le = 0 ∧ ja ≠ 0) ∧ r = zI 1) ∨ ((¬ (op ≠ 0 ∧ le = 0 ∧ ja ≠ 0)) ∧ r = zI 0)) (fun (u : Unit) => [(h0, .inr (4, [.int (zI op), .int (zI va), .int (zI le), .int (zI ja), .int (zI cr), .int (zI p0), .int (zI p1)]))]) (va_A [(h0, .inr (4, [.int (zI op), .int (zI va), .int (zI le), .int (zI ja), .int (zI cr), .int (zI p0), .int (zI p1)]))] z9)) 0 0 (va_A [(h0, .inr (4, [.int (zI op), .int (zI va), .int (zI le), .int (zI ja), .int (zI cr), .int (zI p0), .int (zI p1)]))] z9) := by
  refine z_ofW (Qc := fun A => wQi G (fun (r : Int32) (u : Unit) => ((op ≠ 0 ∧ le = 0 ∧ ja ≠ 0) ∧ r = zI 1) ∨ ((¬ (op ≠ 0 ∧ le = 0 ∧ ja ≠ 0)) ∧ r = zI 0)) (fun (u : Unit) => [(h0, .inr (4, [.int (zI op), .int (zI va), .int (zI le), .int (zI ja), .int (zI cr), .int (zI p0), .int (zI p1)]))]) A) l G [(h0, .inr (4, [.int (zI op), .int (zI va), .int (zI le), .int (zI ja), .int (zI cr), .int (zI p0), .int (zI p1)]))] [.ref h0] (by decide) rfl rfl ?_ z9
  intro p e s m args below meth c A ls H locs hF hr hlocks hinit hP hK hD hA hS hBd hl
  have hF : wFx p m c cX4_isJacoby 1 s args wsX4_isJacoby RX4 := hF
  have hl : lv_has ls 1 [(0, .ref h0)] := hl
  have hx := hF.1
  have hb := hF.2.1
  obtain ⟨Q0, hQ⟩ : ∃ q, q = (MQ below (wQi G (fun (r : Int32) (u : Unit) => ((op ≠ 0 ∧ le = 0 ∧ ja ≠ 0) ∧ r = zI 1) ∨ ((¬ (op ≠ 0 ∧ le = 0 ∧ ja ≠ 0)) ∧ r = zI 0)) (fun (u : Unit) => [(h0, .inr (4, [.int (zI op), .int (zI va), .int (zI le), .int (zI ja), .int (zI cr), .int (zI p0), .int (zI p1)]))]) A) args s 0 0 A) := ⟨_, rfl⟩
  rw [← hQ]
  have i_wsX40 : ∀ w ∈ wsX40, w ∈ wsX4_isJacoby := (fun _ h => (List.mem_cons_of_mem _ (List.mem_append_right _ h)))
  have kf_21 : (Cond.fieldLink RX4 21 "Gammonry$Match" "hasJacoby" "Z").before args s = true := hF.2.2.2.2 _ (List.mem_cons_of_mem _ (List.mem_append_left _ (List.mem_of_getElem? (i := 0) rfl)))
  refine lv_aload_n hx hb dX4_isJacoby_0 rfl (lv_at hl 0 rfl) ?_
  refine cj_i (va_runV (As := []) (rest := []) hF (c_X4_isForMoney l G h0 op va le ja cr p0 p1  (by omega) (by omega) H.size) (cwV 0 hF.2.2.2.2 gX4_isJacoby_X4_isForMoney rfl rfl rfl (by decide +kernel) ⟨Nat.le_of_ble_eq_true rfl, Nat.le_of_ble_eq_true rfl⟩) (z_preV hK hP hD hS hA hBd [0] rfl rfl rfl rfl []) rfl rfl hl.1 rfl (lv_room (Nat.le_of_ble_eq_true rfl)) dX4_isJacoby_1 ⟨Nat.le_of_ble_eq_true rfl, Nat.le_of_ble_eq_true rfl⟩) hP hD hS hA [0] rfl (fun _ => Nat.le_of_ble_eq_true rfl) (fun r_2 u_1 H locs hw hP hD hS => ?_)
  have hP : va_P G.1 vwCl [(h0, .inr (4, [.int (zI op), .int (zI va), .int (zI le), .int (zI ja), .int (zI cr), .int (zI p0), .int (zI p1)]))] H := hP
  have hD : va_D A [(h0, .inr (4, [.int (zI op), .int (zI va), .int (zI le), .int (zI ja), .int (zI cr), .int (zI p0), .int (zI p1)]))] := hD
  rcases hw with ⟨h_3, rfl⟩ | ⟨h_4, rfl⟩
  · skip
    refine z_if_eq (tgt := 18) hF dX4_isJacoby_4 (by decide) (by decide) (fun c_5 => ?_) (fun c_5 => ?_)
    · exact absurd c_5 (by decide)
    · have hc_4 := c_5
      refine lv_aload_n hx hb dX4_isJacoby_7 rfl (lv_at hl 0 rfl) ?_
      refine z_get (k := 3) hF hK hP 0 rfl rfl i_wsX40 (by decide) kf_21 rfl dX4_isJacoby_8 ?_
      refine z_if_eq (tgt := 18) hF dX4_isJacoby_11 (by decide) (by omega) (fun c_6 => ?_) (fun c_6 => ?_)
      · have hc_11 := c_6
        refine z_iconst hF dX4_isJacoby_18 ?_
        rw [hQ]
        exact z_zret hF hr hlocks rfl () (by first | exact Or.inl ⟨by omega, rfl⟩ | exact Or.inr ⟨by omega, rfl⟩) hP hK hD hS dX4_isJacoby_19
      · have hc_11 := c_6
        refine z_iconst hF dX4_isJacoby_14 ?_
        refine z_goto (tgt := 19) hF dX4_isJacoby_15 (by decide) ?_
        rw [hQ]
        exact z_zret hF hr hlocks rfl () (by first | exact Or.inl ⟨by omega, rfl⟩ | exact Or.inr ⟨by omega, rfl⟩) hP hK hD hS dX4_isJacoby_19
  · skip
    refine z_if_eq (tgt := 18) hF dX4_isJacoby_4 (by decide) (by decide) (fun c_7 => ?_) (fun c_7 => ?_)
    · have hc_4 := c_7
      refine z_iconst hF dX4_isJacoby_18 ?_
      rw [hQ]
      exact z_zret hF hr hlocks rfl () (by first | exact Or.inl ⟨by omega, rfl⟩ | exact Or.inr ⟨by omega, rfl⟩) hP hK hD hS dX4_isJacoby_19
    · exact absurd c_7 (by decide)
set_option maxHeartbeats 4000000 in
set_option maxRecDepth 100000 in
theorem c_X4_isCrawford (l : Launch) (G : wG) (h0 : Nat) (op va le ja cr p0 p1 : Int)  (hr_cr : -2147483648 ≤ cr ∧ cr < 2147483648) (z9 : Nat) : Met l yX4_isCrawford wsX4_isCrawford (rmL 1 0 0) (wPc G [(h0, .inr (4, [.int (zI op), .int (zI va), .int (zI le), .int (zI ja), .int (zI cr), .int (zI p0), .int (zI p1)]))] z9 [.ref h0]) (wQi G (fun (r : Int32) (u : Unit) => (cr = 1 ∧ r = zI 1) ∨ (¬ (cr = 1) ∧ r = zI 0)) (fun (u : Unit) => [(h0, .inr (4, [.int (zI op), .int (zI va), .int (zI le), .int (zI ja), .int (zI cr), .int (zI p0), .int (zI p1)]))]) (va_A [(h0, .inr (4, [.int (zI op), .int (zI va), .int (zI le), .int (zI ja), .int (zI cr), .int (zI p0), .int (zI p1)]))] z9)) 0 0 (va_A [(h0, .inr (4, [.int (zI op), .int (zI va), .int (zI le), .int (zI ja), .int (zI cr), .int (zI p0), .int (zI p1)]))] z9) := by
  refine z_ofW (Qc := fun A => wQi G (fun (r : Int32) (u : Unit) => (cr = 1 ∧ r = zI 1) ∨ (¬ (cr = 1) ∧ r = zI 0)) (fun (u : Unit) => [(h0, .inr (4, [.int (zI op), .int (zI va), .int (zI le), .int (zI ja), .int (zI cr), .int (zI p0), .int (zI p1)]))]) A) l G [(h0, .inr (4, [.int (zI op), .int (zI va), .int (zI le), .int (zI ja), .int (zI cr), .int (zI p0), .int (zI p1)]))] [.ref h0] (by decide) rfl rfl ?_ z9
  intro p e s m args below meth c A ls H locs hF hr hlocks hinit hP hK hD hA hS hBd hl
  have hF : wFx p m c cX4_isCrawford 1 s args wsX4_isCrawford RX4 := hF
  have hl : lv_has ls 1 [(0, .ref h0)] := hl
  have hx := hF.1
  have hb := hF.2.1
  obtain ⟨Q0, hQ⟩ : ∃ q, q = (MQ below (wQi G (fun (r : Int32) (u : Unit) => (cr = 1 ∧ r = zI 1) ∨ (¬ (cr = 1) ∧ r = zI 0)) (fun (u : Unit) => [(h0, .inr (4, [.int (zI op), .int (zI va), .int (zI le), .int (zI ja), .int (zI cr), .int (zI p0), .int (zI p1)]))]) A) args s 0 0 A) := ⟨_, rfl⟩
  rw [← hQ]
  have i_wsX40 : ∀ w ∈ wsX40, w ∈ wsX4_isCrawford := (fun _ h => (List.mem_cons_of_mem _ (List.mem_append_right _ h)))
  have kf_24 : (Cond.fieldLink RX4 24 "Gammonry$Match" "crawford" "I").before args s = true := hF.2.2.2.2 _ (List.mem_cons_of_mem _ (List.mem_append_left _ (List.mem_of_getElem? (i := 0) rfl)))
  refine lv_aload_n hx hb dX4_isCrawford_0 rfl (lv_at hl 0 rfl) ?_
  refine z_get (k := 4) hF hK hP 0 rfl rfl i_wsX40 (by decide) kf_24 rfl dX4_isCrawford_1 ?_
  refine z_iconst hF dX4_isCrawford_4 ?_
  refine z_icmp_ne (tgt := 12) hF dX4_isCrawford_5 (by decide) (by omega) (by decide) (fun c_1 => ?_) (fun c_1 => ?_)
  · have hc_5 := c_1
    refine z_iconst hF dX4_isCrawford_12 ?_
    rw [hQ]
    exact z_zret hF hr hlocks rfl () (by first | exact Or.inl ⟨by omega, rfl⟩ | exact Or.inr ⟨by omega, rfl⟩) hP hK hD hS dX4_isCrawford_13
  · have hc_5 := c_1
    refine z_iconst hF dX4_isCrawford_8 ?_
    refine z_goto (tgt := 13) hF dX4_isCrawford_9 (by decide) ?_
    rw [hQ]
    exact z_zret hF hr hlocks rfl () (by first | exact Or.inl ⟨by omega, rfl⟩ | exact Or.inr ⟨by omega, rfl⟩) hP hK hD hS dX4_isCrawford_13
set_option maxHeartbeats 4000000 in
set_option maxRecDepth 100000 in
theorem c_X4_isDecided (l : Launch) (G : wG) (h0 : Nat) (op va le ja cr p0 p1 : Int)  (hr_le : -2147483648 ≤ le ∧ le < 2147483648) (hr_p0 : -2147483648 ≤ p0 ∧ p0 < 2147483648) (hr_p1 : -2147483648 ≤ p1 ∧ p1 < 2147483648) (z9 : Nat) : Met l yX4_isDecided wsX4_isDecided (rmL 2 0 0) (wPc G [(h0, .inr (4, [.int (zI op), .int (zI va), .int (zI le), .int (zI ja), .int (zI cr), .int (zI p0), .int (zI p1)]))] z9 [.ref h0]) (wQi G (fun (r : Int32) (u : Unit) => ((0 < le ∧ (le ≤ p0 ∨ le ≤ p1)) ∧ r = zI 1) ∨ ((¬ (0 < le ∧ (le ≤ p0 ∨ le ≤ p1))) ∧ r = zI 0)) (fun (u : Unit) => [(h0, .inr (4, [.int (zI op), .int (zI va), .int (zI le), .int (zI ja), .int (zI cr), .int (zI p0), .int (zI p1)]))]) (va_A [(h0, .inr (4, [.int (zI op), .int (zI va), .int (zI le), .int (zI ja), .int (zI cr), .int (zI p0), .int (zI p1)]))] z9)) 0 0 (va_A [(h0, .inr (4, [.int (zI op), .int (zI va), .int (zI le), .int (zI ja), .int (zI cr), .int (zI p0), .int (zI p1)]))] z9) := by
  refine z_ofW (Qc := fun A => wQi G (fun (r : Int32) (u : Unit) => ((0 < le ∧ (le ≤ p0 ∨ le ≤ p1)) ∧ r = zI 1) ∨ ((¬ (0 < le ∧ (le ≤ p0 ∨ le ≤ p1))) ∧ r = zI 0)) (fun (u : Unit) => [(h0, .inr (4, [.int (zI op), .int (zI va), .int (zI le), .int (zI ja), .int (zI cr), .int (zI p0), .int (zI p1)]))]) A) l G [(h0, .inr (4, [.int (zI op), .int (zI va), .int (zI le), .int (zI ja), .int (zI cr), .int (zI p0), .int (zI p1)]))] [.ref h0] (by decide) rfl rfl ?_ z9
  intro p e s m args below meth c A ls H locs hF hr hlocks hinit hP hK hD hA hS hBd hl
  have hF : wFx p m c cX4_isDecided 1 s args wsX4_isDecided RX4 := hF
  have hl : lv_has ls 1 [(0, .ref h0)] := hl
  have hx := hF.1
  have hb := hF.2.1
  obtain ⟨Q0, hQ⟩ : ∃ q, q = (MQ below (wQi G (fun (r : Int32) (u : Unit) => ((0 < le ∧ (le ≤ p0 ∨ le ≤ p1)) ∧ r = zI 1) ∨ ((¬ (0 < le ∧ (le ≤ p0 ∨ le ≤ p1))) ∧ r = zI 0)) (fun (u : Unit) => [(h0, .inr (4, [.int (zI op), .int (zI va), .int (zI le), .int (zI ja), .int (zI cr), .int (zI p0), .int (zI p1)]))]) A) args s 0 0 A) := ⟨_, rfl⟩
  rw [← hQ]
  have i_wsX40 : ∀ w ∈ wsX40, w ∈ wsX4_isDecided := (fun _ h => (List.mem_cons_of_mem _ (List.mem_append_right _ h)))
  have kf_17 : (Cond.fieldLink RX4 17 "Gammonry$Match" "length" "I").before args s = true := hF.2.2.2.2 _ (List.mem_cons_of_mem _ (List.mem_append_left _ (List.mem_of_getElem? (i := 0) rfl)))
  have kf_27 : (Cond.fieldLink RX4 27 "Gammonry$Match" "pointsOf0" "I").before args s = true := hF.2.2.2.2 _ (List.mem_cons_of_mem _ (List.mem_append_left _ (List.mem_of_getElem? (i := 1) rfl)))
  have kf_30 : (Cond.fieldLink RX4 30 "Gammonry$Match" "pointsOf1" "I").before args s = true := hF.2.2.2.2 _ (List.mem_cons_of_mem _ (List.mem_append_left _ (List.mem_of_getElem? (i := 2) rfl)))
  have km_37 : (Cond.methodLink RX4 37 Lib.Math.max.name).before args s = true := hF.2.2.2.2 _ (List.mem_cons_of_mem _ (List.mem_append_left _ (List.mem_of_getElem? (i := 3) rfl)))
  have kq_max : (Cond.code Lib.Math.max.name Lib.Math.max.code 2 (some .int)).before args s = true := hF.2.2.2.2 _ (List.mem_cons_of_mem _ (List.mem_append_left _ (List.mem_of_getElem? (i := 6) rfl)))
  have ks_max : (Cond.static Lib.Math.max.name).before args s = true := hF.2.2.2.2 _ (List.mem_cons_of_mem _ (List.mem_append_left _ (List.mem_of_getElem? (i := 4) rfl)))
  have kt_Math : (Cond.initialized "java/lang/Math").before args s = true := hF.2.2.2.2 _ (List.mem_cons_of_mem _ (List.mem_append_left _ (List.mem_of_getElem? (i := 5) rfl)))
  refine lv_aload_n hx hb dX4_isDecided_0 rfl (lv_at hl 0 rfl) ?_
  refine z_get (k := 2) hF hK hP 0 rfl rfl i_wsX40 (by decide) kf_17 rfl dX4_isDecided_1 ?_
  refine z_if_le (tgt := 29) hF dX4_isDecided_4 (by decide) (by omega) (fun c_1 => ?_) (fun c_1 => ?_)
  · have hc_4 := c_1
    refine z_iconst hF dX4_isDecided_29 ?_
    rw [hQ]
    exact z_zret hF hr hlocks rfl () (by first | exact Or.inl ⟨by omega, rfl⟩ | exact Or.inr ⟨by omega, rfl⟩) hP hK hD hS dX4_isDecided_30
  · have hc_4 := c_1
    refine lv_aload_n hx hb dX4_isDecided_7 rfl (lv_at hl 0 rfl) ?_
    refine z_get (k := 5) hF hK hP 0 rfl rfl i_wsX40 (by decide) kf_27 rfl dX4_isDecided_8 ?_
    refine lv_aload_n hx hb dX4_isDecided_11 rfl (lv_at hl 0 rfl) ?_
    refine z_get (k := 6) hF hK hP 0 rfl rfl i_wsX40 (by decide) kf_30 rfl dX4_isDecided_12 ?_
    refine z_max hF km_37 ks_max kt_Math kq_max hl.1 (Nat.le_of_ble_eq_true rfl) (Nat.le_of_ble_eq_true rfl) (Nat.le_of_ble_eq_true rfl) (Nat.le_of_ble_eq_true rfl) (by omega) (by omega) dX4_isDecided_15 ?_
    refine lv_aload_n hx hb dX4_isDecided_18 rfl (lv_at hl 0 rfl) ?_
    refine z_get (k := 2) hF hK hP 0 rfl rfl i_wsX40 (by decide) kf_17 rfl dX4_isDecided_19 ?_
    have qm : (p0 < p1 ∧ zmax p0 p1 = p1) ∨ (p1 ≤ p0 ∧ zmax p0 p1 = p0) := by unfold zmax; split <;> omega
    refine z_icmp_lt (tgt := 29) hF dX4_isDecided_22 (by decide) (by omega) (by omega) (fun c_2 => ?_) (fun c_2 => ?_)
    · have hc_22 := c_2
      refine z_iconst hF dX4_isDecided_29 ?_
      rw [hQ]
      exact z_zret hF hr hlocks rfl () (by first | exact Or.inl ⟨by omega, rfl⟩ | exact Or.inr ⟨by omega, rfl⟩) hP hK hD hS dX4_isDecided_30
    · have hc_22 := c_2
      refine z_iconst hF dX4_isDecided_25 ?_
      refine z_goto (tgt := 30) hF dX4_isDecided_26 (by decide) ?_
      rw [hQ]
      exact z_zret hF hr hlocks rfl () (by first | exact Or.inl ⟨by omega, rfl⟩ | exact Or.inr ⟨by omega, rfl⟩) hP hK hD hS dX4_isDecided_30
set_option maxHeartbeats 4000000 in
set_option maxRecDepth 100000 in
theorem c_X4_pointsOf (l : Launch) (G : wG) (h0 : Nat) (op va le ja cr p0 p1 : Int) (sd : Int)  (hsd : 0 ≤ sd ∧ sd ≤ 1) (z9 : Nat) : Met l yX4_pointsOf wsX4_pointsOf (rmL 1 0 0) (wPc G [(h0, .inr (4, [.int (zI op), .int (zI va), .int (zI le), .int (zI ja), .int (zI cr), .int (zI p0), .int (zI p1)]))] z9 [.ref h0, .int (zI sd)]) (wQi G (fun (r : Int32) (u : Unit) => r = zI (if sd = 0 then p0 else p1)) (fun (u : Unit) => [(h0, .inr (4, [.int (zI op), .int (zI va), .int (zI le), .int (zI ja), .int (zI cr), .int (zI p0), .int (zI p1)]))]) (va_A [(h0, .inr (4, [.int (zI op), .int (zI va), .int (zI le), .int (zI ja), .int (zI cr), .int (zI p0), .int (zI p1)]))] z9)) 0 0 (va_A [(h0, .inr (4, [.int (zI op), .int (zI va), .int (zI le), .int (zI ja), .int (zI cr), .int (zI p0), .int (zI p1)]))] z9) := by
  refine z_ofW (Qc := fun A => wQi G (fun (r : Int32) (u : Unit) => r = zI (if sd = 0 then p0 else p1)) (fun (u : Unit) => [(h0, .inr (4, [.int (zI op), .int (zI va), .int (zI le), .int (zI ja), .int (zI cr), .int (zI p0), .int (zI p1)]))]) A) l G [(h0, .inr (4, [.int (zI op), .int (zI va), .int (zI le), .int (zI ja), .int (zI cr), .int (zI p0), .int (zI p1)]))] [.ref h0, .int (zI sd)] (by decide) rfl rfl ?_ z9
  intro p e s m args below meth c A ls H locs hF hr hlocks hinit hP hK hD hA hS hBd hl
  have hF : wFx p m c cX4_pointsOf 2 s args wsX4_pointsOf RX4 := hF
  have hl : lv_has ls 2 [(0, .ref h0), (1, .int (zI sd))] := hl
  have hx := hF.1
  have hb := hF.2.1
  obtain ⟨Q0, hQ⟩ : ∃ q, q = (MQ below (wQi G (fun (r : Int32) (u : Unit) => r = zI (if sd = 0 then p0 else p1)) (fun (u : Unit) => [(h0, .inr (4, [.int (zI op), .int (zI va), .int (zI le), .int (zI ja), .int (zI cr), .int (zI p0), .int (zI p1)]))]) A) args s 0 0 A) := ⟨_, rfl⟩
  rw [← hQ]
  have i_wsX40 : ∀ w ∈ wsX40, w ∈ wsX4_pointsOf := (fun _ h => (List.mem_cons_of_mem _ (List.mem_append_right _ h)))
  have kf_27 : (Cond.fieldLink RX4 27 "Gammonry$Match" "pointsOf0" "I").before args s = true := hF.2.2.2.2 _ (List.mem_cons_of_mem _ (List.mem_append_left _ (List.mem_of_getElem? (i := 0) rfl)))
  have kf_30 : (Cond.fieldLink RX4 30 "Gammonry$Match" "pointsOf1" "I").before args s = true := hF.2.2.2.2 _ (List.mem_cons_of_mem _ (List.mem_append_left _ (List.mem_of_getElem? (i := 1) rfl)))
  refine lv_iload_n hx hb dX4_pointsOf_0 rfl (lv_at hl 1 rfl) ?_
  refine z_if_ne (tgt := 11) hF dX4_pointsOf_1 (by decide) (by omega) (fun c_1 => ?_) (fun c_1 => ?_)
  · have hc_1 := c_1
    refine lv_aload_n hx hb dX4_pointsOf_11 rfl (lv_at hl 0 rfl) ?_
    refine z_get (k := 6) hF hK hP 0 rfl rfl i_wsX40 (by decide) kf_30 rfl dX4_pointsOf_12 ?_
    rw [hQ]
    exact z_iret hF hr hlocks () (by first | rw [if_pos (by omega)] | rw [if_neg (by omega)]) hP hK hD hS dX4_pointsOf_15
  · have hc_1 := c_1
    refine lv_aload_n hx hb dX4_pointsOf_4 rfl (lv_at hl 0 rfl) ?_
    refine z_get (k := 5) hF hK hP 0 rfl rfl i_wsX40 (by decide) kf_27 rfl dX4_pointsOf_5 ?_
    refine z_goto (tgt := 15) hF dX4_pointsOf_8 (by decide) ?_
    rw [hQ]
    exact z_iret hF hr hlocks () (by first | rw [if_pos (by omega)] | rw [if_neg (by omega)]) hP hK hD hS dX4_pointsOf_15
set_option maxHeartbeats 4000000 in
set_option maxRecDepth 100000 in
theorem c_X4_addPoints (l : Launch) (G : wG) (h0 : Nat) (op va le ja cr p0 p1 : Int) (wi pt : Int)  (hwi : 0 ≤ wi ∧ wi ≤ 1) (hr_cr : -2147483648 ≤ cr ∧ cr < 2147483648) (hr_le : -2147483648 ≤ le ∧ le < 2147483648) (hr_p0 : -2147483648 ≤ p0 + pt ∧ p0 + pt < 2147483648) (hr_p1 : -2147483648 ≤ p1 + pt ∧ p1 + pt < 2147483648) (hle9 : -2147483647 ≤ le) (z9 : Nat) : Met l yX4_addPoints wsX4_addPoints (rmL 2 0 0) (wPc G [(h0, .inr (4, [.int (zI op), .int (zI va), .int (zI le), .int (zI ja), .int (zI cr), .int (zI p0), .int (zI p1)]))] z9 [.ref h0, .int (zI wi), .int (zI pt)]) (wQv G (fun (u : Unit) => True) (fun (u : Unit) => [(h0, .inr (4, [.int (zI op), .int (zI va), .int (zI le), .int (zI ja), .int (zI (crN cr le (if wi = 0 then p0 + pt else p1 + pt))), .int (zI (if wi = 0 then p0 + pt else p0)), .int (zI (if wi = 0 then p1 else p1 + pt))]))]) (va_A [(h0, .inr (4, [.int (zI op), .int (zI va), .int (zI le), .int (zI ja), .int (zI cr), .int (zI p0), .int (zI p1)]))] z9)) 0 0 (va_A [(h0, .inr (4, [.int (zI op), .int (zI va), .int (zI le), .int (zI ja), .int (zI cr), .int (zI p0), .int (zI p1)]))] z9) := by
  refine z_ofW (Qc := fun A => wQv G (fun (u : Unit) => True) (fun (u : Unit) => [(h0, .inr (4, [.int (zI op), .int (zI va), .int (zI le), .int (zI ja), .int (zI (crN cr le (if wi = 0 then p0 + pt else p1 + pt))), .int (zI (if wi = 0 then p0 + pt else p0)), .int (zI (if wi = 0 then p1 else p1 + pt))]))]) A) l G [(h0, .inr (4, [.int (zI op), .int (zI va), .int (zI le), .int (zI ja), .int (zI cr), .int (zI p0), .int (zI p1)]))] [.ref h0, .int (zI wi), .int (zI pt)] (by decide) rfl rfl ?_ z9
  intro p e s m args below meth c A ls H locs hF hr hlocks hinit hP hK hD hA hS hBd hl
  have hF : wFx p m c cX4_addPoints 3 s args wsX4_addPoints RX4 := hF
  have hl : lv_has ls 3 [(0, .ref h0), (1, .int (zI wi)), (2, .int (zI pt))] := hl
  have hx := hF.1
  have hb := hF.2.1
  obtain ⟨Q0, hQ⟩ : ∃ q, q = (MQ below (wQv G (fun (u : Unit) => True) (fun (u : Unit) => [(h0, .inr (4, [.int (zI op), .int (zI va), .int (zI le), .int (zI ja), .int (zI (crN cr le (if wi = 0 then p0 + pt else p1 + pt))), .int (zI (if wi = 0 then p0 + pt else p0)), .int (zI (if wi = 0 then p1 else p1 + pt))]))]) A) args s 0 0 A) := ⟨_, rfl⟩
  rw [← hQ]
  have i_wsX40 : ∀ w ∈ wsX40, w ∈ wsX4_addPoints := (fun _ h => (List.mem_cons_of_mem _ (List.mem_append_right _ h)))
  have kf_17 : (Cond.fieldLink RX4 17 "Gammonry$Match" "length" "I").before args s = true := hF.2.2.2.2 _ (List.mem_cons_of_mem _ (List.mem_append_left _ (List.mem_of_getElem? (i := 3) rfl)))
  have kf_24 : (Cond.fieldLink RX4 24 "Gammonry$Match" "crawford" "I").before args s = true := hF.2.2.2.2 _ (List.mem_cons_of_mem _ (List.mem_append_left _ (List.mem_of_getElem? (i := 2) rfl)))
  have kf_27 : (Cond.fieldLink RX4 27 "Gammonry$Match" "pointsOf0" "I").before args s = true := hF.2.2.2.2 _ (List.mem_cons_of_mem _ (List.mem_append_left _ (List.mem_of_getElem? (i := 0) rfl)))
  have kf_30 : (Cond.fieldLink RX4 30 "Gammonry$Match" "pointsOf1" "I").before args s = true := hF.2.2.2.2 _ (List.mem_cons_of_mem _ (List.mem_append_left _ (List.mem_of_getElem? (i := 1) rfl)))
  refine lv_iload_n hx hb dX4_addPoints_0 rfl (lv_at hl 1 rfl) ?_
  refine z_if_ne (tgt := 17) hF dX4_addPoints_1 (by decide) (by omega) (fun c_1 => ?_) (fun c_1 => ?_)
  · have hc_1 := c_1
    refine lv_aload_n hx hb dX4_addPoints_17 rfl (lv_at hl 0 rfl) ?_
    refine lv_dup hx hb dX4_addPoints_18 rfl ?_
    refine z_get (k := 6) hF hK hP 0 rfl rfl i_wsX40 (by decide) kf_30 rfl dX4_addPoints_19 ?_
    refine lv_iload_n hx hb dX4_addPoints_22 rfl (lv_at hl 2 rfl) ?_
    refine z_iadd hF dX4_addPoints_23 ?_
    refine z_put (k := 6) hF hK hP hD hS 0 rfl rfl i_wsX40 (by decide) tyX4 tyX4_ok nmX4 rfl kf_30 rfl rfl (Nat.le_of_ble_eq_true rfl) dX4_addPoints_24 (fun H locs hP hD hS => ?_)
    have hP : va_P G.1 vwCl [(h0, .inr (4, [.int (zI op), .int (zI va), .int (zI le), .int (zI ja), .int (zI cr), .int (zI p0), .int (zI (p1 + pt))]))] H := hP
    have hD : va_D A [(h0, .inr (4, [.int (zI op), .int (zI va), .int (zI le), .int (zI ja), .int (zI cr), .int (zI p0), .int (zI (p1 + pt))]))] := hD
    refine lv_aload_n hx hb dX4_addPoints_27 rfl (lv_at hl 0 rfl) ?_
    refine z_get (k := 4) hF hK hP 0 rfl rfl i_wsX40 (by decide) kf_24 rfl dX4_addPoints_28 ?_
    refine z_iconst hF dX4_addPoints_31 ?_
    refine z_icmp_ne (tgt := 43) hF dX4_addPoints_32 (by decide) (by omega) (by decide) (fun c_2 => ?_) (fun c_2 => ?_)
    · have hc_32 := c_2
      refine lv_aload_n hx hb dX4_addPoints_43 rfl (lv_at hl 0 rfl) ?_
      refine z_get (k := 4) hF hK hP 0 rfl rfl i_wsX40 (by decide) kf_24 rfl dX4_addPoints_44 ?_
      refine z_if_ne (tgt := 76) hF dX4_addPoints_47 (by decide) (by omega) (fun c_3 => ?_) (fun c_3 => ?_)
      · have hc_47 := c_3
        have hP : va_P G.1 vwCl [(h0, .inr (4, [.int (zI op), .int (zI va), .int (zI le), .int (zI ja), .int (zI (crN cr le (if wi = 0 then p0 + pt else p1 + pt))), .int (zI (if wi = 0 then p0 + pt else p0)), .int (zI (if wi = 0 then p1 else p1 + pt))]))] H := by rw [show ((if wi = 0 then p0 + pt else p0) : Int) = p0 from (if_neg (by omega)), show ((if wi = 0 then p1 else p1 + pt) : Int) = p1 + pt from (if_neg (by omega)), show ((crN cr le (if wi = 0 then p0 + pt else p1 + pt)) : Int) = cr from (by unfold crN; rw [if_neg (show ¬ wi = 0 by omega)]; first | rfl | (split <;> first | omega | rfl | (split <;> first | omega | rfl)))]; exact hP
        have hD : va_D A [(h0, .inr (4, [.int (zI op), .int (zI va), .int (zI le), .int (zI ja), .int (zI (crN cr le (if wi = 0 then p0 + pt else p1 + pt))), .int (zI (if wi = 0 then p0 + pt else p0)), .int (zI (if wi = 0 then p1 else p1 + pt))]))] := by rw [show ((if wi = 0 then p0 + pt else p0) : Int) = p0 from (if_neg (by omega)), show ((if wi = 0 then p1 else p1 + pt) : Int) = p1 + pt from (if_neg (by omega)), show ((crN cr le (if wi = 0 then p0 + pt else p1 + pt)) : Int) = cr from (by unfold crN; rw [if_neg (show ¬ wi = 0 by omega)]; first | rfl | (split <;> first | omega | rfl | (split <;> first | omega | rfl)))]; exact hD
        rw [hQ]
        exact z_vret hF hr hlocks () (trivial) hP hK hD hS dX4_addPoints_76
      · have hc_47 := c_3
        refine lv_aload_n hx hb dX4_addPoints_50 rfl (lv_at hl 0 rfl) ?_
        refine z_get (k := 2) hF hK hP 0 rfl rfl i_wsX40 (by decide) kf_17 rfl dX4_addPoints_51 ?_
        refine z_if_le (tgt := 76) hF dX4_addPoints_54 (by decide) (by omega) (fun c_4 => ?_) (fun c_4 => ?_)
        · have hc_54 := c_4
          have hP : va_P G.1 vwCl [(h0, .inr (4, [.int (zI op), .int (zI va), .int (zI le), .int (zI ja), .int (zI (crN cr le (if wi = 0 then p0 + pt else p1 + pt))), .int (zI (if wi = 0 then p0 + pt else p0)), .int (zI (if wi = 0 then p1 else p1 + pt))]))] H := by rw [show ((if wi = 0 then p0 + pt else p0) : Int) = p0 from (if_neg (by omega)), show ((if wi = 0 then p1 else p1 + pt) : Int) = p1 + pt from (if_neg (by omega)), show ((crN cr le (if wi = 0 then p0 + pt else p1 + pt)) : Int) = cr from (by unfold crN; rw [if_neg (show ¬ wi = 0 by omega)]; first | rfl | (split <;> first | omega | rfl | (split <;> first | omega | rfl)))]; exact hP
          have hD : va_D A [(h0, .inr (4, [.int (zI op), .int (zI va), .int (zI le), .int (zI ja), .int (zI (crN cr le (if wi = 0 then p0 + pt else p1 + pt))), .int (zI (if wi = 0 then p0 + pt else p0)), .int (zI (if wi = 0 then p1 else p1 + pt))]))] := by rw [show ((if wi = 0 then p0 + pt else p0) : Int) = p0 from (if_neg (by omega)), show ((if wi = 0 then p1 else p1 + pt) : Int) = p1 + pt from (if_neg (by omega)), show ((crN cr le (if wi = 0 then p0 + pt else p1 + pt)) : Int) = cr from (by unfold crN; rw [if_neg (show ¬ wi = 0 by omega)]; first | rfl | (split <;> first | omega | rfl | (split <;> first | omega | rfl)))]; exact hD
          rw [hQ]
          exact z_vret hF hr hlocks () (trivial) hP hK hD hS dX4_addPoints_76
        · have hc_54 := c_4
          refine lv_aload_n hx hb dX4_addPoints_57 rfl (lv_at hl 0 rfl) ?_
          refine lv_iload_n hx hb dX4_addPoints_58 rfl (lv_at hl 1 rfl) ?_
          refine cj_i (va_runV (As := [.int (zI wi)]) (rest := []) hF (c_X4_pointsOf l G h0 op va le ja cr p0 (p1 + pt) wi  (by omega) H.size) (cwV 1 hF.2.2.2.2 gX4_addPoints_X4_pointsOf rfl rfl rfl (by decide +kernel) ⟨Nat.le_of_ble_eq_true rfl, Nat.le_of_ble_eq_true rfl⟩) (z_preV hK hP hD hS hA hBd [0] rfl rfl rfl rfl [.int (zI wi)]) rfl rfl hl.1 rfl (lv_room (Nat.le_of_ble_eq_true rfl)) dX4_addPoints_59 ⟨Nat.le_of_ble_eq_true rfl, Nat.le_of_ble_eq_true rfl⟩) hP hD hS hA [0] rfl (fun _ => Nat.le_of_ble_eq_true rfl) (fun r_6 u_5 H locs hw hP hD hS => ?_)
          have hP : va_P G.1 vwCl [(h0, .inr (4, [.int (zI op), .int (zI va), .int (zI le), .int (zI ja), .int (zI cr), .int (zI p0), .int (zI (p1 + pt))]))] H := hP
          have hD : va_D A [(h0, .inr (4, [.int (zI op), .int (zI va), .int (zI le), .int (zI ja), .int (zI cr), .int (zI p0), .int (zI (p1 + pt))]))] := hD
          obtain rfl := hw
          refine z_tz (b := (p1 + pt)) (if_neg (by omega)) ?_
          refine lv_aload_n hx hb dX4_addPoints_62 rfl (lv_at hl 0 rfl) ?_
          refine z_get (k := 2) hF hK hP 0 rfl rfl i_wsX40 (by decide) kf_17 rfl dX4_addPoints_63 ?_
          refine z_iconst hF dX4_addPoints_66 ?_
          refine z_isub hF dX4_addPoints_67 ?_
          refine z_icmp_ne (tgt := 76) hF dX4_addPoints_68 (by decide) (by omega) (by omega) (fun c_7 => ?_) (fun c_7 => ?_)
          · have hc_68 := c_7
            have hP : va_P G.1 vwCl [(h0, .inr (4, [.int (zI op), .int (zI va), .int (zI le), .int (zI ja), .int (zI (crN cr le (if wi = 0 then p0 + pt else p1 + pt))), .int (zI (if wi = 0 then p0 + pt else p0)), .int (zI (if wi = 0 then p1 else p1 + pt))]))] H := by rw [show ((if wi = 0 then p0 + pt else p0) : Int) = p0 from (if_neg (by omega)), show ((if wi = 0 then p1 else p1 + pt) : Int) = (p1 + pt) from (if_neg (by omega)), show ((crN cr le (if wi = 0 then p0 + pt else p1 + pt)) : Int) = cr from (by unfold crN; rw [if_neg (show ¬ wi = 0 by omega)]; first | rfl | (split <;> first | omega | rfl | (split <;> first | omega | rfl)))]; exact hP
            have hD : va_D A [(h0, .inr (4, [.int (zI op), .int (zI va), .int (zI le), .int (zI ja), .int (zI (crN cr le (if wi = 0 then p0 + pt else p1 + pt))), .int (zI (if wi = 0 then p0 + pt else p0)), .int (zI (if wi = 0 then p1 else p1 + pt))]))] := by rw [show ((if wi = 0 then p0 + pt else p0) : Int) = p0 from (if_neg (by omega)), show ((if wi = 0 then p1 else p1 + pt) : Int) = (p1 + pt) from (if_neg (by omega)), show ((crN cr le (if wi = 0 then p0 + pt else p1 + pt)) : Int) = cr from (by unfold crN; rw [if_neg (show ¬ wi = 0 by omega)]; first | rfl | (split <;> first | omega | rfl | (split <;> first | omega | rfl)))]; exact hD
            rw [hQ]
            exact z_vret hF hr hlocks () (trivial) hP hK hD hS dX4_addPoints_76
          · have hc_68 := c_7
            refine lv_aload_n hx hb dX4_addPoints_71 rfl (lv_at hl 0 rfl) ?_
            refine z_iconst hF dX4_addPoints_72 ?_
            refine z_put (k := 4) hF hK hP hD hS 0 rfl rfl i_wsX40 (by decide) tyX4 tyX4_ok nmX4 rfl kf_24 rfl rfl (Nat.le_of_ble_eq_true rfl) dX4_addPoints_73 (fun H locs hP hD hS => ?_)
            have hP : va_P G.1 vwCl [(h0, .inr (4, [.int (zI op), .int (zI va), .int (zI le), .int (zI ja), .int (zI 1), .int (zI p0), .int (zI (p1 + pt))]))] H := hP
            have hD : va_D A [(h0, .inr (4, [.int (zI op), .int (zI va), .int (zI le), .int (zI ja), .int (zI 1), .int (zI p0), .int (zI (p1 + pt))]))] := hD
            have hP : va_P G.1 vwCl [(h0, .inr (4, [.int (zI op), .int (zI va), .int (zI le), .int (zI ja), .int (zI (crN cr le (if wi = 0 then p0 + pt else p1 + pt))), .int (zI (if wi = 0 then p0 + pt else p0)), .int (zI (if wi = 0 then p1 else p1 + pt))]))] H := by rw [show ((if wi = 0 then p0 + pt else p0) : Int) = p0 from (if_neg (by omega)), show ((if wi = 0 then p1 else p1 + pt) : Int) = (p1 + pt) from (if_neg (by omega)), show ((crN cr le (if wi = 0 then p0 + pt else p1 + pt)) : Int) = 1 from (by unfold crN; rw [if_neg (show ¬ wi = 0 by omega)]; first | rfl | (split <;> first | omega | rfl | (split <;> first | omega | rfl)))]; exact hP
            have hD : va_D A [(h0, .inr (4, [.int (zI op), .int (zI va), .int (zI le), .int (zI ja), .int (zI (crN cr le (if wi = 0 then p0 + pt else p1 + pt))), .int (zI (if wi = 0 then p0 + pt else p0)), .int (zI (if wi = 0 then p1 else p1 + pt))]))] := by rw [show ((if wi = 0 then p0 + pt else p0) : Int) = p0 from (if_neg (by omega)), show ((if wi = 0 then p1 else p1 + pt) : Int) = (p1 + pt) from (if_neg (by omega)), show ((crN cr le (if wi = 0 then p0 + pt else p1 + pt)) : Int) = 1 from (by unfold crN; rw [if_neg (show ¬ wi = 0 by omega)]; first | rfl | (split <;> first | omega | rfl | (split <;> first | omega | rfl)))]; exact hD
            rw [hQ]
            exact z_vret hF hr hlocks () (trivial) hP hK hD hS dX4_addPoints_76
    · have hc_32 := c_2
      refine lv_aload_n hx hb dX4_addPoints_35 rfl (lv_at hl 0 rfl) ?_
      refine z_iconst hF dX4_addPoints_36 ?_
      refine z_put (k := 4) hF hK hP hD hS 0 rfl rfl i_wsX40 (by decide) tyX4 tyX4_ok nmX4 rfl kf_24 rfl rfl (Nat.le_of_ble_eq_true rfl) dX4_addPoints_37 (fun H locs hP hD hS => ?_)
      have hP : va_P G.1 vwCl [(h0, .inr (4, [.int (zI op), .int (zI va), .int (zI le), .int (zI ja), .int (zI 2), .int (zI p0), .int (zI (p1 + pt))]))] H := hP
      have hD : va_D A [(h0, .inr (4, [.int (zI op), .int (zI va), .int (zI le), .int (zI ja), .int (zI 2), .int (zI p0), .int (zI (p1 + pt))]))] := hD
      refine z_goto (tgt := 76) hF dX4_addPoints_40 (by decide) ?_
      have hP : va_P G.1 vwCl [(h0, .inr (4, [.int (zI op), .int (zI va), .int (zI le), .int (zI ja), .int (zI (crN cr le (if wi = 0 then p0 + pt else p1 + pt))), .int (zI (if wi = 0 then p0 + pt else p0)), .int (zI (if wi = 0 then p1 else p1 + pt))]))] H := by rw [show ((if wi = 0 then p0 + pt else p0) : Int) = p0 from (if_neg (by omega)), show ((if wi = 0 then p1 else p1 + pt) : Int) = p1 + pt from (if_neg (by omega)), show ((crN cr le (if wi = 0 then p0 + pt else p1 + pt)) : Int) = 2 from (by unfold crN; rw [if_neg (show ¬ wi = 0 by omega)]; first | rfl | (split <;> first | omega | rfl | (split <;> first | omega | rfl)))]; exact hP
      have hD : va_D A [(h0, .inr (4, [.int (zI op), .int (zI va), .int (zI le), .int (zI ja), .int (zI (crN cr le (if wi = 0 then p0 + pt else p1 + pt))), .int (zI (if wi = 0 then p0 + pt else p0)), .int (zI (if wi = 0 then p1 else p1 + pt))]))] := by rw [show ((if wi = 0 then p0 + pt else p0) : Int) = p0 from (if_neg (by omega)), show ((if wi = 0 then p1 else p1 + pt) : Int) = p1 + pt from (if_neg (by omega)), show ((crN cr le (if wi = 0 then p0 + pt else p1 + pt)) : Int) = 2 from (by unfold crN; rw [if_neg (show ¬ wi = 0 by omega)]; first | rfl | (split <;> first | omega | rfl | (split <;> first | omega | rfl)))]; exact hD
      rw [hQ]
      exact z_vret hF hr hlocks () (trivial) hP hK hD hS dX4_addPoints_76
  · have hc_1 := c_1
    refine lv_aload_n hx hb dX4_addPoints_4 rfl (lv_at hl 0 rfl) ?_
    refine lv_dup hx hb dX4_addPoints_5 rfl ?_
    refine z_get (k := 5) hF hK hP 0 rfl rfl i_wsX40 (by decide) kf_27 rfl dX4_addPoints_6 ?_
    refine lv_iload_n hx hb dX4_addPoints_9 rfl (lv_at hl 2 rfl) ?_
    refine z_iadd hF dX4_addPoints_10 ?_
    refine z_put (k := 5) hF hK hP hD hS 0 rfl rfl i_wsX40 (by decide) tyX4 tyX4_ok nmX4 rfl kf_27 rfl rfl (Nat.le_of_ble_eq_true rfl) dX4_addPoints_11 (fun H locs hP hD hS => ?_)
    have hP : va_P G.1 vwCl [(h0, .inr (4, [.int (zI op), .int (zI va), .int (zI le), .int (zI ja), .int (zI cr), .int (zI (p0 + pt)), .int (zI p1)]))] H := hP
    have hD : va_D A [(h0, .inr (4, [.int (zI op), .int (zI va), .int (zI le), .int (zI ja), .int (zI cr), .int (zI (p0 + pt)), .int (zI p1)]))] := hD
    refine z_goto (tgt := 27) hF dX4_addPoints_14 (by decide) ?_
    refine lv_aload_n hx hb dX4_addPoints_27 rfl (lv_at hl 0 rfl) ?_
    refine z_get (k := 4) hF hK hP 0 rfl rfl i_wsX40 (by decide) kf_24 rfl dX4_addPoints_28 ?_
    refine z_iconst hF dX4_addPoints_31 ?_
    refine z_icmp_ne (tgt := 43) hF dX4_addPoints_32 (by decide) (by omega) (by decide) (fun c_8 => ?_) (fun c_8 => ?_)
    · have hc_32 := c_8
      refine lv_aload_n hx hb dX4_addPoints_43 rfl (lv_at hl 0 rfl) ?_
      refine z_get (k := 4) hF hK hP 0 rfl rfl i_wsX40 (by decide) kf_24 rfl dX4_addPoints_44 ?_
      refine z_if_ne (tgt := 76) hF dX4_addPoints_47 (by decide) (by omega) (fun c_9 => ?_) (fun c_9 => ?_)
      · have hc_47 := c_9
        have hP : va_P G.1 vwCl [(h0, .inr (4, [.int (zI op), .int (zI va), .int (zI le), .int (zI ja), .int (zI (crN cr le (if wi = 0 then p0 + pt else p1 + pt))), .int (zI (if wi = 0 then p0 + pt else p0)), .int (zI (if wi = 0 then p1 else p1 + pt))]))] H := by rw [show ((if wi = 0 then p0 + pt else p0) : Int) = p0 + pt from (if_pos (by omega)), show ((if wi = 0 then p1 else p1 + pt) : Int) = p1 from (if_pos (by omega)), show ((crN cr le (if wi = 0 then p0 + pt else p1 + pt)) : Int) = cr from (by unfold crN; rw [if_pos (show wi = 0 by omega)]; first | rfl | (split <;> first | omega | rfl | (split <;> first | omega | rfl)))]; exact hP
        have hD : va_D A [(h0, .inr (4, [.int (zI op), .int (zI va), .int (zI le), .int (zI ja), .int (zI (crN cr le (if wi = 0 then p0 + pt else p1 + pt))), .int (zI (if wi = 0 then p0 + pt else p0)), .int (zI (if wi = 0 then p1 else p1 + pt))]))] := by rw [show ((if wi = 0 then p0 + pt else p0) : Int) = p0 + pt from (if_pos (by omega)), show ((if wi = 0 then p1 else p1 + pt) : Int) = p1 from (if_pos (by omega)), show ((crN cr le (if wi = 0 then p0 + pt else p1 + pt)) : Int) = cr from (by unfold crN; rw [if_pos (show wi = 0 by omega)]; first | rfl | (split <;> first | omega | rfl | (split <;> first | omega | rfl)))]; exact hD
        rw [hQ]
        exact z_vret hF hr hlocks () (trivial) hP hK hD hS dX4_addPoints_76
      · have hc_47 := c_9
        refine lv_aload_n hx hb dX4_addPoints_50 rfl (lv_at hl 0 rfl) ?_
        refine z_get (k := 2) hF hK hP 0 rfl rfl i_wsX40 (by decide) kf_17 rfl dX4_addPoints_51 ?_
        refine z_if_le (tgt := 76) hF dX4_addPoints_54 (by decide) (by omega) (fun c_10 => ?_) (fun c_10 => ?_)
        · have hc_54 := c_10
          have hP : va_P G.1 vwCl [(h0, .inr (4, [.int (zI op), .int (zI va), .int (zI le), .int (zI ja), .int (zI (crN cr le (if wi = 0 then p0 + pt else p1 + pt))), .int (zI (if wi = 0 then p0 + pt else p0)), .int (zI (if wi = 0 then p1 else p1 + pt))]))] H := by rw [show ((if wi = 0 then p0 + pt else p0) : Int) = p0 + pt from (if_pos (by omega)), show ((if wi = 0 then p1 else p1 + pt) : Int) = p1 from (if_pos (by omega)), show ((crN cr le (if wi = 0 then p0 + pt else p1 + pt)) : Int) = cr from (by unfold crN; rw [if_pos (show wi = 0 by omega)]; first | rfl | (split <;> first | omega | rfl | (split <;> first | omega | rfl)))]; exact hP
          have hD : va_D A [(h0, .inr (4, [.int (zI op), .int (zI va), .int (zI le), .int (zI ja), .int (zI (crN cr le (if wi = 0 then p0 + pt else p1 + pt))), .int (zI (if wi = 0 then p0 + pt else p0)), .int (zI (if wi = 0 then p1 else p1 + pt))]))] := by rw [show ((if wi = 0 then p0 + pt else p0) : Int) = p0 + pt from (if_pos (by omega)), show ((if wi = 0 then p1 else p1 + pt) : Int) = p1 from (if_pos (by omega)), show ((crN cr le (if wi = 0 then p0 + pt else p1 + pt)) : Int) = cr from (by unfold crN; rw [if_pos (show wi = 0 by omega)]; first | rfl | (split <;> first | omega | rfl | (split <;> first | omega | rfl)))]; exact hD
          rw [hQ]
          exact z_vret hF hr hlocks () (trivial) hP hK hD hS dX4_addPoints_76
        · have hc_54 := c_10
          refine lv_aload_n hx hb dX4_addPoints_57 rfl (lv_at hl 0 rfl) ?_
          refine lv_iload_n hx hb dX4_addPoints_58 rfl (lv_at hl 1 rfl) ?_
          refine cj_i (va_runV (As := [.int (zI wi)]) (rest := []) hF (c_X4_pointsOf l G h0 op va le ja cr (p0 + pt) p1 wi  (by omega) H.size) (cwV 1 hF.2.2.2.2 gX4_addPoints_X4_pointsOf rfl rfl rfl (by decide +kernel) ⟨Nat.le_of_ble_eq_true rfl, Nat.le_of_ble_eq_true rfl⟩) (z_preV hK hP hD hS hA hBd [0] rfl rfl rfl rfl [.int (zI wi)]) rfl rfl hl.1 rfl (lv_room (Nat.le_of_ble_eq_true rfl)) dX4_addPoints_59 ⟨Nat.le_of_ble_eq_true rfl, Nat.le_of_ble_eq_true rfl⟩) hP hD hS hA [0] rfl (fun _ => Nat.le_of_ble_eq_true rfl) (fun r_12 u_11 H locs hw hP hD hS => ?_)
          have hP : va_P G.1 vwCl [(h0, .inr (4, [.int (zI op), .int (zI va), .int (zI le), .int (zI ja), .int (zI cr), .int (zI (p0 + pt)), .int (zI p1)]))] H := hP
          have hD : va_D A [(h0, .inr (4, [.int (zI op), .int (zI va), .int (zI le), .int (zI ja), .int (zI cr), .int (zI (p0 + pt)), .int (zI p1)]))] := hD
          obtain rfl := hw
          refine z_tz (b := (p0 + pt)) (if_pos (by omega)) ?_
          refine lv_aload_n hx hb dX4_addPoints_62 rfl (lv_at hl 0 rfl) ?_
          refine z_get (k := 2) hF hK hP 0 rfl rfl i_wsX40 (by decide) kf_17 rfl dX4_addPoints_63 ?_
          refine z_iconst hF dX4_addPoints_66 ?_
          refine z_isub hF dX4_addPoints_67 ?_
          refine z_icmp_ne (tgt := 76) hF dX4_addPoints_68 (by decide) (by omega) (by omega) (fun c_13 => ?_) (fun c_13 => ?_)
          · have hc_68 := c_13
            have hP : va_P G.1 vwCl [(h0, .inr (4, [.int (zI op), .int (zI va), .int (zI le), .int (zI ja), .int (zI (crN cr le (if wi = 0 then p0 + pt else p1 + pt))), .int (zI (if wi = 0 then p0 + pt else p0)), .int (zI (if wi = 0 then p1 else p1 + pt))]))] H := by rw [show ((if wi = 0 then p0 + pt else p0) : Int) = (p0 + pt) from (if_pos (by omega)), show ((if wi = 0 then p1 else p1 + pt) : Int) = p1 from (if_pos (by omega)), show ((crN cr le (if wi = 0 then p0 + pt else p1 + pt)) : Int) = cr from (by unfold crN; rw [if_pos (show wi = 0 by omega)]; first | rfl | (split <;> first | omega | rfl | (split <;> first | omega | rfl)))]; exact hP
            have hD : va_D A [(h0, .inr (4, [.int (zI op), .int (zI va), .int (zI le), .int (zI ja), .int (zI (crN cr le (if wi = 0 then p0 + pt else p1 + pt))), .int (zI (if wi = 0 then p0 + pt else p0)), .int (zI (if wi = 0 then p1 else p1 + pt))]))] := by rw [show ((if wi = 0 then p0 + pt else p0) : Int) = (p0 + pt) from (if_pos (by omega)), show ((if wi = 0 then p1 else p1 + pt) : Int) = p1 from (if_pos (by omega)), show ((crN cr le (if wi = 0 then p0 + pt else p1 + pt)) : Int) = cr from (by unfold crN; rw [if_pos (show wi = 0 by omega)]; first | rfl | (split <;> first | omega | rfl | (split <;> first | omega | rfl)))]; exact hD
            rw [hQ]
            exact z_vret hF hr hlocks () (trivial) hP hK hD hS dX4_addPoints_76
          · have hc_68 := c_13
            refine lv_aload_n hx hb dX4_addPoints_71 rfl (lv_at hl 0 rfl) ?_
            refine z_iconst hF dX4_addPoints_72 ?_
            refine z_put (k := 4) hF hK hP hD hS 0 rfl rfl i_wsX40 (by decide) tyX4 tyX4_ok nmX4 rfl kf_24 rfl rfl (Nat.le_of_ble_eq_true rfl) dX4_addPoints_73 (fun H locs hP hD hS => ?_)
            have hP : va_P G.1 vwCl [(h0, .inr (4, [.int (zI op), .int (zI va), .int (zI le), .int (zI ja), .int (zI 1), .int (zI (p0 + pt)), .int (zI p1)]))] H := hP
            have hD : va_D A [(h0, .inr (4, [.int (zI op), .int (zI va), .int (zI le), .int (zI ja), .int (zI 1), .int (zI (p0 + pt)), .int (zI p1)]))] := hD
            have hP : va_P G.1 vwCl [(h0, .inr (4, [.int (zI op), .int (zI va), .int (zI le), .int (zI ja), .int (zI (crN cr le (if wi = 0 then p0 + pt else p1 + pt))), .int (zI (if wi = 0 then p0 + pt else p0)), .int (zI (if wi = 0 then p1 else p1 + pt))]))] H := by rw [show ((if wi = 0 then p0 + pt else p0) : Int) = (p0 + pt) from (if_pos (by omega)), show ((if wi = 0 then p1 else p1 + pt) : Int) = p1 from (if_pos (by omega)), show ((crN cr le (if wi = 0 then p0 + pt else p1 + pt)) : Int) = 1 from (by unfold crN; rw [if_pos (show wi = 0 by omega)]; first | rfl | (split <;> first | omega | rfl | (split <;> first | omega | rfl)))]; exact hP
            have hD : va_D A [(h0, .inr (4, [.int (zI op), .int (zI va), .int (zI le), .int (zI ja), .int (zI (crN cr le (if wi = 0 then p0 + pt else p1 + pt))), .int (zI (if wi = 0 then p0 + pt else p0)), .int (zI (if wi = 0 then p1 else p1 + pt))]))] := by rw [show ((if wi = 0 then p0 + pt else p0) : Int) = (p0 + pt) from (if_pos (by omega)), show ((if wi = 0 then p1 else p1 + pt) : Int) = p1 from (if_pos (by omega)), show ((crN cr le (if wi = 0 then p0 + pt else p1 + pt)) : Int) = 1 from (by unfold crN; rw [if_pos (show wi = 0 by omega)]; first | rfl | (split <;> first | omega | rfl | (split <;> first | omega | rfl)))]; exact hD
            rw [hQ]
            exact z_vret hF hr hlocks () (trivial) hP hK hD hS dX4_addPoints_76
    · have hc_32 := c_8
      refine lv_aload_n hx hb dX4_addPoints_35 rfl (lv_at hl 0 rfl) ?_
      refine z_iconst hF dX4_addPoints_36 ?_
      refine z_put (k := 4) hF hK hP hD hS 0 rfl rfl i_wsX40 (by decide) tyX4 tyX4_ok nmX4 rfl kf_24 rfl rfl (Nat.le_of_ble_eq_true rfl) dX4_addPoints_37 (fun H locs hP hD hS => ?_)
      have hP : va_P G.1 vwCl [(h0, .inr (4, [.int (zI op), .int (zI va), .int (zI le), .int (zI ja), .int (zI 2), .int (zI (p0 + pt)), .int (zI p1)]))] H := hP
      have hD : va_D A [(h0, .inr (4, [.int (zI op), .int (zI va), .int (zI le), .int (zI ja), .int (zI 2), .int (zI (p0 + pt)), .int (zI p1)]))] := hD
      refine z_goto (tgt := 76) hF dX4_addPoints_40 (by decide) ?_
      have hP : va_P G.1 vwCl [(h0, .inr (4, [.int (zI op), .int (zI va), .int (zI le), .int (zI ja), .int (zI (crN cr le (if wi = 0 then p0 + pt else p1 + pt))), .int (zI (if wi = 0 then p0 + pt else p0)), .int (zI (if wi = 0 then p1 else p1 + pt))]))] H := by rw [show ((if wi = 0 then p0 + pt else p0) : Int) = p0 + pt from (if_pos (by omega)), show ((if wi = 0 then p1 else p1 + pt) : Int) = p1 from (if_pos (by omega)), show ((crN cr le (if wi = 0 then p0 + pt else p1 + pt)) : Int) = 2 from (by unfold crN; rw [if_pos (show wi = 0 by omega)]; first | rfl | (split <;> first | omega | rfl | (split <;> first | omega | rfl)))]; exact hP
      have hD : va_D A [(h0, .inr (4, [.int (zI op), .int (zI va), .int (zI le), .int (zI ja), .int (zI (crN cr le (if wi = 0 then p0 + pt else p1 + pt))), .int (zI (if wi = 0 then p0 + pt else p0)), .int (zI (if wi = 0 then p1 else p1 + pt))]))] := by rw [show ((if wi = 0 then p0 + pt else p0) : Int) = p0 + pt from (if_pos (by omega)), show ((if wi = 0 then p1 else p1 + pt) : Int) = p1 from (if_pos (by omega)), show ((crN cr le (if wi = 0 then p0 + pt else p1 + pt)) : Int) = 2 from (by unfold crN; rw [if_pos (show wi = 0 by omega)]; first | rfl | (split <;> first | omega | rfl | (split <;> first | omega | rfl)))]; exact hD
      rw [hQ]
      exact z_vret hF hr hlocks () (trivial) hP hK hD hS dX4_addPoints_76
set_option maxHeartbeats 4000000 in
set_option maxRecDepth 100000 in
theorem c_X6_init (l : Launch) (G : wG) (h0 : Nat) (gr le gl ll us : Int)  (z9 : Nat) : Met l yX6_init wsX6_init (rmL 2 0 0) (wPc G [(h0, .inr (6, [.int (zI gr), .int (zI le), .int (zI gl), .int (zI ll), .int (zI us)]))] z9 [.ref h0]) (wQv G (fun (u : Unit) => True) (fun (u : Unit) => [(h0, .inr (6, [.int (zI 0), .int (zI 0), .int (zI 0), .int (zI 0), .int (zI 0)]))]) (va_A [(h0, .inr (6, [.int (zI gr), .int (zI le), .int (zI gl), .int (zI ll), .int (zI us)]))] z9)) 0 0 (va_A [(h0, .inr (6, [.int (zI gr), .int (zI le), .int (zI gl), .int (zI ll), .int (zI us)]))] z9) := by
  refine z_ofW (Qc := fun A => wQv G (fun (u : Unit) => True) (fun (u : Unit) => [(h0, .inr (6, [.int (zI 0), .int (zI 0), .int (zI 0), .int (zI 0), .int (zI 0)]))]) A) l G [(h0, .inr (6, [.int (zI gr), .int (zI le), .int (zI gl), .int (zI ll), .int (zI us)]))] [.ref h0] (by decide) rfl rfl ?_ z9
  intro p e s m args below meth c A ls H locs hF hr hlocks hinit hP hK hD hA hS hBd hl
  have hF : wFx p m c cX6_init 1 s args wsX6_init RX6 := hF
  have hl : lv_has ls 1 [(0, .ref h0)] := hl
  have hx := hF.1
  have hb := hF.2.1
  obtain ⟨Q0, hQ⟩ : ∃ q, q = (MQ below (wQv G (fun (u : Unit) => True) (fun (u : Unit) => [(h0, .inr (6, [.int (zI 0), .int (zI 0), .int (zI 0), .int (zI 0), .int (zI 0)]))]) A) args s 0 0 A) := ⟨_, rfl⟩
  rw [← hQ]
  have i_wsX60 : ∀ w ∈ wsX60, w ∈ wsX6_init := (fun _ h => (List.mem_cons_of_mem _ (List.mem_append_right _ h)))
  have kf_13 : (Cond.fieldLink RX6 13 "Gammonry$Roll" "lesser" "I").before args s = true := hF.2.2.2.2 _ (List.mem_cons_of_mem _ (List.mem_append_left _ (List.mem_of_getElem? (i := 4) rfl)))
  have kf_16 : (Cond.fieldLink RX6 16 "Gammonry$Roll" "greaterLeft" "I").before args s = true := hF.2.2.2.2 _ (List.mem_cons_of_mem _ (List.mem_append_left _ (List.mem_of_getElem? (i := 5) rfl)))
  have kf_19 : (Cond.fieldLink RX6 19 "Gammonry$Roll" "lesserLeft" "I").before args s = true := hF.2.2.2.2 _ (List.mem_cons_of_mem _ (List.mem_append_left _ (List.mem_of_getElem? (i := 6) rfl)))
  have kf_22 : (Cond.fieldLink RX6 22 "Gammonry$Roll" "used" "I").before args s = true := hF.2.2.2.2 _ (List.mem_cons_of_mem _ (List.mem_append_left _ (List.mem_of_getElem? (i := 7) rfl)))
  have kf_7 : (Cond.fieldLink RX6 7 "Gammonry$Roll" "greater" "I").before args s = true := hF.2.2.2.2 _ (List.mem_cons_of_mem _ (List.mem_append_left _ (List.mem_of_getElem? (i := 3) rfl)))
  have km_1 : (Cond.methodLink RX6 1 objectInit).before args s = true := hF.2.2.2.2 _ (List.mem_cons_of_mem _ (List.mem_append_left _ (List.mem_of_getElem? (i := 0) rfl)))
  have ko_c : (Cond.code objectInit ⟨#[0xb1]⟩ 1 none).before args s = true := hF.2.2.2.2 _ (List.mem_cons_of_mem _ (List.mem_append_left _ (List.mem_of_getElem? (i := 2) rfl)))
  have ko_i : (Cond.instanceMethod objectInit).before args s = true := hF.2.2.2.2 _ (List.mem_cons_of_mem _ (List.mem_append_left _ (List.mem_of_getElem? (i := 1) rfl)))
  refine lv_aload_n hx hb dX6_init_0 rfl (lv_at hl 0 rfl) ?_
  refine W.objInit hx hb hF.2.2.2.1 km_1 ko_i ko_c rfl (by rw [hF.2.2.1]; exact hl.1) rfl dX6_init_1 (Nat.le_of_ble_eq_true rfl) (Nat.le_of_ble_eq_true rfl) ?_
  refine W.eq (g2 := F0 m 4 ls []) rfl ?_
  refine lv_aload_n hx hb dX6_init_4 rfl (lv_at hl 0 rfl) ?_
  refine z_iconst hF dX6_init_5 ?_
  refine z_put (k := 0) hF hK hP hD hS 0 rfl rfl i_wsX60 (by decide) tyX6 tyX6_ok nmX6 rfl kf_7 rfl rfl (Nat.le_of_ble_eq_true rfl) dX6_init_6 (fun H locs hP hD hS => ?_)
  have hP : va_P G.1 vwCl [(h0, .inr (6, [.int (zI 0), .int (zI le), .int (zI gl), .int (zI ll), .int (zI us)]))] H := hP
  have hD : va_D A [(h0, .inr (6, [.int (zI 0), .int (zI le), .int (zI gl), .int (zI ll), .int (zI us)]))] := hD
  refine lv_aload_n hx hb dX6_init_9 rfl (lv_at hl 0 rfl) ?_
  refine z_iconst hF dX6_init_10 ?_
  refine z_put (k := 1) hF hK hP hD hS 0 rfl rfl i_wsX60 (by decide) tyX6 tyX6_ok nmX6 rfl kf_13 rfl rfl (Nat.le_of_ble_eq_true rfl) dX6_init_11 (fun H locs hP hD hS => ?_)
  have hP : va_P G.1 vwCl [(h0, .inr (6, [.int (zI 0), .int (zI 0), .int (zI gl), .int (zI ll), .int (zI us)]))] H := hP
  have hD : va_D A [(h0, .inr (6, [.int (zI 0), .int (zI 0), .int (zI gl), .int (zI ll), .int (zI us)]))] := hD
  refine lv_aload_n hx hb dX6_init_14 rfl (lv_at hl 0 rfl) ?_
  refine z_iconst hF dX6_init_15 ?_
  refine z_put (k := 2) hF hK hP hD hS 0 rfl rfl i_wsX60 (by decide) tyX6 tyX6_ok nmX6 rfl kf_16 rfl rfl (Nat.le_of_ble_eq_true rfl) dX6_init_16 (fun H locs hP hD hS => ?_)
  have hP : va_P G.1 vwCl [(h0, .inr (6, [.int (zI 0), .int (zI 0), .int (zI 0), .int (zI ll), .int (zI us)]))] H := hP
  have hD : va_D A [(h0, .inr (6, [.int (zI 0), .int (zI 0), .int (zI 0), .int (zI ll), .int (zI us)]))] := hD
  refine lv_aload_n hx hb dX6_init_19 rfl (lv_at hl 0 rfl) ?_
  refine z_iconst hF dX6_init_20 ?_
  refine z_put (k := 3) hF hK hP hD hS 0 rfl rfl i_wsX60 (by decide) tyX6 tyX6_ok nmX6 rfl kf_19 rfl rfl (Nat.le_of_ble_eq_true rfl) dX6_init_21 (fun H locs hP hD hS => ?_)
  have hP : va_P G.1 vwCl [(h0, .inr (6, [.int (zI 0), .int (zI 0), .int (zI 0), .int (zI 0), .int (zI us)]))] H := hP
  have hD : va_D A [(h0, .inr (6, [.int (zI 0), .int (zI 0), .int (zI 0), .int (zI 0), .int (zI us)]))] := hD
  refine lv_aload_n hx hb dX6_init_24 rfl (lv_at hl 0 rfl) ?_
  refine z_iconst hF dX6_init_25 ?_
  refine z_put (k := 4) hF hK hP hD hS 0 rfl rfl i_wsX60 (by decide) tyX6 tyX6_ok nmX6 rfl kf_22 rfl rfl (Nat.le_of_ble_eq_true rfl) dX6_init_26 (fun H locs hP hD hS => ?_)
  have hP : va_P G.1 vwCl [(h0, .inr (6, [.int (zI 0), .int (zI 0), .int (zI 0), .int (zI 0), .int (zI 0)]))] H := hP
  have hD : va_D A [(h0, .inr (6, [.int (zI 0), .int (zI 0), .int (zI 0), .int (zI 0), .int (zI 0)]))] := hD
  rw [hQ]
  exact z_vret hF hr hlocks () (trivial) hP hK hD hS dX6_init_29
set_option maxHeartbeats 4000000 in
set_option maxRecDepth 100000 in
theorem c_X6_takeBack (l : Launch) (G : wG) (h0 : Nat) (gr le gl ll us : Int)  (hr_gr : -2147483648 ≤ gr ∧ gr < 2147483648) (hr_le : -2147483648 ≤ le ∧ le < 2147483648) (z9 : Nat) : Met l yX6_takeBack wsX6_takeBack (rmL 1 0 0) (wPc G [(h0, .inr (6, [.int (zI gr), .int (zI le), .int (zI gl), .int (zI ll), .int (zI us)]))] z9 [.ref h0]) (wQi G (fun (r : Int32) (u : Unit) => r = zI us) (fun (u : Unit) => [(h0, .inr (6, [.int (zI gr), .int (zI le), .int (zI (if gr = le then 4 else 1)), .int (zI (if gr = le then 0 else 1)), .int (zI 0)]))]) (va_A [(h0, .inr (6, [.int (zI gr), .int (zI le), .int (zI gl), .int (zI ll), .int (zI us)]))] z9)) 0 0 (va_A [(h0, .inr (6, [.int (zI gr), .int (zI le), .int (zI gl), .int (zI ll), .int (zI us)]))] z9) := by
  refine z_ofW (Qc := fun A => wQi G (fun (r : Int32) (u : Unit) => r = zI us) (fun (u : Unit) => [(h0, .inr (6, [.int (zI gr), .int (zI le), .int (zI (if gr = le then 4 else 1)), .int (zI (if gr = le then 0 else 1)), .int (zI 0)]))]) A) l G [(h0, .inr (6, [.int (zI gr), .int (zI le), .int (zI gl), .int (zI ll), .int (zI us)]))] [.ref h0] (by decide) rfl rfl ?_ z9
  intro p e s m args below meth c A ls H locs hF hr hlocks hinit hP hK hD hA hS hBd hl
  have hF : wFx p m c cX6_takeBack 2 s args wsX6_takeBack RX6 := hF
  have hl : lv_has ls 2 [(0, .ref h0)] := hl
  have hx := hF.1
  have hb := hF.2.1
  obtain ⟨Q0, hQ⟩ : ∃ q, q = (MQ below (wQi G (fun (r : Int32) (u : Unit) => r = zI us) (fun (u : Unit) => [(h0, .inr (6, [.int (zI gr), .int (zI le), .int (zI (if gr = le then 4 else 1)), .int (zI (if gr = le then 0 else 1)), .int (zI 0)]))]) A) args s 0 0 A) := ⟨_, rfl⟩
  rw [← hQ]
  have i_wsX60 : ∀ w ∈ wsX60, w ∈ wsX6_takeBack := (fun _ h => (List.mem_cons_of_mem _ (List.mem_append_right _ h)))
  have kf_13 : (Cond.fieldLink RX6 13 "Gammonry$Roll" "lesser" "I").before args s = true := hF.2.2.2.2 _ (List.mem_cons_of_mem _ (List.mem_append_left _ (List.mem_of_getElem? (i := 2) rfl)))
  have kf_16 : (Cond.fieldLink RX6 16 "Gammonry$Roll" "greaterLeft" "I").before args s = true := hF.2.2.2.2 _ (List.mem_cons_of_mem _ (List.mem_append_left _ (List.mem_of_getElem? (i := 3) rfl)))
  have kf_19 : (Cond.fieldLink RX6 19 "Gammonry$Roll" "lesserLeft" "I").before args s = true := hF.2.2.2.2 _ (List.mem_cons_of_mem _ (List.mem_append_left _ (List.mem_of_getElem? (i := 4) rfl)))
  have kf_22 : (Cond.fieldLink RX6 22 "Gammonry$Roll" "used" "I").before args s = true := hF.2.2.2.2 _ (List.mem_cons_of_mem _ (List.mem_append_left _ (List.mem_of_getElem? (i := 0) rfl)))
  have kf_7 : (Cond.fieldLink RX6 7 "Gammonry$Roll" "greater" "I").before args s = true := hF.2.2.2.2 _ (List.mem_cons_of_mem _ (List.mem_append_left _ (List.mem_of_getElem? (i := 1) rfl)))
  refine lv_aload_n hx hb dX6_takeBack_0 rfl (lv_at hl 0 rfl) ?_
  refine z_get (k := 4) hF hK hP 0 rfl rfl i_wsX60 (by decide) kf_22 rfl dX6_takeBack_1 ?_
  refine lv_istore_n (lv' := [(1, .int (zI us)), (0, .ref h0)]) hx hb dX6_takeBack_4 rfl hl (by decide) rfl (fun ls hl => ?_)
  refine lv_aload_n hx hb dX6_takeBack_5 rfl (lv_at hl 1 rfl) ?_
  refine lv_aload_n hx hb dX6_takeBack_6 rfl (lv_at hl 1 rfl) ?_
  refine z_get (k := 0) hF hK hP 0 rfl rfl i_wsX60 (by decide) kf_7 rfl dX6_takeBack_7 ?_
  refine lv_aload_n hx hb dX6_takeBack_10 rfl (lv_at hl 1 rfl) ?_
  refine z_get (k := 1) hF hK hP 0 rfl rfl i_wsX60 (by decide) kf_13 rfl dX6_takeBack_11 ?_
  refine z_icmp_ne (tgt := 21) hF dX6_takeBack_14 (by decide) (by omega) (by omega) (fun c_1 => ?_) (fun c_1 => ?_)
  · have hc_14 := c_1
    refine z_iconst hF dX6_takeBack_21 ?_
    refine z_put (k := 2) hF hK hP hD hS 0 rfl rfl i_wsX60 (by decide) tyX6 tyX6_ok nmX6 rfl kf_16 rfl rfl (Nat.le_of_ble_eq_true rfl) dX6_takeBack_22 (fun H locs hP hD hS => ?_)
    have hP : va_P G.1 vwCl [(h0, .inr (6, [.int (zI gr), .int (zI le), .int (zI 1), .int (zI ll), .int (zI us)]))] H := hP
    have hD : va_D A [(h0, .inr (6, [.int (zI gr), .int (zI le), .int (zI 1), .int (zI ll), .int (zI us)]))] := hD
    refine lv_aload_n hx hb dX6_takeBack_25 rfl (lv_at hl 1 rfl) ?_
    refine lv_aload_n hx hb dX6_takeBack_26 rfl (lv_at hl 1 rfl) ?_
    refine z_get (k := 0) hF hK hP 0 rfl rfl i_wsX60 (by decide) kf_7 rfl dX6_takeBack_27 ?_
    refine lv_aload_n hx hb dX6_takeBack_30 rfl (lv_at hl 1 rfl) ?_
    refine z_get (k := 1) hF hK hP 0 rfl rfl i_wsX60 (by decide) kf_13 rfl dX6_takeBack_31 ?_
    refine z_icmp_ne (tgt := 41) hF dX6_takeBack_34 (by decide) (by omega) (by omega) (fun c_2 => ?_) (fun c_2 => ?_)
    · have hc_34 := c_2
      refine z_iconst hF dX6_takeBack_41 ?_
      refine z_put (k := 3) hF hK hP hD hS 0 rfl rfl i_wsX60 (by decide) tyX6 tyX6_ok nmX6 rfl kf_19 rfl rfl (Nat.le_of_ble_eq_true rfl) dX6_takeBack_42 (fun H locs hP hD hS => ?_)
      have hP : va_P G.1 vwCl [(h0, .inr (6, [.int (zI gr), .int (zI le), .int (zI 1), .int (zI 1), .int (zI us)]))] H := hP
      have hD : va_D A [(h0, .inr (6, [.int (zI gr), .int (zI le), .int (zI 1), .int (zI 1), .int (zI us)]))] := hD
      refine lv_aload_n hx hb dX6_takeBack_45 rfl (lv_at hl 1 rfl) ?_
      refine z_iconst hF dX6_takeBack_46 ?_
      refine z_put (k := 4) hF hK hP hD hS 0 rfl rfl i_wsX60 (by decide) tyX6 tyX6_ok nmX6 rfl kf_22 rfl rfl (Nat.le_of_ble_eq_true rfl) dX6_takeBack_47 (fun H locs hP hD hS => ?_)
      have hP : va_P G.1 vwCl [(h0, .inr (6, [.int (zI gr), .int (zI le), .int (zI 1), .int (zI 1), .int (zI 0)]))] H := hP
      have hD : va_D A [(h0, .inr (6, [.int (zI gr), .int (zI le), .int (zI 1), .int (zI 1), .int (zI 0)]))] := hD
      refine lv_iload_n hx hb dX6_takeBack_50 rfl (lv_at hl 0 rfl) ?_
      have hP : va_P G.1 vwCl [(h0, .inr (6, [.int (zI gr), .int (zI le), .int (zI (if gr = le then 4 else 1)), .int (zI (if gr = le then 0 else 1)), .int (zI 0)]))] H := by rw [show ((if gr = le then 4 else 1) : Int) = 1 from (if_neg (by omega)), show ((if gr = le then 0 else 1) : Int) = 1 from (if_neg (by omega))]; exact hP
      have hD : va_D A [(h0, .inr (6, [.int (zI gr), .int (zI le), .int (zI (if gr = le then 4 else 1)), .int (zI (if gr = le then 0 else 1)), .int (zI 0)]))] := by rw [show ((if gr = le then 4 else 1) : Int) = 1 from (if_neg (by omega)), show ((if gr = le then 0 else 1) : Int) = 1 from (if_neg (by omega))]; exact hD
      rw [hQ]
      exact z_iret hF hr hlocks () (rfl) hP hK hD hS dX6_takeBack_51
    · exfalso; omega
  · have hc_14 := c_1
    refine z_iconst hF dX6_takeBack_17 ?_
    refine z_goto (tgt := 22) hF dX6_takeBack_18 (by decide) ?_
    refine z_put (k := 2) hF hK hP hD hS 0 rfl rfl i_wsX60 (by decide) tyX6 tyX6_ok nmX6 rfl kf_16 rfl rfl (Nat.le_of_ble_eq_true rfl) dX6_takeBack_22 (fun H locs hP hD hS => ?_)
    have hP : va_P G.1 vwCl [(h0, .inr (6, [.int (zI gr), .int (zI le), .int (zI 4), .int (zI ll), .int (zI us)]))] H := hP
    have hD : va_D A [(h0, .inr (6, [.int (zI gr), .int (zI le), .int (zI 4), .int (zI ll), .int (zI us)]))] := hD
    refine lv_aload_n hx hb dX6_takeBack_25 rfl (lv_at hl 1 rfl) ?_
    refine lv_aload_n hx hb dX6_takeBack_26 rfl (lv_at hl 1 rfl) ?_
    refine z_get (k := 0) hF hK hP 0 rfl rfl i_wsX60 (by decide) kf_7 rfl dX6_takeBack_27 ?_
    refine lv_aload_n hx hb dX6_takeBack_30 rfl (lv_at hl 1 rfl) ?_
    refine z_get (k := 1) hF hK hP 0 rfl rfl i_wsX60 (by decide) kf_13 rfl dX6_takeBack_31 ?_
    refine z_icmp_ne (tgt := 41) hF dX6_takeBack_34 (by decide) (by omega) (by omega) (fun c_3 => ?_) (fun c_3 => ?_)
    · exfalso; omega
    · have hc_34 := c_3
      refine z_iconst hF dX6_takeBack_37 ?_
      refine z_goto (tgt := 42) hF dX6_takeBack_38 (by decide) ?_
      refine z_put (k := 3) hF hK hP hD hS 0 rfl rfl i_wsX60 (by decide) tyX6 tyX6_ok nmX6 rfl kf_19 rfl rfl (Nat.le_of_ble_eq_true rfl) dX6_takeBack_42 (fun H locs hP hD hS => ?_)
      have hP : va_P G.1 vwCl [(h0, .inr (6, [.int (zI gr), .int (zI le), .int (zI 4), .int (zI 0), .int (zI us)]))] H := hP
      have hD : va_D A [(h0, .inr (6, [.int (zI gr), .int (zI le), .int (zI 4), .int (zI 0), .int (zI us)]))] := hD
      refine lv_aload_n hx hb dX6_takeBack_45 rfl (lv_at hl 1 rfl) ?_
      refine z_iconst hF dX6_takeBack_46 ?_
      refine z_put (k := 4) hF hK hP hD hS 0 rfl rfl i_wsX60 (by decide) tyX6 tyX6_ok nmX6 rfl kf_22 rfl rfl (Nat.le_of_ble_eq_true rfl) dX6_takeBack_47 (fun H locs hP hD hS => ?_)
      have hP : va_P G.1 vwCl [(h0, .inr (6, [.int (zI gr), .int (zI le), .int (zI 4), .int (zI 0), .int (zI 0)]))] H := hP
      have hD : va_D A [(h0, .inr (6, [.int (zI gr), .int (zI le), .int (zI 4), .int (zI 0), .int (zI 0)]))] := hD
      refine lv_iload_n hx hb dX6_takeBack_50 rfl (lv_at hl 0 rfl) ?_
      have hP : va_P G.1 vwCl [(h0, .inr (6, [.int (zI gr), .int (zI le), .int (zI (if gr = le then 4 else 1)), .int (zI (if gr = le then 0 else 1)), .int (zI 0)]))] H := by rw [show ((if gr = le then 4 else 1) : Int) = 4 from (if_pos (by omega)), show ((if gr = le then 0 else 1) : Int) = 0 from (if_pos (by omega))]; exact hP
      have hD : va_D A [(h0, .inr (6, [.int (zI gr), .int (zI le), .int (zI (if gr = le then 4 else 1)), .int (zI (if gr = le then 0 else 1)), .int (zI 0)]))] := by rw [show ((if gr = le then 4 else 1) : Int) = 4 from (if_pos (by omega)), show ((if gr = le then 0 else 1) : Int) = 0 from (if_pos (by omega))]; exact hD
      rw [hQ]
      exact z_iret hF hr hlocks () (rfl) hP hK hD hS dX6_takeBack_51
set_option maxHeartbeats 4000000 in
set_option maxRecDepth 100000 in
theorem c_X6_become (l : Launch) (G : wG) (h0 : Nat) (gr le gl ll us : Int) (x y : Int)  (hr_x : -2147483648 ≤ x ∧ x < 2147483648) (hr_y : -2147483648 ≤ y ∧ y < 2147483648) (hm1 : -2147483648 ≤ zmax x y ∧ zmax x y < 2147483648) (hm2 : -2147483648 ≤ zmin x y ∧ zmin x y < 2147483648) (z9 : Nat) : Met l yX6_become wsX6_become (rmL 2 0 0) (wPc G [(h0, .inr (6, [.int (zI gr), .int (zI le), .int (zI gl), .int (zI ll), .int (zI us)]))] z9 [.ref h0, .int (zI x), .int (zI y)]) (wQv G (fun (u : Unit) => True) (fun (u : Unit) => [(h0, .inr (6, [.int (zI (zmax x y)), .int (zI (zmin x y)), .int (zI (if zmax x y = zmin x y then 4 else 1)), .int (zI (if zmax x y = zmin x y then 0 else 1)), .int (zI 0)]))]) (va_A [(h0, .inr (6, [.int (zI gr), .int (zI le), .int (zI gl), .int (zI ll), .int (zI us)]))] z9)) 0 0 (va_A [(h0, .inr (6, [.int (zI gr), .int (zI le), .int (zI gl), .int (zI ll), .int (zI us)]))] z9) := by
  refine z_ofW (Qc := fun A => wQv G (fun (u : Unit) => True) (fun (u : Unit) => [(h0, .inr (6, [.int (zI (zmax x y)), .int (zI (zmin x y)), .int (zI (if zmax x y = zmin x y then 4 else 1)), .int (zI (if zmax x y = zmin x y then 0 else 1)), .int (zI 0)]))]) A) l G [(h0, .inr (6, [.int (zI gr), .int (zI le), .int (zI gl), .int (zI ll), .int (zI us)]))] [.ref h0, .int (zI x), .int (zI y)] (by decide) rfl rfl ?_ z9
  intro p e s m args below meth c A ls H locs hF hr hlocks hinit hP hK hD hA hS hBd hl
  have hF : wFx p m c cX6_become 3 s args wsX6_become RX6 := hF
  have hl : lv_has ls 3 [(0, .ref h0), (1, .int (zI x)), (2, .int (zI y))] := hl
  have hx := hF.1
  have hb := hF.2.1
  obtain ⟨Q0, hQ⟩ : ∃ q, q = (MQ below (wQv G (fun (u : Unit) => True) (fun (u : Unit) => [(h0, .inr (6, [.int (zI (zmax x y)), .int (zI (zmin x y)), .int (zI (if zmax x y = zmin x y then 4 else 1)), .int (zI (if zmax x y = zmin x y then 0 else 1)), .int (zI 0)]))]) A) args s 0 0 A) := ⟨_, rfl⟩
  rw [← hQ]
  have i_wsX60 : ∀ w ∈ wsX60, w ∈ wsX6_become := (fun _ h => (List.mem_cons_of_mem _ (List.mem_append_right _ h)))
  have kf_13 : (Cond.fieldLink RX6 13 "Gammonry$Roll" "lesser" "I").before args s = true := hF.2.2.2.2 _ (List.mem_cons_of_mem _ (List.mem_append_left _ (List.mem_of_getElem? (i := 8) rfl)))
  have kf_7 : (Cond.fieldLink RX6 7 "Gammonry$Roll" "greater" "I").before args s = true := hF.2.2.2.2 _ (List.mem_cons_of_mem _ (List.mem_append_left _ (List.mem_of_getElem? (i := 4) rfl)))
  have km_25 : (Cond.methodLink RX6 25 Lib.Math.max.name).before args s = true := hF.2.2.2.2 _ (List.mem_cons_of_mem _ (List.mem_append_left _ (List.mem_of_getElem? (i := 0) rfl)))
  have km_31 : (Cond.methodLink RX6 31 Lib.Math.min.name).before args s = true := hF.2.2.2.2 _ (List.mem_cons_of_mem _ (List.mem_append_left _ (List.mem_of_getElem? (i := 5) rfl)))
  have kq_max : (Cond.code Lib.Math.max.name Lib.Math.max.code 2 (some .int)).before args s = true := hF.2.2.2.2 _ (List.mem_cons_of_mem _ (List.mem_append_left _ (List.mem_of_getElem? (i := 3) rfl)))
  have kq_min : (Cond.code Lib.Math.min.name Lib.Math.min.code 2 (some .int)).before args s = true := hF.2.2.2.2 _ (List.mem_cons_of_mem _ (List.mem_append_left _ (List.mem_of_getElem? (i := 7) rfl)))
  have ks_max : (Cond.static Lib.Math.max.name).before args s = true := hF.2.2.2.2 _ (List.mem_cons_of_mem _ (List.mem_append_left _ (List.mem_of_getElem? (i := 1) rfl)))
  have ks_min : (Cond.static Lib.Math.min.name).before args s = true := hF.2.2.2.2 _ (List.mem_cons_of_mem _ (List.mem_append_left _ (List.mem_of_getElem? (i := 6) rfl)))
  have kt_Math : (Cond.initialized "java/lang/Math").before args s = true := hF.2.2.2.2 _ (List.mem_cons_of_mem _ (List.mem_append_left _ (List.mem_of_getElem? (i := 2) rfl)))
  refine lv_aload_n hx hb dX6_become_0 rfl (lv_at hl 0 rfl) ?_
  refine lv_iload_n hx hb dX6_become_1 rfl (lv_at hl 1 rfl) ?_
  refine lv_iload_n hx hb dX6_become_2 rfl (lv_at hl 2 rfl) ?_
  refine z_max hF km_25 ks_max kt_Math kq_max hl.1 (Nat.le_of_ble_eq_true rfl) (Nat.le_of_ble_eq_true rfl) (Nat.le_of_ble_eq_true rfl) (Nat.le_of_ble_eq_true rfl) (by omega) (by omega) dX6_become_3 ?_
  refine z_put (k := 0) hF hK hP hD hS 0 rfl rfl i_wsX60 (by decide) tyX6 tyX6_ok nmX6 rfl kf_7 rfl rfl (Nat.le_of_ble_eq_true rfl) dX6_become_6 (fun H locs hP hD hS => ?_)
  have hP : va_P G.1 vwCl [(h0, .inr (6, [.int (zI (zmax x y)), .int (zI le), .int (zI gl), .int (zI ll), .int (zI us)]))] H := hP
  have hD : va_D A [(h0, .inr (6, [.int (zI (zmax x y)), .int (zI le), .int (zI gl), .int (zI ll), .int (zI us)]))] := hD
  refine lv_aload_n hx hb dX6_become_9 rfl (lv_at hl 0 rfl) ?_
  refine lv_iload_n hx hb dX6_become_10 rfl (lv_at hl 1 rfl) ?_
  refine lv_iload_n hx hb dX6_become_11 rfl (lv_at hl 2 rfl) ?_
  refine z_min hF km_31 ks_min kt_Math kq_min hl.1 (Nat.le_of_ble_eq_true rfl) (Nat.le_of_ble_eq_true rfl) (Nat.le_of_ble_eq_true rfl) (Nat.le_of_ble_eq_true rfl) (by omega) (by omega) dX6_become_12 ?_
  refine z_put (k := 1) hF hK hP hD hS 0 rfl rfl i_wsX60 (by decide) tyX6 tyX6_ok nmX6 rfl kf_13 rfl rfl (Nat.le_of_ble_eq_true rfl) dX6_become_15 (fun H locs hP hD hS => ?_)
  have hP : va_P G.1 vwCl [(h0, .inr (6, [.int (zI (zmax x y)), .int (zI (zmin x y)), .int (zI gl), .int (zI ll), .int (zI us)]))] H := hP
  have hD : va_D A [(h0, .inr (6, [.int (zI (zmax x y)), .int (zI (zmin x y)), .int (zI gl), .int (zI ll), .int (zI us)]))] := hD
  refine lv_aload_n hx hb dX6_become_18 rfl (lv_at hl 0 rfl) ?_
  refine cj_i (va_runV (As := []) (rest := []) hF (c_X6_takeBack l G h0 (zmax x y) (zmin x y) gl ll us  (by omega) (by omega) H.size) (cwV 0 hF.2.2.2.2 gX6_become_X6_takeBack rfl rfl rfl (by decide +kernel) ⟨Nat.le_of_ble_eq_true rfl, Nat.le_of_ble_eq_true rfl⟩) (z_preV hK hP hD hS hA hBd [0] rfl rfl rfl rfl []) rfl rfl hl.1 rfl (lv_room (Nat.le_of_ble_eq_true rfl)) dX6_become_19 ⟨Nat.le_of_ble_eq_true rfl, Nat.le_of_ble_eq_true rfl⟩) hP hD hS hA [0] rfl (fun _ => Nat.le_of_ble_eq_true rfl) (fun r_2 u_1 H locs hw hP hD hS => ?_)
  have hP : va_P G.1 vwCl [(h0, .inr (6, [.int (zI (zmax x y)), .int (zI (zmin x y)), .int (zI (if (zmax x y) = (zmin x y) then 4 else 1)), .int (zI (if (zmax x y) = (zmin x y) then 0 else 1)), .int (zI 0)]))] H := hP
  have hD : va_D A [(h0, .inr (6, [.int (zI (zmax x y)), .int (zI (zmin x y)), .int (zI (if (zmax x y) = (zmin x y) then 4 else 1)), .int (zI (if (zmax x y) = (zmin x y) then 0 else 1)), .int (zI 0)]))] := hD
  obtain rfl := hw
  refine lv_pop hx hb dX6_become_22 rfl ?_
  rw [hQ]
  exact z_vret hF hr hlocks () (trivial) hP hK hD hS dX6_become_23
set_option maxHeartbeats 4000000 in
set_option maxRecDepth 100000 in
theorem c_X6_greater (l : Launch) (G : wG) (h0 : Nat) (gr le gl ll us : Int)  (z9 : Nat) : Met l yX6_greater wsX6_greater (rmL 1 0 0) (wPc G [(h0, .inr (6, [.int (zI gr), .int (zI le), .int (zI gl), .int (zI ll), .int (zI us)]))] z9 [.ref h0]) (wQi G (fun (r : Int32) (u : Unit) => r = zI gr) (fun (u : Unit) => [(h0, .inr (6, [.int (zI gr), .int (zI le), .int (zI gl), .int (zI ll), .int (zI us)]))]) (va_A [(h0, .inr (6, [.int (zI gr), .int (zI le), .int (zI gl), .int (zI ll), .int (zI us)]))] z9)) 0 0 (va_A [(h0, .inr (6, [.int (zI gr), .int (zI le), .int (zI gl), .int (zI ll), .int (zI us)]))] z9) := by
  refine z_ofW (Qc := fun A => wQi G (fun (r : Int32) (u : Unit) => r = zI gr) (fun (u : Unit) => [(h0, .inr (6, [.int (zI gr), .int (zI le), .int (zI gl), .int (zI ll), .int (zI us)]))]) A) l G [(h0, .inr (6, [.int (zI gr), .int (zI le), .int (zI gl), .int (zI ll), .int (zI us)]))] [.ref h0] (by decide) rfl rfl ?_ z9
  intro p e s m args below meth c A ls H locs hF hr hlocks hinit hP hK hD hA hS hBd hl
  have hF : wFx p m c cX6_greater 1 s args wsX6_greater RX6 := hF
  have hl : lv_has ls 1 [(0, .ref h0)] := hl
  have hx := hF.1
  have hb := hF.2.1
  obtain ⟨Q0, hQ⟩ : ∃ q, q = (MQ below (wQi G (fun (r : Int32) (u : Unit) => r = zI gr) (fun (u : Unit) => [(h0, .inr (6, [.int (zI gr), .int (zI le), .int (zI gl), .int (zI ll), .int (zI us)]))]) A) args s 0 0 A) := ⟨_, rfl⟩
  rw [← hQ]
  have i_wsX60 : ∀ w ∈ wsX60, w ∈ wsX6_greater := (fun _ h => (List.mem_cons_of_mem _ (List.mem_append_right _ h)))
  have kf_7 : (Cond.fieldLink RX6 7 "Gammonry$Roll" "greater" "I").before args s = true := hF.2.2.2.2 _ (List.mem_cons_of_mem _ (List.mem_append_left _ (List.mem_of_getElem? (i := 0) rfl)))
  refine lv_aload_n hx hb dX6_greater_0 rfl (lv_at hl 0 rfl) ?_
  refine z_get (k := 0) hF hK hP 0 rfl rfl i_wsX60 (by decide) kf_7 rfl dX6_greater_1 ?_
  rw [hQ]
  exact z_iret hF hr hlocks () (rfl) hP hK hD hS dX6_greater_4
set_option maxHeartbeats 4000000 in
set_option maxRecDepth 100000 in
theorem c_X6_lesser (l : Launch) (G : wG) (h0 : Nat) (gr le gl ll us : Int)  (z9 : Nat) : Met l yX6_lesser wsX6_lesser (rmL 1 0 0) (wPc G [(h0, .inr (6, [.int (zI gr), .int (zI le), .int (zI gl), .int (zI ll), .int (zI us)]))] z9 [.ref h0]) (wQi G (fun (r : Int32) (u : Unit) => r = zI le) (fun (u : Unit) => [(h0, .inr (6, [.int (zI gr), .int (zI le), .int (zI gl), .int (zI ll), .int (zI us)]))]) (va_A [(h0, .inr (6, [.int (zI gr), .int (zI le), .int (zI gl), .int (zI ll), .int (zI us)]))] z9)) 0 0 (va_A [(h0, .inr (6, [.int (zI gr), .int (zI le), .int (zI gl), .int (zI ll), .int (zI us)]))] z9) := by
  refine z_ofW (Qc := fun A => wQi G (fun (r : Int32) (u : Unit) => r = zI le) (fun (u : Unit) => [(h0, .inr (6, [.int (zI gr), .int (zI le), .int (zI gl), .int (zI ll), .int (zI us)]))]) A) l G [(h0, .inr (6, [.int (zI gr), .int (zI le), .int (zI gl), .int (zI ll), .int (zI us)]))] [.ref h0] (by decide) rfl rfl ?_ z9
  intro p e s m args below meth c A ls H locs hF hr hlocks hinit hP hK hD hA hS hBd hl
  have hF : wFx p m c cX6_lesser 1 s args wsX6_lesser RX6 := hF
  have hl : lv_has ls 1 [(0, .ref h0)] := hl
  have hx := hF.1
  have hb := hF.2.1
  obtain ⟨Q0, hQ⟩ : ∃ q, q = (MQ below (wQi G (fun (r : Int32) (u : Unit) => r = zI le) (fun (u : Unit) => [(h0, .inr (6, [.int (zI gr), .int (zI le), .int (zI gl), .int (zI ll), .int (zI us)]))]) A) args s 0 0 A) := ⟨_, rfl⟩
  rw [← hQ]
  have i_wsX60 : ∀ w ∈ wsX60, w ∈ wsX6_lesser := (fun _ h => (List.mem_cons_of_mem _ (List.mem_append_right _ h)))
  have kf_13 : (Cond.fieldLink RX6 13 "Gammonry$Roll" "lesser" "I").before args s = true := hF.2.2.2.2 _ (List.mem_cons_of_mem _ (List.mem_append_left _ (List.mem_of_getElem? (i := 0) rfl)))
  refine lv_aload_n hx hb dX6_lesser_0 rfl (lv_at hl 0 rfl) ?_
  refine z_get (k := 1) hF hK hP 0 rfl rfl i_wsX60 (by decide) kf_13 rfl dX6_lesser_1 ?_
  rw [hQ]
  exact z_iret hF hr hlocks () (rfl) hP hK hD hS dX6_lesser_4
set_option maxHeartbeats 4000000 in
set_option maxRecDepth 100000 in
theorem c_X6_asNumber (l : Launch) (G : wG) (h0 : Nat) (gr le gl ll us : Int)  (z9 : Nat) : Met l yX6_asNumber wsX6_asNumber (rmL 1 0 0) (wPc G [(h0, .inr (6, [.int (zI gr), .int (zI le), .int (zI gl), .int (zI ll), .int (zI us)]))] z9 [.ref h0]) (wQi G (fun (r : Int32) (u : Unit) => r = zI (10 * gr + le)) (fun (u : Unit) => [(h0, .inr (6, [.int (zI gr), .int (zI le), .int (zI gl), .int (zI ll), .int (zI us)]))]) (va_A [(h0, .inr (6, [.int (zI gr), .int (zI le), .int (zI gl), .int (zI ll), .int (zI us)]))] z9)) 0 0 (va_A [(h0, .inr (6, [.int (zI gr), .int (zI le), .int (zI gl), .int (zI ll), .int (zI us)]))] z9) := by
  refine z_ofW (Qc := fun A => wQi G (fun (r : Int32) (u : Unit) => r = zI (10 * gr + le)) (fun (u : Unit) => [(h0, .inr (6, [.int (zI gr), .int (zI le), .int (zI gl), .int (zI ll), .int (zI us)]))]) A) l G [(h0, .inr (6, [.int (zI gr), .int (zI le), .int (zI gl), .int (zI ll), .int (zI us)]))] [.ref h0] (by decide) rfl rfl ?_ z9
  intro p e s m args below meth c A ls H locs hF hr hlocks hinit hP hK hD hA hS hBd hl
  have hF : wFx p m c cX6_asNumber 1 s args wsX6_asNumber RX6 := hF
  have hl : lv_has ls 1 [(0, .ref h0)] := hl
  have hx := hF.1
  have hb := hF.2.1
  obtain ⟨Q0, hQ⟩ : ∃ q, q = (MQ below (wQi G (fun (r : Int32) (u : Unit) => r = zI (10 * gr + le)) (fun (u : Unit) => [(h0, .inr (6, [.int (zI gr), .int (zI le), .int (zI gl), .int (zI ll), .int (zI us)]))]) A) args s 0 0 A) := ⟨_, rfl⟩
  rw [← hQ]
  have i_wsX60 : ∀ w ∈ wsX60, w ∈ wsX6_asNumber := (fun _ h => (List.mem_cons_of_mem _ (List.mem_append_right _ h)))
  have kf_13 : (Cond.fieldLink RX6 13 "Gammonry$Roll" "lesser" "I").before args s = true := hF.2.2.2.2 _ (List.mem_cons_of_mem _ (List.mem_append_left _ (List.mem_of_getElem? (i := 1) rfl)))
  have kf_7 : (Cond.fieldLink RX6 7 "Gammonry$Roll" "greater" "I").before args s = true := hF.2.2.2.2 _ (List.mem_cons_of_mem _ (List.mem_append_left _ (List.mem_of_getElem? (i := 0) rfl)))
  refine z_bipush hF dX6_asNumber_0 (by decide) ?_
  refine lv_aload_n hx hb dX6_asNumber_2 rfl (lv_at hl 0 rfl) ?_
  refine z_get (k := 0) hF hK hP 0 rfl rfl i_wsX60 (by decide) kf_7 rfl dX6_asNumber_3 ?_
  refine z_imul hF dX6_asNumber_6 ?_
  refine lv_aload_n hx hb dX6_asNumber_7 rfl (lv_at hl 0 rfl) ?_
  refine z_get (k := 1) hF hK hP 0 rfl rfl i_wsX60 (by decide) kf_13 rfl dX6_asNumber_8 ?_
  refine z_iadd hF dX6_asNumber_11 ?_
  rw [hQ]
  exact z_iret hF hr hlocks () (rfl) hP hK hD hS dX6_asNumber_12
set_option maxHeartbeats 4000000 in
set_option maxRecDepth 100000 in
theorem c_X6_isLeft (l : Launch) (G : wG) (h0 : Nat) (gr le gl ll us : Int) (d : Int)  (hr_gr : -2147483648 ≤ gr ∧ gr < 2147483648) (hr_le : -2147483648 ≤ le ∧ le < 2147483648) (hr_gl : -2147483648 ≤ gl ∧ gl < 2147483648) (hr_ll : -2147483648 ≤ ll ∧ ll < 2147483648) (hr_d : -2147483648 ≤ d ∧ d < 2147483648) (z9 : Nat) : Met l yX6_isLeft wsX6_isLeft (rmL 1 0 0) (wPc G [(h0, .inr (6, [.int (zI gr), .int (zI le), .int (zI gl), .int (zI ll), .int (zI us)]))] z9 [.ref h0, .int (zI d)]) (wQi G (fun (r : Int32) (u : Unit) => (((d = gr ∧ 0 < gl) ∨ (d = le ∧ 0 < ll)) ∧ r = zI 1) ∨ ((¬ ((d = gr ∧ 0 < gl) ∨ (d = le ∧ 0 < ll))) ∧ r = zI 0)) (fun (u : Unit) => [(h0, .inr (6, [.int (zI gr), .int (zI le), .int (zI gl), .int (zI ll), .int (zI us)]))]) (va_A [(h0, .inr (6, [.int (zI gr), .int (zI le), .int (zI gl), .int (zI ll), .int (zI us)]))] z9)) 0 0 (va_A [(h0, .inr (6, [.int (zI gr), .int (zI le), .int (zI gl), .int (zI ll), .int (zI us)]))] z9) := by
  refine z_ofW (Qc := fun A => wQi G (fun (r : Int32) (u : Unit) => (((d = gr ∧ 0 < gl) ∨ (d = le ∧ 0 < ll)) ∧ r = zI 1) ∨ ((¬ ((d = gr ∧ 0 < gl) ∨ (d = le ∧ 0 < ll))) ∧ r = zI 0)) (fun (u : Unit) => [(h0, .inr (6, [.int (zI gr), .int (zI le), .int (zI gl), .int (zI ll), .int (zI us)]))]) A) l G [(h0, .inr (6, [.int (zI gr), .int (zI le), .int (zI gl), .int (zI ll), .int (zI us)]))] [.ref h0, .int (zI d)] (by decide) rfl rfl ?_ z9
  intro p e s m args below meth c A ls H locs hF hr hlocks hinit hP hK hD hA hS hBd hl
  have hF : wFx p m c cX6_isLeft 2 s args wsX6_isLeft RX6 := hF
  have hl : lv_has ls 2 [(0, .ref h0), (1, .int (zI d))] := hl
  have hx := hF.1
  have hb := hF.2.1
  obtain ⟨Q0, hQ⟩ : ∃ q, q = (MQ below (wQi G (fun (r : Int32) (u : Unit) => (((d = gr ∧ 0 < gl) ∨ (d = le ∧ 0 < ll)) ∧ r = zI 1) ∨ ((¬ ((d = gr ∧ 0 < gl) ∨ (d = le ∧ 0 < ll))) ∧ r = zI 0)) (fun (u : Unit) => [(h0, .inr (6, [.int (zI gr), .int (zI le), .int (zI gl), .int (zI ll), .int (zI us)]))]) A) args s 0 0 A) := ⟨_, rfl⟩
  rw [← hQ]
  have i_wsX60 : ∀ w ∈ wsX60, w ∈ wsX6_isLeft := (fun _ h => (List.mem_cons_of_mem _ (List.mem_append_right _ h)))
  have kf_13 : (Cond.fieldLink RX6 13 "Gammonry$Roll" "lesser" "I").before args s = true := hF.2.2.2.2 _ (List.mem_cons_of_mem _ (List.mem_append_left _ (List.mem_of_getElem? (i := 2) rfl)))
  have kf_16 : (Cond.fieldLink RX6 16 "Gammonry$Roll" "greaterLeft" "I").before args s = true := hF.2.2.2.2 _ (List.mem_cons_of_mem _ (List.mem_append_left _ (List.mem_of_getElem? (i := 1) rfl)))
  have kf_19 : (Cond.fieldLink RX6 19 "Gammonry$Roll" "lesserLeft" "I").before args s = true := hF.2.2.2.2 _ (List.mem_cons_of_mem _ (List.mem_append_left _ (List.mem_of_getElem? (i := 3) rfl)))
  have kf_7 : (Cond.fieldLink RX6 7 "Gammonry$Roll" "greater" "I").before args s = true := hF.2.2.2.2 _ (List.mem_cons_of_mem _ (List.mem_append_left _ (List.mem_of_getElem? (i := 0) rfl)))
  refine lv_iload_n hx hb dX6_isLeft_0 rfl (lv_at hl 1 rfl) ?_
  refine lv_aload_n hx hb dX6_isLeft_1 rfl (lv_at hl 0 rfl) ?_
  refine z_get (k := 0) hF hK hP 0 rfl rfl i_wsX60 (by decide) kf_7 rfl dX6_isLeft_2 ?_
  refine z_icmp_ne (tgt := 15) hF dX6_isLeft_5 (by decide) (by omega) (by omega) (fun c_1 => ?_) (fun c_1 => ?_)
  · have hc_5 := c_1
    refine lv_iload_n hx hb dX6_isLeft_15 rfl (lv_at hl 1 rfl) ?_
    refine lv_aload_n hx hb dX6_isLeft_16 rfl (lv_at hl 0 rfl) ?_
    refine z_get (k := 1) hF hK hP 0 rfl rfl i_wsX60 (by decide) kf_13 rfl dX6_isLeft_17 ?_
    refine z_icmp_ne (tgt := 34) hF dX6_isLeft_20 (by decide) (by omega) (by omega) (fun c_2 => ?_) (fun c_2 => ?_)
    · have hc_20 := c_2
      refine z_iconst hF dX6_isLeft_34 ?_
      rw [hQ]
      exact z_zret hF hr hlocks rfl () (by first | exact Or.inl ⟨by omega, rfl⟩ | exact Or.inr ⟨by omega, rfl⟩) hP hK hD hS dX6_isLeft_35
    · have hc_20 := c_2
      refine lv_aload_n hx hb dX6_isLeft_23 rfl (lv_at hl 0 rfl) ?_
      refine z_get (k := 3) hF hK hP 0 rfl rfl i_wsX60 (by decide) kf_19 rfl dX6_isLeft_24 ?_
      refine z_if_le (tgt := 34) hF dX6_isLeft_27 (by decide) (by omega) (fun c_3 => ?_) (fun c_3 => ?_)
      · have hc_27 := c_3
        refine z_iconst hF dX6_isLeft_34 ?_
        rw [hQ]
        exact z_zret hF hr hlocks rfl () (by first | exact Or.inl ⟨by omega, rfl⟩ | exact Or.inr ⟨by omega, rfl⟩) hP hK hD hS dX6_isLeft_35
      · have hc_27 := c_3
        refine z_iconst hF dX6_isLeft_30 ?_
        refine z_goto (tgt := 35) hF dX6_isLeft_31 (by decide) ?_
        rw [hQ]
        exact z_zret hF hr hlocks rfl () (by first | exact Or.inl ⟨by omega, rfl⟩ | exact Or.inr ⟨by omega, rfl⟩) hP hK hD hS dX6_isLeft_35
  · have hc_5 := c_1
    refine lv_aload_n hx hb dX6_isLeft_8 rfl (lv_at hl 0 rfl) ?_
    refine z_get (k := 2) hF hK hP 0 rfl rfl i_wsX60 (by decide) kf_16 rfl dX6_isLeft_9 ?_
    refine z_if_gt (tgt := 30) hF dX6_isLeft_12 (by decide) (by omega) (fun c_4 => ?_) (fun c_4 => ?_)
    · have hc_12 := c_4
      refine z_iconst hF dX6_isLeft_30 ?_
      refine z_goto (tgt := 35) hF dX6_isLeft_31 (by decide) ?_
      rw [hQ]
      exact z_zret hF hr hlocks rfl () (by first | exact Or.inl ⟨by omega, rfl⟩ | exact Or.inr ⟨by omega, rfl⟩) hP hK hD hS dX6_isLeft_35
    · have hc_12 := c_4
      refine lv_iload_n hx hb dX6_isLeft_15 rfl (lv_at hl 1 rfl) ?_
      refine lv_aload_n hx hb dX6_isLeft_16 rfl (lv_at hl 0 rfl) ?_
      refine z_get (k := 1) hF hK hP 0 rfl rfl i_wsX60 (by decide) kf_13 rfl dX6_isLeft_17 ?_
      refine z_icmp_ne (tgt := 34) hF dX6_isLeft_20 (by decide) (by omega) (by omega) (fun c_5 => ?_) (fun c_5 => ?_)
      · have hc_20 := c_5
        refine z_iconst hF dX6_isLeft_34 ?_
        rw [hQ]
        exact z_zret hF hr hlocks rfl () (by first | exact Or.inl ⟨by omega, rfl⟩ | exact Or.inr ⟨by omega, rfl⟩) hP hK hD hS dX6_isLeft_35
      · have hc_20 := c_5
        refine lv_aload_n hx hb dX6_isLeft_23 rfl (lv_at hl 0 rfl) ?_
        refine z_get (k := 3) hF hK hP 0 rfl rfl i_wsX60 (by decide) kf_19 rfl dX6_isLeft_24 ?_
        refine z_if_le (tgt := 34) hF dX6_isLeft_27 (by decide) (by omega) (fun c_6 => ?_) (fun c_6 => ?_)
        · have hc_27 := c_6
          refine z_iconst hF dX6_isLeft_34 ?_
          rw [hQ]
          exact z_zret hF hr hlocks rfl () (by first | exact Or.inl ⟨by omega, rfl⟩ | exact Or.inr ⟨by omega, rfl⟩) hP hK hD hS dX6_isLeft_35
        · have hc_27 := c_6
          refine z_iconst hF dX6_isLeft_30 ?_
          refine z_goto (tgt := 35) hF dX6_isLeft_31 (by decide) ?_
          rw [hQ]
          exact z_zret hF hr hlocks rfl () (by first | exact Or.inl ⟨by omega, rfl⟩ | exact Or.inr ⟨by omega, rfl⟩) hP hK hD hS dX6_isLeft_35
set_option maxHeartbeats 4000000 in
set_option maxRecDepth 100000 in
theorem c_X6_use (l : Launch) (G : wG) (h0 : Nat) (gr le gl ll us : Int) (d : Int)  (hr_gr : -2147483648 ≤ gr ∧ gr < 2147483648) (hr_d : -2147483648 ≤ d ∧ d < 2147483648) (z9 : Nat) : Met l yX6_use wsX6_use (rmL 1 0 0) (wPc G [(h0, .inr (6, [.int (zI gr), .int (zI le), .int (zI gl), .int (zI ll), .int (zI us)]))] z9 [.ref h0, .int (zI d)]) (wQv G (fun (u : Unit) => True) (fun (u : Unit) => [(h0, .inr (6, [.int (zI gr), .int (zI le), .int (zI (if d = gr then gl - 1 else gl)), .int (zI (if d = gr then ll else ll - 1)), .int (zI (us + 1))]))]) (va_A [(h0, .inr (6, [.int (zI gr), .int (zI le), .int (zI gl), .int (zI ll), .int (zI us)]))] z9)) 0 0 (va_A [(h0, .inr (6, [.int (zI gr), .int (zI le), .int (zI gl), .int (zI ll), .int (zI us)]))] z9) := by
  refine z_ofW (Qc := fun A => wQv G (fun (u : Unit) => True) (fun (u : Unit) => [(h0, .inr (6, [.int (zI gr), .int (zI le), .int (zI (if d = gr then gl - 1 else gl)), .int (zI (if d = gr then ll else ll - 1)), .int (zI (us + 1))]))]) A) l G [(h0, .inr (6, [.int (zI gr), .int (zI le), .int (zI gl), .int (zI ll), .int (zI us)]))] [.ref h0, .int (zI d)] (by decide) rfl rfl ?_ z9
  intro p e s m args below meth c A ls H locs hF hr hlocks hinit hP hK hD hA hS hBd hl
  have hF : wFx p m c cX6_use 2 s args wsX6_use RX6 := hF
  have hl : lv_has ls 2 [(0, .ref h0), (1, .int (zI d))] := hl
  have hx := hF.1
  have hb := hF.2.1
  obtain ⟨Q0, hQ⟩ : ∃ q, q = (MQ below (wQv G (fun (u : Unit) => True) (fun (u : Unit) => [(h0, .inr (6, [.int (zI gr), .int (zI le), .int (zI (if d = gr then gl - 1 else gl)), .int (zI (if d = gr then ll else ll - 1)), .int (zI (us + 1))]))]) A) args s 0 0 A) := ⟨_, rfl⟩
  rw [← hQ]
  have i_wsX60 : ∀ w ∈ wsX60, w ∈ wsX6_use := (fun _ h => (List.mem_cons_of_mem _ (List.mem_append_right _ h)))
  have kf_16 : (Cond.fieldLink RX6 16 "Gammonry$Roll" "greaterLeft" "I").before args s = true := hF.2.2.2.2 _ (List.mem_cons_of_mem _ (List.mem_append_left _ (List.mem_of_getElem? (i := 1) rfl)))
  have kf_19 : (Cond.fieldLink RX6 19 "Gammonry$Roll" "lesserLeft" "I").before args s = true := hF.2.2.2.2 _ (List.mem_cons_of_mem _ (List.mem_append_left _ (List.mem_of_getElem? (i := 2) rfl)))
  have kf_22 : (Cond.fieldLink RX6 22 "Gammonry$Roll" "used" "I").before args s = true := hF.2.2.2.2 _ (List.mem_cons_of_mem _ (List.mem_append_left _ (List.mem_of_getElem? (i := 3) rfl)))
  have kf_7 : (Cond.fieldLink RX6 7 "Gammonry$Roll" "greater" "I").before args s = true := hF.2.2.2.2 _ (List.mem_cons_of_mem _ (List.mem_append_left _ (List.mem_of_getElem? (i := 0) rfl)))
  refine lv_iload_n hx hb dX6_use_0 rfl (lv_at hl 1 rfl) ?_
  refine lv_aload_n hx hb dX6_use_1 rfl (lv_at hl 0 rfl) ?_
  refine z_get (k := 0) hF hK hP 0 rfl rfl i_wsX60 (by decide) kf_7 rfl dX6_use_2 ?_
  refine z_icmp_ne (tgt := 21) hF dX6_use_5 (by decide) (by omega) (by omega) (fun c_1 => ?_) (fun c_1 => ?_)
  · have hc_5 := c_1
    refine lv_aload_n hx hb dX6_use_21 rfl (lv_at hl 0 rfl) ?_
    refine lv_dup hx hb dX6_use_22 rfl ?_
    refine z_get (k := 3) hF hK hP 0 rfl rfl i_wsX60 (by decide) kf_19 rfl dX6_use_23 ?_
    refine z_iconst hF dX6_use_26 ?_
    refine z_isub hF dX6_use_27 ?_
    refine z_put (k := 3) hF hK hP hD hS 0 rfl rfl i_wsX60 (by decide) tyX6 tyX6_ok nmX6 rfl kf_19 rfl rfl (Nat.le_of_ble_eq_true rfl) dX6_use_28 (fun H locs hP hD hS => ?_)
    have hP : va_P G.1 vwCl [(h0, .inr (6, [.int (zI gr), .int (zI le), .int (zI gl), .int (zI (ll - 1)), .int (zI us)]))] H := hP
    have hD : va_D A [(h0, .inr (6, [.int (zI gr), .int (zI le), .int (zI gl), .int (zI (ll - 1)), .int (zI us)]))] := hD
    refine lv_aload_n hx hb dX6_use_31 rfl (lv_at hl 0 rfl) ?_
    refine lv_dup hx hb dX6_use_32 rfl ?_
    refine z_get (k := 4) hF hK hP 0 rfl rfl i_wsX60 (by decide) kf_22 rfl dX6_use_33 ?_
    refine z_iconst hF dX6_use_36 ?_
    refine z_iadd hF dX6_use_37 ?_
    refine z_put (k := 4) hF hK hP hD hS 0 rfl rfl i_wsX60 (by decide) tyX6 tyX6_ok nmX6 rfl kf_22 rfl rfl (Nat.le_of_ble_eq_true rfl) dX6_use_38 (fun H locs hP hD hS => ?_)
    have hP : va_P G.1 vwCl [(h0, .inr (6, [.int (zI gr), .int (zI le), .int (zI gl), .int (zI (ll - 1)), .int (zI (us + 1))]))] H := hP
    have hD : va_D A [(h0, .inr (6, [.int (zI gr), .int (zI le), .int (zI gl), .int (zI (ll - 1)), .int (zI (us + 1))]))] := hD
    have hP : va_P G.1 vwCl [(h0, .inr (6, [.int (zI gr), .int (zI le), .int (zI (if d = gr then gl - 1 else gl)), .int (zI (if d = gr then ll else ll - 1)), .int (zI (us + 1))]))] H := by rw [show ((if d = gr then gl - 1 else gl) : Int) = gl from (if_neg (by omega)), show ((if d = gr then ll else ll - 1) : Int) = ll - 1 from (if_neg (by omega))]; exact hP
    have hD : va_D A [(h0, .inr (6, [.int (zI gr), .int (zI le), .int (zI (if d = gr then gl - 1 else gl)), .int (zI (if d = gr then ll else ll - 1)), .int (zI (us + 1))]))] := by rw [show ((if d = gr then gl - 1 else gl) : Int) = gl from (if_neg (by omega)), show ((if d = gr then ll else ll - 1) : Int) = ll - 1 from (if_neg (by omega))]; exact hD
    rw [hQ]
    exact z_vret hF hr hlocks () (trivial) hP hK hD hS dX6_use_41
  · have hc_5 := c_1
    refine lv_aload_n hx hb dX6_use_8 rfl (lv_at hl 0 rfl) ?_
    refine lv_dup hx hb dX6_use_9 rfl ?_
    refine z_get (k := 2) hF hK hP 0 rfl rfl i_wsX60 (by decide) kf_16 rfl dX6_use_10 ?_
    refine z_iconst hF dX6_use_13 ?_
    refine z_isub hF dX6_use_14 ?_
    refine z_put (k := 2) hF hK hP hD hS 0 rfl rfl i_wsX60 (by decide) tyX6 tyX6_ok nmX6 rfl kf_16 rfl rfl (Nat.le_of_ble_eq_true rfl) dX6_use_15 (fun H locs hP hD hS => ?_)
    have hP : va_P G.1 vwCl [(h0, .inr (6, [.int (zI gr), .int (zI le), .int (zI (gl - 1)), .int (zI ll), .int (zI us)]))] H := hP
    have hD : va_D A [(h0, .inr (6, [.int (zI gr), .int (zI le), .int (zI (gl - 1)), .int (zI ll), .int (zI us)]))] := hD
    refine z_goto (tgt := 31) hF dX6_use_18 (by decide) ?_
    refine lv_aload_n hx hb dX6_use_31 rfl (lv_at hl 0 rfl) ?_
    refine lv_dup hx hb dX6_use_32 rfl ?_
    refine z_get (k := 4) hF hK hP 0 rfl rfl i_wsX60 (by decide) kf_22 rfl dX6_use_33 ?_
    refine z_iconst hF dX6_use_36 ?_
    refine z_iadd hF dX6_use_37 ?_
    refine z_put (k := 4) hF hK hP hD hS 0 rfl rfl i_wsX60 (by decide) tyX6 tyX6_ok nmX6 rfl kf_22 rfl rfl (Nat.le_of_ble_eq_true rfl) dX6_use_38 (fun H locs hP hD hS => ?_)
    have hP : va_P G.1 vwCl [(h0, .inr (6, [.int (zI gr), .int (zI le), .int (zI (gl - 1)), .int (zI ll), .int (zI (us + 1))]))] H := hP
    have hD : va_D A [(h0, .inr (6, [.int (zI gr), .int (zI le), .int (zI (gl - 1)), .int (zI ll), .int (zI (us + 1))]))] := hD
    have hP : va_P G.1 vwCl [(h0, .inr (6, [.int (zI gr), .int (zI le), .int (zI (if d = gr then gl - 1 else gl)), .int (zI (if d = gr then ll else ll - 1)), .int (zI (us + 1))]))] H := by rw [show ((if d = gr then gl - 1 else gl) : Int) = gl - 1 from (if_pos (by omega)), show ((if d = gr then ll else ll - 1) : Int) = ll from (if_pos (by omega))]; exact hP
    have hD : va_D A [(h0, .inr (6, [.int (zI gr), .int (zI le), .int (zI (if d = gr then gl - 1 else gl)), .int (zI (if d = gr then ll else ll - 1)), .int (zI (us + 1))]))] := by rw [show ((if d = gr then gl - 1 else gl) : Int) = gl - 1 from (if_pos (by omega)), show ((if d = gr then ll else ll - 1) : Int) = ll from (if_pos (by omega))]; exact hD
    rw [hQ]
    exact z_vret hF hr hlocks () (trivial) hP hK hD hS dX6_use_41
set_option maxHeartbeats 4000000 in
set_option maxRecDepth 100000 in
theorem c_X7_init (l : Launch) (G : wG) (h0 : Nat)  (z9 : Nat) : Met l yX7_init wsX7_init (rmL 2 2 12) (wPc G [(h0, .inr (7, [.null, .null, .int (zI 0)]))] z9 [.ref h0]) (wQv G (fun (u : (Nat × Nat)) => True) (fun (u : (Nat × Nat)) => [(h0, .inr (7, [.ref u.1, .ref u.2, .int (zI 0)])), (u.1, .inl (G.2.1.1, 6, .inl (aI (fun _ => 0)))), (u.2, .inl (G.2.1.2.1, 6, .inr (.inl (aL (fun _ => 0)))))]) (va_A [(h0, .inr (7, [.null, .null, .int (zI 0)]))] z9)) 2 12 (va_A [(h0, .inr (7, [.null, .null, .int (zI 0)]))] z9) := by
  refine z_ofW (Qc := fun A => wQv G (fun (u : (Nat × Nat)) => True) (fun (u : (Nat × Nat)) => [(h0, .inr (7, [.ref u.1, .ref u.2, .int (zI 0)])), (u.1, .inl (G.2.1.1, 6, .inl (aI (fun _ => 0)))), (u.2, .inl (G.2.1.2.1, 6, .inr (.inl (aL (fun _ => 0)))))]) A) l G [(h0, .inr (7, [.null, .null, .int (zI 0)]))] [.ref h0] (by decide) rfl rfl ?_ z9
  intro p e s m args below meth c A ls H locs hF hr hlocks hinit hP hK hD hA hS hBd hl
  have hF : wFx p m c cX7_init 1 s args wsX7_init RX7 := hF
  have hl : lv_has ls 1 [(0, .ref h0)] := hl
  have hx := hF.1
  have hb := hF.2.1
  obtain ⟨Q0, hQ⟩ : ∃ q, q = (MQ below (wQv G (fun (u : (Nat × Nat)) => True) (fun (u : (Nat × Nat)) => [(h0, .inr (7, [.ref u.1, .ref u.2, .int (zI 0)])), (u.1, .inl (G.2.1.1, 6, .inl (aI (fun _ => 0)))), (u.2, .inl (G.2.1.2.1, 6, .inr (.inl (aL (fun _ => 0)))))]) A) args s 2 12 A) := ⟨_, rfl⟩
  rw [← hQ]
  have i_wsX70 : ∀ w ∈ wsX70, w ∈ wsX7_init := (fun _ h => (List.mem_cons_of_mem _ (List.mem_append_right _ h)))
  have ka_int : (Cond.arrayClass .int).before args s = true := hF.2.2.2.2 _ (List.mem_cons_of_mem _ (List.mem_append_left _ (List.mem_of_getElem? (i := 3) rfl)))
  have ka_long : (Cond.arrayClass .long).before args s = true := hF.2.2.2.2 _ (List.mem_cons_of_mem _ (List.mem_append_left _ (List.mem_of_getElem? (i := 5) rfl)))
  have kf_13 : (Cond.fieldLink RX7 13 "Gammonry$Table" "balances" "[J").before args s = true := hF.2.2.2.2 _ (List.mem_cons_of_mem _ (List.mem_append_left _ (List.mem_of_getElem? (i := 6) rfl)))
  have kf_17 : (Cond.fieldLink RX7 17 "Gammonry$Table" "size" "I").before args s = true := hF.2.2.2.2 _ (List.mem_cons_of_mem _ (List.mem_append_left _ (List.mem_of_getElem? (i := 7) rfl)))
  have kf_9 : (Cond.fieldLink RX7 9 "Gammonry$Table" "seats" "[I").before args s = true := hF.2.2.2.2 _ (List.mem_cons_of_mem _ (List.mem_append_left _ (List.mem_of_getElem? (i := 4) rfl)))
  have km_1 : (Cond.methodLink RX7 1 objectInit).before args s = true := hF.2.2.2.2 _ (List.mem_cons_of_mem _ (List.mem_append_left _ (List.mem_of_getElem? (i := 0) rfl)))
  have ko_c : (Cond.code objectInit ⟨#[0xb1]⟩ 1 none).before args s = true := hF.2.2.2.2 _ (List.mem_cons_of_mem _ (List.mem_append_left _ (List.mem_of_getElem? (i := 2) rfl)))
  have ko_i : (Cond.instanceMethod objectInit).before args s = true := hF.2.2.2.2 _ (List.mem_cons_of_mem _ (List.mem_append_left _ (List.mem_of_getElem? (i := 1) rfl)))
  refine lv_aload_n hx hb dX7_init_0 rfl (lv_at hl 0 rfl) ?_
  refine W.objInit hx hb hF.2.2.2.1 km_1 ko_i ko_c rfl (by rw [hF.2.2.1]; exact hl.1) rfl dX7_init_1 (Nat.le_of_ble_eq_true rfl) (Nat.le_of_ble_eq_true rfl) ?_
  refine W.eq (g2 := F0 m 4 ls []) rfl ?_
  refine lv_aload_n hx hb dX7_init_4 rfl (lv_at hl 0 rfl) ?_
  refine z_bipush hF dX7_init_5 (by decide) ?_
  refine z_newai hF ka_int hK hP hD hS hA (N := 6) (by decide) (by decide) rfl rfl rfl dX7_init_7 (fun q_1 H hP hD hS => ?_)
  have hP : va_P G.1 vwCl [(h0, .inr (7, [.null, .null, .int (zI 0)])), (q_1, .inl (G.2.1.1, 6, .inl (aI (fun _ => 0))))] H := hP
  have hD : va_D A [(h0, .inr (7, [.null, .null, .int (zI 0)])), (q_1, .inl (G.2.1.1, 6, .inl (aI (fun _ => 0))))] := hD
  refine W.widen (k := 1) (n := 6) (Nat.le_of_ble_eq_true rfl) (Nat.le_of_ble_eq_true rfl) ?_
  refine va_putF (D := G.1) (ty := tyX7 0) (ci := 7) (C := RX7) (T := TX7) (N := 3) hx hb hF.2.2.2.2 i_wsX70 tyX7 tyX7_ok nmX7 hF.2.2.2.1 hK hP hD hS 0 rfl rfl 0 (by decide) kf_9 (fun _ h9 => h9) rfl (hinit rfl) rfl (tyX7_ok 0 (by decide)) rfl rfl (Nat.le_of_ble_eq_true rfl) dX7_init_9 (fun H locs hP hD hS => ?_)
  have hP : va_P G.1 vwCl [(h0, .inr (7, [.ref q_1, .null, .int (zI 0)])), (q_1, .inl (G.2.1.1, 6, .inl (aI (fun _ => 0))))] H := hP
  have hD : va_D A [(h0, .inr (7, [.ref q_1, .null, .int (zI 0)])), (q_1, .inl (G.2.1.1, 6, .inl (aI (fun _ => 0))))] := hD
  refine lv_aload_n hx hb dX7_init_12 rfl (lv_at hl 0 rfl) ?_
  refine z_bipush hF dX7_init_13 (by decide) ?_
  refine z_newaj hF ka_long hK hP hD hS hA (N := 6) (by decide) (by decide) rfl rfl rfl dX7_init_15 (fun q_2 H hP hD hS => ?_)
  have hP : va_P G.1 vwCl [(h0, .inr (7, [.ref q_1, .null, .int (zI 0)])), (q_1, .inl (G.2.1.1, 6, .inl (aI (fun _ => 0)))), (q_2, .inl (G.2.1.2.1, 6, .inr (.inl (aL (fun _ => 0)))))] H := hP
  have hD : va_D A [(h0, .inr (7, [.ref q_1, .null, .int (zI 0)])), (q_1, .inl (G.2.1.1, 6, .inl (aI (fun _ => 0)))), (q_2, .inl (G.2.1.2.1, 6, .inr (.inl (aL (fun _ => 0)))))] := hD
  refine W.widen (k := 2) (n := 12) (Nat.le_of_ble_eq_true rfl) (Nat.le_of_ble_eq_true rfl) ?_
  refine va_putF (D := G.1) (ty := tyX7 1) (ci := 7) (C := RX7) (T := TX7) (N := 3) hx hb hF.2.2.2.2 i_wsX70 tyX7 tyX7_ok nmX7 hF.2.2.2.1 hK hP hD hS 0 rfl rfl 1 (by decide) kf_13 (fun _ h9 => h9) rfl (hinit rfl) rfl (tyX7_ok 1 (by decide)) rfl rfl (Nat.le_of_ble_eq_true rfl) dX7_init_17 (fun H locs hP hD hS => ?_)
  have hP : va_P G.1 vwCl [(h0, .inr (7, [.ref q_1, .ref q_2, .int (zI 0)])), (q_1, .inl (G.2.1.1, 6, .inl (aI (fun _ => 0)))), (q_2, .inl (G.2.1.2.1, 6, .inr (.inl (aL (fun _ => 0)))))] H := hP
  have hD : va_D A [(h0, .inr (7, [.ref q_1, .ref q_2, .int (zI 0)])), (q_1, .inl (G.2.1.1, 6, .inl (aI (fun _ => 0)))), (q_2, .inl (G.2.1.2.1, 6, .inr (.inl (aL (fun _ => 0)))))] := hD
  refine lv_aload_n hx hb dX7_init_20 rfl (lv_at hl 0 rfl) ?_
  refine z_iconst hF dX7_init_21 ?_
  refine z_put (k := 2) hF hK hP hD hS 0 rfl rfl i_wsX70 (by decide) tyX7 tyX7_ok nmX7 rfl kf_17 rfl rfl (Nat.le_of_ble_eq_true rfl) dX7_init_22 (fun H locs hP hD hS => ?_)
  have hP : va_P G.1 vwCl [(h0, .inr (7, [.ref q_1, .ref q_2, .int (zI 0)])), (q_1, .inl (G.2.1.1, 6, .inl (aI (fun _ => 0)))), (q_2, .inl (G.2.1.2.1, 6, .inr (.inl (aL (fun _ => 0)))))] H := hP
  have hD : va_D A [(h0, .inr (7, [.ref q_1, .ref q_2, .int (zI 0)])), (q_1, .inl (G.2.1.1, 6, .inl (aI (fun _ => 0)))), (q_2, .inl (G.2.1.2.1, 6, .inr (.inl (aL (fun _ => 0)))))] := hD
  rw [hQ]
  refine W.widen (k := 2) (n := 12) (Nat.le_of_ble_eq_true rfl) (Nat.le_of_ble_eq_true rfl) ?_
  exact z_vret hF hr hlocks (q_1, q_2) (trivial) hP hK hD hS dX7_init_25
set_option maxHeartbeats 4000000 in
set_option maxRecDepth 100000 in
theorem c_X7_size (l : Launch) (G : wG) (h0 a0 b0 : Nat) (se ba : Int → Int) (sz0 : Int)  (z9 : Nat) : Met l yX7_size wsX7_size (rmL 1 0 0) (wPc G [(h0, .inr (7, [.ref a0, .ref b0, .int (zI sz0)])), (a0, .inl (G.2.1.1, 6, .inl (aI se))), (b0, .inl (G.2.1.2.1, 6, .inr (.inl (aL ba))))] z9 [.ref h0]) (wQi G (fun (r : Int32) (u : Unit) => r = zI sz0) (fun (u : Unit) => [(h0, .inr (7, [.ref a0, .ref b0, .int (zI sz0)])), (a0, .inl (G.2.1.1, 6, .inl (aI se))), (b0, .inl (G.2.1.2.1, 6, .inr (.inl (aL ba))))]) (va_A [(h0, .inr (7, [.ref a0, .ref b0, .int (zI sz0)])), (a0, .inl (G.2.1.1, 6, .inl (aI se))), (b0, .inl (G.2.1.2.1, 6, .inr (.inl (aL ba))))] z9)) 0 0 (va_A [(h0, .inr (7, [.ref a0, .ref b0, .int (zI sz0)])), (a0, .inl (G.2.1.1, 6, .inl (aI se))), (b0, .inl (G.2.1.2.1, 6, .inr (.inl (aL ba))))] z9) := by
  refine z_ofW (Qc := fun A => wQi G (fun (r : Int32) (u : Unit) => r = zI sz0) (fun (u : Unit) => [(h0, .inr (7, [.ref a0, .ref b0, .int (zI sz0)])), (a0, .inl (G.2.1.1, 6, .inl (aI se))), (b0, .inl (G.2.1.2.1, 6, .inr (.inl (aL ba))))]) A) l G [(h0, .inr (7, [.ref a0, .ref b0, .int (zI sz0)])), (a0, .inl (G.2.1.1, 6, .inl (aI se))), (b0, .inl (G.2.1.2.1, 6, .inr (.inl (aL ba))))] [.ref h0] (by decide) rfl rfl ?_ z9
  intro p e s m args below meth c A ls H locs hF hr hlocks hinit hP hK hD hA hS hBd hl
  have hF : wFx p m c cX7_size 1 s args wsX7_size RX7 := hF
  have hl : lv_has ls 1 [(0, .ref h0)] := hl
  have hx := hF.1
  have hb := hF.2.1
  obtain ⟨Q0, hQ⟩ : ∃ q, q = (MQ below (wQi G (fun (r : Int32) (u : Unit) => r = zI sz0) (fun (u : Unit) => [(h0, .inr (7, [.ref a0, .ref b0, .int (zI sz0)])), (a0, .inl (G.2.1.1, 6, .inl (aI se))), (b0, .inl (G.2.1.2.1, 6, .inr (.inl (aL ba))))]) A) args s 0 0 A) := ⟨_, rfl⟩
  rw [← hQ]
  have i_wsX70 : ∀ w ∈ wsX70, w ∈ wsX7_size := (fun _ h => (List.mem_cons_of_mem _ (List.mem_append_right _ h)))
  have kf_17 : (Cond.fieldLink RX7 17 "Gammonry$Table" "size" "I").before args s = true := hF.2.2.2.2 _ (List.mem_cons_of_mem _ (List.mem_append_left _ (List.mem_of_getElem? (i := 0) rfl)))
  refine lv_aload_n hx hb dX7_size_0 rfl (lv_at hl 0 rfl) ?_
  refine z_get (k := 2) hF hK hP 0 rfl rfl i_wsX70 (by decide) kf_17 rfl dX7_size_1 ?_
  rw [hQ]
  exact z_iret hF hr hlocks () (rfl) hP hK hD hS dX7_size_4
set_option maxHeartbeats 4000000 in
set_option maxRecDepth 100000 in
theorem c_X7_invite (l : Launch) (G : wG) (h0 a0 b0 : Nat) (se ba : Int → Int) (sz0 : Int) (pl : Int)  (hpl : 0 ≤ pl ∧ pl ≤ 6) (z9 : Nat) : Met l yX7_invite wsX7_invite (rmL 2 0 0) (wPc G [(h0, .inr (7, [.ref a0, .ref b0, .int (zI sz0)])), (a0, .inl (G.2.1.1, 6, .inl (aI se))), (b0, .inl (G.2.1.2.1, 6, .inr (.inl (aL ba))))] z9 [.ref h0, .int (zI pl)]) (wQv G (fun (u : Unit) => True) (fun (u : Unit) => [(h0, .inr (7, [.ref a0, .ref b0, .int (zI pl)])), (a0, .inl (G.2.1.1, 6, .inl (aI (fun k => k)))), (b0, .inl (G.2.1.2.1, 6, .inr (.inl (aL (fun _ => 0)))))]) (va_A [(h0, .inr (7, [.ref a0, .ref b0, .int (zI sz0)])), (a0, .inl (G.2.1.1, 6, .inl (aI se))), (b0, .inl (G.2.1.2.1, 6, .inr (.inl (aL ba))))] z9)) 0 0 (va_A [(h0, .inr (7, [.ref a0, .ref b0, .int (zI sz0)])), (a0, .inl (G.2.1.1, 6, .inl (aI se))), (b0, .inl (G.2.1.2.1, 6, .inr (.inl (aL ba))))] z9) := by
  refine z_ofW (Qc := fun A => wQv G (fun (u : Unit) => True) (fun (u : Unit) => [(h0, .inr (7, [.ref a0, .ref b0, .int (zI pl)])), (a0, .inl (G.2.1.1, 6, .inl (aI (fun k => k)))), (b0, .inl (G.2.1.2.1, 6, .inr (.inl (aL (fun _ => 0)))))]) A) l G [(h0, .inr (7, [.ref a0, .ref b0, .int (zI sz0)])), (a0, .inl (G.2.1.1, 6, .inl (aI se))), (b0, .inl (G.2.1.2.1, 6, .inr (.inl (aL ba))))] [.ref h0, .int (zI pl)] (by decide) rfl rfl ?_ z9
  intro p e s m args below meth c A ls H locs hF hr hlocks hinit hP hK hD hA hS hBd hl
  have hF : wFx p m c cX7_invite 3 s args wsX7_invite RX7 := hF
  have hl : lv_has ls 3 [(0, .ref h0), (1, .int (zI pl))] := hl
  have hx := hF.1
  have hb := hF.2.1
  obtain ⟨Q0, hQ⟩ : ∃ q, q = (MQ below (wQv G (fun (u : Unit) => True) (fun (u : Unit) => [(h0, .inr (7, [.ref a0, .ref b0, .int (zI pl)])), (a0, .inl (G.2.1.1, 6, .inl (aI (fun k => k)))), (b0, .inl (G.2.1.2.1, 6, .inr (.inl (aL (fun _ => 0)))))]) A) args s 0 0 A) := ⟨_, rfl⟩
  rw [← hQ]
  have i_wsX70 : ∀ w ∈ wsX70, w ∈ wsX7_invite := (fun _ h => (List.mem_cons_of_mem _ (List.mem_append_right _ h)))
  have kf_13 : (Cond.fieldLink RX7 13 "Gammonry$Table" "balances" "[J").before args s = true := hF.2.2.2.2 _ (List.mem_cons_of_mem _ (List.mem_append_left _ (List.mem_of_getElem? (i := 9) rfl)))
  have kf_17 : (Cond.fieldLink RX7 17 "Gammonry$Table" "size" "I").before args s = true := hF.2.2.2.2 _ (List.mem_cons_of_mem _ (List.mem_append_left _ (List.mem_of_getElem? (i := 7) rfl)))
  have kf_9 : (Cond.fieldLink RX7 9 "Gammonry$Table" "seats" "[I").before args s = true := hF.2.2.2.2 _ (List.mem_cons_of_mem _ (List.mem_append_left _ (List.mem_of_getElem? (i := 8) rfl)))
  have km_21 : (Cond.methodLink RX7 21 Lib.Math.max.name).before args s = true := hF.2.2.2.2 _ (List.mem_cons_of_mem _ (List.mem_append_left _ (List.mem_of_getElem? (i := 0) rfl)))
  have km_27 : (Cond.methodLink RX7 27 Lib.Math.min.name).before args s = true := hF.2.2.2.2 _ (List.mem_cons_of_mem _ (List.mem_append_left _ (List.mem_of_getElem? (i := 4) rfl)))
  have kq_max : (Cond.code Lib.Math.max.name Lib.Math.max.code 2 (some .int)).before args s = true := hF.2.2.2.2 _ (List.mem_cons_of_mem _ (List.mem_append_left _ (List.mem_of_getElem? (i := 3) rfl)))
  have kq_min : (Cond.code Lib.Math.min.name Lib.Math.min.code 2 (some .int)).before args s = true := hF.2.2.2.2 _ (List.mem_cons_of_mem _ (List.mem_append_left _ (List.mem_of_getElem? (i := 6) rfl)))
  have ks_max : (Cond.static Lib.Math.max.name).before args s = true := hF.2.2.2.2 _ (List.mem_cons_of_mem _ (List.mem_append_left _ (List.mem_of_getElem? (i := 1) rfl)))
  have ks_min : (Cond.static Lib.Math.min.name).before args s = true := hF.2.2.2.2 _ (List.mem_cons_of_mem _ (List.mem_append_left _ (List.mem_of_getElem? (i := 5) rfl)))
  have kt_Math : (Cond.initialized "java/lang/Math").before args s = true := hF.2.2.2.2 _ (List.mem_cons_of_mem _ (List.mem_append_left _ (List.mem_of_getElem? (i := 2) rfl)))
  refine lv_aload_n hx hb dX7_invite_0 rfl (lv_at hl 0 rfl) ?_
  refine lv_iload_n hx hb dX7_invite_1 rfl (lv_at hl 1 rfl) ?_
  refine z_iconst hF dX7_invite_2 ?_
  refine z_max hF km_21 ks_max kt_Math kq_max hl.1 (Nat.le_of_ble_eq_true rfl) (Nat.le_of_ble_eq_true rfl) (Nat.le_of_ble_eq_true rfl) (Nat.le_of_ble_eq_true rfl) (by omega) (by decide) dX7_invite_3 ?_
  refine z_tz (b := pl) (by unfold zmax; rw [if_neg (by omega)]) ?_
  refine z_bipush hF dX7_invite_6 (by decide) ?_
  refine z_min hF km_27 ks_min kt_Math kq_min hl.1 (Nat.le_of_ble_eq_true rfl) (Nat.le_of_ble_eq_true rfl) (Nat.le_of_ble_eq_true rfl) (Nat.le_of_ble_eq_true rfl) (by omega) (by decide) dX7_invite_8 ?_
  refine z_tz (b := pl) (by unfold zmin; rw [if_neg (by omega)]) ?_
  refine z_put (k := 2) hF hK hP hD hS 0 rfl rfl i_wsX70 (by decide) tyX7 tyX7_ok nmX7 rfl kf_17 rfl rfl (Nat.le_of_ble_eq_true rfl) dX7_invite_11 (fun H locs hP hD hS => ?_)
  have hP : va_P G.1 vwCl [(h0, .inr (7, [.ref a0, .ref b0, .int (zI pl)])), (a0, .inl (G.2.1.1, 6, .inl (aI se))), (b0, .inl (G.2.1.2.1, 6, .inr (.inl (aL ba))))] H := hP
  have hD : va_D A [(h0, .inr (7, [.ref a0, .ref b0, .int (zI pl)])), (a0, .inl (G.2.1.1, 6, .inl (aI se))), (b0, .inl (G.2.1.2.1, 6, .inr (.inl (aL ba))))] := hD
  refine z_iconst hF dX7_invite_14 ?_
  refine lv_istore_n (lv' := [(2, .int (zI 0)), (0, .ref h0), (1, .int (zI pl))]) hx hb dX7_invite_15 rfl hl (by decide) rfl (fun ls hl => ?_)
  have L16 : ∀ (n9 : Nat) (i : Int), (6 - i).toNat < n9 → (0 ≤ i ∧ i ≤ 6) → ∀ (H : Heap) (locs : List Loc) (ls : Array Slot), va_P G.1 vwCl [(h0, .inr (7, [.ref a0, .ref b0, .int (zI pl)])), (a0, .inl (G.2.1.1, 6, .inl (aI (fl (fun k => k) se i)))), (b0, .inl (G.2.1.2.1, 6, .inr (.inl (aL (fl (fun _ => 0) ba i)))))] H → va_D A [(h0, .inr (7, [.ref a0, .ref b0, .int (zI pl)])), (a0, .inl (G.2.1.1, 6, .inl (aI (fl (fun k => k) se i)))), (b0, .inl (G.2.1.2.1, 6, .inr (.inl (aL (fl (fun _ => 0) ba i)))))] → va_S A s.heap H locs → lv_has ls 3 [(0, .ref h0), (2, .int (zI i))] → W p l e (rmL 2 0 0) s m args below meth c H locs 0 0 Q0 (F0 m 16 ls []) := by
    intro n9
    induction n9 with
    | zero => intro i hmu; omega
    | succ n9 ih16 =>
      intro i hmu16 hzi H locs ls hP hD hS hl
      refine lv_iload_n hx hb dX7_invite_16 rfl (lv_at hl 1 rfl) ?_
      refine z_bipush hF dX7_invite_17 (by decide) ?_
      refine z_icmp_ge (tgt := 42) hF dX7_invite_19 (by decide) (by omega) (by decide) (fun c_1 => ?_) (fun c_1 => ?_)
      · have hc_19 := c_1
        have hP : va_P G.1 vwCl [(h0, .inr (7, [.ref a0, .ref b0, .int (zI pl)])), (a0, .inl (G.2.1.1, 6, .inl (aI (fun k => k)))), (b0, .inl (G.2.1.2.1, 6, .inr (.inl (aL (fl (fun _ => 0) ba i)))))] H := z_ext (q := 1) (g := (fun k => k)) hP rfl (fun k h0 h1 => by unfold fl; rw [if_pos ⟨h0, by omega⟩])
        have hD : va_D A [(h0, .inr (7, [.ref a0, .ref b0, .int (zI pl)])), (a0, .inl (G.2.1.1, 6, .inl (aI (fun k => k)))), (b0, .inl (G.2.1.2.1, 6, .inr (.inl (aL (fl (fun _ => 0) ba i)))))] := va_D_cell (q := 1) hD rfl
        have hP : va_P G.1 vwCl [(h0, .inr (7, [.ref a0, .ref b0, .int (zI pl)])), (a0, .inl (G.2.1.1, 6, .inl (aI (fun k => k)))), (b0, .inl (G.2.1.2.1, 6, .inr (.inl (aL (fun _ => 0)))))] H := z_extJ (q := 2) (g := (fun _ => 0)) hP rfl (fun k h0 h1 => by unfold fl; rw [if_pos ⟨h0, by omega⟩])
        have hD : va_D A [(h0, .inr (7, [.ref a0, .ref b0, .int (zI pl)])), (a0, .inl (G.2.1.1, 6, .inl (aI (fun k => k)))), (b0, .inl (G.2.1.2.1, 6, .inr (.inl (aL (fun _ => 0)))))] := va_D_cell (q := 2) hD rfl
        rw [hQ]
        exact z_vret hF hr hlocks () (trivial) hP hK hD hS dX7_invite_42
      · have hc_19 := c_1
        refine lv_aload_n hx hb dX7_invite_22 rfl (lv_at hl 0 rfl) ?_
        refine z_get (k := 0) hF hK hP 0 rfl rfl i_wsX70 (by decide) kf_9 rfl dX7_invite_23 ?_
        refine lv_iload_n hx hb dX7_invite_26 rfl (lv_at hl 1 rfl) ?_
        refine lv_iload_n hx hb dX7_invite_27 rfl (lv_at hl 1 rfl) ?_
        refine z_iast hF hK hP hD hS 1 rfl (by omega) rfl dX7_invite_28 (fun H locs hP hD hS => ?_)
        have hP : va_P G.1 vwCl [(h0, .inr (7, [.ref a0, .ref b0, .int (zI pl)])), (a0, .inl (G.2.1.1, 6, .inl (aI (up (fl (fun k => k) se i) i i)))), (b0, .inl (G.2.1.2.1, 6, .inr (.inl (aL (fl (fun _ => 0) ba i)))))] H := hP
        have hD : va_D A [(h0, .inr (7, [.ref a0, .ref b0, .int (zI pl)])), (a0, .inl (G.2.1.1, 6, .inl (aI (up (fl (fun k => k) se i) i i)))), (b0, .inl (G.2.1.2.1, 6, .inr (.inl (aL (fl (fun _ => 0) ba i)))))] := hD
        rw [show up (fl (fun k => k) se i) i i = fl (fun k => k) se (i + 1) from (fl_s (fun k => k) se hzi.1)] at hP hD
        refine lv_aload_n hx hb dX7_invite_29 rfl (lv_at hl 0 rfl) ?_
        refine z_get (k := 1) hF hK hP 0 rfl rfl i_wsX70 (by decide) kf_13 rfl dX7_invite_30 ?_
        refine lv_iload_n hx hb dX7_invite_33 rfl (lv_at hl 1 rfl) ?_
        refine z_lconst hF dX7_invite_34 ?_
        refine z_tzl (b := 0) rfl ?_
        refine z_last hF hK hP hD hS 2 rfl (by omega) rfl dX7_invite_35 (fun H locs hP hD hS => ?_)
        have hP : va_P G.1 vwCl [(h0, .inr (7, [.ref a0, .ref b0, .int (zI pl)])), (a0, .inl (G.2.1.1, 6, .inl (aI (fl (fun k => k) se (i + 1))))), (b0, .inl (G.2.1.2.1, 6, .inr (.inl (aL (up (fl (fun _ => 0) ba i) i 0)))))] H := hP
        have hD : va_D A [(h0, .inr (7, [.ref a0, .ref b0, .int (zI pl)])), (a0, .inl (G.2.1.1, 6, .inl (aI (fl (fun k => k) se (i + 1))))), (b0, .inl (G.2.1.2.1, 6, .inr (.inl (aL (up (fl (fun _ => 0) ba i) i 0)))))] := hD
        rw [show up (fl (fun _ => 0) ba i) i 0 = fl (fun _ => 0) ba (i + 1) from (fl_s (fun _ => 0) ba hzi.1)] at hP hD
        refine z_iinc (lv' := [(2, .int (zI (i + 1))), (0, .ref h0)]) hF dX7_invite_36 hl (k := 1) rfl (by decide) rfl (fun ls hl => ?_)
        refine z_goto (tgt := 16) hF dX7_invite_39 (by decide) ?_
        exact ih16 (i + 1) (by omega) (by omega) H locs ls hP hD hS (lv_sub hl [1, 0] rfl)
  rw [show aI se = aI (fl (fun k => k) se 0) by rw [fl_0], show aL ba = aL (fl (fun _ => 0) ba 0) by rw [fl_0]] at hP hD
  exact L16 _ 0 (Nat.lt_succ_self _) (by omega) H locs ls hP hD hS (lv_sub hl [1, 0] rfl)
set_option maxHeartbeats 4000000 in
set_option maxRecDepth 100000 in
theorem c_X7_playerAt (l : Launch) (G : wG) (h0 a0 b0 : Nat) (se ba : Int → Int) (sz0 : Int) (pl : Int)  (hp5 : 0 ≤ pl ∧ pl ≤ 5) (z9 : Nat) : Met l yX7_playerAt wsX7_playerAt (rmL 1 0 0) (wPc G [(h0, .inr (7, [.ref a0, .ref b0, .int (zI sz0)])), (a0, .inl (G.2.1.1, 6, .inl (aI se))), (b0, .inl (G.2.1.2.1, 6, .inr (.inl (aL ba))))] z9 [.ref h0, .int (zI pl)]) (wQi G (fun (r : Int32) (u : Unit) => r = zI (se pl)) (fun (u : Unit) => [(h0, .inr (7, [.ref a0, .ref b0, .int (zI sz0)])), (a0, .inl (G.2.1.1, 6, .inl (aI se))), (b0, .inl (G.2.1.2.1, 6, .inr (.inl (aL ba))))]) (va_A [(h0, .inr (7, [.ref a0, .ref b0, .int (zI sz0)])), (a0, .inl (G.2.1.1, 6, .inl (aI se))), (b0, .inl (G.2.1.2.1, 6, .inr (.inl (aL ba))))] z9)) 0 0 (va_A [(h0, .inr (7, [.ref a0, .ref b0, .int (zI sz0)])), (a0, .inl (G.2.1.1, 6, .inl (aI se))), (b0, .inl (G.2.1.2.1, 6, .inr (.inl (aL ba))))] z9) := by
  refine z_ofW (Qc := fun A => wQi G (fun (r : Int32) (u : Unit) => r = zI (se pl)) (fun (u : Unit) => [(h0, .inr (7, [.ref a0, .ref b0, .int (zI sz0)])), (a0, .inl (G.2.1.1, 6, .inl (aI se))), (b0, .inl (G.2.1.2.1, 6, .inr (.inl (aL ba))))]) A) l G [(h0, .inr (7, [.ref a0, .ref b0, .int (zI sz0)])), (a0, .inl (G.2.1.1, 6, .inl (aI se))), (b0, .inl (G.2.1.2.1, 6, .inr (.inl (aL ba))))] [.ref h0, .int (zI pl)] (by decide) rfl rfl ?_ z9
  intro p e s m args below meth c A ls H locs hF hr hlocks hinit hP hK hD hA hS hBd hl
  have hF : wFx p m c cX7_playerAt 2 s args wsX7_playerAt RX7 := hF
  have hl : lv_has ls 2 [(0, .ref h0), (1, .int (zI pl))] := hl
  have hx := hF.1
  have hb := hF.2.1
  obtain ⟨Q0, hQ⟩ : ∃ q, q = (MQ below (wQi G (fun (r : Int32) (u : Unit) => r = zI (se pl)) (fun (u : Unit) => [(h0, .inr (7, [.ref a0, .ref b0, .int (zI sz0)])), (a0, .inl (G.2.1.1, 6, .inl (aI se))), (b0, .inl (G.2.1.2.1, 6, .inr (.inl (aL ba))))]) A) args s 0 0 A) := ⟨_, rfl⟩
  rw [← hQ]
  have i_wsX70 : ∀ w ∈ wsX70, w ∈ wsX7_playerAt := (fun _ h => (List.mem_cons_of_mem _ (List.mem_append_right _ h)))
  have kf_9 : (Cond.fieldLink RX7 9 "Gammonry$Table" "seats" "[I").before args s = true := hF.2.2.2.2 _ (List.mem_cons_of_mem _ (List.mem_append_left _ (List.mem_of_getElem? (i := 0) rfl)))
  refine lv_iload_n hx hb dX7_playerAt_0 rfl (lv_at hl 1 rfl) ?_
  refine z_if_lt (tgt := 19) hF dX7_playerAt_1 (by decide) (by omega) (fun c_1 => ?_) (fun c_1 => ?_)
  · exfalso; omega
  · have hc_1 := c_1
    refine lv_iload_n hx hb dX7_playerAt_4 rfl (lv_at hl 1 rfl) ?_
    refine z_bipush hF dX7_playerAt_5 (by decide) ?_
    refine z_icmp_ge (tgt := 19) hF dX7_playerAt_7 (by decide) (by omega) (by decide) (fun c_2 => ?_) (fun c_2 => ?_)
    · exfalso; omega
    · have hc_7 := c_2
      refine lv_aload_n hx hb dX7_playerAt_10 rfl (lv_at hl 0 rfl) ?_
      refine z_get (k := 0) hF hK hP 0 rfl rfl i_wsX70 (by decide) kf_9 rfl dX7_playerAt_11 ?_
      refine lv_iload_n hx hb dX7_playerAt_14 rfl (lv_at hl 1 rfl) ?_
      refine z_iald hF hK hP 1 rfl (by omega) rfl dX7_playerAt_15 ?_
      refine z_goto (tgt := 20) hF dX7_playerAt_16 (by decide) ?_
      rw [hQ]
      exact z_iret hF hr hlocks () (rfl) hP hK hD hS dX7_playerAt_20
set_option maxHeartbeats 4000000 in
set_option maxRecDepth 100000 in
theorem c_X7_balanceOf (l : Launch) (G : wG) (h0 a0 b0 : Nat) (se ba : Int → Int) (sz0 : Int) (pl : Int)  (hp5 : 0 ≤ pl ∧ pl ≤ 5) (z9 : Nat) : Met l yX7_balanceOf wsX7_balanceOf (rmL 1 0 0) (wPc G [(h0, .inr (7, [.ref a0, .ref b0, .int (zI sz0)])), (a0, .inl (G.2.1.1, 6, .inl (aI se))), (b0, .inl (G.2.1.2.1, 6, .inr (.inl (aL ba))))] z9 [.ref h0, .int (zI pl)]) (wQl G (fun (r : Int64) (u : Unit) => r = zL (ba pl)) (fun (u : Unit) => [(h0, .inr (7, [.ref a0, .ref b0, .int (zI sz0)])), (a0, .inl (G.2.1.1, 6, .inl (aI se))), (b0, .inl (G.2.1.2.1, 6, .inr (.inl (aL ba))))]) (va_A [(h0, .inr (7, [.ref a0, .ref b0, .int (zI sz0)])), (a0, .inl (G.2.1.1, 6, .inl (aI se))), (b0, .inl (G.2.1.2.1, 6, .inr (.inl (aL ba))))] z9)) 0 0 (va_A [(h0, .inr (7, [.ref a0, .ref b0, .int (zI sz0)])), (a0, .inl (G.2.1.1, 6, .inl (aI se))), (b0, .inl (G.2.1.2.1, 6, .inr (.inl (aL ba))))] z9) := by
  refine z_ofW (Qc := fun A => wQl G (fun (r : Int64) (u : Unit) => r = zL (ba pl)) (fun (u : Unit) => [(h0, .inr (7, [.ref a0, .ref b0, .int (zI sz0)])), (a0, .inl (G.2.1.1, 6, .inl (aI se))), (b0, .inl (G.2.1.2.1, 6, .inr (.inl (aL ba))))]) A) l G [(h0, .inr (7, [.ref a0, .ref b0, .int (zI sz0)])), (a0, .inl (G.2.1.1, 6, .inl (aI se))), (b0, .inl (G.2.1.2.1, 6, .inr (.inl (aL ba))))] [.ref h0, .int (zI pl)] (by decide) rfl rfl ?_ z9
  intro p e s m args below meth c A ls H locs hF hr hlocks hinit hP hK hD hA hS hBd hl
  have hF : wFx p m c cX7_balanceOf 2 s args wsX7_balanceOf RX7 := hF
  have hl : lv_has ls 2 [(0, .ref h0), (1, .int (zI pl))] := hl
  have hx := hF.1
  have hb := hF.2.1
  obtain ⟨Q0, hQ⟩ : ∃ q, q = (MQ below (wQl G (fun (r : Int64) (u : Unit) => r = zL (ba pl)) (fun (u : Unit) => [(h0, .inr (7, [.ref a0, .ref b0, .int (zI sz0)])), (a0, .inl (G.2.1.1, 6, .inl (aI se))), (b0, .inl (G.2.1.2.1, 6, .inr (.inl (aL ba))))]) A) args s 0 0 A) := ⟨_, rfl⟩
  rw [← hQ]
  have i_wsX70 : ∀ w ∈ wsX70, w ∈ wsX7_balanceOf := (fun _ h => (List.mem_cons_of_mem _ (List.mem_append_right _ h)))
  have kf_13 : (Cond.fieldLink RX7 13 "Gammonry$Table" "balances" "[J").before args s = true := hF.2.2.2.2 _ (List.mem_cons_of_mem _ (List.mem_append_left _ (List.mem_of_getElem? (i := 0) rfl)))
  refine lv_iload_n hx hb dX7_balanceOf_0 rfl (lv_at hl 1 rfl) ?_
  refine z_if_lt (tgt := 19) hF dX7_balanceOf_1 (by decide) (by omega) (fun c_1 => ?_) (fun c_1 => ?_)
  · exfalso; omega
  · have hc_1 := c_1
    refine lv_iload_n hx hb dX7_balanceOf_4 rfl (lv_at hl 1 rfl) ?_
    refine z_bipush hF dX7_balanceOf_5 (by decide) ?_
    refine z_icmp_ge (tgt := 19) hF dX7_balanceOf_7 (by decide) (by omega) (by decide) (fun c_2 => ?_) (fun c_2 => ?_)
    · exfalso; omega
    · have hc_7 := c_2
      refine lv_aload_n hx hb dX7_balanceOf_10 rfl (lv_at hl 0 rfl) ?_
      refine z_get (k := 1) hF hK hP 0 rfl rfl i_wsX70 (by decide) kf_13 rfl dX7_balanceOf_11 ?_
      refine lv_iload_n hx hb dX7_balanceOf_14 rfl (lv_at hl 1 rfl) ?_
      refine z_lald hF hK hP 2 rfl (by omega) rfl dX7_balanceOf_15 ?_
      refine z_goto (tgt := 20) hF dX7_balanceOf_16 (by decide) ?_
      rw [hQ]
      exact z_lret hF hr hlocks () (rfl) hP hK hD hS dX7_balanceOf_20
set_option maxHeartbeats 4000000 in
set_option maxRecDepth 100000 in
theorem c_X7_sum (l : Launch) (G : wG) (h0 a0 b0 : Nat) (se ba : Int → Int) (sz0 : Int)  (z9 : Nat) : Met l yX7_sum wsX7_sum (rmL 1 0 0) (wPc G [(h0, .inr (7, [.ref a0, .ref b0, .int (zI sz0)])), (a0, .inl (G.2.1.1, 6, .inl (aI se))), (b0, .inl (G.2.1.2.1, 6, .inr (.inl (aL ba))))] z9 [.ref h0]) (wQl G (fun (r : Int64) (u : Unit) => r = zL (sz ba 6)) (fun (u : Unit) => [(h0, .inr (7, [.ref a0, .ref b0, .int (zI sz0)])), (a0, .inl (G.2.1.1, 6, .inl (aI se))), (b0, .inl (G.2.1.2.1, 6, .inr (.inl (aL ba))))]) (va_A [(h0, .inr (7, [.ref a0, .ref b0, .int (zI sz0)])), (a0, .inl (G.2.1.1, 6, .inl (aI se))), (b0, .inl (G.2.1.2.1, 6, .inr (.inl (aL ba))))] z9)) 0 0 (va_A [(h0, .inr (7, [.ref a0, .ref b0, .int (zI sz0)])), (a0, .inl (G.2.1.1, 6, .inl (aI se))), (b0, .inl (G.2.1.2.1, 6, .inr (.inl (aL ba))))] z9) := by
  refine z_ofW (Qc := fun A => wQl G (fun (r : Int64) (u : Unit) => r = zL (sz ba 6)) (fun (u : Unit) => [(h0, .inr (7, [.ref a0, .ref b0, .int (zI sz0)])), (a0, .inl (G.2.1.1, 6, .inl (aI se))), (b0, .inl (G.2.1.2.1, 6, .inr (.inl (aL ba))))]) A) l G [(h0, .inr (7, [.ref a0, .ref b0, .int (zI sz0)])), (a0, .inl (G.2.1.1, 6, .inl (aI se))), (b0, .inl (G.2.1.2.1, 6, .inr (.inl (aL ba))))] [.ref h0] (by decide) rfl rfl ?_ z9
  intro p e s m args below meth c A ls H locs hF hr hlocks hinit hP hK hD hA hS hBd hl
  have hF : wFx p m c cX7_sum 4 s args wsX7_sum RX7 := hF
  have hl : lv_has ls 4 [(0, .ref h0)] := hl
  have hx := hF.1
  have hb := hF.2.1
  obtain ⟨Q0, hQ⟩ : ∃ q, q = (MQ below (wQl G (fun (r : Int64) (u : Unit) => r = zL (sz ba 6)) (fun (u : Unit) => [(h0, .inr (7, [.ref a0, .ref b0, .int (zI sz0)])), (a0, .inl (G.2.1.1, 6, .inl (aI se))), (b0, .inl (G.2.1.2.1, 6, .inr (.inl (aL ba))))]) A) args s 0 0 A) := ⟨_, rfl⟩
  rw [← hQ]
  have i_wsX70 : ∀ w ∈ wsX70, w ∈ wsX7_sum := (fun _ h => (List.mem_cons_of_mem _ (List.mem_append_right _ h)))
  have kf_13 : (Cond.fieldLink RX7 13 "Gammonry$Table" "balances" "[J").before args s = true := hF.2.2.2.2 _ (List.mem_cons_of_mem _ (List.mem_append_left _ (List.mem_of_getElem? (i := 0) rfl)))
  refine z_lconst hF dX7_sum_0 ?_
  refine z_tzl (b := 0) rfl ?_
  refine lv_lstore_n (lv' := [(1, .long (zL 0)), (0, .ref h0)]) hx hb dX7_sum_1 rfl hl (by decide) rfl (fun ls hl => ?_)
  refine z_iconst hF dX7_sum_2 ?_
  refine lv_istore_n (lv' := [(3, .int (zI 0)), (1, .long (zL 0)), (0, .ref h0)]) hx hb dX7_sum_3 rfl hl (by decide) rfl (fun ls hl => ?_)
  have L4 : ∀ (n9 : Nat) (i sm0 : Int), (6 - i).toNat < n9 → (0 ≤ i ∧ i ≤ 6) → sm0 = sz ba i → ∀ (H : Heap) (locs : List Loc) (ls : Array Slot), va_P G.1 vwCl [(h0, .inr (7, [.ref a0, .ref b0, .int (zI sz0)])), (a0, .inl (G.2.1.1, 6, .inl (aI se))), (b0, .inl (G.2.1.2.1, 6, .inr (.inl (aL ba))))] H → va_D A [(h0, .inr (7, [.ref a0, .ref b0, .int (zI sz0)])), (a0, .inl (G.2.1.1, 6, .inl (aI se))), (b0, .inl (G.2.1.2.1, 6, .inr (.inl (aL ba))))] → va_S A s.heap H locs → lv_has ls 4 [(0, .ref h0), (1, .long (zL sm0)), (3, .int (zI i))] → W p l e (rmL 1 0 0) s m args below meth c H locs 0 0 Q0 (F0 m 4 ls []) := by
    intro n9
    induction n9 with
    | zero => intro i sm0 hmu; omega
    | succ n9 ih4 =>
      intro i sm0 hmu4 hzi hsm H locs ls hP hD hS hl
      refine lv_iload_n hx hb dX7_sum_4 rfl (lv_at hl 2 rfl) ?_
      refine z_bipush hF dX7_sum_5 (by decide) ?_
      refine z_icmp_ge (tgt := 25) hF dX7_sum_7 (by decide) (by omega) (by decide) (fun c_1 => ?_) (fun c_1 => ?_)
      · have hc_7 := c_1
        refine lv_lload_n hx hb dX7_sum_25 rfl (lv_at hl 1 rfl) ?_
        rw [hQ]
        exact z_lret hF hr hlocks () (zL_congr (by rw [hsm, show i = 6 by omega])) hP hK hD hS dX7_sum_26
      · have hc_7 := c_1
        refine lv_lload_n hx hb dX7_sum_10 rfl (lv_at hl 1 rfl) ?_
        refine lv_aload_n hx hb dX7_sum_11 rfl (lv_at hl 0 rfl) ?_
        refine z_get (k := 1) hF hK hP 0 rfl rfl i_wsX70 (by decide) kf_13 rfl dX7_sum_12 ?_
        refine lv_iload_n hx hb dX7_sum_15 rfl (lv_at hl 2 rfl) ?_
        refine z_lald hF hK hP 2 rfl (by omega) rfl dX7_sum_16 ?_
        refine z_ladd hF dX7_sum_17 ?_
        refine lv_lstore_n (lv' := [(1, .long (zL (sm0 + (ba i)))), (0, .ref h0), (3, .int (zI i))]) hx hb dX7_sum_18 rfl hl (by decide) rfl (fun ls hl => ?_)
        refine z_iinc (lv' := [(3, .int (zI (i + 1))), (1, .long (zL (sm0 + (ba i)))), (0, .ref h0)]) hF dX7_sum_19 hl (k := 2) rfl (by decide) rfl (fun ls hl => ?_)
        refine z_goto (tgt := 4) hF dX7_sum_22 (by decide) ?_
        exact ih4 (i + 1) (sm0 + (ba i)) (by omega) (by omega) (by first | rfl | rw [sz_s _ hzi.1, ← hsm]) H locs ls hP hD hS (lv_sub hl [2, 1, 0] rfl)
  exact L4 _ 0 0 (Nat.lt_succ_self _) (by omega) (by first | rfl | rw [sz_s _ hzi.1, ← hsm]) H locs ls hP hD hS (lv_sub hl [2, 1, 0] rfl)
set_option maxHeartbeats 4000000 in
set_option maxRecDepth 100000 in
theorem c_X7_pay (l : Launch) (G : wG) (h0 a0 b0 : Nat) (se ba : Int → Int) (sz0 : Int) (x y v : Int)  (hx5 : 0 ≤ x ∧ x ≤ 5) (hy5 : 0 ≤ y ∧ y ≤ 5) (z9 : Nat) : Met l yX7_pay wsX7_pay (rmL 1 0 0) (wPc G [(h0, .inr (7, [.ref a0, .ref b0, .int (zI sz0)])), (a0, .inl (G.2.1.1, 6, .inl (aI se))), (b0, .inl (G.2.1.2.1, 6, .inr (.inl (aL ba))))] z9 [.ref h0, .int (zI x), .int (zI y), .long (zL v)]) (wQv G (fun (u : Unit) => True) (fun (u : Unit) => [(h0, .inr (7, [.ref a0, .ref b0, .int (zI sz0)])), (a0, .inl (G.2.1.1, 6, .inl (aI se))), (b0, .inl (G.2.1.2.1, 6, .inr (.inl (aL (py ba x y v)))))]) (va_A [(h0, .inr (7, [.ref a0, .ref b0, .int (zI sz0)])), (a0, .inl (G.2.1.1, 6, .inl (aI se))), (b0, .inl (G.2.1.2.1, 6, .inr (.inl (aL ba))))] z9)) 0 0 (va_A [(h0, .inr (7, [.ref a0, .ref b0, .int (zI sz0)])), (a0, .inl (G.2.1.1, 6, .inl (aI se))), (b0, .inl (G.2.1.2.1, 6, .inr (.inl (aL ba))))] z9) := by
  refine z_ofW (Qc := fun A => wQv G (fun (u : Unit) => True) (fun (u : Unit) => [(h0, .inr (7, [.ref a0, .ref b0, .int (zI sz0)])), (a0, .inl (G.2.1.1, 6, .inl (aI se))), (b0, .inl (G.2.1.2.1, 6, .inr (.inl (aL (py ba x y v)))))]) A) l G [(h0, .inr (7, [.ref a0, .ref b0, .int (zI sz0)])), (a0, .inl (G.2.1.1, 6, .inl (aI se))), (b0, .inl (G.2.1.2.1, 6, .inr (.inl (aL ba))))] [.ref h0, .int (zI x), .int (zI y), .long (zL v)] (by decide) rfl rfl ?_ z9
  intro p e s m args below meth c A ls H locs hF hr hlocks hinit hP hK hD hA hS hBd hl
  have hF : wFx p m c cX7_pay 5 s args wsX7_pay RX7 := hF
  have hl : lv_has ls 5 [(0, .ref h0), (1, .int (zI x)), (2, .int (zI y)), (3, .long (zL v))] := hl
  have hx := hF.1
  have hb := hF.2.1
  obtain ⟨Q0, hQ⟩ : ∃ q, q = (MQ below (wQv G (fun (u : Unit) => True) (fun (u : Unit) => [(h0, .inr (7, [.ref a0, .ref b0, .int (zI sz0)])), (a0, .inl (G.2.1.1, 6, .inl (aI se))), (b0, .inl (G.2.1.2.1, 6, .inr (.inl (aL (py ba x y v)))))]) A) args s 0 0 A) := ⟨_, rfl⟩
  rw [← hQ]
  have i_wsX70 : ∀ w ∈ wsX70, w ∈ wsX7_pay := (fun _ h => (List.mem_cons_of_mem _ (List.mem_append_right _ h)))
  have kf_13 : (Cond.fieldLink RX7 13 "Gammonry$Table" "balances" "[J").before args s = true := hF.2.2.2.2 _ (List.mem_cons_of_mem _ (List.mem_append_left _ (List.mem_of_getElem? (i := 0) rfl)))
  refine lv_iload_n hx hb dX7_pay_0 rfl (lv_at hl 1 rfl) ?_
  refine z_if_lt (tgt := 40) hF dX7_pay_1 (by decide) (by omega) (fun c_1 => ?_) (fun c_1 => ?_)
  · exfalso; omega
  · have hc_1 := c_1
    refine lv_iload_n hx hb dX7_pay_4 rfl (lv_at hl 1 rfl) ?_
    refine z_bipush hF dX7_pay_5 (by decide) ?_
    refine z_icmp_ge (tgt := 40) hF dX7_pay_7 (by decide) (by omega) (by decide) (fun c_2 => ?_) (fun c_2 => ?_)
    · exfalso; omega
    · have hc_7 := c_2
      refine lv_iload_n hx hb dX7_pay_10 rfl (lv_at hl 2 rfl) ?_
      refine z_if_lt (tgt := 40) hF dX7_pay_11 (by decide) (by omega) (fun c_3 => ?_) (fun c_3 => ?_)
      · exfalso; omega
      · have hc_11 := c_3
        refine lv_iload_n hx hb dX7_pay_14 rfl (lv_at hl 2 rfl) ?_
        refine z_bipush hF dX7_pay_15 (by decide) ?_
        refine z_icmp_ge (tgt := 40) hF dX7_pay_17 (by decide) (by omega) (by decide) (fun c_4 => ?_) (fun c_4 => ?_)
        · exfalso; omega
        · have hc_17 := c_4
          refine lv_aload_n hx hb dX7_pay_20 rfl (lv_at hl 0 rfl) ?_
          refine z_get (k := 1) hF hK hP 0 rfl rfl i_wsX70 (by decide) kf_13 rfl dX7_pay_21 ?_
          refine lv_iload_n hx hb dX7_pay_24 rfl (lv_at hl 1 rfl) ?_
          refine lv_dup2_11 hx hb dX7_pay_25 rfl rfl ?_
          refine z_lald hF hK hP 2 rfl (by omega) rfl dX7_pay_26 ?_
          refine lv_lload_n hx hb dX7_pay_27 rfl (lv_at hl 3 rfl) ?_
          refine z_lsub hF dX7_pay_28 ?_
          refine z_last hF hK hP hD hS 2 rfl (by omega) rfl dX7_pay_29 (fun H locs hP hD hS => ?_)
          have hP : va_P G.1 vwCl [(h0, .inr (7, [.ref a0, .ref b0, .int (zI sz0)])), (a0, .inl (G.2.1.1, 6, .inl (aI se))), (b0, .inl (G.2.1.2.1, 6, .inr (.inl (aL (up ba x ((ba x) - v))))))] H := hP
          have hD : va_D A [(h0, .inr (7, [.ref a0, .ref b0, .int (zI sz0)])), (a0, .inl (G.2.1.1, 6, .inl (aI se))), (b0, .inl (G.2.1.2.1, 6, .inr (.inl (aL (up ba x ((ba x) - v))))))] := hD
          refine lv_aload_n hx hb dX7_pay_30 rfl (lv_at hl 0 rfl) ?_
          refine z_get (k := 1) hF hK hP 0 rfl rfl i_wsX70 (by decide) kf_13 rfl dX7_pay_31 ?_
          refine lv_iload_n hx hb dX7_pay_34 rfl (lv_at hl 2 rfl) ?_
          refine lv_dup2_11 hx hb dX7_pay_35 rfl rfl ?_
          refine z_lald hF hK hP 2 rfl (by omega) rfl dX7_pay_36 ?_
          refine lv_lload_n hx hb dX7_pay_37 rfl (lv_at hl 3 rfl) ?_
          refine z_ladd hF dX7_pay_38 ?_
          refine z_last hF hK hP hD hS 2 rfl (by omega) rfl dX7_pay_39 (fun H locs hP hD hS => ?_)
          have hP : va_P G.1 vwCl [(h0, .inr (7, [.ref a0, .ref b0, .int (zI sz0)])), (a0, .inl (G.2.1.1, 6, .inl (aI se))), (b0, .inl (G.2.1.2.1, 6, .inr (.inl (aL (up (up ba x ((ba x) - v)) y (((up ba x ((ba x) - v)) y) + v))))))] H := hP
          have hD : va_D A [(h0, .inr (7, [.ref a0, .ref b0, .int (zI sz0)])), (a0, .inl (G.2.1.1, 6, .inl (aI se))), (b0, .inl (G.2.1.2.1, 6, .inr (.inl (aL (up (up ba x ((ba x) - v)) y (((up ba x ((ba x) - v)) y) + v))))))] := hD
          rw [hQ]
          exact z_vret hF hr hlocks () (trivial) hP hK hD hS dX7_pay_40
set_option maxHeartbeats 4000000 in
set_option maxRecDepth 100000 in
theorem c_X7_moveUp (l : Launch) (G : wG) (h0 a0 b0 : Nat) (se ba : Int → Int) (sz0 : Int) (lv : Int)  (hlv : 0 ≤ lv ∧ lv < sz0) (hs6 : 1 ≤ sz0 ∧ sz0 ≤ 6) (z9 : Nat) : Met l yX7_moveUp wsX7_moveUp (rmL 2 0 0) (wPc G [(h0, .inr (7, [.ref a0, .ref b0, .int (zI sz0)])), (a0, .inl (G.2.1.1, 6, .inl (aI se))), (b0, .inl (G.2.1.2.1, 6, .inr (.inl (aL ba))))] z9 [.ref h0, .int (zI lv)]) (wQv G (fun (u : Unit) => True) (fun (u : Unit) => [(h0, .inr (7, [.ref a0, .ref b0, .int (zI sz0)])), (a0, .inl (G.2.1.1, 6, .inl (aI (seN se lv sz0)))), (b0, .inl (G.2.1.2.1, 6, .inr (.inl (aL ba))))]) (va_A [(h0, .inr (7, [.ref a0, .ref b0, .int (zI sz0)])), (a0, .inl (G.2.1.1, 6, .inl (aI se))), (b0, .inl (G.2.1.2.1, 6, .inr (.inl (aL ba))))] z9)) 0 0 (va_A [(h0, .inr (7, [.ref a0, .ref b0, .int (zI sz0)])), (a0, .inl (G.2.1.1, 6, .inl (aI se))), (b0, .inl (G.2.1.2.1, 6, .inr (.inl (aL ba))))] z9) := by
  refine z_ofW (Qc := fun A => wQv G (fun (u : Unit) => True) (fun (u : Unit) => [(h0, .inr (7, [.ref a0, .ref b0, .int (zI sz0)])), (a0, .inl (G.2.1.1, 6, .inl (aI (seN se lv sz0)))), (b0, .inl (G.2.1.2.1, 6, .inr (.inl (aL ba))))]) A) l G [(h0, .inr (7, [.ref a0, .ref b0, .int (zI sz0)])), (a0, .inl (G.2.1.1, 6, .inl (aI se))), (b0, .inl (G.2.1.2.1, 6, .inr (.inl (aL ba))))] [.ref h0, .int (zI lv)] (by decide) rfl rfl ?_ z9
  intro p e s m args below meth c A ls H locs hF hr hlocks hinit hP hK hD hA hS hBd hl
  have hF : wFx p m c cX7_moveUp 4 s args wsX7_moveUp RX7 := hF
  have hl : lv_has ls 4 [(0, .ref h0), (1, .int (zI lv))] := hl
  have hx := hF.1
  have hb := hF.2.1
  obtain ⟨Q0, hQ⟩ : ∃ q, q = (MQ below (wQv G (fun (u : Unit) => True) (fun (u : Unit) => [(h0, .inr (7, [.ref a0, .ref b0, .int (zI sz0)])), (a0, .inl (G.2.1.1, 6, .inl (aI (seN se lv sz0)))), (b0, .inl (G.2.1.2.1, 6, .inr (.inl (aL ba))))]) A) args s 0 0 A) := ⟨_, rfl⟩
  rw [← hQ]
  have i_wsX70 : ∀ w ∈ wsX70, w ∈ wsX7_moveUp := (fun _ h => (List.mem_cons_of_mem _ (List.mem_append_right _ h)))
  have kf_17 : (Cond.fieldLink RX7 17 "Gammonry$Table" "size" "I").before args s = true := hF.2.2.2.2 _ (List.mem_cons_of_mem _ (List.mem_append_left _ (List.mem_of_getElem? (i := 0) rfl)))
  have kf_9 : (Cond.fieldLink RX7 9 "Gammonry$Table" "seats" "[I").before args s = true := hF.2.2.2.2 _ (List.mem_cons_of_mem _ (List.mem_append_left _ (List.mem_of_getElem? (i := 1) rfl)))
  refine lv_aload_n hx hb dX7_moveUp_0 rfl (lv_at hl 0 rfl) ?_
  refine lv_iload_n hx hb dX7_moveUp_1 rfl (lv_at hl 1 rfl) ?_
  refine cj_i (va_runV (As := [.int (zI lv)]) (rest := []) hF (c_X7_playerAt l G h0 a0 b0 se ba sz0 lv  (by omega) H.size) (cwV 1 hF.2.2.2.2 gX7_moveUp_X7_playerAt rfl rfl rfl (by decide +kernel) ⟨Nat.le_of_ble_eq_true rfl, Nat.le_of_ble_eq_true rfl⟩) (z_preV hK hP hD hS hA hBd [0, 1, 2] rfl rfl rfl rfl [.int (zI lv)]) rfl rfl hl.1 rfl (lv_room (Nat.le_of_ble_eq_true rfl)) dX7_moveUp_2 ⟨Nat.le_of_ble_eq_true rfl, Nat.le_of_ble_eq_true rfl⟩) hP hD hS hA [0, 1, 2] rfl (fun _ => Nat.le_of_ble_eq_true rfl) (fun r_2 u_1 H locs hw hP hD hS => ?_)
  have hP : va_P G.1 vwCl [(h0, .inr (7, [.ref a0, .ref b0, .int (zI sz0)])), (a0, .inl (G.2.1.1, 6, .inl (aI se))), (b0, .inl (G.2.1.2.1, 6, .inr (.inl (aL ba))))] H := hP
  have hD : va_D A [(h0, .inr (7, [.ref a0, .ref b0, .int (zI sz0)])), (a0, .inl (G.2.1.1, 6, .inl (aI se))), (b0, .inl (G.2.1.2.1, 6, .inr (.inl (aL ba))))] := hD
  obtain rfl := hw
  refine lv_istore_n (lv' := [(2, .int (zI (se lv))), (0, .ref h0), (1, .int (zI lv))]) hx hb dX7_moveUp_5 rfl hl (by decide) rfl (fun ls hl => ?_)
  refine lv_iload_n hx hb dX7_moveUp_6 rfl (lv_at hl 2 rfl) ?_
  have L8 : ∀ (n9 : Nat) (i : Int), (sz0 - i).toNat < n9 → (lv ≤ i ∧ i ≤ sz0 - 1) → ∀ (H : Heap) (locs : List Loc) (ls : Array Slot), va_P G.1 vwCl [(h0, .inr (7, [.ref a0, .ref b0, .int (zI sz0)])), (a0, .inl (G.2.1.1, 6, .inl (aI (mu se lv i)))), (b0, .inl (G.2.1.2.1, 6, .inr (.inl (aL ba))))] H → va_D A [(h0, .inr (7, [.ref a0, .ref b0, .int (zI sz0)])), (a0, .inl (G.2.1.1, 6, .inl (aI (mu se lv i)))), (b0, .inl (G.2.1.2.1, 6, .inr (.inl (aL ba))))] → va_S A s.heap H locs → lv_has ls 4 [(0, .ref h0), (1, .int (zI lv)), (2, .int (zI (se lv))), (3, .int (zI i))] → W p l e (rmL 2 0 0) s m args below meth c H locs 0 0 Q0 (F0 m 8 ls []) := by
    intro n9
    induction n9 with
    | zero => intro i hmu; omega
    | succ n9 ih8 =>
      intro i hmu8 hzi H locs ls hP hD hS hl
      refine lv_iload_n hx hb dX7_moveUp_8 rfl (lv_at hl 3 rfl) ?_
      refine z_if_lt (tgt := 50) hF dX7_moveUp_9 (by decide) (by omega) (fun c_3 => ?_) (fun c_3 => ?_)
      · exfalso; omega
      · have hc_9 := c_3
        refine lv_iload_n hx hb dX7_moveUp_12 rfl (lv_at hl 3 rfl) ?_
        refine z_iconst hF dX7_moveUp_13 ?_
        refine z_iadd hF dX7_moveUp_14 ?_
        refine lv_aload_n hx hb dX7_moveUp_15 rfl (lv_at hl 0 rfl) ?_
        refine z_get (k := 2) hF hK hP 0 rfl rfl i_wsX70 (by decide) kf_17 rfl dX7_moveUp_16 ?_
        refine z_icmp_ge (tgt := 50) hF dX7_moveUp_19 (by decide) (by omega) (by omega) (fun c_4 => ?_) (fun c_4 => ?_)
        · have hc_19 := c_4
          refine lv_aload_n hx hb dX7_moveUp_50 rfl (lv_at hl 0 rfl) ?_
          refine z_get (k := 2) hF hK hP 0 rfl rfl i_wsX70 (by decide) kf_17 rfl dX7_moveUp_51 ?_
          refine z_iconst hF dX7_moveUp_54 ?_
          refine z_icmp_lt (tgt := 79) hF dX7_moveUp_55 (by decide) (by omega) (by decide) (fun c_5 => ?_) (fun c_5 => ?_)
          · exfalso; omega
          · have hc_55 := c_5
            refine lv_aload_n hx hb dX7_moveUp_58 rfl (lv_at hl 0 rfl) ?_
            refine z_get (k := 2) hF hK hP 0 rfl rfl i_wsX70 (by decide) kf_17 rfl dX7_moveUp_59 ?_
            refine z_bipush hF dX7_moveUp_62 (by decide) ?_
            refine z_icmp_gt (tgt := 79) hF dX7_moveUp_64 (by decide) (by omega) (by decide) (fun c_6 => ?_) (fun c_6 => ?_)
            · exfalso; omega
            · have hc_64 := c_6
              refine lv_aload_n hx hb dX7_moveUp_67 rfl (lv_at hl 0 rfl) ?_
              refine z_get (k := 0) hF hK hP 0 rfl rfl i_wsX70 (by decide) kf_9 rfl dX7_moveUp_68 ?_
              refine lv_aload_n hx hb dX7_moveUp_71 rfl (lv_at hl 0 rfl) ?_
              refine z_get (k := 2) hF hK hP 0 rfl rfl i_wsX70 (by decide) kf_17 rfl dX7_moveUp_72 ?_
              refine z_iconst hF dX7_moveUp_75 ?_
              refine z_isub hF dX7_moveUp_76 ?_
              refine lv_iload_n hx hb dX7_moveUp_77 rfl (lv_at hl 2 rfl) ?_
              refine z_iast hF hK hP hD hS 1 rfl (by omega) rfl dX7_moveUp_78 (fun H locs hP hD hS => ?_)
              have hP : va_P G.1 vwCl [(h0, .inr (7, [.ref a0, .ref b0, .int (zI sz0)])), (a0, .inl (G.2.1.1, 6, .inl (aI (up (mu se lv i) (sz0 - 1) (se lv))))), (b0, .inl (G.2.1.2.1, 6, .inr (.inl (aL ba))))] H := hP
              have hD : va_D A [(h0, .inr (7, [.ref a0, .ref b0, .int (zI sz0)])), (a0, .inl (G.2.1.1, 6, .inl (aI (up (mu se lv i) (sz0 - 1) (se lv))))), (b0, .inl (G.2.1.2.1, 6, .inr (.inl (aL ba))))] := hD
              rw [show up (mu se lv i) (sz0 - 1) (se lv) = seN se lv sz0 from (by unfold seN; rw [show i = sz0 - 1 by omega])] at hP hD
              rw [hQ]
              exact z_vret hF hr hlocks () (trivial) hP hK hD hS dX7_moveUp_79
        · have hc_19 := c_4
          refine lv_iload_n hx hb dX7_moveUp_22 rfl (lv_at hl 3 rfl) ?_
          refine z_iconst hF dX7_moveUp_23 ?_
          refine z_iadd hF dX7_moveUp_24 ?_
          refine z_bipush hF dX7_moveUp_25 (by decide) ?_
          refine z_icmp_ge (tgt := 50) hF dX7_moveUp_27 (by decide) (by omega) (by decide) (fun c_7 => ?_) (fun c_7 => ?_)
          · exfalso; omega
          · have hc_27 := c_7
            refine lv_aload_n hx hb dX7_moveUp_30 rfl (lv_at hl 0 rfl) ?_
            refine z_get (k := 0) hF hK hP 0 rfl rfl i_wsX70 (by decide) kf_9 rfl dX7_moveUp_31 ?_
            refine lv_iload_n hx hb dX7_moveUp_34 rfl (lv_at hl 3 rfl) ?_
            refine lv_aload_n hx hb dX7_moveUp_35 rfl (lv_at hl 0 rfl) ?_
            refine z_get (k := 0) hF hK hP 0 rfl rfl i_wsX70 (by decide) kf_9 rfl dX7_moveUp_36 ?_
            refine lv_iload_n hx hb dX7_moveUp_39 rfl (lv_at hl 3 rfl) ?_
            refine z_iconst hF dX7_moveUp_40 ?_
            refine z_iadd hF dX7_moveUp_41 ?_
            refine z_iald hF hK hP 1 rfl (by omega) rfl dX7_moveUp_42 ?_
            refine z_tz (b := (se (i + 1))) (mu_at se (by omega)) ?_
            refine z_iast hF hK hP hD hS 1 rfl (by omega) rfl dX7_moveUp_43 (fun H locs hP hD hS => ?_)
            have hP : va_P G.1 vwCl [(h0, .inr (7, [.ref a0, .ref b0, .int (zI sz0)])), (a0, .inl (G.2.1.1, 6, .inl (aI (up (mu se lv i) i (se (i + 1)))))), (b0, .inl (G.2.1.2.1, 6, .inr (.inl (aL ba))))] H := hP
            have hD : va_D A [(h0, .inr (7, [.ref a0, .ref b0, .int (zI sz0)])), (a0, .inl (G.2.1.1, 6, .inl (aI (up (mu se lv i) i (se (i + 1)))))), (b0, .inl (G.2.1.2.1, 6, .inr (.inl (aL ba))))] := hD
            rw [show up (mu se lv i) i (se (i + 1)) = mu se lv (i + 1) from (mu_s se hzi.1)] at hP hD
            refine z_iinc (lv' := [(3, .int (zI (i + 1))), (0, .ref h0), (1, .int (zI lv)), (2, .int (zI (se lv)))]) hF dX7_moveUp_44 hl (k := 3) rfl (by decide) rfl (fun ls hl => ?_)
            refine z_goto (tgt := 8) hF dX7_moveUp_47 (by decide) ?_
            exact ih8 (i + 1) (by omega) (by omega) H locs ls hP hD hS (lv_sub hl [1, 2, 3, 0] rfl)
  refine lv_istore_n (lv' := [(3, .int (zI lv)), (2, .int (zI (se lv))), (0, .ref h0), (1, .int (zI lv))]) hx hb dX7_moveUp_7 rfl hl (by decide) rfl (fun ls hl => ?_)
  rw [show aI se = aI (mu se lv lv) by rw [mu_0]] at hP hD
  exact L8 _ lv (Nat.lt_succ_self _) (by omega) H locs ls hP hD hS (lv_sub hl [2, 3, 1, 0] rfl)
set_option maxHeartbeats 4000000 in
set_option maxRecDepth 100000 in
theorem c_X7_settle (l : Launch) (G : wG) (h0 a0 b0 : Nat) (se ba : Int → Int) (sz0 : Int) (hw pt : Int)  (hs0 : 0 ≤ sz0 ∧ sz0 ≤ 6) (h01 : hw = 0 ∨ hw = 1) (hptr : -2147483647 ≤ pt ∧ pt < 2147483648) (hse : ∀ k : Int, 0 ≤ k → k < sz0 → 0 ≤ se k ∧ se k ≤ 5) (z9 : Nat) : Met l yX7_settle wsX7_settle (rmL 3 0 0) (wPc G [(h0, .inr (7, [.ref a0, .ref b0, .int (zI sz0)])), (a0, .inl (G.2.1.1, 6, .inl (aI se))), (b0, .inl (G.2.1.2.1, 6, .inr (.inl (aL ba))))] z9 [.ref h0, .int (zI hw), .int (zI pt)]) (wQv G (fun (u : Unit) => True) (fun (u : Unit) => [(h0, .inr (7, [.ref a0, .ref b0, .int (zI sz0)])), (a0, .inl (G.2.1.1, 6, .inl (aI (if sz0 < 3 then se else seN se hw sz0)))), (b0, .inl (G.2.1.2.1, 6, .inr (.inl (aL (if sz0 < 3 then ba else pyZ se (if hw = 0 then -pt else pt) ba sz0)))))]) (va_A [(h0, .inr (7, [.ref a0, .ref b0, .int (zI sz0)])), (a0, .inl (G.2.1.1, 6, .inl (aI se))), (b0, .inl (G.2.1.2.1, 6, .inr (.inl (aL ba))))] z9)) 0 0 (va_A [(h0, .inr (7, [.ref a0, .ref b0, .int (zI sz0)])), (a0, .inl (G.2.1.1, 6, .inl (aI se))), (b0, .inl (G.2.1.2.1, 6, .inr (.inl (aL ba))))] z9) := by
  refine z_ofW (Qc := fun A => wQv G (fun (u : Unit) => True) (fun (u : Unit) => [(h0, .inr (7, [.ref a0, .ref b0, .int (zI sz0)])), (a0, .inl (G.2.1.1, 6, .inl (aI (if sz0 < 3 then se else seN se hw sz0)))), (b0, .inl (G.2.1.2.1, 6, .inr (.inl (aL (if sz0 < 3 then ba else pyZ se (if hw = 0 then -pt else pt) ba sz0)))))]) A) l G [(h0, .inr (7, [.ref a0, .ref b0, .int (zI sz0)])), (a0, .inl (G.2.1.1, 6, .inl (aI se))), (b0, .inl (G.2.1.2.1, 6, .inr (.inl (aL ba))))] [.ref h0, .int (zI hw), .int (zI pt)] (by decide) rfl rfl ?_ z9
  intro p e s m args below meth c A ls H locs hF hr hlocks hinit hP hK hD hA hS hBd hl
  have hF : wFx p m c cX7_settle 6 s args wsX7_settle RX7 := hF
  have hl : lv_has ls 6 [(0, .ref h0), (1, .int (zI hw)), (2, .int (zI pt))] := hl
  have hx := hF.1
  have hb := hF.2.1
  obtain ⟨Q0, hQ⟩ : ∃ q, q = (MQ below (wQv G (fun (u : Unit) => True) (fun (u : Unit) => [(h0, .inr (7, [.ref a0, .ref b0, .int (zI sz0)])), (a0, .inl (G.2.1.1, 6, .inl (aI (if sz0 < 3 then se else seN se hw sz0)))), (b0, .inl (G.2.1.2.1, 6, .inr (.inl (aL (if sz0 < 3 then ba else pyZ se (if hw = 0 then -pt else pt) ba sz0)))))]) A) args s 0 0 A) := ⟨_, rfl⟩
  rw [← hQ]
  have i_wsX70 : ∀ w ∈ wsX70, w ∈ wsX7_settle := (fun _ h => (List.mem_cons_of_mem _ (List.mem_append_right _ h)))
  have kf_17 : (Cond.fieldLink RX7 17 "Gammonry$Table" "size" "I").before args s = true := hF.2.2.2.2 _ (List.mem_cons_of_mem _ (List.mem_append_left _ (List.mem_of_getElem? (i := 0) rfl)))
  refine lv_aload_n hx hb dX7_settle_0 rfl (lv_at hl 0 rfl) ?_
  refine z_get (k := 2) hF hK hP 0 rfl rfl i_wsX70 (by decide) kf_17 rfl dX7_settle_1 ?_
  refine z_iconst hF dX7_settle_4 ?_
  refine z_icmp_ge (tgt := 9) hF dX7_settle_5 (by decide) (by omega) (by decide) (fun c_1 => ?_) (fun c_1 => ?_)
  · have hc_5 := c_1
    have L25 : ∀ (n9 : Nat) (i v : Int), (sz0 - i).toNat < n9 → (1 ≤ i ∧ i ≤ sz0) → v = (if hw = 0 then -pt else pt) → ∀ (H : Heap) (locs : List Loc) (ls : Array Slot), va_P G.1 vwCl [(h0, .inr (7, [.ref a0, .ref b0, .int (zI sz0)])), (a0, .inl (G.2.1.1, 6, .inl (aI se))), (b0, .inl (G.2.1.2.1, 6, .inr (.inl (aL (pyZ se v ba i)))))] H → va_D A [(h0, .inr (7, [.ref a0, .ref b0, .int (zI sz0)])), (a0, .inl (G.2.1.1, 6, .inl (aI se))), (b0, .inl (G.2.1.2.1, 6, .inr (.inl (aL (pyZ se v ba i)))))] → va_S A s.heap H locs → lv_has ls 6 [(0, .ref h0), (1, .int (zI hw)), (2, .int (zI pt)), (3, .long (zL v)), (5, .int (zI i))] → W p l e (rmL 3 0 0) s m args below meth c H locs 0 0 Q0 (F0 m 25 ls []) := by
      intro n9
      induction n9 with
      | zero => intro i v hmu; omega
      | succ n9 ih25 =>
        intro i v hmu25 hzi hvv H locs ls hP hD hS hl
        refine lv_iload hx hb dX7_settle_25 (lv_at hl 4 rfl) ?_
        refine lv_aload_n hx hb dX7_settle_27 rfl (lv_at hl 0 rfl) ?_
        refine z_get (k := 2) hF hK hP 0 rfl rfl i_wsX70 (by decide) kf_17 rfl dX7_settle_28 ?_
        refine z_icmp_ge (tgt := 56) hF dX7_settle_31 (by decide) (by omega) (by omega) (fun c_2 => ?_) (fun c_2 => ?_)
        · have hc_31 := c_2
          refine lv_aload_n hx hb dX7_settle_56 rfl (lv_at hl 0 rfl) ?_
          refine lv_iload_n hx hb dX7_settle_57 rfl (lv_at hl 1 rfl) ?_
          refine z_if_eq (tgt := 65) hF dX7_settle_58 (by decide) (by omega) (fun c_3 => ?_) (fun c_3 => ?_)
          · have hc_58 := c_3
            refine z_iconst hF dX7_settle_65 ?_
            refine cj_v (va_runV (As := [.int (zI 0)]) (rest := []) hF (c_X7_moveUp l G h0 a0 b0 se (pyZ se v ba i) sz0 0  (by omega) (by omega) H.size) (cwV 1 hF.2.2.2.2 gX7_settle_X7_moveUp rfl rfl rfl (by decide +kernel) ⟨Nat.le_of_ble_eq_true rfl, Nat.le_of_ble_eq_true rfl⟩) (z_preV hK hP hD hS hA hBd [0, 1, 2] rfl rfl rfl rfl [.int (zI 0)]) rfl rfl hl.1 rfl (lv_room (Nat.le_of_ble_eq_true rfl)) dX7_settle_66 ⟨Nat.le_of_ble_eq_true rfl, Nat.le_of_ble_eq_true rfl⟩) hP hD hS hA [0, 1, 2] rfl (fun _ => Nat.le_of_ble_eq_true rfl) (fun u_4 H locs hw hP hD hS => ?_)
            have hP : va_P G.1 vwCl [(h0, .inr (7, [.ref a0, .ref b0, .int (zI sz0)])), (a0, .inl (G.2.1.1, 6, .inl (aI (seN se 0 sz0)))), (b0, .inl (G.2.1.2.1, 6, .inr (.inl (aL (pyZ se v ba i)))))] H := hP
            have hD : va_D A [(h0, .inr (7, [.ref a0, .ref b0, .int (zI sz0)])), (a0, .inl (G.2.1.1, 6, .inl (aI (seN se 0 sz0)))), (b0, .inl (G.2.1.2.1, 6, .inr (.inl (aL (pyZ se v ba i)))))] := hD
            obtain - := hw
            have hP : va_P G.1 vwCl [(h0, .inr (7, [.ref a0, .ref b0, .int (zI sz0)])), (a0, .inl (G.2.1.1, 6, .inl (aI (if sz0 < 3 then se else seN se hw sz0)))), (b0, .inl (G.2.1.2.1, 6, .inr (.inl (aL (if sz0 < 3 then ba else pyZ se (if hw = 0 then -pt else pt) ba sz0)))))] H := by rw [show ((if sz0 < 3 then se else seN se hw sz0) : Int → Int) = (seN se 0 sz0) from (by rw [if_neg (by omega)]; exact congrArg (fun z => seN se z sz0) (by omega)), show ((if sz0 < 3 then ba else pyZ se (if hw = 0 then -pt else pt) ba sz0) : Int → Int) = (pyZ se v ba i) from (by rw [if_neg (by omega), ← hvv, show i = sz0 by omega])]; exact hP
            have hD : va_D A [(h0, .inr (7, [.ref a0, .ref b0, .int (zI sz0)])), (a0, .inl (G.2.1.1, 6, .inl (aI (if sz0 < 3 then se else seN se hw sz0)))), (b0, .inl (G.2.1.2.1, 6, .inr (.inl (aL (if sz0 < 3 then ba else pyZ se (if hw = 0 then -pt else pt) ba sz0)))))] := by rw [show ((if sz0 < 3 then se else seN se hw sz0) : Int → Int) = (seN se 0 sz0) from (by rw [if_neg (by omega)]; exact congrArg (fun z => seN se z sz0) (by omega)), show ((if sz0 < 3 then ba else pyZ se (if hw = 0 then -pt else pt) ba sz0) : Int → Int) = (pyZ se v ba i) from (by rw [if_neg (by omega), ← hvv, show i = sz0 by omega])]; exact hD
            rw [hQ]
            exact z_vret hF hr hlocks () (trivial) hP hK hD hS dX7_settle_69
          · have hc_58 := c_3
            refine z_iconst hF dX7_settle_61 ?_
            refine z_goto (tgt := 66) hF dX7_settle_62 (by decide) ?_
            refine cj_v (va_runV (As := [.int (zI 1)]) (rest := []) hF (c_X7_moveUp l G h0 a0 b0 se (pyZ se v ba i) sz0 1  (by omega) (by omega) H.size) (cwV 1 hF.2.2.2.2 gX7_settle_X7_moveUp rfl rfl rfl (by decide +kernel) ⟨Nat.le_of_ble_eq_true rfl, Nat.le_of_ble_eq_true rfl⟩) (z_preV hK hP hD hS hA hBd [0, 1, 2] rfl rfl rfl rfl [.int (zI 1)]) rfl rfl hl.1 rfl (lv_room (Nat.le_of_ble_eq_true rfl)) dX7_settle_66 ⟨Nat.le_of_ble_eq_true rfl, Nat.le_of_ble_eq_true rfl⟩) hP hD hS hA [0, 1, 2] rfl (fun _ => Nat.le_of_ble_eq_true rfl) (fun u_6 H locs hw hP hD hS => ?_)
            have hP : va_P G.1 vwCl [(h0, .inr (7, [.ref a0, .ref b0, .int (zI sz0)])), (a0, .inl (G.2.1.1, 6, .inl (aI (seN se 1 sz0)))), (b0, .inl (G.2.1.2.1, 6, .inr (.inl (aL (pyZ se v ba i)))))] H := hP
            have hD : va_D A [(h0, .inr (7, [.ref a0, .ref b0, .int (zI sz0)])), (a0, .inl (G.2.1.1, 6, .inl (aI (seN se 1 sz0)))), (b0, .inl (G.2.1.2.1, 6, .inr (.inl (aL (pyZ se v ba i)))))] := hD
            obtain - := hw
            have hP : va_P G.1 vwCl [(h0, .inr (7, [.ref a0, .ref b0, .int (zI sz0)])), (a0, .inl (G.2.1.1, 6, .inl (aI (if sz0 < 3 then se else seN se hw sz0)))), (b0, .inl (G.2.1.2.1, 6, .inr (.inl (aL (if sz0 < 3 then ba else pyZ se (if hw = 0 then -pt else pt) ba sz0)))))] H := by rw [show ((if sz0 < 3 then se else seN se hw sz0) : Int → Int) = (seN se 1 sz0) from (by rw [if_neg (by omega)]; exact congrArg (fun z => seN se z sz0) (by omega)), show ((if sz0 < 3 then ba else pyZ se (if hw = 0 then -pt else pt) ba sz0) : Int → Int) = (pyZ se v ba i) from (by rw [if_neg (by omega), ← hvv, show i = sz0 by omega])]; exact hP
            have hD : va_D A [(h0, .inr (7, [.ref a0, .ref b0, .int (zI sz0)])), (a0, .inl (G.2.1.1, 6, .inl (aI (if sz0 < 3 then se else seN se hw sz0)))), (b0, .inl (G.2.1.2.1, 6, .inr (.inl (aL (if sz0 < 3 then ba else pyZ se (if hw = 0 then -pt else pt) ba sz0)))))] := by rw [show ((if sz0 < 3 then se else seN se hw sz0) : Int → Int) = (seN se 1 sz0) from (by rw [if_neg (by omega)]; exact congrArg (fun z => seN se z sz0) (by omega)), show ((if sz0 < 3 then ba else pyZ se (if hw = 0 then -pt else pt) ba sz0) : Int → Int) = (pyZ se v ba i) from (by rw [if_neg (by omega), ← hvv, show i = sz0 by omega])]; exact hD
            rw [hQ]
            exact z_vret hF hr hlocks () (trivial) hP hK hD hS dX7_settle_69
        · have hc_31 := c_2
          have qa := hse i (by omega) (by omega)
          have qb := hse 0 (by omega) (by omega)
          refine lv_aload_n hx hb dX7_settle_34 rfl (lv_at hl 0 rfl) ?_
          refine lv_aload_n hx hb dX7_settle_35 rfl (lv_at hl 0 rfl) ?_
          refine lv_iload hx hb dX7_settle_36 (lv_at hl 4 rfl) ?_
          refine cj_i (va_runV (As := [.int (zI i)]) (rest := [.ref h0]) hF (c_X7_playerAt l G h0 a0 b0 se (pyZ se v ba i) sz0 i  (by omega) H.size) (cwV 1 hF.2.2.2.2 gX7_settle_X7_playerAt rfl rfl rfl (by decide +kernel) ⟨Nat.le_of_ble_eq_true rfl, Nat.le_of_ble_eq_true rfl⟩) (z_preV hK hP hD hS hA hBd [0, 1, 2] rfl rfl rfl rfl [.int (zI i)]) rfl rfl hl.1 rfl (lv_room (Nat.le_of_ble_eq_true rfl)) dX7_settle_38 ⟨Nat.le_of_ble_eq_true rfl, Nat.le_of_ble_eq_true rfl⟩) hP hD hS hA [0, 1, 2] rfl (fun _ => Nat.le_of_ble_eq_true rfl) (fun r_9 u_8 H locs hw hP hD hS => ?_)
          have hP : va_P G.1 vwCl [(h0, .inr (7, [.ref a0, .ref b0, .int (zI sz0)])), (a0, .inl (G.2.1.1, 6, .inl (aI se))), (b0, .inl (G.2.1.2.1, 6, .inr (.inl (aL (pyZ se v ba i)))))] H := hP
          have hD : va_D A [(h0, .inr (7, [.ref a0, .ref b0, .int (zI sz0)])), (a0, .inl (G.2.1.1, 6, .inl (aI se))), (b0, .inl (G.2.1.2.1, 6, .inr (.inl (aL (pyZ se v ba i)))))] := hD
          obtain rfl := hw
          refine lv_aload_n hx hb dX7_settle_41 rfl (lv_at hl 0 rfl) ?_
          refine z_iconst hF dX7_settle_42 ?_
          refine cj_i (va_runV (As := [.int (zI 0)]) (rest := [.int (zI (se i)), .ref h0]) hF (c_X7_playerAt l G h0 a0 b0 se (pyZ se v ba i) sz0 0  (by omega) H.size) (cwV 1 hF.2.2.2.2 gX7_settle_X7_playerAt rfl rfl rfl (by decide +kernel) ⟨Nat.le_of_ble_eq_true rfl, Nat.le_of_ble_eq_true rfl⟩) (z_preV hK hP hD hS hA hBd [0, 1, 2] rfl rfl rfl rfl [.int (zI 0)]) rfl rfl hl.1 rfl (lv_room (Nat.le_of_ble_eq_true rfl)) dX7_settle_43 ⟨Nat.le_of_ble_eq_true rfl, Nat.le_of_ble_eq_true rfl⟩) hP hD hS hA [0, 1, 2] rfl (fun _ => Nat.le_of_ble_eq_true rfl) (fun r_11 u_10 H locs hw hP hD hS => ?_)
          have hP : va_P G.1 vwCl [(h0, .inr (7, [.ref a0, .ref b0, .int (zI sz0)])), (a0, .inl (G.2.1.1, 6, .inl (aI se))), (b0, .inl (G.2.1.2.1, 6, .inr (.inl (aL (pyZ se v ba i)))))] H := hP
          have hD : va_D A [(h0, .inr (7, [.ref a0, .ref b0, .int (zI sz0)])), (a0, .inl (G.2.1.1, 6, .inl (aI se))), (b0, .inl (G.2.1.2.1, 6, .inr (.inl (aL (pyZ se v ba i)))))] := hD
          obtain rfl := hw
          refine lv_lload_n hx hb dX7_settle_46 rfl (lv_at hl 3 rfl) ?_
          refine cj_v (va_runV (As := [.int (zI (se i)), .int (zI (se 0)), .long (zL v)]) (rest := []) hF (c_X7_pay l G h0 a0 b0 se (pyZ se v ba i) sz0 (se i) (se 0) v  qa qb H.size) (cwV 3 hF.2.2.2.2 gX7_settle_X7_pay rfl rfl rfl (by decide +kernel) ⟨Nat.le_of_ble_eq_true rfl, Nat.le_of_ble_eq_true rfl⟩) (z_preV hK hP hD hS hA hBd [0, 1, 2] rfl rfl rfl rfl [.int (zI (se i)), .int (zI (se 0)), .long (zL v)]) rfl rfl hl.1 rfl (lv_room (Nat.le_of_ble_eq_true rfl)) dX7_settle_47 ⟨Nat.le_of_ble_eq_true rfl, Nat.le_of_ble_eq_true rfl⟩) hP hD hS hA [0, 1, 2] rfl (fun _ => Nat.le_of_ble_eq_true rfl) (fun u_12 H locs hw hP hD hS => ?_)
          have hP : va_P G.1 vwCl [(h0, .inr (7, [.ref a0, .ref b0, .int (zI sz0)])), (a0, .inl (G.2.1.1, 6, .inl (aI se))), (b0, .inl (G.2.1.2.1, 6, .inr (.inl (aL (py (pyZ se v ba i) (se i) (se 0) v)))))] H := hP
          have hD : va_D A [(h0, .inr (7, [.ref a0, .ref b0, .int (zI sz0)])), (a0, .inl (G.2.1.1, 6, .inl (aI se))), (b0, .inl (G.2.1.2.1, 6, .inr (.inl (aL (py (pyZ se v ba i) (se i) (se 0) v)))))] := hD
          obtain - := hw
          refine z_iinc (lv' := [(5, .int (zI (i + 1))), (0, .ref h0), (1, .int (zI hw)), (2, .int (zI pt)), (3, .long (zL v))]) hF dX7_settle_50 hl (k := 4) rfl (by decide) rfl (fun ls hl => ?_)
          refine z_goto (tgt := 25) hF dX7_settle_53 (by decide) ?_
          rw [← pyZ_s hzi.1] at hP hD
          exact ih25 (i + 1) v (by omega) (by omega) (by first | exact (if_pos (by omega)).symm | exact (if_neg (by omega)).symm | exact hvv) H locs ls hP hD hS (lv_sub hl [1, 2, 3, 4, 0] rfl)
    refine lv_iload_n hx hb dX7_settle_9 rfl (lv_at hl 1 rfl) ?_
    refine z_if_eq (tgt := 18) hF dX7_settle_10 (by decide) (by omega) (fun c_14 => ?_) (fun c_14 => ?_)
    · have hc_10 := c_14
      refine lv_iload_n hx hb dX7_settle_18 rfl (lv_at hl 2 rfl) ?_
      refine z_ineg hF dX7_settle_19 ?_
      refine z_i2l hF dX7_settle_20 (by omega) ?_
      refine lv_lstore_n (lv' := [(3, .long (zL (-pt))), (0, .ref h0), (1, .int (zI hw)), (2, .int (zI pt))]) hx hb dX7_settle_21 rfl hl (by decide) rfl (fun ls hl => ?_)
      refine z_iconst hF dX7_settle_22 ?_
      refine lv_istore (lv' := [(5, .int (zI 1)), (3, .long (zL (-pt))), (0, .ref h0), (1, .int (zI hw)), (2, .int (zI pt))]) hx hb dX7_settle_23 hl (by decide) rfl (fun ls hl => ?_)
      exact L25 _ 1 (-pt) (Nat.lt_succ_self _) (by omega) (by first | exact (if_pos (by omega)).symm | exact (if_neg (by omega)).symm | exact hvv) H locs ls hP hD hS (lv_sub hl [2, 3, 4, 1, 0] rfl)
    · have hc_10 := c_14
      refine lv_iload_n hx hb dX7_settle_13 rfl (lv_at hl 2 rfl) ?_
      refine z_i2l hF dX7_settle_14 (by omega) ?_
      refine z_goto (tgt := 21) hF dX7_settle_15 (by decide) ?_
      refine lv_lstore_n (lv' := [(3, .long (zL pt)), (0, .ref h0), (1, .int (zI hw)), (2, .int (zI pt))]) hx hb dX7_settle_21 rfl hl (by decide) rfl (fun ls hl => ?_)
      refine z_iconst hF dX7_settle_22 ?_
      refine lv_istore (lv' := [(5, .int (zI 1)), (3, .long (zL pt)), (0, .ref h0), (1, .int (zI hw)), (2, .int (zI pt))]) hx hb dX7_settle_23 hl (by decide) rfl (fun ls hl => ?_)
      exact L25 _ 1 pt (Nat.lt_succ_self _) (by omega) (by first | exact (if_pos (by omega)).symm | exact (if_neg (by omega)).symm | exact hvv) H locs ls hP hD hS (lv_sub hl [2, 3, 4, 1, 0] rfl)
  · have hc_5 := c_1
    have hP : va_P G.1 vwCl [(h0, .inr (7, [.ref a0, .ref b0, .int (zI sz0)])), (a0, .inl (G.2.1.1, 6, .inl (aI (if sz0 < 3 then se else seN se hw sz0)))), (b0, .inl (G.2.1.2.1, 6, .inr (.inl (aL (if sz0 < 3 then ba else pyZ se (if hw = 0 then -pt else pt) ba sz0)))))] H := by rw [show ((if sz0 < 3 then se else seN se hw sz0) : Int → Int) = se from (if_pos (by omega)), show ((if sz0 < 3 then ba else pyZ se (if hw = 0 then -pt else pt) ba sz0) : Int → Int) = ba from (if_pos (by omega))]; exact hP
    have hD : va_D A [(h0, .inr (7, [.ref a0, .ref b0, .int (zI sz0)])), (a0, .inl (G.2.1.1, 6, .inl (aI (if sz0 < 3 then se else seN se hw sz0)))), (b0, .inl (G.2.1.2.1, 6, .inr (.inl (aL (if sz0 < 3 then ba else pyZ se (if hw = 0 then -pt else pt) ba sz0)))))] := by rw [show ((if sz0 < 3 then se else seN se hw sz0) : Int → Int) = se from (if_pos (by omega)), show ((if sz0 < 3 then ba else pyZ se (if hw = 0 then -pt else pt) ba sz0) : Int → Int) = ba from (if_pos (by omega))]; exact hD
    rw [hQ]
    exact z_vret hF hr hlocks () (trivial) hP hK hD hS dX7_settle_8
set_option maxHeartbeats 4000000 in
set_option maxRecDepth 100000 in
theorem c_X8_init (l : Launch) (G : wG) (h0 : Nat)  (z9 : Nat) : Met l yX8_init wsX8_init (rmL 2 1 7) (wPc G [(h0, .inr (8, [.null, .int (zI 0), .int (zI 0), .long (zL 0)]))] z9 [.ref h0]) (wQv G (fun (u : Nat) => True) (fun (u : Nat) => [(h0, .inr (8, [.ref u, .int (zI 0), .int (zI 0), .long (zL 0)])), (u, .inl (G.2.1.1, 7, .inl (aI (fun _ => 0))))]) (va_A [(h0, .inr (8, [.null, .int (zI 0), .int (zI 0), .long (zL 0)]))] z9)) 1 7 (va_A [(h0, .inr (8, [.null, .int (zI 0), .int (zI 0), .long (zL 0)]))] z9) := by
  refine z_ofW (Qc := fun A => wQv G (fun (u : Nat) => True) (fun (u : Nat) => [(h0, .inr (8, [.ref u, .int (zI 0), .int (zI 0), .long (zL 0)])), (u, .inl (G.2.1.1, 7, .inl (aI (fun _ => 0))))]) A) l G [(h0, .inr (8, [.null, .int (zI 0), .int (zI 0), .long (zL 0)]))] [.ref h0] (by decide) rfl rfl ?_ z9
  intro p e s m args below meth c A ls H locs hF hr hlocks hinit hP hK hD hA hS hBd hl
  have hF : wFx p m c cX8_init 1 s args wsX8_init RX8 := hF
  have hl : lv_has ls 1 [(0, .ref h0)] := hl
  have hx := hF.1
  have hb := hF.2.1
  obtain ⟨Q0, hQ⟩ : ∃ q, q = (MQ below (wQv G (fun (u : Nat) => True) (fun (u : Nat) => [(h0, .inr (8, [.ref u, .int (zI 0), .int (zI 0), .long (zL 0)])), (u, .inl (G.2.1.1, 7, .inl (aI (fun _ => 0))))]) A) args s 1 7 A) := ⟨_, rfl⟩
  rw [← hQ]
  have i_wsX80 : ∀ w ∈ wsX80, w ∈ wsX8_init := (fun _ h => (List.mem_cons_of_mem _ (List.mem_append_right _ h)))
  have ka_int : (Cond.arrayClass .int).before args s = true := hF.2.2.2.2 _ (List.mem_cons_of_mem _ (List.mem_append_left _ (List.mem_of_getElem? (i := 3) rfl)))
  have kf_15 : (Cond.fieldLink RX8 15 "Gammonry$Totals" "allPlays" "I").before args s = true := hF.2.2.2.2 _ (List.mem_cons_of_mem _ (List.mem_append_left _ (List.mem_of_getElem? (i := 5) rfl)))
  have kf_19 : (Cond.fieldLink RX8 19 "Gammonry$Totals" "hitting" "I").before args s = true := hF.2.2.2.2 _ (List.mem_cons_of_mem _ (List.mem_append_left _ (List.mem_of_getElem? (i := 6) rfl)))
  have kf_22 : (Cond.fieldLink RX8 22 "Gammonry$Totals" "errors" "J").before args s = true := hF.2.2.2.2 _ (List.mem_cons_of_mem _ (List.mem_append_left _ (List.mem_of_getElem? (i := 7) rfl)))
  have kf_9 : (Cond.fieldLink RX8 9 "Gammonry$Totals" "faces" "[I").before args s = true := hF.2.2.2.2 _ (List.mem_cons_of_mem _ (List.mem_append_left _ (List.mem_of_getElem? (i := 4) rfl)))
  have km_3 : (Cond.methodLink RX8 3 objectInit).before args s = true := hF.2.2.2.2 _ (List.mem_cons_of_mem _ (List.mem_append_left _ (List.mem_of_getElem? (i := 0) rfl)))
  have ko_c : (Cond.code objectInit ⟨#[0xb1]⟩ 1 none).before args s = true := hF.2.2.2.2 _ (List.mem_cons_of_mem _ (List.mem_append_left _ (List.mem_of_getElem? (i := 2) rfl)))
  have ko_i : (Cond.instanceMethod objectInit).before args s = true := hF.2.2.2.2 _ (List.mem_cons_of_mem _ (List.mem_append_left _ (List.mem_of_getElem? (i := 1) rfl)))
  refine lv_aload_n hx hb dX8_init_0 rfl (lv_at hl 0 rfl) ?_
  refine W.objInit hx hb hF.2.2.2.1 km_3 ko_i ko_c rfl (by rw [hF.2.2.1]; exact hl.1) rfl dX8_init_1 (Nat.le_of_ble_eq_true rfl) (Nat.le_of_ble_eq_true rfl) ?_
  refine W.eq (g2 := F0 m 4 ls []) rfl ?_
  refine lv_aload_n hx hb dX8_init_4 rfl (lv_at hl 0 rfl) ?_
  refine z_bipush hF dX8_init_5 (by decide) ?_
  refine z_newai hF ka_int hK hP hD hS hA (N := 7) (by decide) (by decide) rfl rfl rfl dX8_init_7 (fun q_1 H hP hD hS => ?_)
  have hP : va_P G.1 vwCl [(h0, .inr (8, [.null, .int (zI 0), .int (zI 0), .long (zL 0)])), (q_1, .inl (G.2.1.1, 7, .inl (aI (fun _ => 0))))] H := hP
  have hD : va_D A [(h0, .inr (8, [.null, .int (zI 0), .int (zI 0), .long (zL 0)])), (q_1, .inl (G.2.1.1, 7, .inl (aI (fun _ => 0))))] := hD
  refine W.widen (k := 1) (n := 7) (Nat.le_of_ble_eq_true rfl) (Nat.le_of_ble_eq_true rfl) ?_
  refine va_putF (D := G.1) (ty := tyX8 0) (ci := 8) (C := RX8) (T := TX8) (N := 4) hx hb hF.2.2.2.2 i_wsX80 tyX8 tyX8_ok nmX8 hF.2.2.2.1 hK hP hD hS 0 rfl rfl 0 (by decide) kf_9 (fun _ h9 => h9) rfl (hinit rfl) rfl (tyX8_ok 0 (by decide)) rfl rfl (Nat.le_of_ble_eq_true rfl) dX8_init_9 (fun H locs hP hD hS => ?_)
  have hP : va_P G.1 vwCl [(h0, .inr (8, [.ref q_1, .int (zI 0), .int (zI 0), .long (zL 0)])), (q_1, .inl (G.2.1.1, 7, .inl (aI (fun _ => 0))))] H := hP
  have hD : va_D A [(h0, .inr (8, [.ref q_1, .int (zI 0), .int (zI 0), .long (zL 0)])), (q_1, .inl (G.2.1.1, 7, .inl (aI (fun _ => 0))))] := hD
  refine lv_aload_n hx hb dX8_init_12 rfl (lv_at hl 0 rfl) ?_
  refine z_iconst hF dX8_init_13 ?_
  refine z_put (k := 1) hF hK hP hD hS 0 rfl rfl i_wsX80 (by decide) tyX8 tyX8_ok nmX8 rfl kf_15 rfl rfl (Nat.le_of_ble_eq_true rfl) dX8_init_14 (fun H locs hP hD hS => ?_)
  have hP : va_P G.1 vwCl [(h0, .inr (8, [.ref q_1, .int (zI 0), .int (zI 0), .long (zL 0)])), (q_1, .inl (G.2.1.1, 7, .inl (aI (fun _ => 0))))] H := hP
  have hD : va_D A [(h0, .inr (8, [.ref q_1, .int (zI 0), .int (zI 0), .long (zL 0)])), (q_1, .inl (G.2.1.1, 7, .inl (aI (fun _ => 0))))] := hD
  refine lv_aload_n hx hb dX8_init_17 rfl (lv_at hl 0 rfl) ?_
  refine z_iconst hF dX8_init_18 ?_
  refine z_put (k := 2) hF hK hP hD hS 0 rfl rfl i_wsX80 (by decide) tyX8 tyX8_ok nmX8 rfl kf_19 rfl rfl (Nat.le_of_ble_eq_true rfl) dX8_init_19 (fun H locs hP hD hS => ?_)
  have hP : va_P G.1 vwCl [(h0, .inr (8, [.ref q_1, .int (zI 0), .int (zI 0), .long (zL 0)])), (q_1, .inl (G.2.1.1, 7, .inl (aI (fun _ => 0))))] H := hP
  have hD : va_D A [(h0, .inr (8, [.ref q_1, .int (zI 0), .int (zI 0), .long (zL 0)])), (q_1, .inl (G.2.1.1, 7, .inl (aI (fun _ => 0))))] := hD
  refine lv_aload_n hx hb dX8_init_22 rfl (lv_at hl 0 rfl) ?_
  refine z_lconst hF dX8_init_23 ?_
  refine z_tzl (b := 0) rfl ?_
  refine z_put (k := 3) hF hK hP hD hS 0 rfl rfl i_wsX80 (by decide) tyX8 tyX8_ok nmX8 rfl kf_22 rfl rfl (Nat.le_of_ble_eq_true rfl) dX8_init_24 (fun H locs hP hD hS => ?_)
  have hP : va_P G.1 vwCl [(h0, .inr (8, [.ref q_1, .int (zI 0), .int (zI 0), .long (zL 0)])), (q_1, .inl (G.2.1.1, 7, .inl (aI (fun _ => 0))))] H := hP
  have hD : va_D A [(h0, .inr (8, [.ref q_1, .int (zI 0), .int (zI 0), .long (zL 0)])), (q_1, .inl (G.2.1.1, 7, .inl (aI (fun _ => 0))))] := hD
  rw [hQ]
  refine W.widen (k := 1) (n := 7) (Nat.le_of_ble_eq_true rfl) (Nat.le_of_ble_eq_true rfl) ?_
  exact z_vret hF hr hlocks q_1 (trivial) hP hK hD hS dX8_init_27
set_option maxHeartbeats 4000000 in
set_option maxRecDepth 100000 in
theorem c_X8_countFace (l : Launch) (G : wG) (h0 a0 : Nat) (fa : Int → Int) (al hi0 er : Int) (d : Int)  (hd6 : 1 ≤ d ∧ d ≤ 6) (z9 : Nat) : Met l yX8_countFace wsX8_countFace (rmL 1 0 0) (wPc G [(h0, .inr (8, [.ref a0, .int (zI al), .int (zI hi0), .long (zL er)])), (a0, .inl (G.2.1.1, 7, .inl (aI fa)))] z9 [.ref h0, .int (zI d)]) (wQv G (fun (u : Unit) => True) (fun (u : Unit) => [(h0, .inr (8, [.ref a0, .int (zI al), .int (zI hi0), .long (zL er)])), (a0, .inl (G.2.1.1, 7, .inl (aI (up fa d (fa d + 1)))))]) (va_A [(h0, .inr (8, [.ref a0, .int (zI al), .int (zI hi0), .long (zL er)])), (a0, .inl (G.2.1.1, 7, .inl (aI fa)))] z9)) 0 0 (va_A [(h0, .inr (8, [.ref a0, .int (zI al), .int (zI hi0), .long (zL er)])), (a0, .inl (G.2.1.1, 7, .inl (aI fa)))] z9) := by
  refine z_ofW (Qc := fun A => wQv G (fun (u : Unit) => True) (fun (u : Unit) => [(h0, .inr (8, [.ref a0, .int (zI al), .int (zI hi0), .long (zL er)])), (a0, .inl (G.2.1.1, 7, .inl (aI (up fa d (fa d + 1)))))]) A) l G [(h0, .inr (8, [.ref a0, .int (zI al), .int (zI hi0), .long (zL er)])), (a0, .inl (G.2.1.1, 7, .inl (aI fa)))] [.ref h0, .int (zI d)] (by decide) rfl rfl ?_ z9
  intro p e s m args below meth c A ls H locs hF hr hlocks hinit hP hK hD hA hS hBd hl
  have hF : wFx p m c cX8_countFace 2 s args wsX8_countFace RX8 := hF
  have hl : lv_has ls 2 [(0, .ref h0), (1, .int (zI d))] := hl
  have hx := hF.1
  have hb := hF.2.1
  obtain ⟨Q0, hQ⟩ : ∃ q, q = (MQ below (wQv G (fun (u : Unit) => True) (fun (u : Unit) => [(h0, .inr (8, [.ref a0, .int (zI al), .int (zI hi0), .long (zL er)])), (a0, .inl (G.2.1.1, 7, .inl (aI (up fa d (fa d + 1)))))]) A) args s 0 0 A) := ⟨_, rfl⟩
  rw [← hQ]
  have i_wsX80 : ∀ w ∈ wsX80, w ∈ wsX8_countFace := (fun _ h => (List.mem_cons_of_mem _ (List.mem_append_right _ h)))
  have kf_9 : (Cond.fieldLink RX8 9 "Gammonry$Totals" "faces" "[I").before args s = true := hF.2.2.2.2 _ (List.mem_cons_of_mem _ (List.mem_append_left _ (List.mem_of_getElem? (i := 0) rfl)))
  refine lv_iload_n hx hb dX8_countFace_0 rfl (lv_at hl 1 rfl) ?_
  refine z_iconst hF dX8_countFace_1 ?_
  refine z_icmp_lt (tgt := 21) hF dX8_countFace_2 (by decide) (by omega) (by decide) (fun c_1 => ?_) (fun c_1 => ?_)
  · exfalso; omega
  · have hc_2 := c_1
    refine lv_iload_n hx hb dX8_countFace_5 rfl (lv_at hl 1 rfl) ?_
    refine z_bipush hF dX8_countFace_6 (by decide) ?_
    refine z_icmp_gt (tgt := 21) hF dX8_countFace_8 (by decide) (by omega) (by decide) (fun c_2 => ?_) (fun c_2 => ?_)
    · exfalso; omega
    · have hc_8 := c_2
      refine lv_aload_n hx hb dX8_countFace_11 rfl (lv_at hl 0 rfl) ?_
      refine z_get (k := 0) hF hK hP 0 rfl rfl i_wsX80 (by decide) kf_9 rfl dX8_countFace_12 ?_
      refine lv_iload_n hx hb dX8_countFace_15 rfl (lv_at hl 1 rfl) ?_
      refine lv_dup2_11 hx hb dX8_countFace_16 rfl rfl ?_
      refine z_iald hF hK hP 1 rfl (by omega) rfl dX8_countFace_17 ?_
      refine z_iconst hF dX8_countFace_18 ?_
      refine z_iadd hF dX8_countFace_19 ?_
      refine z_iast hF hK hP hD hS 1 rfl (by omega) rfl dX8_countFace_20 (fun H locs hP hD hS => ?_)
      have hP : va_P G.1 vwCl [(h0, .inr (8, [.ref a0, .int (zI al), .int (zI hi0), .long (zL er)])), (a0, .inl (G.2.1.1, 7, .inl (aI (up fa d ((fa d) + 1)))))] H := hP
      have hD : va_D A [(h0, .inr (8, [.ref a0, .int (zI al), .int (zI hi0), .long (zL er)])), (a0, .inl (G.2.1.1, 7, .inl (aI (up fa d ((fa d) + 1)))))] := hD
      rw [hQ]
      exact z_vret hF hr hlocks () (trivial) hP hK hD hS dX8_countFace_21
set_option maxHeartbeats 4000000 in
set_option maxRecDepth 100000 in
theorem c_X8_countRoll (l : Launch) (G : wG) (h0 a0 : Nat) (fa : Int → Int) (al hi0 er : Int) (x y : Int)  (hx6 : 1 ≤ x ∧ x ≤ 6) (hy6 : 1 ≤ y ∧ y ≤ 6) (z9 : Nat) : Met l yX8_countRoll wsX8_countRoll (rmL 2 0 0) (wPc G [(h0, .inr (8, [.ref a0, .int (zI al), .int (zI hi0), .long (zL er)])), (a0, .inl (G.2.1.1, 7, .inl (aI fa)))] z9 [.ref h0, .int (zI x), .int (zI y)]) (wQv G (fun (u : Unit) => True) (fun (u : Unit) => [(h0, .inr (8, [.ref a0, .int (zI al), .int (zI hi0), .long (zL er)])), (a0, .inl (G.2.1.1, 7, .inl (aI (up (up fa x (fa x + 1)) y (up fa x (fa x + 1) y + 1)))))]) (va_A [(h0, .inr (8, [.ref a0, .int (zI al), .int (zI hi0), .long (zL er)])), (a0, .inl (G.2.1.1, 7, .inl (aI fa)))] z9)) 0 0 (va_A [(h0, .inr (8, [.ref a0, .int (zI al), .int (zI hi0), .long (zL er)])), (a0, .inl (G.2.1.1, 7, .inl (aI fa)))] z9) := by
  refine z_ofW (Qc := fun A => wQv G (fun (u : Unit) => True) (fun (u : Unit) => [(h0, .inr (8, [.ref a0, .int (zI al), .int (zI hi0), .long (zL er)])), (a0, .inl (G.2.1.1, 7, .inl (aI (up (up fa x (fa x + 1)) y (up fa x (fa x + 1) y + 1)))))]) A) l G [(h0, .inr (8, [.ref a0, .int (zI al), .int (zI hi0), .long (zL er)])), (a0, .inl (G.2.1.1, 7, .inl (aI fa)))] [.ref h0, .int (zI x), .int (zI y)] (by decide) rfl rfl ?_ z9
  intro p e s m args below meth c A ls H locs hF hr hlocks hinit hP hK hD hA hS hBd hl
  have hF : wFx p m c cX8_countRoll 3 s args wsX8_countRoll RX8 := hF
  have hl : lv_has ls 3 [(0, .ref h0), (1, .int (zI x)), (2, .int (zI y))] := hl
  have hx := hF.1
  have hb := hF.2.1
  obtain ⟨Q0, hQ⟩ : ∃ q, q = (MQ below (wQv G (fun (u : Unit) => True) (fun (u : Unit) => [(h0, .inr (8, [.ref a0, .int (zI al), .int (zI hi0), .long (zL er)])), (a0, .inl (G.2.1.1, 7, .inl (aI (up (up fa x (fa x + 1)) y (up fa x (fa x + 1) y + 1)))))]) A) args s 0 0 A) := ⟨_, rfl⟩
  rw [← hQ]
  refine lv_aload_n hx hb dX8_countRoll_0 rfl (lv_at hl 0 rfl) ?_
  refine lv_iload_n hx hb dX8_countRoll_1 rfl (lv_at hl 1 rfl) ?_
  refine cj_v (va_runV (As := [.int (zI x)]) (rest := []) hF (c_X8_countFace l G h0 a0 fa al hi0 er x  (by omega) H.size) (cwV 1 hF.2.2.2.2 gX8_countRoll_X8_countFace rfl rfl rfl (by decide +kernel) ⟨Nat.le_of_ble_eq_true rfl, Nat.le_of_ble_eq_true rfl⟩) (z_preV hK hP hD hS hA hBd [0, 1] rfl rfl rfl rfl [.int (zI x)]) rfl rfl hl.1 rfl (lv_room (Nat.le_of_ble_eq_true rfl)) dX8_countRoll_2 ⟨Nat.le_of_ble_eq_true rfl, Nat.le_of_ble_eq_true rfl⟩) hP hD hS hA [0, 1] rfl (fun _ => Nat.le_of_ble_eq_true rfl) (fun u_1 H locs hw hP hD hS => ?_)
  have hP : va_P G.1 vwCl [(h0, .inr (8, [.ref a0, .int (zI al), .int (zI hi0), .long (zL er)])), (a0, .inl (G.2.1.1, 7, .inl (aI (up fa x (fa x + 1)))))] H := hP
  have hD : va_D A [(h0, .inr (8, [.ref a0, .int (zI al), .int (zI hi0), .long (zL er)])), (a0, .inl (G.2.1.1, 7, .inl (aI (up fa x (fa x + 1)))))] := hD
  obtain - := hw
  refine lv_aload_n hx hb dX8_countRoll_5 rfl (lv_at hl 0 rfl) ?_
  refine lv_iload_n hx hb dX8_countRoll_6 rfl (lv_at hl 2 rfl) ?_
  refine cj_v (va_runV (As := [.int (zI y)]) (rest := []) hF (c_X8_countFace l G h0 a0 (up fa x (fa x + 1)) al hi0 er y  (by omega) H.size) (cwV 1 hF.2.2.2.2 gX8_countRoll_X8_countFace rfl rfl rfl (by decide +kernel) ⟨Nat.le_of_ble_eq_true rfl, Nat.le_of_ble_eq_true rfl⟩) (z_preV hK hP hD hS hA hBd [0, 1] rfl rfl rfl rfl [.int (zI y)]) rfl rfl hl.1 rfl (lv_room (Nat.le_of_ble_eq_true rfl)) dX8_countRoll_7 ⟨Nat.le_of_ble_eq_true rfl, Nat.le_of_ble_eq_true rfl⟩) hP hD hS hA [0, 1] rfl (fun _ => Nat.le_of_ble_eq_true rfl) (fun u_3 H locs hw hP hD hS => ?_)
  have hP : va_P G.1 vwCl [(h0, .inr (8, [.ref a0, .int (zI al), .int (zI hi0), .long (zL er)])), (a0, .inl (G.2.1.1, 7, .inl (aI (up (up fa x (fa x + 1)) y ((up fa x (fa x + 1)) y + 1)))))] H := hP
  have hD : va_D A [(h0, .inr (8, [.ref a0, .int (zI al), .int (zI hi0), .long (zL er)])), (a0, .inl (G.2.1.1, 7, .inl (aI (up (up fa x (fa x + 1)) y ((up fa x (fa x + 1)) y + 1)))))] := hD
  obtain - := hw
  rw [hQ]
  exact z_vret hF hr hlocks () (trivial) hP hK hD hS dX8_countRoll_10
set_option maxHeartbeats 4000000 in
set_option maxRecDepth 100000 in
theorem c_X8_countPlay (l : Launch) (G : wG) (h0 a0 : Nat) (fa : Int → Int) (al hi0 er : Int) (hs er1 : Int)  (hr_hs : -2147483648 ≤ hs ∧ hs < 2147483648) (hr_er1 : -2147483648 ≤ er1 ∧ er1 < 2147483648) (z9 : Nat) : Met l yX8_countPlay wsX8_countPlay (rmL 1 0 0) (wPc G [(h0, .inr (8, [.ref a0, .int (zI al), .int (zI hi0), .long (zL er)])), (a0, .inl (G.2.1.1, 7, .inl (aI fa)))] z9 [.ref h0, .int (zI hs), .int (zI er1)]) (wQv G (fun (u : Unit) => True) (fun (u : Unit) => [(h0, .inr (8, [.ref a0, .int (zI (al + 1)), .int (zI (if 0 < hs then hi0 + 1 else hi0 + 0)), .long (zL (er + er1))])), (a0, .inl (G.2.1.1, 7, .inl (aI fa)))]) (va_A [(h0, .inr (8, [.ref a0, .int (zI al), .int (zI hi0), .long (zL er)])), (a0, .inl (G.2.1.1, 7, .inl (aI fa)))] z9)) 0 0 (va_A [(h0, .inr (8, [.ref a0, .int (zI al), .int (zI hi0), .long (zL er)])), (a0, .inl (G.2.1.1, 7, .inl (aI fa)))] z9) := by
  refine z_ofW (Qc := fun A => wQv G (fun (u : Unit) => True) (fun (u : Unit) => [(h0, .inr (8, [.ref a0, .int (zI (al + 1)), .int (zI (if 0 < hs then hi0 + 1 else hi0 + 0)), .long (zL (er + er1))])), (a0, .inl (G.2.1.1, 7, .inl (aI fa)))]) A) l G [(h0, .inr (8, [.ref a0, .int (zI al), .int (zI hi0), .long (zL er)])), (a0, .inl (G.2.1.1, 7, .inl (aI fa)))] [.ref h0, .int (zI hs), .int (zI er1)] (by decide) rfl rfl ?_ z9
  intro p e s m args below meth c A ls H locs hF hr hlocks hinit hP hK hD hA hS hBd hl
  have hF : wFx p m c cX8_countPlay 3 s args wsX8_countPlay RX8 := hF
  have hl : lv_has ls 3 [(0, .ref h0), (1, .int (zI hs)), (2, .int (zI er1))] := hl
  have hx := hF.1
  have hb := hF.2.1
  obtain ⟨Q0, hQ⟩ : ∃ q, q = (MQ below (wQv G (fun (u : Unit) => True) (fun (u : Unit) => [(h0, .inr (8, [.ref a0, .int (zI (al + 1)), .int (zI (if 0 < hs then hi0 + 1 else hi0 + 0)), .long (zL (er + er1))])), (a0, .inl (G.2.1.1, 7, .inl (aI fa)))]) A) args s 0 0 A) := ⟨_, rfl⟩
  rw [← hQ]
  have i_wsX80 : ∀ w ∈ wsX80, w ∈ wsX8_countPlay := (fun _ h => (List.mem_cons_of_mem _ (List.mem_append_right _ h)))
  have kf_15 : (Cond.fieldLink RX8 15 "Gammonry$Totals" "allPlays" "I").before args s = true := hF.2.2.2.2 _ (List.mem_cons_of_mem _ (List.mem_append_left _ (List.mem_of_getElem? (i := 0) rfl)))
  have kf_19 : (Cond.fieldLink RX8 19 "Gammonry$Totals" "hitting" "I").before args s = true := hF.2.2.2.2 _ (List.mem_cons_of_mem _ (List.mem_append_left _ (List.mem_of_getElem? (i := 1) rfl)))
  have kf_22 : (Cond.fieldLink RX8 22 "Gammonry$Totals" "errors" "J").before args s = true := hF.2.2.2.2 _ (List.mem_cons_of_mem _ (List.mem_append_left _ (List.mem_of_getElem? (i := 2) rfl)))
  refine lv_aload_n hx hb dX8_countPlay_0 rfl (lv_at hl 0 rfl) ?_
  refine lv_dup hx hb dX8_countPlay_1 rfl ?_
  refine z_get (k := 1) hF hK hP 0 rfl rfl i_wsX80 (by decide) kf_15 rfl dX8_countPlay_2 ?_
  refine z_iconst hF dX8_countPlay_5 ?_
  refine z_iadd hF dX8_countPlay_6 ?_
  refine z_put (k := 1) hF hK hP hD hS 0 rfl rfl i_wsX80 (by decide) tyX8 tyX8_ok nmX8 rfl kf_15 rfl rfl (Nat.le_of_ble_eq_true rfl) dX8_countPlay_7 (fun H locs hP hD hS => ?_)
  have hP : va_P G.1 vwCl [(h0, .inr (8, [.ref a0, .int (zI (al + 1)), .int (zI hi0), .long (zL er)])), (a0, .inl (G.2.1.1, 7, .inl (aI fa)))] H := hP
  have hD : va_D A [(h0, .inr (8, [.ref a0, .int (zI (al + 1)), .int (zI hi0), .long (zL er)])), (a0, .inl (G.2.1.1, 7, .inl (aI fa)))] := hD
  refine lv_aload_n hx hb dX8_countPlay_10 rfl (lv_at hl 0 rfl) ?_
  refine lv_dup hx hb dX8_countPlay_11 rfl ?_
  refine z_get (k := 2) hF hK hP 0 rfl rfl i_wsX80 (by decide) kf_19 rfl dX8_countPlay_12 ?_
  refine lv_iload_n hx hb dX8_countPlay_15 rfl (lv_at hl 1 rfl) ?_
  refine z_if_le (tgt := 23) hF dX8_countPlay_16 (by decide) (by omega) (fun c_1 => ?_) (fun c_1 => ?_)
  · have hc_16 := c_1
    refine z_iconst hF dX8_countPlay_23 ?_
    refine z_iadd hF dX8_countPlay_24 ?_
    refine z_put (k := 2) hF hK hP hD hS 0 rfl rfl i_wsX80 (by decide) tyX8 tyX8_ok nmX8 rfl kf_19 rfl rfl (Nat.le_of_ble_eq_true rfl) dX8_countPlay_25 (fun H locs hP hD hS => ?_)
    have hP : va_P G.1 vwCl [(h0, .inr (8, [.ref a0, .int (zI (al + 1)), .int (zI (hi0 + 0)), .long (zL er)])), (a0, .inl (G.2.1.1, 7, .inl (aI fa)))] H := hP
    have hD : va_D A [(h0, .inr (8, [.ref a0, .int (zI (al + 1)), .int (zI (hi0 + 0)), .long (zL er)])), (a0, .inl (G.2.1.1, 7, .inl (aI fa)))] := hD
    refine lv_aload_n hx hb dX8_countPlay_28 rfl (lv_at hl 0 rfl) ?_
    refine lv_dup hx hb dX8_countPlay_29 rfl ?_
    refine z_get (k := 3) hF hK hP 0 rfl rfl i_wsX80 (by decide) kf_22 rfl dX8_countPlay_30 ?_
    refine lv_iload_n hx hb dX8_countPlay_33 rfl (lv_at hl 2 rfl) ?_
    refine z_i2l hF dX8_countPlay_34 (by omega) ?_
    refine z_ladd hF dX8_countPlay_35 ?_
    refine z_put (k := 3) hF hK hP hD hS 0 rfl rfl i_wsX80 (by decide) tyX8 tyX8_ok nmX8 rfl kf_22 rfl rfl (Nat.le_of_ble_eq_true rfl) dX8_countPlay_36 (fun H locs hP hD hS => ?_)
    have hP : va_P G.1 vwCl [(h0, .inr (8, [.ref a0, .int (zI (al + 1)), .int (zI (hi0 + 0)), .long (zL (er + er1))])), (a0, .inl (G.2.1.1, 7, .inl (aI fa)))] H := hP
    have hD : va_D A [(h0, .inr (8, [.ref a0, .int (zI (al + 1)), .int (zI (hi0 + 0)), .long (zL (er + er1))])), (a0, .inl (G.2.1.1, 7, .inl (aI fa)))] := hD
    have hP : va_P G.1 vwCl [(h0, .inr (8, [.ref a0, .int (zI (al + 1)), .int (zI (if 0 < hs then hi0 + 1 else hi0 + 0)), .long (zL (er + er1))])), (a0, .inl (G.2.1.1, 7, .inl (aI fa)))] H := by rw [show ((if 0 < hs then hi0 + 1 else hi0 + 0) : Int) = hi0 + 0 from (if_neg (by omega))]; exact hP
    have hD : va_D A [(h0, .inr (8, [.ref a0, .int (zI (al + 1)), .int (zI (if 0 < hs then hi0 + 1 else hi0 + 0)), .long (zL (er + er1))])), (a0, .inl (G.2.1.1, 7, .inl (aI fa)))] := by rw [show ((if 0 < hs then hi0 + 1 else hi0 + 0) : Int) = hi0 + 0 from (if_neg (by omega))]; exact hD
    rw [hQ]
    exact z_vret hF hr hlocks () (trivial) hP hK hD hS dX8_countPlay_39
  · have hc_16 := c_1
    refine z_iconst hF dX8_countPlay_19 ?_
    refine z_goto (tgt := 24) hF dX8_countPlay_20 (by decide) ?_
    refine z_iadd hF dX8_countPlay_24 ?_
    refine z_put (k := 2) hF hK hP hD hS 0 rfl rfl i_wsX80 (by decide) tyX8 tyX8_ok nmX8 rfl kf_19 rfl rfl (Nat.le_of_ble_eq_true rfl) dX8_countPlay_25 (fun H locs hP hD hS => ?_)
    have hP : va_P G.1 vwCl [(h0, .inr (8, [.ref a0, .int (zI (al + 1)), .int (zI (hi0 + 1)), .long (zL er)])), (a0, .inl (G.2.1.1, 7, .inl (aI fa)))] H := hP
    have hD : va_D A [(h0, .inr (8, [.ref a0, .int (zI (al + 1)), .int (zI (hi0 + 1)), .long (zL er)])), (a0, .inl (G.2.1.1, 7, .inl (aI fa)))] := hD
    refine lv_aload_n hx hb dX8_countPlay_28 rfl (lv_at hl 0 rfl) ?_
    refine lv_dup hx hb dX8_countPlay_29 rfl ?_
    refine z_get (k := 3) hF hK hP 0 rfl rfl i_wsX80 (by decide) kf_22 rfl dX8_countPlay_30 ?_
    refine lv_iload_n hx hb dX8_countPlay_33 rfl (lv_at hl 2 rfl) ?_
    refine z_i2l hF dX8_countPlay_34 (by omega) ?_
    refine z_ladd hF dX8_countPlay_35 ?_
    refine z_put (k := 3) hF hK hP hD hS 0 rfl rfl i_wsX80 (by decide) tyX8 tyX8_ok nmX8 rfl kf_22 rfl rfl (Nat.le_of_ble_eq_true rfl) dX8_countPlay_36 (fun H locs hP hD hS => ?_)
    have hP : va_P G.1 vwCl [(h0, .inr (8, [.ref a0, .int (zI (al + 1)), .int (zI (hi0 + 1)), .long (zL (er + er1))])), (a0, .inl (G.2.1.1, 7, .inl (aI fa)))] H := hP
    have hD : va_D A [(h0, .inr (8, [.ref a0, .int (zI (al + 1)), .int (zI (hi0 + 1)), .long (zL (er + er1))])), (a0, .inl (G.2.1.1, 7, .inl (aI fa)))] := hD
    have hP : va_P G.1 vwCl [(h0, .inr (8, [.ref a0, .int (zI (al + 1)), .int (zI (if 0 < hs then hi0 + 1 else hi0 + 0)), .long (zL (er + er1))])), (a0, .inl (G.2.1.1, 7, .inl (aI fa)))] H := by rw [show ((if 0 < hs then hi0 + 1 else hi0 + 0) : Int) = hi0 + 1 from (if_pos (by omega))]; exact hP
    have hD : va_D A [(h0, .inr (8, [.ref a0, .int (zI (al + 1)), .int (zI (if 0 < hs then hi0 + 1 else hi0 + 0)), .long (zL (er + er1))])), (a0, .inl (G.2.1.1, 7, .inl (aI fa)))] := by rw [show ((if 0 < hs then hi0 + 1 else hi0 + 0) : Int) = hi0 + 1 from (if_pos (by omega))]; exact hD
    rw [hQ]
    exact z_vret hF hr hlocks () (trivial) hP hK hD hS dX8_countPlay_39
set_option maxHeartbeats 4000000 in
set_option maxRecDepth 100000 in
theorem c_X8_unevenness (l : Launch) (G : wG) (h0 a0 : Nat) (fa : Int → Int) (al hi0 er : Int)  (hfa : ∀ k, 0 ≤ fa k ∧ fa k ≤ 100000) (z9 : Nat) : Met l yX8_unevenness wsX8_unevenness (rmL 1 0 0) (wPc G [(h0, .inr (8, [.ref a0, .int (zI al), .int (zI hi0), .long (zL er)])), (a0, .inl (G.2.1.1, 7, .inl (aI fa)))] z9 [.ref h0]) (wQl G (fun (r : Int64) (u : Unit) => r = zL (unF fa (alF fa 7) 7)) (fun (u : Unit) => [(h0, .inr (8, [.ref a0, .int (zI al), .int (zI hi0), .long (zL er)])), (a0, .inl (G.2.1.1, 7, .inl (aI fa)))]) (va_A [(h0, .inr (8, [.ref a0, .int (zI al), .int (zI hi0), .long (zL er)])), (a0, .inl (G.2.1.1, 7, .inl (aI fa)))] z9)) 0 0 (va_A [(h0, .inr (8, [.ref a0, .int (zI al), .int (zI hi0), .long (zL er)])), (a0, .inl (G.2.1.1, 7, .inl (aI fa)))] z9) := by
  refine z_ofW (Qc := fun A => wQl G (fun (r : Int64) (u : Unit) => r = zL (unF fa (alF fa 7) 7)) (fun (u : Unit) => [(h0, .inr (8, [.ref a0, .int (zI al), .int (zI hi0), .long (zL er)])), (a0, .inl (G.2.1.1, 7, .inl (aI fa)))]) A) l G [(h0, .inr (8, [.ref a0, .int (zI al), .int (zI hi0), .long (zL er)])), (a0, .inl (G.2.1.1, 7, .inl (aI fa)))] [.ref h0] (by decide) rfl rfl ?_ z9
  intro p e s m args below meth c A ls H locs hF hr hlocks hinit hP hK hD hA hS hBd hl
  have hF : wFx p m c cX8_unevenness 8 s args wsX8_unevenness RX8 := hF
  have hl : lv_has ls 8 [(0, .ref h0)] := hl
  have hx := hF.1
  have hb := hF.2.1
  obtain ⟨Q0, hQ⟩ : ∃ q, q = (MQ below (wQl G (fun (r : Int64) (u : Unit) => r = zL (unF fa (alF fa 7) 7)) (fun (u : Unit) => [(h0, .inr (8, [.ref a0, .int (zI al), .int (zI hi0), .long (zL er)])), (a0, .inl (G.2.1.1, 7, .inl (aI fa)))]) A) args s 0 0 A) := ⟨_, rfl⟩
  rw [← hQ]
  have i_wsX80 : ∀ w ∈ wsX80, w ∈ wsX8_unevenness := (fun _ h => (List.mem_cons_of_mem _ (List.mem_append_right _ h)))
  have kc_30 : (Cond.constantLong RX8 30 (6)).before args s = true := hF.2.2.2.2 _ (List.mem_cons_of_mem _ (List.mem_append_left _ (List.mem_of_getElem? (i := 1) rfl)))
  have kf_9 : (Cond.fieldLink RX8 9 "Gammonry$Totals" "faces" "[I").before args s = true := hF.2.2.2.2 _ (List.mem_cons_of_mem _ (List.mem_append_left _ (List.mem_of_getElem? (i := 0) rfl)))
  refine z_lconst hF dX8_unevenness_0 ?_
  refine z_tzl (b := 0) rfl ?_
  refine lv_lstore_n (lv' := [(1, .long (zL 0)), (0, .ref h0)]) hx hb dX8_unevenness_1 rfl hl (by decide) rfl (fun ls hl => ?_)
  refine z_iconst hF dX8_unevenness_2 ?_
  refine lv_istore_n (lv' := [(3, .int (zI 1)), (1, .long (zL 0)), (0, .ref h0)]) hx hb dX8_unevenness_3 rfl hl (by decide) rfl (fun ls hl => ?_)
  have L4 : ∀ (n9 : Nat) (i sm0 : Int), (7 - i).toNat < n9 → (1 ≤ i ∧ i ≤ 7) → sm0 = alF fa i → ∀ (H : Heap) (locs : List Loc) (ls : Array Slot), va_P G.1 vwCl [(h0, .inr (8, [.ref a0, .int (zI al), .int (zI hi0), .long (zL er)])), (a0, .inl (G.2.1.1, 7, .inl (aI fa)))] H → va_D A [(h0, .inr (8, [.ref a0, .int (zI al), .int (zI hi0), .long (zL er)])), (a0, .inl (G.2.1.1, 7, .inl (aI fa)))] → va_S A s.heap H locs → lv_has ls 8 [(0, .ref h0), (1, .long (zL sm0)), (3, .int (zI i))] → W p l e (rmL 1 0 0) s m args below meth c H locs 0 0 Q0 (F0 m 4 ls []) := by
    intro n9
    induction n9 with
    | zero => intro i sm0 hmu; omega
    | succ n9 ih4 =>
      intro i sm0 hmu4 hzi hsm H locs ls hP hD hS hl
      refine lv_iload_n hx hb dX8_unevenness_4 rfl (lv_at hl 2 rfl) ?_
      refine z_bipush hF dX8_unevenness_5 (by decide) ?_
      refine z_icmp_gt (tgt := 26) hF dX8_unevenness_7 (by decide) (by omega) (by decide) (fun c_1 => ?_) (fun c_1 => ?_)
      · have hc_7 := c_1
        refine z_lconst hF dX8_unevenness_26 ?_
        refine z_tzl (b := 0) rfl ?_
        refine lv_lstore_n (lv' := [(3, .long (zL 0)), (0, .ref h0), (1, .long (zL sm0))]) hx hb dX8_unevenness_27 rfl hl (by decide) rfl (fun ls hl => ?_)
        refine z_iconst hF dX8_unevenness_28 ?_
        refine lv_istore (lv' := [(5, .int (zI 1)), (3, .long (zL 0)), (0, .ref h0), (1, .long (zL sm0))]) hx hb dX8_unevenness_29 hl (by decide) rfl (fun ls hl => ?_)
        have L31 : ∀ (n9 : Nat) (j sm1 : Int), (7 - j).toNat < n9 → (1 ≤ j ∧ j ≤ 7) → sm1 = unF fa sm0 j → ∀ (H : Heap) (locs : List Loc) (ls : Array Slot), va_P G.1 vwCl [(h0, .inr (8, [.ref a0, .int (zI al), .int (zI hi0), .long (zL er)])), (a0, .inl (G.2.1.1, 7, .inl (aI fa)))] H → va_D A [(h0, .inr (8, [.ref a0, .int (zI al), .int (zI hi0), .long (zL er)])), (a0, .inl (G.2.1.1, 7, .inl (aI fa)))] → va_S A s.heap H locs → lv_has ls 8 [(0, .ref h0), (1, .long (zL sm0)), (3, .long (zL sm1)), (5, .int (zI j))] → W p l e (rmL 1 0 0) s m args below meth c H locs 0 0 Q0 (F0 m 31 ls []) := by
          intro n9
          induction n9 with
          | zero => intro j sm1 hmu; omega
          | succ n9 ih31 =>
            intro j sm1 hmu31 hzj hsn H locs ls hP hD hS hl
            refine lv_iload hx hb dX8_unevenness_31 (lv_at hl 3 rfl) ?_
            refine z_bipush hF dX8_unevenness_33 (by decide) ?_
            refine z_icmp_gt (tgt := 68) hF dX8_unevenness_35 (by decide) (by omega) (by decide) (fun c_2 => ?_) (fun c_2 => ?_)
            · have hc_35 := c_2
              refine lv_lload_n hx hb dX8_unevenness_68 rfl (lv_at hl 2 rfl) ?_
              rw [hQ]
              exact z_lret hF hr hlocks () (zL_congr (by rw [hsn, hsm, show i = 7 by omega, show j = 7 by omega])) hP hK hD hS dX8_unevenness_69
            · have hc_35 := c_2
              refine lv_ldc2 hx hb hF.2.2.2.1 kc_30 dX8_unevenness_38 ?_
              refine z_topl (y := zL 6) (by decide) ?_
              refine lv_aload_n hx hb dX8_unevenness_41 rfl (lv_at hl 0 rfl) ?_
              refine z_get (k := 0) hF hK hP 0 rfl rfl i_wsX80 (by decide) kf_9 rfl dX8_unevenness_42 ?_
              refine lv_iload hx hb dX8_unevenness_45 (lv_at hl 3 rfl) ?_
              refine z_iald hF hK hP 1 rfl (by omega) rfl dX8_unevenness_47 ?_
              refine z_i2l hF dX8_unevenness_48 (by have := hfa j; omega) ?_
              refine z_lmul hF dX8_unevenness_49 ?_
              refine lv_lload_n hx hb dX8_unevenness_50 rfl (lv_at hl 1 rfl) ?_
              refine z_lsub hF dX8_unevenness_51 ?_
              refine lv_lstore (lv' := [(6, .long (zL ((6 * (fa j)) - sm0))), (0, .ref h0), (1, .long (zL sm0)), (3, .long (zL sm1)), (5, .int (zI j))]) hx hb dX8_unevenness_52 hl (by decide) rfl (fun ls hl => ?_)
              refine lv_lload_n hx hb dX8_unevenness_54 rfl (lv_at hl 3 rfl) ?_
              refine lv_lload hx hb dX8_unevenness_55 (lv_at hl 0 rfl) ?_
              refine lv_lload hx hb dX8_unevenness_57 (lv_at hl 0 rfl) ?_
              refine z_lmul hF dX8_unevenness_59 ?_
              refine z_ladd hF dX8_unevenness_60 ?_
              refine lv_lstore_n (lv' := [(3, .long (zL (sm1 + (((6 * (fa j)) - sm0) * ((6 * (fa j)) - sm0))))), (6, .long (zL ((6 * (fa j)) - sm0))), (0, .ref h0), (1, .long (zL sm0)), (5, .int (zI j))]) hx hb dX8_unevenness_61 rfl hl (by decide) rfl (fun ls hl => ?_)
              refine z_iinc (lv' := [(5, .int (zI (j + 1))), (3, .long (zL (sm1 + (((6 * (fa j)) - sm0) * ((6 * (fa j)) - sm0))))), (6, .long (zL ((6 * (fa j)) - sm0))), (0, .ref h0), (1, .long (zL sm0))]) hF dX8_unevenness_62 hl (k := 4) rfl (by decide) rfl (fun ls hl => ?_)
              refine z_goto (tgt := 31) hF dX8_unevenness_65 (by decide) ?_
              exact ih31 (j + 1) (sm1 + (((6 * (fa j)) - sm0) * ((6 * (fa j)) - sm0))) (by omega) (by omega) (by first | rfl | rw [unF_s hzj.1, ← hsn]) H locs ls hP hD hS (lv_sub hl [3, 4, 1, 0] rfl)
        exact L31 _ 1 0 (Nat.lt_succ_self _) (by omega) (by first | rfl | rw [unF_s hzj.1, ← hsn]) H locs ls hP hD hS (lv_sub hl [2, 3, 1, 0] rfl)
      · have hc_7 := c_1
        refine lv_lload_n hx hb dX8_unevenness_10 rfl (lv_at hl 1 rfl) ?_
        refine lv_aload_n hx hb dX8_unevenness_11 rfl (lv_at hl 0 rfl) ?_
        refine z_get (k := 0) hF hK hP 0 rfl rfl i_wsX80 (by decide) kf_9 rfl dX8_unevenness_12 ?_
        refine lv_iload_n hx hb dX8_unevenness_15 rfl (lv_at hl 2 rfl) ?_
        refine z_iald hF hK hP 1 rfl (by omega) rfl dX8_unevenness_16 ?_
        refine z_i2l hF dX8_unevenness_17 (by have := hfa i; omega) ?_
        refine z_ladd hF dX8_unevenness_18 ?_
        refine lv_lstore_n (lv' := [(1, .long (zL (sm0 + (fa i)))), (0, .ref h0), (3, .int (zI i))]) hx hb dX8_unevenness_19 rfl hl (by decide) rfl (fun ls hl => ?_)
        refine z_iinc (lv' := [(3, .int (zI (i + 1))), (1, .long (zL (sm0 + (fa i)))), (0, .ref h0)]) hF dX8_unevenness_20 hl (k := 2) rfl (by decide) rfl (fun ls hl => ?_)
        refine z_goto (tgt := 4) hF dX8_unevenness_23 (by decide) ?_
        exact ih4 (i + 1) (sm0 + (fa i)) (by omega) (by omega) (by first | rfl | rw [alF_s hzi.1, ← hsm]) H locs ls hP hD hS (lv_sub hl [2, 1, 0] rfl)
  exact L4 _ 1 0 (Nat.lt_succ_self _) (by omega) (by first | rfl | rw [alF_s hzi.1, ← hsm]) H locs ls hP hD hS (lv_sub hl [2, 1, 0] rfl)
set_option maxHeartbeats 4000000 in
set_option maxRecDepth 100000 in
theorem c_X3_init (l : Launch) (G : wG) (h0 : Nat)  (z9 : Nat) : Met l yX3_init wsX3_init (rmL 2 3 1536) (wPc G [(h0, .inr (3, [.null, .null, .null, .int (zI 0), .int (zI 0), .int (zI 0)]))] z9 [.ref h0]) (wQv G (fun (u : (Nat × Nat × Nat)) => True) (fun (u : (Nat × Nat × Nat)) => [(h0, .inr (3, [.ref u.1, .ref u.2.1, .ref u.2.2, .int (zI 0), .int (zI 32), .int (zI 0)])), (u.1, .inl (G.2.1.1, 512, .inl (aI (fun _ => 0)))), (u.2.1, .inl (G.2.1.1, 512, .inl (aI (fun _ => 0)))), (u.2.2, .inl (G.2.1.1, 512, .inl (aI (fun _ => 0))))]) (va_A [(h0, .inr (3, [.null, .null, .null, .int (zI 0), .int (zI 0), .int (zI 0)]))] z9)) 3 1536 (va_A [(h0, .inr (3, [.null, .null, .null, .int (zI 0), .int (zI 0), .int (zI 0)]))] z9) := by
  refine z_ofW (Qc := fun A => wQv G (fun (u : (Nat × Nat × Nat)) => True) (fun (u : (Nat × Nat × Nat)) => [(h0, .inr (3, [.ref u.1, .ref u.2.1, .ref u.2.2, .int (zI 0), .int (zI 32), .int (zI 0)])), (u.1, .inl (G.2.1.1, 512, .inl (aI (fun _ => 0)))), (u.2.1, .inl (G.2.1.1, 512, .inl (aI (fun _ => 0)))), (u.2.2, .inl (G.2.1.1, 512, .inl (aI (fun _ => 0))))]) A) l G [(h0, .inr (3, [.null, .null, .null, .int (zI 0), .int (zI 0), .int (zI 0)]))] [.ref h0] (by decide) rfl rfl ?_ z9
  intro p e s m args below meth c A ls H locs hF hr hlocks hinit hP hK hD hA hS hBd hl
  have hF : wFx p m c cX3_init 1 s args wsX3_init RX3 := hF
  have hl : lv_has ls 1 [(0, .ref h0)] := hl
  have hx := hF.1
  have hb := hF.2.1
  obtain ⟨Q0, hQ⟩ : ∃ q, q = (MQ below (wQv G (fun (u : (Nat × Nat × Nat)) => True) (fun (u : (Nat × Nat × Nat)) => [(h0, .inr (3, [.ref u.1, .ref u.2.1, .ref u.2.2, .int (zI 0), .int (zI 32), .int (zI 0)])), (u.1, .inl (G.2.1.1, 512, .inl (aI (fun _ => 0)))), (u.2.1, .inl (G.2.1.1, 512, .inl (aI (fun _ => 0)))), (u.2.2, .inl (G.2.1.1, 512, .inl (aI (fun _ => 0))))]) A) args s 3 1536 A) := ⟨_, rfl⟩
  rw [← hQ]
  have i_wsX30 : ∀ w ∈ wsX30, w ∈ wsX3_init := (fun _ h => (List.mem_cons_of_mem _ (List.mem_append_right _ h)))
  have ka_int : (Cond.arrayClass .int).before args s = true := hF.2.2.2.2 _ (List.mem_cons_of_mem _ (List.mem_append_left _ (List.mem_of_getElem? (i := 3) rfl)))
  have kf_15 : (Cond.fieldLink RX3 15 "Gammonry$History" "numbers" "[I").before args s = true := hF.2.2.2.2 _ (List.mem_cons_of_mem _ (List.mem_append_left _ (List.mem_of_getElem? (i := 5) rfl)))
  have kf_18 : (Cond.fieldLink RX3 18 "Gammonry$History" "rows" "[I").before args s = true := hF.2.2.2.2 _ (List.mem_cons_of_mem _ (List.mem_append_left _ (List.mem_of_getElem? (i := 6) rfl)))
  have kf_21 : (Cond.fieldLink RX3 21 "Gammonry$History" "turns" "I").before args s = true := hF.2.2.2.2 _ (List.mem_cons_of_mem _ (List.mem_append_left _ (List.mem_of_getElem? (i := 7) rfl)))
  have kf_25 : (Cond.fieldLink RX3 25 "Gammonry$History" "variant" "C").before args s = true := hF.2.2.2.2 _ (List.mem_cons_of_mem _ (List.mem_append_left _ (List.mem_of_getElem? (i := 8) rfl)))
  have kf_29 : (Cond.fieldLink RX3 29 "Gammonry$History" "first" "I").before args s = true := hF.2.2.2.2 _ (List.mem_cons_of_mem _ (List.mem_append_left _ (List.mem_of_getElem? (i := 9) rfl)))
  have kf_9 : (Cond.fieldLink RX3 9 "Gammonry$History" "dice" "[I").before args s = true := hF.2.2.2.2 _ (List.mem_cons_of_mem _ (List.mem_append_left _ (List.mem_of_getElem? (i := 4) rfl)))
  have km_3 : (Cond.methodLink RX3 3 objectInit).before args s = true := hF.2.2.2.2 _ (List.mem_cons_of_mem _ (List.mem_append_left _ (List.mem_of_getElem? (i := 0) rfl)))
  have ko_c : (Cond.code objectInit ⟨#[0xb1]⟩ 1 none).before args s = true := hF.2.2.2.2 _ (List.mem_cons_of_mem _ (List.mem_append_left _ (List.mem_of_getElem? (i := 2) rfl)))
  have ko_i : (Cond.instanceMethod objectInit).before args s = true := hF.2.2.2.2 _ (List.mem_cons_of_mem _ (List.mem_append_left _ (List.mem_of_getElem? (i := 1) rfl)))
  refine lv_aload_n hx hb dX3_init_0 rfl (lv_at hl 0 rfl) ?_
  refine W.objInit hx hb hF.2.2.2.1 km_3 ko_i ko_c rfl (by rw [hF.2.2.1]; exact hl.1) rfl dX3_init_1 (Nat.le_of_ble_eq_true rfl) (Nat.le_of_ble_eq_true rfl) ?_
  refine W.eq (g2 := F0 m 4 ls []) rfl ?_
  refine lv_aload_n hx hb dX3_init_4 rfl (lv_at hl 0 rfl) ?_
  refine z_sipush hF dX3_init_5 (by decide) ?_
  refine z_newai hF ka_int hK hP hD hS hA (N := 512) (by decide) (by decide) rfl rfl rfl dX3_init_8 (fun q_1 H hP hD hS => ?_)
  have hP : va_P G.1 vwCl [(h0, .inr (3, [.null, .null, .null, .int (zI 0), .int (zI 0), .int (zI 0)])), (q_1, .inl (G.2.1.1, 512, .inl (aI (fun _ => 0))))] H := hP
  have hD : va_D A [(h0, .inr (3, [.null, .null, .null, .int (zI 0), .int (zI 0), .int (zI 0)])), (q_1, .inl (G.2.1.1, 512, .inl (aI (fun _ => 0))))] := hD
  refine W.widen (k := 1) (n := 512) (Nat.le_of_ble_eq_true rfl) (Nat.le_of_ble_eq_true rfl) ?_
  refine va_putF (D := G.1) (ty := tyX3 0) (ci := 3) (C := RX3) (T := TX3) (N := 6) hx hb hF.2.2.2.2 i_wsX30 tyX3 tyX3_ok nmX3 hF.2.2.2.1 hK hP hD hS 0 rfl rfl 0 (by decide) kf_9 (fun _ h9 => h9) rfl (hinit rfl) rfl (tyX3_ok 0 (by decide)) rfl rfl (Nat.le_of_ble_eq_true rfl) dX3_init_10 (fun H locs hP hD hS => ?_)
  have hP : va_P G.1 vwCl [(h0, .inr (3, [.ref q_1, .null, .null, .int (zI 0), .int (zI 0), .int (zI 0)])), (q_1, .inl (G.2.1.1, 512, .inl (aI (fun _ => 0))))] H := hP
  have hD : va_D A [(h0, .inr (3, [.ref q_1, .null, .null, .int (zI 0), .int (zI 0), .int (zI 0)])), (q_1, .inl (G.2.1.1, 512, .inl (aI (fun _ => 0))))] := hD
  refine lv_aload_n hx hb dX3_init_13 rfl (lv_at hl 0 rfl) ?_
  refine z_sipush hF dX3_init_14 (by decide) ?_
  refine z_newai hF ka_int hK hP hD hS hA (N := 512) (by decide) (by decide) rfl rfl rfl dX3_init_17 (fun q_2 H hP hD hS => ?_)
  have hP : va_P G.1 vwCl [(h0, .inr (3, [.ref q_1, .null, .null, .int (zI 0), .int (zI 0), .int (zI 0)])), (q_1, .inl (G.2.1.1, 512, .inl (aI (fun _ => 0)))), (q_2, .inl (G.2.1.1, 512, .inl (aI (fun _ => 0))))] H := hP
  have hD : va_D A [(h0, .inr (3, [.ref q_1, .null, .null, .int (zI 0), .int (zI 0), .int (zI 0)])), (q_1, .inl (G.2.1.1, 512, .inl (aI (fun _ => 0)))), (q_2, .inl (G.2.1.1, 512, .inl (aI (fun _ => 0))))] := hD
  refine W.widen (k := 2) (n := 1024) (Nat.le_of_ble_eq_true rfl) (Nat.le_of_ble_eq_true rfl) ?_
  refine va_putF (D := G.1) (ty := tyX3 1) (ci := 3) (C := RX3) (T := TX3) (N := 6) hx hb hF.2.2.2.2 i_wsX30 tyX3 tyX3_ok nmX3 hF.2.2.2.1 hK hP hD hS 0 rfl rfl 1 (by decide) kf_15 (fun _ h9 => h9) rfl (hinit rfl) rfl (tyX3_ok 1 (by decide)) rfl rfl (Nat.le_of_ble_eq_true rfl) dX3_init_19 (fun H locs hP hD hS => ?_)
  have hP : va_P G.1 vwCl [(h0, .inr (3, [.ref q_1, .ref q_2, .null, .int (zI 0), .int (zI 0), .int (zI 0)])), (q_1, .inl (G.2.1.1, 512, .inl (aI (fun _ => 0)))), (q_2, .inl (G.2.1.1, 512, .inl (aI (fun _ => 0))))] H := hP
  have hD : va_D A [(h0, .inr (3, [.ref q_1, .ref q_2, .null, .int (zI 0), .int (zI 0), .int (zI 0)])), (q_1, .inl (G.2.1.1, 512, .inl (aI (fun _ => 0)))), (q_2, .inl (G.2.1.1, 512, .inl (aI (fun _ => 0))))] := hD
  refine lv_aload_n hx hb dX3_init_22 rfl (lv_at hl 0 rfl) ?_
  refine z_sipush hF dX3_init_23 (by decide) ?_
  refine z_newai hF ka_int hK hP hD hS hA (N := 512) (by decide) (by decide) rfl rfl rfl dX3_init_26 (fun q_3 H hP hD hS => ?_)
  have hP : va_P G.1 vwCl [(h0, .inr (3, [.ref q_1, .ref q_2, .null, .int (zI 0), .int (zI 0), .int (zI 0)])), (q_1, .inl (G.2.1.1, 512, .inl (aI (fun _ => 0)))), (q_2, .inl (G.2.1.1, 512, .inl (aI (fun _ => 0)))), (q_3, .inl (G.2.1.1, 512, .inl (aI (fun _ => 0))))] H := hP
  have hD : va_D A [(h0, .inr (3, [.ref q_1, .ref q_2, .null, .int (zI 0), .int (zI 0), .int (zI 0)])), (q_1, .inl (G.2.1.1, 512, .inl (aI (fun _ => 0)))), (q_2, .inl (G.2.1.1, 512, .inl (aI (fun _ => 0)))), (q_3, .inl (G.2.1.1, 512, .inl (aI (fun _ => 0))))] := hD
  refine W.widen (k := 3) (n := 1536) (Nat.le_of_ble_eq_true rfl) (Nat.le_of_ble_eq_true rfl) ?_
  refine va_putF (D := G.1) (ty := tyX3 2) (ci := 3) (C := RX3) (T := TX3) (N := 6) hx hb hF.2.2.2.2 i_wsX30 tyX3 tyX3_ok nmX3 hF.2.2.2.1 hK hP hD hS 0 rfl rfl 2 (by decide) kf_18 (fun _ h9 => h9) rfl (hinit rfl) rfl (tyX3_ok 2 (by decide)) rfl rfl (Nat.le_of_ble_eq_true rfl) dX3_init_28 (fun H locs hP hD hS => ?_)
  have hP : va_P G.1 vwCl [(h0, .inr (3, [.ref q_1, .ref q_2, .ref q_3, .int (zI 0), .int (zI 0), .int (zI 0)])), (q_1, .inl (G.2.1.1, 512, .inl (aI (fun _ => 0)))), (q_2, .inl (G.2.1.1, 512, .inl (aI (fun _ => 0)))), (q_3, .inl (G.2.1.1, 512, .inl (aI (fun _ => 0))))] H := hP
  have hD : va_D A [(h0, .inr (3, [.ref q_1, .ref q_2, .ref q_3, .int (zI 0), .int (zI 0), .int (zI 0)])), (q_1, .inl (G.2.1.1, 512, .inl (aI (fun _ => 0)))), (q_2, .inl (G.2.1.1, 512, .inl (aI (fun _ => 0)))), (q_3, .inl (G.2.1.1, 512, .inl (aI (fun _ => 0))))] := hD
  refine lv_aload_n hx hb dX3_init_31 rfl (lv_at hl 0 rfl) ?_
  refine z_iconst hF dX3_init_32 ?_
  refine z_put (k := 3) hF hK hP hD hS 0 rfl rfl i_wsX30 (by decide) tyX3 tyX3_ok nmX3 rfl kf_21 rfl rfl (Nat.le_of_ble_eq_true rfl) dX3_init_33 (fun H locs hP hD hS => ?_)
  have hP : va_P G.1 vwCl [(h0, .inr (3, [.ref q_1, .ref q_2, .ref q_3, .int (zI 0), .int (zI 0), .int (zI 0)])), (q_1, .inl (G.2.1.1, 512, .inl (aI (fun _ => 0)))), (q_2, .inl (G.2.1.1, 512, .inl (aI (fun _ => 0)))), (q_3, .inl (G.2.1.1, 512, .inl (aI (fun _ => 0))))] H := hP
  have hD : va_D A [(h0, .inr (3, [.ref q_1, .ref q_2, .ref q_3, .int (zI 0), .int (zI 0), .int (zI 0)])), (q_1, .inl (G.2.1.1, 512, .inl (aI (fun _ => 0)))), (q_2, .inl (G.2.1.1, 512, .inl (aI (fun _ => 0)))), (q_3, .inl (G.2.1.1, 512, .inl (aI (fun _ => 0))))] := hD
  refine lv_aload_n hx hb dX3_init_36 rfl (lv_at hl 0 rfl) ?_
  refine z_bipush hF dX3_init_37 (by decide) ?_
  refine z_put (k := 4) hF hK hP hD hS 0 rfl rfl i_wsX30 (by decide) tyX3 tyX3_ok nmX3 rfl kf_25 rfl rfl (Nat.le_of_ble_eq_true rfl) dX3_init_39 (fun H locs hP hD hS => ?_)
  have hP : va_P G.1 vwCl [(h0, .inr (3, [.ref q_1, .ref q_2, .ref q_3, .int (zI 0), .int (zI 32), .int (zI 0)])), (q_1, .inl (G.2.1.1, 512, .inl (aI (fun _ => 0)))), (q_2, .inl (G.2.1.1, 512, .inl (aI (fun _ => 0)))), (q_3, .inl (G.2.1.1, 512, .inl (aI (fun _ => 0))))] H := hP
  have hD : va_D A [(h0, .inr (3, [.ref q_1, .ref q_2, .ref q_3, .int (zI 0), .int (zI 32), .int (zI 0)])), (q_1, .inl (G.2.1.1, 512, .inl (aI (fun _ => 0)))), (q_2, .inl (G.2.1.1, 512, .inl (aI (fun _ => 0)))), (q_3, .inl (G.2.1.1, 512, .inl (aI (fun _ => 0))))] := hD
  refine lv_aload_n hx hb dX3_init_42 rfl (lv_at hl 0 rfl) ?_
  refine z_iconst hF dX3_init_43 ?_
  refine z_put (k := 5) hF hK hP hD hS 0 rfl rfl i_wsX30 (by decide) tyX3 tyX3_ok nmX3 rfl kf_29 rfl rfl (Nat.le_of_ble_eq_true rfl) dX3_init_44 (fun H locs hP hD hS => ?_)
  have hP : va_P G.1 vwCl [(h0, .inr (3, [.ref q_1, .ref q_2, .ref q_3, .int (zI 0), .int (zI 32), .int (zI 0)])), (q_1, .inl (G.2.1.1, 512, .inl (aI (fun _ => 0)))), (q_2, .inl (G.2.1.1, 512, .inl (aI (fun _ => 0)))), (q_3, .inl (G.2.1.1, 512, .inl (aI (fun _ => 0))))] H := hP
  have hD : va_D A [(h0, .inr (3, [.ref q_1, .ref q_2, .ref q_3, .int (zI 0), .int (zI 32), .int (zI 0)])), (q_1, .inl (G.2.1.1, 512, .inl (aI (fun _ => 0)))), (q_2, .inl (G.2.1.1, 512, .inl (aI (fun _ => 0)))), (q_3, .inl (G.2.1.1, 512, .inl (aI (fun _ => 0))))] := hD
  rw [hQ]
  refine W.widen (k := 3) (n := 1536) (Nat.le_of_ble_eq_true rfl) (Nat.le_of_ble_eq_true rfl) ?_
  exact z_vret hF hr hlocks (q_1, q_2, q_3) (trivial) hP hK hD hS dX3_init_47
set_option maxHeartbeats 4000000 in
set_option maxRecDepth 100000 in
theorem c_X3_clear (l : Launch) (G : wG) (h0 a0 b0 c1 : Nat) (fd fn fr0 : Int → Int) (tu va fi : Int) (va1 fi1 : Int)  (hva1 : 0 ≤ va1 ∧ va1 < 65536) (z9 : Nat) : Met l yX3_clear wsX3_clear (rmL 1 0 0) (wPc G [(h0, .inr (3, [.ref a0, .ref b0, .ref c1, .int (zI tu), .int (zI va), .int (zI fi)])), (a0, .inl (G.2.1.1, 512, .inl (aI fd))), (b0, .inl (G.2.1.1, 512, .inl (aI fn))), (c1, .inl (G.2.1.1, 512, .inl (aI fr0)))] z9 [.ref h0, .int (zI va1), .int (zI fi1)]) (wQv G (fun (u : Unit) => True) (fun (u : Unit) => [(h0, .inr (3, [.ref a0, .ref b0, .ref c1, .int (zI 0), .int (zI va1), .int (zI fi1)])), (a0, .inl (G.2.1.1, 512, .inl (aI fd))), (b0, .inl (G.2.1.1, 512, .inl (aI fn))), (c1, .inl (G.2.1.1, 512, .inl (aI fr0)))]) (va_A [(h0, .inr (3, [.ref a0, .ref b0, .ref c1, .int (zI tu), .int (zI va), .int (zI fi)])), (a0, .inl (G.2.1.1, 512, .inl (aI fd))), (b0, .inl (G.2.1.1, 512, .inl (aI fn))), (c1, .inl (G.2.1.1, 512, .inl (aI fr0)))] z9)) 0 0 (va_A [(h0, .inr (3, [.ref a0, .ref b0, .ref c1, .int (zI tu), .int (zI va), .int (zI fi)])), (a0, .inl (G.2.1.1, 512, .inl (aI fd))), (b0, .inl (G.2.1.1, 512, .inl (aI fn))), (c1, .inl (G.2.1.1, 512, .inl (aI fr0)))] z9) := by
  refine z_ofW (Qc := fun A => wQv G (fun (u : Unit) => True) (fun (u : Unit) => [(h0, .inr (3, [.ref a0, .ref b0, .ref c1, .int (zI 0), .int (zI va1), .int (zI fi1)])), (a0, .inl (G.2.1.1, 512, .inl (aI fd))), (b0, .inl (G.2.1.1, 512, .inl (aI fn))), (c1, .inl (G.2.1.1, 512, .inl (aI fr0)))]) A) l G [(h0, .inr (3, [.ref a0, .ref b0, .ref c1, .int (zI tu), .int (zI va), .int (zI fi)])), (a0, .inl (G.2.1.1, 512, .inl (aI fd))), (b0, .inl (G.2.1.1, 512, .inl (aI fn))), (c1, .inl (G.2.1.1, 512, .inl (aI fr0)))] [.ref h0, .int (zI va1), .int (zI fi1)] (by decide) rfl rfl ?_ z9
  intro p e s m args below meth c A ls H locs hF hr hlocks hinit hP hK hD hA hS hBd hl
  have hF : wFx p m c cX3_clear 3 s args wsX3_clear RX3 := hF
  have hl : lv_has ls 3 [(0, .ref h0), (1, .int (zI va1)), (2, .int (zI fi1))] := hl
  have hx := hF.1
  have hb := hF.2.1
  obtain ⟨Q0, hQ⟩ : ∃ q, q = (MQ below (wQv G (fun (u : Unit) => True) (fun (u : Unit) => [(h0, .inr (3, [.ref a0, .ref b0, .ref c1, .int (zI 0), .int (zI va1), .int (zI fi1)])), (a0, .inl (G.2.1.1, 512, .inl (aI fd))), (b0, .inl (G.2.1.1, 512, .inl (aI fn))), (c1, .inl (G.2.1.1, 512, .inl (aI fr0)))]) A) args s 0 0 A) := ⟨_, rfl⟩
  rw [← hQ]
  have i_wsX30 : ∀ w ∈ wsX30, w ∈ wsX3_clear := (fun _ h => (List.mem_cons_of_mem _ (List.mem_append_right _ h)))
  have kf_21 : (Cond.fieldLink RX3 21 "Gammonry$History" "turns" "I").before args s = true := hF.2.2.2.2 _ (List.mem_cons_of_mem _ (List.mem_append_left _ (List.mem_of_getElem? (i := 0) rfl)))
  have kf_25 : (Cond.fieldLink RX3 25 "Gammonry$History" "variant" "C").before args s = true := hF.2.2.2.2 _ (List.mem_cons_of_mem _ (List.mem_append_left _ (List.mem_of_getElem? (i := 1) rfl)))
  have kf_29 : (Cond.fieldLink RX3 29 "Gammonry$History" "first" "I").before args s = true := hF.2.2.2.2 _ (List.mem_cons_of_mem _ (List.mem_append_left _ (List.mem_of_getElem? (i := 2) rfl)))
  refine lv_aload_n hx hb dX3_clear_0 rfl (lv_at hl 0 rfl) ?_
  refine z_iconst hF dX3_clear_1 ?_
  refine z_put (k := 3) hF hK hP hD hS 0 rfl rfl i_wsX30 (by decide) tyX3 tyX3_ok nmX3 rfl kf_21 rfl rfl (Nat.le_of_ble_eq_true rfl) dX3_clear_2 (fun H locs hP hD hS => ?_)
  have hP : va_P G.1 vwCl [(h0, .inr (3, [.ref a0, .ref b0, .ref c1, .int (zI 0), .int (zI va), .int (zI fi)])), (a0, .inl (G.2.1.1, 512, .inl (aI fd))), (b0, .inl (G.2.1.1, 512, .inl (aI fn))), (c1, .inl (G.2.1.1, 512, .inl (aI fr0)))] H := hP
  have hD : va_D A [(h0, .inr (3, [.ref a0, .ref b0, .ref c1, .int (zI 0), .int (zI va), .int (zI fi)])), (a0, .inl (G.2.1.1, 512, .inl (aI fd))), (b0, .inl (G.2.1.1, 512, .inl (aI fn))), (c1, .inl (G.2.1.1, 512, .inl (aI fr0)))] := hD
  refine lv_aload_n hx hb dX3_clear_5 rfl (lv_at hl 0 rfl) ?_
  refine lv_iload_n hx hb dX3_clear_6 rfl (lv_at hl 1 rfl) ?_
  refine z_put (k := 4) hF hK hP hD hS 0 rfl rfl i_wsX30 (by decide) tyX3 tyX3_ok nmX3 rfl kf_25 (zc_n hva1) (zc_f hva1) (Nat.le_of_ble_eq_true rfl) dX3_clear_7 (fun H locs hP hD hS => ?_)
  have hP : va_P G.1 vwCl [(h0, .inr (3, [.ref a0, .ref b0, .ref c1, .int (zI 0), .int (zI va1), .int (zI fi)])), (a0, .inl (G.2.1.1, 512, .inl (aI fd))), (b0, .inl (G.2.1.1, 512, .inl (aI fn))), (c1, .inl (G.2.1.1, 512, .inl (aI fr0)))] H := hP
  have hD : va_D A [(h0, .inr (3, [.ref a0, .ref b0, .ref c1, .int (zI 0), .int (zI va1), .int (zI fi)])), (a0, .inl (G.2.1.1, 512, .inl (aI fd))), (b0, .inl (G.2.1.1, 512, .inl (aI fn))), (c1, .inl (G.2.1.1, 512, .inl (aI fr0)))] := hD
  refine lv_aload_n hx hb dX3_clear_10 rfl (lv_at hl 0 rfl) ?_
  refine lv_iload_n hx hb dX3_clear_11 rfl (lv_at hl 2 rfl) ?_
  refine z_put (k := 5) hF hK hP hD hS 0 rfl rfl i_wsX30 (by decide) tyX3 tyX3_ok nmX3 rfl kf_29 rfl rfl (Nat.le_of_ble_eq_true rfl) dX3_clear_12 (fun H locs hP hD hS => ?_)
  have hP : va_P G.1 vwCl [(h0, .inr (3, [.ref a0, .ref b0, .ref c1, .int (zI 0), .int (zI va1), .int (zI fi1)])), (a0, .inl (G.2.1.1, 512, .inl (aI fd))), (b0, .inl (G.2.1.1, 512, .inl (aI fn))), (c1, .inl (G.2.1.1, 512, .inl (aI fr0)))] H := hP
  have hD : va_D A [(h0, .inr (3, [.ref a0, .ref b0, .ref c1, .int (zI 0), .int (zI va1), .int (zI fi1)])), (a0, .inl (G.2.1.1, 512, .inl (aI fd))), (b0, .inl (G.2.1.1, 512, .inl (aI fn))), (c1, .inl (G.2.1.1, 512, .inl (aI fr0)))] := hD
  rw [hQ]
  exact z_vret hF hr hlocks () (trivial) hP hK hD hS dX3_clear_15
set_option maxHeartbeats 4000000 in
set_option maxRecDepth 100000 in
theorem c_X3_add (l : Launch) (G : wG) (h0 a0 b0 c1 : Nat) (fd fn fr0 : Int → Int) (tu va fi : Int) (x y w : Int)  (htu : 0 ≤ tu ∧ tu < 512) (z9 : Nat) : Met l yX3_add wsX3_add (rmL 1 0 0) (wPc G [(h0, .inr (3, [.ref a0, .ref b0, .ref c1, .int (zI tu), .int (zI va), .int (zI fi)])), (a0, .inl (G.2.1.1, 512, .inl (aI fd))), (b0, .inl (G.2.1.1, 512, .inl (aI fn))), (c1, .inl (G.2.1.1, 512, .inl (aI fr0)))] z9 [.ref h0, .int (zI x), .int (zI y), .int (zI w)]) (wQv G (fun (u : Unit) => True) (fun (u : Unit) => [(h0, .inr (3, [.ref a0, .ref b0, .ref c1, .int (zI (tu + 1)), .int (zI va), .int (zI fi)])), (a0, .inl (G.2.1.1, 512, .inl (aI (up fd tu x)))), (b0, .inl (G.2.1.1, 512, .inl (aI (up fn tu y)))), (c1, .inl (G.2.1.1, 512, .inl (aI (up fr0 tu w))))]) (va_A [(h0, .inr (3, [.ref a0, .ref b0, .ref c1, .int (zI tu), .int (zI va), .int (zI fi)])), (a0, .inl (G.2.1.1, 512, .inl (aI fd))), (b0, .inl (G.2.1.1, 512, .inl (aI fn))), (c1, .inl (G.2.1.1, 512, .inl (aI fr0)))] z9)) 0 0 (va_A [(h0, .inr (3, [.ref a0, .ref b0, .ref c1, .int (zI tu), .int (zI va), .int (zI fi)])), (a0, .inl (G.2.1.1, 512, .inl (aI fd))), (b0, .inl (G.2.1.1, 512, .inl (aI fn))), (c1, .inl (G.2.1.1, 512, .inl (aI fr0)))] z9) := by
  refine z_ofW (Qc := fun A => wQv G (fun (u : Unit) => True) (fun (u : Unit) => [(h0, .inr (3, [.ref a0, .ref b0, .ref c1, .int (zI (tu + 1)), .int (zI va), .int (zI fi)])), (a0, .inl (G.2.1.1, 512, .inl (aI (up fd tu x)))), (b0, .inl (G.2.1.1, 512, .inl (aI (up fn tu y)))), (c1, .inl (G.2.1.1, 512, .inl (aI (up fr0 tu w))))]) A) l G [(h0, .inr (3, [.ref a0, .ref b0, .ref c1, .int (zI tu), .int (zI va), .int (zI fi)])), (a0, .inl (G.2.1.1, 512, .inl (aI fd))), (b0, .inl (G.2.1.1, 512, .inl (aI fn))), (c1, .inl (G.2.1.1, 512, .inl (aI fr0)))] [.ref h0, .int (zI x), .int (zI y), .int (zI w)] (by decide) rfl rfl ?_ z9
  intro p e s m args below meth c A ls H locs hF hr hlocks hinit hP hK hD hA hS hBd hl
  have hF : wFx p m c cX3_add 4 s args wsX3_add RX3 := hF
  have hl : lv_has ls 4 [(0, .ref h0), (1, .int (zI x)), (2, .int (zI y)), (3, .int (zI w))] := hl
  have hx := hF.1
  have hb := hF.2.1
  obtain ⟨Q0, hQ⟩ : ∃ q, q = (MQ below (wQv G (fun (u : Unit) => True) (fun (u : Unit) => [(h0, .inr (3, [.ref a0, .ref b0, .ref c1, .int (zI (tu + 1)), .int (zI va), .int (zI fi)])), (a0, .inl (G.2.1.1, 512, .inl (aI (up fd tu x)))), (b0, .inl (G.2.1.1, 512, .inl (aI (up fn tu y)))), (c1, .inl (G.2.1.1, 512, .inl (aI (up fr0 tu w))))]) A) args s 0 0 A) := ⟨_, rfl⟩
  rw [← hQ]
  have i_wsX30 : ∀ w ∈ wsX30, w ∈ wsX3_add := (fun _ h => (List.mem_cons_of_mem _ (List.mem_append_right _ h)))
  have kf_15 : (Cond.fieldLink RX3 15 "Gammonry$History" "numbers" "[I").before args s = true := hF.2.2.2.2 _ (List.mem_cons_of_mem _ (List.mem_append_left _ (List.mem_of_getElem? (i := 2) rfl)))
  have kf_18 : (Cond.fieldLink RX3 18 "Gammonry$History" "rows" "[I").before args s = true := hF.2.2.2.2 _ (List.mem_cons_of_mem _ (List.mem_append_left _ (List.mem_of_getElem? (i := 3) rfl)))
  have kf_21 : (Cond.fieldLink RX3 21 "Gammonry$History" "turns" "I").before args s = true := hF.2.2.2.2 _ (List.mem_cons_of_mem _ (List.mem_append_left _ (List.mem_of_getElem? (i := 0) rfl)))
  have kf_9 : (Cond.fieldLink RX3 9 "Gammonry$History" "dice" "[I").before args s = true := hF.2.2.2.2 _ (List.mem_cons_of_mem _ (List.mem_append_left _ (List.mem_of_getElem? (i := 1) rfl)))
  refine lv_aload_n hx hb dX3_add_0 rfl (lv_at hl 0 rfl) ?_
  refine z_get (k := 3) hF hK hP 0 rfl rfl i_wsX30 (by decide) kf_21 rfl dX3_add_1 ?_
  refine z_if_lt (tgt := 57) hF dX3_add_4 (by decide) (by omega) (fun c_1 => ?_) (fun c_1 => ?_)
  · exfalso; omega
  · have hc_4 := c_1
    refine lv_aload_n hx hb dX3_add_7 rfl (lv_at hl 0 rfl) ?_
    refine z_get (k := 3) hF hK hP 0 rfl rfl i_wsX30 (by decide) kf_21 rfl dX3_add_8 ?_
    refine z_sipush hF dX3_add_11 (by decide) ?_
    refine z_icmp_ge (tgt := 57) hF dX3_add_14 (by decide) (by omega) (by decide) (fun c_2 => ?_) (fun c_2 => ?_)
    · exfalso; omega
    · have hc_14 := c_2
      refine lv_aload_n hx hb dX3_add_17 rfl (lv_at hl 0 rfl) ?_
      refine z_get (k := 0) hF hK hP 0 rfl rfl i_wsX30 (by decide) kf_9 rfl dX3_add_18 ?_
      refine lv_aload_n hx hb dX3_add_21 rfl (lv_at hl 0 rfl) ?_
      refine z_get (k := 3) hF hK hP 0 rfl rfl i_wsX30 (by decide) kf_21 rfl dX3_add_22 ?_
      refine lv_iload_n hx hb dX3_add_25 rfl (lv_at hl 1 rfl) ?_
      refine z_iast hF hK hP hD hS 1 rfl (by omega) rfl dX3_add_26 (fun H locs hP hD hS => ?_)
      have hP : va_P G.1 vwCl [(h0, .inr (3, [.ref a0, .ref b0, .ref c1, .int (zI tu), .int (zI va), .int (zI fi)])), (a0, .inl (G.2.1.1, 512, .inl (aI (up fd tu x)))), (b0, .inl (G.2.1.1, 512, .inl (aI fn))), (c1, .inl (G.2.1.1, 512, .inl (aI fr0)))] H := hP
      have hD : va_D A [(h0, .inr (3, [.ref a0, .ref b0, .ref c1, .int (zI tu), .int (zI va), .int (zI fi)])), (a0, .inl (G.2.1.1, 512, .inl (aI (up fd tu x)))), (b0, .inl (G.2.1.1, 512, .inl (aI fn))), (c1, .inl (G.2.1.1, 512, .inl (aI fr0)))] := hD
      refine lv_aload_n hx hb dX3_add_27 rfl (lv_at hl 0 rfl) ?_
      refine z_get (k := 1) hF hK hP 0 rfl rfl i_wsX30 (by decide) kf_15 rfl dX3_add_28 ?_
      refine lv_aload_n hx hb dX3_add_31 rfl (lv_at hl 0 rfl) ?_
      refine z_get (k := 3) hF hK hP 0 rfl rfl i_wsX30 (by decide) kf_21 rfl dX3_add_32 ?_
      refine lv_iload_n hx hb dX3_add_35 rfl (lv_at hl 2 rfl) ?_
      refine z_iast hF hK hP hD hS 2 rfl (by omega) rfl dX3_add_36 (fun H locs hP hD hS => ?_)
      have hP : va_P G.1 vwCl [(h0, .inr (3, [.ref a0, .ref b0, .ref c1, .int (zI tu), .int (zI va), .int (zI fi)])), (a0, .inl (G.2.1.1, 512, .inl (aI (up fd tu x)))), (b0, .inl (G.2.1.1, 512, .inl (aI (up fn tu y)))), (c1, .inl (G.2.1.1, 512, .inl (aI fr0)))] H := hP
      have hD : va_D A [(h0, .inr (3, [.ref a0, .ref b0, .ref c1, .int (zI tu), .int (zI va), .int (zI fi)])), (a0, .inl (G.2.1.1, 512, .inl (aI (up fd tu x)))), (b0, .inl (G.2.1.1, 512, .inl (aI (up fn tu y)))), (c1, .inl (G.2.1.1, 512, .inl (aI fr0)))] := hD
      refine lv_aload_n hx hb dX3_add_37 rfl (lv_at hl 0 rfl) ?_
      refine z_get (k := 2) hF hK hP 0 rfl rfl i_wsX30 (by decide) kf_18 rfl dX3_add_38 ?_
      refine lv_aload_n hx hb dX3_add_41 rfl (lv_at hl 0 rfl) ?_
      refine z_get (k := 3) hF hK hP 0 rfl rfl i_wsX30 (by decide) kf_21 rfl dX3_add_42 ?_
      refine lv_iload_n hx hb dX3_add_45 rfl (lv_at hl 3 rfl) ?_
      refine z_iast hF hK hP hD hS 3 rfl (by omega) rfl dX3_add_46 (fun H locs hP hD hS => ?_)
      have hP : va_P G.1 vwCl [(h0, .inr (3, [.ref a0, .ref b0, .ref c1, .int (zI tu), .int (zI va), .int (zI fi)])), (a0, .inl (G.2.1.1, 512, .inl (aI (up fd tu x)))), (b0, .inl (G.2.1.1, 512, .inl (aI (up fn tu y)))), (c1, .inl (G.2.1.1, 512, .inl (aI (up fr0 tu w))))] H := hP
      have hD : va_D A [(h0, .inr (3, [.ref a0, .ref b0, .ref c1, .int (zI tu), .int (zI va), .int (zI fi)])), (a0, .inl (G.2.1.1, 512, .inl (aI (up fd tu x)))), (b0, .inl (G.2.1.1, 512, .inl (aI (up fn tu y)))), (c1, .inl (G.2.1.1, 512, .inl (aI (up fr0 tu w))))] := hD
      refine lv_aload_n hx hb dX3_add_47 rfl (lv_at hl 0 rfl) ?_
      refine lv_dup hx hb dX3_add_48 rfl ?_
      refine z_get (k := 3) hF hK hP 0 rfl rfl i_wsX30 (by decide) kf_21 rfl dX3_add_49 ?_
      refine z_iconst hF dX3_add_52 ?_
      refine z_iadd hF dX3_add_53 ?_
      refine z_put (k := 3) hF hK hP hD hS 0 rfl rfl i_wsX30 (by decide) tyX3 tyX3_ok nmX3 rfl kf_21 rfl rfl (Nat.le_of_ble_eq_true rfl) dX3_add_54 (fun H locs hP hD hS => ?_)
      have hP : va_P G.1 vwCl [(h0, .inr (3, [.ref a0, .ref b0, .ref c1, .int (zI (tu + 1)), .int (zI va), .int (zI fi)])), (a0, .inl (G.2.1.1, 512, .inl (aI (up fd tu x)))), (b0, .inl (G.2.1.1, 512, .inl (aI (up fn tu y)))), (c1, .inl (G.2.1.1, 512, .inl (aI (up fr0 tu w))))] H := hP
      have hD : va_D A [(h0, .inr (3, [.ref a0, .ref b0, .ref c1, .int (zI (tu + 1)), .int (zI va), .int (zI fi)])), (a0, .inl (G.2.1.1, 512, .inl (aI (up fd tu x)))), (b0, .inl (G.2.1.1, 512, .inl (aI (up fn tu y)))), (c1, .inl (G.2.1.1, 512, .inl (aI (up fr0 tu w))))] := hD
      rw [hQ]
      exact z_vret hF hr hlocks () (trivial) hP hK hD hS dX3_add_57
set_option maxHeartbeats 4000000 in
set_option maxRecDepth 100000 in
theorem c_X3_turns (l : Launch) (G : wG) (h0 a0 b0 c1 : Nat) (fd fn fr0 : Int → Int) (tu va fi : Int)  (z9 : Nat) : Met l yX3_turns wsX3_turns (rmL 1 0 0) (wPc G [(h0, .inr (3, [.ref a0, .ref b0, .ref c1, .int (zI tu), .int (zI va), .int (zI fi)])), (a0, .inl (G.2.1.1, 512, .inl (aI fd))), (b0, .inl (G.2.1.1, 512, .inl (aI fn))), (c1, .inl (G.2.1.1, 512, .inl (aI fr0)))] z9 [.ref h0]) (wQi G (fun (r : Int32) (u : Unit) => r = zI tu) (fun (u : Unit) => [(h0, .inr (3, [.ref a0, .ref b0, .ref c1, .int (zI tu), .int (zI va), .int (zI fi)])), (a0, .inl (G.2.1.1, 512, .inl (aI fd))), (b0, .inl (G.2.1.1, 512, .inl (aI fn))), (c1, .inl (G.2.1.1, 512, .inl (aI fr0)))]) (va_A [(h0, .inr (3, [.ref a0, .ref b0, .ref c1, .int (zI tu), .int (zI va), .int (zI fi)])), (a0, .inl (G.2.1.1, 512, .inl (aI fd))), (b0, .inl (G.2.1.1, 512, .inl (aI fn))), (c1, .inl (G.2.1.1, 512, .inl (aI fr0)))] z9)) 0 0 (va_A [(h0, .inr (3, [.ref a0, .ref b0, .ref c1, .int (zI tu), .int (zI va), .int (zI fi)])), (a0, .inl (G.2.1.1, 512, .inl (aI fd))), (b0, .inl (G.2.1.1, 512, .inl (aI fn))), (c1, .inl (G.2.1.1, 512, .inl (aI fr0)))] z9) := by
  refine z_ofW (Qc := fun A => wQi G (fun (r : Int32) (u : Unit) => r = zI tu) (fun (u : Unit) => [(h0, .inr (3, [.ref a0, .ref b0, .ref c1, .int (zI tu), .int (zI va), .int (zI fi)])), (a0, .inl (G.2.1.1, 512, .inl (aI fd))), (b0, .inl (G.2.1.1, 512, .inl (aI fn))), (c1, .inl (G.2.1.1, 512, .inl (aI fr0)))]) A) l G [(h0, .inr (3, [.ref a0, .ref b0, .ref c1, .int (zI tu), .int (zI va), .int (zI fi)])), (a0, .inl (G.2.1.1, 512, .inl (aI fd))), (b0, .inl (G.2.1.1, 512, .inl (aI fn))), (c1, .inl (G.2.1.1, 512, .inl (aI fr0)))] [.ref h0] (by decide) rfl rfl ?_ z9
  intro p e s m args below meth c A ls H locs hF hr hlocks hinit hP hK hD hA hS hBd hl
  have hF : wFx p m c cX3_turns 1 s args wsX3_turns RX3 := hF
  have hl : lv_has ls 1 [(0, .ref h0)] := hl
  have hx := hF.1
  have hb := hF.2.1
  obtain ⟨Q0, hQ⟩ : ∃ q, q = (MQ below (wQi G (fun (r : Int32) (u : Unit) => r = zI tu) (fun (u : Unit) => [(h0, .inr (3, [.ref a0, .ref b0, .ref c1, .int (zI tu), .int (zI va), .int (zI fi)])), (a0, .inl (G.2.1.1, 512, .inl (aI fd))), (b0, .inl (G.2.1.1, 512, .inl (aI fn))), (c1, .inl (G.2.1.1, 512, .inl (aI fr0)))]) A) args s 0 0 A) := ⟨_, rfl⟩
  rw [← hQ]
  have i_wsX30 : ∀ w ∈ wsX30, w ∈ wsX3_turns := (fun _ h => (List.mem_cons_of_mem _ (List.mem_append_right _ h)))
  have kf_21 : (Cond.fieldLink RX3 21 "Gammonry$History" "turns" "I").before args s = true := hF.2.2.2.2 _ (List.mem_cons_of_mem _ (List.mem_append_left _ (List.mem_of_getElem? (i := 0) rfl)))
  refine lv_aload_n hx hb dX3_turns_0 rfl (lv_at hl 0 rfl) ?_
  refine z_get (k := 3) hF hK hP 0 rfl rfl i_wsX30 (by decide) kf_21 rfl dX3_turns_1 ?_
  rw [hQ]
  exact z_iret hF hr hlocks () (rfl) hP hK hD hS dX3_turns_4
set_option maxHeartbeats 4000000 in
set_option maxRecDepth 100000 in
theorem c_X3_variant (l : Launch) (G : wG) (h0 a0 b0 c1 : Nat) (fd fn fr0 : Int → Int) (tu va fi : Int)  (hva : 0 ≤ va ∧ va < 65536) (z9 : Nat) : Met l yX3_variant wsX3_variant (rmL 1 0 0) (wPc G [(h0, .inr (3, [.ref a0, .ref b0, .ref c1, .int (zI tu), .int (zI va), .int (zI fi)])), (a0, .inl (G.2.1.1, 512, .inl (aI fd))), (b0, .inl (G.2.1.1, 512, .inl (aI fn))), (c1, .inl (G.2.1.1, 512, .inl (aI fr0)))] z9 [.ref h0]) (wQi G (fun (r : Int32) (u : Unit) => r = zI va) (fun (u : Unit) => [(h0, .inr (3, [.ref a0, .ref b0, .ref c1, .int (zI tu), .int (zI va), .int (zI fi)])), (a0, .inl (G.2.1.1, 512, .inl (aI fd))), (b0, .inl (G.2.1.1, 512, .inl (aI fn))), (c1, .inl (G.2.1.1, 512, .inl (aI fr0)))]) (va_A [(h0, .inr (3, [.ref a0, .ref b0, .ref c1, .int (zI tu), .int (zI va), .int (zI fi)])), (a0, .inl (G.2.1.1, 512, .inl (aI fd))), (b0, .inl (G.2.1.1, 512, .inl (aI fn))), (c1, .inl (G.2.1.1, 512, .inl (aI fr0)))] z9)) 0 0 (va_A [(h0, .inr (3, [.ref a0, .ref b0, .ref c1, .int (zI tu), .int (zI va), .int (zI fi)])), (a0, .inl (G.2.1.1, 512, .inl (aI fd))), (b0, .inl (G.2.1.1, 512, .inl (aI fn))), (c1, .inl (G.2.1.1, 512, .inl (aI fr0)))] z9) := by
  refine z_ofW (Qc := fun A => wQi G (fun (r : Int32) (u : Unit) => r = zI va) (fun (u : Unit) => [(h0, .inr (3, [.ref a0, .ref b0, .ref c1, .int (zI tu), .int (zI va), .int (zI fi)])), (a0, .inl (G.2.1.1, 512, .inl (aI fd))), (b0, .inl (G.2.1.1, 512, .inl (aI fn))), (c1, .inl (G.2.1.1, 512, .inl (aI fr0)))]) A) l G [(h0, .inr (3, [.ref a0, .ref b0, .ref c1, .int (zI tu), .int (zI va), .int (zI fi)])), (a0, .inl (G.2.1.1, 512, .inl (aI fd))), (b0, .inl (G.2.1.1, 512, .inl (aI fn))), (c1, .inl (G.2.1.1, 512, .inl (aI fr0)))] [.ref h0] (by decide) rfl rfl ?_ z9
  intro p e s m args below meth c A ls H locs hF hr hlocks hinit hP hK hD hA hS hBd hl
  have hF : wFx p m c cX3_variant 1 s args wsX3_variant RX3 := hF
  have hl : lv_has ls 1 [(0, .ref h0)] := hl
  have hx := hF.1
  have hb := hF.2.1
  obtain ⟨Q0, hQ⟩ : ∃ q, q = (MQ below (wQi G (fun (r : Int32) (u : Unit) => r = zI va) (fun (u : Unit) => [(h0, .inr (3, [.ref a0, .ref b0, .ref c1, .int (zI tu), .int (zI va), .int (zI fi)])), (a0, .inl (G.2.1.1, 512, .inl (aI fd))), (b0, .inl (G.2.1.1, 512, .inl (aI fn))), (c1, .inl (G.2.1.1, 512, .inl (aI fr0)))]) A) args s 0 0 A) := ⟨_, rfl⟩
  rw [← hQ]
  have i_wsX30 : ∀ w ∈ wsX30, w ∈ wsX3_variant := (fun _ h => (List.mem_cons_of_mem _ (List.mem_append_right _ h)))
  have kf_25 : (Cond.fieldLink RX3 25 "Gammonry$History" "variant" "C").before args s = true := hF.2.2.2.2 _ (List.mem_cons_of_mem _ (List.mem_append_left _ (List.mem_of_getElem? (i := 0) rfl)))
  refine lv_aload_n hx hb dX3_variant_0 rfl (lv_at hl 0 rfl) ?_
  refine z_get (k := 4) hF hK hP 0 rfl rfl i_wsX30 (by decide) kf_25 rfl dX3_variant_1 ?_
  rw [hQ]
  exact z_zret hF hr hlocks (zc_n hva) () (rfl) hP hK hD hS dX3_variant_4
set_option maxHeartbeats 4000000 in
set_option maxRecDepth 100000 in
theorem c_X3_diceAt (l : Launch) (G : wG) (h0 a0 b0 c1 : Nat) (fd fn fr0 : Int → Int) (tu va fi : Int) (k : Int)  (hk5 : 0 ≤ k ∧ k < 512) (z9 : Nat) : Met l yX3_diceAt wsX3_diceAt (rmL 1 0 0) (wPc G [(h0, .inr (3, [.ref a0, .ref b0, .ref c1, .int (zI tu), .int (zI va), .int (zI fi)])), (a0, .inl (G.2.1.1, 512, .inl (aI fd))), (b0, .inl (G.2.1.1, 512, .inl (aI fn))), (c1, .inl (G.2.1.1, 512, .inl (aI fr0)))] z9 [.ref h0, .int (zI k)]) (wQi G (fun (r : Int32) (u : Unit) => r = zI (fd k)) (fun (u : Unit) => [(h0, .inr (3, [.ref a0, .ref b0, .ref c1, .int (zI tu), .int (zI va), .int (zI fi)])), (a0, .inl (G.2.1.1, 512, .inl (aI fd))), (b0, .inl (G.2.1.1, 512, .inl (aI fn))), (c1, .inl (G.2.1.1, 512, .inl (aI fr0)))]) (va_A [(h0, .inr (3, [.ref a0, .ref b0, .ref c1, .int (zI tu), .int (zI va), .int (zI fi)])), (a0, .inl (G.2.1.1, 512, .inl (aI fd))), (b0, .inl (G.2.1.1, 512, .inl (aI fn))), (c1, .inl (G.2.1.1, 512, .inl (aI fr0)))] z9)) 0 0 (va_A [(h0, .inr (3, [.ref a0, .ref b0, .ref c1, .int (zI tu), .int (zI va), .int (zI fi)])), (a0, .inl (G.2.1.1, 512, .inl (aI fd))), (b0, .inl (G.2.1.1, 512, .inl (aI fn))), (c1, .inl (G.2.1.1, 512, .inl (aI fr0)))] z9) := by
  refine z_ofW (Qc := fun A => wQi G (fun (r : Int32) (u : Unit) => r = zI (fd k)) (fun (u : Unit) => [(h0, .inr (3, [.ref a0, .ref b0, .ref c1, .int (zI tu), .int (zI va), .int (zI fi)])), (a0, .inl (G.2.1.1, 512, .inl (aI fd))), (b0, .inl (G.2.1.1, 512, .inl (aI fn))), (c1, .inl (G.2.1.1, 512, .inl (aI fr0)))]) A) l G [(h0, .inr (3, [.ref a0, .ref b0, .ref c1, .int (zI tu), .int (zI va), .int (zI fi)])), (a0, .inl (G.2.1.1, 512, .inl (aI fd))), (b0, .inl (G.2.1.1, 512, .inl (aI fn))), (c1, .inl (G.2.1.1, 512, .inl (aI fr0)))] [.ref h0, .int (zI k)] (by decide) rfl rfl ?_ z9
  intro p e s m args below meth c A ls H locs hF hr hlocks hinit hP hK hD hA hS hBd hl
  have hF : wFx p m c cX3_diceAt 2 s args wsX3_diceAt RX3 := hF
  have hl : lv_has ls 2 [(0, .ref h0), (1, .int (zI k))] := hl
  have hx := hF.1
  have hb := hF.2.1
  obtain ⟨Q0, hQ⟩ : ∃ q, q = (MQ below (wQi G (fun (r : Int32) (u : Unit) => r = zI (fd k)) (fun (u : Unit) => [(h0, .inr (3, [.ref a0, .ref b0, .ref c1, .int (zI tu), .int (zI va), .int (zI fi)])), (a0, .inl (G.2.1.1, 512, .inl (aI fd))), (b0, .inl (G.2.1.1, 512, .inl (aI fn))), (c1, .inl (G.2.1.1, 512, .inl (aI fr0)))]) A) args s 0 0 A) := ⟨_, rfl⟩
  rw [← hQ]
  have i_wsX30 : ∀ w ∈ wsX30, w ∈ wsX3_diceAt := (fun _ h => (List.mem_cons_of_mem _ (List.mem_append_right _ h)))
  have kf_9 : (Cond.fieldLink RX3 9 "Gammonry$History" "dice" "[I").before args s = true := hF.2.2.2.2 _ (List.mem_cons_of_mem _ (List.mem_append_left _ (List.mem_of_getElem? (i := 0) rfl)))
  refine lv_iload_n hx hb dX3_diceAt_0 rfl (lv_at hl 1 rfl) ?_
  refine z_if_lt (tgt := 20) hF dX3_diceAt_1 (by decide) (by omega) (fun c_1 => ?_) (fun c_1 => ?_)
  · exfalso; omega
  · have hc_1 := c_1
    refine lv_iload_n hx hb dX3_diceAt_4 rfl (lv_at hl 1 rfl) ?_
    refine z_sipush hF dX3_diceAt_5 (by decide) ?_
    refine z_icmp_ge (tgt := 20) hF dX3_diceAt_8 (by decide) (by omega) (by decide) (fun c_2 => ?_) (fun c_2 => ?_)
    · exfalso; omega
    · have hc_8 := c_2
      refine lv_aload_n hx hb dX3_diceAt_11 rfl (lv_at hl 0 rfl) ?_
      refine z_get (k := 0) hF hK hP 0 rfl rfl i_wsX30 (by decide) kf_9 rfl dX3_diceAt_12 ?_
      refine lv_iload_n hx hb dX3_diceAt_15 rfl (lv_at hl 1 rfl) ?_
      refine z_iald hF hK hP 1 rfl (by omega) rfl dX3_diceAt_16 ?_
      refine z_goto (tgt := 21) hF dX3_diceAt_17 (by decide) ?_
      rw [hQ]
      exact z_iret hF hr hlocks () (rfl) hP hK hD hS dX3_diceAt_21
set_option maxHeartbeats 4000000 in
set_option maxRecDepth 100000 in
theorem c_X3_numberAt (l : Launch) (G : wG) (h0 a0 b0 c1 : Nat) (fd fn fr0 : Int → Int) (tu va fi : Int) (k : Int)  (hk5 : 0 ≤ k ∧ k < 512) (z9 : Nat) : Met l yX3_numberAt wsX3_numberAt (rmL 1 0 0) (wPc G [(h0, .inr (3, [.ref a0, .ref b0, .ref c1, .int (zI tu), .int (zI va), .int (zI fi)])), (a0, .inl (G.2.1.1, 512, .inl (aI fd))), (b0, .inl (G.2.1.1, 512, .inl (aI fn))), (c1, .inl (G.2.1.1, 512, .inl (aI fr0)))] z9 [.ref h0, .int (zI k)]) (wQi G (fun (r : Int32) (u : Unit) => r = zI (fn k)) (fun (u : Unit) => [(h0, .inr (3, [.ref a0, .ref b0, .ref c1, .int (zI tu), .int (zI va), .int (zI fi)])), (a0, .inl (G.2.1.1, 512, .inl (aI fd))), (b0, .inl (G.2.1.1, 512, .inl (aI fn))), (c1, .inl (G.2.1.1, 512, .inl (aI fr0)))]) (va_A [(h0, .inr (3, [.ref a0, .ref b0, .ref c1, .int (zI tu), .int (zI va), .int (zI fi)])), (a0, .inl (G.2.1.1, 512, .inl (aI fd))), (b0, .inl (G.2.1.1, 512, .inl (aI fn))), (c1, .inl (G.2.1.1, 512, .inl (aI fr0)))] z9)) 0 0 (va_A [(h0, .inr (3, [.ref a0, .ref b0, .ref c1, .int (zI tu), .int (zI va), .int (zI fi)])), (a0, .inl (G.2.1.1, 512, .inl (aI fd))), (b0, .inl (G.2.1.1, 512, .inl (aI fn))), (c1, .inl (G.2.1.1, 512, .inl (aI fr0)))] z9) := by
  refine z_ofW (Qc := fun A => wQi G (fun (r : Int32) (u : Unit) => r = zI (fn k)) (fun (u : Unit) => [(h0, .inr (3, [.ref a0, .ref b0, .ref c1, .int (zI tu), .int (zI va), .int (zI fi)])), (a0, .inl (G.2.1.1, 512, .inl (aI fd))), (b0, .inl (G.2.1.1, 512, .inl (aI fn))), (c1, .inl (G.2.1.1, 512, .inl (aI fr0)))]) A) l G [(h0, .inr (3, [.ref a0, .ref b0, .ref c1, .int (zI tu), .int (zI va), .int (zI fi)])), (a0, .inl (G.2.1.1, 512, .inl (aI fd))), (b0, .inl (G.2.1.1, 512, .inl (aI fn))), (c1, .inl (G.2.1.1, 512, .inl (aI fr0)))] [.ref h0, .int (zI k)] (by decide) rfl rfl ?_ z9
  intro p e s m args below meth c A ls H locs hF hr hlocks hinit hP hK hD hA hS hBd hl
  have hF : wFx p m c cX3_numberAt 2 s args wsX3_numberAt RX3 := hF
  have hl : lv_has ls 2 [(0, .ref h0), (1, .int (zI k))] := hl
  have hx := hF.1
  have hb := hF.2.1
  obtain ⟨Q0, hQ⟩ : ∃ q, q = (MQ below (wQi G (fun (r : Int32) (u : Unit) => r = zI (fn k)) (fun (u : Unit) => [(h0, .inr (3, [.ref a0, .ref b0, .ref c1, .int (zI tu), .int (zI va), .int (zI fi)])), (a0, .inl (G.2.1.1, 512, .inl (aI fd))), (b0, .inl (G.2.1.1, 512, .inl (aI fn))), (c1, .inl (G.2.1.1, 512, .inl (aI fr0)))]) A) args s 0 0 A) := ⟨_, rfl⟩
  rw [← hQ]
  have i_wsX30 : ∀ w ∈ wsX30, w ∈ wsX3_numberAt := (fun _ h => (List.mem_cons_of_mem _ (List.mem_append_right _ h)))
  have kf_15 : (Cond.fieldLink RX3 15 "Gammonry$History" "numbers" "[I").before args s = true := hF.2.2.2.2 _ (List.mem_cons_of_mem _ (List.mem_append_left _ (List.mem_of_getElem? (i := 0) rfl)))
  refine lv_iload_n hx hb dX3_numberAt_0 rfl (lv_at hl 1 rfl) ?_
  refine z_if_lt (tgt := 20) hF dX3_numberAt_1 (by decide) (by omega) (fun c_1 => ?_) (fun c_1 => ?_)
  · exfalso; omega
  · have hc_1 := c_1
    refine lv_iload_n hx hb dX3_numberAt_4 rfl (lv_at hl 1 rfl) ?_
    refine z_sipush hF dX3_numberAt_5 (by decide) ?_
    refine z_icmp_ge (tgt := 20) hF dX3_numberAt_8 (by decide) (by omega) (by decide) (fun c_2 => ?_) (fun c_2 => ?_)
    · exfalso; omega
    · have hc_8 := c_2
      refine lv_aload_n hx hb dX3_numberAt_11 rfl (lv_at hl 0 rfl) ?_
      refine z_get (k := 1) hF hK hP 0 rfl rfl i_wsX30 (by decide) kf_15 rfl dX3_numberAt_12 ?_
      refine lv_iload_n hx hb dX3_numberAt_15 rfl (lv_at hl 1 rfl) ?_
      refine z_iald hF hK hP 2 rfl (by omega) rfl dX3_numberAt_16 ?_
      refine z_goto (tgt := 21) hF dX3_numberAt_17 (by decide) ?_
      rw [hQ]
      exact z_iret hF hr hlocks () (rfl) hP hK hD hS dX3_numberAt_21
set_option maxHeartbeats 4000000 in
set_option maxRecDepth 100000 in
theorem c_X2_init (l : Launch) (G : wG) (h0 : Nat)  (z9 : Nat) : Met l yX2_init wsX2_init (rmL 2 1 676) (wPc G [(h0, .inr (2, [.null, .int (zI 0)]))] z9 [.ref h0]) (wQv G (fun (u : Nat) => True) (fun (u : Nat) => [(h0, .inr (2, [.ref u, .int (zI 25)])), (u, .inl (G.2.1.2.1, 676, .inr (.inl (aL (fun _ => 0)))))]) (va_A [(h0, .inr (2, [.null, .int (zI 0)]))] z9)) 1 676 (va_A [(h0, .inr (2, [.null, .int (zI 0)]))] z9) := by
  refine z_ofW (Qc := fun A => wQv G (fun (u : Nat) => True) (fun (u : Nat) => [(h0, .inr (2, [.ref u, .int (zI 25)])), (u, .inl (G.2.1.2.1, 676, .inr (.inl (aL (fun _ => 0)))))]) A) l G [(h0, .inr (2, [.null, .int (zI 0)]))] [.ref h0] (by decide) rfl rfl ?_ z9
  intro p e s m args below meth c A ls H locs hF hr hlocks hinit hP hK hD hA hS hBd hl
  have hF : wFx p m c cX2_init 1 s args wsX2_init RX2 := hF
  have hl : lv_has ls 1 [(0, .ref h0)] := hl
  have hx := hF.1
  have hb := hF.2.1
  obtain ⟨Q0, hQ⟩ : ∃ q, q = (MQ below (wQv G (fun (u : Nat) => True) (fun (u : Nat) => [(h0, .inr (2, [.ref u, .int (zI 25)])), (u, .inl (G.2.1.2.1, 676, .inr (.inl (aL (fun _ => 0)))))]) A) args s 1 676 A) := ⟨_, rfl⟩
  rw [← hQ]
  have i_wsX20 : ∀ w ∈ wsX20, w ∈ wsX2_init := (fun _ h => (List.mem_cons_of_mem _ (List.mem_append_right _ h)))
  have ka_long : (Cond.arrayClass .long).before args s = true := hF.2.2.2.2 _ (List.mem_cons_of_mem _ (List.mem_append_left _ (List.mem_of_getElem? (i := 3) rfl)))
  have kf_11 : (Cond.fieldLink RX2 11 "Gammonry$Equities" "known" "[J").before args s = true := hF.2.2.2.2 _ (List.mem_cons_of_mem _ (List.mem_append_left _ (List.mem_of_getElem? (i := 4) rfl)))
  have kf_15 : (Cond.fieldLink RX2 15 "Gammonry$Equities" "rate" "I").before args s = true := hF.2.2.2.2 _ (List.mem_cons_of_mem _ (List.mem_append_left _ (List.mem_of_getElem? (i := 5) rfl)))
  have km_3 : (Cond.methodLink RX2 3 objectInit).before args s = true := hF.2.2.2.2 _ (List.mem_cons_of_mem _ (List.mem_append_left _ (List.mem_of_getElem? (i := 0) rfl)))
  have ko_c : (Cond.code objectInit ⟨#[0xb1]⟩ 1 none).before args s = true := hF.2.2.2.2 _ (List.mem_cons_of_mem _ (List.mem_append_left _ (List.mem_of_getElem? (i := 2) rfl)))
  have ko_i : (Cond.instanceMethod objectInit).before args s = true := hF.2.2.2.2 _ (List.mem_cons_of_mem _ (List.mem_append_left _ (List.mem_of_getElem? (i := 1) rfl)))
  refine lv_aload_n hx hb dX2_init_0 rfl (lv_at hl 0 rfl) ?_
  refine W.objInit hx hb hF.2.2.2.1 km_3 ko_i ko_c rfl (by rw [hF.2.2.1]; exact hl.1) rfl dX2_init_1 (Nat.le_of_ble_eq_true rfl) (Nat.le_of_ble_eq_true rfl) ?_
  refine W.eq (g2 := F0 m 4 ls []) rfl ?_
  refine lv_aload_n hx hb dX2_init_4 rfl (lv_at hl 0 rfl) ?_
  refine z_sipush hF dX2_init_5 (by decide) ?_
  refine z_newaj hF ka_long hK hP hD hS hA (N := 676) (by decide) (by decide) rfl rfl rfl dX2_init_8 (fun q_1 H hP hD hS => ?_)
  have hP : va_P G.1 vwCl [(h0, .inr (2, [.null, .int (zI 0)])), (q_1, .inl (G.2.1.2.1, 676, .inr (.inl (aL (fun _ => 0)))))] H := hP
  have hD : va_D A [(h0, .inr (2, [.null, .int (zI 0)])), (q_1, .inl (G.2.1.2.1, 676, .inr (.inl (aL (fun _ => 0)))))] := hD
  refine W.widen (k := 1) (n := 676) (Nat.le_of_ble_eq_true rfl) (Nat.le_of_ble_eq_true rfl) ?_
  refine va_putF (D := G.1) (ty := tyX2 0) (ci := 2) (C := RX2) (T := TX2) (N := 2) hx hb hF.2.2.2.2 i_wsX20 tyX2 tyX2_ok nmX2 hF.2.2.2.1 hK hP hD hS 0 rfl rfl 0 (by decide) kf_11 (fun _ h9 => h9) rfl (hinit rfl) rfl (tyX2_ok 0 (by decide)) rfl rfl (Nat.le_of_ble_eq_true rfl) dX2_init_10 (fun H locs hP hD hS => ?_)
  have hP : va_P G.1 vwCl [(h0, .inr (2, [.ref q_1, .int (zI 0)])), (q_1, .inl (G.2.1.2.1, 676, .inr (.inl (aL (fun _ => 0)))))] H := hP
  have hD : va_D A [(h0, .inr (2, [.ref q_1, .int (zI 0)])), (q_1, .inl (G.2.1.2.1, 676, .inr (.inl (aL (fun _ => 0)))))] := hD
  refine lv_aload_n hx hb dX2_init_13 rfl (lv_at hl 0 rfl) ?_
  refine z_bipush hF dX2_init_14 (by decide) ?_
  refine z_put (k := 1) hF hK hP hD hS 0 rfl rfl i_wsX20 (by decide) tyX2 tyX2_ok nmX2 rfl kf_15 rfl rfl (Nat.le_of_ble_eq_true rfl) dX2_init_16 (fun H locs hP hD hS => ?_)
  have hP : va_P G.1 vwCl [(h0, .inr (2, [.ref q_1, .int (zI 25)])), (q_1, .inl (G.2.1.2.1, 676, .inr (.inl (aL (fun _ => 0)))))] H := hP
  have hD : va_D A [(h0, .inr (2, [.ref q_1, .int (zI 25)])), (q_1, .inl (G.2.1.2.1, 676, .inr (.inl (aL (fun _ => 0)))))] := hD
  rw [hQ]
  refine W.widen (k := 1) (n := 676) (Nat.le_of_ble_eq_true rfl) (Nat.le_of_ble_eq_true rfl) ?_
  exact z_vret hF hr hlocks q_1 (trivial) hP hK hD hS dX2_init_19
set_option maxHeartbeats 4000000 in
set_option maxRecDepth 100000 in
theorem c_X2_replaceRate (l : Launch) (G : wG) (h0 a0 : Nat) (kn : Int → Int) (ra : Int) (r1 : Int)  (z9 : Nat) : Met l yX2_replaceRate wsX2_replaceRate (rmL 1 0 0) (wPc G [(h0, .inr (2, [.ref a0, .int (zI ra)])), (a0, .inl (G.2.1.2.1, 676, .inr (.inl (aL kn))))] z9 [.ref h0, .int (zI r1)]) (wQi G (fun (r : Int32) (u : Unit) => r = zI ra) (fun (u : Unit) => [(h0, .inr (2, [.ref a0, .int (zI r1)])), (a0, .inl (G.2.1.2.1, 676, .inr (.inl (aL kn))))]) (va_A [(h0, .inr (2, [.ref a0, .int (zI ra)])), (a0, .inl (G.2.1.2.1, 676, .inr (.inl (aL kn))))] z9)) 0 0 (va_A [(h0, .inr (2, [.ref a0, .int (zI ra)])), (a0, .inl (G.2.1.2.1, 676, .inr (.inl (aL kn))))] z9) := by
  refine z_ofW (Qc := fun A => wQi G (fun (r : Int32) (u : Unit) => r = zI ra) (fun (u : Unit) => [(h0, .inr (2, [.ref a0, .int (zI r1)])), (a0, .inl (G.2.1.2.1, 676, .inr (.inl (aL kn))))]) A) l G [(h0, .inr (2, [.ref a0, .int (zI ra)])), (a0, .inl (G.2.1.2.1, 676, .inr (.inl (aL kn))))] [.ref h0, .int (zI r1)] (by decide) rfl rfl ?_ z9
  intro p e s m args below meth c A ls H locs hF hr hlocks hinit hP hK hD hA hS hBd hl
  have hF : wFx p m c cX2_replaceRate 3 s args wsX2_replaceRate RX2 := hF
  have hl : lv_has ls 3 [(0, .ref h0), (1, .int (zI r1))] := hl
  have hx := hF.1
  have hb := hF.2.1
  obtain ⟨Q0, hQ⟩ : ∃ q, q = (MQ below (wQi G (fun (r : Int32) (u : Unit) => r = zI ra) (fun (u : Unit) => [(h0, .inr (2, [.ref a0, .int (zI r1)])), (a0, .inl (G.2.1.2.1, 676, .inr (.inl (aL kn))))]) A) args s 0 0 A) := ⟨_, rfl⟩
  rw [← hQ]
  have i_wsX20 : ∀ w ∈ wsX20, w ∈ wsX2_replaceRate := (fun _ h => (List.mem_cons_of_mem _ (List.mem_append_right _ h)))
  have kf_15 : (Cond.fieldLink RX2 15 "Gammonry$Equities" "rate" "I").before args s = true := hF.2.2.2.2 _ (List.mem_cons_of_mem _ (List.mem_append_left _ (List.mem_of_getElem? (i := 0) rfl)))
  refine lv_aload_n hx hb dX2_replaceRate_0 rfl (lv_at hl 0 rfl) ?_
  refine z_get (k := 1) hF hK hP 0 rfl rfl i_wsX20 (by decide) kf_15 rfl dX2_replaceRate_1 ?_
  refine lv_istore_n (lv' := [(2, .int (zI ra)), (0, .ref h0), (1, .int (zI r1))]) hx hb dX2_replaceRate_4 rfl hl (by decide) rfl (fun ls hl => ?_)
  refine lv_aload_n hx hb dX2_replaceRate_5 rfl (lv_at hl 1 rfl) ?_
  refine lv_iload_n hx hb dX2_replaceRate_6 rfl (lv_at hl 2 rfl) ?_
  refine z_put (k := 1) hF hK hP hD hS 0 rfl rfl i_wsX20 (by decide) tyX2 tyX2_ok nmX2 rfl kf_15 rfl rfl (Nat.le_of_ble_eq_true rfl) dX2_replaceRate_7 (fun H locs hP hD hS => ?_)
  have hP : va_P G.1 vwCl [(h0, .inr (2, [.ref a0, .int (zI r1)])), (a0, .inl (G.2.1.2.1, 676, .inr (.inl (aL kn))))] H := hP
  have hD : va_D A [(h0, .inr (2, [.ref a0, .int (zI r1)])), (a0, .inl (G.2.1.2.1, 676, .inr (.inl (aL kn))))] := hD
  refine lv_iload_n hx hb dX2_replaceRate_10 rfl (lv_at hl 0 rfl) ?_
  rw [hQ]
  exact z_iret hF hr hlocks () (rfl) hP hK hD hS dX2_replaceRate_11
set_option maxHeartbeats 4000000 in
set_option maxRecDepth 100000 in
theorem c_X2_at (l : Launch) (G : wG) (h0 a0 : Nat) (kn : Int → Int) (ra : Int) (x y : Int)  (hr_x : -2147483648 ≤ x ∧ x < 2147483648) (hr_y : -2147483648 ≤ y ∧ y < 2147483648) (z9 : Nat) : Met l yX2_at wsX2_at (rmL 1 0 0) (wPc G [(h0, .inr (2, [.ref a0, .int (zI ra)])), (a0, .inl (G.2.1.2.1, 676, .inr (.inl (aL kn))))] z9 [.ref h0, .int (zI x), .int (zI y)]) (wQl G (fun (r : Int64) (u : Unit) => r = zL (eqAt kn x y)) (fun (u : Unit) => [(h0, .inr (2, [.ref a0, .int (zI ra)])), (a0, .inl (G.2.1.2.1, 676, .inr (.inl (aL kn))))]) (va_A [(h0, .inr (2, [.ref a0, .int (zI ra)])), (a0, .inl (G.2.1.2.1, 676, .inr (.inl (aL kn))))] z9)) 0 0 (va_A [(h0, .inr (2, [.ref a0, .int (zI ra)])), (a0, .inl (G.2.1.2.1, 676, .inr (.inl (aL kn))))] z9) := by
  refine z_ofW (Qc := fun A => wQl G (fun (r : Int64) (u : Unit) => r = zL (eqAt kn x y)) (fun (u : Unit) => [(h0, .inr (2, [.ref a0, .int (zI ra)])), (a0, .inl (G.2.1.2.1, 676, .inr (.inl (aL kn))))]) A) l G [(h0, .inr (2, [.ref a0, .int (zI ra)])), (a0, .inl (G.2.1.2.1, 676, .inr (.inl (aL kn))))] [.ref h0, .int (zI x), .int (zI y)] (by decide) rfl rfl ?_ z9
  intro p e s m args below meth c A ls H locs hF hr hlocks hinit hP hK hD hA hS hBd hl
  have hF : wFx p m c cX2_at 3 s args wsX2_at RX2 := hF
  have hl : lv_has ls 3 [(0, .ref h0), (1, .int (zI x)), (2, .int (zI y))] := hl
  have hx := hF.1
  have hb := hF.2.1
  obtain ⟨Q0, hQ⟩ : ∃ q, q = (MQ below (wQl G (fun (r : Int64) (u : Unit) => r = zL (eqAt kn x y)) (fun (u : Unit) => [(h0, .inr (2, [.ref a0, .int (zI ra)])), (a0, .inl (G.2.1.2.1, 676, .inr (.inl (aL kn))))]) A) args s 0 0 A) := ⟨_, rfl⟩
  rw [← hQ]
  have i_wsX20 : ∀ w ∈ wsX20, w ∈ wsX2_at := (fun _ h => (List.mem_cons_of_mem _ (List.mem_append_right _ h)))
  have kc_25 : (Cond.constantLong RX2 25 (1000000)).before args s = true := hF.2.2.2.2 _ (List.mem_cons_of_mem _ (List.mem_append_left _ (List.mem_of_getElem? (i := 0) rfl)))
  have kf_11 : (Cond.fieldLink RX2 11 "Gammonry$Equities" "known" "[J").before args s = true := hF.2.2.2.2 _ (List.mem_cons_of_mem _ (List.mem_append_left _ (List.mem_of_getElem? (i := 1) rfl)))
  refine lv_iload_n hx hb dX2_at_0 rfl (lv_at hl 1 rfl) ?_
  refine z_if_gt (tgt := 8) hF dX2_at_1 (by decide) (by omega) (fun c_1 => ?_) (fun c_1 => ?_)
  · have hc_1 := c_1
    refine lv_iload_n hx hb dX2_at_8 rfl (lv_at hl 2 rfl) ?_
    refine z_if_le (tgt := 24) hF dX2_at_9 (by decide) (by omega) (fun c_2 => ?_) (fun c_2 => ?_)
    · have hc_9 := c_2
      refine z_lconst hF dX2_at_24 ?_
      refine z_tzl (b := 0) rfl ?_
      rw [hQ]
      exact z_lret hF hr hlocks () (by first | exact zL_congr (eqAt_a (by omega)).symm | exact zL_congr (eqAt_b (by omega) (by omega)).symm | exact zL_congr (eqAt_c (by omega) (by omega)).symm) hP hK hD hS dX2_at_25
    · have hc_9 := c_2
      refine lv_iload_n hx hb dX2_at_12 rfl (lv_at hl 1 rfl) ?_
      refine z_bipush hF dX2_at_13 (by decide) ?_
      refine z_icmp_ge (tgt := 24) hF dX2_at_15 (by decide) (by omega) (by decide) (fun c_3 => ?_) (fun c_3 => ?_)
      · have hc_15 := c_3
        refine z_lconst hF dX2_at_24 ?_
        refine z_tzl (b := 0) rfl ?_
        rw [hQ]
        exact z_lret hF hr hlocks () (by first | exact zL_congr (eqAt_a (by omega)).symm | exact zL_congr (eqAt_b (by omega) (by omega)).symm | exact zL_congr (eqAt_c (by omega) (by omega)).symm) hP hK hD hS dX2_at_25
      · have hc_15 := c_3
        refine lv_iload_n hx hb dX2_at_18 rfl (lv_at hl 2 rfl) ?_
        refine z_bipush hF dX2_at_19 (by decide) ?_
        refine z_icmp_lt (tgt := 26) hF dX2_at_21 (by decide) (by omega) (by decide) (fun c_4 => ?_) (fun c_4 => ?_)
        · have hc_21 := c_4
          refine lv_aload_n hx hb dX2_at_26 rfl (lv_at hl 0 rfl) ?_
          refine z_get (k := 0) hF hK hP 0 rfl rfl i_wsX20 (by decide) kf_11 rfl dX2_at_27 ?_
          refine lv_iload_n hx hb dX2_at_30 rfl (lv_at hl 1 rfl) ?_
          refine z_bipush hF dX2_at_31 (by decide) ?_
          refine z_imul hF dX2_at_33 ?_
          refine lv_iload_n hx hb dX2_at_34 rfl (lv_at hl 2 rfl) ?_
          refine z_iadd hF dX2_at_35 ?_
          refine z_lald hF hK hP 1 rfl (by omega) rfl dX2_at_36 ?_
          rw [hQ]
          exact z_lret hF hr hlocks () (by first | exact zL_congr (eqAt_a (by omega)).symm | exact zL_congr (eqAt_b (by omega) (by omega)).symm | exact zL_congr (eqAt_c (by omega) (by omega)).symm) hP hK hD hS dX2_at_37
        · have hc_21 := c_4
          refine z_lconst hF dX2_at_24 ?_
          refine z_tzl (b := 0) rfl ?_
          rw [hQ]
          exact z_lret hF hr hlocks () (by first | exact zL_congr (eqAt_a (by omega)).symm | exact zL_congr (eqAt_b (by omega) (by omega)).symm | exact zL_congr (eqAt_c (by omega) (by omega)).symm) hP hK hD hS dX2_at_25
  · have hc_1 := c_1
    refine lv_ldc2 hx hb hF.2.2.2.1 kc_25 dX2_at_4 ?_
    refine z_topl (y := zL 1000000) (by decide) ?_
    rw [hQ]
    exact z_lret hF hr hlocks () (by first | exact zL_congr (eqAt_a (by omega)).symm | exact zL_congr (eqAt_b (by omega) (by omega)).symm | exact zL_congr (eqAt_c (by omega) (by omega)).symm) hP hK hD hS dX2_at_7
