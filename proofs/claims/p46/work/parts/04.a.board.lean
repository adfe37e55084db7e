set_option maxHeartbeats 4000000 in
set_option maxRecDepth 100000 in
/-- Arrays.fill of a track -/
theorem c_J7_fill_53178 (l : Launch) (G : wG) (a0 : Nat) (b : Int → Int) (v : Int)  (z9 : Nat) : Met l yJ7_fill_53178 wsJ7_fill_53178 (rmL 1 0 0) (wPc G [(a0, .inl (G.2.1.1, 52, .inl (aI b)))] z9 [.ref a0, .int (zI v)]) (wQv G (fun (u : Unit) => True) (fun (u : Unit) => [(a0, .inl (G.2.1.1, 52, .inl (aI (fun _ => v))))]) (va_A [(a0, .inl (G.2.1.1, 52, .inl (aI b)))] z9)) 0 0 (va_A [(a0, .inl (G.2.1.1, 52, .inl (aI b)))] z9) := by
  refine z_ofW (Qc := fun A => wQv G (fun (u : Unit) => True) (fun (u : Unit) => [(a0, .inl (G.2.1.1, 52, .inl (aI (fun _ => v))))]) A) l G [(a0, .inl (G.2.1.1, 52, .inl (aI b)))] [.ref a0, .int (zI v)] (by decide) rfl rfl ?_ z9
  intro p e s m args below meth c A ls H locs hF hr hlocks hinit hP hK hD hA hS hBd hl
  have hF : wFx p m c cJ7_fill_53178 4 s args wsJ7_fill_53178 RJ7 := hF
  have hl : lv_has ls 4 [(0, .ref a0), (1, .int (zI v))] := hl
  have hx := hF.1
  have hb := hF.2.1
  obtain ⟨Q0, hQ⟩ : ∃ q, q = (MQ below (wQv G (fun (u : Unit) => True) (fun (u : Unit) => [(a0, .inl (G.2.1.1, 52, .inl (aI (fun _ => v))))]) A) args s 0 0 A) := ⟨_, rfl⟩
  rw [← hQ]
  refine z_iconst hF dJ7_fill_53178_0 ?_
  refine lv_istore_n (lv' := [(2, .int (zI 0)), (0, .ref a0), (1, .int (zI v))]) hx hb dJ7_fill_53178_1 rfl hl (by decide) rfl (fun ls hl => ?_)
  refine lv_aload_n hx hb dJ7_fill_53178_2 rfl (lv_at hl 1 rfl) ?_
  refine z_ilen hF hK hP 0 rfl dJ7_fill_53178_3 ?_
  refine z_tz (b := 52) rfl ?_
  refine lv_istore_n (lv' := [(3, .int (zI 52)), (2, .int (zI 0)), (0, .ref a0), (1, .int (zI v))]) hx hb dJ7_fill_53178_4 rfl hl (by decide) rfl (fun ls hl => ?_)
  have L5 : ∀ (n9 : Nat) (i : Int), (52 - i).toNat < n9 → (0 ≤ i ∧ i ≤ 52) → ∀ (H : Heap) (locs : List Loc) (ls : Array Slot), va_P G.1 vwCl [(a0, .inl (G.2.1.1, 52, .inl (aI (fl (fun _ => v) b i))))] H → va_D A [(a0, .inl (G.2.1.1, 52, .inl (aI (fl (fun _ => v) b i))))] → va_S A s.heap H locs → lv_has ls 4 [(0, .ref a0), (1, .int (zI v)), (2, .int (zI i)), (3, .int (zI 52))] → W p l e (rmL 1 0 0) s m args below meth c H locs 0 0 Q0 (F0 m 5 ls []) := by
    intro n9
    induction n9 with
    | zero => intro i hmu; omega
    | succ n9 ih5 =>
      intro i hmu5 hzi H locs ls hP hD hS hl
      refine lv_iload_n hx hb dJ7_fill_53178_5 rfl (lv_at hl 2 rfl) ?_
      refine lv_iload_n hx hb dJ7_fill_53178_6 rfl (lv_at hl 3 rfl) ?_
      refine z_icmp_ge (tgt := 20) hF dJ7_fill_53178_7 (by decide) (by omega) (by decide) (fun c_1 => ?_) (fun c_1 => ?_)
      · have hc_7 := c_1
        have hP : va_P G.1 vwCl [(a0, .inl (G.2.1.1, 52, .inl (aI (fun _ => v))))] H := z_ext (q := 0) (g := (fun _ => v)) hP rfl (fun k h0 h1 => by unfold fl; rw [if_pos ⟨h0, by omega⟩])
        have hD : va_D A [(a0, .inl (G.2.1.1, 52, .inl (aI (fun _ => v))))] := va_D_cell (q := 0) hD rfl
        rw [hQ]
        exact z_vret hF hr hlocks () (trivial) hP hK hD hS dJ7_fill_53178_20
      · have hc_7 := c_1
        refine lv_aload_n hx hb dJ7_fill_53178_10 rfl (lv_at hl 0 rfl) ?_
        refine lv_iload_n hx hb dJ7_fill_53178_11 rfl (lv_at hl 2 rfl) ?_
        refine lv_iload_n hx hb dJ7_fill_53178_12 rfl (lv_at hl 1 rfl) ?_
        refine z_iast hF hK hP hD hS 0 rfl (by omega) rfl dJ7_fill_53178_13 (fun H locs hP hD hS => ?_)
        have hP : va_P G.1 vwCl [(a0, .inl (G.2.1.1, 52, .inl (aI (up (fl (fun _ => v) b i) i v))))] H := hP
        have hD : va_D A [(a0, .inl (G.2.1.1, 52, .inl (aI (up (fl (fun _ => v) b i) i v))))] := hD
        rw [show up (fl (fun _ => v) b i) i v = fl (fun _ => v) b (i + 1) from (fl_s (fun _ => v) b hzi.1)] at hP hD
        refine z_iinc (lv' := [(2, .int (zI (i + 1))), (0, .ref a0), (1, .int (zI v)), (3, .int (zI 52))]) hF dJ7_fill_53178_14 hl (k := 2) rfl (by decide) rfl (fun ls hl => ?_)
        refine z_goto (tgt := 5) hF dJ7_fill_53178_17 (by decide) ?_
        exact ih5 (i + 1) (by omega) (by omega) H locs ls hP hD hS (lv_sub hl [1, 2, 0, 3] rfl)
  rw [show aI b = aI (fl (fun _ => v) b 0) by rw [fl_0]] at hP hD
  exact L5 _ 0 (Nat.lt_succ_self _) (by omega) H locs ls hP hD hS (lv_sub hl [2, 3, 1, 0] rfl)
set_option maxHeartbeats 4000000 in
set_option maxRecDepth 100000 in
theorem c_X0_init (l : Launch) (G : wG) (h0 : Nat)  (z9 : Nat) : Met l yX0_init wsX0_init (rmL 2 1 52) (wPc G [(h0, .inr (0, [.null]))] z9 [.ref h0]) (wQv G (fun (u : Nat) => True) (fun (u : Nat) => [(h0, .inr (0, [.ref u])), (u, .inl (G.2.1.1, 52, .inl (aI (fun _ => 0))))]) (va_A [(h0, .inr (0, [.null]))] z9)) 1 52 (va_A [(h0, .inr (0, [.null]))] z9) := by
  refine z_ofW (Qc := fun A => wQv G (fun (u : Nat) => True) (fun (u : Nat) => [(h0, .inr (0, [.ref u])), (u, .inl (G.2.1.1, 52, .inl (aI (fun _ => 0))))]) A) l G [(h0, .inr (0, [.null]))] [.ref h0] (by decide) rfl rfl ?_ z9
  intro p e s m args below meth c A ls H locs hF hr hlocks hinit hP hK hD hA hS hBd hl
  have hF : wFx p m c cX0_init 1 s args wsX0_init RX0 := hF
  have hl : lv_has ls 1 [(0, .ref h0)] := hl
  have hx := hF.1
  have hb := hF.2.1
  obtain ⟨Q0, hQ⟩ : ∃ q, q = (MQ below (wQv G (fun (u : Nat) => True) (fun (u : Nat) => [(h0, .inr (0, [.ref u])), (u, .inl (G.2.1.1, 52, .inl (aI (fun _ => 0))))]) A) args s 1 52 A) := ⟨_, rfl⟩
  rw [← hQ]
  have i_wsX00 : ∀ w ∈ wsX00, w ∈ wsX0_init := (fun _ h => (List.mem_cons_of_mem _ (List.mem_append_right _ h)))
  have ka_int : (Cond.arrayClass .int).before args s = true := hF.2.2.2.2 _ (List.mem_cons_of_mem _ (List.mem_append_left _ (List.mem_of_getElem? (i := 3) rfl)))
  have kf_9 : (Cond.fieldLink RX0 9 "Gammonry$Board" "counts" "[I").before args s = true := hF.2.2.2.2 _ (List.mem_cons_of_mem _ (List.mem_append_left _ (List.mem_of_getElem? (i := 4) rfl)))
  have km_3 : (Cond.methodLink RX0 3 objectInit).before args s = true := hF.2.2.2.2 _ (List.mem_cons_of_mem _ (List.mem_append_left _ (List.mem_of_getElem? (i := 0) rfl)))
  have ko_c : (Cond.code objectInit ⟨#[0xb1]⟩ 1 none).before args s = true := hF.2.2.2.2 _ (List.mem_cons_of_mem _ (List.mem_append_left _ (List.mem_of_getElem? (i := 2) rfl)))
  have ko_i : (Cond.instanceMethod objectInit).before args s = true := hF.2.2.2.2 _ (List.mem_cons_of_mem _ (List.mem_append_left _ (List.mem_of_getElem? (i := 1) rfl)))
  refine lv_aload_n hx hb dX0_init_0 rfl (lv_at hl 0 rfl) ?_
  refine W.objInit hx hb hF.2.2.2.1 km_3 ko_i ko_c rfl (by rw [hF.2.2.1]; exact hl.1) rfl dX0_init_1 (Nat.le_of_ble_eq_true rfl) (Nat.le_of_ble_eq_true rfl) ?_
  refine W.eq (g2 := F0 m 4 ls []) rfl ?_
  refine lv_aload_n hx hb dX0_init_4 rfl (lv_at hl 0 rfl) ?_
  refine z_bipush hF dX0_init_5 (by decide) ?_
  refine z_newai hF ka_int hK hP hD hS hA (N := 52) (by decide) (by decide) rfl rfl rfl dX0_init_7 (fun q_1 H hP hD hS => ?_)
  have hP : va_P G.1 vwCl [(h0, .inr (0, [.null])), (q_1, .inl (G.2.1.1, 52, .inl (aI (fun _ => 0))))] H := hP
  have hD : va_D A [(h0, .inr (0, [.null])), (q_1, .inl (G.2.1.1, 52, .inl (aI (fun _ => 0))))] := hD
  refine W.widen (k := 1) (n := 52) (Nat.le_of_ble_eq_true rfl) (Nat.le_of_ble_eq_true rfl) ?_
  refine va_putF (D := G.1) (ty := tyX0 0) (ci := 0) (C := RX0) (T := TX0) (N := 1) hx hb hF.2.2.2.2 i_wsX00 tyX0 tyX0_ok nmX0 hF.2.2.2.1 hK hP hD hS 0 rfl rfl 0 (by decide) kf_9 (fun _ h9 => h9) rfl (hinit rfl) rfl (tyX0_ok 0 (by decide)) rfl rfl (Nat.le_of_ble_eq_true rfl) dX0_init_9 (fun H locs hP hD hS => ?_)
  have hP : va_P G.1 vwCl [(h0, .inr (0, [.ref q_1])), (q_1, .inl (G.2.1.1, 52, .inl (aI (fun _ => 0))))] H := hP
  have hD : va_D A [(h0, .inr (0, [.ref q_1])), (q_1, .inl (G.2.1.1, 52, .inl (aI (fun _ => 0))))] := hD
  rw [hQ]
  refine W.widen (k := 1) (n := 52) (Nat.le_of_ble_eq_true rfl) (Nat.le_of_ble_eq_true rfl) ?_
  exact z_vret hF hr hlocks q_1 (trivial) hP hK hD hS dX0_init_12
set_option maxHeartbeats 4000000 in
set_option maxRecDepth 100000 in
theorem c_X0_at (l : Launch) (G : wG) (h0 a0 : Nat) (b : Int → Int) (sd pt : Int)  (hr_sd : -2147483648 ≤ sd ∧ sd < 2147483648) (hr_pt : -2147483648 ≤ pt ∧ pt < 2147483648) (z9 : Nat) : Met l yX0_at wsX0_at (rmL 1 0 0) (wPc G [(h0, .inr (0, [.ref a0])), (a0, .inl (G.2.1.1, 52, .inl (aI b)))] z9 [.ref h0, .int (zI sd), .int (zI pt)]) (wQi G (fun (r : Int32) (u : Unit) => r = zI (atB b sd pt)) (fun (u : Unit) => [(h0, .inr (0, [.ref a0])), (a0, .inl (G.2.1.1, 52, .inl (aI b)))]) (va_A [(h0, .inr (0, [.ref a0])), (a0, .inl (G.2.1.1, 52, .inl (aI b)))] z9)) 0 0 (va_A [(h0, .inr (0, [.ref a0])), (a0, .inl (G.2.1.1, 52, .inl (aI b)))] z9) := by
  refine z_ofW (Qc := fun A => wQi G (fun (r : Int32) (u : Unit) => r = zI (atB b sd pt)) (fun (u : Unit) => [(h0, .inr (0, [.ref a0])), (a0, .inl (G.2.1.1, 52, .inl (aI b)))]) A) l G [(h0, .inr (0, [.ref a0])), (a0, .inl (G.2.1.1, 52, .inl (aI b)))] [.ref h0, .int (zI sd), .int (zI pt)] (by decide) rfl rfl ?_ z9
  intro p e s m args below meth c A ls H locs hF hr hlocks hinit hP hK hD hA hS hBd hl
  have hF : wFx p m c cX0_at 3 s args wsX0_at RX0 := hF
  have hl : lv_has ls 3 [(0, .ref h0), (1, .int (zI sd)), (2, .int (zI pt))] := hl
  have hx := hF.1
  have hb := hF.2.1
  obtain ⟨Q0, hQ⟩ : ∃ q, q = (MQ below (wQi G (fun (r : Int32) (u : Unit) => r = zI (atB b sd pt)) (fun (u : Unit) => [(h0, .inr (0, [.ref a0])), (a0, .inl (G.2.1.1, 52, .inl (aI b)))]) A) args s 0 0 A) := ⟨_, rfl⟩
  rw [← hQ]
  have i_wsX00 : ∀ w ∈ wsX00, w ∈ wsX0_at := (fun _ h => (List.mem_cons_of_mem _ (List.mem_append_right _ h)))
  have kf_9 : (Cond.fieldLink RX0 9 "Gammonry$Board" "counts" "[I").before args s = true := hF.2.2.2.2 _ (List.mem_cons_of_mem _ (List.mem_append_left _ (List.mem_of_getElem? (i := 0) rfl)))
  refine lv_iload_n hx hb dX0_at_0 rfl (lv_at hl 1 rfl) ?_
  refine z_if_lt (tgt := 19) hF dX0_at_1 (by decide) (by omega) (fun c_1 => ?_) (fun c_1 => ?_)
  · have hc_1 := c_1
    refine z_iconst hF dX0_at_19 ?_
    rw [hQ]
    exact z_iret hF hr hlocks () (by first | exact (zI_congr (atB_out (by omega)).symm) | exact (zI_congr ((bx (by omega)).trans (atB_in (by omega)).symm))) hP hK hD hS dX0_at_20
  · have hc_1 := c_1
    refine lv_iload_n hx hb dX0_at_4 rfl (lv_at hl 1 rfl) ?_
    refine z_iconst hF dX0_at_5 ?_
    refine z_icmp_gt (tgt := 19) hF dX0_at_6 (by decide) (by omega) (by decide) (fun c_2 => ?_) (fun c_2 => ?_)
    · have hc_6 := c_2
      refine z_iconst hF dX0_at_19 ?_
      rw [hQ]
      exact z_iret hF hr hlocks () (by first | exact (zI_congr (atB_out (by omega)).symm) | exact (zI_congr ((bx (by omega)).trans (atB_in (by omega)).symm))) hP hK hD hS dX0_at_20
    · have hc_6 := c_2
      refine lv_iload_n hx hb dX0_at_9 rfl (lv_at hl 2 rfl) ?_
      refine z_if_lt (tgt := 19) hF dX0_at_10 (by decide) (by omega) (fun c_3 => ?_) (fun c_3 => ?_)
      · have hc_10 := c_3
        refine z_iconst hF dX0_at_19 ?_
        rw [hQ]
        exact z_iret hF hr hlocks () (by first | exact (zI_congr (atB_out (by omega)).symm) | exact (zI_congr ((bx (by omega)).trans (atB_in (by omega)).symm))) hP hK hD hS dX0_at_20
      · have hc_10 := c_3
        refine lv_iload_n hx hb dX0_at_13 rfl (lv_at hl 2 rfl) ?_
        refine z_bipush hF dX0_at_14 (by decide) ?_
        refine z_icmp_le (tgt := 21) hF dX0_at_16 (by decide) (by omega) (by decide) (fun c_4 => ?_) (fun c_4 => ?_)
        · have hc_16 := c_4
          refine lv_aload_n hx hb dX0_at_21 rfl (lv_at hl 0 rfl) ?_
          refine z_get (k := 0) hF hK hP 0 rfl rfl i_wsX00 (by decide) kf_9 rfl dX0_at_22 ?_
          refine lv_iload_n hx hb dX0_at_25 rfl (lv_at hl 1 rfl) ?_
          refine z_bipush hF dX0_at_26 (by decide) ?_
          refine z_imul hF dX0_at_28 ?_
          refine lv_iload_n hx hb dX0_at_29 rfl (lv_at hl 2 rfl) ?_
          refine z_iadd hF dX0_at_30 ?_
          refine z_iald hF hK hP 1 rfl (by omega) rfl dX0_at_31 ?_
          rw [hQ]
          exact z_iret hF hr hlocks () (by first | exact (zI_congr (atB_out (by omega)).symm) | exact (zI_congr ((bx (by omega)).trans (atB_in (by omega)).symm))) hP hK hD hS dX0_at_32
        · have hc_16 := c_4
          refine z_iconst hF dX0_at_19 ?_
          rw [hQ]
          exact z_iret hF hr hlocks () (by first | exact (zI_congr (atB_out (by omega)).symm) | exact (zI_congr ((bx (by omega)).trans (atB_in (by omega)).symm))) hP hK hD hS dX0_at_20
set_option maxHeartbeats 4000000 in
set_option maxRecDepth 100000 in
theorem c_X0_add (l : Launch) (G : wG) (h0 a0 : Nat) (b : Int → Int) (sd pt ch : Int)  (hsd : 0 ≤ sd ∧ sd ≤ 1) (hpt : 0 ≤ pt ∧ pt ≤ 25) (z9 : Nat) : Met l yX0_add wsX0_add (rmL 1 0 0) (wPc G [(h0, .inr (0, [.ref a0])), (a0, .inl (G.2.1.1, 52, .inl (aI b)))] z9 [.ref h0, .int (zI sd), .int (zI pt), .int (zI ch)]) (wQv G (fun (u : Unit) => True) (fun (u : Unit) => [(h0, .inr (0, [.ref a0])), (a0, .inl (G.2.1.1, 52, .inl (aI (up b (26 * sd + pt) (b (26 * sd + pt) + ch)))))]) (va_A [(h0, .inr (0, [.ref a0])), (a0, .inl (G.2.1.1, 52, .inl (aI b)))] z9)) 0 0 (va_A [(h0, .inr (0, [.ref a0])), (a0, .inl (G.2.1.1, 52, .inl (aI b)))] z9) := by
  refine z_ofW (Qc := fun A => wQv G (fun (u : Unit) => True) (fun (u : Unit) => [(h0, .inr (0, [.ref a0])), (a0, .inl (G.2.1.1, 52, .inl (aI (up b (26 * sd + pt) (b (26 * sd + pt) + ch)))))]) A) l G [(h0, .inr (0, [.ref a0])), (a0, .inl (G.2.1.1, 52, .inl (aI b)))] [.ref h0, .int (zI sd), .int (zI pt), .int (zI ch)] (by decide) rfl rfl ?_ z9
  intro p e s m args below meth c A ls H locs hF hr hlocks hinit hP hK hD hA hS hBd hl
  have hF : wFx p m c cX0_add 4 s args wsX0_add RX0 := hF
  have hl : lv_has ls 4 [(0, .ref h0), (1, .int (zI sd)), (2, .int (zI pt)), (3, .int (zI ch))] := hl
  have hx := hF.1
  have hb := hF.2.1
  obtain ⟨Q0, hQ⟩ : ∃ q, q = (MQ below (wQv G (fun (u : Unit) => True) (fun (u : Unit) => [(h0, .inr (0, [.ref a0])), (a0, .inl (G.2.1.1, 52, .inl (aI (up b (26 * sd + pt) (b (26 * sd + pt) + ch)))))]) A) args s 0 0 A) := ⟨_, rfl⟩
  rw [← hQ]
  have i_wsX00 : ∀ w ∈ wsX00, w ∈ wsX0_add := (fun _ h => (List.mem_cons_of_mem _ (List.mem_append_right _ h)))
  have kf_9 : (Cond.fieldLink RX0 9 "Gammonry$Board" "counts" "[I").before args s = true := hF.2.2.2.2 _ (List.mem_cons_of_mem _ (List.mem_append_left _ (List.mem_of_getElem? (i := 0) rfl)))
  refine lv_iload_n hx hb dX0_add_0 rfl (lv_at hl 1 rfl) ?_
  refine z_if_lt (tgt := 34) hF dX0_add_1 (by decide) (by omega) (fun c_1 => ?_) (fun c_1 => ?_)
  · exfalso; omega
  · have hc_1 := c_1
    refine lv_iload_n hx hb dX0_add_4 rfl (lv_at hl 1 rfl) ?_
    refine z_iconst hF dX0_add_5 ?_
    refine z_icmp_gt (tgt := 34) hF dX0_add_6 (by decide) (by omega) (by decide) (fun c_2 => ?_) (fun c_2 => ?_)
    · exfalso; omega
    · have hc_6 := c_2
      refine lv_iload_n hx hb dX0_add_9 rfl (lv_at hl 2 rfl) ?_
      refine z_if_lt (tgt := 34) hF dX0_add_10 (by decide) (by omega) (fun c_3 => ?_) (fun c_3 => ?_)
      · exfalso; omega
      · have hc_10 := c_3
        refine lv_iload_n hx hb dX0_add_13 rfl (lv_at hl 2 rfl) ?_
        refine z_bipush hF dX0_add_14 (by decide) ?_
        refine z_icmp_gt (tgt := 34) hF dX0_add_16 (by decide) (by omega) (by decide) (fun c_4 => ?_) (fun c_4 => ?_)
        · exfalso; omega
        · have hc_16 := c_4
          refine lv_aload_n hx hb dX0_add_19 rfl (lv_at hl 0 rfl) ?_
          refine z_get (k := 0) hF hK hP 0 rfl rfl i_wsX00 (by decide) kf_9 rfl dX0_add_20 ?_
          refine lv_iload_n hx hb dX0_add_23 rfl (lv_at hl 1 rfl) ?_
          refine z_bipush hF dX0_add_24 (by decide) ?_
          refine z_imul hF dX0_add_26 ?_
          refine lv_iload_n hx hb dX0_add_27 rfl (lv_at hl 2 rfl) ?_
          refine z_iadd hF dX0_add_28 ?_
          refine lv_dup2_11 hx hb dX0_add_29 rfl rfl ?_
          refine z_iald hF hK hP 1 rfl (by omega) rfl dX0_add_30 ?_
          refine lv_iload_n hx hb dX0_add_31 rfl (lv_at hl 3 rfl) ?_
          refine z_iadd hF dX0_add_32 ?_
          refine z_iast hF hK hP hD hS 1 rfl (by omega) rfl dX0_add_33 (fun H locs hP hD hS => ?_)
          have hP : va_P G.1 vwCl [(h0, .inr (0, [.ref a0])), (a0, .inl (G.2.1.1, 52, .inl (aI (up b ((sd * 26) + pt) ((b ((sd * 26) + pt)) + ch)))))] H := hP
          have hD : va_D A [(h0, .inr (0, [.ref a0])), (a0, .inl (G.2.1.1, 52, .inl (aI (up b ((sd * 26) + pt) ((b ((sd * 26) + pt)) + ch)))))] := hD
          rw [show up b ((sd * 26) + pt) ((b ((sd * 26) + pt)) + ch) = up b (26 * sd + pt) (b (26 * sd + pt) + ch) from (by rw [Int.mul_comm sd 26])] at hP hD
          rw [hQ]
          exact z_vret hF hr hlocks () (trivial) hP hK hD hS dX0_add_34
set_option maxHeartbeats 4000000 in
set_option maxRecDepth 100000 in
theorem c_X0_become (l : Launch) (G : wG) (h0 a0 h1 a1 : Nat) (b b1 : Int → Int)  (z9 : Nat) : Met l yX0_become wsX0_become (rmL 1 0 0) (wPc G [(h0, .inr (0, [.ref a0])), (a0, .inl (G.2.1.1, 52, .inl (aI b))), (h1, .inr (0, [.ref a1])), (a1, .inl (G.2.1.1, 52, .inl (aI b1)))] z9 [.ref h0, .ref h1]) (wQv G (fun (u : Unit) => True) (fun (u : Unit) => [(h0, .inr (0, [.ref a0])), (a0, .inl (G.2.1.1, 52, .inl (aI b1))), (h1, .inr (0, [.ref a1])), (a1, .inl (G.2.1.1, 52, .inl (aI b1)))]) (va_A [(h0, .inr (0, [.ref a0])), (a0, .inl (G.2.1.1, 52, .inl (aI b))), (h1, .inr (0, [.ref a1])), (a1, .inl (G.2.1.1, 52, .inl (aI b1)))] z9)) 0 0 (va_A [(h0, .inr (0, [.ref a0])), (a0, .inl (G.2.1.1, 52, .inl (aI b))), (h1, .inr (0, [.ref a1])), (a1, .inl (G.2.1.1, 52, .inl (aI b1)))] z9) := by
  refine z_ofW (Qc := fun A => wQv G (fun (u : Unit) => True) (fun (u : Unit) => [(h0, .inr (0, [.ref a0])), (a0, .inl (G.2.1.1, 52, .inl (aI b1))), (h1, .inr (0, [.ref a1])), (a1, .inl (G.2.1.1, 52, .inl (aI b1)))]) A) l G [(h0, .inr (0, [.ref a0])), (a0, .inl (G.2.1.1, 52, .inl (aI b))), (h1, .inr (0, [.ref a1])), (a1, .inl (G.2.1.1, 52, .inl (aI b1)))] [.ref h0, .ref h1] (by decide) rfl rfl ?_ z9
  intro p e s m args below meth c A ls H locs hF hr hlocks hinit hP hK hD hA hS hBd hl
  have hF : wFx p m c cX0_become 3 s args wsX0_become RX0 := hF
  have hl : lv_has ls 3 [(0, .ref h0), (1, .ref h1)] := hl
  have hx := hF.1
  have hb := hF.2.1
  obtain ⟨Q0, hQ⟩ : ∃ q, q = (MQ below (wQv G (fun (u : Unit) => True) (fun (u : Unit) => [(h0, .inr (0, [.ref a0])), (a0, .inl (G.2.1.1, 52, .inl (aI b1))), (h1, .inr (0, [.ref a1])), (a1, .inl (G.2.1.1, 52, .inl (aI b1)))]) A) args s 0 0 A) := ⟨_, rfl⟩
  rw [← hQ]
  have i_wsX00 : ∀ w ∈ wsX00, w ∈ wsX0_become := (fun _ h => (List.mem_cons_of_mem _ (List.mem_append_right _ h)))
  have kf_9 : (Cond.fieldLink RX0 9 "Gammonry$Board" "counts" "[I").before args s = true := hF.2.2.2.2 _ (List.mem_cons_of_mem _ (List.mem_append_left _ (List.mem_of_getElem? (i := 0) rfl)))
  refine z_iconst hF dX0_become_0 ?_
  refine lv_istore_n (lv' := [(2, .int (zI 0)), (0, .ref h0), (1, .ref h1)]) hx hb dX0_become_1 rfl hl (by decide) rfl (fun ls hl => ?_)
  have L2 : ∀ (n9 : Nat) (i : Int), (52 - i).toNat < n9 → (0 ≤ i ∧ i ≤ 52) → ∀ (H : Heap) (locs : List Loc) (ls : Array Slot), va_P G.1 vwCl [(h0, .inr (0, [.ref a0])), (a0, .inl (G.2.1.1, 52, .inl (aI (fl b1 b i)))), (h1, .inr (0, [.ref a1])), (a1, .inl (G.2.1.1, 52, .inl (aI b1)))] H → va_D A [(h0, .inr (0, [.ref a0])), (a0, .inl (G.2.1.1, 52, .inl (aI (fl b1 b i)))), (h1, .inr (0, [.ref a1])), (a1, .inl (G.2.1.1, 52, .inl (aI b1)))] → va_S A s.heap H locs → lv_has ls 3 [(0, .ref h0), (1, .ref h1), (2, .int (zI i))] → W p l e (rmL 1 0 0) s m args below meth c H locs 0 0 Q0 (F0 m 2 ls []) := by
    intro n9
    induction n9 with
    | zero => intro i hmu; omega
    | succ n9 ih2 =>
      intro i hmu2 hzi H locs ls hP hD hS hl
      refine lv_iload_n hx hb dX0_become_2 rfl (lv_at hl 2 rfl) ?_
      refine lv_aload_n hx hb dX0_become_3 rfl (lv_at hl 0 rfl) ?_
      refine z_get (k := 0) hF hK hP 0 rfl rfl i_wsX00 (by decide) kf_9 rfl dX0_become_4 ?_
      refine z_ilen hF hK hP 1 rfl dX0_become_7 ?_
      refine z_tz (b := 52) rfl ?_
      refine z_icmp_ge (tgt := 29) hF dX0_become_8 (by decide) (by omega) (by decide) (fun c_1 => ?_) (fun c_1 => ?_)
      · have hc_8 := c_1
        have hP : va_P G.1 vwCl [(h0, .inr (0, [.ref a0])), (a0, .inl (G.2.1.1, 52, .inl (aI b1))), (h1, .inr (0, [.ref a1])), (a1, .inl (G.2.1.1, 52, .inl (aI b1)))] H := z_ext (q := 1) (g := b1) hP rfl (fun k h0 h1 => by unfold fl; rw [if_pos ⟨h0, by omega⟩])
        have hD : va_D A [(h0, .inr (0, [.ref a0])), (a0, .inl (G.2.1.1, 52, .inl (aI b1))), (h1, .inr (0, [.ref a1])), (a1, .inl (G.2.1.1, 52, .inl (aI b1)))] := va_D_cell (q := 1) hD rfl
        rw [hQ]
        exact z_vret hF hr hlocks () (trivial) hP hK hD hS dX0_become_29
      · have hc_8 := c_1
        refine lv_aload_n hx hb dX0_become_11 rfl (lv_at hl 0 rfl) ?_
        refine z_get (k := 0) hF hK hP 0 rfl rfl i_wsX00 (by decide) kf_9 rfl dX0_become_12 ?_
        refine lv_iload_n hx hb dX0_become_15 rfl (lv_at hl 2 rfl) ?_
        refine lv_aload_n hx hb dX0_become_16 rfl (lv_at hl 1 rfl) ?_
        refine z_get (k := 0) hF hK hP 2 rfl rfl i_wsX00 (by decide) kf_9 rfl dX0_become_17 ?_
        refine lv_iload_n hx hb dX0_become_20 rfl (lv_at hl 2 rfl) ?_
        refine z_iald hF hK hP 3 rfl (by omega) rfl dX0_become_21 ?_
        refine z_iast hF hK hP hD hS 1 rfl (by omega) rfl dX0_become_22 (fun H locs hP hD hS => ?_)
        have hP : va_P G.1 vwCl [(h0, .inr (0, [.ref a0])), (a0, .inl (G.2.1.1, 52, .inl (aI (up (fl b1 b i) i (b1 i))))), (h1, .inr (0, [.ref a1])), (a1, .inl (G.2.1.1, 52, .inl (aI b1)))] H := hP
        have hD : va_D A [(h0, .inr (0, [.ref a0])), (a0, .inl (G.2.1.1, 52, .inl (aI (up (fl b1 b i) i (b1 i))))), (h1, .inr (0, [.ref a1])), (a1, .inl (G.2.1.1, 52, .inl (aI b1)))] := hD
        rw [show up (fl b1 b i) i (b1 i) = fl b1 b (i + 1) from (fl_s b1 b hzi.1)] at hP hD
        refine z_iinc (lv' := [(2, .int (zI (i + 1))), (0, .ref h0), (1, .ref h1)]) hF dX0_become_23 hl (k := 2) rfl (by decide) rfl (fun ls hl => ?_)
        refine z_goto (tgt := 2) hF dX0_become_26 (by decide) ?_
        exact ih2 (i + 1) (by omega) (by omega) H locs ls hP hD hS (lv_sub hl [1, 2, 0] rfl)
  rw [show aI b = aI (fl b1 b 0) by rw [fl_0]] at hP hD
  exact L2 _ 0 (Nat.lt_succ_self _) (by omega) H locs ls hP hD hS (lv_sub hl [1, 2, 0] rfl)
set_option maxHeartbeats 4000000 in
set_option maxRecDepth 100000 in
theorem c_X0_isLike (l : Launch) (G : wG) (h0 a0 h1 a1 : Nat) (b b1 : Int → Int)  (hok : okB b) (hok1 : okB b1) (z9 : Nat) : Met l yX0_isLike wsX0_isLike (rmL 1 0 0) (wPc G [(h0, .inr (0, [.ref a0])), (a0, .inl (G.2.1.1, 52, .inl (aI b))), (h1, .inr (0, [.ref a1])), (a1, .inl (G.2.1.1, 52, .inl (aI b1)))] z9 [.ref h0, .ref h1]) (wQi G (fun (r : Int32) (u : Unit) => ((∀ k : Int, 0 ≤ k → k < 52 → b k = b1 k) ∧ r = zI 1) ∨ ((¬ ∀ k : Int, 0 ≤ k → k < 52 → b k = b1 k) ∧ r = zI 0)) (fun (u : Unit) => [(h0, .inr (0, [.ref a0])), (a0, .inl (G.2.1.1, 52, .inl (aI b))), (h1, .inr (0, [.ref a1])), (a1, .inl (G.2.1.1, 52, .inl (aI b1)))]) (va_A [(h0, .inr (0, [.ref a0])), (a0, .inl (G.2.1.1, 52, .inl (aI b))), (h1, .inr (0, [.ref a1])), (a1, .inl (G.2.1.1, 52, .inl (aI b1)))] z9)) 0 0 (va_A [(h0, .inr (0, [.ref a0])), (a0, .inl (G.2.1.1, 52, .inl (aI b))), (h1, .inr (0, [.ref a1])), (a1, .inl (G.2.1.1, 52, .inl (aI b1)))] z9) := by
  refine z_ofW (Qc := fun A => wQi G (fun (r : Int32) (u : Unit) => ((∀ k : Int, 0 ≤ k → k < 52 → b k = b1 k) ∧ r = zI 1) ∨ ((¬ ∀ k : Int, 0 ≤ k → k < 52 → b k = b1 k) ∧ r = zI 0)) (fun (u : Unit) => [(h0, .inr (0, [.ref a0])), (a0, .inl (G.2.1.1, 52, .inl (aI b))), (h1, .inr (0, [.ref a1])), (a1, .inl (G.2.1.1, 52, .inl (aI b1)))]) A) l G [(h0, .inr (0, [.ref a0])), (a0, .inl (G.2.1.1, 52, .inl (aI b))), (h1, .inr (0, [.ref a1])), (a1, .inl (G.2.1.1, 52, .inl (aI b1)))] [.ref h0, .ref h1] (by decide) rfl rfl ?_ z9
  intro p e s m args below meth c A ls H locs hF hr hlocks hinit hP hK hD hA hS hBd hl
  have hF : wFx p m c cX0_isLike 3 s args wsX0_isLike RX0 := hF
  have hl : lv_has ls 3 [(0, .ref h0), (1, .ref h1)] := hl
  have hx := hF.1
  have hb := hF.2.1
  obtain ⟨Q0, hQ⟩ : ∃ q, q = (MQ below (wQi G (fun (r : Int32) (u : Unit) => ((∀ k : Int, 0 ≤ k → k < 52 → b k = b1 k) ∧ r = zI 1) ∨ ((¬ ∀ k : Int, 0 ≤ k → k < 52 → b k = b1 k) ∧ r = zI 0)) (fun (u : Unit) => [(h0, .inr (0, [.ref a0])), (a0, .inl (G.2.1.1, 52, .inl (aI b))), (h1, .inr (0, [.ref a1])), (a1, .inl (G.2.1.1, 52, .inl (aI b1)))]) A) args s 0 0 A) := ⟨_, rfl⟩
  rw [← hQ]
  have i_wsX00 : ∀ w ∈ wsX00, w ∈ wsX0_isLike := (fun _ h => (List.mem_cons_of_mem _ (List.mem_append_right _ h)))
  have kf_9 : (Cond.fieldLink RX0 9 "Gammonry$Board" "counts" "[I").before args s = true := hF.2.2.2.2 _ (List.mem_cons_of_mem _ (List.mem_append_left _ (List.mem_of_getElem? (i := 0) rfl)))
  refine z_iconst hF dX0_isLike_0 ?_
  refine lv_istore_n (lv' := [(2, .int (zI 0)), (0, .ref h0), (1, .ref h1)]) hx hb dX0_isLike_1 rfl hl (by decide) rfl (fun ls hl => ?_)
  have L2 : ∀ (n9 : Nat) (i : Int), (52 - i).toNat < n9 → (0 ≤ i ∧ i ≤ 52) → (∀ k : Int, 0 ≤ k → k < i → b k = b1 k) → ∀ (H : Heap) (locs : List Loc) (ls : Array Slot), va_P G.1 vwCl [(h0, .inr (0, [.ref a0])), (a0, .inl (G.2.1.1, 52, .inl (aI b))), (h1, .inr (0, [.ref a1])), (a1, .inl (G.2.1.1, 52, .inl (aI b1)))] H → va_D A [(h0, .inr (0, [.ref a0])), (a0, .inl (G.2.1.1, 52, .inl (aI b))), (h1, .inr (0, [.ref a1])), (a1, .inl (G.2.1.1, 52, .inl (aI b1)))] → va_S A s.heap H locs → lv_has ls 3 [(0, .ref h0), (1, .ref h1), (2, .int (zI i))] → W p l e (rmL 1 0 0) s m args below meth c H locs 0 0 Q0 (F0 m 2 ls []) := by
    intro n9
    induction n9 with
    | zero => intro i hmu; omega
    | succ n9 ih2 =>
      intro i hmu2 hzi hzall H locs ls hP hD hS hl
      refine lv_iload_n hx hb dX0_isLike_2 rfl (lv_at hl 2 rfl) ?_
      refine lv_aload_n hx hb dX0_isLike_3 rfl (lv_at hl 0 rfl) ?_
      refine z_get (k := 0) hF hK hP 0 rfl rfl i_wsX00 (by decide) kf_9 rfl dX0_isLike_4 ?_
      refine z_ilen hF hK hP 1 rfl dX0_isLike_7 ?_
      refine z_tz (b := 52) rfl ?_
      refine z_icmp_ge (tgt := 34) hF dX0_isLike_8 (by decide) (by omega) (by decide) (fun c_1 => ?_) (fun c_1 => ?_)
      · have hc_8 := c_1
        refine z_iconst hF dX0_isLike_34 ?_
        rw [hQ]
        exact z_zret hF hr hlocks rfl () (Or.inl ⟨fun k h0 h1 => hzall k h0 (by omega), rfl⟩) hP hK hD hS dX0_isLike_35
      · have hc_8 := c_1
        refine lv_aload_n hx hb dX0_isLike_11 rfl (lv_at hl 0 rfl) ?_
        refine z_get (k := 0) hF hK hP 0 rfl rfl i_wsX00 (by decide) kf_9 rfl dX0_isLike_12 ?_
        refine lv_iload_n hx hb dX0_isLike_15 rfl (lv_at hl 2 rfl) ?_
        refine z_iald hF hK hP 1 rfl (by omega) rfl dX0_isLike_16 ?_
        refine lv_aload_n hx hb dX0_isLike_17 rfl (lv_at hl 1 rfl) ?_
        refine z_get (k := 0) hF hK hP 2 rfl rfl i_wsX00 (by decide) kf_9 rfl dX0_isLike_18 ?_
        refine lv_iload_n hx hb dX0_isLike_21 rfl (lv_at hl 2 rfl) ?_
        refine z_iald hF hK hP 3 rfl (by omega) rfl dX0_isLike_22 ?_
        refine z_icmp_eq (tgt := 28) hF dX0_isLike_23 (by decide) (by have := hok i; omega) (by have := hok1 i; omega) (fun c_2 => ?_) (fun c_2 => ?_)
        · have hc_23 := c_2
          refine z_iinc (lv' := [(2, .int (zI (i + 1))), (0, .ref h0), (1, .ref h1)]) hF dX0_isLike_28 hl (k := 2) rfl (by decide) rfl (fun ls hl => ?_)
          refine z_goto (tgt := 2) hF dX0_isLike_31 (by decide) ?_
          exact ih2 (i + 1) (by omega) (by omega) (fun k h0 h1 => by first | omega | exact (if h9 : k = i then h9 ▸ hc_23 else hzall k h0 (by omega))) H locs ls hP hD hS (lv_sub hl [1, 2, 0] rfl)
        · have hc_23 := c_2
          refine z_iconst hF dX0_isLike_26 ?_
          rw [hQ]
          exact z_zret hF hr hlocks rfl () (Or.inr ⟨fun h => hc_23 (h i hzi.1 (by omega)), rfl⟩) hP hK hD hS dX0_isLike_27
  exact L2 _ 0 (Nat.lt_succ_self _) (by omega) (fun k h0 h1 => by first | omega | exact (if h9 : k = i then h9 ▸ hc_23 else hzall k h0 (by omega))) H locs ls hP hD hS (lv_sub hl [1, 2, 0] rfl)
set_option maxHeartbeats 4000000 in
set_option maxRecDepth 100000 in
theorem c_X0_total (l : Launch) (G : wG) (h0 a0 : Nat) (b : Int → Int) (sd : Int)  (hsd : 0 ≤ sd ∧ sd ≤ 1) (z9 : Nat) : Met l yX0_total wsX0_total (rmL 2 0 0) (wPc G [(h0, .inr (0, [.ref a0])), (a0, .inl (G.2.1.1, 52, .inl (aI b)))] z9 [.ref h0, .int (zI sd)]) (wQi G (fun (r : Int32) (u : Unit) => r = zI (sz (fun p => b (26 * sd + p)) 26)) (fun (u : Unit) => [(h0, .inr (0, [.ref a0])), (a0, .inl (G.2.1.1, 52, .inl (aI b)))]) (va_A [(h0, .inr (0, [.ref a0])), (a0, .inl (G.2.1.1, 52, .inl (aI b)))] z9)) 0 0 (va_A [(h0, .inr (0, [.ref a0])), (a0, .inl (G.2.1.1, 52, .inl (aI b)))] z9) := by
  refine z_ofW (Qc := fun A => wQi G (fun (r : Int32) (u : Unit) => r = zI (sz (fun p => b (26 * sd + p)) 26)) (fun (u : Unit) => [(h0, .inr (0, [.ref a0])), (a0, .inl (G.2.1.1, 52, .inl (aI b)))]) A) l G [(h0, .inr (0, [.ref a0])), (a0, .inl (G.2.1.1, 52, .inl (aI b)))] [.ref h0, .int (zI sd)] (by decide) rfl rfl ?_ z9
  intro p e s m args below meth c A ls H locs hF hr hlocks hinit hP hK hD hA hS hBd hl
  have hF : wFx p m c cX0_total 4 s args wsX0_total RX0 := hF
  have hl : lv_has ls 4 [(0, .ref h0), (1, .int (zI sd))] := hl
  have hx := hF.1
  have hb := hF.2.1
  obtain ⟨Q0, hQ⟩ : ∃ q, q = (MQ below (wQi G (fun (r : Int32) (u : Unit) => r = zI (sz (fun p => b (26 * sd + p)) 26)) (fun (u : Unit) => [(h0, .inr (0, [.ref a0])), (a0, .inl (G.2.1.1, 52, .inl (aI b)))]) A) args s 0 0 A) := ⟨_, rfl⟩
  rw [← hQ]
  refine z_iconst hF dX0_total_0 ?_
  refine lv_istore_n (lv' := [(2, .int (zI 0)), (0, .ref h0), (1, .int (zI sd))]) hx hb dX0_total_1 rfl hl (by decide) rfl (fun ls hl => ?_)
  refine z_iconst hF dX0_total_2 ?_
  refine lv_istore_n (lv' := [(3, .int (zI 0)), (2, .int (zI 0)), (0, .ref h0), (1, .int (zI sd))]) hx hb dX0_total_3 rfl hl (by decide) rfl (fun ls hl => ?_)
  have L4 : ∀ (n9 : Nat) (i sum : Int), (26 - i).toNat < n9 → (0 ≤ i ∧ i ≤ 26) → sum = sz (fun p => b (26 * sd + p)) i → ∀ (H : Heap) (locs : List Loc) (ls : Array Slot), va_P G.1 vwCl [(h0, .inr (0, [.ref a0])), (a0, .inl (G.2.1.1, 52, .inl (aI b)))] H → va_D A [(h0, .inr (0, [.ref a0])), (a0, .inl (G.2.1.1, 52, .inl (aI b)))] → va_S A s.heap H locs → lv_has ls 4 [(0, .ref h0), (1, .int (zI sd)), (2, .int (zI sum)), (3, .int (zI i))] → W p l e (rmL 2 0 0) s m args below meth c H locs 0 0 Q0 (F0 m 4 ls []) := by
    intro n9
    induction n9 with
    | zero => intro i sum hmu; omega
    | succ n9 ih4 =>
      intro i sum hmu4 hzi hzsum H locs ls hP hD hS hl
      refine lv_iload_n hx hb dX0_total_4 rfl (lv_at hl 3 rfl) ?_
      refine z_bipush hF dX0_total_5 (by decide) ?_
      refine z_icmp_gt (tgt := 25) hF dX0_total_7 (by decide) (by omega) (by decide) (fun c_1 => ?_) (fun c_1 => ?_)
      · have hc_7 := c_1
        refine lv_iload_n hx hb dX0_total_25 rfl (lv_at hl 2 rfl) ?_
        rw [hQ]
        exact z_iret hF hr hlocks () (by rw [hzsum, show i = 26 by omega]) hP hK hD hS dX0_total_26
      · have hc_7 := c_1
        refine lv_iload_n hx hb dX0_total_10 rfl (lv_at hl 2 rfl) ?_
        refine lv_aload_n hx hb dX0_total_11 rfl (lv_at hl 0 rfl) ?_
        refine lv_iload_n hx hb dX0_total_12 rfl (lv_at hl 1 rfl) ?_
        refine lv_iload_n hx hb dX0_total_13 rfl (lv_at hl 3 rfl) ?_
        refine cj_i (va_runV (As := [.int (zI sd), .int (zI i)]) (rest := [.int (zI sum)]) hF (c_X0_at l G h0 a0 b sd i  (by omega) (by omega) H.size) (cwV 2 hF.2.2.2.2 gX0_total_X0_at rfl rfl rfl (by decide +kernel) ⟨Nat.le_of_ble_eq_true rfl, Nat.le_of_ble_eq_true rfl⟩) (z_preV hK hP hD hS hA hBd [0, 1] rfl rfl rfl rfl [.int (zI sd), .int (zI i)]) rfl rfl hl.1 rfl (lv_room (Nat.le_of_ble_eq_true rfl)) dX0_total_14 ⟨Nat.le_of_ble_eq_true rfl, Nat.le_of_ble_eq_true rfl⟩) hP hD hS hA [0, 1] rfl (fun _ => Nat.le_of_ble_eq_true rfl) (fun r_3 u_2 H locs hw hP hD hS => ?_)
        have hP : va_P G.1 vwCl [(h0, .inr (0, [.ref a0])), (a0, .inl (G.2.1.1, 52, .inl (aI b)))] H := hP
        have hD : va_D A [(h0, .inr (0, [.ref a0])), (a0, .inl (G.2.1.1, 52, .inl (aI b)))] := hD
        obtain rfl := hw
        refine z_tz (b := (b (26 * sd + i))) (atB_in (by omega)) ?_
        refine z_iadd hF dX0_total_17 ?_
        refine lv_istore_n (lv' := [(2, .int (zI (sum + (b (26 * sd + i))))), (0, .ref h0), (1, .int (zI sd)), (3, .int (zI i))]) hx hb dX0_total_18 rfl hl (by decide) rfl (fun ls hl => ?_)
        refine z_iinc (lv' := [(3, .int (zI (i + 1))), (2, .int (zI (sum + (b (26 * sd + i))))), (0, .ref h0), (1, .int (zI sd))]) hF dX0_total_19 hl (k := 3) rfl (by decide) rfl (fun ls hl => ?_)
        refine z_goto (tgt := 4) hF dX0_total_22 (by decide) ?_
        exact ih4 (i + 1) (sum + (b (26 * sd + i))) (by omega) (by omega) (by first | rfl | rw [sz_s _ hzi.1, ← hzsum]) H locs ls hP hD hS (lv_sub hl [2, 3, 1, 0] rfl)
  exact L4 _ 0 0 (Nat.lt_succ_self _) (by omega) (by first | rfl | rw [sz_s _ hzi.1, ← hzsum]) H locs ls hP hD hS (lv_sub hl [2, 3, 1, 0] rfl)
set_option maxHeartbeats 4000000 in
set_option maxRecDepth 100000 in
theorem c_X0_pipsOf (l : Launch) (G : wG) (h0 a0 : Nat) (b : Int → Int) (sd : Int)  (hsd : 0 ≤ sd ∧ sd ≤ 1) (z9 : Nat) : Met l yX0_pipsOf wsX0_pipsOf (rmL 2 0 0) (wPc G [(h0, .inr (0, [.ref a0])), (a0, .inl (G.2.1.1, 52, .inl (aI b)))] z9 [.ref h0, .int (zI sd)]) (wQi G (fun (r : Int32) (u : Unit) => r = zI (sz (fun p => p * b (26 * sd + p)) 26)) (fun (u : Unit) => [(h0, .inr (0, [.ref a0])), (a0, .inl (G.2.1.1, 52, .inl (aI b)))]) (va_A [(h0, .inr (0, [.ref a0])), (a0, .inl (G.2.1.1, 52, .inl (aI b)))] z9)) 0 0 (va_A [(h0, .inr (0, [.ref a0])), (a0, .inl (G.2.1.1, 52, .inl (aI b)))] z9) := by
  refine z_ofW (Qc := fun A => wQi G (fun (r : Int32) (u : Unit) => r = zI (sz (fun p => p * b (26 * sd + p)) 26)) (fun (u : Unit) => [(h0, .inr (0, [.ref a0])), (a0, .inl (G.2.1.1, 52, .inl (aI b)))]) A) l G [(h0, .inr (0, [.ref a0])), (a0, .inl (G.2.1.1, 52, .inl (aI b)))] [.ref h0, .int (zI sd)] (by decide) rfl rfl ?_ z9
  intro p e s m args below meth c A ls H locs hF hr hlocks hinit hP hK hD hA hS hBd hl
  have hF : wFx p m c cX0_pipsOf 4 s args wsX0_pipsOf RX0 := hF
  have hl : lv_has ls 4 [(0, .ref h0), (1, .int (zI sd))] := hl
  have hx := hF.1
  have hb := hF.2.1
  obtain ⟨Q0, hQ⟩ : ∃ q, q = (MQ below (wQi G (fun (r : Int32) (u : Unit) => r = zI (sz (fun p => p * b (26 * sd + p)) 26)) (fun (u : Unit) => [(h0, .inr (0, [.ref a0])), (a0, .inl (G.2.1.1, 52, .inl (aI b)))]) A) args s 0 0 A) := ⟨_, rfl⟩
  rw [← hQ]
  refine z_iconst hF dX0_pipsOf_0 ?_
  refine lv_istore_n (lv' := [(2, .int (zI 0)), (0, .ref h0), (1, .int (zI sd))]) hx hb dX0_pipsOf_1 rfl hl (by decide) rfl (fun ls hl => ?_)
  refine z_iconst hF dX0_pipsOf_2 ?_
  refine lv_istore_n (lv' := [(3, .int (zI 1)), (2, .int (zI 0)), (0, .ref h0), (1, .int (zI sd))]) hx hb dX0_pipsOf_3 rfl hl (by decide) rfl (fun ls hl => ?_)
  have L4 : ∀ (n9 : Nat) (i sum : Int), (26 - i).toNat < n9 → (1 ≤ i ∧ i ≤ 26) → sum = sz (fun p => p * b (26 * sd + p)) i → ∀ (H : Heap) (locs : List Loc) (ls : Array Slot), va_P G.1 vwCl [(h0, .inr (0, [.ref a0])), (a0, .inl (G.2.1.1, 52, .inl (aI b)))] H → va_D A [(h0, .inr (0, [.ref a0])), (a0, .inl (G.2.1.1, 52, .inl (aI b)))] → va_S A s.heap H locs → lv_has ls 4 [(0, .ref h0), (1, .int (zI sd)), (2, .int (zI sum)), (3, .int (zI i))] → W p l e (rmL 2 0 0) s m args below meth c H locs 0 0 Q0 (F0 m 4 ls []) := by
    intro n9
    induction n9 with
    | zero => intro i sum hmu; omega
    | succ n9 ih4 =>
      intro i sum hmu4 hzi hzsum H locs ls hP hD hS hl
      refine lv_iload_n hx hb dX0_pipsOf_4 rfl (lv_at hl 3 rfl) ?_
      refine z_bipush hF dX0_pipsOf_5 (by decide) ?_
      refine z_icmp_gt (tgt := 27) hF dX0_pipsOf_7 (by decide) (by omega) (by decide) (fun c_1 => ?_) (fun c_1 => ?_)
      · have hc_7 := c_1
        refine lv_iload_n hx hb dX0_pipsOf_27 rfl (lv_at hl 2 rfl) ?_
        rw [hQ]
        exact z_iret hF hr hlocks () (by rw [hzsum, show i = 26 by omega]) hP hK hD hS dX0_pipsOf_28
      · have hc_7 := c_1
        refine lv_iload_n hx hb dX0_pipsOf_10 rfl (lv_at hl 2 rfl) ?_
        refine lv_iload_n hx hb dX0_pipsOf_11 rfl (lv_at hl 3 rfl) ?_
        refine lv_aload_n hx hb dX0_pipsOf_12 rfl (lv_at hl 0 rfl) ?_
        refine lv_iload_n hx hb dX0_pipsOf_13 rfl (lv_at hl 1 rfl) ?_
        refine lv_iload_n hx hb dX0_pipsOf_14 rfl (lv_at hl 3 rfl) ?_
        refine cj_i (va_runV (As := [.int (zI sd), .int (zI i)]) (rest := [.int (zI i), .int (zI sum)]) hF (c_X0_at l G h0 a0 b sd i  (by omega) (by omega) H.size) (cwV 2 hF.2.2.2.2 gX0_pipsOf_X0_at rfl rfl rfl (by decide +kernel) ⟨Nat.le_of_ble_eq_true rfl, Nat.le_of_ble_eq_true rfl⟩) (z_preV hK hP hD hS hA hBd [0, 1] rfl rfl rfl rfl [.int (zI sd), .int (zI i)]) rfl rfl hl.1 rfl (lv_room (Nat.le_of_ble_eq_true rfl)) dX0_pipsOf_15 ⟨Nat.le_of_ble_eq_true rfl, Nat.le_of_ble_eq_true rfl⟩) hP hD hS hA [0, 1] rfl (fun _ => Nat.le_of_ble_eq_true rfl) (fun r_3 u_2 H locs hw hP hD hS => ?_)
        have hP : va_P G.1 vwCl [(h0, .inr (0, [.ref a0])), (a0, .inl (G.2.1.1, 52, .inl (aI b)))] H := hP
        have hD : va_D A [(h0, .inr (0, [.ref a0])), (a0, .inl (G.2.1.1, 52, .inl (aI b)))] := hD
        obtain rfl := hw
        refine z_tz (b := (b (26 * sd + i))) (atB_in (by omega)) ?_
        refine z_imul hF dX0_pipsOf_18 ?_
        refine z_iadd hF dX0_pipsOf_19 ?_
        refine lv_istore_n (lv' := [(2, .int (zI (sum + (i * (b (26 * sd + i)))))), (0, .ref h0), (1, .int (zI sd)), (3, .int (zI i))]) hx hb dX0_pipsOf_20 rfl hl (by decide) rfl (fun ls hl => ?_)
        refine z_iinc (lv' := [(3, .int (zI (i + 1))), (2, .int (zI (sum + (i * (b (26 * sd + i)))))), (0, .ref h0), (1, .int (zI sd))]) hF dX0_pipsOf_21 hl (k := 3) rfl (by decide) rfl (fun ls hl => ?_)
        refine z_goto (tgt := 4) hF dX0_pipsOf_24 (by decide) ?_
        exact ih4 (i + 1) (sum + (i * (b (26 * sd + i)))) (by omega) (by omega) (by first | (rw [sz_s _ (by omega), ← hzsum]) | (rw [show (1 : Int) = 0 + 1 by rfl, sz_s _ (by omega), sz_0]; omega)) H locs ls hP hD hS (lv_sub hl [2, 3, 1, 0] rfl)
  exact L4 _ 1 0 (Nat.lt_succ_self _) (by omega) (by first | (rw [sz_s _ (by omega), ← hzsum]) | (rw [show (1 : Int) = 0 + 1 by rfl, sz_s _ (by omega), sz_0]; omega)) H locs ls hP hD hS (lv_sub hl [2, 3, 1, 0] rfl)
set_option maxHeartbeats 4000000 in
set_option maxRecDepth 100000 in
theorem c_X0_farthest (l : Launch) (G : wG) (h0 a0 : Nat) (b : Int → Int) (sd : Int)  (hsd : 0 ≤ sd ∧ sd ≤ 1) (hok : okB b) (z9 : Nat) : Met l yX0_farthest wsX0_farthest (rmL 2 0 0) (wPc G [(h0, .inr (0, [.ref a0])), (a0, .inl (G.2.1.1, 52, .inl (aI b)))] z9 [.ref h0, .int (zI sd)]) (wQi G (fun (r : Int32) (u : Unit) => r = zI (far b sd)) (fun (u : Unit) => [(h0, .inr (0, [.ref a0])), (a0, .inl (G.2.1.1, 52, .inl (aI b)))]) (va_A [(h0, .inr (0, [.ref a0])), (a0, .inl (G.2.1.1, 52, .inl (aI b)))] z9)) 0 0 (va_A [(h0, .inr (0, [.ref a0])), (a0, .inl (G.2.1.1, 52, .inl (aI b)))] z9) := by
  refine z_ofW (Qc := fun A => wQi G (fun (r : Int32) (u : Unit) => r = zI (far b sd)) (fun (u : Unit) => [(h0, .inr (0, [.ref a0])), (a0, .inl (G.2.1.1, 52, .inl (aI b)))]) A) l G [(h0, .inr (0, [.ref a0])), (a0, .inl (G.2.1.1, 52, .inl (aI b)))] [.ref h0, .int (zI sd)] (by decide) rfl rfl ?_ z9
  intro p e s m args below meth c A ls H locs hF hr hlocks hinit hP hK hD hA hS hBd hl
  have hF : wFx p m c cX0_farthest 3 s args wsX0_farthest RX0 := hF
  have hl : lv_has ls 3 [(0, .ref h0), (1, .int (zI sd))] := hl
  have hx := hF.1
  have hb := hF.2.1
  obtain ⟨Q0, hQ⟩ : ∃ q, q = (MQ below (wQi G (fun (r : Int32) (u : Unit) => r = zI (far b sd)) (fun (u : Unit) => [(h0, .inr (0, [.ref a0])), (a0, .inl (G.2.1.1, 52, .inl (aI b)))]) A) args s 0 0 A) := ⟨_, rfl⟩
  rw [← hQ]
  refine z_bipush hF dX0_farthest_0 (by decide) ?_
  refine lv_istore_n (lv' := [(2, .int (zI 25)), (0, .ref h0), (1, .int (zI sd))]) hx hb dX0_farthest_2 rfl hl (by decide) rfl (fun ls hl => ?_)
  have L3 : ∀ (n9 : Nat) (i : Int), i.toNat < n9 → (0 ≤ i ∧ i ≤ 25) → far b sd = farZ b sd i → ∀ (H : Heap) (locs : List Loc) (ls : Array Slot), va_P G.1 vwCl [(h0, .inr (0, [.ref a0])), (a0, .inl (G.2.1.1, 52, .inl (aI b)))] H → va_D A [(h0, .inr (0, [.ref a0])), (a0, .inl (G.2.1.1, 52, .inl (aI b)))] → va_S A s.heap H locs → lv_has ls 3 [(0, .ref h0), (1, .int (zI sd)), (2, .int (zI i))] → W p l e (rmL 2 0 0) s m args below meth c H locs 0 0 Q0 (F0 m 3 ls []) := by
    intro n9
    induction n9 with
    | zero => intro i hmu; omega
    | succ n9 ih3 =>
      intro i hmu3 hzi hzfar H locs ls hP hD hS hl
      refine lv_iload_n hx hb dX0_farthest_3 rfl (lv_at hl 2 rfl) ?_
      refine z_iconst hF dX0_farthest_4 ?_
      refine z_icmp_lt (tgt := 25) hF dX0_farthest_5 (by decide) (by omega) (by decide) (fun c_1 => ?_) (fun c_1 => ?_)
      · have hc_5 := c_1
        refine z_iconst hF dX0_farthest_25 ?_
        rw [hQ]
        exact z_iret hF hr hlocks () (by rw [hzfar, farZ_0 (by omega)]) hP hK hD hS dX0_farthest_26
      · have hc_5 := c_1
        refine lv_aload_n hx hb dX0_farthest_8 rfl (lv_at hl 0 rfl) ?_
        refine lv_iload_n hx hb dX0_farthest_9 rfl (lv_at hl 1 rfl) ?_
        refine lv_iload_n hx hb dX0_farthest_10 rfl (lv_at hl 2 rfl) ?_
        refine cj_i (va_runV (As := [.int (zI sd), .int (zI i)]) (rest := []) hF (c_X0_at l G h0 a0 b sd i  (by omega) (by omega) H.size) (cwV 2 hF.2.2.2.2 gX0_farthest_X0_at rfl rfl rfl (by decide +kernel) ⟨Nat.le_of_ble_eq_true rfl, Nat.le_of_ble_eq_true rfl⟩) (z_preV hK hP hD hS hA hBd [0, 1] rfl rfl rfl rfl [.int (zI sd), .int (zI i)]) rfl rfl hl.1 rfl (lv_room (Nat.le_of_ble_eq_true rfl)) dX0_farthest_11 ⟨Nat.le_of_ble_eq_true rfl, Nat.le_of_ble_eq_true rfl⟩) hP hD hS hA [0, 1] rfl (fun _ => Nat.le_of_ble_eq_true rfl) (fun r_3 u_2 H locs hw hP hD hS => ?_)
        have hP : va_P G.1 vwCl [(h0, .inr (0, [.ref a0])), (a0, .inl (G.2.1.1, 52, .inl (aI b)))] H := hP
        have hD : va_D A [(h0, .inr (0, [.ref a0])), (a0, .inl (G.2.1.1, 52, .inl (aI b)))] := hD
        obtain rfl := hw
        refine z_tz (b := (b (26 * sd + i))) (atB_in (by omega)) ?_
        refine z_if_le (tgt := 19) hF dX0_farthest_14 (by decide) (by have := hok (26 * sd + i); omega) (fun c_4 => ?_) (fun c_4 => ?_)
        · have hc_14 := c_4
          refine z_iinc (lv' := [(2, .int (zI (i + (-1)))), (0, .ref h0), (1, .int (zI sd))]) hF dX0_farthest_19 hl (k := 2) rfl (by decide) rfl (fun ls hl => ?_)
          refine z_goto (tgt := 3) hF dX0_farthest_22 (by decide) ?_
          exact ih3 (i + (-1)) (by omega) (by omega) (by first | rfl | (rw [hzfar]; exact farZ_miss (by omega) hc_14)) H locs ls hP hD hS (lv_sub hl [1, 2, 0] rfl)
        · have hc_14 := c_4
          refine lv_iload_n hx hb dX0_farthest_17 rfl (lv_at hl 2 rfl) ?_
          rw [hQ]
          exact z_iret hF hr hlocks () (by rw [hzfar, farZ_hit (by omega) hc_14]) hP hK hD hS dX0_farthest_18
  exact L3 _ 25 (Nat.lt_succ_self _) (by omega) (by first | rfl | (rw [hzfar]; exact farZ_miss (by omega) hc_14)) H locs ls hP hD hS (lv_sub hl [1, 2, 0] rfl)
set_option maxHeartbeats 4000000 in
set_option maxRecDepth 100000 in
theorem c_X0_canStep (l : Launch) (G : wG) (h0 a0 : Nat) (b : Int → Int) (sd fr d : Int)  (hsd : 0 ≤ sd ∧ sd ≤ 1) (hr_fr : -2147483648 ≤ fr ∧ fr < 2147483648) (hr_d : -2147483648 ≤ d ∧ d < 2147483648) (hok : okB b) (z9 : Nat) : Met l yX0_canStep wsX0_canStep (rmL 3 0 0) (wPc G [(h0, .inr (0, [.ref a0])), (a0, .inl (G.2.1.1, 52, .inl (aI b)))] z9 [.ref h0, .int (zI sd), .int (zI fr), .int (zI d)]) (wQi G (fun (r : Int32) (u : Unit) => ((1 ≤ d ∧ d ≤ 6 ∧ canP b sd fr d) ∧ r = zI 1) ∨ ((¬ (1 ≤ d ∧ d ≤ 6 ∧ canP b sd fr d)) ∧ r = zI 0)) (fun (u : Unit) => [(h0, .inr (0, [.ref a0])), (a0, .inl (G.2.1.1, 52, .inl (aI b)))]) (va_A [(h0, .inr (0, [.ref a0])), (a0, .inl (G.2.1.1, 52, .inl (aI b)))] z9)) 0 0 (va_A [(h0, .inr (0, [.ref a0])), (a0, .inl (G.2.1.1, 52, .inl (aI b)))] z9) := by
  refine z_ofW (Qc := fun A => wQi G (fun (r : Int32) (u : Unit) => ((1 ≤ d ∧ d ≤ 6 ∧ canP b sd fr d) ∧ r = zI 1) ∨ ((¬ (1 ≤ d ∧ d ≤ 6 ∧ canP b sd fr d)) ∧ r = zI 0)) (fun (u : Unit) => [(h0, .inr (0, [.ref a0])), (a0, .inl (G.2.1.1, 52, .inl (aI b)))]) A) l G [(h0, .inr (0, [.ref a0])), (a0, .inl (G.2.1.1, 52, .inl (aI b)))] [.ref h0, .int (zI sd), .int (zI fr), .int (zI d)] (by decide) rfl rfl ?_ z9
  intro p e s m args below meth c A ls H locs hF hr hlocks hinit hP hK hD hA hS hBd hl
  have hF : wFx p m c cX0_canStep 5 s args wsX0_canStep RX0 := hF
  have hl : lv_has ls 5 [(0, .ref h0), (1, .int (zI sd)), (2, .int (zI fr)), (3, .int (zI d))] := hl
  have hx := hF.1
  have hb := hF.2.1
  obtain ⟨Q0, hQ⟩ : ∃ q, q = (MQ below (wQi G (fun (r : Int32) (u : Unit) => ((1 ≤ d ∧ d ≤ 6 ∧ canP b sd fr d) ∧ r = zI 1) ∨ ((¬ (1 ≤ d ∧ d ≤ 6 ∧ canP b sd fr d)) ∧ r = zI 0)) (fun (u : Unit) => [(h0, .inr (0, [.ref a0])), (a0, .inl (G.2.1.1, 52, .inl (aI b)))]) A) args s 0 0 A) := ⟨_, rfl⟩
  rw [← hQ]
  refine lv_iload_n hx hb dX0_canStep_0 rfl (lv_at hl 3 rfl) ?_
  refine z_iconst hF dX0_canStep_1 ?_
  refine z_icmp_lt (tgt := 25) hF dX0_canStep_2 (by decide) (by omega) (by decide) (fun c_1 => ?_) (fun c_1 => ?_)
  · have hc_2 := c_1
    refine z_iconst hF dX0_canStep_25 ?_
    rw [hQ]
    exact z_zret hF hr hlocks rfl () (by unfold canP; first | exact Or.inr ⟨by omega, rfl⟩ | exact Or.inl ⟨by omega, rfl⟩) hP hK hD hS dX0_canStep_26
  · have hc_2 := c_1
    refine lv_iload_n hx hb dX0_canStep_5 rfl (lv_at hl 3 rfl) ?_
    refine z_bipush hF dX0_canStep_6 (by decide) ?_
    refine z_icmp_gt (tgt := 25) hF dX0_canStep_8 (by decide) (by omega) (by decide) (fun c_2 => ?_) (fun c_2 => ?_)
    · have hc_8 := c_2
      refine z_iconst hF dX0_canStep_25 ?_
      rw [hQ]
      exact z_zret hF hr hlocks rfl () (by unfold canP; first | exact Or.inr ⟨by omega, rfl⟩ | exact Or.inl ⟨by omega, rfl⟩) hP hK hD hS dX0_canStep_26
    · have hc_8 := c_2
      refine lv_iload_n hx hb dX0_canStep_11 rfl (lv_at hl 2 rfl) ?_
      refine z_iconst hF dX0_canStep_12 ?_
      refine z_icmp_lt (tgt := 25) hF dX0_canStep_13 (by decide) (by omega) (by decide) (fun c_3 => ?_) (fun c_3 => ?_)
      · have hc_13 := c_3
        refine z_iconst hF dX0_canStep_25 ?_
        rw [hQ]
        exact z_zret hF hr hlocks rfl () (by unfold canP; first | exact Or.inr ⟨by omega, rfl⟩ | exact Or.inl ⟨by omega, rfl⟩) hP hK hD hS dX0_canStep_26
      · have hc_13 := c_3
        refine lv_aload_n hx hb dX0_canStep_16 rfl (lv_at hl 0 rfl) ?_
        refine lv_iload_n hx hb dX0_canStep_17 rfl (lv_at hl 1 rfl) ?_
        refine lv_iload_n hx hb dX0_canStep_18 rfl (lv_at hl 2 rfl) ?_
        refine cj_i (va_runV (As := [.int (zI sd), .int (zI fr)]) (rest := []) hF (c_X0_at l G h0 a0 b sd fr  (by omega) (by omega) H.size) (cwV 2 hF.2.2.2.2 gX0_canStep_X0_at rfl rfl rfl (by decide +kernel) ⟨Nat.le_of_ble_eq_true rfl, Nat.le_of_ble_eq_true rfl⟩) (z_preV hK hP hD hS hA hBd [0, 1] rfl rfl rfl rfl [.int (zI sd), .int (zI fr)]) rfl rfl hl.1 rfl (lv_room (Nat.le_of_ble_eq_true rfl)) dX0_canStep_19 ⟨Nat.le_of_ble_eq_true rfl, Nat.le_of_ble_eq_true rfl⟩) hP hD hS hA [0, 1] rfl (fun _ => Nat.le_of_ble_eq_true rfl) (fun r_5 u_4 H locs hw hP hD hS => ?_)
        have hP : va_P G.1 vwCl [(h0, .inr (0, [.ref a0])), (a0, .inl (G.2.1.1, 52, .inl (aI b)))] H := hP
        have hD : va_D A [(h0, .inr (0, [.ref a0])), (a0, .inl (G.2.1.1, 52, .inl (aI b)))] := hD
        obtain rfl := hw
        have q1 := atB_cs b sd fr
        have q2 := hok (26 * sd + fr)
        refine z_if_ne (tgt := 27) hF dX0_canStep_22 (by decide) (by omega) (fun c_6 => ?_) (fun c_6 => ?_)
        · have hc_22 := c_6
          refine lv_iload_n hx hb dX0_canStep_27 rfl (lv_at hl 2 rfl) ?_
          refine z_bipush hF dX0_canStep_28 (by decide) ?_
          refine z_icmp_eq (tgt := 45) hF dX0_canStep_30 (by decide) (by omega) (by decide) (fun c_7 => ?_) (fun c_7 => ?_)
          · have hc_30 := c_7
            refine lv_iload_n hx hb dX0_canStep_45 rfl (lv_at hl 2 rfl) ?_
            refine lv_iload_n hx hb dX0_canStep_46 rfl (lv_at hl 3 rfl) ?_
            refine z_icmp_le (tgt := 73) hF dX0_canStep_47 (by decide) (by omega) (by omega) (fun c_8 => ?_) (fun c_8 => ?_)
            · have hc_47 := c_8
              refine lv_aload_n hx hb dX0_canStep_73 rfl (lv_at hl 0 rfl) ?_
              refine lv_iload_n hx hb dX0_canStep_74 rfl (lv_at hl 1 rfl) ?_
              refine cj_i (va_runV (As := [.int (zI sd)]) (rest := []) hF (c_X0_farthest l G h0 a0 b sd  (by omega) hok H.size) (cwV 1 hF.2.2.2.2 gX0_canStep_X0_farthest rfl rfl rfl (by decide +kernel) ⟨Nat.le_of_ble_eq_true rfl, Nat.le_of_ble_eq_true rfl⟩) (z_preV hK hP hD hS hA hBd [0, 1] rfl rfl rfl rfl [.int (zI sd)]) rfl rfl hl.1 rfl (lv_room (Nat.le_of_ble_eq_true rfl)) dX0_canStep_75 ⟨Nat.le_of_ble_eq_true rfl, Nat.le_of_ble_eq_true rfl⟩) hP hD hS hA [0, 1] rfl (fun _ => Nat.le_of_ble_eq_true rfl) (fun r_10 u_9 H locs hw hP hD hS => ?_)
              have hP : va_P G.1 vwCl [(h0, .inr (0, [.ref a0])), (a0, .inl (G.2.1.1, 52, .inl (aI b)))] H := hP
              have hD : va_D A [(h0, .inr (0, [.ref a0])), (a0, .inl (G.2.1.1, 52, .inl (aI b)))] := hD
              obtain rfl := hw
              have q3 := far_rg b sd
              refine lv_istore (lv' := [(4, .int (zI (far b sd))), (0, .ref h0), (1, .int (zI sd)), (2, .int (zI fr)), (3, .int (zI d))]) hx hb dX0_canStep_78 hl (by decide) rfl (fun ls hl => ?_)
              refine lv_iload hx hb dX0_canStep_80 (lv_at hl 0 rfl) ?_
              refine z_bipush hF dX0_canStep_82 (by decide) ?_
              refine z_icmp_gt (tgt := 102) hF dX0_canStep_84 (by decide) (by omega) (by decide) (fun c_11 => ?_) (fun c_11 => ?_)
              · have hc_84 := c_11
                refine z_iconst hF dX0_canStep_102 ?_
                rw [hQ]
                exact z_zret hF hr hlocks rfl () (by unfold canP; first | exact Or.inr ⟨by omega, rfl⟩ | exact Or.inl ⟨by omega, rfl⟩) hP hK hD hS dX0_canStep_103
              · have hc_84 := c_11
                refine lv_iload_n hx hb dX0_canStep_87 rfl (lv_at hl 3 rfl) ?_
                refine lv_iload_n hx hb dX0_canStep_88 rfl (lv_at hl 4 rfl) ?_
                refine z_icmp_eq (tgt := 98) hF dX0_canStep_89 (by decide) (by omega) (by omega) (fun c_12 => ?_) (fun c_12 => ?_)
                · have hc_89 := c_12
                  refine z_iconst hF dX0_canStep_98 ?_
                  refine z_goto (tgt := 103) hF dX0_canStep_99 (by decide) ?_
                  rw [hQ]
                  exact z_zret hF hr hlocks rfl () (by unfold canP; first | exact Or.inr ⟨by omega, rfl⟩ | exact Or.inl ⟨by omega, rfl⟩) hP hK hD hS dX0_canStep_103
                · have hc_89 := c_12
                  refine lv_iload_n hx hb dX0_canStep_92 rfl (lv_at hl 3 rfl) ?_
                  refine lv_iload hx hb dX0_canStep_93 (lv_at hl 0 rfl) ?_
                  refine z_icmp_ne (tgt := 102) hF dX0_canStep_95 (by decide) (by omega) (by omega) (fun c_13 => ?_) (fun c_13 => ?_)
                  · have hc_95 := c_13
                    refine z_iconst hF dX0_canStep_102 ?_
                    rw [hQ]
                    exact z_zret hF hr hlocks rfl () (by unfold canP; first | exact Or.inr ⟨by omega, rfl⟩ | exact Or.inl ⟨by omega, rfl⟩) hP hK hD hS dX0_canStep_103
                  · have hc_95 := c_13
                    refine z_iconst hF dX0_canStep_98 ?_
                    refine z_goto (tgt := 103) hF dX0_canStep_99 (by decide) ?_
                    rw [hQ]
                    exact z_zret hF hr hlocks rfl () (by unfold canP; first | exact Or.inr ⟨by omega, rfl⟩ | exact Or.inl ⟨by omega, rfl⟩) hP hK hD hS dX0_canStep_103
            · have hc_47 := c_8
              refine lv_aload_n hx hb dX0_canStep_50 rfl (lv_at hl 0 rfl) ?_
              refine z_iconst hF dX0_canStep_51 ?_
              refine lv_iload_n hx hb dX0_canStep_52 rfl (lv_at hl 1 rfl) ?_
              refine z_isub hF dX0_canStep_53 ?_
              refine z_bipush hF dX0_canStep_54 (by decide) ?_
              refine lv_iload_n hx hb dX0_canStep_56 rfl (lv_at hl 2 rfl) ?_
              refine lv_iload_n hx hb dX0_canStep_57 rfl (lv_at hl 3 rfl) ?_
              refine z_isub hF dX0_canStep_58 ?_
              refine z_isub hF dX0_canStep_59 ?_
              refine cj_i (va_runV (As := [.int (zI (1 - sd)), .int (zI (25 - (fr - d)))]) (rest := []) hF (c_X0_at l G h0 a0 b (1 - sd) (25 - (fr - d))  (by omega) (by omega) H.size) (cwV 2 hF.2.2.2.2 gX0_canStep_X0_at rfl rfl rfl (by decide +kernel) ⟨Nat.le_of_ble_eq_true rfl, Nat.le_of_ble_eq_true rfl⟩) (z_preV hK hP hD hS hA hBd [0, 1] rfl rfl rfl rfl [.int (zI (1 - sd)), .int (zI (25 - (fr - d)))]) rfl rfl hl.1 rfl (lv_room (Nat.le_of_ble_eq_true rfl)) dX0_canStep_60 ⟨Nat.le_of_ble_eq_true rfl, Nat.le_of_ble_eq_true rfl⟩) hP hD hS hA [0, 1] rfl (fun _ => Nat.le_of_ble_eq_true rfl) (fun r_15 u_14 H locs hw hP hD hS => ?_)
              have hP : va_P G.1 vwCl [(h0, .inr (0, [.ref a0])), (a0, .inl (G.2.1.1, 52, .inl (aI b)))] H := hP
              have hD : va_D A [(h0, .inr (0, [.ref a0])), (a0, .inl (G.2.1.1, 52, .inl (aI b)))] := hD
              obtain rfl := hw
              refine z_tz (b := (b (26 * (1 - sd) + (25 - (fr - d))))) (atB_in (by omega)) ?_
              refine z_iconst hF dX0_canStep_63 ?_
              refine z_icmp_ge (tgt := 71) hF dX0_canStep_64 (by decide) (by have := hok (26 * (1 - sd) + (25 - (fr - d))); omega) (by decide) (fun c_16 => ?_) (fun c_16 => ?_)
              · have hc_64 := c_16
                refine z_iconst hF dX0_canStep_71 ?_
                rw [hQ]
                exact z_zret hF hr hlocks rfl () (by unfold canP; first | exact Or.inr ⟨by omega, rfl⟩ | exact Or.inl ⟨by omega, rfl⟩) hP hK hD hS dX0_canStep_72
              · have hc_64 := c_16
                refine z_iconst hF dX0_canStep_67 ?_
                refine z_goto (tgt := 72) hF dX0_canStep_68 (by decide) ?_
                rw [hQ]
                exact z_zret hF hr hlocks rfl () (by unfold canP; first | exact Or.inr ⟨by omega, rfl⟩ | exact Or.inl ⟨by omega, rfl⟩) hP hK hD hS dX0_canStep_72
          · have hc_30 := c_7
            refine lv_aload_n hx hb dX0_canStep_33 rfl (lv_at hl 0 rfl) ?_
            refine lv_iload_n hx hb dX0_canStep_34 rfl (lv_at hl 1 rfl) ?_
            refine z_bipush hF dX0_canStep_35 (by decide) ?_
            refine cj_i (va_runV (As := [.int (zI sd), .int (zI 25)]) (rest := []) hF (c_X0_at l G h0 a0 b sd 25  (by omega) (by omega) H.size) (cwV 2 hF.2.2.2.2 gX0_canStep_X0_at rfl rfl rfl (by decide +kernel) ⟨Nat.le_of_ble_eq_true rfl, Nat.le_of_ble_eq_true rfl⟩) (z_preV hK hP hD hS hA hBd [0, 1] rfl rfl rfl rfl [.int (zI sd), .int (zI 25)]) rfl rfl hl.1 rfl (lv_room (Nat.le_of_ble_eq_true rfl)) dX0_canStep_37 ⟨Nat.le_of_ble_eq_true rfl, Nat.le_of_ble_eq_true rfl⟩) hP hD hS hA [0, 1] rfl (fun _ => Nat.le_of_ble_eq_true rfl) (fun r_18 u_17 H locs hw hP hD hS => ?_)
            have hP : va_P G.1 vwCl [(h0, .inr (0, [.ref a0])), (a0, .inl (G.2.1.1, 52, .inl (aI b)))] H := hP
            have hD : va_D A [(h0, .inr (0, [.ref a0])), (a0, .inl (G.2.1.1, 52, .inl (aI b)))] := hD
            obtain rfl := hw
            refine z_tz (b := (b (26 * sd + 25))) (atB_in (by omega)) ?_
            refine z_if_le (tgt := 45) hF dX0_canStep_40 (by decide) (by have := hok (26 * sd + 25); omega) (fun c_19 => ?_) (fun c_19 => ?_)
            · have hc_40 := c_19
              refine lv_iload_n hx hb dX0_canStep_45 rfl (lv_at hl 2 rfl) ?_
              refine lv_iload_n hx hb dX0_canStep_46 rfl (lv_at hl 3 rfl) ?_
              refine z_icmp_le (tgt := 73) hF dX0_canStep_47 (by decide) (by omega) (by omega) (fun c_20 => ?_) (fun c_20 => ?_)
              · have hc_47 := c_20
                refine lv_aload_n hx hb dX0_canStep_73 rfl (lv_at hl 0 rfl) ?_
                refine lv_iload_n hx hb dX0_canStep_74 rfl (lv_at hl 1 rfl) ?_
                refine cj_i (va_runV (As := [.int (zI sd)]) (rest := []) hF (c_X0_farthest l G h0 a0 b sd  (by omega) hok H.size) (cwV 1 hF.2.2.2.2 gX0_canStep_X0_farthest rfl rfl rfl (by decide +kernel) ⟨Nat.le_of_ble_eq_true rfl, Nat.le_of_ble_eq_true rfl⟩) (z_preV hK hP hD hS hA hBd [0, 1] rfl rfl rfl rfl [.int (zI sd)]) rfl rfl hl.1 rfl (lv_room (Nat.le_of_ble_eq_true rfl)) dX0_canStep_75 ⟨Nat.le_of_ble_eq_true rfl, Nat.le_of_ble_eq_true rfl⟩) hP hD hS hA [0, 1] rfl (fun _ => Nat.le_of_ble_eq_true rfl) (fun r_22 u_21 H locs hw hP hD hS => ?_)
                have hP : va_P G.1 vwCl [(h0, .inr (0, [.ref a0])), (a0, .inl (G.2.1.1, 52, .inl (aI b)))] H := hP
                have hD : va_D A [(h0, .inr (0, [.ref a0])), (a0, .inl (G.2.1.1, 52, .inl (aI b)))] := hD
                obtain rfl := hw
                have q3 := far_rg b sd
                refine lv_istore (lv' := [(4, .int (zI (far b sd))), (0, .ref h0), (1, .int (zI sd)), (2, .int (zI fr)), (3, .int (zI d))]) hx hb dX0_canStep_78 hl (by decide) rfl (fun ls hl => ?_)
                refine lv_iload hx hb dX0_canStep_80 (lv_at hl 0 rfl) ?_
                refine z_bipush hF dX0_canStep_82 (by decide) ?_
                refine z_icmp_gt (tgt := 102) hF dX0_canStep_84 (by decide) (by omega) (by decide) (fun c_23 => ?_) (fun c_23 => ?_)
                · have hc_84 := c_23
                  refine z_iconst hF dX0_canStep_102 ?_
                  rw [hQ]
                  exact z_zret hF hr hlocks rfl () (by unfold canP; first | exact Or.inr ⟨by omega, rfl⟩ | exact Or.inl ⟨by omega, rfl⟩) hP hK hD hS dX0_canStep_103
                · have hc_84 := c_23
                  refine lv_iload_n hx hb dX0_canStep_87 rfl (lv_at hl 3 rfl) ?_
                  refine lv_iload_n hx hb dX0_canStep_88 rfl (lv_at hl 4 rfl) ?_
                  refine z_icmp_eq (tgt := 98) hF dX0_canStep_89 (by decide) (by omega) (by omega) (fun c_24 => ?_) (fun c_24 => ?_)
                  · have hc_89 := c_24
                    refine z_iconst hF dX0_canStep_98 ?_
                    refine z_goto (tgt := 103) hF dX0_canStep_99 (by decide) ?_
                    rw [hQ]
                    exact z_zret hF hr hlocks rfl () (by unfold canP; first | exact Or.inr ⟨by omega, rfl⟩ | exact Or.inl ⟨by omega, rfl⟩) hP hK hD hS dX0_canStep_103
                  · have hc_89 := c_24
                    refine lv_iload_n hx hb dX0_canStep_92 rfl (lv_at hl 3 rfl) ?_
                    refine lv_iload hx hb dX0_canStep_93 (lv_at hl 0 rfl) ?_
                    refine z_icmp_ne (tgt := 102) hF dX0_canStep_95 (by decide) (by omega) (by omega) (fun c_25 => ?_) (fun c_25 => ?_)
                    · have hc_95 := c_25
                      refine z_iconst hF dX0_canStep_102 ?_
                      rw [hQ]
                      exact z_zret hF hr hlocks rfl () (by unfold canP; first | exact Or.inr ⟨by omega, rfl⟩ | exact Or.inl ⟨by omega, rfl⟩) hP hK hD hS dX0_canStep_103
                    · have hc_95 := c_25
                      refine z_iconst hF dX0_canStep_98 ?_
                      refine z_goto (tgt := 103) hF dX0_canStep_99 (by decide) ?_
                      rw [hQ]
                      exact z_zret hF hr hlocks rfl () (by unfold canP; first | exact Or.inr ⟨by omega, rfl⟩ | exact Or.inl ⟨by omega, rfl⟩) hP hK hD hS dX0_canStep_103
              · have hc_47 := c_20
                refine lv_aload_n hx hb dX0_canStep_50 rfl (lv_at hl 0 rfl) ?_
                refine z_iconst hF dX0_canStep_51 ?_
                refine lv_iload_n hx hb dX0_canStep_52 rfl (lv_at hl 1 rfl) ?_
                refine z_isub hF dX0_canStep_53 ?_
                refine z_bipush hF dX0_canStep_54 (by decide) ?_
                refine lv_iload_n hx hb dX0_canStep_56 rfl (lv_at hl 2 rfl) ?_
                refine lv_iload_n hx hb dX0_canStep_57 rfl (lv_at hl 3 rfl) ?_
                refine z_isub hF dX0_canStep_58 ?_
                refine z_isub hF dX0_canStep_59 ?_
                refine cj_i (va_runV (As := [.int (zI (1 - sd)), .int (zI (25 - (fr - d)))]) (rest := []) hF (c_X0_at l G h0 a0 b (1 - sd) (25 - (fr - d))  (by omega) (by omega) H.size) (cwV 2 hF.2.2.2.2 gX0_canStep_X0_at rfl rfl rfl (by decide +kernel) ⟨Nat.le_of_ble_eq_true rfl, Nat.le_of_ble_eq_true rfl⟩) (z_preV hK hP hD hS hA hBd [0, 1] rfl rfl rfl rfl [.int (zI (1 - sd)), .int (zI (25 - (fr - d)))]) rfl rfl hl.1 rfl (lv_room (Nat.le_of_ble_eq_true rfl)) dX0_canStep_60 ⟨Nat.le_of_ble_eq_true rfl, Nat.le_of_ble_eq_true rfl⟩) hP hD hS hA [0, 1] rfl (fun _ => Nat.le_of_ble_eq_true rfl) (fun r_27 u_26 H locs hw hP hD hS => ?_)
                have hP : va_P G.1 vwCl [(h0, .inr (0, [.ref a0])), (a0, .inl (G.2.1.1, 52, .inl (aI b)))] H := hP
                have hD : va_D A [(h0, .inr (0, [.ref a0])), (a0, .inl (G.2.1.1, 52, .inl (aI b)))] := hD
                obtain rfl := hw
                refine z_tz (b := (b (26 * (1 - sd) + (25 - (fr - d))))) (atB_in (by omega)) ?_
                refine z_iconst hF dX0_canStep_63 ?_
                refine z_icmp_ge (tgt := 71) hF dX0_canStep_64 (by decide) (by have := hok (26 * (1 - sd) + (25 - (fr - d))); omega) (by decide) (fun c_28 => ?_) (fun c_28 => ?_)
                · have hc_64 := c_28
                  refine z_iconst hF dX0_canStep_71 ?_
                  rw [hQ]
                  exact z_zret hF hr hlocks rfl () (by unfold canP; first | exact Or.inr ⟨by omega, rfl⟩ | exact Or.inl ⟨by omega, rfl⟩) hP hK hD hS dX0_canStep_72
                · have hc_64 := c_28
                  refine z_iconst hF dX0_canStep_67 ?_
                  refine z_goto (tgt := 72) hF dX0_canStep_68 (by decide) ?_
                  rw [hQ]
                  exact z_zret hF hr hlocks rfl () (by unfold canP; first | exact Or.inr ⟨by omega, rfl⟩ | exact Or.inl ⟨by omega, rfl⟩) hP hK hD hS dX0_canStep_72
            · have hc_40 := c_19
              refine z_iconst hF dX0_canStep_43 ?_
              rw [hQ]
              exact z_zret hF hr hlocks rfl () (by unfold canP; first | exact Or.inr ⟨by omega, rfl⟩ | exact Or.inl ⟨by omega, rfl⟩) hP hK hD hS dX0_canStep_44
        · have hc_22 := c_6
          refine z_iconst hF dX0_canStep_25 ?_
          rw [hQ]
          exact z_zret hF hr hlocks rfl () (by unfold canP; first | exact Or.inr ⟨by omega, rfl⟩ | exact Or.inl ⟨by omega, rfl⟩) hP hK hD hS dX0_canStep_26
set_option maxHeartbeats 4000000 in
set_option maxRecDepth 100000 in
theorem c_X0_step (l : Launch) (G : wG) (h0 a0 : Nat) (b : Int → Int) (sd fr d : Int)  (hsd : 0 ≤ sd ∧ sd ≤ 1) (hfr : 1 ≤ fr ∧ fr ≤ 25) (hd6 : 1 ≤ d ∧ d ≤ 6) (hok : okB b) (z9 : Nat) : Met l yX0_step wsX0_step (rmL 2 0 0) (wPc G [(h0, .inr (0, [.ref a0])), (a0, .inl (G.2.1.1, 52, .inl (aI b)))] z9 [.ref h0, .int (zI sd), .int (zI fr), .int (zI d)]) (wQi G (fun (r : Int32) (u : Unit) => r = zI (hwB b sd fr d)) (fun (u : Unit) => [(h0, .inr (0, [.ref a0])), (a0, .inl (G.2.1.1, 52, .inl (aI (stp b sd fr d))))]) (va_A [(h0, .inr (0, [.ref a0])), (a0, .inl (G.2.1.1, 52, .inl (aI b)))] z9)) 0 0 (va_A [(h0, .inr (0, [.ref a0])), (a0, .inl (G.2.1.1, 52, .inl (aI b)))] z9) := by
  refine z_ofW (Qc := fun A => wQi G (fun (r : Int32) (u : Unit) => r = zI (hwB b sd fr d)) (fun (u : Unit) => [(h0, .inr (0, [.ref a0])), (a0, .inl (G.2.1.1, 52, .inl (aI (stp b sd fr d))))]) A) l G [(h0, .inr (0, [.ref a0])), (a0, .inl (G.2.1.1, 52, .inl (aI b)))] [.ref h0, .int (zI sd), .int (zI fr), .int (zI d)] (by decide) rfl rfl ?_ z9
  intro p e s m args below meth c A ls H locs hF hr hlocks hinit hP hK hD hA hS hBd hl
  have hF : wFx p m c cX0_step 5 s args wsX0_step RX0 := hF
  have hl : lv_has ls 5 [(0, .ref h0), (1, .int (zI sd)), (2, .int (zI fr)), (3, .int (zI d))] := hl
  have hx := hF.1
  have hb := hF.2.1
  obtain ⟨Q0, hQ⟩ : ∃ q, q = (MQ below (wQi G (fun (r : Int32) (u : Unit) => r = zI (hwB b sd fr d)) (fun (u : Unit) => [(h0, .inr (0, [.ref a0])), (a0, .inl (G.2.1.1, 52, .inl (aI (stp b sd fr d))))]) A) args s 0 0 A) := ⟨_, rfl⟩
  rw [← hQ]
  have km_33 : (Cond.methodLink RX0 33 Lib.Math.max.name).before args s = true := hF.2.2.2.2 _ (List.mem_cons_of_mem _ (List.mem_append_left _ (List.mem_of_getElem? (i := 0) rfl)))
  have kq_max : (Cond.code Lib.Math.max.name Lib.Math.max.code 2 (some .int)).before args s = true := hF.2.2.2.2 _ (List.mem_cons_of_mem _ (List.mem_append_left _ (List.mem_of_getElem? (i := 3) rfl)))
  have ks_max : (Cond.static Lib.Math.max.name).before args s = true := hF.2.2.2.2 _ (List.mem_cons_of_mem _ (List.mem_append_left _ (List.mem_of_getElem? (i := 1) rfl)))
  have kt_Math : (Cond.initialized "java/lang/Math").before args s = true := hF.2.2.2.2 _ (List.mem_cons_of_mem _ (List.mem_append_left _ (List.mem_of_getElem? (i := 2) rfl)))
  have qt : (d < fr ∧ toP fr d = fr - d) ∨ (fr ≤ d ∧ toP fr d = 0) := by unfold toP; split <;> omega
  refine lv_iload_n hx hb dX0_step_0 rfl (lv_at hl 2 rfl) ?_
  refine lv_iload_n hx hb dX0_step_1 rfl (lv_at hl 3 rfl) ?_
  refine z_isub hF dX0_step_2 ?_
  refine z_iconst hF dX0_step_3 ?_
  refine z_max hF km_33 ks_max kt_Math kq_max hl.1 (Nat.le_of_ble_eq_true rfl) (Nat.le_of_ble_eq_true rfl) (Nat.le_of_ble_eq_true rfl) (Nat.le_of_ble_eq_true rfl) (by omega) (by decide) dX0_step_4 ?_
  refine z_tz (b := (toP fr d)) (zmax_to fr d) ?_
  refine lv_istore (lv' := [(4, .int (zI (toP fr d))), (0, .ref h0), (1, .int (zI sd)), (2, .int (zI fr)), (3, .int (zI d))]) hx hb dX0_step_7 hl (by decide) rfl (fun ls hl => ?_)
  refine lv_aload_n hx hb dX0_step_9 rfl (lv_at hl 1 rfl) ?_
  refine lv_iload_n hx hb dX0_step_10 rfl (lv_at hl 2 rfl) ?_
  refine lv_iload_n hx hb dX0_step_11 rfl (lv_at hl 3 rfl) ?_
  refine z_iconst hF dX0_step_12 ?_
  refine cj_v (va_runV (As := [.int (zI sd), .int (zI fr), .int (zI (-1))]) (rest := []) hF (c_X0_add l G h0 a0 b sd fr (-1)  (by omega) (by omega) H.size) (cwV 3 hF.2.2.2.2 gX0_step_X0_add rfl rfl rfl (by decide +kernel) ⟨Nat.le_of_ble_eq_true rfl, Nat.le_of_ble_eq_true rfl⟩) (z_preV hK hP hD hS hA hBd [0, 1] rfl rfl rfl rfl [.int (zI sd), .int (zI fr), .int (zI (-1))]) rfl rfl hl.1 rfl (lv_room (Nat.le_of_ble_eq_true rfl)) dX0_step_13 ⟨Nat.le_of_ble_eq_true rfl, Nat.le_of_ble_eq_true rfl⟩) hP hD hS hA [0, 1] rfl (fun _ => Nat.le_of_ble_eq_true rfl) (fun u_1 H locs hw hP hD hS => ?_)
  have hP : va_P G.1 vwCl [(h0, .inr (0, [.ref a0])), (a0, .inl (G.2.1.1, 52, .inl (aI (up b (26 * sd + fr) (b (26 * sd + fr) + (-1))))))] H := hP
  have hD : va_D A [(h0, .inr (0, [.ref a0])), (a0, .inl (G.2.1.1, 52, .inl (aI (up b (26 * sd + fr) (b (26 * sd + fr) + (-1))))))] := hD
  obtain - := hw
  refine lv_aload_n hx hb dX0_step_16 rfl (lv_at hl 1 rfl) ?_
  refine lv_iload_n hx hb dX0_step_17 rfl (lv_at hl 2 rfl) ?_
  refine lv_iload hx hb dX0_step_18 (lv_at hl 0 rfl) ?_
  refine z_iconst hF dX0_step_20 ?_
  refine cj_v (va_runV (As := [.int (zI sd), .int (zI (toP fr d)), .int (zI 1)]) (rest := []) hF (c_X0_add l G h0 a0 (up b (26 * sd + fr) (b (26 * sd + fr) + (-1))) sd (toP fr d) 1  (by omega) (by omega) H.size) (cwV 3 hF.2.2.2.2 gX0_step_X0_add rfl rfl rfl (by decide +kernel) ⟨Nat.le_of_ble_eq_true rfl, Nat.le_of_ble_eq_true rfl⟩) (z_preV hK hP hD hS hA hBd [0, 1] rfl rfl rfl rfl [.int (zI sd), .int (zI (toP fr d)), .int (zI 1)]) rfl rfl hl.1 rfl (lv_room (Nat.le_of_ble_eq_true rfl)) dX0_step_21 ⟨Nat.le_of_ble_eq_true rfl, Nat.le_of_ble_eq_true rfl⟩) hP hD hS hA [0, 1] rfl (fun _ => Nat.le_of_ble_eq_true rfl) (fun u_3 H locs hw hP hD hS => ?_)
  have hP : va_P G.1 vwCl [(h0, .inr (0, [.ref a0])), (a0, .inl (G.2.1.1, 52, .inl (aI (up (up b (26 * sd + fr) (b (26 * sd + fr) + (-1))) (26 * sd + (toP fr d)) ((up b (26 * sd + fr) (b (26 * sd + fr) + (-1))) (26 * sd + (toP fr d)) + 1)))))] H := hP
  have hD : va_D A [(h0, .inr (0, [.ref a0])), (a0, .inl (G.2.1.1, 52, .inl (aI (up (up b (26 * sd + fr) (b (26 * sd + fr) + (-1))) (26 * sd + (toP fr d)) ((up b (26 * sd + fr) (b (26 * sd + fr) + (-1))) (26 * sd + (toP fr d)) + 1)))))] := hD
  obtain - := hw
  refine lv_iload hx hb dX0_step_24 (lv_at hl 0 rfl) ?_
  refine z_if_eq (tgt := 44) hF dX0_step_26 (by decide) (by omega) (fun c_5 => ?_) (fun c_5 => ?_)
  · have hc_26 := c_5
    refine z_iconst hF dX0_step_44 ?_
    have hnh : ¬ hitP b sd fr d := fun h9 => by first | exact h9.2 ((bx (by omega)).trans hc_41) | (have := h9.1; omega)
    rw [show (up (up b (26 * sd + fr) (b (26 * sd + fr) + (-1))) (26 * sd + (toP fr d)) ((up b (26 * sd + fr) (b (26 * sd + fr) + (-1))) (26 * sd + (toP fr d)) + 1)) = stp b sd fr d from (stp_f hnh).symm] at hP hD
    rw [hQ]
    exact z_zret hF hr hlocks rfl () (zI_congr (hwB_f hnh).symm) hP hK hD hS dX0_step_45
  · have hc_26 := c_5
    refine lv_aload_n hx hb dX0_step_29 rfl (lv_at hl 1 rfl) ?_
    refine z_iconst hF dX0_step_30 ?_
    refine lv_iload_n hx hb dX0_step_31 rfl (lv_at hl 2 rfl) ?_
    refine z_isub hF dX0_step_32 ?_
    refine z_bipush hF dX0_step_33 (by decide) ?_
    refine lv_iload hx hb dX0_step_35 (lv_at hl 0 rfl) ?_
    refine z_isub hF dX0_step_37 ?_
    refine cj_i (va_runV (As := [.int (zI (1 - sd)), .int (zI (25 - (toP fr d)))]) (rest := []) hF (c_X0_at l G h0 a0 (up (up b (26 * sd + fr) (b (26 * sd + fr) + (-1))) (26 * sd + (toP fr d)) ((up b (26 * sd + fr) (b (26 * sd + fr) + (-1))) (26 * sd + (toP fr d)) + 1)) (1 - sd) (25 - (toP fr d))  (by omega) (by omega) H.size) (cwV 2 hF.2.2.2.2 gX0_step_X0_at rfl rfl rfl (by decide +kernel) ⟨Nat.le_of_ble_eq_true rfl, Nat.le_of_ble_eq_true rfl⟩) (z_preV hK hP hD hS hA hBd [0, 1] rfl rfl rfl rfl [.int (zI (1 - sd)), .int (zI (25 - (toP fr d)))]) rfl rfl hl.1 rfl (lv_room (Nat.le_of_ble_eq_true rfl)) dX0_step_38 ⟨Nat.le_of_ble_eq_true rfl, Nat.le_of_ble_eq_true rfl⟩) hP hD hS hA [0, 1] rfl (fun _ => Nat.le_of_ble_eq_true rfl) (fun r_7 u_6 H locs hw hP hD hS => ?_)
    have hP : va_P G.1 vwCl [(h0, .inr (0, [.ref a0])), (a0, .inl (G.2.1.1, 52, .inl (aI (up (up b (26 * sd + fr) (b (26 * sd + fr) + (-1))) (26 * sd + (toP fr d)) ((up b (26 * sd + fr) (b (26 * sd + fr) + (-1))) (26 * sd + (toP fr d)) + 1)))))] H := hP
    have hD : va_D A [(h0, .inr (0, [.ref a0])), (a0, .inl (G.2.1.1, 52, .inl (aI (up (up b (26 * sd + fr) (b (26 * sd + fr) + (-1))) (26 * sd + (toP fr d)) ((up b (26 * sd + fr) (b (26 * sd + fr) + (-1))) (26 * sd + (toP fr d)) + 1)))))] := hD
    obtain rfl := hw
    refine z_tz (b := (b (26 * (1 - sd) + (25 - toP fr d)))) ((atB_in (by omega)).trans (mvB_o hsd (by omega) (by omega) (by omega))) ?_
    refine z_if_ne (tgt := 46) hF dX0_step_41 (by decide) (by have := hok (26 * (1 - sd) + (25 - toP fr d)); omega) (fun c_8 => ?_) (fun c_8 => ?_)
    · have hc_41 := c_8
      refine lv_aload_n hx hb dX0_step_46 rfl (lv_at hl 1 rfl) ?_
      refine z_iconst hF dX0_step_47 ?_
      refine lv_iload_n hx hb dX0_step_48 rfl (lv_at hl 2 rfl) ?_
      refine z_isub hF dX0_step_49 ?_
      refine z_bipush hF dX0_step_50 (by decide) ?_
      refine lv_iload hx hb dX0_step_52 (lv_at hl 0 rfl) ?_
      refine z_isub hF dX0_step_54 ?_
      refine z_iconst hF dX0_step_55 ?_
      refine cj_v (va_runV (As := [.int (zI (1 - sd)), .int (zI (25 - (toP fr d))), .int (zI (-1))]) (rest := []) hF (c_X0_add l G h0 a0 (up (up b (26 * sd + fr) (b (26 * sd + fr) + (-1))) (26 * sd + (toP fr d)) ((up b (26 * sd + fr) (b (26 * sd + fr) + (-1))) (26 * sd + (toP fr d)) + 1)) (1 - sd) (25 - (toP fr d)) (-1)  (by omega) (by omega) H.size) (cwV 3 hF.2.2.2.2 gX0_step_X0_add rfl rfl rfl (by decide +kernel) ⟨Nat.le_of_ble_eq_true rfl, Nat.le_of_ble_eq_true rfl⟩) (z_preV hK hP hD hS hA hBd [0, 1] rfl rfl rfl rfl [.int (zI (1 - sd)), .int (zI (25 - (toP fr d))), .int (zI (-1))]) rfl rfl hl.1 rfl (lv_room (Nat.le_of_ble_eq_true rfl)) dX0_step_56 ⟨Nat.le_of_ble_eq_true rfl, Nat.le_of_ble_eq_true rfl⟩) hP hD hS hA [0, 1] rfl (fun _ => Nat.le_of_ble_eq_true rfl) (fun u_9 H locs hw hP hD hS => ?_)
      have hP : va_P G.1 vwCl [(h0, .inr (0, [.ref a0])), (a0, .inl (G.2.1.1, 52, .inl (aI (up (up (up b (26 * sd + fr) (b (26 * sd + fr) + (-1))) (26 * sd + (toP fr d)) ((up b (26 * sd + fr) (b (26 * sd + fr) + (-1))) (26 * sd + (toP fr d)) + 1)) (26 * (1 - sd) + (25 - (toP fr d))) ((up (up b (26 * sd + fr) (b (26 * sd + fr) + (-1))) (26 * sd + (toP fr d)) ((up b (26 * sd + fr) (b (26 * sd + fr) + (-1))) (26 * sd + (toP fr d)) + 1)) (26 * (1 - sd) + (25 - (toP fr d))) + (-1))))))] H := hP
      have hD : va_D A [(h0, .inr (0, [.ref a0])), (a0, .inl (G.2.1.1, 52, .inl (aI (up (up (up b (26 * sd + fr) (b (26 * sd + fr) + (-1))) (26 * sd + (toP fr d)) ((up b (26 * sd + fr) (b (26 * sd + fr) + (-1))) (26 * sd + (toP fr d)) + 1)) (26 * (1 - sd) + (25 - (toP fr d))) ((up (up b (26 * sd + fr) (b (26 * sd + fr) + (-1))) (26 * sd + (toP fr d)) ((up b (26 * sd + fr) (b (26 * sd + fr) + (-1))) (26 * sd + (toP fr d)) + 1)) (26 * (1 - sd) + (25 - (toP fr d))) + (-1))))))] := hD
      obtain - := hw
      refine lv_aload_n hx hb dX0_step_59 rfl (lv_at hl 1 rfl) ?_
      refine z_iconst hF dX0_step_60 ?_
      refine lv_iload_n hx hb dX0_step_61 rfl (lv_at hl 2 rfl) ?_
      refine z_isub hF dX0_step_62 ?_
      refine z_bipush hF dX0_step_63 (by decide) ?_
      refine z_iconst hF dX0_step_65 ?_
      refine cj_v (va_runV (As := [.int (zI (1 - sd)), .int (zI 25), .int (zI 1)]) (rest := []) hF (c_X0_add l G h0 a0 (up (up (up b (26 * sd + fr) (b (26 * sd + fr) + (-1))) (26 * sd + (toP fr d)) ((up b (26 * sd + fr) (b (26 * sd + fr) + (-1))) (26 * sd + (toP fr d)) + 1)) (26 * (1 - sd) + (25 - (toP fr d))) ((up (up b (26 * sd + fr) (b (26 * sd + fr) + (-1))) (26 * sd + (toP fr d)) ((up b (26 * sd + fr) (b (26 * sd + fr) + (-1))) (26 * sd + (toP fr d)) + 1)) (26 * (1 - sd) + (25 - (toP fr d))) + (-1))) (1 - sd) 25 1  (by omega) (by omega) H.size) (cwV 3 hF.2.2.2.2 gX0_step_X0_add rfl rfl rfl (by decide +kernel) ⟨Nat.le_of_ble_eq_true rfl, Nat.le_of_ble_eq_true rfl⟩) (z_preV hK hP hD hS hA hBd [0, 1] rfl rfl rfl rfl [.int (zI (1 - sd)), .int (zI 25), .int (zI 1)]) rfl rfl hl.1 rfl (lv_room (Nat.le_of_ble_eq_true rfl)) dX0_step_66 ⟨Nat.le_of_ble_eq_true rfl, Nat.le_of_ble_eq_true rfl⟩) hP hD hS hA [0, 1] rfl (fun _ => Nat.le_of_ble_eq_true rfl) (fun u_11 H locs hw hP hD hS => ?_)
      have hP : va_P G.1 vwCl [(h0, .inr (0, [.ref a0])), (a0, .inl (G.2.1.1, 52, .inl (aI (up (up (up (up b (26 * sd + fr) (b (26 * sd + fr) + (-1))) (26 * sd + (toP fr d)) ((up b (26 * sd + fr) (b (26 * sd + fr) + (-1))) (26 * sd + (toP fr d)) + 1)) (26 * (1 - sd) + (25 - (toP fr d))) ((up (up b (26 * sd + fr) (b (26 * sd + fr) + (-1))) (26 * sd + (toP fr d)) ((up b (26 * sd + fr) (b (26 * sd + fr) + (-1))) (26 * sd + (toP fr d)) + 1)) (26 * (1 - sd) + (25 - (toP fr d))) + (-1))) (26 * (1 - sd) + 25) ((up (up (up b (26 * sd + fr) (b (26 * sd + fr) + (-1))) (26 * sd + (toP fr d)) ((up b (26 * sd + fr) (b (26 * sd + fr) + (-1))) (26 * sd + (toP fr d)) + 1)) (26 * (1 - sd) + (25 - (toP fr d))) ((up (up b (26 * sd + fr) (b (26 * sd + fr) + (-1))) (26 * sd + (toP fr d)) ((up b (26 * sd + fr) (b (26 * sd + fr) + (-1))) (26 * sd + (toP fr d)) + 1)) (26 * (1 - sd) + (25 - (toP fr d))) + (-1))) (26 * (1 - sd) + 25) + 1)))))] H := hP
      have hD : va_D A [(h0, .inr (0, [.ref a0])), (a0, .inl (G.2.1.1, 52, .inl (aI (up (up (up (up b (26 * sd + fr) (b (26 * sd + fr) + (-1))) (26 * sd + (toP fr d)) ((up b (26 * sd + fr) (b (26 * sd + fr) + (-1))) (26 * sd + (toP fr d)) + 1)) (26 * (1 - sd) + (25 - (toP fr d))) ((up (up b (26 * sd + fr) (b (26 * sd + fr) + (-1))) (26 * sd + (toP fr d)) ((up b (26 * sd + fr) (b (26 * sd + fr) + (-1))) (26 * sd + (toP fr d)) + 1)) (26 * (1 - sd) + (25 - (toP fr d))) + (-1))) (26 * (1 - sd) + 25) ((up (up (up b (26 * sd + fr) (b (26 * sd + fr) + (-1))) (26 * sd + (toP fr d)) ((up b (26 * sd + fr) (b (26 * sd + fr) + (-1))) (26 * sd + (toP fr d)) + 1)) (26 * (1 - sd) + (25 - (toP fr d))) ((up (up b (26 * sd + fr) (b (26 * sd + fr) + (-1))) (26 * sd + (toP fr d)) ((up b (26 * sd + fr) (b (26 * sd + fr) + (-1))) (26 * sd + (toP fr d)) + 1)) (26 * (1 - sd) + (25 - (toP fr d))) + (-1))) (26 * (1 - sd) + 25) + 1)))))] := hD
      obtain - := hw
      refine z_iconst hF dX0_step_69 ?_
      have hh : hitP b sd fr d := ⟨by omega, fun h9 => hc_41 ((bx (by omega)).trans h9)⟩
      rw [show (up (up (up (up b (26 * sd + fr) (b (26 * sd + fr) + (-1))) (26 * sd + (toP fr d)) ((up b (26 * sd + fr) (b (26 * sd + fr) + (-1))) (26 * sd + (toP fr d)) + 1)) (26 * (1 - sd) + (25 - (toP fr d))) ((up (up b (26 * sd + fr) (b (26 * sd + fr) + (-1))) (26 * sd + (toP fr d)) ((up b (26 * sd + fr) (b (26 * sd + fr) + (-1))) (26 * sd + (toP fr d)) + 1)) (26 * (1 - sd) + (25 - (toP fr d))) + (-1))) (26 * (1 - sd) + 25) ((up (up (up b (26 * sd + fr) (b (26 * sd + fr) + (-1))) (26 * sd + (toP fr d)) ((up b (26 * sd + fr) (b (26 * sd + fr) + (-1))) (26 * sd + (toP fr d)) + 1)) (26 * (1 - sd) + (25 - (toP fr d))) ((up (up b (26 * sd + fr) (b (26 * sd + fr) + (-1))) (26 * sd + (toP fr d)) ((up b (26 * sd + fr) (b (26 * sd + fr) + (-1))) (26 * sd + (toP fr d)) + 1)) (26 * (1 - sd) + (25 - (toP fr d))) + (-1))) (26 * (1 - sd) + 25) + 1)) = stp b sd fr d from (stp_t hh).symm] at hP hD
      rw [hQ]
      exact z_zret hF hr hlocks rfl () (zI_congr (hwB_t hh).symm) hP hK hD hS dX0_step_70
    · have hc_41 := c_8
      refine z_iconst hF dX0_step_44 ?_
      have hnh : ¬ hitP b sd fr d := fun h9 => by first | exact h9.2 ((bx (by omega)).trans hc_41) | (have := h9.1; omega)
      rw [show (up (up b (26 * sd + fr) (b (26 * sd + fr) + (-1))) (26 * sd + (toP fr d)) ((up b (26 * sd + fr) (b (26 * sd + fr) + (-1))) (26 * sd + (toP fr d)) + 1)) = stp b sd fr d from (stp_f hnh).symm] at hP hD
      rw [hQ]
      exact z_zret hF hr hlocks rfl () (zI_congr (hwB_f hnh).symm) hP hK hD hS dX0_step_45
