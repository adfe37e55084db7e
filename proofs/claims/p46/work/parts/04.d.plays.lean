set_option maxHeartbeats 4000000 in
set_option maxRecDepth 100000 in
theorem c_X5_count (l : Launch) (G : wG) (h0 tk r0 w0 c1 i0 p0 : Nat) (sd cnt ln gr : Int)  (z9 : Nat) : Met l yX5_count wsX5_count (rmL 1 0 0) (wPc G [(h0, .inr (5, [.ref tk, .ref r0, .ref w0, .ref c1, .ref i0, .ref p0, .int (zI sd), .int (zI cnt), .int (zI ln), .int (zI gr)]))] z9 [.ref h0]) (wQi G (fun (r : Int32) (u : Unit) => r = zI cnt) (fun (u : Unit) => [(h0, .inr (5, [.ref tk, .ref r0, .ref w0, .ref c1, .ref i0, .ref p0, .int (zI sd), .int (zI cnt), .int (zI ln), .int (zI gr)]))]) (va_A [(h0, .inr (5, [.ref tk, .ref r0, .ref w0, .ref c1, .ref i0, .ref p0, .int (zI sd), .int (zI cnt), .int (zI ln), .int (zI gr)]))] z9)) 0 0 (va_A [(h0, .inr (5, [.ref tk, .ref r0, .ref w0, .ref c1, .ref i0, .ref p0, .int (zI sd), .int (zI cnt), .int (zI ln), .int (zI gr)]))] z9) := by
  refine z_ofW (Qc := fun A => wQi G (fun (r : Int32) (u : Unit) => r = zI cnt) (fun (u : Unit) => [(h0, .inr (5, [.ref tk, .ref r0, .ref w0, .ref c1, .ref i0, .ref p0, .int (zI sd), .int (zI cnt), .int (zI ln), .int (zI gr)]))]) A) l G [(h0, .inr (5, [.ref tk, .ref r0, .ref w0, .ref c1, .ref i0, .ref p0, .int (zI sd), .int (zI cnt), .int (zI ln), .int (zI gr)]))] [.ref h0] (by decide) rfl rfl ?_ z9
  intro p e s m args below meth c A ls H locs hF hr hlocks hinit hP hK hD hA hS hBd hl
  have hF : wFx p m c cX5_count 1 s args wsX5_count RX5 := hF
  have hl : lv_has ls 1 [(0, .ref h0)] := hl
  have hx := hF.1
  have hb := hF.2.1
  obtain ⟨Q0, hQ⟩ : ∃ q, q = (MQ below (wQi G (fun (r : Int32) (u : Unit) => r = zI cnt) (fun (u : Unit) => [(h0, .inr (5, [.ref tk, .ref r0, .ref w0, .ref c1, .ref i0, .ref p0, .int (zI sd), .int (zI cnt), .int (zI ln), .int (zI gr)]))]) A) args s 0 0 A) := ⟨_, rfl⟩
  rw [← hQ]
  have i_wsX50 : ∀ w ∈ wsX50, w ∈ wsX5_count := (fun _ h => (List.mem_cons_of_mem _ (List.mem_append_right _ h)))
  have kf_39 : (Cond.fieldLink RX5 39 "Gammonry$Plays" "count" "I").before args s = true := hF.2.2.2.2 _ (List.mem_cons_of_mem _ (List.mem_append_left _ (List.mem_of_getElem? (i := 0) rfl)))
  refine lv_aload_n hx hb dX5_count_0 rfl (lv_at hl 0 rfl) ?_
  refine z_get (k := 7) hF hK hP 0 rfl rfl i_wsX50 (by decide) kf_39 rfl dX5_count_1 ?_
  rw [hQ]
  exact z_iret hF hr hlocks () (rfl) hP hK hD hS dX5_count_4
set_option maxHeartbeats 4000000 in
set_option maxRecDepth 100000 in
theorem c_X5_length (l : Launch) (G : wG) (h0 tk r0 w0 c1 i0 p0 : Nat) (sd cnt ln gr : Int)  (z9 : Nat) : Met l yX5_length wsX5_length (rmL 1 0 0) (wPc G [(h0, .inr (5, [.ref tk, .ref r0, .ref w0, .ref c1, .ref i0, .ref p0, .int (zI sd), .int (zI cnt), .int (zI ln), .int (zI gr)]))] z9 [.ref h0]) (wQi G (fun (r : Int32) (u : Unit) => r = zI ln) (fun (u : Unit) => [(h0, .inr (5, [.ref tk, .ref r0, .ref w0, .ref c1, .ref i0, .ref p0, .int (zI sd), .int (zI cnt), .int (zI ln), .int (zI gr)]))]) (va_A [(h0, .inr (5, [.ref tk, .ref r0, .ref w0, .ref c1, .ref i0, .ref p0, .int (zI sd), .int (zI cnt), .int (zI ln), .int (zI gr)]))] z9)) 0 0 (va_A [(h0, .inr (5, [.ref tk, .ref r0, .ref w0, .ref c1, .ref i0, .ref p0, .int (zI sd), .int (zI cnt), .int (zI ln), .int (zI gr)]))] z9) := by
  refine z_ofW (Qc := fun A => wQi G (fun (r : Int32) (u : Unit) => r = zI ln) (fun (u : Unit) => [(h0, .inr (5, [.ref tk, .ref r0, .ref w0, .ref c1, .ref i0, .ref p0, .int (zI sd), .int (zI cnt), .int (zI ln), .int (zI gr)]))]) A) l G [(h0, .inr (5, [.ref tk, .ref r0, .ref w0, .ref c1, .ref i0, .ref p0, .int (zI sd), .int (zI cnt), .int (zI ln), .int (zI gr)]))] [.ref h0] (by decide) rfl rfl ?_ z9
  intro p e s m args below meth c A ls H locs hF hr hlocks hinit hP hK hD hA hS hBd hl
  have hF : wFx p m c cX5_length 1 s args wsX5_length RX5 := hF
  have hl : lv_has ls 1 [(0, .ref h0)] := hl
  have hx := hF.1
  have hb := hF.2.1
  obtain ⟨Q0, hQ⟩ : ∃ q, q = (MQ below (wQi G (fun (r : Int32) (u : Unit) => r = zI ln) (fun (u : Unit) => [(h0, .inr (5, [.ref tk, .ref r0, .ref w0, .ref c1, .ref i0, .ref p0, .int (zI sd), .int (zI cnt), .int (zI ln), .int (zI gr)]))]) A) args s 0 0 A) := ⟨_, rfl⟩
  rw [← hQ]
  have i_wsX50 : ∀ w ∈ wsX50, w ∈ wsX5_length := (fun _ h => (List.mem_cons_of_mem _ (List.mem_append_right _ h)))
  have kf_42 : (Cond.fieldLink RX5 42 "Gammonry$Plays" "length" "I").before args s = true := hF.2.2.2.2 _ (List.mem_cons_of_mem _ (List.mem_append_left _ (List.mem_of_getElem? (i := 0) rfl)))
  refine lv_aload_n hx hb dX5_length_0 rfl (lv_at hl 0 rfl) ?_
  refine z_get (k := 8) hF hK hP 0 rfl rfl i_wsX50 (by decide) kf_42 rfl dX5_length_1 ?_
  rw [hQ]
  exact z_iret hF hr hlocks () (rfl) hP hK hD hS dX5_length_4
set_option maxHeartbeats 4000000 in
set_option maxRecDepth 100000 in
theorem c_X5_numberOfGreatest (l : Launch) (G : wG) (h0 tk r0 w0 c1 i0 p0 : Nat) (sd cnt ln gr : Int)  (z9 : Nat) : Met l yX5_numberOfGreatest wsX5_numberOfGreatest (rmL 1 0 0) (wPc G [(h0, .inr (5, [.ref tk, .ref r0, .ref w0, .ref c1, .ref i0, .ref p0, .int (zI sd), .int (zI cnt), .int (zI ln), .int (zI gr)]))] z9 [.ref h0]) (wQi G (fun (r : Int32) (u : Unit) => r = zI gr) (fun (u : Unit) => [(h0, .inr (5, [.ref tk, .ref r0, .ref w0, .ref c1, .ref i0, .ref p0, .int (zI sd), .int (zI cnt), .int (zI ln), .int (zI gr)]))]) (va_A [(h0, .inr (5, [.ref tk, .ref r0, .ref w0, .ref c1, .ref i0, .ref p0, .int (zI sd), .int (zI cnt), .int (zI ln), .int (zI gr)]))] z9)) 0 0 (va_A [(h0, .inr (5, [.ref tk, .ref r0, .ref w0, .ref c1, .ref i0, .ref p0, .int (zI sd), .int (zI cnt), .int (zI ln), .int (zI gr)]))] z9) := by
  refine z_ofW (Qc := fun A => wQi G (fun (r : Int32) (u : Unit) => r = zI gr) (fun (u : Unit) => [(h0, .inr (5, [.ref tk, .ref r0, .ref w0, .ref c1, .ref i0, .ref p0, .int (zI sd), .int (zI cnt), .int (zI ln), .int (zI gr)]))]) A) l G [(h0, .inr (5, [.ref tk, .ref r0, .ref w0, .ref c1, .ref i0, .ref p0, .int (zI sd), .int (zI cnt), .int (zI ln), .int (zI gr)]))] [.ref h0] (by decide) rfl rfl ?_ z9
  intro p e s m args below meth c A ls H locs hF hr hlocks hinit hP hK hD hA hS hBd hl
  have hF : wFx p m c cX5_numberOfGreatest 1 s args wsX5_numberOfGreatest RX5 := hF
  have hl : lv_has ls 1 [(0, .ref h0)] := hl
  have hx := hF.1
  have hb := hF.2.1
  obtain ⟨Q0, hQ⟩ : ∃ q, q = (MQ below (wQi G (fun (r : Int32) (u : Unit) => r = zI gr) (fun (u : Unit) => [(h0, .inr (5, [.ref tk, .ref r0, .ref w0, .ref c1, .ref i0, .ref p0, .int (zI sd), .int (zI cnt), .int (zI ln), .int (zI gr)]))]) A) args s 0 0 A) := ⟨_, rfl⟩
  rw [← hQ]
  have i_wsX50 : ∀ w ∈ wsX50, w ∈ wsX5_numberOfGreatest := (fun _ h => (List.mem_cons_of_mem _ (List.mem_append_right _ h)))
  have kf_45 : (Cond.fieldLink RX5 45 "Gammonry$Plays" "greatest" "I").before args s = true := hF.2.2.2.2 _ (List.mem_cons_of_mem _ (List.mem_append_left _ (List.mem_of_getElem? (i := 0) rfl)))
  refine lv_aload_n hx hb dX5_numberOfGreatest_0 rfl (lv_at hl 0 rfl) ?_
  refine z_get (k := 9) hF hK hP 0 rfl rfl i_wsX50 (by decide) kf_45 rfl dX5_numberOfGreatest_1 ?_
  rw [hQ]
  exact z_iret hF hr hlocks () (rfl) hP hK hD hS dX5_numberOfGreatest_4
set_option maxHeartbeats 4000000 in
set_option maxRecDepth 100000 in
theorem c_X5_rowAt (l : Launch) (G : wG) (h0 tk r0 w0 c1 i0 p0 : Nat) (fr : Int → Int) (sd cnt ln gr k : Int)  (hk3 : 0 ≤ k ∧ k < 3060) (z9 : Nat) : Met l yX5_rowAt wsX5_rowAt (rmL 1 0 0) (wPc G [(h0, .inr (5, [.ref tk, .ref r0, .ref w0, .ref c1, .ref i0, .ref p0, .int (zI sd), .int (zI cnt), .int (zI ln), .int (zI gr)])), (r0, .inl (G.2.1.1, 3060, .inl (aI fr)))] z9 [.ref h0, .int (zI k)]) (wQi G (fun (r : Int32) (u : Unit) => r = zI (fr k)) (fun (u : Unit) => [(h0, .inr (5, [.ref tk, .ref r0, .ref w0, .ref c1, .ref i0, .ref p0, .int (zI sd), .int (zI cnt), .int (zI ln), .int (zI gr)])), (r0, .inl (G.2.1.1, 3060, .inl (aI fr)))]) (va_A [(h0, .inr (5, [.ref tk, .ref r0, .ref w0, .ref c1, .ref i0, .ref p0, .int (zI sd), .int (zI cnt), .int (zI ln), .int (zI gr)])), (r0, .inl (G.2.1.1, 3060, .inl (aI fr)))] z9)) 0 0 (va_A [(h0, .inr (5, [.ref tk, .ref r0, .ref w0, .ref c1, .ref i0, .ref p0, .int (zI sd), .int (zI cnt), .int (zI ln), .int (zI gr)])), (r0, .inl (G.2.1.1, 3060, .inl (aI fr)))] z9) := by
  refine z_ofW (Qc := fun A => wQi G (fun (r : Int32) (u : Unit) => r = zI (fr k)) (fun (u : Unit) => [(h0, .inr (5, [.ref tk, .ref r0, .ref w0, .ref c1, .ref i0, .ref p0, .int (zI sd), .int (zI cnt), .int (zI ln), .int (zI gr)])), (r0, .inl (G.2.1.1, 3060, .inl (aI fr)))]) A) l G [(h0, .inr (5, [.ref tk, .ref r0, .ref w0, .ref c1, .ref i0, .ref p0, .int (zI sd), .int (zI cnt), .int (zI ln), .int (zI gr)])), (r0, .inl (G.2.1.1, 3060, .inl (aI fr)))] [.ref h0, .int (zI k)] (by decide) rfl rfl ?_ z9
  intro p e s m args below meth c A ls H locs hF hr hlocks hinit hP hK hD hA hS hBd hl
  have hF : wFx p m c cX5_rowAt 2 s args wsX5_rowAt RX5 := hF
  have hl : lv_has ls 2 [(0, .ref h0), (1, .int (zI k))] := hl
  have hx := hF.1
  have hb := hF.2.1
  obtain ⟨Q0, hQ⟩ : ∃ q, q = (MQ below (wQi G (fun (r : Int32) (u : Unit) => r = zI (fr k)) (fun (u : Unit) => [(h0, .inr (5, [.ref tk, .ref r0, .ref w0, .ref c1, .ref i0, .ref p0, .int (zI sd), .int (zI cnt), .int (zI ln), .int (zI gr)])), (r0, .inl (G.2.1.1, 3060, .inl (aI fr)))]) A) args s 0 0 A) := ⟨_, rfl⟩
  rw [← hQ]
  have i_wsX50 : ∀ w ∈ wsX50, w ∈ wsX5_rowAt := (fun _ h => (List.mem_cons_of_mem _ (List.mem_append_right _ h)))
  have kf_18 : (Cond.fieldLink RX5 18 "Gammonry$Plays" "rows" "[I").before args s = true := hF.2.2.2.2 _ (List.mem_cons_of_mem _ (List.mem_append_left _ (List.mem_of_getElem? (i := 0) rfl)))
  refine lv_iload_n hx hb dX5_rowAt_0 rfl (lv_at hl 1 rfl) ?_
  refine z_if_lt (tgt := 20) hF dX5_rowAt_1 (by decide) (by omega) (fun c_1 => ?_) (fun c_1 => ?_)
  · exfalso; omega
  · have hc_1 := c_1
    refine lv_iload_n hx hb dX5_rowAt_4 rfl (lv_at hl 1 rfl) ?_
    refine z_sipush hF dX5_rowAt_5 (by decide) ?_
    refine z_icmp_ge (tgt := 20) hF dX5_rowAt_8 (by decide) (by omega) (by decide) (fun c_2 => ?_) (fun c_2 => ?_)
    · exfalso; omega
    · have hc_8 := c_2
      refine lv_aload_n hx hb dX5_rowAt_11 rfl (lv_at hl 0 rfl) ?_
      refine z_get (k := 1) hF hK hP 0 rfl rfl i_wsX50 (by decide) kf_18 rfl dX5_rowAt_12 ?_
      refine lv_iload_n hx hb dX5_rowAt_15 rfl (lv_at hl 1 rfl) ?_
      refine z_iald hF hK hP 1 rfl (by omega) rfl dX5_rowAt_16 ?_
      refine z_goto (tgt := 21) hF dX5_rowAt_17 (by decide) ?_
      rw [hQ]
      exact z_iret hF hr hlocks () (rfl) hP hK hD hS dX5_rowAt_21
set_option maxHeartbeats 4000000 in
set_option maxRecDepth 100000 in
theorem c_X5_worthAt (l : Launch) (G : wG) (h0 tk r0 w0 c1 i0 p0 : Nat) (fw : Int → Int) (sd cnt ln gr k : Int)  (hk3 : 0 ≤ k ∧ k < 3060) (z9 : Nat) : Met l yX5_worthAt wsX5_worthAt (rmL 1 0 0) (wPc G [(h0, .inr (5, [.ref tk, .ref r0, .ref w0, .ref c1, .ref i0, .ref p0, .int (zI sd), .int (zI cnt), .int (zI ln), .int (zI gr)])), (w0, .inl (G.2.1.1, 3060, .inl (aI fw)))] z9 [.ref h0, .int (zI k)]) (wQi G (fun (r : Int32) (u : Unit) => r = zI (fw k)) (fun (u : Unit) => [(h0, .inr (5, [.ref tk, .ref r0, .ref w0, .ref c1, .ref i0, .ref p0, .int (zI sd), .int (zI cnt), .int (zI ln), .int (zI gr)])), (w0, .inl (G.2.1.1, 3060, .inl (aI fw)))]) (va_A [(h0, .inr (5, [.ref tk, .ref r0, .ref w0, .ref c1, .ref i0, .ref p0, .int (zI sd), .int (zI cnt), .int (zI ln), .int (zI gr)])), (w0, .inl (G.2.1.1, 3060, .inl (aI fw)))] z9)) 0 0 (va_A [(h0, .inr (5, [.ref tk, .ref r0, .ref w0, .ref c1, .ref i0, .ref p0, .int (zI sd), .int (zI cnt), .int (zI ln), .int (zI gr)])), (w0, .inl (G.2.1.1, 3060, .inl (aI fw)))] z9) := by
  refine z_ofW (Qc := fun A => wQi G (fun (r : Int32) (u : Unit) => r = zI (fw k)) (fun (u : Unit) => [(h0, .inr (5, [.ref tk, .ref r0, .ref w0, .ref c1, .ref i0, .ref p0, .int (zI sd), .int (zI cnt), .int (zI ln), .int (zI gr)])), (w0, .inl (G.2.1.1, 3060, .inl (aI fw)))]) A) l G [(h0, .inr (5, [.ref tk, .ref r0, .ref w0, .ref c1, .ref i0, .ref p0, .int (zI sd), .int (zI cnt), .int (zI ln), .int (zI gr)])), (w0, .inl (G.2.1.1, 3060, .inl (aI fw)))] [.ref h0, .int (zI k)] (by decide) rfl rfl ?_ z9
  intro p e s m args below meth c A ls H locs hF hr hlocks hinit hP hK hD hA hS hBd hl
  have hF : wFx p m c cX5_worthAt 2 s args wsX5_worthAt RX5 := hF
  have hl : lv_has ls 2 [(0, .ref h0), (1, .int (zI k))] := hl
  have hx := hF.1
  have hb := hF.2.1
  obtain ⟨Q0, hQ⟩ : ∃ q, q = (MQ below (wQi G (fun (r : Int32) (u : Unit) => r = zI (fw k)) (fun (u : Unit) => [(h0, .inr (5, [.ref tk, .ref r0, .ref w0, .ref c1, .ref i0, .ref p0, .int (zI sd), .int (zI cnt), .int (zI ln), .int (zI gr)])), (w0, .inl (G.2.1.1, 3060, .inl (aI fw)))]) A) args s 0 0 A) := ⟨_, rfl⟩
  rw [← hQ]
  have i_wsX50 : ∀ w ∈ wsX50, w ∈ wsX5_worthAt := (fun _ h => (List.mem_cons_of_mem _ (List.mem_append_right _ h)))
  have kf_22 : (Cond.fieldLink RX5 22 "Gammonry$Plays" "worths" "[I").before args s = true := hF.2.2.2.2 _ (List.mem_cons_of_mem _ (List.mem_append_left _ (List.mem_of_getElem? (i := 0) rfl)))
  refine lv_iload_n hx hb dX5_worthAt_0 rfl (lv_at hl 1 rfl) ?_
  refine z_if_lt (tgt := 20) hF dX5_worthAt_1 (by decide) (by omega) (fun c_1 => ?_) (fun c_1 => ?_)
  · exfalso; omega
  · have hc_1 := c_1
    refine lv_iload_n hx hb dX5_worthAt_4 rfl (lv_at hl 1 rfl) ?_
    refine z_sipush hF dX5_worthAt_5 (by decide) ?_
    refine z_icmp_ge (tgt := 20) hF dX5_worthAt_8 (by decide) (by omega) (by decide) (fun c_2 => ?_) (fun c_2 => ?_)
    · exfalso; omega
    · have hc_8 := c_2
      refine lv_aload_n hx hb dX5_worthAt_11 rfl (lv_at hl 0 rfl) ?_
      refine z_get (k := 2) hF hK hP 0 rfl rfl i_wsX50 (by decide) kf_22 rfl dX5_worthAt_12 ?_
      refine lv_iload_n hx hb dX5_worthAt_15 rfl (lv_at hl 1 rfl) ?_
      refine z_iald hF hK hP 1 rfl (by omega) rfl dX5_worthAt_16 ?_
      refine z_goto (tgt := 21) hF dX5_worthAt_17 (by decide) ?_
      rw [hQ]
      exact z_iret hF hr hlocks () (rfl) hP hK hD hS dX5_worthAt_21
set_option maxHeartbeats 4000000 in
set_option maxRecDepth 100000 in
theorem c_X5_greatestWorth (l : Launch) (G : wG) (h0 tk r0 w0 c1 i0 p0 : Nat) (fw : Int → Int) (sd cnt ln gr : Int)  (hg3 : 0 ≤ gr ∧ gr < 3060) (z9 : Nat) : Met l yX5_greatestWorth wsX5_greatestWorth (rmL 2 0 0) (wPc G [(h0, .inr (5, [.ref tk, .ref r0, .ref w0, .ref c1, .ref i0, .ref p0, .int (zI sd), .int (zI cnt), .int (zI ln), .int (zI gr)])), (w0, .inl (G.2.1.1, 3060, .inl (aI fw)))] z9 [.ref h0]) (wQi G (fun (r : Int32) (u : Unit) => r = zI (fw gr)) (fun (u : Unit) => [(h0, .inr (5, [.ref tk, .ref r0, .ref w0, .ref c1, .ref i0, .ref p0, .int (zI sd), .int (zI cnt), .int (zI ln), .int (zI gr)])), (w0, .inl (G.2.1.1, 3060, .inl (aI fw)))]) (va_A [(h0, .inr (5, [.ref tk, .ref r0, .ref w0, .ref c1, .ref i0, .ref p0, .int (zI sd), .int (zI cnt), .int (zI ln), .int (zI gr)])), (w0, .inl (G.2.1.1, 3060, .inl (aI fw)))] z9)) 0 0 (va_A [(h0, .inr (5, [.ref tk, .ref r0, .ref w0, .ref c1, .ref i0, .ref p0, .int (zI sd), .int (zI cnt), .int (zI ln), .int (zI gr)])), (w0, .inl (G.2.1.1, 3060, .inl (aI fw)))] z9) := by
  refine z_ofW (Qc := fun A => wQi G (fun (r : Int32) (u : Unit) => r = zI (fw gr)) (fun (u : Unit) => [(h0, .inr (5, [.ref tk, .ref r0, .ref w0, .ref c1, .ref i0, .ref p0, .int (zI sd), .int (zI cnt), .int (zI ln), .int (zI gr)])), (w0, .inl (G.2.1.1, 3060, .inl (aI fw)))]) A) l G [(h0, .inr (5, [.ref tk, .ref r0, .ref w0, .ref c1, .ref i0, .ref p0, .int (zI sd), .int (zI cnt), .int (zI ln), .int (zI gr)])), (w0, .inl (G.2.1.1, 3060, .inl (aI fw)))] [.ref h0] (by decide) rfl rfl ?_ z9
  intro p e s m args below meth c A ls H locs hF hr hlocks hinit hP hK hD hA hS hBd hl
  have hF : wFx p m c cX5_greatestWorth 1 s args wsX5_greatestWorth RX5 := hF
  have hl : lv_has ls 1 [(0, .ref h0)] := hl
  have hx := hF.1
  have hb := hF.2.1
  obtain ⟨Q0, hQ⟩ : ∃ q, q = (MQ below (wQi G (fun (r : Int32) (u : Unit) => r = zI (fw gr)) (fun (u : Unit) => [(h0, .inr (5, [.ref tk, .ref r0, .ref w0, .ref c1, .ref i0, .ref p0, .int (zI sd), .int (zI cnt), .int (zI ln), .int (zI gr)])), (w0, .inl (G.2.1.1, 3060, .inl (aI fw)))]) A) args s 0 0 A) := ⟨_, rfl⟩
  rw [← hQ]
  have i_wsX50 : ∀ w ∈ wsX50, w ∈ wsX5_greatestWorth := (fun _ h => (List.mem_cons_of_mem _ (List.mem_append_right _ h)))
  have kf_45 : (Cond.fieldLink RX5 45 "Gammonry$Plays" "greatest" "I").before args s = true := hF.2.2.2.2 _ (List.mem_cons_of_mem _ (List.mem_append_left _ (List.mem_of_getElem? (i := 0) rfl)))
  refine lv_aload_n hx hb dX5_greatestWorth_0 rfl (lv_at hl 0 rfl) ?_
  refine lv_aload_n hx hb dX5_greatestWorth_1 rfl (lv_at hl 0 rfl) ?_
  refine z_get (k := 9) hF hK hP 0 rfl rfl i_wsX50 (by decide) kf_45 rfl dX5_greatestWorth_2 ?_
  refine cj_i (va_runV (As := [.int (zI gr)]) (rest := []) hF (c_X5_worthAt l G h0 tk r0 w0 c1 i0 p0 fw sd cnt ln gr gr  (by omega) H.size) (cwV 1 hF.2.2.2.2 gX5_greatestWorth_X5_worthAt rfl rfl rfl (by decide +kernel) ⟨Nat.le_of_ble_eq_true rfl, Nat.le_of_ble_eq_true rfl⟩) (z_preV hK hP hD hS hA hBd [0, 1] rfl rfl rfl rfl [.int (zI gr)]) rfl rfl hl.1 rfl (lv_room (Nat.le_of_ble_eq_true rfl)) dX5_greatestWorth_5 ⟨Nat.le_of_ble_eq_true rfl, Nat.le_of_ble_eq_true rfl⟩) hP hD hS hA [0, 1] rfl (fun _ => Nat.le_of_ble_eq_true rfl) (fun r_2 u_1 H locs hw hP hD hS => ?_)
  have hP : va_P G.1 vwCl [(h0, .inr (5, [.ref tk, .ref r0, .ref w0, .ref c1, .ref i0, .ref p0, .int (zI sd), .int (zI cnt), .int (zI ln), .int (zI gr)])), (w0, .inl (G.2.1.1, 3060, .inl (aI fw)))] H := hP
  have hD : va_D A [(h0, .inr (5, [.ref tk, .ref r0, .ref w0, .ref c1, .ref i0, .ref p0, .int (zI sd), .int (zI cnt), .int (zI ln), .int (zI gr)])), (w0, .inl (G.2.1.1, 3060, .inl (aI fw)))] := hD
  obtain rfl := hw
  rw [hQ]
  exact z_iret hF hr hlocks () (rfl) hP hK hD hS dX5_greatestWorth_8
set_option maxHeartbeats 4000000 in
set_option maxRecDepth 100000 in
theorem c_X5_errorOf (l : Launch) (G : wG) (h0 tk r0 w0 c1 i0 p0 : Nat) (fw : Int → Int) (sd cnt ln gr k : Int)  (hg3 : 0 ≤ gr ∧ gr < 3060) (hk3 : 0 ≤ k ∧ k < 3060) (z9 : Nat) : Met l yX5_errorOf wsX5_errorOf (rmL 3 0 0) (wPc G [(h0, .inr (5, [.ref tk, .ref r0, .ref w0, .ref c1, .ref i0, .ref p0, .int (zI sd), .int (zI cnt), .int (zI ln), .int (zI gr)])), (w0, .inl (G.2.1.1, 3060, .inl (aI fw)))] z9 [.ref h0, .int (zI k)]) (wQi G (fun (r : Int32) (u : Unit) => r = zI (fw gr - fw k)) (fun (u : Unit) => [(h0, .inr (5, [.ref tk, .ref r0, .ref w0, .ref c1, .ref i0, .ref p0, .int (zI sd), .int (zI cnt), .int (zI ln), .int (zI gr)])), (w0, .inl (G.2.1.1, 3060, .inl (aI fw)))]) (va_A [(h0, .inr (5, [.ref tk, .ref r0, .ref w0, .ref c1, .ref i0, .ref p0, .int (zI sd), .int (zI cnt), .int (zI ln), .int (zI gr)])), (w0, .inl (G.2.1.1, 3060, .inl (aI fw)))] z9)) 0 0 (va_A [(h0, .inr (5, [.ref tk, .ref r0, .ref w0, .ref c1, .ref i0, .ref p0, .int (zI sd), .int (zI cnt), .int (zI ln), .int (zI gr)])), (w0, .inl (G.2.1.1, 3060, .inl (aI fw)))] z9) := by
  refine z_ofW (Qc := fun A => wQi G (fun (r : Int32) (u : Unit) => r = zI (fw gr - fw k)) (fun (u : Unit) => [(h0, .inr (5, [.ref tk, .ref r0, .ref w0, .ref c1, .ref i0, .ref p0, .int (zI sd), .int (zI cnt), .int (zI ln), .int (zI gr)])), (w0, .inl (G.2.1.1, 3060, .inl (aI fw)))]) A) l G [(h0, .inr (5, [.ref tk, .ref r0, .ref w0, .ref c1, .ref i0, .ref p0, .int (zI sd), .int (zI cnt), .int (zI ln), .int (zI gr)])), (w0, .inl (G.2.1.1, 3060, .inl (aI fw)))] [.ref h0, .int (zI k)] (by decide) rfl rfl ?_ z9
  intro p e s m args below meth c A ls H locs hF hr hlocks hinit hP hK hD hA hS hBd hl
  have hF : wFx p m c cX5_errorOf 2 s args wsX5_errorOf RX5 := hF
  have hl : lv_has ls 2 [(0, .ref h0), (1, .int (zI k))] := hl
  have hx := hF.1
  have hb := hF.2.1
  obtain ⟨Q0, hQ⟩ : ∃ q, q = (MQ below (wQi G (fun (r : Int32) (u : Unit) => r = zI (fw gr - fw k)) (fun (u : Unit) => [(h0, .inr (5, [.ref tk, .ref r0, .ref w0, .ref c1, .ref i0, .ref p0, .int (zI sd), .int (zI cnt), .int (zI ln), .int (zI gr)])), (w0, .inl (G.2.1.1, 3060, .inl (aI fw)))]) A) args s 0 0 A) := ⟨_, rfl⟩
  rw [← hQ]
  refine lv_aload_n hx hb dX5_errorOf_0 rfl (lv_at hl 0 rfl) ?_
  refine cj_i (va_runV (As := []) (rest := []) hF (c_X5_greatestWorth l G h0 tk r0 w0 c1 i0 p0 fw sd cnt ln gr  (by omega) H.size) (cwV 0 hF.2.2.2.2 gX5_errorOf_X5_greatestWorth rfl rfl rfl (by decide +kernel) ⟨Nat.le_of_ble_eq_true rfl, Nat.le_of_ble_eq_true rfl⟩) (z_preV hK hP hD hS hA hBd [0, 1] rfl rfl rfl rfl []) rfl rfl hl.1 rfl (lv_room (Nat.le_of_ble_eq_true rfl)) dX5_errorOf_1 ⟨Nat.le_of_ble_eq_true rfl, Nat.le_of_ble_eq_true rfl⟩) hP hD hS hA [0, 1] rfl (fun _ => Nat.le_of_ble_eq_true rfl) (fun r_2 u_1 H locs hw hP hD hS => ?_)
  have hP : va_P G.1 vwCl [(h0, .inr (5, [.ref tk, .ref r0, .ref w0, .ref c1, .ref i0, .ref p0, .int (zI sd), .int (zI cnt), .int (zI ln), .int (zI gr)])), (w0, .inl (G.2.1.1, 3060, .inl (aI fw)))] H := hP
  have hD : va_D A [(h0, .inr (5, [.ref tk, .ref r0, .ref w0, .ref c1, .ref i0, .ref p0, .int (zI sd), .int (zI cnt), .int (zI ln), .int (zI gr)])), (w0, .inl (G.2.1.1, 3060, .inl (aI fw)))] := hD
  obtain rfl := hw
  refine lv_aload_n hx hb dX5_errorOf_4 rfl (lv_at hl 0 rfl) ?_
  refine lv_iload_n hx hb dX5_errorOf_5 rfl (lv_at hl 1 rfl) ?_
  refine cj_i (va_runV (As := [.int (zI k)]) (rest := [.int (zI (fw gr))]) hF (c_X5_worthAt l G h0 tk r0 w0 c1 i0 p0 fw sd cnt ln gr k  (by omega) H.size) (cwV 1 hF.2.2.2.2 gX5_errorOf_X5_worthAt rfl rfl rfl (by decide +kernel) ⟨Nat.le_of_ble_eq_true rfl, Nat.le_of_ble_eq_true rfl⟩) (z_preV hK hP hD hS hA hBd [0, 1] rfl rfl rfl rfl [.int (zI k)]) rfl rfl hl.1 rfl (lv_room (Nat.le_of_ble_eq_true rfl)) dX5_errorOf_6 ⟨Nat.le_of_ble_eq_true rfl, Nat.le_of_ble_eq_true rfl⟩) hP hD hS hA [0, 1] rfl (fun _ => Nat.le_of_ble_eq_true rfl) (fun r_4 u_3 H locs hw hP hD hS => ?_)
  have hP : va_P G.1 vwCl [(h0, .inr (5, [.ref tk, .ref r0, .ref w0, .ref c1, .ref i0, .ref p0, .int (zI sd), .int (zI cnt), .int (zI ln), .int (zI gr)])), (w0, .inl (G.2.1.1, 3060, .inl (aI fw)))] H := hP
  have hD : va_D A [(h0, .inr (5, [.ref tk, .ref r0, .ref w0, .ref c1, .ref i0, .ref p0, .int (zI sd), .int (zI cnt), .int (zI ln), .int (zI gr)])), (w0, .inl (G.2.1.1, 3060, .inl (aI fw)))] := hD
  obtain rfl := hw
  refine z_isub hF dX5_errorOf_9 ?_
  rw [hQ]
  exact z_iret hF hr hlocks () (rfl) hP hK hD hS dX5_errorOf_10
set_option maxHeartbeats 4000000 in
set_option maxRecDepth 100000 in
theorem c_X5_clear (l : Launch) (G : wG) (h0 tk r0 w0 c1 i0 p0 : Nat) (sd cnt ln gr : Int) (n1 : Int)  (z9 : Nat) : Met l yX5_clear wsX5_clear (rmL 1 0 0) (wPc G [(h0, .inr (5, [.ref tk, .ref r0, .ref w0, .ref c1, .ref i0, .ref p0, .int (zI sd), .int (zI cnt), .int (zI ln), .int (zI gr)]))] z9 [.ref h0, .int (zI n1)]) (wQv G (fun (u : Unit) => True) (fun (u : Unit) => [(h0, .inr (5, [.ref tk, .ref r0, .ref w0, .ref c1, .ref i0, .ref p0, .int (zI sd), .int (zI 0), .int (zI n1), .int (zI 0)]))]) (va_A [(h0, .inr (5, [.ref tk, .ref r0, .ref w0, .ref c1, .ref i0, .ref p0, .int (zI sd), .int (zI cnt), .int (zI ln), .int (zI gr)]))] z9)) 0 0 (va_A [(h0, .inr (5, [.ref tk, .ref r0, .ref w0, .ref c1, .ref i0, .ref p0, .int (zI sd), .int (zI cnt), .int (zI ln), .int (zI gr)]))] z9) := by
  refine z_ofW (Qc := fun A => wQv G (fun (u : Unit) => True) (fun (u : Unit) => [(h0, .inr (5, [.ref tk, .ref r0, .ref w0, .ref c1, .ref i0, .ref p0, .int (zI sd), .int (zI 0), .int (zI n1), .int (zI 0)]))]) A) l G [(h0, .inr (5, [.ref tk, .ref r0, .ref w0, .ref c1, .ref i0, .ref p0, .int (zI sd), .int (zI cnt), .int (zI ln), .int (zI gr)]))] [.ref h0, .int (zI n1)] (by decide) rfl rfl ?_ z9
  intro p e s m args below meth c A ls H locs hF hr hlocks hinit hP hK hD hA hS hBd hl
  have hF : wFx p m c cX5_clear 2 s args wsX5_clear RX5 := hF
  have hl : lv_has ls 2 [(0, .ref h0), (1, .int (zI n1))] := hl
  have hx := hF.1
  have hb := hF.2.1
  obtain ⟨Q0, hQ⟩ : ∃ q, q = (MQ below (wQv G (fun (u : Unit) => True) (fun (u : Unit) => [(h0, .inr (5, [.ref tk, .ref r0, .ref w0, .ref c1, .ref i0, .ref p0, .int (zI sd), .int (zI 0), .int (zI n1), .int (zI 0)]))]) A) args s 0 0 A) := ⟨_, rfl⟩
  rw [← hQ]
  have i_wsX50 : ∀ w ∈ wsX50, w ∈ wsX5_clear := (fun _ h => (List.mem_cons_of_mem _ (List.mem_append_right _ h)))
  have kf_39 : (Cond.fieldLink RX5 39 "Gammonry$Plays" "count" "I").before args s = true := hF.2.2.2.2 _ (List.mem_cons_of_mem _ (List.mem_append_left _ (List.mem_of_getElem? (i := 1) rfl)))
  have kf_42 : (Cond.fieldLink RX5 42 "Gammonry$Plays" "length" "I").before args s = true := hF.2.2.2.2 _ (List.mem_cons_of_mem _ (List.mem_append_left _ (List.mem_of_getElem? (i := 0) rfl)))
  have kf_45 : (Cond.fieldLink RX5 45 "Gammonry$Plays" "greatest" "I").before args s = true := hF.2.2.2.2 _ (List.mem_cons_of_mem _ (List.mem_append_left _ (List.mem_of_getElem? (i := 2) rfl)))
  refine lv_aload_n hx hb dX5_clear_0 rfl (lv_at hl 0 rfl) ?_
  refine lv_iload_n hx hb dX5_clear_1 rfl (lv_at hl 1 rfl) ?_
  refine z_put (k := 8) hF hK hP hD hS 0 rfl rfl i_wsX50 (by decide) tyX5 tyX5_ok nmX5 rfl kf_42 rfl rfl (Nat.le_of_ble_eq_true rfl) dX5_clear_2 (fun H locs hP hD hS => ?_)
  have hP : va_P G.1 vwCl [(h0, .inr (5, [.ref tk, .ref r0, .ref w0, .ref c1, .ref i0, .ref p0, .int (zI sd), .int (zI cnt), .int (zI n1), .int (zI gr)]))] H := hP
  have hD : va_D A [(h0, .inr (5, [.ref tk, .ref r0, .ref w0, .ref c1, .ref i0, .ref p0, .int (zI sd), .int (zI cnt), .int (zI n1), .int (zI gr)]))] := hD
  refine lv_aload_n hx hb dX5_clear_5 rfl (lv_at hl 0 rfl) ?_
  refine z_iconst hF dX5_clear_6 ?_
  refine z_put (k := 7) hF hK hP hD hS 0 rfl rfl i_wsX50 (by decide) tyX5 tyX5_ok nmX5 rfl kf_39 rfl rfl (Nat.le_of_ble_eq_true rfl) dX5_clear_7 (fun H locs hP hD hS => ?_)
  have hP : va_P G.1 vwCl [(h0, .inr (5, [.ref tk, .ref r0, .ref w0, .ref c1, .ref i0, .ref p0, .int (zI sd), .int (zI 0), .int (zI n1), .int (zI gr)]))] H := hP
  have hD : va_D A [(h0, .inr (5, [.ref tk, .ref r0, .ref w0, .ref c1, .ref i0, .ref p0, .int (zI sd), .int (zI 0), .int (zI n1), .int (zI gr)]))] := hD
  refine lv_aload_n hx hb dX5_clear_10 rfl (lv_at hl 0 rfl) ?_
  refine z_iconst hF dX5_clear_11 ?_
  refine z_put (k := 9) hF hK hP hD hS 0 rfl rfl i_wsX50 (by decide) tyX5 tyX5_ok nmX5 rfl kf_45 rfl rfl (Nat.le_of_ble_eq_true rfl) dX5_clear_12 (fun H locs hP hD hS => ?_)
  have hP : va_P G.1 vwCl [(h0, .inr (5, [.ref tk, .ref r0, .ref w0, .ref c1, .ref i0, .ref p0, .int (zI sd), .int (zI 0), .int (zI n1), .int (zI 0)]))] H := hP
  have hD : va_D A [(h0, .inr (5, [.ref tk, .ref r0, .ref w0, .ref c1, .ref i0, .ref p0, .int (zI sd), .int (zI 0), .int (zI n1), .int (zI 0)]))] := hD
  rw [hQ]
  exact z_vret hF hr hlocks () (trivial) hP hK hD hS dX5_clear_15
set_option maxHeartbeats 4000000 in
set_option maxRecDepth 100000 in
theorem c_X5_addRow (l : Launch) (G : wG) (h0 tk ta r0 w0 c1 i0 p0 : Nat) (b fr fw : Int → Int) (sd cnt ln gr row : Int)  (hsd : 0 ≤ sd ∧ sd ≤ 1) (hok : okB b) (hcn : 0 ≤ cnt ∧ cnt < 3060) (hg3 : 0 ≤ gr ∧ gr < 3060) (hwt : -100000 ≤ wth b sd ∧ wth b sd ≤ 100000) (hfw : ∀ k, -100000 ≤ fw k ∧ fw k ≤ 100000) (z9 : Nat) : Met l yX5_addRow wsX5_addRow (rmL 3 0 0) (wPc G [(h0, .inr (5, [.ref tk, .ref r0, .ref w0, .ref c1, .ref i0, .ref p0, .int (zI sd), .int (zI cnt), .int (zI ln), .int (zI gr)])), (tk, .inr (0, [.ref ta])), (ta, .inl (G.2.1.1, 52, .inl (aI b))), (r0, .inl (G.2.1.1, 3060, .inl (aI fr))), (w0, .inl (G.2.1.1, 3060, .inl (aI fw)))] z9 [.ref h0, .int (zI row)]) (wQv G (fun (u : Unit) => True) (fun (u : Unit) => [(h0, .inr (5, [.ref tk, .ref r0, .ref w0, .ref c1, .ref i0, .ref p0, .int (zI sd), .int (zI (cnt + 1)), .int (zI ln), .int (zI (if up fw cnt (wth b sd) gr < wth b sd then cnt else gr))])), (tk, .inr (0, [.ref ta])), (ta, .inl (G.2.1.1, 52, .inl (aI b))), (r0, .inl (G.2.1.1, 3060, .inl (aI (up fr cnt row)))), (w0, .inl (G.2.1.1, 3060, .inl (aI (up fw cnt (wth b sd)))))]) (va_A [(h0, .inr (5, [.ref tk, .ref r0, .ref w0, .ref c1, .ref i0, .ref p0, .int (zI sd), .int (zI cnt), .int (zI ln), .int (zI gr)])), (tk, .inr (0, [.ref ta])), (ta, .inl (G.2.1.1, 52, .inl (aI b))), (r0, .inl (G.2.1.1, 3060, .inl (aI fr))), (w0, .inl (G.2.1.1, 3060, .inl (aI fw)))] z9)) 0 0 (va_A [(h0, .inr (5, [.ref tk, .ref r0, .ref w0, .ref c1, .ref i0, .ref p0, .int (zI sd), .int (zI cnt), .int (zI ln), .int (zI gr)])), (tk, .inr (0, [.ref ta])), (ta, .inl (G.2.1.1, 52, .inl (aI b))), (r0, .inl (G.2.1.1, 3060, .inl (aI fr))), (w0, .inl (G.2.1.1, 3060, .inl (aI fw)))] z9) := by
  refine z_ofW (Qc := fun A => wQv G (fun (u : Unit) => True) (fun (u : Unit) => [(h0, .inr (5, [.ref tk, .ref r0, .ref w0, .ref c1, .ref i0, .ref p0, .int (zI sd), .int (zI (cnt + 1)), .int (zI ln), .int (zI (if up fw cnt (wth b sd) gr < wth b sd then cnt else gr))])), (tk, .inr (0, [.ref ta])), (ta, .inl (G.2.1.1, 52, .inl (aI b))), (r0, .inl (G.2.1.1, 3060, .inl (aI (up fr cnt row)))), (w0, .inl (G.2.1.1, 3060, .inl (aI (up fw cnt (wth b sd)))))]) A) l G [(h0, .inr (5, [.ref tk, .ref r0, .ref w0, .ref c1, .ref i0, .ref p0, .int (zI sd), .int (zI cnt), .int (zI ln), .int (zI gr)])), (tk, .inr (0, [.ref ta])), (ta, .inl (G.2.1.1, 52, .inl (aI b))), (r0, .inl (G.2.1.1, 3060, .inl (aI fr))), (w0, .inl (G.2.1.1, 3060, .inl (aI fw)))] [.ref h0, .int (zI row)] (by decide) rfl rfl ?_ z9
  intro p e s m args below meth c A ls H locs hF hr hlocks hinit hP hK hD hA hS hBd hl
  have hF : wFx p m c cX5_addRow 2 s args wsX5_addRow RX5 := hF
  have hl : lv_has ls 2 [(0, .ref h0), (1, .int (zI row))] := hl
  have hx := hF.1
  have hb := hF.2.1
  obtain ⟨Q0, hQ⟩ : ∃ q, q = (MQ below (wQv G (fun (u : Unit) => True) (fun (u : Unit) => [(h0, .inr (5, [.ref tk, .ref r0, .ref w0, .ref c1, .ref i0, .ref p0, .int (zI sd), .int (zI (cnt + 1)), .int (zI ln), .int (zI (if up fw cnt (wth b sd) gr < wth b sd then cnt else gr))])), (tk, .inr (0, [.ref ta])), (ta, .inl (G.2.1.1, 52, .inl (aI b))), (r0, .inl (G.2.1.1, 3060, .inl (aI (up fr cnt row)))), (w0, .inl (G.2.1.1, 3060, .inl (aI (up fw cnt (wth b sd)))))]) A) args s 0 0 A) := ⟨_, rfl⟩
  rw [← hQ]
  have i_wsX50 : ∀ w ∈ wsX50, w ∈ wsX5_addRow := (fun _ h => (List.mem_cons_of_mem _ (List.mem_append_left _ (List.mem_append_right _ h))))
  have kf_12 : (Cond.fieldLink RX5 12 "Gammonry$Plays" "track" "LGammonry$Board;").before args s = true := hF.2.2.2.2 _ (List.mem_cons_of_mem _ (List.mem_append_left _ (List.mem_append_left _ (List.mem_of_getElem? (i := 3) rfl))))
  have kf_18 : (Cond.fieldLink RX5 18 "Gammonry$Plays" "rows" "[I").before args s = true := hF.2.2.2.2 _ (List.mem_cons_of_mem _ (List.mem_append_left _ (List.mem_append_left _ (List.mem_of_getElem? (i := 1) rfl))))
  have kf_22 : (Cond.fieldLink RX5 22 "Gammonry$Plays" "worths" "[I").before args s = true := hF.2.2.2.2 _ (List.mem_cons_of_mem _ (List.mem_append_left _ (List.mem_append_left _ (List.mem_of_getElem? (i := 2) rfl))))
  have kf_35 : (Cond.fieldLink RX5 35 "Gammonry$Plays" "side" "I").before args s = true := hF.2.2.2.2 _ (List.mem_cons_of_mem _ (List.mem_append_left _ (List.mem_append_left _ (List.mem_of_getElem? (i := 4) rfl))))
  have kf_39 : (Cond.fieldLink RX5 39 "Gammonry$Plays" "count" "I").before args s = true := hF.2.2.2.2 _ (List.mem_cons_of_mem _ (List.mem_append_left _ (List.mem_append_left _ (List.mem_of_getElem? (i := 0) rfl))))
  have kf_45 : (Cond.fieldLink RX5 45 "Gammonry$Plays" "greatest" "I").before args s = true := hF.2.2.2.2 _ (List.mem_cons_of_mem _ (List.mem_append_left _ (List.mem_append_left _ (List.mem_of_getElem? (i := 5) rfl))))
  refine lv_aload_n hx hb dX5_addRow_0 rfl (lv_at hl 0 rfl) ?_
  refine z_get (k := 7) hF hK hP 0 rfl rfl i_wsX50 (by decide) kf_39 rfl dX5_addRow_1 ?_
  refine z_if_lt (tgt := 17) hF dX5_addRow_4 (by decide) (by omega) (fun c_1 => ?_) (fun c_1 => ?_)
  · exfalso; omega
  · have hc_4 := c_1
    refine lv_aload_n hx hb dX5_addRow_7 rfl (lv_at hl 0 rfl) ?_
    refine z_get (k := 7) hF hK hP 0 rfl rfl i_wsX50 (by decide) kf_39 rfl dX5_addRow_8 ?_
    refine z_sipush hF dX5_addRow_11 (by decide) ?_
    refine z_icmp_lt (tgt := 18) hF dX5_addRow_14 (by decide) (by omega) (by decide) (fun c_2 => ?_) (fun c_2 => ?_)
    · have hc_14 := c_2
      refine lv_aload_n hx hb dX5_addRow_18 rfl (lv_at hl 0 rfl) ?_
      refine z_get (k := 1) hF hK hP 0 rfl rfl i_wsX50 (by decide) kf_18 rfl dX5_addRow_19 ?_
      refine lv_aload_n hx hb dX5_addRow_22 rfl (lv_at hl 0 rfl) ?_
      refine z_get (k := 7) hF hK hP 0 rfl rfl i_wsX50 (by decide) kf_39 rfl dX5_addRow_23 ?_
      refine lv_iload_n hx hb dX5_addRow_26 rfl (lv_at hl 1 rfl) ?_
      refine z_iast hF hK hP hD hS 3 rfl (by omega) rfl dX5_addRow_27 (fun H locs hP hD hS => ?_)
      have hP : va_P G.1 vwCl [(h0, .inr (5, [.ref tk, .ref r0, .ref w0, .ref c1, .ref i0, .ref p0, .int (zI sd), .int (zI cnt), .int (zI ln), .int (zI gr)])), (tk, .inr (0, [.ref ta])), (ta, .inl (G.2.1.1, 52, .inl (aI b))), (r0, .inl (G.2.1.1, 3060, .inl (aI (up fr cnt row)))), (w0, .inl (G.2.1.1, 3060, .inl (aI fw)))] H := hP
      have hD : va_D A [(h0, .inr (5, [.ref tk, .ref r0, .ref w0, .ref c1, .ref i0, .ref p0, .int (zI sd), .int (zI cnt), .int (zI ln), .int (zI gr)])), (tk, .inr (0, [.ref ta])), (ta, .inl (G.2.1.1, 52, .inl (aI b))), (r0, .inl (G.2.1.1, 3060, .inl (aI (up fr cnt row)))), (w0, .inl (G.2.1.1, 3060, .inl (aI fw)))] := hD
      refine lv_aload_n hx hb dX5_addRow_28 rfl (lv_at hl 0 rfl) ?_
      refine z_get (k := 2) hF hK hP 0 rfl rfl i_wsX50 (by decide) kf_22 rfl dX5_addRow_29 ?_
      refine lv_aload_n hx hb dX5_addRow_32 rfl (lv_at hl 0 rfl) ?_
      refine z_get (k := 7) hF hK hP 0 rfl rfl i_wsX50 (by decide) kf_39 rfl dX5_addRow_33 ?_
      refine lv_aload_n hx hb dX5_addRow_36 rfl (lv_at hl 0 rfl) ?_
      refine z_get (k := 0) hF hK hP 0 rfl rfl i_wsX50 (by decide) kf_12 rfl dX5_addRow_37 ?_
      refine lv_aload_n hx hb dX5_addRow_40 rfl (lv_at hl 0 rfl) ?_
      refine z_get (k := 6) hF hK hP 0 rfl rfl i_wsX50 (by decide) kf_35 rfl dX5_addRow_41 ?_
      refine cj_i (va_runV (As := [.int (zI sd)]) (rest := [.int (zI cnt), .ref w0]) hF (c_X0_worthFor l G tk ta b sd  (by omega) hok H.size) (cwV 1 hF.2.2.2.2 gX5_addRow_X0_worthFor rfl rfl rfl (by decide +kernel) ⟨Nat.le_of_ble_eq_true rfl, Nat.le_of_ble_eq_true rfl⟩) (z_preV hK hP hD hS hA hBd [1, 2] rfl rfl rfl rfl [.int (zI sd)]) rfl rfl hl.1 rfl (lv_room (Nat.le_of_ble_eq_true rfl)) dX5_addRow_44 ⟨Nat.le_of_ble_eq_true rfl, Nat.le_of_ble_eq_true rfl⟩) hP hD hS hA [1, 2] rfl (fun _ => Nat.le_of_ble_eq_true rfl) (fun r_4 u_3 H locs hw hP hD hS => ?_)
      have hP : va_P G.1 vwCl [(h0, .inr (5, [.ref tk, .ref r0, .ref w0, .ref c1, .ref i0, .ref p0, .int (zI sd), .int (zI cnt), .int (zI ln), .int (zI gr)])), (tk, .inr (0, [.ref ta])), (ta, .inl (G.2.1.1, 52, .inl (aI b))), (r0, .inl (G.2.1.1, 3060, .inl (aI (up fr cnt row)))), (w0, .inl (G.2.1.1, 3060, .inl (aI fw)))] H := hP
      have hD : va_D A [(h0, .inr (5, [.ref tk, .ref r0, .ref w0, .ref c1, .ref i0, .ref p0, .int (zI sd), .int (zI cnt), .int (zI ln), .int (zI gr)])), (tk, .inr (0, [.ref ta])), (ta, .inl (G.2.1.1, 52, .inl (aI b))), (r0, .inl (G.2.1.1, 3060, .inl (aI (up fr cnt row)))), (w0, .inl (G.2.1.1, 3060, .inl (aI fw)))] := hD
      obtain rfl := hw
      refine z_iast hF hK hP hD hS 4 rfl (by omega) rfl dX5_addRow_47 (fun H locs hP hD hS => ?_)
      have hP : va_P G.1 vwCl [(h0, .inr (5, [.ref tk, .ref r0, .ref w0, .ref c1, .ref i0, .ref p0, .int (zI sd), .int (zI cnt), .int (zI ln), .int (zI gr)])), (tk, .inr (0, [.ref ta])), (ta, .inl (G.2.1.1, 52, .inl (aI b))), (r0, .inl (G.2.1.1, 3060, .inl (aI (up fr cnt row)))), (w0, .inl (G.2.1.1, 3060, .inl (aI (up fw cnt (wth b sd)))))] H := hP
      have hD : va_D A [(h0, .inr (5, [.ref tk, .ref r0, .ref w0, .ref c1, .ref i0, .ref p0, .int (zI sd), .int (zI cnt), .int (zI ln), .int (zI gr)])), (tk, .inr (0, [.ref ta])), (ta, .inl (G.2.1.1, 52, .inl (aI b))), (r0, .inl (G.2.1.1, 3060, .inl (aI (up fr cnt row)))), (w0, .inl (G.2.1.1, 3060, .inl (aI (up fw cnt (wth b sd)))))] := hD
      refine lv_aload_n hx hb dX5_addRow_48 rfl (lv_at hl 0 rfl) ?_
      refine z_get (k := 2) hF hK hP 0 rfl rfl i_wsX50 (by decide) kf_22 rfl dX5_addRow_49 ?_
      refine lv_aload_n hx hb dX5_addRow_52 rfl (lv_at hl 0 rfl) ?_
      refine z_get (k := 7) hF hK hP 0 rfl rfl i_wsX50 (by decide) kf_39 rfl dX5_addRow_53 ?_
      refine z_iald hF hK hP 4 rfl (by omega) rfl dX5_addRow_56 ?_
      refine z_tz (b := (wth b sd)) (up_s _ _ _) ?_
      refine lv_aload_n hx hb dX5_addRow_57 rfl (lv_at hl 0 rfl) ?_
      refine cj_i (va_runV (As := []) (rest := [.int (zI (wth b sd))]) hF (c_X5_greatestWorth l G h0 tk r0 w0 c1 i0 p0 (up fw cnt (wth b sd)) sd cnt ln gr  (by omega) H.size) (cwV 0 hF.2.2.2.2 gX5_addRow_X5_greatestWorth rfl rfl rfl (by decide +kernel) ⟨Nat.le_of_ble_eq_true rfl, Nat.le_of_ble_eq_true rfl⟩) (z_preV hK hP hD hS hA hBd [0, 4] rfl rfl rfl rfl []) rfl rfl hl.1 rfl (lv_room (Nat.le_of_ble_eq_true rfl)) dX5_addRow_58 ⟨Nat.le_of_ble_eq_true rfl, Nat.le_of_ble_eq_true rfl⟩) hP hD hS hA [0, 4] rfl (fun _ => Nat.le_of_ble_eq_true rfl) (fun r_6 u_5 H locs hw hP hD hS => ?_)
      have hP : va_P G.1 vwCl [(h0, .inr (5, [.ref tk, .ref r0, .ref w0, .ref c1, .ref i0, .ref p0, .int (zI sd), .int (zI cnt), .int (zI ln), .int (zI gr)])), (tk, .inr (0, [.ref ta])), (ta, .inl (G.2.1.1, 52, .inl (aI b))), (r0, .inl (G.2.1.1, 3060, .inl (aI (up fr cnt row)))), (w0, .inl (G.2.1.1, 3060, .inl (aI (up fw cnt (wth b sd)))))] H := hP
      have hD : va_D A [(h0, .inr (5, [.ref tk, .ref r0, .ref w0, .ref c1, .ref i0, .ref p0, .int (zI sd), .int (zI cnt), .int (zI ln), .int (zI gr)])), (tk, .inr (0, [.ref ta])), (ta, .inl (G.2.1.1, 52, .inl (aI b))), (r0, .inl (G.2.1.1, 3060, .inl (aI (up fr cnt row)))), (w0, .inl (G.2.1.1, 3060, .inl (aI (up fw cnt (wth b sd)))))] := hD
      obtain rfl := hw
      have q6 := up_rg (k := cnt) hfw hwt gr
      refine z_icmp_le (tgt := 72) hF dX5_addRow_61 (by decide) (by omega) (by omega) (fun c_7 => ?_) (fun c_7 => ?_)
      · have hc_61 := c_7
        refine lv_aload_n hx hb dX5_addRow_72 rfl (lv_at hl 0 rfl) ?_
        refine lv_dup hx hb dX5_addRow_73 rfl ?_
        refine z_get (k := 7) hF hK hP 0 rfl rfl i_wsX50 (by decide) kf_39 rfl dX5_addRow_74 ?_
        refine z_iconst hF dX5_addRow_77 ?_
        refine z_iadd hF dX5_addRow_78 ?_
        refine z_put (k := 7) hF hK hP hD hS 0 rfl rfl i_wsX50 (by decide) tyX5 tyX5_ok nmX5 rfl kf_39 rfl rfl (Nat.le_of_ble_eq_true rfl) dX5_addRow_79 (fun H locs hP hD hS => ?_)
        have hP : va_P G.1 vwCl [(h0, .inr (5, [.ref tk, .ref r0, .ref w0, .ref c1, .ref i0, .ref p0, .int (zI sd), .int (zI (cnt + 1)), .int (zI ln), .int (zI gr)])), (tk, .inr (0, [.ref ta])), (ta, .inl (G.2.1.1, 52, .inl (aI b))), (r0, .inl (G.2.1.1, 3060, .inl (aI (up fr cnt row)))), (w0, .inl (G.2.1.1, 3060, .inl (aI (up fw cnt (wth b sd)))))] H := hP
        have hD : va_D A [(h0, .inr (5, [.ref tk, .ref r0, .ref w0, .ref c1, .ref i0, .ref p0, .int (zI sd), .int (zI (cnt + 1)), .int (zI ln), .int (zI gr)])), (tk, .inr (0, [.ref ta])), (ta, .inl (G.2.1.1, 52, .inl (aI b))), (r0, .inl (G.2.1.1, 3060, .inl (aI (up fr cnt row)))), (w0, .inl (G.2.1.1, 3060, .inl (aI (up fw cnt (wth b sd)))))] := hD
        have hP : va_P G.1 vwCl [(h0, .inr (5, [.ref tk, .ref r0, .ref w0, .ref c1, .ref i0, .ref p0, .int (zI sd), .int (zI (cnt + 1)), .int (zI ln), .int (zI (if up fw cnt (wth b sd) gr < wth b sd then cnt else gr))])), (tk, .inr (0, [.ref ta])), (ta, .inl (G.2.1.1, 52, .inl (aI b))), (r0, .inl (G.2.1.1, 3060, .inl (aI (up fr cnt row)))), (w0, .inl (G.2.1.1, 3060, .inl (aI (up fw cnt (wth b sd)))))] H := by rw [show ((if up fw cnt (wth b sd) gr < wth b sd then cnt else gr) : Int) = gr from (if_neg (by omega))]; exact hP
        have hD : va_D A [(h0, .inr (5, [.ref tk, .ref r0, .ref w0, .ref c1, .ref i0, .ref p0, .int (zI sd), .int (zI (cnt + 1)), .int (zI ln), .int (zI (if up fw cnt (wth b sd) gr < wth b sd then cnt else gr))])), (tk, .inr (0, [.ref ta])), (ta, .inl (G.2.1.1, 52, .inl (aI b))), (r0, .inl (G.2.1.1, 3060, .inl (aI (up fr cnt row)))), (w0, .inl (G.2.1.1, 3060, .inl (aI (up fw cnt (wth b sd)))))] := by rw [show ((if up fw cnt (wth b sd) gr < wth b sd then cnt else gr) : Int) = gr from (if_neg (by omega))]; exact hD
        rw [hQ]
        exact z_vret hF hr hlocks () (trivial) hP hK hD hS dX5_addRow_82
      · have hc_61 := c_7
        refine lv_aload_n hx hb dX5_addRow_64 rfl (lv_at hl 0 rfl) ?_
        refine lv_aload_n hx hb dX5_addRow_65 rfl (lv_at hl 0 rfl) ?_
        refine z_get (k := 7) hF hK hP 0 rfl rfl i_wsX50 (by decide) kf_39 rfl dX5_addRow_66 ?_
        refine z_put (k := 9) hF hK hP hD hS 0 rfl rfl i_wsX50 (by decide) tyX5 tyX5_ok nmX5 rfl kf_45 rfl rfl (Nat.le_of_ble_eq_true rfl) dX5_addRow_69 (fun H locs hP hD hS => ?_)
        have hP : va_P G.1 vwCl [(h0, .inr (5, [.ref tk, .ref r0, .ref w0, .ref c1, .ref i0, .ref p0, .int (zI sd), .int (zI cnt), .int (zI ln), .int (zI cnt)])), (tk, .inr (0, [.ref ta])), (ta, .inl (G.2.1.1, 52, .inl (aI b))), (r0, .inl (G.2.1.1, 3060, .inl (aI (up fr cnt row)))), (w0, .inl (G.2.1.1, 3060, .inl (aI (up fw cnt (wth b sd)))))] H := hP
        have hD : va_D A [(h0, .inr (5, [.ref tk, .ref r0, .ref w0, .ref c1, .ref i0, .ref p0, .int (zI sd), .int (zI cnt), .int (zI ln), .int (zI cnt)])), (tk, .inr (0, [.ref ta])), (ta, .inl (G.2.1.1, 52, .inl (aI b))), (r0, .inl (G.2.1.1, 3060, .inl (aI (up fr cnt row)))), (w0, .inl (G.2.1.1, 3060, .inl (aI (up fw cnt (wth b sd)))))] := hD
        refine lv_aload_n hx hb dX5_addRow_72 rfl (lv_at hl 0 rfl) ?_
        refine lv_dup hx hb dX5_addRow_73 rfl ?_
        refine z_get (k := 7) hF hK hP 0 rfl rfl i_wsX50 (by decide) kf_39 rfl dX5_addRow_74 ?_
        refine z_iconst hF dX5_addRow_77 ?_
        refine z_iadd hF dX5_addRow_78 ?_
        refine z_put (k := 7) hF hK hP hD hS 0 rfl rfl i_wsX50 (by decide) tyX5 tyX5_ok nmX5 rfl kf_39 rfl rfl (Nat.le_of_ble_eq_true rfl) dX5_addRow_79 (fun H locs hP hD hS => ?_)
        have hP : va_P G.1 vwCl [(h0, .inr (5, [.ref tk, .ref r0, .ref w0, .ref c1, .ref i0, .ref p0, .int (zI sd), .int (zI (cnt + 1)), .int (zI ln), .int (zI cnt)])), (tk, .inr (0, [.ref ta])), (ta, .inl (G.2.1.1, 52, .inl (aI b))), (r0, .inl (G.2.1.1, 3060, .inl (aI (up fr cnt row)))), (w0, .inl (G.2.1.1, 3060, .inl (aI (up fw cnt (wth b sd)))))] H := hP
        have hD : va_D A [(h0, .inr (5, [.ref tk, .ref r0, .ref w0, .ref c1, .ref i0, .ref p0, .int (zI sd), .int (zI (cnt + 1)), .int (zI ln), .int (zI cnt)])), (tk, .inr (0, [.ref ta])), (ta, .inl (G.2.1.1, 52, .inl (aI b))), (r0, .inl (G.2.1.1, 3060, .inl (aI (up fr cnt row)))), (w0, .inl (G.2.1.1, 3060, .inl (aI (up fw cnt (wth b sd)))))] := hD
        have hP : va_P G.1 vwCl [(h0, .inr (5, [.ref tk, .ref r0, .ref w0, .ref c1, .ref i0, .ref p0, .int (zI sd), .int (zI (cnt + 1)), .int (zI ln), .int (zI (if up fw cnt (wth b sd) gr < wth b sd then cnt else gr))])), (tk, .inr (0, [.ref ta])), (ta, .inl (G.2.1.1, 52, .inl (aI b))), (r0, .inl (G.2.1.1, 3060, .inl (aI (up fr cnt row)))), (w0, .inl (G.2.1.1, 3060, .inl (aI (up fw cnt (wth b sd)))))] H := by rw [show ((if up fw cnt (wth b sd) gr < wth b sd then cnt else gr) : Int) = cnt from (if_pos (by omega))]; exact hP
        have hD : va_D A [(h0, .inr (5, [.ref tk, .ref r0, .ref w0, .ref c1, .ref i0, .ref p0, .int (zI sd), .int (zI (cnt + 1)), .int (zI ln), .int (zI (if up fw cnt (wth b sd) gr < wth b sd then cnt else gr))])), (tk, .inr (0, [.ref ta])), (ta, .inl (G.2.1.1, 52, .inl (aI b))), (r0, .inl (G.2.1.1, 3060, .inl (aI (up fr cnt row)))), (w0, .inl (G.2.1.1, 3060, .inl (aI (up fw cnt (wth b sd)))))] := by rw [show ((if up fw cnt (wth b sd) gr < wth b sd then cnt else gr) : Int) = cnt from (if_pos (by omega))]; exact hD
        rw [hQ]
        exact z_vret hF hr hlocks () (trivial) hP hK hD hS dX5_addRow_82
    · exfalso; omega
set_option maxHeartbeats 4000000 in
set_option maxRecDepth 100000 in
theorem c_X5_changeBy (l : Launch) (G : wG) (h0 tk r0 w0 c1 i0 p0 : Nat) (sd cnt ln gr x d : Int)  (hx5 : 1 ≤ x ∧ x ≤ 25) (hd6 : 1 ≤ d ∧ d ≤ 6) (z9 : Nat) : Met l yX5_changeBy wsX5_changeBy (rmL 2 0 0) (wPc G [(h0, .inr (5, [.ref tk, .ref r0, .ref w0, .ref c1, .ref i0, .ref p0, .int (zI sd), .int (zI cnt), .int (zI ln), .int (zI gr)])), (p0, .inl (G.2.1.2.1, 26, .inr (.inl (aL p5))))] z9 [.ref h0, .int (zI x), .int (zI d)]) (wQl G (fun (r : Int64) (u : Unit) => r = zL (p5 (toP x d) - p5 x)) (fun (u : Unit) => [(h0, .inr (5, [.ref tk, .ref r0, .ref w0, .ref c1, .ref i0, .ref p0, .int (zI sd), .int (zI cnt), .int (zI ln), .int (zI gr)])), (p0, .inl (G.2.1.2.1, 26, .inr (.inl (aL p5))))]) (va_A [(h0, .inr (5, [.ref tk, .ref r0, .ref w0, .ref c1, .ref i0, .ref p0, .int (zI sd), .int (zI cnt), .int (zI ln), .int (zI gr)])), (p0, .inl (G.2.1.2.1, 26, .inr (.inl (aL p5))))] z9)) 0 0 (va_A [(h0, .inr (5, [.ref tk, .ref r0, .ref w0, .ref c1, .ref i0, .ref p0, .int (zI sd), .int (zI cnt), .int (zI ln), .int (zI gr)])), (p0, .inl (G.2.1.2.1, 26, .inr (.inl (aL p5))))] z9) := by
  refine z_ofW (Qc := fun A => wQl G (fun (r : Int64) (u : Unit) => r = zL (p5 (toP x d) - p5 x)) (fun (u : Unit) => [(h0, .inr (5, [.ref tk, .ref r0, .ref w0, .ref c1, .ref i0, .ref p0, .int (zI sd), .int (zI cnt), .int (zI ln), .int (zI gr)])), (p0, .inl (G.2.1.2.1, 26, .inr (.inl (aL p5))))]) A) l G [(h0, .inr (5, [.ref tk, .ref r0, .ref w0, .ref c1, .ref i0, .ref p0, .int (zI sd), .int (zI cnt), .int (zI ln), .int (zI gr)])), (p0, .inl (G.2.1.2.1, 26, .inr (.inl (aL p5))))] [.ref h0, .int (zI x), .int (zI d)] (by decide) rfl rfl ?_ z9
  intro p e s m args below meth c A ls H locs hF hr hlocks hinit hP hK hD hA hS hBd hl
  have hF : wFx p m c cX5_changeBy 4 s args wsX5_changeBy RX5 := hF
  have hl : lv_has ls 4 [(0, .ref h0), (1, .int (zI x)), (2, .int (zI d))] := hl
  have hx := hF.1
  have hb := hF.2.1
  obtain ⟨Q0, hQ⟩ : ∃ q, q = (MQ below (wQl G (fun (r : Int64) (u : Unit) => r = zL (p5 (toP x d) - p5 x)) (fun (u : Unit) => [(h0, .inr (5, [.ref tk, .ref r0, .ref w0, .ref c1, .ref i0, .ref p0, .int (zI sd), .int (zI cnt), .int (zI ln), .int (zI gr)])), (p0, .inl (G.2.1.2.1, 26, .inr (.inl (aL p5))))]) A) args s 0 0 A) := ⟨_, rfl⟩
  rw [← hQ]
  have i_wsX50 : ∀ w ∈ wsX50, w ∈ wsX5_changeBy := (fun _ h => (List.mem_cons_of_mem _ (List.mem_append_right _ h)))
  have kf_32 : (Cond.fieldLink RX5 32 "Gammonry$Plays" "powers" "[J").before args s = true := hF.2.2.2.2 _ (List.mem_cons_of_mem _ (List.mem_append_left _ (List.mem_of_getElem? (i := 4) rfl)))
  have km_121 : (Cond.methodLink RX5 121 Lib.Math.max.name).before args s = true := hF.2.2.2.2 _ (List.mem_cons_of_mem _ (List.mem_append_left _ (List.mem_of_getElem? (i := 0) rfl)))
  have kq_max : (Cond.code Lib.Math.max.name Lib.Math.max.code 2 (some .int)).before args s = true := hF.2.2.2.2 _ (List.mem_cons_of_mem _ (List.mem_append_left _ (List.mem_of_getElem? (i := 3) rfl)))
  have ks_max : (Cond.static Lib.Math.max.name).before args s = true := hF.2.2.2.2 _ (List.mem_cons_of_mem _ (List.mem_append_left _ (List.mem_of_getElem? (i := 1) rfl)))
  have kt_Math : (Cond.initialized "java/lang/Math").before args s = true := hF.2.2.2.2 _ (List.mem_cons_of_mem _ (List.mem_append_left _ (List.mem_of_getElem? (i := 2) rfl)))
  have ht := toP_rg (fr := x) (d := d) (by omega)
  refine lv_iload_n hx hb dX5_changeBy_0 rfl (lv_at hl 1 rfl) ?_
  refine lv_iload_n hx hb dX5_changeBy_1 rfl (lv_at hl 2 rfl) ?_
  refine z_isub hF dX5_changeBy_2 ?_
  refine z_iconst hF dX5_changeBy_3 ?_
  refine z_max hF km_121 ks_max kt_Math kq_max hl.1 (Nat.le_of_ble_eq_true rfl) (Nat.le_of_ble_eq_true rfl) (Nat.le_of_ble_eq_true rfl) (Nat.le_of_ble_eq_true rfl) (by omega) (by decide) dX5_changeBy_4 ?_
  refine z_tz (b := (toP x d)) (zmax_to x d) ?_
  refine lv_istore_n (lv' := [(3, .int (zI (toP x d))), (0, .ref h0), (1, .int (zI x)), (2, .int (zI d))]) hx hb dX5_changeBy_7 rfl hl (by decide) rfl (fun ls hl => ?_)
  refine lv_iload_n hx hb dX5_changeBy_8 rfl (lv_at hl 2 rfl) ?_
  refine z_if_lt (tgt := 24) hF dX5_changeBy_9 (by decide) (by omega) (fun c_1 => ?_) (fun c_1 => ?_)
  · exfalso; omega
  · have hc_9 := c_1
    refine lv_iload_n hx hb dX5_changeBy_12 rfl (lv_at hl 2 rfl) ?_
    refine z_bipush hF dX5_changeBy_13 (by decide) ?_
    refine z_icmp_ge (tgt := 24) hF dX5_changeBy_15 (by decide) (by omega) (by decide) (fun c_2 => ?_) (fun c_2 => ?_)
    · exfalso; omega
    · have hc_15 := c_2
      refine lv_iload_n hx hb dX5_changeBy_18 rfl (lv_at hl 0 rfl) ?_
      refine z_bipush hF dX5_changeBy_19 (by decide) ?_
      refine z_icmp_lt (tgt := 26) hF dX5_changeBy_21 (by decide) (by omega) (by decide) (fun c_3 => ?_) (fun c_3 => ?_)
      · have hc_21 := c_3
        refine lv_aload_n hx hb dX5_changeBy_26 rfl (lv_at hl 1 rfl) ?_
        refine z_get (k := 5) hF hK hP 0 rfl rfl i_wsX50 (by decide) kf_32 rfl dX5_changeBy_27 ?_
        refine lv_iload_n hx hb dX5_changeBy_30 rfl (lv_at hl 0 rfl) ?_
        refine z_lald hF hK hP 1 rfl (by omega) rfl dX5_changeBy_31 ?_
        refine lv_aload_n hx hb dX5_changeBy_32 rfl (lv_at hl 1 rfl) ?_
        refine z_get (k := 5) hF hK hP 0 rfl rfl i_wsX50 (by decide) kf_32 rfl dX5_changeBy_33 ?_
        refine lv_iload_n hx hb dX5_changeBy_36 rfl (lv_at hl 2 rfl) ?_
        refine z_lald hF hK hP 1 rfl (by omega) rfl dX5_changeBy_37 ?_
        refine z_lsub hF dX5_changeBy_38 ?_
        rw [hQ]
        exact z_lret hF hr hlocks () (rfl) hP hK hD hS dX5_changeBy_39
      · exfalso; omega
set_option maxHeartbeats 4000000 in
set_option maxRecDepth 100000 in
theorem c_X5_hitPoint (l : Launch) (G : wG) (x d w : Int)  (hw01 : 0 ≤ w ∧ w ≤ 1) (hxd : w ≠ 0 → 0 ≤ x - d ∧ x - d ≤ 24) (hr_x : -2147483648 ≤ x ∧ x < 2147483648) (hr_d : -2147483648 ≤ d ∧ d < 2147483648) (z9 : Nat) : Met l yX5_hitPoint wsX5_hitPoint (rmL 1 0 0) (wPc G [] z9 [.int (zI x), .int (zI d), .int (zI w)]) (wQi G (fun (r : Int32) (u : Unit) => r = zI (hpW x d w)) (fun (u : Unit) => []) (va_A [] z9)) 0 0 (va_A [] z9) := by
  refine z_ofW (Qc := fun A => wQi G (fun (r : Int32) (u : Unit) => r = zI (hpW x d w)) (fun (u : Unit) => []) A) l G [] [.int (zI x), .int (zI d), .int (zI w)] (by decide) rfl rfl ?_ z9
  intro p e s m args below meth c A ls H locs hF hr hlocks hinit hP hK hD hA hS hBd hl
  have hF : wFx p m c cX5_hitPoint 3 s args wsX5_hitPoint RX5 := hF
  have hl : lv_has ls 3 [(0, .int (zI x)), (1, .int (zI d)), (2, .int (zI w))] := hl
  have hx := hF.1
  have hb := hF.2.1
  obtain ⟨Q0, hQ⟩ : ∃ q, q = (MQ below (wQi G (fun (r : Int32) (u : Unit) => r = zI (hpW x d w)) (fun (u : Unit) => []) A) args s 0 0 A) := ⟨_, rfl⟩
  rw [← hQ]
  refine lv_iload_n hx hb dX5_hitPoint_0 rfl (lv_at hl 2 rfl) ?_
  refine z_if_eq (tgt := 12) hF dX5_hitPoint_1 (by decide) (by omega) (fun c_1 => ?_) (fun c_1 => ?_)
  · have hc_1 := c_1
    refine z_iconst hF dX5_hitPoint_12 ?_
    rw [hQ]
    exact z_iret hF hr hlocks () (by first | rfl | (unfold hpW; rw [if_pos (by omega)])) hP hK hD hS dX5_hitPoint_13
  · have hc_1 := c_1
    refine z_iconst hF dX5_hitPoint_4 ?_
    refine lv_iload_n hx hb dX5_hitPoint_5 rfl (lv_at hl 0 rfl) ?_
    refine lv_iload_n hx hb dX5_hitPoint_6 rfl (lv_at hl 1 rfl) ?_
    refine z_isub hF dX5_hitPoint_7 ?_
    have hq9 := hxd (by omega)
    have h29 : (2 : Nat) ^ (x - d).toNat ≤ 16777216 := Nat.pow_le_pow_right (j := 24) (by decide) (by omega)
    refine lv_ishl hx hb dX5_hitPoint_8 ?_
    refine z_top (zI_shl (by decide) (by omega) (by rw [Int.one_mul]; exact Int.lt_of_le_of_lt (Int.ofNat_le.mpr h29) (by decide))) ?_
    refine z_tz (b := hpW x d w) (by unfold hpW; rw [if_neg (by omega), Int.one_mul]) ?_
    refine z_goto (tgt := 13) hF dX5_hitPoint_9 (by decide) ?_
    rw [hQ]
    exact z_iret hF hr hlocks () (by first | rfl | (unfold hpW; rw [if_pos (by omega)])) hP hK hD hS dX5_hitPoint_13
set_option maxHeartbeats 4000000 in
set_option maxRecDepth 100000 in
theorem c_X5_isNew (l : Launch) (G : wG) (h0 tk r0 w0 c1 i0 p0 : Nat) (fc fh : Int → Int) (sd cnt ln gr ch pt : Int)  (hcn : 0 ≤ cnt ∧ cnt < 450) (hfc : ∀ k, -2000000000000000000 ≤ fc k ∧ fc k ≤ 2000000000000000000) (hfh : ∀ k, 0 ≤ fh k ∧ fh k ≤ 1073741824) (hch : -2000000000000000000 ≤ ch ∧ ch ≤ 2000000000000000000) (hpt : 0 ≤ pt ∧ pt ≤ 1073741824) (z9 : Nat) : Met l yX5_isNew wsX5_isNew (rmL 1 0 0) (wPc G [(h0, .inr (5, [.ref tk, .ref r0, .ref w0, .ref c1, .ref i0, .ref p0, .int (zI sd), .int (zI cnt), .int (zI ln), .int (zI gr)])), (c1, .inl (G.2.1.2.1, 450, .inr (.inl (aL fc)))), (i0, .inl (G.2.1.1, 450, .inl (aI fh)))] z9 [.ref h0, .long (zL ch), .int (zI pt)]) (wQi G (fun (r : Int32) (u : Int) => (u = 0 ∧ (∃ i : Int, 0 ≤ i ∧ i < cnt ∧ fc i = ch ∧ fh i = pt) ∧ r = zI 0) ∨ (u = 1 ∧ (∀ i : Int, 0 ≤ i → i < cnt → ¬ (fc i = ch ∧ fh i = pt)) ∧ r = zI 1)) (fun (u : Int) => [(h0, .inr (5, [.ref tk, .ref r0, .ref w0, .ref c1, .ref i0, .ref p0, .int (zI sd), .int (zI cnt), .int (zI ln), .int (zI gr)])), (c1, .inl (G.2.1.2.1, 450, .inr (.inl (aL (if u = 0 then fc else up fc cnt ch))))), (i0, .inl (G.2.1.1, 450, .inl (aI (if u = 0 then fh else up fh cnt pt))))]) (va_A [(h0, .inr (5, [.ref tk, .ref r0, .ref w0, .ref c1, .ref i0, .ref p0, .int (zI sd), .int (zI cnt), .int (zI ln), .int (zI gr)])), (c1, .inl (G.2.1.2.1, 450, .inr (.inl (aL fc)))), (i0, .inl (G.2.1.1, 450, .inl (aI fh)))] z9)) 0 0 (va_A [(h0, .inr (5, [.ref tk, .ref r0, .ref w0, .ref c1, .ref i0, .ref p0, .int (zI sd), .int (zI cnt), .int (zI ln), .int (zI gr)])), (c1, .inl (G.2.1.2.1, 450, .inr (.inl (aL fc)))), (i0, .inl (G.2.1.1, 450, .inl (aI fh)))] z9) := by
  refine z_ofW (Qc := fun A => wQi G (fun (r : Int32) (u : Int) => (u = 0 ∧ (∃ i : Int, 0 ≤ i ∧ i < cnt ∧ fc i = ch ∧ fh i = pt) ∧ r = zI 0) ∨ (u = 1 ∧ (∀ i : Int, 0 ≤ i → i < cnt → ¬ (fc i = ch ∧ fh i = pt)) ∧ r = zI 1)) (fun (u : Int) => [(h0, .inr (5, [.ref tk, .ref r0, .ref w0, .ref c1, .ref i0, .ref p0, .int (zI sd), .int (zI cnt), .int (zI ln), .int (zI gr)])), (c1, .inl (G.2.1.2.1, 450, .inr (.inl (aL (if u = 0 then fc else up fc cnt ch))))), (i0, .inl (G.2.1.1, 450, .inl (aI (if u = 0 then fh else up fh cnt pt))))]) A) l G [(h0, .inr (5, [.ref tk, .ref r0, .ref w0, .ref c1, .ref i0, .ref p0, .int (zI sd), .int (zI cnt), .int (zI ln), .int (zI gr)])), (c1, .inl (G.2.1.2.1, 450, .inr (.inl (aL fc)))), (i0, .inl (G.2.1.1, 450, .inl (aI fh)))] [.ref h0, .long (zL ch), .int (zI pt)] (by decide) rfl rfl ?_ z9
  intro p e s m args below meth c A ls H locs hF hr hlocks hinit hP hK hD hA hS hBd hl
  have hF : wFx p m c cX5_isNew 5 s args wsX5_isNew RX5 := hF
  have hl : lv_has ls 5 [(0, .ref h0), (1, .long (zL ch)), (3, .int (zI pt))] := hl
  have hx := hF.1
  have hb := hF.2.1
  obtain ⟨Q0, hQ⟩ : ∃ q, q = (MQ below (wQi G (fun (r : Int32) (u : Int) => (u = 0 ∧ (∃ i : Int, 0 ≤ i ∧ i < cnt ∧ fc i = ch ∧ fh i = pt) ∧ r = zI 0) ∨ (u = 1 ∧ (∀ i : Int, 0 ≤ i → i < cnt → ¬ (fc i = ch ∧ fh i = pt)) ∧ r = zI 1)) (fun (u : Int) => [(h0, .inr (5, [.ref tk, .ref r0, .ref w0, .ref c1, .ref i0, .ref p0, .int (zI sd), .int (zI cnt), .int (zI ln), .int (zI gr)])), (c1, .inl (G.2.1.2.1, 450, .inr (.inl (aL (if u = 0 then fc else up fc cnt ch))))), (i0, .inl (G.2.1.1, 450, .inl (aI (if u = 0 then fh else up fh cnt pt))))]) A) args s 0 0 A) := ⟨_, rfl⟩
  rw [← hQ]
  have i_wsX50 : ∀ w ∈ wsX50, w ∈ wsX5_isNew := (fun _ h => (List.mem_cons_of_mem _ (List.mem_append_right _ h)))
  have kf_25 : (Cond.fieldLink RX5 25 "Gammonry$Plays" "changes" "[J").before args s = true := hF.2.2.2.2 _ (List.mem_cons_of_mem _ (List.mem_append_left _ (List.mem_of_getElem? (i := 1) rfl)))
  have kf_29 : (Cond.fieldLink RX5 29 "Gammonry$Plays" "hits" "[I").before args s = true := hF.2.2.2.2 _ (List.mem_cons_of_mem _ (List.mem_append_left _ (List.mem_of_getElem? (i := 2) rfl)))
  have kf_39 : (Cond.fieldLink RX5 39 "Gammonry$Plays" "count" "I").before args s = true := hF.2.2.2.2 _ (List.mem_cons_of_mem _ (List.mem_append_left _ (List.mem_of_getElem? (i := 0) rfl)))
  refine lv_aload_n hx hb dX5_isNew_0 rfl (lv_at hl 0 rfl) ?_
  refine z_get (k := 7) hF hK hP 0 rfl rfl i_wsX50 (by decide) kf_39 rfl dX5_isNew_1 ?_
  refine z_if_lt (tgt := 17) hF dX5_isNew_4 (by decide) (by omega) (fun c_1 => ?_) (fun c_1 => ?_)
  · exfalso; omega
  · have hc_4 := c_1
    refine lv_aload_n hx hb dX5_isNew_7 rfl (lv_at hl 0 rfl) ?_
    refine z_get (k := 7) hF hK hP 0 rfl rfl i_wsX50 (by decide) kf_39 rfl dX5_isNew_8 ?_
    refine z_sipush hF dX5_isNew_11 (by decide) ?_
    have L22 : ∀ (n9 : Nat) (i : Int), (cnt - i).toNat < n9 → (0 ≤ i ∧ i ≤ cnt) → (∀ k : Int, 0 ≤ k → k < i → ¬ (fc k = ch ∧ fh k = pt)) → ∀ (H : Heap) (locs : List Loc) (ls : Array Slot), va_P G.1 vwCl [(h0, .inr (5, [.ref tk, .ref r0, .ref w0, .ref c1, .ref i0, .ref p0, .int (zI sd), .int (zI cnt), .int (zI ln), .int (zI gr)])), (c1, .inl (G.2.1.2.1, 450, .inr (.inl (aL fc)))), (i0, .inl (G.2.1.1, 450, .inl (aI fh)))] H → va_D A [(h0, .inr (5, [.ref tk, .ref r0, .ref w0, .ref c1, .ref i0, .ref p0, .int (zI sd), .int (zI cnt), .int (zI ln), .int (zI gr)])), (c1, .inl (G.2.1.2.1, 450, .inr (.inl (aL fc)))), (i0, .inl (G.2.1.1, 450, .inl (aI fh)))] → va_S A s.heap H locs → lv_has ls 5 [(0, .ref h0), (1, .long (zL ch)), (3, .int (zI pt)), (4, .int (zI i))] → W p l e (rmL 1 0 0) s m args below meth c H locs 0 0 Q0 (F0 m 22 ls []) := by
      intro n9
      induction n9 with
      | zero => intro i hmu; omega
      | succ n9 ih22 =>
        intro i hmu22 hzi hzall H locs ls hP hD hS hl
        refine lv_iload hx hb dX5_isNew_22 (lv_at hl 3 rfl) ?_
        refine lv_aload_n hx hb dX5_isNew_24 rfl (lv_at hl 0 rfl) ?_
        refine z_get (k := 7) hF hK hP 0 rfl rfl i_wsX50 (by decide) kf_39 rfl dX5_isNew_25 ?_
        refine z_icmp_ge (tgt := 62) hF dX5_isNew_28 (by decide) (by omega) (by omega) (fun c_2 => ?_) (fun c_2 => ?_)
        · have hc_28 := c_2
          refine lv_aload_n hx hb dX5_isNew_62 rfl (lv_at hl 0 rfl) ?_
          refine z_get (k := 3) hF hK hP 0 rfl rfl i_wsX50 (by decide) kf_25 rfl dX5_isNew_63 ?_
          refine lv_aload_n hx hb dX5_isNew_66 rfl (lv_at hl 0 rfl) ?_
          refine z_get (k := 7) hF hK hP 0 rfl rfl i_wsX50 (by decide) kf_39 rfl dX5_isNew_67 ?_
          refine lv_lload_n hx hb dX5_isNew_70 rfl (lv_at hl 1 rfl) ?_
          refine z_last hF hK hP hD hS 1 rfl (by omega) rfl dX5_isNew_71 (fun H locs hP hD hS => ?_)
          have hP : va_P G.1 vwCl [(h0, .inr (5, [.ref tk, .ref r0, .ref w0, .ref c1, .ref i0, .ref p0, .int (zI sd), .int (zI cnt), .int (zI ln), .int (zI gr)])), (c1, .inl (G.2.1.2.1, 450, .inr (.inl (aL (up fc cnt ch))))), (i0, .inl (G.2.1.1, 450, .inl (aI fh)))] H := hP
          have hD : va_D A [(h0, .inr (5, [.ref tk, .ref r0, .ref w0, .ref c1, .ref i0, .ref p0, .int (zI sd), .int (zI cnt), .int (zI ln), .int (zI gr)])), (c1, .inl (G.2.1.2.1, 450, .inr (.inl (aL (up fc cnt ch))))), (i0, .inl (G.2.1.1, 450, .inl (aI fh)))] := hD
          refine lv_aload_n hx hb dX5_isNew_72 rfl (lv_at hl 0 rfl) ?_
          refine z_get (k := 4) hF hK hP 0 rfl rfl i_wsX50 (by decide) kf_29 rfl dX5_isNew_73 ?_
          refine lv_aload_n hx hb dX5_isNew_76 rfl (lv_at hl 0 rfl) ?_
          refine z_get (k := 7) hF hK hP 0 rfl rfl i_wsX50 (by decide) kf_39 rfl dX5_isNew_77 ?_
          refine lv_iload_n hx hb dX5_isNew_80 rfl (lv_at hl 2 rfl) ?_
          refine z_iast hF hK hP hD hS 2 rfl (by omega) rfl dX5_isNew_81 (fun H locs hP hD hS => ?_)
          have hP : va_P G.1 vwCl [(h0, .inr (5, [.ref tk, .ref r0, .ref w0, .ref c1, .ref i0, .ref p0, .int (zI sd), .int (zI cnt), .int (zI ln), .int (zI gr)])), (c1, .inl (G.2.1.2.1, 450, .inr (.inl (aL (up fc cnt ch))))), (i0, .inl (G.2.1.1, 450, .inl (aI (up fh cnt pt))))] H := hP
          have hD : va_D A [(h0, .inr (5, [.ref tk, .ref r0, .ref w0, .ref c1, .ref i0, .ref p0, .int (zI sd), .int (zI cnt), .int (zI ln), .int (zI gr)])), (c1, .inl (G.2.1.2.1, 450, .inr (.inl (aL (up fc cnt ch))))), (i0, .inl (G.2.1.1, 450, .inl (aI (up fh cnt pt))))] := hD
          refine z_iconst hF dX5_isNew_82 ?_
          rw [hQ]
          exact z_zret hF hr hlocks rfl (1 : Int) (Or.inr ⟨rfl, fun k h0 h1 => hzall k h0 (by omega), rfl⟩) hP hK hD hS dX5_isNew_83
        · have hc_28 := c_2
          refine lv_aload_n hx hb dX5_isNew_31 rfl (lv_at hl 0 rfl) ?_
          refine z_get (k := 3) hF hK hP 0 rfl rfl i_wsX50 (by decide) kf_25 rfl dX5_isNew_32 ?_
          refine lv_iload hx hb dX5_isNew_35 (lv_at hl 3 rfl) ?_
          refine z_lald hF hK hP 1 rfl (by omega) rfl dX5_isNew_37 ?_
          refine lv_lload_n hx hb dX5_isNew_38 rfl (lv_at hl 1 rfl) ?_
          refine z_lcmp hF (by have := hfc i; omega) (by omega) dX5_isNew_39 ?_
          have qcm_39 := cmZ_cs (fc i) ch
          refine z_if_ne (tgt := 56) hF dX5_isNew_40 (by decide) (by omega) (fun c_3 => ?_) (fun c_3 => ?_)
          · have hc_40 := c_3
            refine z_iinc (lv' := [(4, .int (zI (i + 1))), (0, .ref h0), (1, .long (zL ch)), (3, .int (zI pt))]) hF dX5_isNew_56 hl (k := 3) rfl (by decide) rfl (fun ls hl => ?_)
            refine z_goto (tgt := 22) hF dX5_isNew_59 (by decide) ?_
            exact ih22 (i + 1) (by omega) (by omega) (fun k h0 h1 => by first | omega | exact (if h9 : k = i then (fun h8 => by subst h9; first | exact hc_51 h8.2 | omega) else hzall k h0 (by omega))) H locs ls hP hD hS (lv_sub hl [1, 2, 3, 0] rfl)
          · have hc_40 := c_3
            refine lv_aload_n hx hb dX5_isNew_43 rfl (lv_at hl 0 rfl) ?_
            refine z_get (k := 4) hF hK hP 0 rfl rfl i_wsX50 (by decide) kf_29 rfl dX5_isNew_44 ?_
            refine lv_iload hx hb dX5_isNew_47 (lv_at hl 3 rfl) ?_
            refine z_iald hF hK hP 2 rfl (by omega) rfl dX5_isNew_49 ?_
            refine lv_iload_n hx hb dX5_isNew_50 rfl (lv_at hl 2 rfl) ?_
            refine z_icmp_ne (tgt := 56) hF dX5_isNew_51 (by decide) (by have := hfh i; omega) (by omega) (fun c_4 => ?_) (fun c_4 => ?_)
            · have hc_51 := c_4
              refine z_iinc (lv' := [(4, .int (zI (i + 1))), (0, .ref h0), (1, .long (zL ch)), (3, .int (zI pt))]) hF dX5_isNew_56 hl (k := 3) rfl (by decide) rfl (fun ls hl => ?_)
              refine z_goto (tgt := 22) hF dX5_isNew_59 (by decide) ?_
              exact ih22 (i + 1) (by omega) (by omega) (fun k h0 h1 => by first | omega | exact (if h9 : k = i then (fun h8 => by subst h9; first | exact hc_51 h8.2 | omega) else hzall k h0 (by omega))) H locs ls hP hD hS (lv_sub hl [1, 2, 3, 0] rfl)
            · have hc_51 := c_4
              refine z_iconst hF dX5_isNew_54 ?_
              rw [hQ]
              exact z_zret hF hr hlocks rfl (0 : Int) (Or.inl ⟨rfl, ⟨i, hzi.1, hc_28, by omega, hc_51⟩, rfl⟩) hP hK hD hS dX5_isNew_55
    refine z_icmp_lt (tgt := 19) hF dX5_isNew_14 (by decide) (by omega) (by decide) (fun c_5 => ?_) (fun c_5 => ?_)
    · have hc_14 := c_5
      refine z_iconst hF dX5_isNew_19 ?_
      refine lv_istore (lv' := [(4, .int (zI 0)), (0, .ref h0), (1, .long (zL ch)), (3, .int (zI pt))]) hx hb dX5_isNew_20 hl (by decide) rfl (fun ls hl => ?_)
      exact L22 _ 0 (Nat.lt_succ_self _) (by omega) (fun k h0 h1 => by first | omega | exact (if h9 : k = i then (fun h8 => by subst h9; first | exact hc_51 h8.2 | omega) else hzall k h0 (by omega))) H locs ls hP hD hS (lv_sub hl [1, 2, 3, 0] rfl)
    · exfalso; omega
set_option maxHeartbeats 4000000 in
set_option maxRecDepth 100000 in
theorem c_X5_addSeconds (l : Launch) (G : wG) (h0 tk ta r0 w0 c1 i0 p0 : Nat) (b0 fr fw fc fh : Int → Int) (sd cnt ln gr n0 f1 d1 d2 : Int) (L : List Row)  (hsd : 0 ≤ sd ∧ sd ≤ 1) (hn0 : n0 ≤ 15) (hvb : VB n0 b0) (hc1 : canP b0 sd f1 d1) (hd1 : 1 ≤ d1 ∧ d1 ≤ 6) (hd2 : 1 ≤ d2 ∧ d2 ≤ 6) (hRP : RepP b0 sd L fr fw cnt gr) (hRK : RepK b0 sd L fc fh) (hfc : ∀ k, -2000000000000000000 ≤ fc k ∧ fc k ≤ 2000000000000000000) (hfh : ∀ k, 0 ≤ fh k ∧ fh k ≤ 1073741824) (hcap : cnt + ((mvZ (stp b0 sd f1 d1) sd d2 25).length : Int) ≤ 450) (z9 : Nat) : Met l yX5_addSeconds wsX5_addSeconds (rmL 5 0 0) (wPc G [(h0, .inr (5, [.ref tk, .ref r0, .ref w0, .ref c1, .ref i0, .ref p0, .int (zI sd), .int (zI cnt), .int (zI ln), .int (zI gr)])), (tk, .inr (0, [.ref ta])), (ta, .inl (G.2.1.1, 52, .inl (aI (stp b0 sd f1 d1)))), (r0, .inl (G.2.1.1, 3060, .inl (aI fr))), (w0, .inl (G.2.1.1, 3060, .inl (aI fw))), (c1, .inl (G.2.1.2.1, 450, .inr (.inl (aL fc)))), (i0, .inl (G.2.1.1, 450, .inl (aI fh))), (p0, .inl (G.2.1.2.1, 26, .inr (.inl (aL p5))))] z9 [.ref h0, .int (zI f1), .int (zI d1), .int (zI (hwB b0 sd f1 d1)), .int (zI d2)]) (wQv G (fun (u : ((Int → Int) × (Int → Int) × (Int → Int) × (Int → Int) × Int × Int)) => RepP b0 sd (adSec sd b0 f1 d1 d2 L (mvZ (stp b0 sd f1 d1) sd d2 25)) u.1 u.2.1 u.2.2.2.2.1 u.2.2.2.2.2 ∧ RepK b0 sd (adSec sd b0 f1 d1 d2 L (mvZ (stp b0 sd f1 d1) sd d2 25)) u.2.2.1 u.2.2.2.1 ∧ (∀ k, -2000000000000000000 ≤ u.2.2.1 k ∧ u.2.2.1 k ≤ 2000000000000000000) ∧ (∀ k, 0 ≤ u.2.2.2.1 k ∧ u.2.2.2.1 k ≤ 1073741824) ∧ u.2.2.2.2.1 ≤ cnt + ((mvZ (stp b0 sd f1 d1) sd d2 25).length : Int)) (fun (u : ((Int → Int) × (Int → Int) × (Int → Int) × (Int → Int) × Int × Int)) => [(h0, .inr (5, [.ref tk, .ref r0, .ref w0, .ref c1, .ref i0, .ref p0, .int (zI sd), .int (zI u.2.2.2.2.1), .int (zI ln), .int (zI u.2.2.2.2.2)])), (tk, .inr (0, [.ref ta])), (ta, .inl (G.2.1.1, 52, .inl (aI (stp b0 sd f1 d1)))), (r0, .inl (G.2.1.1, 3060, .inl (aI u.1))), (w0, .inl (G.2.1.1, 3060, .inl (aI u.2.1))), (c1, .inl (G.2.1.2.1, 450, .inr (.inl (aL u.2.2.1)))), (i0, .inl (G.2.1.1, 450, .inl (aI u.2.2.2.1))), (p0, .inl (G.2.1.2.1, 26, .inr (.inl (aL p5))))]) (va_A [(h0, .inr (5, [.ref tk, .ref r0, .ref w0, .ref c1, .ref i0, .ref p0, .int (zI sd), .int (zI cnt), .int (zI ln), .int (zI gr)])), (tk, .inr (0, [.ref ta])), (ta, .inl (G.2.1.1, 52, .inl (aI (stp b0 sd f1 d1)))), (r0, .inl (G.2.1.1, 3060, .inl (aI fr))), (w0, .inl (G.2.1.1, 3060, .inl (aI fw))), (c1, .inl (G.2.1.2.1, 450, .inr (.inl (aL fc)))), (i0, .inl (G.2.1.1, 450, .inl (aI fh))), (p0, .inl (G.2.1.2.1, 26, .inr (.inl (aL p5))))] z9)) 0 0 (va_A [(h0, .inr (5, [.ref tk, .ref r0, .ref w0, .ref c1, .ref i0, .ref p0, .int (zI sd), .int (zI cnt), .int (zI ln), .int (zI gr)])), (tk, .inr (0, [.ref ta])), (ta, .inl (G.2.1.1, 52, .inl (aI (stp b0 sd f1 d1)))), (r0, .inl (G.2.1.1, 3060, .inl (aI fr))), (w0, .inl (G.2.1.1, 3060, .inl (aI fw))), (c1, .inl (G.2.1.2.1, 450, .inr (.inl (aL fc)))), (i0, .inl (G.2.1.1, 450, .inl (aI fh))), (p0, .inl (G.2.1.2.1, 26, .inr (.inl (aL p5))))] z9) := by
  refine z_ofW (Qc := fun A => wQv G (fun (u : ((Int → Int) × (Int → Int) × (Int → Int) × (Int → Int) × Int × Int)) => RepP b0 sd (adSec sd b0 f1 d1 d2 L (mvZ (stp b0 sd f1 d1) sd d2 25)) u.1 u.2.1 u.2.2.2.2.1 u.2.2.2.2.2 ∧ RepK b0 sd (adSec sd b0 f1 d1 d2 L (mvZ (stp b0 sd f1 d1) sd d2 25)) u.2.2.1 u.2.2.2.1 ∧ (∀ k, -2000000000000000000 ≤ u.2.2.1 k ∧ u.2.2.1 k ≤ 2000000000000000000) ∧ (∀ k, 0 ≤ u.2.2.2.1 k ∧ u.2.2.2.1 k ≤ 1073741824) ∧ u.2.2.2.2.1 ≤ cnt + ((mvZ (stp b0 sd f1 d1) sd d2 25).length : Int)) (fun (u : ((Int → Int) × (Int → Int) × (Int → Int) × (Int → Int) × Int × Int)) => [(h0, .inr (5, [.ref tk, .ref r0, .ref w0, .ref c1, .ref i0, .ref p0, .int (zI sd), .int (zI u.2.2.2.2.1), .int (zI ln), .int (zI u.2.2.2.2.2)])), (tk, .inr (0, [.ref ta])), (ta, .inl (G.2.1.1, 52, .inl (aI (stp b0 sd f1 d1)))), (r0, .inl (G.2.1.1, 3060, .inl (aI u.1))), (w0, .inl (G.2.1.1, 3060, .inl (aI u.2.1))), (c1, .inl (G.2.1.2.1, 450, .inr (.inl (aL u.2.2.1)))), (i0, .inl (G.2.1.1, 450, .inl (aI u.2.2.2.1))), (p0, .inl (G.2.1.2.1, 26, .inr (.inl (aL p5))))]) A) l G [(h0, .inr (5, [.ref tk, .ref r0, .ref w0, .ref c1, .ref i0, .ref p0, .int (zI sd), .int (zI cnt), .int (zI ln), .int (zI gr)])), (tk, .inr (0, [.ref ta])), (ta, .inl (G.2.1.1, 52, .inl (aI (stp b0 sd f1 d1)))), (r0, .inl (G.2.1.1, 3060, .inl (aI fr))), (w0, .inl (G.2.1.1, 3060, .inl (aI fw))), (c1, .inl (G.2.1.2.1, 450, .inr (.inl (aL fc)))), (i0, .inl (G.2.1.1, 450, .inl (aI fh))), (p0, .inl (G.2.1.2.1, 26, .inr (.inl (aL p5))))] [.ref h0, .int (zI f1), .int (zI d1), .int (zI (hwB b0 sd f1 d1)), .int (zI d2)] (by decide) rfl rfl ?_ z9
  intro p e s m args below meth c A ls H locs hF hr hlocks hinit hP hK hD hA hS hBd hl
  have hF : wFx p m c cX5_addSeconds 10 s args wsX5_addSeconds RX5 := hF
  have hl : lv_has ls 10 [(0, .ref h0), (1, .int (zI f1)), (2, .int (zI d1)), (3, .int (zI (hwB b0 sd f1 d1))), (4, .int (zI d2))] := hl
  have hx := hF.1
  have hb := hF.2.1
  obtain ⟨Q0, hQ⟩ : ∃ q, q = (MQ below (wQv G (fun (u : ((Int → Int) × (Int → Int) × (Int → Int) × (Int → Int) × Int × Int)) => RepP b0 sd (adSec sd b0 f1 d1 d2 L (mvZ (stp b0 sd f1 d1) sd d2 25)) u.1 u.2.1 u.2.2.2.2.1 u.2.2.2.2.2 ∧ RepK b0 sd (adSec sd b0 f1 d1 d2 L (mvZ (stp b0 sd f1 d1) sd d2 25)) u.2.2.1 u.2.2.2.1 ∧ (∀ k, -2000000000000000000 ≤ u.2.2.1 k ∧ u.2.2.1 k ≤ 2000000000000000000) ∧ (∀ k, 0 ≤ u.2.2.2.1 k ∧ u.2.2.2.1 k ≤ 1073741824) ∧ u.2.2.2.2.1 ≤ cnt + ((mvZ (stp b0 sd f1 d1) sd d2 25).length : Int)) (fun (u : ((Int → Int) × (Int → Int) × (Int → Int) × (Int → Int) × Int × Int)) => [(h0, .inr (5, [.ref tk, .ref r0, .ref w0, .ref c1, .ref i0, .ref p0, .int (zI sd), .int (zI u.2.2.2.2.1), .int (zI ln), .int (zI u.2.2.2.2.2)])), (tk, .inr (0, [.ref ta])), (ta, .inl (G.2.1.1, 52, .inl (aI (stp b0 sd f1 d1)))), (r0, .inl (G.2.1.1, 3060, .inl (aI u.1))), (w0, .inl (G.2.1.1, 3060, .inl (aI u.2.1))), (c1, .inl (G.2.1.2.1, 450, .inr (.inl (aL u.2.2.1)))), (i0, .inl (G.2.1.1, 450, .inl (aI u.2.2.2.1))), (p0, .inl (G.2.1.2.1, 26, .inr (.inl (aL p5))))]) A) args s 0 0 A) := ⟨_, rfl⟩
  rw [← hQ]
  have i_wsX50 : ∀ w ∈ wsX50, w ∈ wsX5_addSeconds := (fun _ h => (List.mem_cons_of_mem _ (List.mem_append_left _ (List.mem_append_right _ h))))
  have kf_12 : (Cond.fieldLink RX5 12 "Gammonry$Plays" "track" "LGammonry$Board;").before args s = true := hF.2.2.2.2 _ (List.mem_cons_of_mem _ (List.mem_append_left _ (List.mem_append_left _ (List.mem_append_left _ (List.mem_of_getElem? (i := 0) rfl)))))
  have kf_35 : (Cond.fieldLink RX5 35 "Gammonry$Plays" "side" "I").before args s = true := hF.2.2.2.2 _ (List.mem_cons_of_mem _ (List.mem_append_left _ (List.mem_append_left _ (List.mem_append_left _ (List.mem_of_getElem? (i := 1) rfl)))))
  have ks_yX9_codeOf : (Cond.static yX9_codeOf).before args s = true := hF.2.2.2.2 _ (List.mem_cons_of_mem _ (List.mem_append_left _ (List.mem_append_left _ (List.mem_append_right _ (List.mem_append_left _ (List.mem_of_getElem? (i := 21) rfl))))))
  have ks_yX9_withCode : (Cond.static yX9_withCode).before args s = true := hF.2.2.2.2 _ (List.mem_cons_of_mem _ (List.mem_append_left _ (List.mem_append_left _ (List.mem_append_right _ (List.mem_append_right _ (List.mem_append_left _ (List.mem_of_getElem? (i := 0) rfl)))))))
  have kt_RX9 : (Cond.initialized RX9).before args s = true := hF.2.2.2.2 _ (List.mem_cons_of_mem _ (List.mem_append_left _ (List.mem_append_left _ (List.mem_append_right _ (List.mem_append_left _ (List.mem_of_getElem? (i := 22) rfl))))))
  have hf1 := hc1.rg
  have hv1 := hc1.VB hvb hsd hd1.1
  have qh1 := hwB_cs b0 sd f1 d1
  have hq1 : hwB b0 sd f1 d1 ≠ 0 → d1 < f1 := fun h9 => by rcases qh1 with q9 | q9; exact q9.1.1; exact absurd q9.2 h9
  refine z_bipush hF dX5_addSeconds_0 (by decide) ?_
  refine lv_istore (lv' := [(5, .int (zI 25)), (0, .ref h0), (1, .int (zI f1)), (2, .int (zI d1)), (3, .int (zI (hwB b0 sd f1 d1))), (4, .int (zI d2))]) hx hb dX5_addSeconds_2 hl (by decide) rfl (fun ls hl => ?_)
  have L4 : ∀ (n9 : Nat) (i : Int) (fra fwa fca fha : Int → Int) (cna gra : Int) (La : List Row), i.toNat < n9 → (0 ≤ i ∧ i ≤ 25) → RepP b0 sd La fra fwa cna gra → RepK b0 sd La fca fha → (∀ k, -2000000000000000000 ≤ fca k ∧ fca k ≤ 2000000000000000000) → (∀ k, 0 ≤ fha k ∧ fha k ≤ 1073741824) → adSec sd b0 f1 d1 d2 La (mvZ (stp b0 sd f1 d1) sd d2 i) = (adSec sd b0 f1 d1 d2 L (mvZ (stp b0 sd f1 d1) sd d2 25)) → cna + ((mvZ (stp b0 sd f1 d1) sd d2 i).length : Int) ≤ 450 → ∀ (H : Heap) (locs : List Loc) (ls : Array Slot), va_P G.1 vwCl [(h0, .inr (5, [.ref tk, .ref r0, .ref w0, .ref c1, .ref i0, .ref p0, .int (zI sd), .int (zI cna), .int (zI ln), .int (zI gra)])), (tk, .inr (0, [.ref ta])), (ta, .inl (G.2.1.1, 52, .inl (aI (stp b0 sd f1 d1)))), (r0, .inl (G.2.1.1, 3060, .inl (aI fra))), (w0, .inl (G.2.1.1, 3060, .inl (aI fwa))), (c1, .inl (G.2.1.2.1, 450, .inr (.inl (aL fca)))), (i0, .inl (G.2.1.1, 450, .inl (aI fha))), (p0, .inl (G.2.1.2.1, 26, .inr (.inl (aL p5))))] H → va_D A [(h0, .inr (5, [.ref tk, .ref r0, .ref w0, .ref c1, .ref i0, .ref p0, .int (zI sd), .int (zI cna), .int (zI ln), .int (zI gra)])), (tk, .inr (0, [.ref ta])), (ta, .inl (G.2.1.1, 52, .inl (aI (stp b0 sd f1 d1)))), (r0, .inl (G.2.1.1, 3060, .inl (aI fra))), (w0, .inl (G.2.1.1, 3060, .inl (aI fwa))), (c1, .inl (G.2.1.2.1, 450, .inr (.inl (aL fca)))), (i0, .inl (G.2.1.1, 450, .inl (aI fha))), (p0, .inl (G.2.1.2.1, 26, .inr (.inl (aL p5))))] → va_S A s.heap H locs → lv_has ls 10 [(0, .ref h0), (1, .int (zI f1)), (2, .int (zI d1)), (3, .int (zI (hwB b0 sd f1 d1))), (4, .int (zI d2)), (5, .int (zI i))] → W p l e (rmL 5 0 0) s m args below meth c H locs 0 0 Q0 (F0 m 4 ls []) := by
    intro n9
    induction n9 with
    | zero => intro i fra fwa fca fha cna gra La hmu; omega
    | succ n9 ih4 =>
      intro i fra fwa fca fha cna gra La hmu4 hzi hRPa hRKa hfca hfha hLa hca H locs ls hP hD hS hl
      refine lv_iload hx hb dX5_addSeconds_4 (lv_at hl 5 rfl) ?_
      refine z_iconst hF dX5_addSeconds_6 ?_
      refine z_icmp_lt (tgt := 134) hF dX5_addSeconds_7 (by decide) (by omega) (by decide) (fun c_1 => ?_) (fun c_1 => ?_)
      · have hc_7 := c_1
        have hfin : (adSec sd b0 f1 d1 d2 L (mvZ (stp b0 sd f1 d1) sd d2 25)) = La := by rw [← hLa, mvZ_0 (by omega)]; rfl
        have hq9 := adSec_len (sd := sd) (b0 := b0) (f1 := f1) (d1 := d1) (d2 := d2) (fs := mvZ (stp b0 sd f1 d1) sd d2 25) (L := L)
        rw [hfin] at hq9
        have hq8 := hRPa.1
        have hq7 := hRP.1
        rw [hQ]
        exact z_vret hF hr hlocks (fra, fwa, fca, fha, cna, gra) (by dsimp only; rw [hfin]; exact ⟨hRPa, hRKa, hfca, hfha, by omega⟩) hP hK hD hS dX5_addSeconds_134
      · have hc_7 := c_1
        refine lv_aload_n hx hb dX5_addSeconds_10 rfl (lv_at hl 0 rfl) ?_
        refine z_get (k := 0) hF hK hP 0 rfl rfl i_wsX50 (by decide) kf_12 rfl dX5_addSeconds_11 ?_
        refine lv_aload_n hx hb dX5_addSeconds_14 rfl (lv_at hl 0 rfl) ?_
        refine z_get (k := 6) hF hK hP 0 rfl rfl i_wsX50 (by decide) kf_35 rfl dX5_addSeconds_15 ?_
        refine lv_iload hx hb dX5_addSeconds_18 (lv_at hl 5 rfl) ?_
        refine lv_iload hx hb dX5_addSeconds_20 (lv_at hl 4 rfl) ?_
        refine cj_i (va_runV (As := [.int (zI sd), .int (zI i), .int (zI d2)]) (rest := []) hF (c_X0_canStep l G tk ta (stp b0 sd f1 d1) sd i d2  (by omega) (by omega) (by omega) (hv1.ok (by omega)) H.size) (cwV 3 hF.2.2.2.2 gX5_addSeconds_X0_canStep rfl rfl rfl (by decide +kernel) ⟨Nat.le_of_ble_eq_true rfl, Nat.le_of_ble_eq_true rfl⟩) (z_preV hK hP hD hS hA hBd [1, 2] rfl rfl rfl rfl [.int (zI sd), .int (zI i), .int (zI d2)]) rfl rfl hl.1 rfl (lv_room (Nat.le_of_ble_eq_true rfl)) dX5_addSeconds_22 ⟨Nat.le_of_ble_eq_true rfl, Nat.le_of_ble_eq_true rfl⟩) hP hD hS hA [1, 2] rfl (fun _ => Nat.le_of_ble_eq_true rfl) (fun r_3 u_2 H locs hw hP hD hS => ?_)
        have hP : va_P G.1 vwCl [(h0, .inr (5, [.ref tk, .ref r0, .ref w0, .ref c1, .ref i0, .ref p0, .int (zI sd), .int (zI cna), .int (zI ln), .int (zI gra)])), (tk, .inr (0, [.ref ta])), (ta, .inl (G.2.1.1, 52, .inl (aI (stp b0 sd f1 d1)))), (r0, .inl (G.2.1.1, 3060, .inl (aI fra))), (w0, .inl (G.2.1.1, 3060, .inl (aI fwa))), (c1, .inl (G.2.1.2.1, 450, .inr (.inl (aL fca)))), (i0, .inl (G.2.1.1, 450, .inl (aI fha))), (p0, .inl (G.2.1.2.1, 26, .inr (.inl (aL p5))))] H := hP
        have hD : va_D A [(h0, .inr (5, [.ref tk, .ref r0, .ref w0, .ref c1, .ref i0, .ref p0, .int (zI sd), .int (zI cna), .int (zI ln), .int (zI gra)])), (tk, .inr (0, [.ref ta])), (ta, .inl (G.2.1.1, 52, .inl (aI (stp b0 sd f1 d1)))), (r0, .inl (G.2.1.1, 3060, .inl (aI fra))), (w0, .inl (G.2.1.1, 3060, .inl (aI fwa))), (c1, .inl (G.2.1.2.1, 450, .inr (.inl (aL fca)))), (i0, .inl (G.2.1.1, 450, .inl (aI fha))), (p0, .inl (G.2.1.2.1, 26, .inr (.inl (aL p5))))] := hD
        rcases hw with ⟨h_4, rfl⟩ | ⟨h_5, rfl⟩
        · skip
          have hcan := h_4
          have hfi := hcan.2.2.rg
          have hv2 := hcan.2.2.VB hv1 hsd hd2.1
          have qh2 := hwB_cs (stp b0 sd f1 d1) sd i d2
          have hq2 : hwB (stp b0 sd f1 d1) sd i d2 ≠ 0 → d2 < i := fun h9 => by rcases qh2 with q9 | q9; exact q9.1.1; exact absurd q9.2 h9
          have hmt := mvZ_t (b := stp b0 sd f1 d1) (sd := sd) (d := d2) (h := i) (by omega) hcan.2.2
          have hlen9 : (mvZ (stp b0 sd f1 d1) sd d2 i).length = (mvZ (stp b0 sd f1 d1) sd d2 (i + -1)).length + 1 := by rw [hmt, List.length_cons]
          have hgr9 := RepP_gr hRPa
          have hp1 := p5_rg (toP f1 d1) (by have := toP_rg (fr := f1) (d := d1) (by omega); omega)
          have hp2 := p5_rg f1 (by omega)
          have hp3 := p5_rg (toP i d2) (by have := toP_rg (fr := i) (d := d2) (by omega); omega)
          have hp4 := p5_rg i (by omega)
          have hw1 := hpW_rg (x := f1) (d := d1) (w := hwB b0 sd f1 d1) (fun h9 => by omega)
          have hw2 := hpW_rg (x := i) (d := d2) (w := hwB (stp b0 sd f1 d1) sd i d2) (fun h9 => by omega)
          have hk2 : kpt sd b0 [(f1, d1), (i, d2)] = orZ (hpW f1 d1 (hwB b0 sd f1 d1)) (hpW i d2 (hwB (stp b0 sd f1 d1) sd i d2)) := by show orZ (hpW f1 d1 (hwB b0 sd f1 d1)) (orZ (hpW i d2 (hwB (stp b0 sd f1 d1) sd i d2)) 0) = _; rw [orZ_0 hw2.1]
          have hk1 : kch [(f1, d1), (i, d2)] = (p5 (toP f1 d1) - p5 f1) + (p5 (toP i d2) - p5 i) := by show _ + (_ + 0) = _; rw [Int.add_zero]
          have hor := orZ_rg (a := hpW f1 d1 (hwB b0 sd f1 d1)) (b := hpW i d2 (hwB (stp b0 sd f1 d1) sd i d2)) (by omega) (by omega)
          refine z_if_eq (tgt := 128) hF dX5_addSeconds_25 (by decide) (by decide) (fun c_6 => ?_) (fun c_6 => ?_)
          · exact absurd c_6 (by decide)
          · have hc_25 := c_6
            refine lv_aload_n hx hb dX5_addSeconds_28 rfl (lv_at hl 0 rfl) ?_
            refine z_get (k := 0) hF hK hP 0 rfl rfl i_wsX50 (by decide) kf_12 rfl dX5_addSeconds_29 ?_
            refine lv_aload_n hx hb dX5_addSeconds_32 rfl (lv_at hl 0 rfl) ?_
            refine z_get (k := 6) hF hK hP 0 rfl rfl i_wsX50 (by decide) kf_35 rfl dX5_addSeconds_33 ?_
            refine lv_iload hx hb dX5_addSeconds_36 (lv_at hl 5 rfl) ?_
            refine lv_iload hx hb dX5_addSeconds_38 (lv_at hl 4 rfl) ?_
            refine cj_i (va_runV (As := [.int (zI sd), .int (zI i), .int (zI d2)]) (rest := []) hF (c_X0_step l G tk ta (stp b0 sd f1 d1) sd i d2  (by omega) (by omega) (by omega) (hv1.ok (by omega)) H.size) (cwV 3 hF.2.2.2.2 gX5_addSeconds_X0_step rfl rfl rfl (by decide +kernel) ⟨Nat.le_of_ble_eq_true rfl, Nat.le_of_ble_eq_true rfl⟩) (z_preV hK hP hD hS hA hBd [1, 2] rfl rfl rfl rfl [.int (zI sd), .int (zI i), .int (zI d2)]) rfl rfl hl.1 rfl (lv_room (Nat.le_of_ble_eq_true rfl)) dX5_addSeconds_40 ⟨Nat.le_of_ble_eq_true rfl, Nat.le_of_ble_eq_true rfl⟩) hP hD hS hA [1, 2] rfl (fun _ => Nat.le_of_ble_eq_true rfl) (fun r_8 u_7 H locs hw hP hD hS => ?_)
            have hP : va_P G.1 vwCl [(h0, .inr (5, [.ref tk, .ref r0, .ref w0, .ref c1, .ref i0, .ref p0, .int (zI sd), .int (zI cna), .int (zI ln), .int (zI gra)])), (tk, .inr (0, [.ref ta])), (ta, .inl (G.2.1.1, 52, .inl (aI (stp (stp b0 sd f1 d1) sd i d2)))), (r0, .inl (G.2.1.1, 3060, .inl (aI fra))), (w0, .inl (G.2.1.1, 3060, .inl (aI fwa))), (c1, .inl (G.2.1.2.1, 450, .inr (.inl (aL fca)))), (i0, .inl (G.2.1.1, 450, .inl (aI fha))), (p0, .inl (G.2.1.2.1, 26, .inr (.inl (aL p5))))] H := hP
            have hD : va_D A [(h0, .inr (5, [.ref tk, .ref r0, .ref w0, .ref c1, .ref i0, .ref p0, .int (zI sd), .int (zI cna), .int (zI ln), .int (zI gra)])), (tk, .inr (0, [.ref ta])), (ta, .inl (G.2.1.1, 52, .inl (aI (stp (stp b0 sd f1 d1) sd i d2)))), (r0, .inl (G.2.1.1, 3060, .inl (aI fra))), (w0, .inl (G.2.1.1, 3060, .inl (aI fwa))), (c1, .inl (G.2.1.2.1, 450, .inr (.inl (aL fca)))), (i0, .inl (G.2.1.1, 450, .inl (aI fha))), (p0, .inl (G.2.1.2.1, 26, .inr (.inl (aL p5))))] := hD
            obtain rfl := hw
            refine lv_istore (lv' := [(6, .int (zI (hwB (stp b0 sd f1 d1) sd i d2))), (0, .ref h0), (1, .int (zI f1)), (2, .int (zI d1)), (3, .int (zI (hwB b0 sd f1 d1))), (4, .int (zI d2)), (5, .int (zI i))]) hx hb dX5_addSeconds_43 hl (by decide) rfl (fun ls hl => ?_)
            refine lv_aload_n hx hb dX5_addSeconds_45 rfl (lv_at hl 1 rfl) ?_
            refine lv_iload_n hx hb dX5_addSeconds_46 rfl (lv_at hl 2 rfl) ?_
            refine lv_iload_n hx hb dX5_addSeconds_47 rfl (lv_at hl 3 rfl) ?_
            refine cj_l (va_runV (As := [.int (zI f1), .int (zI d1)]) (rest := []) hF (c_X5_changeBy l G h0 tk r0 w0 c1 i0 p0 sd cna ln gra f1 d1  (by omega) (by omega) H.size) (cwV 2 hF.2.2.2.2 gX5_addSeconds_X5_changeBy rfl rfl rfl (by decide +kernel) ⟨Nat.le_of_ble_eq_true rfl, Nat.le_of_ble_eq_true rfl⟩) (z_preV hK hP hD hS hA hBd [0, 7] rfl rfl rfl rfl [.int (zI f1), .int (zI d1)]) rfl rfl hl.1 rfl (lv_room (Nat.le_of_ble_eq_true rfl)) dX5_addSeconds_48 ⟨Nat.le_of_ble_eq_true rfl, Nat.le_of_ble_eq_true rfl⟩) hP hD hS hA [0, 7] rfl (fun _ => Nat.le_of_ble_eq_true rfl) (fun r_10 u_9 H locs hw hP hD hS => ?_)
            have hP : va_P G.1 vwCl [(h0, .inr (5, [.ref tk, .ref r0, .ref w0, .ref c1, .ref i0, .ref p0, .int (zI sd), .int (zI cna), .int (zI ln), .int (zI gra)])), (tk, .inr (0, [.ref ta])), (ta, .inl (G.2.1.1, 52, .inl (aI (stp (stp b0 sd f1 d1) sd i d2)))), (r0, .inl (G.2.1.1, 3060, .inl (aI fra))), (w0, .inl (G.2.1.1, 3060, .inl (aI fwa))), (c1, .inl (G.2.1.2.1, 450, .inr (.inl (aL fca)))), (i0, .inl (G.2.1.1, 450, .inl (aI fha))), (p0, .inl (G.2.1.2.1, 26, .inr (.inl (aL p5))))] H := hP
            have hD : va_D A [(h0, .inr (5, [.ref tk, .ref r0, .ref w0, .ref c1, .ref i0, .ref p0, .int (zI sd), .int (zI cna), .int (zI ln), .int (zI gra)])), (tk, .inr (0, [.ref ta])), (ta, .inl (G.2.1.1, 52, .inl (aI (stp (stp b0 sd f1 d1) sd i d2)))), (r0, .inl (G.2.1.1, 3060, .inl (aI fra))), (w0, .inl (G.2.1.1, 3060, .inl (aI fwa))), (c1, .inl (G.2.1.2.1, 450, .inr (.inl (aL fca)))), (i0, .inl (G.2.1.1, 450, .inl (aI fha))), (p0, .inl (G.2.1.2.1, 26, .inr (.inl (aL p5))))] := hD
            obtain rfl := hw
            refine lv_aload_n hx hb dX5_addSeconds_51 rfl (lv_at hl 1 rfl) ?_
            refine lv_iload hx hb dX5_addSeconds_52 (lv_at hl 6 rfl) ?_
            refine lv_iload hx hb dX5_addSeconds_54 (lv_at hl 5 rfl) ?_
            refine cj_l (va_runV (As := [.int (zI i), .int (zI d2)]) (rest := [.long (zL (p5 (toP f1 d1) - p5 f1))]) hF (c_X5_changeBy l G h0 tk r0 w0 c1 i0 p0 sd cna ln gra i d2  (by omega) (by omega) H.size) (cwV 2 hF.2.2.2.2 gX5_addSeconds_X5_changeBy rfl rfl rfl (by decide +kernel) ⟨Nat.le_of_ble_eq_true rfl, Nat.le_of_ble_eq_true rfl⟩) (z_preV hK hP hD hS hA hBd [0, 7] rfl rfl rfl rfl [.int (zI i), .int (zI d2)]) rfl rfl hl.1 rfl (lv_room (Nat.le_of_ble_eq_true rfl)) dX5_addSeconds_56 ⟨Nat.le_of_ble_eq_true rfl, Nat.le_of_ble_eq_true rfl⟩) hP hD hS hA [0, 7] rfl (fun _ => Nat.le_of_ble_eq_true rfl) (fun r_12 u_11 H locs hw hP hD hS => ?_)
            have hP : va_P G.1 vwCl [(h0, .inr (5, [.ref tk, .ref r0, .ref w0, .ref c1, .ref i0, .ref p0, .int (zI sd), .int (zI cna), .int (zI ln), .int (zI gra)])), (tk, .inr (0, [.ref ta])), (ta, .inl (G.2.1.1, 52, .inl (aI (stp (stp b0 sd f1 d1) sd i d2)))), (r0, .inl (G.2.1.1, 3060, .inl (aI fra))), (w0, .inl (G.2.1.1, 3060, .inl (aI fwa))), (c1, .inl (G.2.1.2.1, 450, .inr (.inl (aL fca)))), (i0, .inl (G.2.1.1, 450, .inl (aI fha))), (p0, .inl (G.2.1.2.1, 26, .inr (.inl (aL p5))))] H := hP
            have hD : va_D A [(h0, .inr (5, [.ref tk, .ref r0, .ref w0, .ref c1, .ref i0, .ref p0, .int (zI sd), .int (zI cna), .int (zI ln), .int (zI gra)])), (tk, .inr (0, [.ref ta])), (ta, .inl (G.2.1.1, 52, .inl (aI (stp (stp b0 sd f1 d1) sd i d2)))), (r0, .inl (G.2.1.1, 3060, .inl (aI fra))), (w0, .inl (G.2.1.1, 3060, .inl (aI fwa))), (c1, .inl (G.2.1.2.1, 450, .inr (.inl (aL fca)))), (i0, .inl (G.2.1.1, 450, .inl (aI fha))), (p0, .inl (G.2.1.2.1, 26, .inr (.inl (aL p5))))] := hD
            obtain rfl := hw
            refine z_ladd hF dX5_addSeconds_59 ?_
            refine z_tzl (b := (kch [(f1, d1), (i, d2)])) hk1.symm ?_
            refine lv_lstore (lv' := [(7, .long (zL (kch [(f1, d1), (i, d2)]))), (6, .int (zI (hwB (stp b0 sd f1 d1) sd i d2))), (0, .ref h0), (1, .int (zI f1)), (2, .int (zI d1)), (3, .int (zI (hwB b0 sd f1 d1))), (4, .int (zI d2)), (5, .int (zI i))]) hx hb dX5_addSeconds_60 hl (by decide) rfl (fun ls hl => ?_)
            refine lv_iload_n hx hb dX5_addSeconds_62 rfl (lv_at hl 3 rfl) ?_
            refine lv_iload_n hx hb dX5_addSeconds_63 rfl (lv_at hl 4 rfl) ?_
            refine lv_iload_n hx hb dX5_addSeconds_64 rfl (lv_at hl 5 rfl) ?_
            refine cj_i (va_runS (As := [.int (zI f1), .int (zI d1), .int (zI (hwB b0 sd f1 d1))]) (rest := []) hF (c_X5_hitPoint l G f1 d1 (hwB b0 sd f1 d1)  (by omega) (fun h9 => by have := hq1 h9; omega) (by omega) (by omega) H.size) (va_cwS 3 hF.2.2.2.2 gX5_addSeconds_X5_hitPoint rfl rfl rfl (by decide +kernel) ⟨Nat.le_of_ble_eq_true rfl, Nat.le_of_ble_eq_true rfl⟩) (z_preS hK hP hD hS hA hBd [] rfl rfl [.int (zI f1), .int (zI d1), .int (zI (hwB b0 sd f1 d1))]) rfl rfl hl.1 rfl (lv_room (Nat.le_of_ble_eq_true rfl)) dX5_addSeconds_65 ⟨Nat.le_of_ble_eq_true rfl, Nat.le_of_ble_eq_true rfl⟩) hP hD hS hA [] rfl (fun _ => Nat.le_of_ble_eq_true rfl) (fun r_14 u_13 H locs hw hP hD hS => ?_)
            have hP : va_P G.1 vwCl [(h0, .inr (5, [.ref tk, .ref r0, .ref w0, .ref c1, .ref i0, .ref p0, .int (zI sd), .int (zI cna), .int (zI ln), .int (zI gra)])), (tk, .inr (0, [.ref ta])), (ta, .inl (G.2.1.1, 52, .inl (aI (stp (stp b0 sd f1 d1) sd i d2)))), (r0, .inl (G.2.1.1, 3060, .inl (aI fra))), (w0, .inl (G.2.1.1, 3060, .inl (aI fwa))), (c1, .inl (G.2.1.2.1, 450, .inr (.inl (aL fca)))), (i0, .inl (G.2.1.1, 450, .inl (aI fha))), (p0, .inl (G.2.1.2.1, 26, .inr (.inl (aL p5))))] H := hP
            have hD : va_D A [(h0, .inr (5, [.ref tk, .ref r0, .ref w0, .ref c1, .ref i0, .ref p0, .int (zI sd), .int (zI cna), .int (zI ln), .int (zI gra)])), (tk, .inr (0, [.ref ta])), (ta, .inl (G.2.1.1, 52, .inl (aI (stp (stp b0 sd f1 d1) sd i d2)))), (r0, .inl (G.2.1.1, 3060, .inl (aI fra))), (w0, .inl (G.2.1.1, 3060, .inl (aI fwa))), (c1, .inl (G.2.1.2.1, 450, .inr (.inl (aL fca)))), (i0, .inl (G.2.1.1, 450, .inl (aI fha))), (p0, .inl (G.2.1.2.1, 26, .inr (.inl (aL p5))))] := hD
            obtain rfl := hw
            refine lv_iload hx hb dX5_addSeconds_68 (lv_at hl 7 rfl) ?_
            refine lv_iload hx hb dX5_addSeconds_70 (lv_at hl 6 rfl) ?_
            refine lv_iload hx hb dX5_addSeconds_72 (lv_at hl 1 rfl) ?_
            refine cj_i (va_runS (As := [.int (zI i), .int (zI d2), .int (zI (hwB (stp b0 sd f1 d1) sd i d2))]) (rest := [.int (zI (hpW f1 d1 (hwB b0 sd f1 d1)))]) hF (c_X5_hitPoint l G i d2 (hwB (stp b0 sd f1 d1) sd i d2)  (by omega) (fun h9 => by have := hq2 h9; omega) (by omega) (by omega) H.size) (va_cwS 3 hF.2.2.2.2 gX5_addSeconds_X5_hitPoint rfl rfl rfl (by decide +kernel) ⟨Nat.le_of_ble_eq_true rfl, Nat.le_of_ble_eq_true rfl⟩) (z_preS hK hP hD hS hA hBd [] rfl rfl [.int (zI i), .int (zI d2), .int (zI (hwB (stp b0 sd f1 d1) sd i d2))]) rfl rfl hl.1 rfl (lv_room (Nat.le_of_ble_eq_true rfl)) dX5_addSeconds_74 ⟨Nat.le_of_ble_eq_true rfl, Nat.le_of_ble_eq_true rfl⟩) hP hD hS hA [] rfl (fun _ => Nat.le_of_ble_eq_true rfl) (fun r_16 u_15 H locs hw hP hD hS => ?_)
            have hP : va_P G.1 vwCl [(h0, .inr (5, [.ref tk, .ref r0, .ref w0, .ref c1, .ref i0, .ref p0, .int (zI sd), .int (zI cna), .int (zI ln), .int (zI gra)])), (tk, .inr (0, [.ref ta])), (ta, .inl (G.2.1.1, 52, .inl (aI (stp (stp b0 sd f1 d1) sd i d2)))), (r0, .inl (G.2.1.1, 3060, .inl (aI fra))), (w0, .inl (G.2.1.1, 3060, .inl (aI fwa))), (c1, .inl (G.2.1.2.1, 450, .inr (.inl (aL fca)))), (i0, .inl (G.2.1.1, 450, .inl (aI fha))), (p0, .inl (G.2.1.2.1, 26, .inr (.inl (aL p5))))] H := hP
            have hD : va_D A [(h0, .inr (5, [.ref tk, .ref r0, .ref w0, .ref c1, .ref i0, .ref p0, .int (zI sd), .int (zI cna), .int (zI ln), .int (zI gra)])), (tk, .inr (0, [.ref ta])), (ta, .inl (G.2.1.1, 52, .inl (aI (stp (stp b0 sd f1 d1) sd i d2)))), (r0, .inl (G.2.1.1, 3060, .inl (aI fra))), (w0, .inl (G.2.1.1, 3060, .inl (aI fwa))), (c1, .inl (G.2.1.2.1, 450, .inr (.inl (aL fca)))), (i0, .inl (G.2.1.1, 450, .inl (aI fha))), (p0, .inl (G.2.1.2.1, 26, .inr (.inl (aL p5))))] := hD
            obtain rfl := hw
            refine lv_ior hx hb dX5_addSeconds_77 ?_
            refine z_top (zI_orN hw1.1 hw2.1) ?_
            refine z_tz (b := kpt sd b0 [(f1, d1), (i, d2)]) hk2.symm ?_
            refine lv_istore (lv' := [(9, .int (zI (kpt sd b0 [(f1, d1), (i, d2)]))), (7, .long (zL (kch [(f1, d1), (i, d2)]))), (6, .int (zI (hwB (stp b0 sd f1 d1) sd i d2))), (0, .ref h0), (1, .int (zI f1)), (2, .int (zI d1)), (3, .int (zI (hwB b0 sd f1 d1))), (4, .int (zI d2)), (5, .int (zI i))]) hx hb dX5_addSeconds_78 hl (by decide) rfl (fun ls hl => ?_)
            refine lv_aload_n hx hb dX5_addSeconds_80 rfl (lv_at hl 3 rfl) ?_
            refine lv_lload hx hb dX5_addSeconds_81 (lv_at hl 1 rfl) ?_
            refine lv_iload hx hb dX5_addSeconds_83 (lv_at hl 0 rfl) ?_
            refine cj_i (va_runV (As := [.long (zL (kch [(f1, d1), (i, d2)])), .int (zI (kpt sd b0 [(f1, d1), (i, d2)]))]) (rest := []) hF (c_X5_isNew l G h0 tk r0 w0 c1 i0 p0 fca fha sd cna ln gra (kch [(f1, d1), (i, d2)]) (kpt sd b0 [(f1, d1), (i, d2)])  (by omega) hfca hfha (by omega) (by omega) H.size) (cwV 2 hF.2.2.2.2 gX5_addSeconds_X5_isNew rfl rfl rfl (by decide +kernel) ⟨Nat.le_of_ble_eq_true rfl, Nat.le_of_ble_eq_true rfl⟩) (z_preV hK hP hD hS hA hBd [0, 5, 6] rfl rfl rfl rfl [.long (zL (kch [(f1, d1), (i, d2)])), .int (zI (kpt sd b0 [(f1, d1), (i, d2)]))]) rfl rfl hl.1 rfl (lv_room (Nat.le_of_ble_eq_true rfl)) dX5_addSeconds_85 ⟨Nat.le_of_ble_eq_true rfl, Nat.le_of_ble_eq_true rfl⟩) hP hD hS hA [0, 5, 6] rfl (fun _ => Nat.le_of_ble_eq_true rfl) (fun r_18 u_17 H locs hw hP hD hS => ?_)
            have hP : va_P G.1 vwCl [(h0, .inr (5, [.ref tk, .ref r0, .ref w0, .ref c1, .ref i0, .ref p0, .int (zI sd), .int (zI cna), .int (zI ln), .int (zI gra)])), (tk, .inr (0, [.ref ta])), (ta, .inl (G.2.1.1, 52, .inl (aI (stp (stp b0 sd f1 d1) sd i d2)))), (r0, .inl (G.2.1.1, 3060, .inl (aI fra))), (w0, .inl (G.2.1.1, 3060, .inl (aI fwa))), (c1, .inl (G.2.1.2.1, 450, .inr (.inl (aL (if u_17 = 0 then fca else up fca cna (kch [(f1, d1), (i, d2)])))))), (i0, .inl (G.2.1.1, 450, .inl (aI (if u_17 = 0 then fha else up fha cna (kpt sd b0 [(f1, d1), (i, d2)]))))), (p0, .inl (G.2.1.2.1, 26, .inr (.inl (aL p5))))] H := hP
            have hD : va_D A [(h0, .inr (5, [.ref tk, .ref r0, .ref w0, .ref c1, .ref i0, .ref p0, .int (zI sd), .int (zI cna), .int (zI ln), .int (zI gra)])), (tk, .inr (0, [.ref ta])), (ta, .inl (G.2.1.1, 52, .inl (aI (stp (stp b0 sd f1 d1) sd i d2)))), (r0, .inl (G.2.1.1, 3060, .inl (aI fra))), (w0, .inl (G.2.1.1, 3060, .inl (aI fwa))), (c1, .inl (G.2.1.2.1, 450, .inr (.inl (aL (if u_17 = 0 then fca else up fca cna (kch [(f1, d1), (i, d2)])))))), (i0, .inl (G.2.1.1, 450, .inl (aI (if u_17 = 0 then fha else up fha cna (kpt sd b0 [(f1, d1), (i, d2)]))))), (p0, .inl (G.2.1.2.1, 26, .inr (.inl (aL p5))))] := hD
            rcases hw with ⟨rfl, h_19, rfl⟩ | ⟨rfl, h_20, rfl⟩
            · skip
              have hP : va_P G.1 vwCl [(h0, .inr (5, [.ref tk, .ref r0, .ref w0, .ref c1, .ref i0, .ref p0, .int (zI sd), .int (zI cna), .int (zI ln), .int (zI gra)])), (tk, .inr (0, [.ref ta])), (ta, .inl (G.2.1.1, 52, .inl (aI (stp (stp b0 sd f1 d1) sd i d2)))), (r0, .inl (G.2.1.1, 3060, .inl (aI fra))), (w0, .inl (G.2.1.1, 3060, .inl (aI fwa))), (c1, .inl (G.2.1.2.1, 450, .inr (.inl (aL fca)))), (i0, .inl (G.2.1.1, 450, .inl (aI fha))), (p0, .inl (G.2.1.2.1, 26, .inr (.inl (aL p5))))] H := hP
              have hD : va_D A [(h0, .inr (5, [.ref tk, .ref r0, .ref w0, .ref c1, .ref i0, .ref p0, .int (zI sd), .int (zI cna), .int (zI ln), .int (zI gra)])), (tk, .inr (0, [.ref ta])), (ta, .inl (G.2.1.1, 52, .inl (aI (stp (stp b0 sd f1 d1) sd i d2)))), (r0, .inl (G.2.1.1, 3060, .inl (aI fra))), (w0, .inl (G.2.1.1, 3060, .inl (aI fwa))), (c1, .inl (G.2.1.2.1, 450, .inr (.inl (aL fca)))), (i0, .inl (G.2.1.1, 450, .inl (aI fha))), (p0, .inl (G.2.1.2.1, 26, .inr (.inl (aL p5))))] := hD
              have hold : ∃ k : Nat, k < La.length ∧ kch (La.getD k []) = kch [(f1, d1), (i, d2)] ∧ kpt sd b0 (La.getD k []) = kpt sd b0 [(f1, d1), (i, d2)] := by obtain ⟨k, k1, k2, k3, k4⟩ := h_19; have k5 := hRPa.1; exact ⟨k.toNat, by omega, by rw [← (hRKa k.toNat (by omega)).1, Int.toNat_of_nonneg k1]; exact k3, by rw [← (hRKa k.toNat (by omega)).2, Int.toNat_of_nonneg k1]; exact k4⟩
              refine z_if_eq (tgt := 111) hF dX5_addSeconds_88 (by decide) (by decide) (fun c_21 => ?_) (fun c_21 => ?_)
              · have hc_88 := c_21
                refine lv_aload_n hx hb dX5_addSeconds_111 rfl (lv_at hl 3 rfl) ?_
                refine z_get (k := 0) hF hK hP 0 rfl rfl i_wsX50 (by decide) kf_12 rfl dX5_addSeconds_112 ?_
                refine lv_aload_n hx hb dX5_addSeconds_115 rfl (lv_at hl 3 rfl) ?_
                refine z_get (k := 6) hF hK hP 0 rfl rfl i_wsX50 (by decide) kf_35 rfl dX5_addSeconds_116 ?_
                refine lv_iload hx hb dX5_addSeconds_119 (lv_at hl 8 rfl) ?_
                refine lv_iload hx hb dX5_addSeconds_121 (lv_at hl 7 rfl) ?_
                refine lv_iload hx hb dX5_addSeconds_123 (lv_at hl 2 rfl) ?_
                refine cj_v (va_runV (As := [.int (zI sd), .int (zI i), .int (zI d2), .int (zI (hwB (stp b0 sd f1 d1) sd i d2))]) (rest := []) hF (c_X0_stepBack l G tk ta (stp b0 sd f1 d1) sd i d2  (by omega) (by omega) (by omega) H.size) (cwV 4 hF.2.2.2.2 gX5_addSeconds_X0_stepBack rfl rfl rfl (by decide +kernel) ⟨Nat.le_of_ble_eq_true rfl, Nat.le_of_ble_eq_true rfl⟩) (z_preV hK hP hD hS hA hBd [1, 2] rfl rfl rfl rfl [.int (zI sd), .int (zI i), .int (zI d2), .int (zI (hwB (stp b0 sd f1 d1) sd i d2))]) rfl rfl hl.1 rfl (lv_room (Nat.le_of_ble_eq_true rfl)) dX5_addSeconds_125 ⟨Nat.le_of_ble_eq_true rfl, Nat.le_of_ble_eq_true rfl⟩) hP hD hS hA [1, 2] rfl (fun _ => Nat.le_of_ble_eq_true rfl) (fun u_22 H locs hw hP hD hS => ?_)
                have hP : va_P G.1 vwCl [(h0, .inr (5, [.ref tk, .ref r0, .ref w0, .ref c1, .ref i0, .ref p0, .int (zI sd), .int (zI cna), .int (zI ln), .int (zI gra)])), (tk, .inr (0, [.ref ta])), (ta, .inl (G.2.1.1, 52, .inl (aI (stp b0 sd f1 d1)))), (r0, .inl (G.2.1.1, 3060, .inl (aI fra))), (w0, .inl (G.2.1.1, 3060, .inl (aI fwa))), (c1, .inl (G.2.1.2.1, 450, .inr (.inl (aL fca)))), (i0, .inl (G.2.1.1, 450, .inl (aI fha))), (p0, .inl (G.2.1.2.1, 26, .inr (.inl (aL p5))))] H := hP
                have hD : va_D A [(h0, .inr (5, [.ref tk, .ref r0, .ref w0, .ref c1, .ref i0, .ref p0, .int (zI sd), .int (zI cna), .int (zI ln), .int (zI gra)])), (tk, .inr (0, [.ref ta])), (ta, .inl (G.2.1.1, 52, .inl (aI (stp b0 sd f1 d1)))), (r0, .inl (G.2.1.1, 3060, .inl (aI fra))), (w0, .inl (G.2.1.1, 3060, .inl (aI fwa))), (c1, .inl (G.2.1.2.1, 450, .inr (.inl (aL fca)))), (i0, .inl (G.2.1.1, 450, .inl (aI fha))), (p0, .inl (G.2.1.2.1, 26, .inr (.inl (aL p5))))] := hD
                obtain - := hw
                refine z_iinc (lv' := [(5, .int (zI (i + (-1)))), (9, .int (zI (kpt sd b0 [(f1, d1), (i, d2)]))), (7, .long (zL (kch [(f1, d1), (i, d2)]))), (6, .int (zI (hwB (stp b0 sd f1 d1) sd i d2))), (0, .ref h0), (1, .int (zI f1)), (2, .int (zI d1)), (3, .int (zI (hwB b0 sd f1 d1))), (4, .int (zI d2))]) hF dX5_addSeconds_128 hl (k := 8) rfl (by decide) rfl (fun ls hl => ?_)
                refine z_goto (tgt := 4) hF dX5_addSeconds_131 (by decide) ?_
                exact ih4 (i + (-1)) fra fwa fca fha cna gra (adN sd b0 La [(f1, d1), (i, d2)]) (by omega) (by omega) (by rw [adN_t hold]; exact hRPa) (by rw [adN_t hold]; exact hRKa) hfca hfha (by rw [← hLa, mvZ_t (by omega) hcan.2.2]; rfl) (by rw [mvZ_t (by omega) hcan.2.2, List.length_cons] at hca; omega) H locs ls hP hD hS (lv_sub hl [4, 5, 6, 7, 8, 0] rfl)
              · exact absurd c_21 (by decide)
            · skip
              have hP : va_P G.1 vwCl [(h0, .inr (5, [.ref tk, .ref r0, .ref w0, .ref c1, .ref i0, .ref p0, .int (zI sd), .int (zI cna), .int (zI ln), .int (zI gra)])), (tk, .inr (0, [.ref ta])), (ta, .inl (G.2.1.1, 52, .inl (aI (stp (stp b0 sd f1 d1) sd i d2)))), (r0, .inl (G.2.1.1, 3060, .inl (aI fra))), (w0, .inl (G.2.1.1, 3060, .inl (aI fwa))), (c1, .inl (G.2.1.2.1, 450, .inr (.inl (aL (up fca cna (kch [(f1, d1), (i, d2)])))))), (i0, .inl (G.2.1.1, 450, .inl (aI (up fha cna (kpt sd b0 [(f1, d1), (i, d2)]))))), (p0, .inl (G.2.1.2.1, 26, .inr (.inl (aL p5))))] H := hP
              have hD : va_D A [(h0, .inr (5, [.ref tk, .ref r0, .ref w0, .ref c1, .ref i0, .ref p0, .int (zI sd), .int (zI cna), .int (zI ln), .int (zI gra)])), (tk, .inr (0, [.ref ta])), (ta, .inl (G.2.1.1, 52, .inl (aI (stp (stp b0 sd f1 d1) sd i d2)))), (r0, .inl (G.2.1.1, 3060, .inl (aI fra))), (w0, .inl (G.2.1.1, 3060, .inl (aI fwa))), (c1, .inl (G.2.1.2.1, 450, .inr (.inl (aL (up fca cna (kch [(f1, d1), (i, d2)])))))), (i0, .inl (G.2.1.1, 450, .inl (aI (up fha cna (kpt sd b0 [(f1, d1), (i, d2)]))))), (p0, .inl (G.2.1.2.1, 26, .inr (.inl (aL p5))))] := hD
              have hnew : ∀ k : Nat, k < La.length → ¬ (kch (La.getD k []) = kch [(f1, d1), (i, d2)] ∧ kpt sd b0 (La.getD k []) = kpt sd b0 [(f1, d1), (i, d2)]) := fun k hk h9 => h_20 k (by omega) (by have k5 := hRPa.1; omega) (by rw [(hRKa k hk).1, (hRKa k hk).2]; exact h9)
              have hw9 := wth_rg (sd := sd) hv2 hn0
              refine z_if_eq (tgt := 111) hF dX5_addSeconds_88 (by decide) (by decide) (fun c_24 => ?_) (fun c_24 => ?_)
              · exact absurd c_24 (by decide)
              · have hc_88 := c_24
                refine lv_aload_n hx hb dX5_addSeconds_91 rfl (lv_at hl 3 rfl) ?_
                refine lv_iload_n hx hb dX5_addSeconds_92 rfl (lv_at hl 4 rfl) ?_
                refine lv_iload_n hx hb dX5_addSeconds_93 rfl (lv_at hl 5 rfl) ?_
                refine cj_i (va_runSN (As := [.int (zI f1), .int (zI d1)]) (rest := [.ref h0]) hF (c_X9_codeOf l G f1 d1  (by omega) (by omega) H.size) ⟨va_cnB 2 hF.2.2.2.2 gX5_addSeconds_X9_codeOf_n84 rfl rfl rfl (hBd.2.1 (RX5, 84, yX9_codeOf, RX9) (by decide)) kt_RX9 (by decide +kernel) ⟨Nat.le_of_ble_eq_true rfl, Nat.le_of_ble_eq_true rfl⟩, ks_yX9_codeOf, trivial⟩ (z_preS hK hP hD hS hA hBd [] rfl rfl [.int (zI f1), .int (zI d1)]) rfl rfl hl.1 rfl (lv_room (Nat.le_of_ble_eq_true rfl)) dX5_addSeconds_94 ⟨Nat.le_of_ble_eq_true rfl, Nat.le_of_ble_eq_true rfl⟩) hP hD hS hA [] rfl (fun _ => Nat.le_of_ble_eq_true rfl) (fun r_26 u_25 H locs hw hP hD hS => ?_)
                have hP : va_P G.1 vwCl [(h0, .inr (5, [.ref tk, .ref r0, .ref w0, .ref c1, .ref i0, .ref p0, .int (zI sd), .int (zI cna), .int (zI ln), .int (zI gra)])), (tk, .inr (0, [.ref ta])), (ta, .inl (G.2.1.1, 52, .inl (aI (stp (stp b0 sd f1 d1) sd i d2)))), (r0, .inl (G.2.1.1, 3060, .inl (aI fra))), (w0, .inl (G.2.1.1, 3060, .inl (aI fwa))), (c1, .inl (G.2.1.2.1, 450, .inr (.inl (aL (up fca cna (kch [(f1, d1), (i, d2)])))))), (i0, .inl (G.2.1.1, 450, .inl (aI (up fha cna (kpt sd b0 [(f1, d1), (i, d2)]))))), (p0, .inl (G.2.1.2.1, 26, .inr (.inl (aL p5))))] H := hP
                have hD : va_D A [(h0, .inr (5, [.ref tk, .ref r0, .ref w0, .ref c1, .ref i0, .ref p0, .int (zI sd), .int (zI cna), .int (zI ln), .int (zI gra)])), (tk, .inr (0, [.ref ta])), (ta, .inl (G.2.1.1, 52, .inl (aI (stp (stp b0 sd f1 d1) sd i d2)))), (r0, .inl (G.2.1.1, 3060, .inl (aI fra))), (w0, .inl (G.2.1.1, 3060, .inl (aI fwa))), (c1, .inl (G.2.1.2.1, 450, .inr (.inl (aL (up fca cna (kch [(f1, d1), (i, d2)])))))), (i0, .inl (G.2.1.1, 450, .inl (aI (up fha cna (kpt sd b0 [(f1, d1), (i, d2)]))))), (p0, .inl (G.2.1.2.1, 26, .inr (.inl (aL p5))))] := hD
                obtain rfl := hw
                refine z_iconst hF dX5_addSeconds_97 ?_
                refine lv_iload hx hb dX5_addSeconds_98 (lv_at hl 8 rfl) ?_
                refine lv_iload hx hb dX5_addSeconds_100 (lv_at hl 7 rfl) ?_
                refine cj_i (va_runSN (As := [.int (zI i), .int (zI d2)]) (rest := [.int (zI 1), .int (zI (8 * f1 + d1)), .ref h0]) hF (c_X9_codeOf l G i d2  (by omega) (by omega) H.size) ⟨va_cnB 2 hF.2.2.2.2 gX5_addSeconds_X9_codeOf_n84 rfl rfl rfl (hBd.2.1 (RX5, 84, yX9_codeOf, RX9) (by decide)) kt_RX9 (by decide +kernel) ⟨Nat.le_of_ble_eq_true rfl, Nat.le_of_ble_eq_true rfl⟩, ks_yX9_codeOf, trivial⟩ (z_preS hK hP hD hS hA hBd [] rfl rfl [.int (zI i), .int (zI d2)]) rfl rfl hl.1 rfl (lv_room (Nat.le_of_ble_eq_true rfl)) dX5_addSeconds_102 ⟨Nat.le_of_ble_eq_true rfl, Nat.le_of_ble_eq_true rfl⟩) hP hD hS hA [] rfl (fun _ => Nat.le_of_ble_eq_true rfl) (fun r_28 u_27 H locs hw hP hD hS => ?_)
                have hP : va_P G.1 vwCl [(h0, .inr (5, [.ref tk, .ref r0, .ref w0, .ref c1, .ref i0, .ref p0, .int (zI sd), .int (zI cna), .int (zI ln), .int (zI gra)])), (tk, .inr (0, [.ref ta])), (ta, .inl (G.2.1.1, 52, .inl (aI (stp (stp b0 sd f1 d1) sd i d2)))), (r0, .inl (G.2.1.1, 3060, .inl (aI fra))), (w0, .inl (G.2.1.1, 3060, .inl (aI fwa))), (c1, .inl (G.2.1.2.1, 450, .inr (.inl (aL (up fca cna (kch [(f1, d1), (i, d2)])))))), (i0, .inl (G.2.1.1, 450, .inl (aI (up fha cna (kpt sd b0 [(f1, d1), (i, d2)]))))), (p0, .inl (G.2.1.2.1, 26, .inr (.inl (aL p5))))] H := hP
                have hD : va_D A [(h0, .inr (5, [.ref tk, .ref r0, .ref w0, .ref c1, .ref i0, .ref p0, .int (zI sd), .int (zI cna), .int (zI ln), .int (zI gra)])), (tk, .inr (0, [.ref ta])), (ta, .inl (G.2.1.1, 52, .inl (aI (stp (stp b0 sd f1 d1) sd i d2)))), (r0, .inl (G.2.1.1, 3060, .inl (aI fra))), (w0, .inl (G.2.1.1, 3060, .inl (aI fwa))), (c1, .inl (G.2.1.2.1, 450, .inr (.inl (aL (up fca cna (kch [(f1, d1), (i, d2)])))))), (i0, .inl (G.2.1.1, 450, .inl (aI (up fha cna (kpt sd b0 [(f1, d1), (i, d2)]))))), (p0, .inl (G.2.1.2.1, 26, .inr (.inl (aL p5))))] := hD
                obtain rfl := hw
                refine cj_i (va_runSN (As := [.int (zI (8 * f1 + d1)), .int (zI 1), .int (zI (8 * i + d2))]) (rest := [.ref h0]) hF (c_X9_withCode l G (8 * f1 + d1) 1 (8 * i + d2)  (by omega) (by show 0 ≤ 8 * f1 + d1 ∧ 8 * f1 + d1 < 256; omega) (by omega) H.size) ⟨va_cnB 3 hF.2.2.2.2 gX5_addSeconds_X9_withCode_n88 rfl rfl rfl (hBd.2.1 (RX5, 88, yX9_withCode, RX9) (by decide)) kt_RX9 (by decide +kernel) ⟨Nat.le_of_ble_eq_true rfl, Nat.le_of_ble_eq_true rfl⟩, ks_yX9_withCode, trivial⟩ (z_preS hK hP hD hS hA hBd [] rfl rfl [.int (zI (8 * f1 + d1)), .int (zI 1), .int (zI (8 * i + d2))]) rfl rfl hl.1 rfl (lv_room (Nat.le_of_ble_eq_true rfl)) dX5_addSeconds_105 ⟨Nat.le_of_ble_eq_true rfl, Nat.le_of_ble_eq_true rfl⟩) hP hD hS hA [] rfl (fun _ => Nat.le_of_ble_eq_true rfl) (fun r_30 u_29 H locs hw hP hD hS => ?_)
                have hP : va_P G.1 vwCl [(h0, .inr (5, [.ref tk, .ref r0, .ref w0, .ref c1, .ref i0, .ref p0, .int (zI sd), .int (zI cna), .int (zI ln), .int (zI gra)])), (tk, .inr (0, [.ref ta])), (ta, .inl (G.2.1.1, 52, .inl (aI (stp (stp b0 sd f1 d1) sd i d2)))), (r0, .inl (G.2.1.1, 3060, .inl (aI fra))), (w0, .inl (G.2.1.1, 3060, .inl (aI fwa))), (c1, .inl (G.2.1.2.1, 450, .inr (.inl (aL (up fca cna (kch [(f1, d1), (i, d2)])))))), (i0, .inl (G.2.1.1, 450, .inl (aI (up fha cna (kpt sd b0 [(f1, d1), (i, d2)]))))), (p0, .inl (G.2.1.2.1, 26, .inr (.inl (aL p5))))] H := hP
                have hD : va_D A [(h0, .inr (5, [.ref tk, .ref r0, .ref w0, .ref c1, .ref i0, .ref p0, .int (zI sd), .int (zI cna), .int (zI ln), .int (zI gra)])), (tk, .inr (0, [.ref ta])), (ta, .inl (G.2.1.1, 52, .inl (aI (stp (stp b0 sd f1 d1) sd i d2)))), (r0, .inl (G.2.1.1, 3060, .inl (aI fra))), (w0, .inl (G.2.1.1, 3060, .inl (aI fwa))), (c1, .inl (G.2.1.2.1, 450, .inr (.inl (aL (up fca cna (kch [(f1, d1), (i, d2)])))))), (i0, .inl (G.2.1.1, 450, .inl (aI (up fha cna (kpt sd b0 [(f1, d1), (i, d2)]))))), (p0, .inl (G.2.1.2.1, 26, .inr (.inl (aL p5))))] := hD
                obtain rfl := hw
                refine z_tz (b := (rc [(f1, d1), (i, d2)])) (by show (8 * f1 + d1) + (8 * i + d2) * 256 = (8 * f1 + d1) + 256 * ((8 * i + d2) + 256 * 0); omega) ?_
                refine cj_v (va_runV (As := [.int (zI (rc [(f1, d1), (i, d2)]))]) (rest := []) hF (c_X5_addRow l G h0 tk ta r0 w0 c1 i0 p0 (stp (stp b0 sd f1 d1) sd i d2) fra fwa sd cna ln gra (rc [(f1, d1), (i, d2)])  (by omega) (hv2.ok (by omega)) (by omega) (by omega) hw9 hRPa.2.2.2 H.size) (cwV 1 hF.2.2.2.2 gX5_addSeconds_X5_addRow rfl rfl rfl (by decide +kernel) ⟨Nat.le_of_ble_eq_true rfl, Nat.le_of_ble_eq_true rfl⟩) (z_preV hK hP hD hS hA hBd [0, 1, 2, 3, 4] rfl rfl rfl rfl [.int (zI (rc [(f1, d1), (i, d2)]))]) rfl rfl hl.1 rfl (lv_room (Nat.le_of_ble_eq_true rfl)) dX5_addSeconds_108 ⟨Nat.le_of_ble_eq_true rfl, Nat.le_of_ble_eq_true rfl⟩) hP hD hS hA [0, 1, 2, 3, 4] rfl (fun _ => Nat.le_of_ble_eq_true rfl) (fun u_31 H locs hw hP hD hS => ?_)
                have hP : va_P G.1 vwCl [(h0, .inr (5, [.ref tk, .ref r0, .ref w0, .ref c1, .ref i0, .ref p0, .int (zI sd), .int (zI (cna + 1)), .int (zI ln), .int (zI (if up fwa cna (wth (stp (stp b0 sd f1 d1) sd i d2) sd) gra < wth (stp (stp b0 sd f1 d1) sd i d2) sd then cna else gra))])), (tk, .inr (0, [.ref ta])), (ta, .inl (G.2.1.1, 52, .inl (aI (stp (stp b0 sd f1 d1) sd i d2)))), (r0, .inl (G.2.1.1, 3060, .inl (aI (up fra cna (rc [(f1, d1), (i, d2)]))))), (w0, .inl (G.2.1.1, 3060, .inl (aI (up fwa cna (wth (stp (stp b0 sd f1 d1) sd i d2) sd))))), (c1, .inl (G.2.1.2.1, 450, .inr (.inl (aL (up fca cna (kch [(f1, d1), (i, d2)])))))), (i0, .inl (G.2.1.1, 450, .inl (aI (up fha cna (kpt sd b0 [(f1, d1), (i, d2)]))))), (p0, .inl (G.2.1.2.1, 26, .inr (.inl (aL p5))))] H := hP
                have hD : va_D A [(h0, .inr (5, [.ref tk, .ref r0, .ref w0, .ref c1, .ref i0, .ref p0, .int (zI sd), .int (zI (cna + 1)), .int (zI ln), .int (zI (if up fwa cna (wth (stp (stp b0 sd f1 d1) sd i d2) sd) gra < wth (stp (stp b0 sd f1 d1) sd i d2) sd then cna else gra))])), (tk, .inr (0, [.ref ta])), (ta, .inl (G.2.1.1, 52, .inl (aI (stp (stp b0 sd f1 d1) sd i d2)))), (r0, .inl (G.2.1.1, 3060, .inl (aI (up fra cna (rc [(f1, d1), (i, d2)]))))), (w0, .inl (G.2.1.1, 3060, .inl (aI (up fwa cna (wth (stp (stp b0 sd f1 d1) sd i d2) sd))))), (c1, .inl (G.2.1.2.1, 450, .inr (.inl (aL (up fca cna (kch [(f1, d1), (i, d2)])))))), (i0, .inl (G.2.1.1, 450, .inl (aI (up fha cna (kpt sd b0 [(f1, d1), (i, d2)]))))), (p0, .inl (G.2.1.2.1, 26, .inr (.inl (aL p5))))] := hD
                obtain - := hw
                refine lv_aload_n hx hb dX5_addSeconds_111 rfl (lv_at hl 3 rfl) ?_
                refine z_get (k := 0) hF hK hP 0 rfl rfl i_wsX50 (by decide) kf_12 rfl dX5_addSeconds_112 ?_
                refine lv_aload_n hx hb dX5_addSeconds_115 rfl (lv_at hl 3 rfl) ?_
                refine z_get (k := 6) hF hK hP 0 rfl rfl i_wsX50 (by decide) kf_35 rfl dX5_addSeconds_116 ?_
                refine lv_iload hx hb dX5_addSeconds_119 (lv_at hl 8 rfl) ?_
                refine lv_iload hx hb dX5_addSeconds_121 (lv_at hl 7 rfl) ?_
                refine lv_iload hx hb dX5_addSeconds_123 (lv_at hl 2 rfl) ?_
                refine cj_v (va_runV (As := [.int (zI sd), .int (zI i), .int (zI d2), .int (zI (hwB (stp b0 sd f1 d1) sd i d2))]) (rest := []) hF (c_X0_stepBack l G tk ta (stp b0 sd f1 d1) sd i d2  (by omega) (by omega) (by omega) H.size) (cwV 4 hF.2.2.2.2 gX5_addSeconds_X0_stepBack rfl rfl rfl (by decide +kernel) ⟨Nat.le_of_ble_eq_true rfl, Nat.le_of_ble_eq_true rfl⟩) (z_preV hK hP hD hS hA hBd [1, 2] rfl rfl rfl rfl [.int (zI sd), .int (zI i), .int (zI d2), .int (zI (hwB (stp b0 sd f1 d1) sd i d2))]) rfl rfl hl.1 rfl (lv_room (Nat.le_of_ble_eq_true rfl)) dX5_addSeconds_125 ⟨Nat.le_of_ble_eq_true rfl, Nat.le_of_ble_eq_true rfl⟩) hP hD hS hA [1, 2] rfl (fun _ => Nat.le_of_ble_eq_true rfl) (fun u_33 H locs hw hP hD hS => ?_)
                have hP : va_P G.1 vwCl [(h0, .inr (5, [.ref tk, .ref r0, .ref w0, .ref c1, .ref i0, .ref p0, .int (zI sd), .int (zI (cna + 1)), .int (zI ln), .int (zI (if up fwa cna (wth (stp (stp b0 sd f1 d1) sd i d2) sd) gra < wth (stp (stp b0 sd f1 d1) sd i d2) sd then cna else gra))])), (tk, .inr (0, [.ref ta])), (ta, .inl (G.2.1.1, 52, .inl (aI (stp b0 sd f1 d1)))), (r0, .inl (G.2.1.1, 3060, .inl (aI (up fra cna (rc [(f1, d1), (i, d2)]))))), (w0, .inl (G.2.1.1, 3060, .inl (aI (up fwa cna (wth (stp (stp b0 sd f1 d1) sd i d2) sd))))), (c1, .inl (G.2.1.2.1, 450, .inr (.inl (aL (up fca cna (kch [(f1, d1), (i, d2)])))))), (i0, .inl (G.2.1.1, 450, .inl (aI (up fha cna (kpt sd b0 [(f1, d1), (i, d2)]))))), (p0, .inl (G.2.1.2.1, 26, .inr (.inl (aL p5))))] H := hP
                have hD : va_D A [(h0, .inr (5, [.ref tk, .ref r0, .ref w0, .ref c1, .ref i0, .ref p0, .int (zI sd), .int (zI (cna + 1)), .int (zI ln), .int (zI (if up fwa cna (wth (stp (stp b0 sd f1 d1) sd i d2) sd) gra < wth (stp (stp b0 sd f1 d1) sd i d2) sd then cna else gra))])), (tk, .inr (0, [.ref ta])), (ta, .inl (G.2.1.1, 52, .inl (aI (stp b0 sd f1 d1)))), (r0, .inl (G.2.1.1, 3060, .inl (aI (up fra cna (rc [(f1, d1), (i, d2)]))))), (w0, .inl (G.2.1.1, 3060, .inl (aI (up fwa cna (wth (stp (stp b0 sd f1 d1) sd i d2) sd))))), (c1, .inl (G.2.1.2.1, 450, .inr (.inl (aL (up fca cna (kch [(f1, d1), (i, d2)])))))), (i0, .inl (G.2.1.1, 450, .inl (aI (up fha cna (kpt sd b0 [(f1, d1), (i, d2)]))))), (p0, .inl (G.2.1.2.1, 26, .inr (.inl (aL p5))))] := hD
                obtain - := hw
                refine z_iinc (lv' := [(5, .int (zI (i + (-1)))), (9, .int (zI (kpt sd b0 [(f1, d1), (i, d2)]))), (7, .long (zL (kch [(f1, d1), (i, d2)]))), (6, .int (zI (hwB (stp b0 sd f1 d1) sd i d2))), (0, .ref h0), (1, .int (zI f1)), (2, .int (zI d1)), (3, .int (zI (hwB b0 sd f1 d1))), (4, .int (zI d2))]) hF dX5_addSeconds_128 hl (k := 8) rfl (by decide) rfl (fun ls hl => ?_)
                refine z_goto (tgt := 4) hF dX5_addSeconds_131 (by decide) ?_
                exact ih4 (i + (-1)) (up fra cna (rc [(f1, d1), (i, d2)])) (up fwa cna (wth (stp (stp b0 sd f1 d1) sd i d2) sd)) (up fca cna (kch [(f1, d1), (i, d2)])) (up fha cna (kpt sd b0 [(f1, d1), (i, d2)])) (cna + 1) (if up fwa cna (wth (stp (stp b0 sd f1 d1) sd i d2) sd) gra < wth (stp (stp b0 sd f1 d1) sd i d2) sd then cna else gra) (adN sd b0 La [(f1, d1), (i, d2)]) (by omega) (by omega) (by rw [adN_f hnew]; exact RepP_add hRPa rfl hw9) (by rw [adN_f hnew]; exact RepK_add hRKa hRPa.1) (fun k => up_rg hfca (by omega) k) (fun k => up_rg hfha (by omega) k) (by rw [← hLa, mvZ_t (by omega) hcan.2.2]; rfl) (by rw [mvZ_t (by omega) hcan.2.2, List.length_cons] at hca; omega) H locs ls hP hD hS (lv_sub hl [4, 5, 6, 7, 8, 0] rfl)
        · skip
          have hnc : ¬ canP (stp b0 sd f1 d1) sd i d2 := fun h9 => h_5 ⟨hd2.1, hd2.2, h9⟩
          refine z_if_eq (tgt := 128) hF dX5_addSeconds_25 (by decide) (by decide) (fun c_35 => ?_) (fun c_35 => ?_)
          · have hc_25 := c_35
            refine z_iinc (lv' := [(5, .int (zI (i + (-1)))), (0, .ref h0), (1, .int (zI f1)), (2, .int (zI d1)), (3, .int (zI (hwB b0 sd f1 d1))), (4, .int (zI d2))]) hF dX5_addSeconds_128 hl (k := 5) rfl (by decide) rfl (fun ls hl => ?_)
            refine z_goto (tgt := 4) hF dX5_addSeconds_131 (by decide) ?_
            exact ih4 (i + (-1)) fra fwa fca fha cna gra La (by omega) (by omega) hRPa hRKa hfca hfha (by rw [← hLa, mvZ_f (by omega) hnc]) (by rw [mvZ_f (by omega) hnc] at hca; exact hca) H locs ls hP hD hS (lv_sub hl [1, 2, 3, 4, 5, 0] rfl)
          · exact absurd c_35 (by decide)
  exact L4 _ 25 fr fw fc fh cnt gr L (Nat.lt_succ_self _) (by omega) hRP hRK hfc hfh rfl hcap H locs ls hP hD hS (lv_sub hl [1, 2, 3, 4, 5, 0] rfl)
set_option maxHeartbeats 4000000 in
set_option maxRecDepth 100000 in
theorem c_X5_addPairs (l : Launch) (G : wG) (h0 tk ta r0 w0 c1 i0 p0 : Nat) (b0 fr fw fc fh : Int → Int) (sd cnt ln gr n0 d1 d2 : Int) (L : List Row)  (hsd : 0 ≤ sd ∧ sd ≤ 1) (hn0 : n0 ≤ 15) (hvb : VB n0 b0) (hd1 : 1 ≤ d1 ∧ d1 ≤ 6) (hd2 : 1 ≤ d2 ∧ d2 ≤ 6) (hRP : RepP b0 sd L fr fw cnt gr) (hRK : RepK b0 sd L fc fh) (hfc : ∀ k, -2000000000000000000 ≤ fc k ∧ fc k ≤ 2000000000000000000) (hfh : ∀ k, 0 ≤ fh k ∧ fh k ≤ 1073741824) (hcap : cnt + cpPrs sd b0 d1 d2 (mvZ b0 sd d1 25) ≤ 450) (z9 : Nat) : Met l yX5_addPairs wsX5_addPairs (rmL 6 0 0) (wPc G [(h0, .inr (5, [.ref tk, .ref r0, .ref w0, .ref c1, .ref i0, .ref p0, .int (zI sd), .int (zI cnt), .int (zI ln), .int (zI gr)])), (tk, .inr (0, [.ref ta])), (ta, .inl (G.2.1.1, 52, .inl (aI b0))), (r0, .inl (G.2.1.1, 3060, .inl (aI fr))), (w0, .inl (G.2.1.1, 3060, .inl (aI fw))), (c1, .inl (G.2.1.2.1, 450, .inr (.inl (aL fc)))), (i0, .inl (G.2.1.1, 450, .inl (aI fh))), (p0, .inl (G.2.1.2.1, 26, .inr (.inl (aL p5))))] z9 [.ref h0, .int (zI d1), .int (zI d2)]) (wQv G (fun (u : ((Int → Int) × (Int → Int) × (Int → Int) × (Int → Int) × Int × Int)) => RepP b0 sd (adPrs sd b0 d1 d2 L (mvZ b0 sd d1 25)) u.1 u.2.1 u.2.2.2.2.1 u.2.2.2.2.2 ∧ RepK b0 sd (adPrs sd b0 d1 d2 L (mvZ b0 sd d1 25)) u.2.2.1 u.2.2.2.1 ∧ (∀ k, -2000000000000000000 ≤ u.2.2.1 k ∧ u.2.2.1 k ≤ 2000000000000000000) ∧ (∀ k, 0 ≤ u.2.2.2.1 k ∧ u.2.2.2.1 k ≤ 1073741824) ∧ u.2.2.2.2.1 ≤ cnt + cpPrs sd b0 d1 d2 (mvZ b0 sd d1 25)) (fun (u : ((Int → Int) × (Int → Int) × (Int → Int) × (Int → Int) × Int × Int)) => [(h0, .inr (5, [.ref tk, .ref r0, .ref w0, .ref c1, .ref i0, .ref p0, .int (zI sd), .int (zI u.2.2.2.2.1), .int (zI ln), .int (zI u.2.2.2.2.2)])), (tk, .inr (0, [.ref ta])), (ta, .inl (G.2.1.1, 52, .inl (aI b0))), (r0, .inl (G.2.1.1, 3060, .inl (aI u.1))), (w0, .inl (G.2.1.1, 3060, .inl (aI u.2.1))), (c1, .inl (G.2.1.2.1, 450, .inr (.inl (aL u.2.2.1)))), (i0, .inl (G.2.1.1, 450, .inl (aI u.2.2.2.1))), (p0, .inl (G.2.1.2.1, 26, .inr (.inl (aL p5))))]) (va_A [(h0, .inr (5, [.ref tk, .ref r0, .ref w0, .ref c1, .ref i0, .ref p0, .int (zI sd), .int (zI cnt), .int (zI ln), .int (zI gr)])), (tk, .inr (0, [.ref ta])), (ta, .inl (G.2.1.1, 52, .inl (aI b0))), (r0, .inl (G.2.1.1, 3060, .inl (aI fr))), (w0, .inl (G.2.1.1, 3060, .inl (aI fw))), (c1, .inl (G.2.1.2.1, 450, .inr (.inl (aL fc)))), (i0, .inl (G.2.1.1, 450, .inl (aI fh))), (p0, .inl (G.2.1.2.1, 26, .inr (.inl (aL p5))))] z9)) 0 0 (va_A [(h0, .inr (5, [.ref tk, .ref r0, .ref w0, .ref c1, .ref i0, .ref p0, .int (zI sd), .int (zI cnt), .int (zI ln), .int (zI gr)])), (tk, .inr (0, [.ref ta])), (ta, .inl (G.2.1.1, 52, .inl (aI b0))), (r0, .inl (G.2.1.1, 3060, .inl (aI fr))), (w0, .inl (G.2.1.1, 3060, .inl (aI fw))), (c1, .inl (G.2.1.2.1, 450, .inr (.inl (aL fc)))), (i0, .inl (G.2.1.1, 450, .inl (aI fh))), (p0, .inl (G.2.1.2.1, 26, .inr (.inl (aL p5))))] z9) := by
  refine z_ofW (Qc := fun A => wQv G (fun (u : ((Int → Int) × (Int → Int) × (Int → Int) × (Int → Int) × Int × Int)) => RepP b0 sd (adPrs sd b0 d1 d2 L (mvZ b0 sd d1 25)) u.1 u.2.1 u.2.2.2.2.1 u.2.2.2.2.2 ∧ RepK b0 sd (adPrs sd b0 d1 d2 L (mvZ b0 sd d1 25)) u.2.2.1 u.2.2.2.1 ∧ (∀ k, -2000000000000000000 ≤ u.2.2.1 k ∧ u.2.2.1 k ≤ 2000000000000000000) ∧ (∀ k, 0 ≤ u.2.2.2.1 k ∧ u.2.2.2.1 k ≤ 1073741824) ∧ u.2.2.2.2.1 ≤ cnt + cpPrs sd b0 d1 d2 (mvZ b0 sd d1 25)) (fun (u : ((Int → Int) × (Int → Int) × (Int → Int) × (Int → Int) × Int × Int)) => [(h0, .inr (5, [.ref tk, .ref r0, .ref w0, .ref c1, .ref i0, .ref p0, .int (zI sd), .int (zI u.2.2.2.2.1), .int (zI ln), .int (zI u.2.2.2.2.2)])), (tk, .inr (0, [.ref ta])), (ta, .inl (G.2.1.1, 52, .inl (aI b0))), (r0, .inl (G.2.1.1, 3060, .inl (aI u.1))), (w0, .inl (G.2.1.1, 3060, .inl (aI u.2.1))), (c1, .inl (G.2.1.2.1, 450, .inr (.inl (aL u.2.2.1)))), (i0, .inl (G.2.1.1, 450, .inl (aI u.2.2.2.1))), (p0, .inl (G.2.1.2.1, 26, .inr (.inl (aL p5))))]) A) l G [(h0, .inr (5, [.ref tk, .ref r0, .ref w0, .ref c1, .ref i0, .ref p0, .int (zI sd), .int (zI cnt), .int (zI ln), .int (zI gr)])), (tk, .inr (0, [.ref ta])), (ta, .inl (G.2.1.1, 52, .inl (aI b0))), (r0, .inl (G.2.1.1, 3060, .inl (aI fr))), (w0, .inl (G.2.1.1, 3060, .inl (aI fw))), (c1, .inl (G.2.1.2.1, 450, .inr (.inl (aL fc)))), (i0, .inl (G.2.1.1, 450, .inl (aI fh))), (p0, .inl (G.2.1.2.1, 26, .inr (.inl (aL p5))))] [.ref h0, .int (zI d1), .int (zI d2)] (by decide) rfl rfl ?_ z9
  intro p e s m args below meth c A ls H locs hF hr hlocks hinit hP hK hD hA hS hBd hl
  have hF : wFx p m c cX5_addPairs 5 s args wsX5_addPairs RX5 := hF
  have hl : lv_has ls 5 [(0, .ref h0), (1, .int (zI d1)), (2, .int (zI d2))] := hl
  have hx := hF.1
  have hb := hF.2.1
  obtain ⟨Q0, hQ⟩ : ∃ q, q = (MQ below (wQv G (fun (u : ((Int → Int) × (Int → Int) × (Int → Int) × (Int → Int) × Int × Int)) => RepP b0 sd (adPrs sd b0 d1 d2 L (mvZ b0 sd d1 25)) u.1 u.2.1 u.2.2.2.2.1 u.2.2.2.2.2 ∧ RepK b0 sd (adPrs sd b0 d1 d2 L (mvZ b0 sd d1 25)) u.2.2.1 u.2.2.2.1 ∧ (∀ k, -2000000000000000000 ≤ u.2.2.1 k ∧ u.2.2.1 k ≤ 2000000000000000000) ∧ (∀ k, 0 ≤ u.2.2.2.1 k ∧ u.2.2.2.1 k ≤ 1073741824) ∧ u.2.2.2.2.1 ≤ cnt + cpPrs sd b0 d1 d2 (mvZ b0 sd d1 25)) (fun (u : ((Int → Int) × (Int → Int) × (Int → Int) × (Int → Int) × Int × Int)) => [(h0, .inr (5, [.ref tk, .ref r0, .ref w0, .ref c1, .ref i0, .ref p0, .int (zI sd), .int (zI u.2.2.2.2.1), .int (zI ln), .int (zI u.2.2.2.2.2)])), (tk, .inr (0, [.ref ta])), (ta, .inl (G.2.1.1, 52, .inl (aI b0))), (r0, .inl (G.2.1.1, 3060, .inl (aI u.1))), (w0, .inl (G.2.1.1, 3060, .inl (aI u.2.1))), (c1, .inl (G.2.1.2.1, 450, .inr (.inl (aL u.2.2.1)))), (i0, .inl (G.2.1.1, 450, .inl (aI u.2.2.2.1))), (p0, .inl (G.2.1.2.1, 26, .inr (.inl (aL p5))))]) A) args s 0 0 A) := ⟨_, rfl⟩
  rw [← hQ]
  have i_wsX50 : ∀ w ∈ wsX50, w ∈ wsX5_addPairs := (fun _ h => (List.mem_cons_of_mem _ (List.mem_append_left _ (List.mem_append_right _ h))))
  have kf_12 : (Cond.fieldLink RX5 12 "Gammonry$Plays" "track" "LGammonry$Board;").before args s = true := hF.2.2.2.2 _ (List.mem_cons_of_mem _ (List.mem_append_left _ (List.mem_append_left _ (List.mem_append_left _ (List.mem_of_getElem? (i := 0) rfl)))))
  have kf_35 : (Cond.fieldLink RX5 35 "Gammonry$Plays" "side" "I").before args s = true := hF.2.2.2.2 _ (List.mem_cons_of_mem _ (List.mem_append_left _ (List.mem_append_left _ (List.mem_append_left _ (List.mem_of_getElem? (i := 1) rfl)))))
  refine z_bipush hF dX5_addPairs_0 (by decide) ?_
  refine lv_istore_n (lv' := [(3, .int (zI 25)), (0, .ref h0), (1, .int (zI d1)), (2, .int (zI d2))]) hx hb dX5_addPairs_2 rfl hl (by decide) rfl (fun ls hl => ?_)
  have L3 : ∀ (n9 : Nat) (i : Int) (fra fwa fca fha : Int → Int) (cna gra : Int) (La : List Row), i.toNat < n9 → (0 ≤ i ∧ i ≤ 25) → RepP b0 sd La fra fwa cna gra → RepK b0 sd La fca fha → (∀ k, -2000000000000000000 ≤ fca k ∧ fca k ≤ 2000000000000000000) → (∀ k, 0 ≤ fha k ∧ fha k ≤ 1073741824) → adPrs sd b0 d1 d2 La (mvZ b0 sd d1 i) = (adPrs sd b0 d1 d2 L (mvZ b0 sd d1 25)) → cna + cpPrs sd b0 d1 d2 (mvZ b0 sd d1 i) ≤ 450 → ∀ (H : Heap) (locs : List Loc) (ls : Array Slot), va_P G.1 vwCl [(h0, .inr (5, [.ref tk, .ref r0, .ref w0, .ref c1, .ref i0, .ref p0, .int (zI sd), .int (zI cna), .int (zI ln), .int (zI gra)])), (tk, .inr (0, [.ref ta])), (ta, .inl (G.2.1.1, 52, .inl (aI b0))), (r0, .inl (G.2.1.1, 3060, .inl (aI fra))), (w0, .inl (G.2.1.1, 3060, .inl (aI fwa))), (c1, .inl (G.2.1.2.1, 450, .inr (.inl (aL fca)))), (i0, .inl (G.2.1.1, 450, .inl (aI fha))), (p0, .inl (G.2.1.2.1, 26, .inr (.inl (aL p5))))] H → va_D A [(h0, .inr (5, [.ref tk, .ref r0, .ref w0, .ref c1, .ref i0, .ref p0, .int (zI sd), .int (zI cna), .int (zI ln), .int (zI gra)])), (tk, .inr (0, [.ref ta])), (ta, .inl (G.2.1.1, 52, .inl (aI b0))), (r0, .inl (G.2.1.1, 3060, .inl (aI fra))), (w0, .inl (G.2.1.1, 3060, .inl (aI fwa))), (c1, .inl (G.2.1.2.1, 450, .inr (.inl (aL fca)))), (i0, .inl (G.2.1.1, 450, .inl (aI fha))), (p0, .inl (G.2.1.2.1, 26, .inr (.inl (aL p5))))] → va_S A s.heap H locs → lv_has ls 5 [(0, .ref h0), (1, .int (zI d1)), (2, .int (zI d2)), (3, .int (zI i))] → W p l e (rmL 6 0 0) s m args below meth c H locs 0 0 Q0 (F0 m 3 ls []) := by
    intro n9
    induction n9 with
    | zero => intro i fra fwa fca fha cna gra La hmu; omega
    | succ n9 ih3 =>
      intro i fra fwa fca fha cna gra La hmu3 hzi hRPa hRKa hfca hfha hLa hca H locs ls hP hD hS hl
      refine lv_iload_n hx hb dX5_addPairs_3 rfl (lv_at hl 3 rfl) ?_
      refine z_iconst hF dX5_addPairs_4 ?_
      refine z_icmp_lt (tgt := 69) hF dX5_addPairs_5 (by decide) (by omega) (by decide) (fun c_1 => ?_) (fun c_1 => ?_)
      · have hc_5 := c_1
        have hfin : (adPrs sd b0 d1 d2 L (mvZ b0 sd d1 25)) = La := by rw [← hLa, mvZ_0 (by omega)]; rfl
        have hq9 := adPrs_len (sd := sd) (b0 := b0) (d1 := d1) (d2 := d2) (fs := mvZ b0 sd d1 25) (L := L)
        rw [hfin] at hq9
        have hq8 := hRPa.1
        have hq7 := hRP.1
        rw [hQ]
        exact z_vret hF hr hlocks (fra, fwa, fca, fha, cna, gra) (by dsimp only; rw [hfin]; exact ⟨hRPa, hRKa, hfca, hfha, by omega⟩) hP hK hD hS dX5_addPairs_69
      · have hc_5 := c_1
        refine lv_aload_n hx hb dX5_addPairs_8 rfl (lv_at hl 0 rfl) ?_
        refine z_get (k := 0) hF hK hP 0 rfl rfl i_wsX50 (by decide) kf_12 rfl dX5_addPairs_9 ?_
        refine lv_aload_n hx hb dX5_addPairs_12 rfl (lv_at hl 0 rfl) ?_
        refine z_get (k := 6) hF hK hP 0 rfl rfl i_wsX50 (by decide) kf_35 rfl dX5_addPairs_13 ?_
        refine lv_iload_n hx hb dX5_addPairs_16 rfl (lv_at hl 3 rfl) ?_
        refine lv_iload_n hx hb dX5_addPairs_17 rfl (lv_at hl 1 rfl) ?_
        refine cj_i (va_runV (As := [.int (zI sd), .int (zI i), .int (zI d1)]) (rest := []) hF (c_X0_canStep l G tk ta b0 sd i d1  (by omega) (by omega) (by omega) (hvb.ok (by omega)) H.size) (cwV 3 hF.2.2.2.2 gX5_addPairs_X0_canStep rfl rfl rfl (by decide +kernel) ⟨Nat.le_of_ble_eq_true rfl, Nat.le_of_ble_eq_true rfl⟩) (z_preV hK hP hD hS hA hBd [1, 2] rfl rfl rfl rfl [.int (zI sd), .int (zI i), .int (zI d1)]) rfl rfl hl.1 rfl (lv_room (Nat.le_of_ble_eq_true rfl)) dX5_addPairs_18 ⟨Nat.le_of_ble_eq_true rfl, Nat.le_of_ble_eq_true rfl⟩) hP hD hS hA [1, 2] rfl (fun _ => Nat.le_of_ble_eq_true rfl) (fun r_3 u_2 H locs hw hP hD hS => ?_)
        have hP : va_P G.1 vwCl [(h0, .inr (5, [.ref tk, .ref r0, .ref w0, .ref c1, .ref i0, .ref p0, .int (zI sd), .int (zI cna), .int (zI ln), .int (zI gra)])), (tk, .inr (0, [.ref ta])), (ta, .inl (G.2.1.1, 52, .inl (aI b0))), (r0, .inl (G.2.1.1, 3060, .inl (aI fra))), (w0, .inl (G.2.1.1, 3060, .inl (aI fwa))), (c1, .inl (G.2.1.2.1, 450, .inr (.inl (aL fca)))), (i0, .inl (G.2.1.1, 450, .inl (aI fha))), (p0, .inl (G.2.1.2.1, 26, .inr (.inl (aL p5))))] H := hP
        have hD : va_D A [(h0, .inr (5, [.ref tk, .ref r0, .ref w0, .ref c1, .ref i0, .ref p0, .int (zI sd), .int (zI cna), .int (zI ln), .int (zI gra)])), (tk, .inr (0, [.ref ta])), (ta, .inl (G.2.1.1, 52, .inl (aI b0))), (r0, .inl (G.2.1.1, 3060, .inl (aI fra))), (w0, .inl (G.2.1.1, 3060, .inl (aI fwa))), (c1, .inl (G.2.1.2.1, 450, .inr (.inl (aL fca)))), (i0, .inl (G.2.1.1, 450, .inl (aI fha))), (p0, .inl (G.2.1.2.1, 26, .inr (.inl (aL p5))))] := hD
        rcases hw with ⟨h_4, rfl⟩ | ⟨h_5, rfl⟩
        · skip
          have hcan := h_4
          have hfi := hcan.2.2.rg
          have hmt := mvZ_t (b := b0) (sd := sd) (d := d1) (h := i) (by omega) hcan.2.2
          have hcp := cpPrs_nn (sd := sd) (b0 := b0) (d1 := d1) (d2 := d2) (mvZ b0 sd d1 (i + -1))
          have hca9 := hca
          rw [hmt, cpPrs] at hca9
          refine z_if_eq (tgt := 63) hF dX5_addPairs_21 (by decide) (by decide) (fun c_6 => ?_) (fun c_6 => ?_)
          · exact absurd c_6 (by decide)
          · have hc_21 := c_6
            refine lv_aload_n hx hb dX5_addPairs_24 rfl (lv_at hl 0 rfl) ?_
            refine z_get (k := 0) hF hK hP 0 rfl rfl i_wsX50 (by decide) kf_12 rfl dX5_addPairs_25 ?_
            refine lv_aload_n hx hb dX5_addPairs_28 rfl (lv_at hl 0 rfl) ?_
            refine z_get (k := 6) hF hK hP 0 rfl rfl i_wsX50 (by decide) kf_35 rfl dX5_addPairs_29 ?_
            refine lv_iload_n hx hb dX5_addPairs_32 rfl (lv_at hl 3 rfl) ?_
            refine lv_iload_n hx hb dX5_addPairs_33 rfl (lv_at hl 1 rfl) ?_
            refine cj_i (va_runV (As := [.int (zI sd), .int (zI i), .int (zI d1)]) (rest := []) hF (c_X0_step l G tk ta b0 sd i d1  (by omega) (by omega) (by omega) (hvb.ok (by omega)) H.size) (cwV 3 hF.2.2.2.2 gX5_addPairs_X0_step rfl rfl rfl (by decide +kernel) ⟨Nat.le_of_ble_eq_true rfl, Nat.le_of_ble_eq_true rfl⟩) (z_preV hK hP hD hS hA hBd [1, 2] rfl rfl rfl rfl [.int (zI sd), .int (zI i), .int (zI d1)]) rfl rfl hl.1 rfl (lv_room (Nat.le_of_ble_eq_true rfl)) dX5_addPairs_34 ⟨Nat.le_of_ble_eq_true rfl, Nat.le_of_ble_eq_true rfl⟩) hP hD hS hA [1, 2] rfl (fun _ => Nat.le_of_ble_eq_true rfl) (fun r_8 u_7 H locs hw hP hD hS => ?_)
            have hP : va_P G.1 vwCl [(h0, .inr (5, [.ref tk, .ref r0, .ref w0, .ref c1, .ref i0, .ref p0, .int (zI sd), .int (zI cna), .int (zI ln), .int (zI gra)])), (tk, .inr (0, [.ref ta])), (ta, .inl (G.2.1.1, 52, .inl (aI (stp b0 sd i d1)))), (r0, .inl (G.2.1.1, 3060, .inl (aI fra))), (w0, .inl (G.2.1.1, 3060, .inl (aI fwa))), (c1, .inl (G.2.1.2.1, 450, .inr (.inl (aL fca)))), (i0, .inl (G.2.1.1, 450, .inl (aI fha))), (p0, .inl (G.2.1.2.1, 26, .inr (.inl (aL p5))))] H := hP
            have hD : va_D A [(h0, .inr (5, [.ref tk, .ref r0, .ref w0, .ref c1, .ref i0, .ref p0, .int (zI sd), .int (zI cna), .int (zI ln), .int (zI gra)])), (tk, .inr (0, [.ref ta])), (ta, .inl (G.2.1.1, 52, .inl (aI (stp b0 sd i d1)))), (r0, .inl (G.2.1.1, 3060, .inl (aI fra))), (w0, .inl (G.2.1.1, 3060, .inl (aI fwa))), (c1, .inl (G.2.1.2.1, 450, .inr (.inl (aL fca)))), (i0, .inl (G.2.1.1, 450, .inl (aI fha))), (p0, .inl (G.2.1.2.1, 26, .inr (.inl (aL p5))))] := hD
            obtain rfl := hw
            refine lv_istore (lv' := [(4, .int (zI (hwB b0 sd i d1))), (0, .ref h0), (1, .int (zI d1)), (2, .int (zI d2)), (3, .int (zI i))]) hx hb dX5_addPairs_37 hl (by decide) rfl (fun ls hl => ?_)
            refine lv_aload_n hx hb dX5_addPairs_39 rfl (lv_at hl 1 rfl) ?_
            refine lv_iload_n hx hb dX5_addPairs_40 rfl (lv_at hl 4 rfl) ?_
            refine lv_iload_n hx hb dX5_addPairs_41 rfl (lv_at hl 2 rfl) ?_
            refine lv_iload hx hb dX5_addPairs_42 (lv_at hl 0 rfl) ?_
            refine lv_iload_n hx hb dX5_addPairs_44 rfl (lv_at hl 3 rfl) ?_
            refine cj_v (va_runV (As := [.int (zI i), .int (zI d1), .int (zI (hwB b0 sd i d1)), .int (zI d2)]) (rest := []) hF (c_X5_addSeconds l G h0 tk ta r0 w0 c1 i0 p0 b0 fra fwa fca fha sd cna ln gra n0 i d1 d2 La  (by omega) hn0 hvb hcan.2.2 hd1 hd2 hRPa hRKa hfca hfha (by omega) H.size) (cwV 4 hF.2.2.2.2 gX5_addPairs_X5_addSeconds rfl rfl rfl (by decide +kernel) ⟨Nat.le_of_ble_eq_true rfl, Nat.le_of_ble_eq_true rfl⟩) (z_preV hK hP hD hS hA hBd [0, 1, 2, 3, 4, 5, 6, 7] rfl rfl rfl rfl [.int (zI i), .int (zI d1), .int (zI (hwB b0 sd i d1)), .int (zI d2)]) rfl rfl hl.1 rfl (lv_room (Nat.le_of_ble_eq_true rfl)) dX5_addPairs_45 ⟨Nat.le_of_ble_eq_true rfl, Nat.le_of_ble_eq_true rfl⟩) hP hD hS hA [0, 1, 2, 3, 4, 5, 6, 7] rfl (fun _ => Nat.le_of_ble_eq_true rfl) (fun u_9 H locs hw hP hD hS => ?_)
            obtain ⟨fr2_11, fw2_12, fc2_13, fh2_14, cnt2_15, gr2_16⟩ := u_9
            dsimp only at hw hP hD
            have hP : va_P G.1 vwCl [(h0, .inr (5, [.ref tk, .ref r0, .ref w0, .ref c1, .ref i0, .ref p0, .int (zI sd), .int (zI cnt2_15), .int (zI ln), .int (zI gr2_16)])), (tk, .inr (0, [.ref ta])), (ta, .inl (G.2.1.1, 52, .inl (aI (stp b0 sd i d1)))), (r0, .inl (G.2.1.1, 3060, .inl (aI fr2_11))), (w0, .inl (G.2.1.1, 3060, .inl (aI fw2_12))), (c1, .inl (G.2.1.2.1, 450, .inr (.inl (aL fc2_13)))), (i0, .inl (G.2.1.1, 450, .inl (aI fh2_14))), (p0, .inl (G.2.1.2.1, 26, .inr (.inl (aL p5))))] H := hP
            have hD : va_D A [(h0, .inr (5, [.ref tk, .ref r0, .ref w0, .ref c1, .ref i0, .ref p0, .int (zI sd), .int (zI cnt2_15), .int (zI ln), .int (zI gr2_16)])), (tk, .inr (0, [.ref ta])), (ta, .inl (G.2.1.1, 52, .inl (aI (stp b0 sd i d1)))), (r0, .inl (G.2.1.1, 3060, .inl (aI fr2_11))), (w0, .inl (G.2.1.1, 3060, .inl (aI fw2_12))), (c1, .inl (G.2.1.2.1, 450, .inr (.inl (aL fc2_13)))), (i0, .inl (G.2.1.1, 450, .inl (aI fh2_14))), (p0, .inl (G.2.1.2.1, 26, .inr (.inl (aL p5))))] := hD
            obtain ⟨h_17, h_18, h_19, h_20, h_21⟩ := hw
            have hS1 := h_17
            have hS2 := h_18
            have hS3 := h_19
            have hS4 := h_20
            have hS5 := h_21
            refine lv_aload_n hx hb dX5_addPairs_48 rfl (lv_at hl 1 rfl) ?_
            refine z_get (k := 0) hF hK hP 0 rfl rfl i_wsX50 (by decide) kf_12 rfl dX5_addPairs_49 ?_
            refine lv_aload_n hx hb dX5_addPairs_52 rfl (lv_at hl 1 rfl) ?_
            refine z_get (k := 6) hF hK hP 0 rfl rfl i_wsX50 (by decide) kf_35 rfl dX5_addPairs_53 ?_
            refine lv_iload_n hx hb dX5_addPairs_56 rfl (lv_at hl 4 rfl) ?_
            refine lv_iload_n hx hb dX5_addPairs_57 rfl (lv_at hl 2 rfl) ?_
            refine lv_iload hx hb dX5_addPairs_58 (lv_at hl 0 rfl) ?_
            refine cj_v (va_runV (As := [.int (zI sd), .int (zI i), .int (zI d1), .int (zI (hwB b0 sd i d1))]) (rest := []) hF (c_X0_stepBack l G tk ta b0 sd i d1  (by omega) (by omega) (by omega) H.size) (cwV 4 hF.2.2.2.2 gX5_addPairs_X0_stepBack rfl rfl rfl (by decide +kernel) ⟨Nat.le_of_ble_eq_true rfl, Nat.le_of_ble_eq_true rfl⟩) (z_preV hK hP hD hS hA hBd [1, 2] rfl rfl rfl rfl [.int (zI sd), .int (zI i), .int (zI d1), .int (zI (hwB b0 sd i d1))]) rfl rfl hl.1 rfl (lv_room (Nat.le_of_ble_eq_true rfl)) dX5_addPairs_60 ⟨Nat.le_of_ble_eq_true rfl, Nat.le_of_ble_eq_true rfl⟩) hP hD hS hA [1, 2] rfl (fun _ => Nat.le_of_ble_eq_true rfl) (fun u_22 H locs hw hP hD hS => ?_)
            have hP : va_P G.1 vwCl [(h0, .inr (5, [.ref tk, .ref r0, .ref w0, .ref c1, .ref i0, .ref p0, .int (zI sd), .int (zI cnt2_15), .int (zI ln), .int (zI gr2_16)])), (tk, .inr (0, [.ref ta])), (ta, .inl (G.2.1.1, 52, .inl (aI b0))), (r0, .inl (G.2.1.1, 3060, .inl (aI fr2_11))), (w0, .inl (G.2.1.1, 3060, .inl (aI fw2_12))), (c1, .inl (G.2.1.2.1, 450, .inr (.inl (aL fc2_13)))), (i0, .inl (G.2.1.1, 450, .inl (aI fh2_14))), (p0, .inl (G.2.1.2.1, 26, .inr (.inl (aL p5))))] H := hP
            have hD : va_D A [(h0, .inr (5, [.ref tk, .ref r0, .ref w0, .ref c1, .ref i0, .ref p0, .int (zI sd), .int (zI cnt2_15), .int (zI ln), .int (zI gr2_16)])), (tk, .inr (0, [.ref ta])), (ta, .inl (G.2.1.1, 52, .inl (aI b0))), (r0, .inl (G.2.1.1, 3060, .inl (aI fr2_11))), (w0, .inl (G.2.1.1, 3060, .inl (aI fw2_12))), (c1, .inl (G.2.1.2.1, 450, .inr (.inl (aL fc2_13)))), (i0, .inl (G.2.1.1, 450, .inl (aI fh2_14))), (p0, .inl (G.2.1.2.1, 26, .inr (.inl (aL p5))))] := hD
            obtain - := hw
            refine z_iinc (lv' := [(3, .int (zI (i + (-1)))), (4, .int (zI (hwB b0 sd i d1))), (0, .ref h0), (1, .int (zI d1)), (2, .int (zI d2))]) hF dX5_addPairs_63 hl (k := 4) rfl (by decide) rfl (fun ls hl => ?_)
            refine z_goto (tgt := 3) hF dX5_addPairs_66 (by decide) ?_
            exact ih3 (i + (-1)) fr2_11 fw2_12 fc2_13 fh2_14 cnt2_15 gr2_16 (adSec sd b0 i d1 d2 La (mvZ (stp b0 sd i d1) sd d2 25)) (by omega) (by omega) hS1 hS2 hS3 hS4 (by rw [← hLa, hmt]; rfl) (by rw [hmt, cpPrs] at hca; omega) H locs ls hP hD hS (lv_sub hl [2, 3, 4, 0] rfl)
        · skip
          have hnc : ¬ canP b0 sd i d1 := fun h9 => h_5 ⟨hd1.1, hd1.2, h9⟩
          refine z_if_eq (tgt := 63) hF dX5_addPairs_21 (by decide) (by decide) (fun c_24 => ?_) (fun c_24 => ?_)
          · have hc_21 := c_24
            refine z_iinc (lv' := [(3, .int (zI (i + (-1)))), (0, .ref h0), (1, .int (zI d1)), (2, .int (zI d2))]) hF dX5_addPairs_63 hl (k := 3) rfl (by decide) rfl (fun ls hl => ?_)
            refine z_goto (tgt := 3) hF dX5_addPairs_66 (by decide) ?_
            exact ih3 (i + (-1)) fra fwa fca fha cna gra La (by omega) (by omega) hRPa hRKa hfca hfha (by rw [← hLa, mvZ_f (by omega) hnc]) (by rw [mvZ_f (by omega) hnc] at hca; exact hca) H locs ls hP hD hS (lv_sub hl [1, 2, 3, 0] rfl)
          · exact absurd c_24 (by decide)
  exact L3 _ 25 fr fw fc fh cnt gr L (Nat.lt_succ_self _) (by omega) hRP hRK hfc hfh rfl hcap H locs ls hP hD hS (lv_sub hl [1, 2, 3, 0] rfl)
set_option maxHeartbeats 4000000 in
set_option maxRecDepth 100000 in
theorem c_X5_addSingles (l : Launch) (G : wG) (h0 tk ta r0 w0 c1 i0 p0 : Nat) (b0 fr fw : Int → Int) (sd cnt ln gr n0 d1 : Int) (L : List Row)  (hsd : 0 ≤ sd ∧ sd ≤ 1) (hn0 : n0 ≤ 15) (hvb : VB n0 b0) (hd1 : 1 ≤ d1 ∧ d1 ≤ 6) (hRP : RepP b0 sd L fr fw cnt gr) (hcap : cnt + ((mvZ b0 sd d1 25).length : Int) ≤ 3060) (z9 : Nat) : Met l yX5_addSingles wsX5_addSingles (rmL 5 0 0) (wPc G [(h0, .inr (5, [.ref tk, .ref r0, .ref w0, .ref c1, .ref i0, .ref p0, .int (zI sd), .int (zI cnt), .int (zI ln), .int (zI gr)])), (tk, .inr (0, [.ref ta])), (ta, .inl (G.2.1.1, 52, .inl (aI b0))), (r0, .inl (G.2.1.1, 3060, .inl (aI fr))), (w0, .inl (G.2.1.1, 3060, .inl (aI fw)))] z9 [.ref h0, .int (zI d1)]) (wQv G (fun (u : ((Int → Int) × (Int → Int) × Int × Int)) => RepP b0 sd (adSin L d1 (mvZ b0 sd d1 25)) u.1 u.2.1 u.2.2.1 u.2.2.2) (fun (u : ((Int → Int) × (Int → Int) × Int × Int)) => [(h0, .inr (5, [.ref tk, .ref r0, .ref w0, .ref c1, .ref i0, .ref p0, .int (zI sd), .int (zI u.2.2.1), .int (zI ln), .int (zI u.2.2.2)])), (tk, .inr (0, [.ref ta])), (ta, .inl (G.2.1.1, 52, .inl (aI b0))), (r0, .inl (G.2.1.1, 3060, .inl (aI u.1))), (w0, .inl (G.2.1.1, 3060, .inl (aI u.2.1)))]) (va_A [(h0, .inr (5, [.ref tk, .ref r0, .ref w0, .ref c1, .ref i0, .ref p0, .int (zI sd), .int (zI cnt), .int (zI ln), .int (zI gr)])), (tk, .inr (0, [.ref ta])), (ta, .inl (G.2.1.1, 52, .inl (aI b0))), (r0, .inl (G.2.1.1, 3060, .inl (aI fr))), (w0, .inl (G.2.1.1, 3060, .inl (aI fw)))] z9)) 0 0 (va_A [(h0, .inr (5, [.ref tk, .ref r0, .ref w0, .ref c1, .ref i0, .ref p0, .int (zI sd), .int (zI cnt), .int (zI ln), .int (zI gr)])), (tk, .inr (0, [.ref ta])), (ta, .inl (G.2.1.1, 52, .inl (aI b0))), (r0, .inl (G.2.1.1, 3060, .inl (aI fr))), (w0, .inl (G.2.1.1, 3060, .inl (aI fw)))] z9) := by
  refine z_ofW (Qc := fun A => wQv G (fun (u : ((Int → Int) × (Int → Int) × Int × Int)) => RepP b0 sd (adSin L d1 (mvZ b0 sd d1 25)) u.1 u.2.1 u.2.2.1 u.2.2.2) (fun (u : ((Int → Int) × (Int → Int) × Int × Int)) => [(h0, .inr (5, [.ref tk, .ref r0, .ref w0, .ref c1, .ref i0, .ref p0, .int (zI sd), .int (zI u.2.2.1), .int (zI ln), .int (zI u.2.2.2)])), (tk, .inr (0, [.ref ta])), (ta, .inl (G.2.1.1, 52, .inl (aI b0))), (r0, .inl (G.2.1.1, 3060, .inl (aI u.1))), (w0, .inl (G.2.1.1, 3060, .inl (aI u.2.1)))]) A) l G [(h0, .inr (5, [.ref tk, .ref r0, .ref w0, .ref c1, .ref i0, .ref p0, .int (zI sd), .int (zI cnt), .int (zI ln), .int (zI gr)])), (tk, .inr (0, [.ref ta])), (ta, .inl (G.2.1.1, 52, .inl (aI b0))), (r0, .inl (G.2.1.1, 3060, .inl (aI fr))), (w0, .inl (G.2.1.1, 3060, .inl (aI fw)))] [.ref h0, .int (zI d1)] (by decide) rfl rfl ?_ z9
  intro p e s m args below meth c A ls H locs hF hr hlocks hinit hP hK hD hA hS hBd hl
  have hF : wFx p m c cX5_addSingles 4 s args wsX5_addSingles RX5 := hF
  have hl : lv_has ls 4 [(0, .ref h0), (1, .int (zI d1))] := hl
  have hx := hF.1
  have hb := hF.2.1
  obtain ⟨Q0, hQ⟩ : ∃ q, q = (MQ below (wQv G (fun (u : ((Int → Int) × (Int → Int) × Int × Int)) => RepP b0 sd (adSin L d1 (mvZ b0 sd d1 25)) u.1 u.2.1 u.2.2.1 u.2.2.2) (fun (u : ((Int → Int) × (Int → Int) × Int × Int)) => [(h0, .inr (5, [.ref tk, .ref r0, .ref w0, .ref c1, .ref i0, .ref p0, .int (zI sd), .int (zI u.2.2.1), .int (zI ln), .int (zI u.2.2.2)])), (tk, .inr (0, [.ref ta])), (ta, .inl (G.2.1.1, 52, .inl (aI b0))), (r0, .inl (G.2.1.1, 3060, .inl (aI u.1))), (w0, .inl (G.2.1.1, 3060, .inl (aI u.2.1)))]) A) args s 0 0 A) := ⟨_, rfl⟩
  rw [← hQ]
  have i_wsX50 : ∀ w ∈ wsX50, w ∈ wsX5_addSingles := (fun _ h => (List.mem_cons_of_mem _ (List.mem_append_left _ (List.mem_append_right _ h))))
  have kf_12 : (Cond.fieldLink RX5 12 "Gammonry$Plays" "track" "LGammonry$Board;").before args s = true := hF.2.2.2.2 _ (List.mem_cons_of_mem _ (List.mem_append_left _ (List.mem_append_left _ (List.mem_append_left _ (List.mem_of_getElem? (i := 0) rfl)))))
  have kf_35 : (Cond.fieldLink RX5 35 "Gammonry$Plays" "side" "I").before args s = true := hF.2.2.2.2 _ (List.mem_cons_of_mem _ (List.mem_append_left _ (List.mem_append_left _ (List.mem_append_left _ (List.mem_of_getElem? (i := 1) rfl)))))
  have ks_yX9_codeOf : (Cond.static yX9_codeOf).before args s = true := hF.2.2.2.2 _ (List.mem_cons_of_mem _ (List.mem_append_left _ (List.mem_append_left _ (List.mem_append_right _ (List.mem_append_left _ (List.mem_of_getElem? (i := 4) rfl))))))
  have kt_RX9 : (Cond.initialized RX9).before args s = true := hF.2.2.2.2 _ (List.mem_cons_of_mem _ (List.mem_append_left _ (List.mem_append_left _ (List.mem_append_right _ (List.mem_append_left _ (List.mem_of_getElem? (i := 5) rfl))))))
  refine z_bipush hF dX5_addSingles_0 (by decide) ?_
  refine lv_istore_n (lv' := [(2, .int (zI 25)), (0, .ref h0), (1, .int (zI d1))]) hx hb dX5_addSingles_2 rfl hl (by decide) rfl (fun ls hl => ?_)
  have L3 : ∀ (n9 : Nat) (i : Int) (fra fwa : Int → Int) (cna gra : Int) (La : List Row), i.toNat < n9 → (0 ≤ i ∧ i ≤ 25) → RepP b0 sd La fra fwa cna gra → adSin La d1 (mvZ b0 sd d1 i) = (adSin L d1 (mvZ b0 sd d1 25)) → cna + ((mvZ b0 sd d1 i).length : Int) ≤ 3060 → ∀ (H : Heap) (locs : List Loc) (ls : Array Slot), va_P G.1 vwCl [(h0, .inr (5, [.ref tk, .ref r0, .ref w0, .ref c1, .ref i0, .ref p0, .int (zI sd), .int (zI cna), .int (zI ln), .int (zI gra)])), (tk, .inr (0, [.ref ta])), (ta, .inl (G.2.1.1, 52, .inl (aI b0))), (r0, .inl (G.2.1.1, 3060, .inl (aI fra))), (w0, .inl (G.2.1.1, 3060, .inl (aI fwa)))] H → va_D A [(h0, .inr (5, [.ref tk, .ref r0, .ref w0, .ref c1, .ref i0, .ref p0, .int (zI sd), .int (zI cna), .int (zI ln), .int (zI gra)])), (tk, .inr (0, [.ref ta])), (ta, .inl (G.2.1.1, 52, .inl (aI b0))), (r0, .inl (G.2.1.1, 3060, .inl (aI fra))), (w0, .inl (G.2.1.1, 3060, .inl (aI fwa)))] → va_S A s.heap H locs → lv_has ls 4 [(0, .ref h0), (1, .int (zI d1)), (2, .int (zI i))] → W p l e (rmL 5 0 0) s m args below meth c H locs 0 0 Q0 (F0 m 3 ls []) := by
    intro n9
    induction n9 with
    | zero => intro i fra fwa cna gra La hmu; omega
    | succ n9 ih3 =>
      intro i fra fwa cna gra La hmu3 hzi hRPa hLa hca H locs ls hP hD hS hl
      refine lv_iload_n hx hb dX5_addSingles_3 rfl (lv_at hl 2 rfl) ?_
      refine z_iconst hF dX5_addSingles_4 ?_
      refine z_icmp_lt (tgt := 67) hF dX5_addSingles_5 (by decide) (by omega) (by decide) (fun c_1 => ?_) (fun c_1 => ?_)
      · have hc_5 := c_1
        have hfin : (adSin L d1 (mvZ b0 sd d1 25)) = La := by rw [← hLa, mvZ_0 (by omega)]; rfl
        rw [hQ]
        exact z_vret hF hr hlocks (fra, fwa, cna, gra) (by dsimp only; rw [hfin]; exact hRPa) hP hK hD hS dX5_addSingles_67
      · have hc_5 := c_1
        refine lv_aload_n hx hb dX5_addSingles_8 rfl (lv_at hl 0 rfl) ?_
        refine z_get (k := 0) hF hK hP 0 rfl rfl i_wsX50 (by decide) kf_12 rfl dX5_addSingles_9 ?_
        refine lv_aload_n hx hb dX5_addSingles_12 rfl (lv_at hl 0 rfl) ?_
        refine z_get (k := 6) hF hK hP 0 rfl rfl i_wsX50 (by decide) kf_35 rfl dX5_addSingles_13 ?_
        refine lv_iload_n hx hb dX5_addSingles_16 rfl (lv_at hl 2 rfl) ?_
        refine lv_iload_n hx hb dX5_addSingles_17 rfl (lv_at hl 1 rfl) ?_
        refine cj_i (va_runV (As := [.int (zI sd), .int (zI i), .int (zI d1)]) (rest := []) hF (c_X0_canStep l G tk ta b0 sd i d1  (by omega) (by omega) (by omega) (hvb.ok (by omega)) H.size) (cwV 3 hF.2.2.2.2 gX5_addSingles_X0_canStep rfl rfl rfl (by decide +kernel) ⟨Nat.le_of_ble_eq_true rfl, Nat.le_of_ble_eq_true rfl⟩) (z_preV hK hP hD hS hA hBd [1, 2] rfl rfl rfl rfl [.int (zI sd), .int (zI i), .int (zI d1)]) rfl rfl hl.1 rfl (lv_room (Nat.le_of_ble_eq_true rfl)) dX5_addSingles_18 ⟨Nat.le_of_ble_eq_true rfl, Nat.le_of_ble_eq_true rfl⟩) hP hD hS hA [1, 2] rfl (fun _ => Nat.le_of_ble_eq_true rfl) (fun r_3 u_2 H locs hw hP hD hS => ?_)
        have hP : va_P G.1 vwCl [(h0, .inr (5, [.ref tk, .ref r0, .ref w0, .ref c1, .ref i0, .ref p0, .int (zI sd), .int (zI cna), .int (zI ln), .int (zI gra)])), (tk, .inr (0, [.ref ta])), (ta, .inl (G.2.1.1, 52, .inl (aI b0))), (r0, .inl (G.2.1.1, 3060, .inl (aI fra))), (w0, .inl (G.2.1.1, 3060, .inl (aI fwa)))] H := hP
        have hD : va_D A [(h0, .inr (5, [.ref tk, .ref r0, .ref w0, .ref c1, .ref i0, .ref p0, .int (zI sd), .int (zI cna), .int (zI ln), .int (zI gra)])), (tk, .inr (0, [.ref ta])), (ta, .inl (G.2.1.1, 52, .inl (aI b0))), (r0, .inl (G.2.1.1, 3060, .inl (aI fra))), (w0, .inl (G.2.1.1, 3060, .inl (aI fwa)))] := hD
        rcases hw with ⟨h_4, rfl⟩ | ⟨h_5, rfl⟩
        · skip
          have hcan := h_4
          have hfi := hcan.2.2.rg
          have hv2 := hcan.2.2.VB hvb hsd hd1.1
          have hw9 := wth_rg (sd := sd) hv2 hn0
          have hgr9 := RepP_gr hRPa
          have hmt := mvZ_t (b := b0) (sd := sd) (d := d1) (h := i) (by omega) hcan.2.2
          have hlen9 : (mvZ b0 sd d1 i).length = (mvZ b0 sd d1 (i + -1)).length + 1 := by rw [hmt, List.length_cons]
          refine z_if_eq (tgt := 61) hF dX5_addSingles_21 (by decide) (by decide) (fun c_6 => ?_) (fun c_6 => ?_)
          · exact absurd c_6 (by decide)
          · have hc_21 := c_6
            refine lv_aload_n hx hb dX5_addSingles_24 rfl (lv_at hl 0 rfl) ?_
            refine z_get (k := 0) hF hK hP 0 rfl rfl i_wsX50 (by decide) kf_12 rfl dX5_addSingles_25 ?_
            refine lv_aload_n hx hb dX5_addSingles_28 rfl (lv_at hl 0 rfl) ?_
            refine z_get (k := 6) hF hK hP 0 rfl rfl i_wsX50 (by decide) kf_35 rfl dX5_addSingles_29 ?_
            refine lv_iload_n hx hb dX5_addSingles_32 rfl (lv_at hl 2 rfl) ?_
            refine lv_iload_n hx hb dX5_addSingles_33 rfl (lv_at hl 1 rfl) ?_
            refine cj_i (va_runV (As := [.int (zI sd), .int (zI i), .int (zI d1)]) (rest := []) hF (c_X0_step l G tk ta b0 sd i d1  (by omega) (by omega) (by omega) (hvb.ok (by omega)) H.size) (cwV 3 hF.2.2.2.2 gX5_addSingles_X0_step rfl rfl rfl (by decide +kernel) ⟨Nat.le_of_ble_eq_true rfl, Nat.le_of_ble_eq_true rfl⟩) (z_preV hK hP hD hS hA hBd [1, 2] rfl rfl rfl rfl [.int (zI sd), .int (zI i), .int (zI d1)]) rfl rfl hl.1 rfl (lv_room (Nat.le_of_ble_eq_true rfl)) dX5_addSingles_34 ⟨Nat.le_of_ble_eq_true rfl, Nat.le_of_ble_eq_true rfl⟩) hP hD hS hA [1, 2] rfl (fun _ => Nat.le_of_ble_eq_true rfl) (fun r_8 u_7 H locs hw hP hD hS => ?_)
            have hP : va_P G.1 vwCl [(h0, .inr (5, [.ref tk, .ref r0, .ref w0, .ref c1, .ref i0, .ref p0, .int (zI sd), .int (zI cna), .int (zI ln), .int (zI gra)])), (tk, .inr (0, [.ref ta])), (ta, .inl (G.2.1.1, 52, .inl (aI (stp b0 sd i d1)))), (r0, .inl (G.2.1.1, 3060, .inl (aI fra))), (w0, .inl (G.2.1.1, 3060, .inl (aI fwa)))] H := hP
            have hD : va_D A [(h0, .inr (5, [.ref tk, .ref r0, .ref w0, .ref c1, .ref i0, .ref p0, .int (zI sd), .int (zI cna), .int (zI ln), .int (zI gra)])), (tk, .inr (0, [.ref ta])), (ta, .inl (G.2.1.1, 52, .inl (aI (stp b0 sd i d1)))), (r0, .inl (G.2.1.1, 3060, .inl (aI fra))), (w0, .inl (G.2.1.1, 3060, .inl (aI fwa)))] := hD
            obtain rfl := hw
            refine lv_istore_n (lv' := [(3, .int (zI (hwB b0 sd i d1))), (0, .ref h0), (1, .int (zI d1)), (2, .int (zI i))]) hx hb dX5_addSingles_37 rfl hl (by decide) rfl (fun ls hl => ?_)
            refine lv_aload_n hx hb dX5_addSingles_38 rfl (lv_at hl 1 rfl) ?_
            refine lv_iload_n hx hb dX5_addSingles_39 rfl (lv_at hl 3 rfl) ?_
            refine lv_iload_n hx hb dX5_addSingles_40 rfl (lv_at hl 2 rfl) ?_
            refine cj_i (va_runSN (As := [.int (zI i), .int (zI d1)]) (rest := [.ref h0]) hF (c_X9_codeOf l G i d1  (by omega) (by omega) H.size) ⟨va_cnB 2 hF.2.2.2.2 gX5_addSingles_X9_codeOf_n84 rfl rfl rfl (hBd.2.1 (RX5, 84, yX9_codeOf, RX9) (by decide)) kt_RX9 (by decide +kernel) ⟨Nat.le_of_ble_eq_true rfl, Nat.le_of_ble_eq_true rfl⟩, ks_yX9_codeOf, trivial⟩ (z_preS hK hP hD hS hA hBd [] rfl rfl [.int (zI i), .int (zI d1)]) rfl rfl hl.1 rfl (lv_room (Nat.le_of_ble_eq_true rfl)) dX5_addSingles_41 ⟨Nat.le_of_ble_eq_true rfl, Nat.le_of_ble_eq_true rfl⟩) hP hD hS hA [] rfl (fun _ => Nat.le_of_ble_eq_true rfl) (fun r_10 u_9 H locs hw hP hD hS => ?_)
            have hP : va_P G.1 vwCl [(h0, .inr (5, [.ref tk, .ref r0, .ref w0, .ref c1, .ref i0, .ref p0, .int (zI sd), .int (zI cna), .int (zI ln), .int (zI gra)])), (tk, .inr (0, [.ref ta])), (ta, .inl (G.2.1.1, 52, .inl (aI (stp b0 sd i d1)))), (r0, .inl (G.2.1.1, 3060, .inl (aI fra))), (w0, .inl (G.2.1.1, 3060, .inl (aI fwa)))] H := hP
            have hD : va_D A [(h0, .inr (5, [.ref tk, .ref r0, .ref w0, .ref c1, .ref i0, .ref p0, .int (zI sd), .int (zI cna), .int (zI ln), .int (zI gra)])), (tk, .inr (0, [.ref ta])), (ta, .inl (G.2.1.1, 52, .inl (aI (stp b0 sd i d1)))), (r0, .inl (G.2.1.1, 3060, .inl (aI fra))), (w0, .inl (G.2.1.1, 3060, .inl (aI fwa)))] := hD
            obtain rfl := hw
            refine z_tz (b := (rc [(i, d1)])) (by show 8 * i + d1 = (8 * i + d1) + 256 * 0; omega) ?_
            refine cj_v (va_runV (As := [.int (zI (rc [(i, d1)]))]) (rest := []) hF (c_X5_addRow l G h0 tk ta r0 w0 c1 i0 p0 (stp b0 sd i d1) fra fwa sd cna ln gra (rc [(i, d1)])  (by omega) (hv2.ok (by omega)) (by omega) (by omega) hw9 hRPa.2.2.2 H.size) (cwV 1 hF.2.2.2.2 gX5_addSingles_X5_addRow rfl rfl rfl (by decide +kernel) ⟨Nat.le_of_ble_eq_true rfl, Nat.le_of_ble_eq_true rfl⟩) (z_preV hK hP hD hS hA hBd [0, 1, 2, 3, 4] rfl rfl rfl rfl [.int (zI (rc [(i, d1)]))]) rfl rfl hl.1 rfl (lv_room (Nat.le_of_ble_eq_true rfl)) dX5_addSingles_44 ⟨Nat.le_of_ble_eq_true rfl, Nat.le_of_ble_eq_true rfl⟩) hP hD hS hA [0, 1, 2, 3, 4] rfl (fun _ => Nat.le_of_ble_eq_true rfl) (fun u_11 H locs hw hP hD hS => ?_)
            have hP : va_P G.1 vwCl [(h0, .inr (5, [.ref tk, .ref r0, .ref w0, .ref c1, .ref i0, .ref p0, .int (zI sd), .int (zI (cna + 1)), .int (zI ln), .int (zI (if up fwa cna (wth (stp b0 sd i d1) sd) gra < wth (stp b0 sd i d1) sd then cna else gra))])), (tk, .inr (0, [.ref ta])), (ta, .inl (G.2.1.1, 52, .inl (aI (stp b0 sd i d1)))), (r0, .inl (G.2.1.1, 3060, .inl (aI (up fra cna (rc [(i, d1)]))))), (w0, .inl (G.2.1.1, 3060, .inl (aI (up fwa cna (wth (stp b0 sd i d1) sd)))))] H := hP
            have hD : va_D A [(h0, .inr (5, [.ref tk, .ref r0, .ref w0, .ref c1, .ref i0, .ref p0, .int (zI sd), .int (zI (cna + 1)), .int (zI ln), .int (zI (if up fwa cna (wth (stp b0 sd i d1) sd) gra < wth (stp b0 sd i d1) sd then cna else gra))])), (tk, .inr (0, [.ref ta])), (ta, .inl (G.2.1.1, 52, .inl (aI (stp b0 sd i d1)))), (r0, .inl (G.2.1.1, 3060, .inl (aI (up fra cna (rc [(i, d1)]))))), (w0, .inl (G.2.1.1, 3060, .inl (aI (up fwa cna (wth (stp b0 sd i d1) sd)))))] := hD
            obtain - := hw
            refine lv_aload_n hx hb dX5_addSingles_47 rfl (lv_at hl 1 rfl) ?_
            refine z_get (k := 0) hF hK hP 0 rfl rfl i_wsX50 (by decide) kf_12 rfl dX5_addSingles_48 ?_
            refine lv_aload_n hx hb dX5_addSingles_51 rfl (lv_at hl 1 rfl) ?_
            refine z_get (k := 6) hF hK hP 0 rfl rfl i_wsX50 (by decide) kf_35 rfl dX5_addSingles_52 ?_
            refine lv_iload_n hx hb dX5_addSingles_55 rfl (lv_at hl 3 rfl) ?_
            refine lv_iload_n hx hb dX5_addSingles_56 rfl (lv_at hl 2 rfl) ?_
            refine lv_iload_n hx hb dX5_addSingles_57 rfl (lv_at hl 0 rfl) ?_
            refine cj_v (va_runV (As := [.int (zI sd), .int (zI i), .int (zI d1), .int (zI (hwB b0 sd i d1))]) (rest := []) hF (c_X0_stepBack l G tk ta b0 sd i d1  (by omega) (by omega) (by omega) H.size) (cwV 4 hF.2.2.2.2 gX5_addSingles_X0_stepBack rfl rfl rfl (by decide +kernel) ⟨Nat.le_of_ble_eq_true rfl, Nat.le_of_ble_eq_true rfl⟩) (z_preV hK hP hD hS hA hBd [1, 2] rfl rfl rfl rfl [.int (zI sd), .int (zI i), .int (zI d1), .int (zI (hwB b0 sd i d1))]) rfl rfl hl.1 rfl (lv_room (Nat.le_of_ble_eq_true rfl)) dX5_addSingles_58 ⟨Nat.le_of_ble_eq_true rfl, Nat.le_of_ble_eq_true rfl⟩) hP hD hS hA [1, 2] rfl (fun _ => Nat.le_of_ble_eq_true rfl) (fun u_13 H locs hw hP hD hS => ?_)
            have hP : va_P G.1 vwCl [(h0, .inr (5, [.ref tk, .ref r0, .ref w0, .ref c1, .ref i0, .ref p0, .int (zI sd), .int (zI (cna + 1)), .int (zI ln), .int (zI (if up fwa cna (wth (stp b0 sd i d1) sd) gra < wth (stp b0 sd i d1) sd then cna else gra))])), (tk, .inr (0, [.ref ta])), (ta, .inl (G.2.1.1, 52, .inl (aI b0))), (r0, .inl (G.2.1.1, 3060, .inl (aI (up fra cna (rc [(i, d1)]))))), (w0, .inl (G.2.1.1, 3060, .inl (aI (up fwa cna (wth (stp b0 sd i d1) sd)))))] H := hP
            have hD : va_D A [(h0, .inr (5, [.ref tk, .ref r0, .ref w0, .ref c1, .ref i0, .ref p0, .int (zI sd), .int (zI (cna + 1)), .int (zI ln), .int (zI (if up fwa cna (wth (stp b0 sd i d1) sd) gra < wth (stp b0 sd i d1) sd then cna else gra))])), (tk, .inr (0, [.ref ta])), (ta, .inl (G.2.1.1, 52, .inl (aI b0))), (r0, .inl (G.2.1.1, 3060, .inl (aI (up fra cna (rc [(i, d1)]))))), (w0, .inl (G.2.1.1, 3060, .inl (aI (up fwa cna (wth (stp b0 sd i d1) sd)))))] := hD
            obtain - := hw
            refine z_iinc (lv' := [(2, .int (zI (i + (-1)))), (3, .int (zI (hwB b0 sd i d1))), (0, .ref h0), (1, .int (zI d1))]) hF dX5_addSingles_61 hl (k := 3) rfl (by decide) rfl (fun ls hl => ?_)
            refine z_goto (tgt := 3) hF dX5_addSingles_64 (by decide) ?_
            exact ih3 (i + (-1)) (up fra cna (rc [(i, d1)])) (up fwa cna (wth (stp b0 sd i d1) sd)) (cna + 1) (if up fwa cna (wth (stp b0 sd i d1) sd) gra < wth (stp b0 sd i d1) sd then cna else gra) (La ++ [[(i, d1)]]) (by omega) (by omega) (RepP_add hRPa rfl hw9) (by rw [← hLa, hmt]; rfl) (by omega) H locs ls hP hD hS (lv_sub hl [2, 3, 0] rfl)
        · skip
          have hnc : ¬ canP b0 sd i d1 := fun h9 => h_5 ⟨hd1.1, hd1.2, h9⟩
          refine z_if_eq (tgt := 61) hF dX5_addSingles_21 (by decide) (by decide) (fun c_15 => ?_) (fun c_15 => ?_)
          · have hc_21 := c_15
            refine z_iinc (lv' := [(2, .int (zI (i + (-1)))), (0, .ref h0), (1, .int (zI d1))]) hF dX5_addSingles_61 hl (k := 2) rfl (by decide) rfl (fun ls hl => ?_)
            refine z_goto (tgt := 3) hF dX5_addSingles_64 (by decide) ?_
            exact ih3 (i + (-1)) fra fwa cna gra La (by omega) (by omega) hRPa (by rw [← hLa, mvZ_f (by omega) hnc]) (by rw [mvZ_f (by omega) hnc] at hca; exact hca) H locs ls hP hD hS (lv_sub hl [1, 2, 0] rfl)
          · exact absurd c_15 (by decide)
  exact L3 _ 25 fr fw cnt gr L (Nat.lt_succ_self _) (by omega) hRP rfl hcap H locs ls hP hD hS (lv_sub hl [1, 2, 0] rfl)
set_option maxHeartbeats 4000000 in
set_option maxRecDepth 100000 in
theorem c_X5_collectUnlike (l : Launch) (G : wG) (h0 tk ta r0 w0 c1 i0 p0 : Nat) (b0 fr fw fc fh : Int → Int) (sd cnt ln gr n0 d1 d2 : Int)  (hsd : 0 ≤ sd ∧ sd ≤ 1) (hn0 : n0 ≤ 15) (hvb : VB n0 b0) (hd1 : 1 ≤ d1 ∧ d1 ≤ 6) (hd2 : 1 ≤ d2 ∧ d2 ≤ 6) (hRP : RepP b0 sd [] fr fw cnt gr) (hfc : ∀ k, -2000000000000000000 ≤ fc k ∧ fc k ≤ 2000000000000000000) (hfh : ∀ k, 0 ≤ fh k ∧ fh k ≤ 1073741824) (hcap : cpPrs sd b0 d1 d2 (mvZ b0 sd d1 25) + cpPrs sd b0 d2 d1 (mvZ b0 sd d2 25) ≤ 450) (z9 : Nat) : Met l yX5_collectUnlike wsX5_collectUnlike (rmL 7 0 0) (wPc G [(h0, .inr (5, [.ref tk, .ref r0, .ref w0, .ref c1, .ref i0, .ref p0, .int (zI sd), .int (zI cnt), .int (zI ln), .int (zI gr)])), (tk, .inr (0, [.ref ta])), (ta, .inl (G.2.1.1, 52, .inl (aI b0))), (r0, .inl (G.2.1.1, 3060, .inl (aI fr))), (w0, .inl (G.2.1.1, 3060, .inl (aI fw))), (c1, .inl (G.2.1.2.1, 450, .inr (.inl (aL fc)))), (i0, .inl (G.2.1.1, 450, .inl (aI fh))), (p0, .inl (G.2.1.2.1, 26, .inr (.inl (aL p5))))] z9 [.ref h0, .int (zI d1), .int (zI d2)]) (wQv G (fun (u : ((Int → Int) × (Int → Int) × (Int → Int) × (Int → Int) × Int × Int × Int)) => RepP b0 sd (unl sd b0 d1 d2).2 u.1 u.2.1 u.2.2.2.2.1 u.2.2.2.2.2.2 ∧ u.2.2.2.2.2.1 = (unl sd b0 d1 d2).1 ∧ (∀ k, -2000000000000000000 ≤ u.2.2.1 k ∧ u.2.2.1 k ≤ 2000000000000000000) ∧ (∀ k, 0 ≤ u.2.2.2.1 k ∧ u.2.2.2.1 k ≤ 1073741824)) (fun (u : ((Int → Int) × (Int → Int) × (Int → Int) × (Int → Int) × Int × Int × Int)) => [(h0, .inr (5, [.ref tk, .ref r0, .ref w0, .ref c1, .ref i0, .ref p0, .int (zI sd), .int (zI u.2.2.2.2.1), .int (zI u.2.2.2.2.2.1), .int (zI u.2.2.2.2.2.2)])), (tk, .inr (0, [.ref ta])), (ta, .inl (G.2.1.1, 52, .inl (aI b0))), (r0, .inl (G.2.1.1, 3060, .inl (aI u.1))), (w0, .inl (G.2.1.1, 3060, .inl (aI u.2.1))), (c1, .inl (G.2.1.2.1, 450, .inr (.inl (aL u.2.2.1)))), (i0, .inl (G.2.1.1, 450, .inl (aI u.2.2.2.1))), (p0, .inl (G.2.1.2.1, 26, .inr (.inl (aL p5))))]) (va_A [(h0, .inr (5, [.ref tk, .ref r0, .ref w0, .ref c1, .ref i0, .ref p0, .int (zI sd), .int (zI cnt), .int (zI ln), .int (zI gr)])), (tk, .inr (0, [.ref ta])), (ta, .inl (G.2.1.1, 52, .inl (aI b0))), (r0, .inl (G.2.1.1, 3060, .inl (aI fr))), (w0, .inl (G.2.1.1, 3060, .inl (aI fw))), (c1, .inl (G.2.1.2.1, 450, .inr (.inl (aL fc)))), (i0, .inl (G.2.1.1, 450, .inl (aI fh))), (p0, .inl (G.2.1.2.1, 26, .inr (.inl (aL p5))))] z9)) 0 0 (va_A [(h0, .inr (5, [.ref tk, .ref r0, .ref w0, .ref c1, .ref i0, .ref p0, .int (zI sd), .int (zI cnt), .int (zI ln), .int (zI gr)])), (tk, .inr (0, [.ref ta])), (ta, .inl (G.2.1.1, 52, .inl (aI b0))), (r0, .inl (G.2.1.1, 3060, .inl (aI fr))), (w0, .inl (G.2.1.1, 3060, .inl (aI fw))), (c1, .inl (G.2.1.2.1, 450, .inr (.inl (aL fc)))), (i0, .inl (G.2.1.1, 450, .inl (aI fh))), (p0, .inl (G.2.1.2.1, 26, .inr (.inl (aL p5))))] z9) := by
  refine z_ofW (Qc := fun A => wQv G (fun (u : ((Int → Int) × (Int → Int) × (Int → Int) × (Int → Int) × Int × Int × Int)) => RepP b0 sd (unl sd b0 d1 d2).2 u.1 u.2.1 u.2.2.2.2.1 u.2.2.2.2.2.2 ∧ u.2.2.2.2.2.1 = (unl sd b0 d1 d2).1 ∧ (∀ k, -2000000000000000000 ≤ u.2.2.1 k ∧ u.2.2.1 k ≤ 2000000000000000000) ∧ (∀ k, 0 ≤ u.2.2.2.1 k ∧ u.2.2.2.1 k ≤ 1073741824)) (fun (u : ((Int → Int) × (Int → Int) × (Int → Int) × (Int → Int) × Int × Int × Int)) => [(h0, .inr (5, [.ref tk, .ref r0, .ref w0, .ref c1, .ref i0, .ref p0, .int (zI sd), .int (zI u.2.2.2.2.1), .int (zI u.2.2.2.2.2.1), .int (zI u.2.2.2.2.2.2)])), (tk, .inr (0, [.ref ta])), (ta, .inl (G.2.1.1, 52, .inl (aI b0))), (r0, .inl (G.2.1.1, 3060, .inl (aI u.1))), (w0, .inl (G.2.1.1, 3060, .inl (aI u.2.1))), (c1, .inl (G.2.1.2.1, 450, .inr (.inl (aL u.2.2.1)))), (i0, .inl (G.2.1.1, 450, .inl (aI u.2.2.2.1))), (p0, .inl (G.2.1.2.1, 26, .inr (.inl (aL p5))))]) A) l G [(h0, .inr (5, [.ref tk, .ref r0, .ref w0, .ref c1, .ref i0, .ref p0, .int (zI sd), .int (zI cnt), .int (zI ln), .int (zI gr)])), (tk, .inr (0, [.ref ta])), (ta, .inl (G.2.1.1, 52, .inl (aI b0))), (r0, .inl (G.2.1.1, 3060, .inl (aI fr))), (w0, .inl (G.2.1.1, 3060, .inl (aI fw))), (c1, .inl (G.2.1.2.1, 450, .inr (.inl (aL fc)))), (i0, .inl (G.2.1.1, 450, .inl (aI fh))), (p0, .inl (G.2.1.2.1, 26, .inr (.inl (aL p5))))] [.ref h0, .int (zI d1), .int (zI d2)] (by decide) rfl rfl ?_ z9
  intro p e s m args below meth c A ls H locs hF hr hlocks hinit hP hK hD hA hS hBd hl
  have hF : wFx p m c cX5_collectUnlike 3 s args wsX5_collectUnlike RX5 := hF
  have hl : lv_has ls 3 [(0, .ref h0), (1, .int (zI d1)), (2, .int (zI d2))] := hl
  have hx := hF.1
  have hb := hF.2.1
  obtain ⟨Q0, hQ⟩ : ∃ q, q = (MQ below (wQv G (fun (u : ((Int → Int) × (Int → Int) × (Int → Int) × (Int → Int) × Int × Int × Int)) => RepP b0 sd (unl sd b0 d1 d2).2 u.1 u.2.1 u.2.2.2.2.1 u.2.2.2.2.2.2 ∧ u.2.2.2.2.2.1 = (unl sd b0 d1 d2).1 ∧ (∀ k, -2000000000000000000 ≤ u.2.2.1 k ∧ u.2.2.1 k ≤ 2000000000000000000) ∧ (∀ k, 0 ≤ u.2.2.2.1 k ∧ u.2.2.2.1 k ≤ 1073741824)) (fun (u : ((Int → Int) × (Int → Int) × (Int → Int) × (Int → Int) × Int × Int × Int)) => [(h0, .inr (5, [.ref tk, .ref r0, .ref w0, .ref c1, .ref i0, .ref p0, .int (zI sd), .int (zI u.2.2.2.2.1), .int (zI u.2.2.2.2.2.1), .int (zI u.2.2.2.2.2.2)])), (tk, .inr (0, [.ref ta])), (ta, .inl (G.2.1.1, 52, .inl (aI b0))), (r0, .inl (G.2.1.1, 3060, .inl (aI u.1))), (w0, .inl (G.2.1.1, 3060, .inl (aI u.2.1))), (c1, .inl (G.2.1.2.1, 450, .inr (.inl (aL u.2.2.1)))), (i0, .inl (G.2.1.1, 450, .inl (aI u.2.2.2.1))), (p0, .inl (G.2.1.2.1, 26, .inr (.inl (aL p5))))]) A) args s 0 0 A) := ⟨_, rfl⟩
  rw [← hQ]
  have i_wsX50 : ∀ w ∈ wsX50, w ∈ wsX5_collectUnlike := (fun _ h => (List.mem_cons_of_mem _ (List.mem_append_left _ (List.mem_append_right _ h))))
  have kf_39 : (Cond.fieldLink RX5 39 "Gammonry$Plays" "count" "I").before args s = true := hF.2.2.2.2 _ (List.mem_cons_of_mem _ (List.mem_append_left _ (List.mem_append_left _ (List.mem_append_left _ (List.mem_of_getElem? (i := 1) rfl)))))
  have kf_42 : (Cond.fieldLink RX5 42 "Gammonry$Plays" "length" "I").before args s = true := hF.2.2.2.2 _ (List.mem_cons_of_mem _ (List.mem_append_left _ (List.mem_append_left _ (List.mem_append_left _ (List.mem_of_getElem? (i := 0) rfl)))))
  have hq0 : cnt = 0 := hRP.1
  have hw9 := wth_rg (sd := sd) hvb hn0
  have hn1 := mvZ_len b0 sd d1 (h := 25) (by decide)
  have hn2 := mvZ_len b0 sd d2 (h := 25) (by decide)
  have hsg := adSin_len (d := d1) (fs := mvZ b0 sd d1 25) (L := [])
  have hsl := adSin_len (d := d2) (fs := mvZ b0 sd d2 25) (L := [])
  rw [show ([] : List Row).length = 0 from rfl] at hsg hsl
  have hp1 := cpPrs_nn (sd := sd) (b0 := b0) (d1 := d1) (d2 := d2) (mvZ b0 sd d1 25)
  have hp2 := cpPrs_nn (sd := sd) (b0 := b0) (d1 := d2) (d2 := d1) (mvZ b0 sd d2 25)
  refine lv_aload_n hx hb dX5_collectUnlike_0 rfl (lv_at hl 0 rfl) ?_
  refine z_iconst hF dX5_collectUnlike_1 ?_
  refine z_put (k := 8) hF hK hP hD hS 0 rfl rfl i_wsX50 (by decide) tyX5 tyX5_ok nmX5 rfl kf_42 rfl rfl (Nat.le_of_ble_eq_true rfl) dX5_collectUnlike_2 (fun H locs hP hD hS => ?_)
  have hP : va_P G.1 vwCl [(h0, .inr (5, [.ref tk, .ref r0, .ref w0, .ref c1, .ref i0, .ref p0, .int (zI sd), .int (zI cnt), .int (zI 2), .int (zI gr)])), (tk, .inr (0, [.ref ta])), (ta, .inl (G.2.1.1, 52, .inl (aI b0))), (r0, .inl (G.2.1.1, 3060, .inl (aI fr))), (w0, .inl (G.2.1.1, 3060, .inl (aI fw))), (c1, .inl (G.2.1.2.1, 450, .inr (.inl (aL fc)))), (i0, .inl (G.2.1.1, 450, .inl (aI fh))), (p0, .inl (G.2.1.2.1, 26, .inr (.inl (aL p5))))] H := hP
  have hD : va_D A [(h0, .inr (5, [.ref tk, .ref r0, .ref w0, .ref c1, .ref i0, .ref p0, .int (zI sd), .int (zI cnt), .int (zI 2), .int (zI gr)])), (tk, .inr (0, [.ref ta])), (ta, .inl (G.2.1.1, 52, .inl (aI b0))), (r0, .inl (G.2.1.1, 3060, .inl (aI fr))), (w0, .inl (G.2.1.1, 3060, .inl (aI fw))), (c1, .inl (G.2.1.2.1, 450, .inr (.inl (aL fc)))), (i0, .inl (G.2.1.1, 450, .inl (aI fh))), (p0, .inl (G.2.1.2.1, 26, .inr (.inl (aL p5))))] := hD
  refine lv_aload_n hx hb dX5_collectUnlike_5 rfl (lv_at hl 0 rfl) ?_
  refine lv_iload_n hx hb dX5_collectUnlike_6 rfl (lv_at hl 1 rfl) ?_
  refine lv_iload_n hx hb dX5_collectUnlike_7 rfl (lv_at hl 2 rfl) ?_
  refine cj_v (va_runV (As := [.int (zI d1), .int (zI d2)]) (rest := []) hF (c_X5_addPairs l G h0 tk ta r0 w0 c1 i0 p0 b0 fr fw fc fh sd cnt 2 gr n0 d1 d2 ([])  (by omega) hn0 hvb hd1 hd2 hRP RepK_0 hfc hfh (by omega) H.size) (cwV 2 hF.2.2.2.2 gX5_collectUnlike_X5_addPairs rfl rfl rfl (by decide +kernel) ⟨Nat.le_of_ble_eq_true rfl, Nat.le_of_ble_eq_true rfl⟩) (z_preV hK hP hD hS hA hBd [0, 1, 2, 3, 4, 5, 6, 7] rfl rfl rfl rfl [.int (zI d1), .int (zI d2)]) rfl rfl hl.1 rfl (lv_room (Nat.le_of_ble_eq_true rfl)) dX5_collectUnlike_8 ⟨Nat.le_of_ble_eq_true rfl, Nat.le_of_ble_eq_true rfl⟩) hP hD hS hA [0, 1, 2, 3, 4, 5, 6, 7] rfl (fun _ => Nat.le_of_ble_eq_true rfl) (fun u_1 H locs hw hP hD hS => ?_)
  obtain ⟨fr2_3, fw2_4, fc2_5, fh2_6, cnt2_7, gr2_8⟩ := u_1
  dsimp only at hw hP hD
  have hP : va_P G.1 vwCl [(h0, .inr (5, [.ref tk, .ref r0, .ref w0, .ref c1, .ref i0, .ref p0, .int (zI sd), .int (zI cnt2_7), .int (zI 2), .int (zI gr2_8)])), (tk, .inr (0, [.ref ta])), (ta, .inl (G.2.1.1, 52, .inl (aI b0))), (r0, .inl (G.2.1.1, 3060, .inl (aI fr2_3))), (w0, .inl (G.2.1.1, 3060, .inl (aI fw2_4))), (c1, .inl (G.2.1.2.1, 450, .inr (.inl (aL fc2_5)))), (i0, .inl (G.2.1.1, 450, .inl (aI fh2_6))), (p0, .inl (G.2.1.2.1, 26, .inr (.inl (aL p5))))] H := hP
  have hD : va_D A [(h0, .inr (5, [.ref tk, .ref r0, .ref w0, .ref c1, .ref i0, .ref p0, .int (zI sd), .int (zI cnt2_7), .int (zI 2), .int (zI gr2_8)])), (tk, .inr (0, [.ref ta])), (ta, .inl (G.2.1.1, 52, .inl (aI b0))), (r0, .inl (G.2.1.1, 3060, .inl (aI fr2_3))), (w0, .inl (G.2.1.1, 3060, .inl (aI fw2_4))), (c1, .inl (G.2.1.2.1, 450, .inr (.inl (aL fc2_5)))), (i0, .inl (G.2.1.1, 450, .inl (aI fh2_6))), (p0, .inl (G.2.1.2.1, 26, .inr (.inl (aL p5))))] := hD
  obtain ⟨h_9, h_10, h_11, h_12, h_13⟩ := hw
  have hE1 := h_9
  have hE2 := h_10
  have hE3 := h_11
  have hE4 := h_12
  have hE5 := h_13
  refine lv_aload_n hx hb dX5_collectUnlike_11 rfl (lv_at hl 0 rfl) ?_
  refine lv_iload_n hx hb dX5_collectUnlike_12 rfl (lv_at hl 2 rfl) ?_
  refine lv_iload_n hx hb dX5_collectUnlike_13 rfl (lv_at hl 1 rfl) ?_
  refine cj_v (va_runV (As := [.int (zI d2), .int (zI d1)]) (rest := []) hF (c_X5_addPairs l G h0 tk ta r0 w0 c1 i0 p0 b0 fr2_3 fw2_4 fc2_5 fh2_6 sd cnt2_7 2 gr2_8 n0 d2 d1 (adPrs sd b0 d1 d2 [] (mvZ b0 sd d1 25))  (by omega) hn0 hvb hd2 hd1 hE1 hE2 hE3 hE4 (by omega) H.size) (cwV 2 hF.2.2.2.2 gX5_collectUnlike_X5_addPairs rfl rfl rfl (by decide +kernel) ⟨Nat.le_of_ble_eq_true rfl, Nat.le_of_ble_eq_true rfl⟩) (z_preV hK hP hD hS hA hBd [0, 1, 2, 3, 4, 5, 6, 7] rfl rfl rfl rfl [.int (zI d2), .int (zI d1)]) rfl rfl hl.1 rfl (lv_room (Nat.le_of_ble_eq_true rfl)) dX5_collectUnlike_14 ⟨Nat.le_of_ble_eq_true rfl, Nat.le_of_ble_eq_true rfl⟩) hP hD hS hA [0, 1, 2, 3, 4, 5, 6, 7] rfl (fun _ => Nat.le_of_ble_eq_true rfl) (fun u_14 H locs hw hP hD hS => ?_)
  obtain ⟨fr2_16, fw2_17, fc2_18, fh2_19, cnt2_20, gr2_21⟩ := u_14
  dsimp only at hw hP hD
  have hP : va_P G.1 vwCl [(h0, .inr (5, [.ref tk, .ref r0, .ref w0, .ref c1, .ref i0, .ref p0, .int (zI sd), .int (zI cnt2_20), .int (zI 2), .int (zI gr2_21)])), (tk, .inr (0, [.ref ta])), (ta, .inl (G.2.1.1, 52, .inl (aI b0))), (r0, .inl (G.2.1.1, 3060, .inl (aI fr2_16))), (w0, .inl (G.2.1.1, 3060, .inl (aI fw2_17))), (c1, .inl (G.2.1.2.1, 450, .inr (.inl (aL fc2_18)))), (i0, .inl (G.2.1.1, 450, .inl (aI fh2_19))), (p0, .inl (G.2.1.2.1, 26, .inr (.inl (aL p5))))] H := hP
  have hD : va_D A [(h0, .inr (5, [.ref tk, .ref r0, .ref w0, .ref c1, .ref i0, .ref p0, .int (zI sd), .int (zI cnt2_20), .int (zI 2), .int (zI gr2_21)])), (tk, .inr (0, [.ref ta])), (ta, .inl (G.2.1.1, 52, .inl (aI b0))), (r0, .inl (G.2.1.1, 3060, .inl (aI fr2_16))), (w0, .inl (G.2.1.1, 3060, .inl (aI fw2_17))), (c1, .inl (G.2.1.2.1, 450, .inr (.inl (aL fc2_18)))), (i0, .inl (G.2.1.1, 450, .inl (aI fh2_19))), (p0, .inl (G.2.1.2.1, 26, .inr (.inl (aL p5))))] := hD
  obtain ⟨h_22, h_23, h_24, h_25, h_26⟩ := hw
  have hA2 : RepP b0 sd (unP sd b0 d1 d2) _ _ _ _ := h_22
  have hA4 := h_24
  have hA5 := h_25
  have hg1 := RepP_gr hA2
  have hl1 := hA2.1
  refine lv_aload_n hx hb dX5_collectUnlike_17 rfl (lv_at hl 0 rfl) ?_
  refine z_get (k := 7) hF hK hP 0 rfl rfl i_wsX50 (by decide) kf_39 rfl dX5_collectUnlike_18 ?_
  refine z_if_ne (tgt := 34) hF dX5_collectUnlike_21 (by decide) (by omega) (fun c_27 => ?_) (fun c_27 => ?_)
  · have hc_21 := c_27
    have hne1 : (unP sd b0 d1 d2).length ≠ 0 := by omega
    refine lv_aload_n hx hb dX5_collectUnlike_34 rfl (lv_at hl 0 rfl) ?_
    refine z_get (k := 7) hF hK hP 0 rfl rfl i_wsX50 (by decide) kf_39 rfl dX5_collectUnlike_35 ?_
    refine z_if_ne (tgt := 46) hF dX5_collectUnlike_38 (by decide) (by omega) (fun c_28 => ?_) (fun c_28 => ?_)
    · have hc_38 := c_28
      first | (have hne2 : (adSin [] d1 (mvZ b0 sd d1 25)).length ≠ 0 := by omega) | skip
      refine lv_aload_n hx hb dX5_collectUnlike_46 rfl (lv_at hl 0 rfl) ?_
      refine z_get (k := 7) hF hK hP 0 rfl rfl i_wsX50 (by decide) kf_39 rfl dX5_collectUnlike_47 ?_
      refine z_if_ne (tgt := 63) hF dX5_collectUnlike_50 (by decide) (by omega) (fun c_29 => ?_) (fun c_29 => ?_)
      · have hc_50 := c_29
        first | (have hne3 : (adSin [] d2 (mvZ b0 sd d2 25)).length ≠ 0 := by omega) | skip
        rw [hQ]
        exact z_vret hF hr hlocks (fr2_16, fw2_17, fc2_18, fh2_19, cnt2_20, 2, gr2_21) (by have hu := unl_a (sd := sd) (b0 := b0) (g := d1) (l := d2) hne1; dsimp only; rw [hu]; exact ⟨hA2, rfl, hA4, hA5⟩) hP hK hD hS dX5_collectUnlike_63
      · exfalso; omega
    · exact absurd c_28 hc_21
  · have hc_21 := c_27
    have hz1 : (unP sd b0 d1 d2).length = 0 := by omega
    have hz1n : unP sd b0 d1 d2 = [] := List.eq_nil_of_length_eq_zero hz1
    rw [hz1n] at hA2
    refine lv_aload_n hx hb dX5_collectUnlike_24 rfl (lv_at hl 0 rfl) ?_
    refine z_iconst hF dX5_collectUnlike_25 ?_
    refine z_put (k := 8) hF hK hP hD hS 0 rfl rfl i_wsX50 (by decide) tyX5 tyX5_ok nmX5 rfl kf_42 rfl rfl (Nat.le_of_ble_eq_true rfl) dX5_collectUnlike_26 (fun H locs hP hD hS => ?_)
    have hP : va_P G.1 vwCl [(h0, .inr (5, [.ref tk, .ref r0, .ref w0, .ref c1, .ref i0, .ref p0, .int (zI sd), .int (zI cnt2_20), .int (zI 1), .int (zI gr2_21)])), (tk, .inr (0, [.ref ta])), (ta, .inl (G.2.1.1, 52, .inl (aI b0))), (r0, .inl (G.2.1.1, 3060, .inl (aI fr2_16))), (w0, .inl (G.2.1.1, 3060, .inl (aI fw2_17))), (c1, .inl (G.2.1.2.1, 450, .inr (.inl (aL fc2_18)))), (i0, .inl (G.2.1.1, 450, .inl (aI fh2_19))), (p0, .inl (G.2.1.2.1, 26, .inr (.inl (aL p5))))] H := hP
    have hD : va_D A [(h0, .inr (5, [.ref tk, .ref r0, .ref w0, .ref c1, .ref i0, .ref p0, .int (zI sd), .int (zI cnt2_20), .int (zI 1), .int (zI gr2_21)])), (tk, .inr (0, [.ref ta])), (ta, .inl (G.2.1.1, 52, .inl (aI b0))), (r0, .inl (G.2.1.1, 3060, .inl (aI fr2_16))), (w0, .inl (G.2.1.1, 3060, .inl (aI fw2_17))), (c1, .inl (G.2.1.2.1, 450, .inr (.inl (aL fc2_18)))), (i0, .inl (G.2.1.1, 450, .inl (aI fh2_19))), (p0, .inl (G.2.1.2.1, 26, .inr (.inl (aL p5))))] := hD
    refine lv_aload_n hx hb dX5_collectUnlike_29 rfl (lv_at hl 0 rfl) ?_
    refine lv_iload_n hx hb dX5_collectUnlike_30 rfl (lv_at hl 1 rfl) ?_
    refine cj_v (va_runV (As := [.int (zI d1)]) (rest := []) hF (c_X5_addSingles l G h0 tk ta r0 w0 c1 i0 p0 b0 fr2_16 fw2_17 sd cnt2_20 1 gr2_21 n0 d1 ([])  (by omega) hn0 hvb hd1 hA2 (by omega) H.size) (cwV 1 hF.2.2.2.2 gX5_collectUnlike_X5_addSingles rfl rfl rfl (by decide +kernel) ⟨Nat.le_of_ble_eq_true rfl, Nat.le_of_ble_eq_true rfl⟩) (z_preV hK hP hD hS hA hBd [0, 1, 2, 3, 4] rfl rfl rfl rfl [.int (zI d1)]) rfl rfl hl.1 rfl (lv_room (Nat.le_of_ble_eq_true rfl)) dX5_collectUnlike_31 ⟨Nat.le_of_ble_eq_true rfl, Nat.le_of_ble_eq_true rfl⟩) hP hD hS hA [0, 1, 2, 3, 4] rfl (fun _ => Nat.le_of_ble_eq_true rfl) (fun u_30 H locs hw hP hD hS => ?_)
    obtain ⟨fr2_32, fw2_33, cnt2_34, gr2_35⟩ := u_30
    dsimp only at hw hP hD
    have hP : va_P G.1 vwCl [(h0, .inr (5, [.ref tk, .ref r0, .ref w0, .ref c1, .ref i0, .ref p0, .int (zI sd), .int (zI cnt2_34), .int (zI 1), .int (zI gr2_35)])), (tk, .inr (0, [.ref ta])), (ta, .inl (G.2.1.1, 52, .inl (aI b0))), (r0, .inl (G.2.1.1, 3060, .inl (aI fr2_32))), (w0, .inl (G.2.1.1, 3060, .inl (aI fw2_33))), (c1, .inl (G.2.1.2.1, 450, .inr (.inl (aL fc2_18)))), (i0, .inl (G.2.1.1, 450, .inl (aI fh2_19))), (p0, .inl (G.2.1.2.1, 26, .inr (.inl (aL p5))))] H := hP
    have hD : va_D A [(h0, .inr (5, [.ref tk, .ref r0, .ref w0, .ref c1, .ref i0, .ref p0, .int (zI sd), .int (zI cnt2_34), .int (zI 1), .int (zI gr2_35)])), (tk, .inr (0, [.ref ta])), (ta, .inl (G.2.1.1, 52, .inl (aI b0))), (r0, .inl (G.2.1.1, 3060, .inl (aI fr2_32))), (w0, .inl (G.2.1.1, 3060, .inl (aI fw2_33))), (c1, .inl (G.2.1.2.1, 450, .inr (.inl (aL fc2_18)))), (i0, .inl (G.2.1.1, 450, .inl (aI fh2_19))), (p0, .inl (G.2.1.2.1, 26, .inr (.inl (aL p5))))] := hD
    have h_36 := hw
    have hB1 := h_36
    have hg2 := RepP_gr hB1
    have hl2 := hB1.1
    refine lv_aload_n hx hb dX5_collectUnlike_34 rfl (lv_at hl 0 rfl) ?_
    refine z_get (k := 7) hF hK hP 0 rfl rfl i_wsX50 (by decide) kf_39 rfl dX5_collectUnlike_35 ?_
    refine z_if_ne (tgt := 46) hF dX5_collectUnlike_38 (by decide) (by omega) (fun c_37 => ?_) (fun c_37 => ?_)
    · have hc_38 := c_37
      first | (have hne2 : (adSin [] d1 (mvZ b0 sd d1 25)).length ≠ 0 := by omega) | skip
      refine lv_aload_n hx hb dX5_collectUnlike_46 rfl (lv_at hl 0 rfl) ?_
      refine z_get (k := 7) hF hK hP 0 rfl rfl i_wsX50 (by decide) kf_39 rfl dX5_collectUnlike_47 ?_
      refine z_if_ne (tgt := 63) hF dX5_collectUnlike_50 (by decide) (by omega) (fun c_38 => ?_) (fun c_38 => ?_)
      · have hc_50 := c_38
        first | (have hne3 : (adSin [] d2 (mvZ b0 sd d2 25)).length ≠ 0 := by omega) | skip
        rw [hQ]
        exact z_vret hF hr hlocks (fr2_32, fw2_33, fc2_18, fh2_19, cnt2_34, 1, gr2_35) (by have hu := unl_b (sd := sd) (b0 := b0) (g := d1) (l := d2) hz1 hne2; dsimp only; rw [hu]; exact ⟨hB1, rfl, hA4, hA5⟩) hP hK hD hS dX5_collectUnlike_63
      · exfalso; omega
    · have hc_38 := c_37
      have hz2 : (adSin [] d1 (mvZ b0 sd d1 25)).length = 0 := by omega
      have hz2n : adSin [] d1 (mvZ b0 sd d1 25) = [] := List.eq_nil_of_length_eq_zero hz2
      rw [hz2n] at hB1
      refine lv_aload_n hx hb dX5_collectUnlike_41 rfl (lv_at hl 0 rfl) ?_
      refine lv_iload_n hx hb dX5_collectUnlike_42 rfl (lv_at hl 2 rfl) ?_
      refine cj_v (va_runV (As := [.int (zI d2)]) (rest := []) hF (c_X5_addSingles l G h0 tk ta r0 w0 c1 i0 p0 b0 fr2_32 fw2_33 sd cnt2_34 1 gr2_35 n0 d2 ([])  (by omega) hn0 hvb hd2 hB1 (by omega) H.size) (cwV 1 hF.2.2.2.2 gX5_collectUnlike_X5_addSingles rfl rfl rfl (by decide +kernel) ⟨Nat.le_of_ble_eq_true rfl, Nat.le_of_ble_eq_true rfl⟩) (z_preV hK hP hD hS hA hBd [0, 1, 2, 3, 4] rfl rfl rfl rfl [.int (zI d2)]) rfl rfl hl.1 rfl (lv_room (Nat.le_of_ble_eq_true rfl)) dX5_collectUnlike_43 ⟨Nat.le_of_ble_eq_true rfl, Nat.le_of_ble_eq_true rfl⟩) hP hD hS hA [0, 1, 2, 3, 4] rfl (fun _ => Nat.le_of_ble_eq_true rfl) (fun u_39 H locs hw hP hD hS => ?_)
      obtain ⟨fr2_41, fw2_42, cnt2_43, gr2_44⟩ := u_39
      dsimp only at hw hP hD
      have hP : va_P G.1 vwCl [(h0, .inr (5, [.ref tk, .ref r0, .ref w0, .ref c1, .ref i0, .ref p0, .int (zI sd), .int (zI cnt2_43), .int (zI 1), .int (zI gr2_44)])), (tk, .inr (0, [.ref ta])), (ta, .inl (G.2.1.1, 52, .inl (aI b0))), (r0, .inl (G.2.1.1, 3060, .inl (aI fr2_41))), (w0, .inl (G.2.1.1, 3060, .inl (aI fw2_42))), (c1, .inl (G.2.1.2.1, 450, .inr (.inl (aL fc2_18)))), (i0, .inl (G.2.1.1, 450, .inl (aI fh2_19))), (p0, .inl (G.2.1.2.1, 26, .inr (.inl (aL p5))))] H := hP
      have hD : va_D A [(h0, .inr (5, [.ref tk, .ref r0, .ref w0, .ref c1, .ref i0, .ref p0, .int (zI sd), .int (zI cnt2_43), .int (zI 1), .int (zI gr2_44)])), (tk, .inr (0, [.ref ta])), (ta, .inl (G.2.1.1, 52, .inl (aI b0))), (r0, .inl (G.2.1.1, 3060, .inl (aI fr2_41))), (w0, .inl (G.2.1.1, 3060, .inl (aI fw2_42))), (c1, .inl (G.2.1.2.1, 450, .inr (.inl (aL fc2_18)))), (i0, .inl (G.2.1.1, 450, .inl (aI fh2_19))), (p0, .inl (G.2.1.2.1, 26, .inr (.inl (aL p5))))] := hD
      have h_45 := hw
      have hC1 := h_45
      have hg3 := RepP_gr hC1
      have hl3 := hC1.1
      refine lv_aload_n hx hb dX5_collectUnlike_46 rfl (lv_at hl 0 rfl) ?_
      refine z_get (k := 7) hF hK hP 0 rfl rfl i_wsX50 (by decide) kf_39 rfl dX5_collectUnlike_47 ?_
      refine z_if_ne (tgt := 63) hF dX5_collectUnlike_50 (by decide) (by omega) (fun c_46 => ?_) (fun c_46 => ?_)
      · have hc_50 := c_46
        first | (have hne3 : (adSin [] d2 (mvZ b0 sd d2 25)).length ≠ 0 := by omega) | skip
        rw [hQ]
        exact z_vret hF hr hlocks (fr2_41, fw2_42, fc2_18, fh2_19, cnt2_43, 1, gr2_44) (by have hu := unl_c (sd := sd) (b0 := b0) (g := d1) (l := d2) hz1 hz2 hne3; dsimp only; rw [hu]; exact ⟨hC1, rfl, hA4, hA5⟩) hP hK hD hS dX5_collectUnlike_63
      · have hc_50 := c_46
        have hz3 : (adSin [] d2 (mvZ b0 sd d2 25)).length = 0 := by omega
        have hz3n : adSin [] d2 (mvZ b0 sd d2 25) = [] := List.eq_nil_of_length_eq_zero hz3
        rw [hz3n] at hC1
        refine lv_aload_n hx hb dX5_collectUnlike_53 rfl (lv_at hl 0 rfl) ?_
        refine z_iconst hF dX5_collectUnlike_54 ?_
        refine z_put (k := 8) hF hK hP hD hS 0 rfl rfl i_wsX50 (by decide) tyX5 tyX5_ok nmX5 rfl kf_42 rfl rfl (Nat.le_of_ble_eq_true rfl) dX5_collectUnlike_55 (fun H locs hP hD hS => ?_)
        have hP : va_P G.1 vwCl [(h0, .inr (5, [.ref tk, .ref r0, .ref w0, .ref c1, .ref i0, .ref p0, .int (zI sd), .int (zI cnt2_43), .int (zI 0), .int (zI gr2_44)])), (tk, .inr (0, [.ref ta])), (ta, .inl (G.2.1.1, 52, .inl (aI b0))), (r0, .inl (G.2.1.1, 3060, .inl (aI fr2_41))), (w0, .inl (G.2.1.1, 3060, .inl (aI fw2_42))), (c1, .inl (G.2.1.2.1, 450, .inr (.inl (aL fc2_18)))), (i0, .inl (G.2.1.1, 450, .inl (aI fh2_19))), (p0, .inl (G.2.1.2.1, 26, .inr (.inl (aL p5))))] H := hP
        have hD : va_D A [(h0, .inr (5, [.ref tk, .ref r0, .ref w0, .ref c1, .ref i0, .ref p0, .int (zI sd), .int (zI cnt2_43), .int (zI 0), .int (zI gr2_44)])), (tk, .inr (0, [.ref ta])), (ta, .inl (G.2.1.1, 52, .inl (aI b0))), (r0, .inl (G.2.1.1, 3060, .inl (aI fr2_41))), (w0, .inl (G.2.1.1, 3060, .inl (aI fw2_42))), (c1, .inl (G.2.1.2.1, 450, .inr (.inl (aL fc2_18)))), (i0, .inl (G.2.1.1, 450, .inl (aI fh2_19))), (p0, .inl (G.2.1.2.1, 26, .inr (.inl (aL p5))))] := hD
        refine lv_aload_n hx hb dX5_collectUnlike_58 rfl (lv_at hl 0 rfl) ?_
        refine z_iconst hF dX5_collectUnlike_59 ?_
        refine cj_v (va_runV (As := [.int (zI 0)]) (rest := []) hF (c_X5_addRow l G h0 tk ta r0 w0 c1 i0 p0 b0 fr2_41 fw2_42 sd cnt2_43 0 gr2_44 0  (by omega) (hvb.ok (by omega)) (by omega) (by omega) hw9 hC1.2.2.2 H.size) (cwV 1 hF.2.2.2.2 gX5_collectUnlike_X5_addRow rfl rfl rfl (by decide +kernel) ⟨Nat.le_of_ble_eq_true rfl, Nat.le_of_ble_eq_true rfl⟩) (z_preV hK hP hD hS hA hBd [0, 1, 2, 3, 4] rfl rfl rfl rfl [.int (zI 0)]) rfl rfl hl.1 rfl (lv_room (Nat.le_of_ble_eq_true rfl)) dX5_collectUnlike_60 ⟨Nat.le_of_ble_eq_true rfl, Nat.le_of_ble_eq_true rfl⟩) hP hD hS hA [0, 1, 2, 3, 4] rfl (fun _ => Nat.le_of_ble_eq_true rfl) (fun u_47 H locs hw hP hD hS => ?_)
        have hP : va_P G.1 vwCl [(h0, .inr (5, [.ref tk, .ref r0, .ref w0, .ref c1, .ref i0, .ref p0, .int (zI sd), .int (zI (cnt2_43 + 1)), .int (zI 0), .int (zI (if up fw2_42 cnt2_43 (wth b0 sd) gr2_44 < wth b0 sd then cnt2_43 else gr2_44))])), (tk, .inr (0, [.ref ta])), (ta, .inl (G.2.1.1, 52, .inl (aI b0))), (r0, .inl (G.2.1.1, 3060, .inl (aI (up fr2_41 cnt2_43 0)))), (w0, .inl (G.2.1.1, 3060, .inl (aI (up fw2_42 cnt2_43 (wth b0 sd))))), (c1, .inl (G.2.1.2.1, 450, .inr (.inl (aL fc2_18)))), (i0, .inl (G.2.1.1, 450, .inl (aI fh2_19))), (p0, .inl (G.2.1.2.1, 26, .inr (.inl (aL p5))))] H := hP
        have hD : va_D A [(h0, .inr (5, [.ref tk, .ref r0, .ref w0, .ref c1, .ref i0, .ref p0, .int (zI sd), .int (zI (cnt2_43 + 1)), .int (zI 0), .int (zI (if up fw2_42 cnt2_43 (wth b0 sd) gr2_44 < wth b0 sd then cnt2_43 else gr2_44))])), (tk, .inr (0, [.ref ta])), (ta, .inl (G.2.1.1, 52, .inl (aI b0))), (r0, .inl (G.2.1.1, 3060, .inl (aI (up fr2_41 cnt2_43 0)))), (w0, .inl (G.2.1.1, 3060, .inl (aI (up fw2_42 cnt2_43 (wth b0 sd))))), (c1, .inl (G.2.1.2.1, 450, .inr (.inl (aL fc2_18)))), (i0, .inl (G.2.1.1, 450, .inl (aI fh2_19))), (p0, .inl (G.2.1.2.1, 26, .inr (.inl (aL p5))))] := hD
        obtain - := hw
        rw [hQ]
        exact z_vret hF hr hlocks ((up fr2_41 cnt2_43 0), (up fw2_42 cnt2_43 (wth b0 sd)), fc2_18, fh2_19, (cnt2_43 + 1), 0, (if up fw2_42 cnt2_43 (wth b0 sd) gr2_44 < wth b0 sd then cnt2_43 else gr2_44)) (by have hu := unl_d (sd := sd) (b0 := b0) (g := d1) (l := d2) hz1 hz2 hz3; dsimp only; rw [hu]; exact ⟨RepP_add (r := []) hC1 rfl hw9, rfl, hA4, hA5⟩) hP hK hD hS dX5_collectUnlike_63
def CAS (l : Launch) (G : wG) (n : Nat) : Prop := ∀ (h0 tk ta r0 w0 c1 i0 p0 : Nat) (b0 fr fw : Int → Int) (sd cnt ln gr n0 d k hi : Int) (L : List Row) (pr : Row)  (hsd : 0 ≤ sd ∧ sd ≤ 1) (hn0 : n0 ≤ 15) (hvb : VB n0 b0) (hd6 : 1 ≤ d ∧ d ≤ 6) (hhi : 0 ≤ hi ∧ hi ≤ 25) (hkn : k + (n : Int) = 4) (hpl : (pr.length : Int) = k) (hlg : lgR sd b0 pr) (hRP : RepP b0 sd L fr fw cnt gr) (hln : 0 ≤ ln ∧ ln ≤ 4) (hcap : cnt + ((lvS sd d n (poR sd b0 pr) hi).length : Int) ≤ 3060) (z9 : Nat), Met l yX5_collectAlike wsX5_collectAlike (rmL (10 + n) 0 0) (wPc G [(h0, .inr (5, [.ref tk, .ref r0, .ref w0, .ref c1, .ref i0, .ref p0, .int (zI sd), .int (zI cnt), .int (zI ln), .int (zI gr)])), (tk, .inr (0, [.ref ta])), (ta, .inl (G.2.1.1, 52, .inl (aI (poR sd b0 pr)))), (r0, .inl (G.2.1.1, 3060, .inl (aI fr))), (w0, .inl (G.2.1.1, 3060, .inl (aI fw)))] z9 [.ref h0, .int (zI d), .int (zI k), .int (zI hi), .int (zI (rc pr))]) (wQv G (fun (u : ((Int → Int) × (Int → Int) × Int × Int × Int)) => RepP b0 sd (adLs (ln, L) ((lvS sd d n (poR sd b0 pr) hi).map (pr ++ ·))).2 u.1 u.2.1 u.2.2.1 u.2.2.2.2 ∧ u.2.2.2.1 = (adLs (ln, L) ((lvS sd d n (poR sd b0 pr) hi).map (pr ++ ·))).1) (fun (u : ((Int → Int) × (Int → Int) × Int × Int × Int)) => [(h0, .inr (5, [.ref tk, .ref r0, .ref w0, .ref c1, .ref i0, .ref p0, .int (zI sd), .int (zI u.2.2.1), .int (zI u.2.2.2.1), .int (zI u.2.2.2.2)])), (tk, .inr (0, [.ref ta])), (ta, .inl (G.2.1.1, 52, .inl (aI (poR sd b0 pr)))), (r0, .inl (G.2.1.1, 3060, .inl (aI u.1))), (w0, .inl (G.2.1.1, 3060, .inl (aI u.2.1)))]) (va_A [(h0, .inr (5, [.ref tk, .ref r0, .ref w0, .ref c1, .ref i0, .ref p0, .int (zI sd), .int (zI cnt), .int (zI ln), .int (zI gr)])), (tk, .inr (0, [.ref ta])), (ta, .inl (G.2.1.1, 52, .inl (aI (poR sd b0 pr)))), (r0, .inl (G.2.1.1, 3060, .inl (aI fr))), (w0, .inl (G.2.1.1, 3060, .inl (aI fw)))] z9)) 0 0 (va_A [(h0, .inr (5, [.ref tk, .ref r0, .ref w0, .ref c1, .ref i0, .ref p0, .int (zI sd), .int (zI cnt), .int (zI ln), .int (zI gr)])), (tk, .inr (0, [.ref ta])), (ta, .inl (G.2.1.1, 52, .inl (aI (poR sd b0 pr)))), (r0, .inl (G.2.1.1, 3060, .inl (aI fr))), (w0, .inl (G.2.1.1, 3060, .inl (aI fw)))] z9)
set_option maxHeartbeats 4000000 in
set_option maxRecDepth 100000 in
theorem c_X5_collectAlike_s (l : Launch) (G : wG) (n : Nat) (IH : ∀ m0, n = m0 + 1 → CAS l G m0) : CAS l G n := by
  intro h0 tk ta r0 w0 c1 i0 p0 b0 fr fw sd cnt ln gr n0 d k hi L pr hsd hn0 hvb hd6 hhi hkn hpl hlg hRP hln hcap z9
  refine z_ofW (Qc := fun A => wQv G (fun (u : ((Int → Int) × (Int → Int) × Int × Int × Int)) => RepP b0 sd (adLs (ln, L) ((lvS sd d n (poR sd b0 pr) hi).map (pr ++ ·))).2 u.1 u.2.1 u.2.2.1 u.2.2.2.2 ∧ u.2.2.2.1 = (adLs (ln, L) ((lvS sd d n (poR sd b0 pr) hi).map (pr ++ ·))).1) (fun (u : ((Int → Int) × (Int → Int) × Int × Int × Int)) => [(h0, .inr (5, [.ref tk, .ref r0, .ref w0, .ref c1, .ref i0, .ref p0, .int (zI sd), .int (zI u.2.2.1), .int (zI u.2.2.2.1), .int (zI u.2.2.2.2)])), (tk, .inr (0, [.ref ta])), (ta, .inl (G.2.1.1, 52, .inl (aI (poR sd b0 pr)))), (r0, .inl (G.2.1.1, 3060, .inl (aI u.1))), (w0, .inl (G.2.1.1, 3060, .inl (aI u.2.1)))]) A) l G [(h0, .inr (5, [.ref tk, .ref r0, .ref w0, .ref c1, .ref i0, .ref p0, .int (zI sd), .int (zI cnt), .int (zI ln), .int (zI gr)])), (tk, .inr (0, [.ref ta])), (ta, .inl (G.2.1.1, 52, .inl (aI (poR sd b0 pr)))), (r0, .inl (G.2.1.1, 3060, .inl (aI fr))), (w0, .inl (G.2.1.1, 3060, .inl (aI fw)))] [.ref h0, .int (zI d), .int (zI k), .int (zI hi), .int (zI (rc pr))] (by decide) rfl rfl ?_ z9
  intro p e s m args below meth c A ls H locs hF hr hlocks hinit hP hK hD hA hS hBd hl
  have hF : wFx p m c cX5_collectAlike 7 s args wsX5_collectAlike RX5 := hF
  have hl : lv_has ls 7 [(0, .ref h0), (1, .int (zI d)), (2, .int (zI k)), (3, .int (zI hi)), (4, .int (zI (rc pr)))] := hl
  have hx := hF.1
  have hb := hF.2.1
  obtain ⟨Q0, hQ⟩ : ∃ q, q = (MQ below (wQv G (fun (u : ((Int → Int) × (Int → Int) × Int × Int × Int)) => RepP b0 sd (adLs (ln, L) ((lvS sd d n (poR sd b0 pr) hi).map (pr ++ ·))).2 u.1 u.2.1 u.2.2.1 u.2.2.2.2 ∧ u.2.2.2.1 = (adLs (ln, L) ((lvS sd d n (poR sd b0 pr) hi).map (pr ++ ·))).1) (fun (u : ((Int → Int) × (Int → Int) × Int × Int × Int)) => [(h0, .inr (5, [.ref tk, .ref r0, .ref w0, .ref c1, .ref i0, .ref p0, .int (zI sd), .int (zI u.2.2.1), .int (zI u.2.2.2.1), .int (zI u.2.2.2.2)])), (tk, .inr (0, [.ref ta])), (ta, .inl (G.2.1.1, 52, .inl (aI (poR sd b0 pr)))), (r0, .inl (G.2.1.1, 3060, .inl (aI u.1))), (w0, .inl (G.2.1.1, 3060, .inl (aI u.2.1)))]) A) args s 0 0 A) := ⟨_, rfl⟩
  rw [← hQ]
  have i_wsX50 : ∀ w ∈ wsX50, w ∈ wsX5_collectAlike := (fun _ h => (List.mem_cons_of_mem _ (List.mem_append_left _ (List.mem_append_right _ h))))
  have kf_12 : (Cond.fieldLink RX5 12 "Gammonry$Plays" "track" "LGammonry$Board;").before args s = true := hF.2.2.2.2 _ (List.mem_cons_of_mem _ (List.mem_append_left _ (List.mem_append_left _ (List.mem_append_left _ (List.mem_of_getElem? (i := 0) rfl)))))
  have kf_35 : (Cond.fieldLink RX5 35 "Gammonry$Plays" "side" "I").before args s = true := hF.2.2.2.2 _ (List.mem_cons_of_mem _ (List.mem_append_left _ (List.mem_append_left _ (List.mem_append_left _ (List.mem_of_getElem? (i := 1) rfl)))))
  have kf_42 : (Cond.fieldLink RX5 42 "Gammonry$Plays" "length" "I").before args s = true := hF.2.2.2.2 _ (List.mem_cons_of_mem _ (List.mem_append_left _ (List.mem_append_left _ (List.mem_append_left _ (List.mem_of_getElem? (i := 2) rfl)))))
  have ks_yX9_codeOf : (Cond.static yX9_codeOf).before args s = true := hF.2.2.2.2 _ (List.mem_cons_of_mem _ (List.mem_append_left _ (List.mem_append_left _ (List.mem_append_right _ (List.mem_append_left _ (List.mem_of_getElem? (i := 5) rfl))))))
  have ks_yX9_withCode : (Cond.static yX9_withCode).before args s = true := hF.2.2.2.2 _ (List.mem_cons_of_mem _ (List.mem_append_left _ (List.mem_append_left _ (List.mem_append_right _ (List.mem_append_left _ (List.mem_of_getElem? (i := 8) rfl))))))
  have kt_RX9 : (Cond.initialized RX9).before args s = true := hF.2.2.2.2 _ (List.mem_cons_of_mem _ (List.mem_append_left _ (List.mem_append_left _ (List.mem_append_right _ (List.mem_append_left _ (List.mem_of_getElem? (i := 6) rfl))))))
  have hvp := lgR_VB hsd hlg hvb
  have hw9 := wth_rg (sd := sd) hvp hn0
  have hz4 := rc_rg hlg pr.length (Nat.le_refl _)
  refine lv_iload_n hx hb dX5_collectAlike_0 rfl (lv_at hl 3 rfl) ?_
  refine lv_istore (lv' := [(5, .int (zI hi)), (0, .ref h0), (1, .int (zI d)), (2, .int (zI k)), (3, .int (zI hi)), (4, .int (zI (rc pr)))]) hx hb dX5_collectAlike_1 hl (by decide) rfl (fun ls hl => ?_)
  have L3 : ∀ (n9 : Nat) (i : Int) (fra fwa : Int → Int) (cna lna gra : Int) (La : List Row), i.toNat < n9 → (0 ≤ i ∧ i ≤ hi) → RepP b0 sd La fra fwa cna gra → (n = 0 → lna = ln ∧ La = L) → adLs (lna, La) (exS sd d (n - 1) (poR sd b0 pr) pr i) = adLs (ln, L) (exS sd d (n - 1) (poR sd b0 pr) pr hi) → (n ≠ 0 → cna + ((exS sd d (n - 1) (poR sd b0 pr) pr i).length : Int) ≤ 3060) → (0 ≤ lna ∧ lna ≤ 4) → ∀ (H : Heap) (locs : List Loc) (ls : Array Slot), va_P G.1 vwCl [(h0, .inr (5, [.ref tk, .ref r0, .ref w0, .ref c1, .ref i0, .ref p0, .int (zI sd), .int (zI cna), .int (zI lna), .int (zI gra)])), (tk, .inr (0, [.ref ta])), (ta, .inl (G.2.1.1, 52, .inl (aI (poR sd b0 pr)))), (r0, .inl (G.2.1.1, 3060, .inl (aI fra))), (w0, .inl (G.2.1.1, 3060, .inl (aI fwa)))] H → va_D A [(h0, .inr (5, [.ref tk, .ref r0, .ref w0, .ref c1, .ref i0, .ref p0, .int (zI sd), .int (zI cna), .int (zI lna), .int (zI gra)])), (tk, .inr (0, [.ref ta])), (ta, .inl (G.2.1.1, 52, .inl (aI (poR sd b0 pr)))), (r0, .inl (G.2.1.1, 3060, .inl (aI fra))), (w0, .inl (G.2.1.1, 3060, .inl (aI fwa)))] → va_S A s.heap H locs → lv_has ls 7 [(0, .ref h0), (1, .int (zI d)), (2, .int (zI k)), (3, .int (zI hi)), (4, .int (zI (rc pr))), (5, .int (zI i))] → W p l e (rmL (10 + n) 0 0) s m args below meth c H locs 0 0 Q0 (F0 m 3 ls []) := by
    intro n9
    induction n9 with
    | zero => intro i fra fwa cna lna gra La hmu; omega
    | succ n9 ih3 =>
      intro i fra fwa cna lna gra La hmu3 hzi hRPa hn00 hst hca hlna H locs ls hP hD hS hl
      refine lv_iload hx hb dX5_collectAlike_3 (lv_at hl 5 rfl) ?_
      refine z_iconst hF dX5_collectAlike_5 ?_
      refine z_icmp_lt (tgt := 91) hF dX5_collectAlike_6 (by decide) (by omega) (by decide) (fun c_1 => ?_) (fun c_1 => ?_)
      · have hc_6 := c_1
        have hD91 : (lna = ln ∧ La = L ∧ lvS sd d n (poR sd b0 pr) hi = [[]]) ∨ (k < lna ∧ (adLs (ln, L) ((lvS sd d n (poR sd b0 pr) hi).map (pr ++ ·))) = (lna, La)) := alike_end hpl hn00 hst (by omega) hkn
        rcases hD91 with ⟨e1, e0, e3⟩ | ⟨e1, e2⟩
        · skip
          refine lv_iload_n hx hb dX5_collectAlike_91 rfl (lv_at hl 2 rfl) ?_
          refine lv_aload_n hx hb dX5_collectAlike_92 rfl (lv_at hl 0 rfl) ?_
          refine z_get (k := 8) hF hK hP 0 rfl rfl i_wsX50 (by decide) kf_42 rfl dX5_collectAlike_93 ?_
          refine z_icmp_le (tgt := 104) hF dX5_collectAlike_96 (by decide) (by omega) (by omega) (fun c_2 => ?_) (fun c_2 => ?_)
          · have hc_96 := c_2
            refine lv_iload_n hx hb dX5_collectAlike_104 rfl (lv_at hl 2 rfl) ?_
            refine lv_aload_n hx hb dX5_collectAlike_105 rfl (lv_at hl 0 rfl) ?_
            refine z_get (k := 8) hF hK hP 0 rfl rfl i_wsX50 (by decide) kf_42 rfl dX5_collectAlike_106 ?_
            refine z_icmp_ne (tgt := 118) hF dX5_collectAlike_109 (by decide) (by omega) (by omega) (fun c_3 => ?_) (fun c_3 => ?_)
            · have hc_109 := c_3
              have hRPL : RepP b0 sd L fra fwa cna gra := by rw [← e0]; exact hRPa
              rw [hQ]
              exact z_vret hF hr hlocks (fra, fwa, cna, lna, gra) (by dsimp only; rw [adLs_leaf e3, adL_lt (by omega)]; exact ⟨hRPL, e1⟩) hP hK hD hS dX5_collectAlike_118
            · have hc_109 := c_3
              have hg9 := RepP_gr hRPa
              have hl9 : ((lvS sd d n (poR sd b0 pr) hi).length : Int) = 1 := by rw [e3]; rfl
              have hc9 : cna = cnt := by rw [hRPa.1, hRP.1, e0]
              have hRPL : RepP b0 sd L fra fwa cna gra := by rw [← e0]; exact hRPa
              refine lv_aload_n hx hb dX5_collectAlike_112 rfl (lv_at hl 0 rfl) ?_
              refine lv_iload hx hb dX5_collectAlike_113 (lv_at hl 4 rfl) ?_
              refine cj_v (va_runV (As := [.int (zI (rc pr))]) (rest := []) hF (c_X5_addRow l G h0 tk ta r0 w0 c1 i0 p0 (poR sd b0 pr) fra fwa sd cna lna gra (rc pr)  (by omega) (hvp.ok (by omega)) (by omega) (by omega) hw9 hRPa.2.2.2 H.size) (cwV 1 hF.2.2.2.2 gX5_collectAlike_X5_addRow rfl rfl rfl (by decide +kernel) ⟨by dsimp only [rmL]; omega, by dsimp only [rmL]; omega⟩) (z_preV hK hP hD hS hA hBd [0, 1, 2, 3, 4] rfl rfl rfl rfl [.int (zI (rc pr))]) rfl rfl hl.1 rfl (lv_room (Nat.le_of_ble_eq_true rfl)) dX5_collectAlike_115 ⟨Nat.le_of_ble_eq_true rfl, Nat.le_of_ble_eq_true rfl⟩) hP hD hS hA [0, 1, 2, 3, 4] rfl (fun _ => Nat.le_of_ble_eq_true rfl) (fun u_4 H locs hw hP hD hS => ?_)
              have hP : va_P G.1 vwCl [(h0, .inr (5, [.ref tk, .ref r0, .ref w0, .ref c1, .ref i0, .ref p0, .int (zI sd), .int (zI (cna + 1)), .int (zI lna), .int (zI (if up fwa cna (wth (poR sd b0 pr) sd) gra < wth (poR sd b0 pr) sd then cna else gra))])), (tk, .inr (0, [.ref ta])), (ta, .inl (G.2.1.1, 52, .inl (aI (poR sd b0 pr)))), (r0, .inl (G.2.1.1, 3060, .inl (aI (up fra cna (rc pr))))), (w0, .inl (G.2.1.1, 3060, .inl (aI (up fwa cna (wth (poR sd b0 pr) sd)))))] H := hP
              have hD : va_D A [(h0, .inr (5, [.ref tk, .ref r0, .ref w0, .ref c1, .ref i0, .ref p0, .int (zI sd), .int (zI (cna + 1)), .int (zI lna), .int (zI (if up fwa cna (wth (poR sd b0 pr) sd) gra < wth (poR sd b0 pr) sd then cna else gra))])), (tk, .inr (0, [.ref ta])), (ta, .inl (G.2.1.1, 52, .inl (aI (poR sd b0 pr)))), (r0, .inl (G.2.1.1, 3060, .inl (aI (up fra cna (rc pr))))), (w0, .inl (G.2.1.1, 3060, .inl (aI (up fwa cna (wth (poR sd b0 pr) sd)))))] := hD
              obtain - := hw
              rw [hQ]
              exact z_vret hF hr hlocks ((up fra cna (rc pr)), (up fwa cna (wth (poR sd b0 pr) sd)), (cna + 1), lna, (if up fwa cna (wth (poR sd b0 pr) sd) gra < wth (poR sd b0 pr) sd then cna else gra)) (by dsimp only; rw [adLs_leaf e3, adL_eq (by omega)]; exact ⟨RepP_add hRPL rfl hw9, e1⟩) hP hK hD hS dX5_collectAlike_118
          · have hc_96 := c_2
            have hg9 := RepP_gr hRPa
            refine lv_aload_n hx hb dX5_collectAlike_99 rfl (lv_at hl 0 rfl) ?_
            refine lv_iload_n hx hb dX5_collectAlike_100 rfl (lv_at hl 2 rfl) ?_
            refine cj_v (va_runV (As := [.int (zI k)]) (rest := []) hF (c_X5_clear l G h0 tk r0 w0 c1 i0 p0 sd cna lna gra k   H.size) (cwV 1 hF.2.2.2.2 gX5_collectAlike_X5_clear rfl rfl rfl (by decide +kernel) ⟨by dsimp only [rmL]; omega, by dsimp only [rmL]; omega⟩) (z_preV hK hP hD hS hA hBd [0] rfl rfl rfl rfl [.int (zI k)]) rfl rfl hl.1 rfl (lv_room (Nat.le_of_ble_eq_true rfl)) dX5_collectAlike_101 ⟨Nat.le_of_ble_eq_true rfl, Nat.le_of_ble_eq_true rfl⟩) hP hD hS hA [0] rfl (fun _ => Nat.le_of_ble_eq_true rfl) (fun u_6 H locs hw hP hD hS => ?_)
            have hP : va_P G.1 vwCl [(h0, .inr (5, [.ref tk, .ref r0, .ref w0, .ref c1, .ref i0, .ref p0, .int (zI sd), .int (zI 0), .int (zI k), .int (zI 0)])), (tk, .inr (0, [.ref ta])), (ta, .inl (G.2.1.1, 52, .inl (aI (poR sd b0 pr)))), (r0, .inl (G.2.1.1, 3060, .inl (aI fra))), (w0, .inl (G.2.1.1, 3060, .inl (aI fwa)))] H := hP
            have hD : va_D A [(h0, .inr (5, [.ref tk, .ref r0, .ref w0, .ref c1, .ref i0, .ref p0, .int (zI sd), .int (zI 0), .int (zI k), .int (zI 0)])), (tk, .inr (0, [.ref ta])), (ta, .inl (G.2.1.1, 52, .inl (aI (poR sd b0 pr)))), (r0, .inl (G.2.1.1, 3060, .inl (aI fra))), (w0, .inl (G.2.1.1, 3060, .inl (aI fwa)))] := hD
            obtain - := hw
            refine lv_iload_n hx hb dX5_collectAlike_104 rfl (lv_at hl 2 rfl) ?_
            refine lv_aload_n hx hb dX5_collectAlike_105 rfl (lv_at hl 0 rfl) ?_
            refine z_get (k := 8) hF hK hP 0 rfl rfl i_wsX50 (by decide) kf_42 rfl dX5_collectAlike_106 ?_
            refine z_icmp_ne (tgt := 118) hF dX5_collectAlike_109 (by decide) (by omega) (by omega) (fun c_8 => ?_) (fun c_8 => ?_)
            · exact absurd rfl c_8
            · have hc_109 := c_8
              have hg9 := RepP_gr hRPa
              have hl9 : ((lvS sd d n (poR sd b0 pr) hi).length : Int) = 1 := by rw [e3]; rfl
              have hc9 : cna = cnt := by rw [hRPa.1, hRP.1, e0]
              have hRPL : RepP b0 sd L fra fwa cna gra := by rw [← e0]; exact hRPa
              refine lv_aload_n hx hb dX5_collectAlike_112 rfl (lv_at hl 0 rfl) ?_
              refine lv_iload hx hb dX5_collectAlike_113 (lv_at hl 4 rfl) ?_
              refine cj_v (va_runV (As := [.int (zI (rc pr))]) (rest := []) hF (c_X5_addRow l G h0 tk ta r0 w0 c1 i0 p0 (poR sd b0 pr) fra fwa sd 0 k 0 (rc pr)  (by omega) (hvp.ok (by omega)) (by omega) (by omega) hw9 hRPa.2.2.2 H.size) (cwV 1 hF.2.2.2.2 gX5_collectAlike_X5_addRow rfl rfl rfl (by decide +kernel) ⟨by dsimp only [rmL]; omega, by dsimp only [rmL]; omega⟩) (z_preV hK hP hD hS hA hBd [0, 1, 2, 3, 4] rfl rfl rfl rfl [.int (zI (rc pr))]) rfl rfl hl.1 rfl (lv_room (Nat.le_of_ble_eq_true rfl)) dX5_collectAlike_115 ⟨Nat.le_of_ble_eq_true rfl, Nat.le_of_ble_eq_true rfl⟩) hP hD hS hA [0, 1, 2, 3, 4] rfl (fun _ => Nat.le_of_ble_eq_true rfl) (fun u_9 H locs hw hP hD hS => ?_)
              have hP : va_P G.1 vwCl [(h0, .inr (5, [.ref tk, .ref r0, .ref w0, .ref c1, .ref i0, .ref p0, .int (zI sd), .int (zI (0 + 1)), .int (zI k), .int (zI (if up fwa 0 (wth (poR sd b0 pr) sd) 0 < wth (poR sd b0 pr) sd then 0 else 0))])), (tk, .inr (0, [.ref ta])), (ta, .inl (G.2.1.1, 52, .inl (aI (poR sd b0 pr)))), (r0, .inl (G.2.1.1, 3060, .inl (aI (up fra 0 (rc pr))))), (w0, .inl (G.2.1.1, 3060, .inl (aI (up fwa 0 (wth (poR sd b0 pr) sd)))))] H := hP
              have hD : va_D A [(h0, .inr (5, [.ref tk, .ref r0, .ref w0, .ref c1, .ref i0, .ref p0, .int (zI sd), .int (zI (0 + 1)), .int (zI k), .int (zI (if up fwa 0 (wth (poR sd b0 pr) sd) 0 < wth (poR sd b0 pr) sd then 0 else 0))])), (tk, .inr (0, [.ref ta])), (ta, .inl (G.2.1.1, 52, .inl (aI (poR sd b0 pr)))), (r0, .inl (G.2.1.1, 3060, .inl (aI (up fra 0 (rc pr))))), (w0, .inl (G.2.1.1, 3060, .inl (aI (up fwa 0 (wth (poR sd b0 pr) sd)))))] := hD
              obtain - := hw
              rw [hQ]
              exact z_vret hF hr hlocks ((up fra 0 (rc pr)), (up fwa 0 (wth (poR sd b0 pr) sd)), (0 + 1), k, (if up fwa 0 (wth (poR sd b0 pr) sd) 0 < wth (poR sd b0 pr) sd then 0 else 0)) (by dsimp only; rw [adLs_leaf e3, adL_gt (by omega)]; exact ⟨RepP_add (L := []) (RepP_0 hRPa.2.2.2) rfl hw9, hpl.symm⟩) hP hK hD hS dX5_collectAlike_118
        · skip
          refine lv_iload_n hx hb dX5_collectAlike_91 rfl (lv_at hl 2 rfl) ?_
          refine lv_aload_n hx hb dX5_collectAlike_92 rfl (lv_at hl 0 rfl) ?_
          refine z_get (k := 8) hF hK hP 0 rfl rfl i_wsX50 (by decide) kf_42 rfl dX5_collectAlike_93 ?_
          refine z_icmp_le (tgt := 104) hF dX5_collectAlike_96 (by decide) (by omega) (by omega) (fun c_11 => ?_) (fun c_11 => ?_)
          · have hc_96 := c_11
            refine lv_iload_n hx hb dX5_collectAlike_104 rfl (lv_at hl 2 rfl) ?_
            refine lv_aload_n hx hb dX5_collectAlike_105 rfl (lv_at hl 0 rfl) ?_
            refine z_get (k := 8) hF hK hP 0 rfl rfl i_wsX50 (by decide) kf_42 rfl dX5_collectAlike_106 ?_
            refine z_icmp_ne (tgt := 118) hF dX5_collectAlike_109 (by decide) (by omega) (by omega) (fun c_12 => ?_) (fun c_12 => ?_)
            · have hc_109 := c_12
              rw [hQ]
              exact z_vret hF hr hlocks (fra, fwa, cna, lna, gra) (by dsimp only; rw [e2]; exact ⟨hRPa, rfl⟩) hP hK hD hS dX5_collectAlike_118
            · exfalso; omega
          · exfalso; omega
      · have hc_6 := c_1
        refine lv_iload_n hx hb dX5_collectAlike_9 rfl (lv_at hl 2 rfl) ?_
        refine z_iconst hF dX5_collectAlike_10 ?_
        refine z_icmp_ge (tgt := 91) hF dX5_collectAlike_11 (by decide) (by omega) (by decide) (fun c_13 => ?_) (fun c_13 => ?_)
        · have hc_11 := c_13
          have hD91 : (lna = ln ∧ La = L ∧ lvS sd d n (poR sd b0 pr) hi = [[]]) ∨ (k < lna ∧ (adLs (ln, L) ((lvS sd d n (poR sd b0 pr) hi).map (pr ++ ·))) = (lna, La)) := Or.inl ⟨(hn00 (by omega)).1, (hn00 (by omega)).2, lvS_leaf (Or.inl (by omega))⟩
          rcases hD91 with ⟨e1, e0, e3⟩ | ⟨e1, e2⟩
          · skip
            refine lv_iload_n hx hb dX5_collectAlike_91 rfl (lv_at hl 2 rfl) ?_
            refine lv_aload_n hx hb dX5_collectAlike_92 rfl (lv_at hl 0 rfl) ?_
            refine z_get (k := 8) hF hK hP 0 rfl rfl i_wsX50 (by decide) kf_42 rfl dX5_collectAlike_93 ?_
            refine z_icmp_le (tgt := 104) hF dX5_collectAlike_96 (by decide) (by omega) (by omega) (fun c_14 => ?_) (fun c_14 => ?_)
            · have hc_96 := c_14
              refine lv_iload_n hx hb dX5_collectAlike_104 rfl (lv_at hl 2 rfl) ?_
              refine lv_aload_n hx hb dX5_collectAlike_105 rfl (lv_at hl 0 rfl) ?_
              refine z_get (k := 8) hF hK hP 0 rfl rfl i_wsX50 (by decide) kf_42 rfl dX5_collectAlike_106 ?_
              refine z_icmp_ne (tgt := 118) hF dX5_collectAlike_109 (by decide) (by omega) (by omega) (fun c_15 => ?_) (fun c_15 => ?_)
              · have hc_109 := c_15
                have hRPL : RepP b0 sd L fra fwa cna gra := by rw [← e0]; exact hRPa
                rw [hQ]
                exact z_vret hF hr hlocks (fra, fwa, cna, lna, gra) (by dsimp only; rw [adLs_leaf e3, adL_lt (by omega)]; exact ⟨hRPL, e1⟩) hP hK hD hS dX5_collectAlike_118
              · have hc_109 := c_15
                have hg9 := RepP_gr hRPa
                have hl9 : ((lvS sd d n (poR sd b0 pr) hi).length : Int) = 1 := by rw [e3]; rfl
                have hc9 : cna = cnt := by rw [hRPa.1, hRP.1, e0]
                have hRPL : RepP b0 sd L fra fwa cna gra := by rw [← e0]; exact hRPa
                refine lv_aload_n hx hb dX5_collectAlike_112 rfl (lv_at hl 0 rfl) ?_
                refine lv_iload hx hb dX5_collectAlike_113 (lv_at hl 4 rfl) ?_
                refine cj_v (va_runV (As := [.int (zI (rc pr))]) (rest := []) hF (c_X5_addRow l G h0 tk ta r0 w0 c1 i0 p0 (poR sd b0 pr) fra fwa sd cna lna gra (rc pr)  (by omega) (hvp.ok (by omega)) (by omega) (by omega) hw9 hRPa.2.2.2 H.size) (cwV 1 hF.2.2.2.2 gX5_collectAlike_X5_addRow rfl rfl rfl (by decide +kernel) ⟨by dsimp only [rmL]; omega, by dsimp only [rmL]; omega⟩) (z_preV hK hP hD hS hA hBd [0, 1, 2, 3, 4] rfl rfl rfl rfl [.int (zI (rc pr))]) rfl rfl hl.1 rfl (lv_room (Nat.le_of_ble_eq_true rfl)) dX5_collectAlike_115 ⟨Nat.le_of_ble_eq_true rfl, Nat.le_of_ble_eq_true rfl⟩) hP hD hS hA [0, 1, 2, 3, 4] rfl (fun _ => Nat.le_of_ble_eq_true rfl) (fun u_16 H locs hw hP hD hS => ?_)
                have hP : va_P G.1 vwCl [(h0, .inr (5, [.ref tk, .ref r0, .ref w0, .ref c1, .ref i0, .ref p0, .int (zI sd), .int (zI (cna + 1)), .int (zI lna), .int (zI (if up fwa cna (wth (poR sd b0 pr) sd) gra < wth (poR sd b0 pr) sd then cna else gra))])), (tk, .inr (0, [.ref ta])), (ta, .inl (G.2.1.1, 52, .inl (aI (poR sd b0 pr)))), (r0, .inl (G.2.1.1, 3060, .inl (aI (up fra cna (rc pr))))), (w0, .inl (G.2.1.1, 3060, .inl (aI (up fwa cna (wth (poR sd b0 pr) sd)))))] H := hP
                have hD : va_D A [(h0, .inr (5, [.ref tk, .ref r0, .ref w0, .ref c1, .ref i0, .ref p0, .int (zI sd), .int (zI (cna + 1)), .int (zI lna), .int (zI (if up fwa cna (wth (poR sd b0 pr) sd) gra < wth (poR sd b0 pr) sd then cna else gra))])), (tk, .inr (0, [.ref ta])), (ta, .inl (G.2.1.1, 52, .inl (aI (poR sd b0 pr)))), (r0, .inl (G.2.1.1, 3060, .inl (aI (up fra cna (rc pr))))), (w0, .inl (G.2.1.1, 3060, .inl (aI (up fwa cna (wth (poR sd b0 pr) sd)))))] := hD
                obtain - := hw
                rw [hQ]
                exact z_vret hF hr hlocks ((up fra cna (rc pr)), (up fwa cna (wth (poR sd b0 pr) sd)), (cna + 1), lna, (if up fwa cna (wth (poR sd b0 pr) sd) gra < wth (poR sd b0 pr) sd then cna else gra)) (by dsimp only; rw [adLs_leaf e3, adL_eq (by omega)]; exact ⟨RepP_add hRPL rfl hw9, e1⟩) hP hK hD hS dX5_collectAlike_118
            · have hc_96 := c_14
              have hg9 := RepP_gr hRPa
              refine lv_aload_n hx hb dX5_collectAlike_99 rfl (lv_at hl 0 rfl) ?_
              refine lv_iload_n hx hb dX5_collectAlike_100 rfl (lv_at hl 2 rfl) ?_
              refine cj_v (va_runV (As := [.int (zI k)]) (rest := []) hF (c_X5_clear l G h0 tk r0 w0 c1 i0 p0 sd cna lna gra k   H.size) (cwV 1 hF.2.2.2.2 gX5_collectAlike_X5_clear rfl rfl rfl (by decide +kernel) ⟨by dsimp only [rmL]; omega, by dsimp only [rmL]; omega⟩) (z_preV hK hP hD hS hA hBd [0] rfl rfl rfl rfl [.int (zI k)]) rfl rfl hl.1 rfl (lv_room (Nat.le_of_ble_eq_true rfl)) dX5_collectAlike_101 ⟨Nat.le_of_ble_eq_true rfl, Nat.le_of_ble_eq_true rfl⟩) hP hD hS hA [0] rfl (fun _ => Nat.le_of_ble_eq_true rfl) (fun u_18 H locs hw hP hD hS => ?_)
              have hP : va_P G.1 vwCl [(h0, .inr (5, [.ref tk, .ref r0, .ref w0, .ref c1, .ref i0, .ref p0, .int (zI sd), .int (zI 0), .int (zI k), .int (zI 0)])), (tk, .inr (0, [.ref ta])), (ta, .inl (G.2.1.1, 52, .inl (aI (poR sd b0 pr)))), (r0, .inl (G.2.1.1, 3060, .inl (aI fra))), (w0, .inl (G.2.1.1, 3060, .inl (aI fwa)))] H := hP
              have hD : va_D A [(h0, .inr (5, [.ref tk, .ref r0, .ref w0, .ref c1, .ref i0, .ref p0, .int (zI sd), .int (zI 0), .int (zI k), .int (zI 0)])), (tk, .inr (0, [.ref ta])), (ta, .inl (G.2.1.1, 52, .inl (aI (poR sd b0 pr)))), (r0, .inl (G.2.1.1, 3060, .inl (aI fra))), (w0, .inl (G.2.1.1, 3060, .inl (aI fwa)))] := hD
              obtain - := hw
              refine lv_iload_n hx hb dX5_collectAlike_104 rfl (lv_at hl 2 rfl) ?_
              refine lv_aload_n hx hb dX5_collectAlike_105 rfl (lv_at hl 0 rfl) ?_
              refine z_get (k := 8) hF hK hP 0 rfl rfl i_wsX50 (by decide) kf_42 rfl dX5_collectAlike_106 ?_
              refine z_icmp_ne (tgt := 118) hF dX5_collectAlike_109 (by decide) (by omega) (by omega) (fun c_20 => ?_) (fun c_20 => ?_)
              · exact absurd rfl c_20
              · have hc_109 := c_20
                have hg9 := RepP_gr hRPa
                have hl9 : ((lvS sd d n (poR sd b0 pr) hi).length : Int) = 1 := by rw [e3]; rfl
                have hc9 : cna = cnt := by rw [hRPa.1, hRP.1, e0]
                have hRPL : RepP b0 sd L fra fwa cna gra := by rw [← e0]; exact hRPa
                refine lv_aload_n hx hb dX5_collectAlike_112 rfl (lv_at hl 0 rfl) ?_
                refine lv_iload hx hb dX5_collectAlike_113 (lv_at hl 4 rfl) ?_
                refine cj_v (va_runV (As := [.int (zI (rc pr))]) (rest := []) hF (c_X5_addRow l G h0 tk ta r0 w0 c1 i0 p0 (poR sd b0 pr) fra fwa sd 0 k 0 (rc pr)  (by omega) (hvp.ok (by omega)) (by omega) (by omega) hw9 hRPa.2.2.2 H.size) (cwV 1 hF.2.2.2.2 gX5_collectAlike_X5_addRow rfl rfl rfl (by decide +kernel) ⟨by dsimp only [rmL]; omega, by dsimp only [rmL]; omega⟩) (z_preV hK hP hD hS hA hBd [0, 1, 2, 3, 4] rfl rfl rfl rfl [.int (zI (rc pr))]) rfl rfl hl.1 rfl (lv_room (Nat.le_of_ble_eq_true rfl)) dX5_collectAlike_115 ⟨Nat.le_of_ble_eq_true rfl, Nat.le_of_ble_eq_true rfl⟩) hP hD hS hA [0, 1, 2, 3, 4] rfl (fun _ => Nat.le_of_ble_eq_true rfl) (fun u_21 H locs hw hP hD hS => ?_)
                have hP : va_P G.1 vwCl [(h0, .inr (5, [.ref tk, .ref r0, .ref w0, .ref c1, .ref i0, .ref p0, .int (zI sd), .int (zI (0 + 1)), .int (zI k), .int (zI (if up fwa 0 (wth (poR sd b0 pr) sd) 0 < wth (poR sd b0 pr) sd then 0 else 0))])), (tk, .inr (0, [.ref ta])), (ta, .inl (G.2.1.1, 52, .inl (aI (poR sd b0 pr)))), (r0, .inl (G.2.1.1, 3060, .inl (aI (up fra 0 (rc pr))))), (w0, .inl (G.2.1.1, 3060, .inl (aI (up fwa 0 (wth (poR sd b0 pr) sd)))))] H := hP
                have hD : va_D A [(h0, .inr (5, [.ref tk, .ref r0, .ref w0, .ref c1, .ref i0, .ref p0, .int (zI sd), .int (zI (0 + 1)), .int (zI k), .int (zI (if up fwa 0 (wth (poR sd b0 pr) sd) 0 < wth (poR sd b0 pr) sd then 0 else 0))])), (tk, .inr (0, [.ref ta])), (ta, .inl (G.2.1.1, 52, .inl (aI (poR sd b0 pr)))), (r0, .inl (G.2.1.1, 3060, .inl (aI (up fra 0 (rc pr))))), (w0, .inl (G.2.1.1, 3060, .inl (aI (up fwa 0 (wth (poR sd b0 pr) sd)))))] := hD
                obtain - := hw
                rw [hQ]
                exact z_vret hF hr hlocks ((up fra 0 (rc pr)), (up fwa 0 (wth (poR sd b0 pr) sd)), (0 + 1), k, (if up fwa 0 (wth (poR sd b0 pr) sd) 0 < wth (poR sd b0 pr) sd then 0 else 0)) (by dsimp only; rw [adLs_leaf e3, adL_gt (by omega)]; exact ⟨RepP_add (L := []) (RepP_0 hRPa.2.2.2) rfl hw9, hpl.symm⟩) hP hK hD hS dX5_collectAlike_118
          · skip
            refine lv_iload_n hx hb dX5_collectAlike_91 rfl (lv_at hl 2 rfl) ?_
            refine lv_aload_n hx hb dX5_collectAlike_92 rfl (lv_at hl 0 rfl) ?_
            refine z_get (k := 8) hF hK hP 0 rfl rfl i_wsX50 (by decide) kf_42 rfl dX5_collectAlike_93 ?_
            refine z_icmp_le (tgt := 104) hF dX5_collectAlike_96 (by decide) (by omega) (by omega) (fun c_23 => ?_) (fun c_23 => ?_)
            · have hc_96 := c_23
              refine lv_iload_n hx hb dX5_collectAlike_104 rfl (lv_at hl 2 rfl) ?_
              refine lv_aload_n hx hb dX5_collectAlike_105 rfl (lv_at hl 0 rfl) ?_
              refine z_get (k := 8) hF hK hP 0 rfl rfl i_wsX50 (by decide) kf_42 rfl dX5_collectAlike_106 ?_
              refine z_icmp_ne (tgt := 118) hF dX5_collectAlike_109 (by decide) (by omega) (by omega) (fun c_24 => ?_) (fun c_24 => ?_)
              · have hc_109 := c_24
                rw [hQ]
                exact z_vret hF hr hlocks (fra, fwa, cna, lna, gra) (by dsimp only; rw [e2]; exact ⟨hRPa, rfl⟩) hP hK hD hS dX5_collectAlike_118
              · exfalso; omega
            · exfalso; omega
        · have hc_11 := c_13
          obtain ⟨m0, hm0⟩ : ∃ m0, n = m0 + 1 := ⟨n - 1, by omega⟩
          have IHm := IH m0 hm0
          have hm1 : n - 1 = m0 := by omega
          refine lv_aload_n hx hb dX5_collectAlike_14 rfl (lv_at hl 0 rfl) ?_
          refine z_get (k := 0) hF hK hP 0 rfl rfl i_wsX50 (by decide) kf_12 rfl dX5_collectAlike_15 ?_
          refine lv_aload_n hx hb dX5_collectAlike_18 rfl (lv_at hl 0 rfl) ?_
          refine z_get (k := 6) hF hK hP 0 rfl rfl i_wsX50 (by decide) kf_35 rfl dX5_collectAlike_19 ?_
          refine lv_iload hx hb dX5_collectAlike_22 (lv_at hl 5 rfl) ?_
          refine lv_iload_n hx hb dX5_collectAlike_24 rfl (lv_at hl 1 rfl) ?_
          refine cj_i (va_runV (As := [.int (zI sd), .int (zI i), .int (zI d)]) (rest := []) hF (c_X0_canStep l G tk ta (poR sd b0 pr) sd i d  (by omega) (by omega) (by omega) (hvp.ok (by omega)) H.size) (cwV 3 hF.2.2.2.2 gX5_collectAlike_X0_canStep rfl rfl rfl (by decide +kernel) ⟨by dsimp only [rmL]; omega, by dsimp only [rmL]; omega⟩) (z_preV hK hP hD hS hA hBd [1, 2] rfl rfl rfl rfl [.int (zI sd), .int (zI i), .int (zI d)]) rfl rfl hl.1 rfl (lv_room (Nat.le_of_ble_eq_true rfl)) dX5_collectAlike_25 ⟨Nat.le_of_ble_eq_true rfl, Nat.le_of_ble_eq_true rfl⟩) hP hD hS hA [1, 2] rfl (fun _ => Nat.le_of_ble_eq_true rfl) (fun r_26 u_25 H locs hw hP hD hS => ?_)
          have hP : va_P G.1 vwCl [(h0, .inr (5, [.ref tk, .ref r0, .ref w0, .ref c1, .ref i0, .ref p0, .int (zI sd), .int (zI cna), .int (zI lna), .int (zI gra)])), (tk, .inr (0, [.ref ta])), (ta, .inl (G.2.1.1, 52, .inl (aI (poR sd b0 pr)))), (r0, .inl (G.2.1.1, 3060, .inl (aI fra))), (w0, .inl (G.2.1.1, 3060, .inl (aI fwa)))] H := hP
          have hD : va_D A [(h0, .inr (5, [.ref tk, .ref r0, .ref w0, .ref c1, .ref i0, .ref p0, .int (zI sd), .int (zI cna), .int (zI lna), .int (zI gra)])), (tk, .inr (0, [.ref ta])), (ta, .inl (G.2.1.1, 52, .inl (aI (poR sd b0 pr)))), (r0, .inl (G.2.1.1, 3060, .inl (aI fra))), (w0, .inl (G.2.1.1, 3060, .inl (aI fwa)))] := hD
          rcases hw with ⟨h_27, rfl⟩ | ⟨h_28, rfl⟩
          · skip
            have hcan := h_27
            have hfi := hcan.2.2.rg
            have hmt := mvZ_t (b := poR sd b0 pr) (sd := sd) (d := d) (h := i) (by omega) hcan.2.2
            have hpo : poR sd b0 (pr ++ [(i, d)]) = stp (poR sd b0 pr) sd i d := poR_app sd pr b0 (i, d)
            have hlg9 : lgR sd b0 (pr ++ [(i, d)]) := lgR_app hlg hcan.2.2 hd6
            have hex : exS sd d (n - 1) (poR sd b0 pr) pr i = (lvS sd d m0 (stp (poR sd b0 pr) sd i d) i).map ((pr ++ [(i, d)]) ++ ·) ++ exS sd d (n - 1) (poR sd b0 pr) pr (i + -1) := by rw [hm1]; exact exS_t (by omega) hcan.2.2
            have hca9 := hca (by omega)
            rw [hex, List.length_append, List.length_map] at hca9
            have hzp : rc pr + (8 * i + d) * p8 k = rc (pr ++ [(i, d)]) := by rw [rc_app hlg (by omega), hpl]
            have hln9 : (adLs (lna, La) ((lvS sd d m0 (stp (poR sd b0 pr) sd i d) i).map ((pr ++ [(i, d)]) ++ ·))).2.length ≤ La.length + (lvS sd d m0 (stp (poR sd b0 pr) sd i d) i).length ∧ lna ≤ (adLs (lna, La) ((lvS sd d m0 (stp (poR sd b0 pr) sd i d) i).map ((pr ++ [(i, d)]) ++ ·))).1 := by have h9 := adLs_len ((lvS sd d m0 (stp (poR sd b0 pr) sd i d) i).map ((pr ++ [(i, d)]) ++ ·)) (lna, La); rw [List.length_map] at h9; exact h9
            refine z_if_eq (tgt := 85) hF dX5_collectAlike_28 (by decide) (by decide) (fun c_29 => ?_) (fun c_29 => ?_)
            · exact absurd c_29 (by decide)
            · have hc_28 := c_29
              refine lv_aload_n hx hb dX5_collectAlike_31 rfl (lv_at hl 0 rfl) ?_
              refine z_get (k := 0) hF hK hP 0 rfl rfl i_wsX50 (by decide) kf_12 rfl dX5_collectAlike_32 ?_
              refine lv_aload_n hx hb dX5_collectAlike_35 rfl (lv_at hl 0 rfl) ?_
              refine z_get (k := 6) hF hK hP 0 rfl rfl i_wsX50 (by decide) kf_35 rfl dX5_collectAlike_36 ?_
              refine lv_iload hx hb dX5_collectAlike_39 (lv_at hl 5 rfl) ?_
              refine lv_iload_n hx hb dX5_collectAlike_41 rfl (lv_at hl 1 rfl) ?_
              refine cj_i (va_runV (As := [.int (zI sd), .int (zI i), .int (zI d)]) (rest := []) hF (c_X0_step l G tk ta (poR sd b0 pr) sd i d  (by omega) (by omega) (by omega) (hvp.ok (by omega)) H.size) (cwV 3 hF.2.2.2.2 gX5_collectAlike_X0_step rfl rfl rfl (by decide +kernel) ⟨by dsimp only [rmL]; omega, by dsimp only [rmL]; omega⟩) (z_preV hK hP hD hS hA hBd [1, 2] rfl rfl rfl rfl [.int (zI sd), .int (zI i), .int (zI d)]) rfl rfl hl.1 rfl (lv_room (Nat.le_of_ble_eq_true rfl)) dX5_collectAlike_42 ⟨Nat.le_of_ble_eq_true rfl, Nat.le_of_ble_eq_true rfl⟩) hP hD hS hA [1, 2] rfl (fun _ => Nat.le_of_ble_eq_true rfl) (fun r_31 u_30 H locs hw hP hD hS => ?_)
              have hP : va_P G.1 vwCl [(h0, .inr (5, [.ref tk, .ref r0, .ref w0, .ref c1, .ref i0, .ref p0, .int (zI sd), .int (zI cna), .int (zI lna), .int (zI gra)])), (tk, .inr (0, [.ref ta])), (ta, .inl (G.2.1.1, 52, .inl (aI (stp (poR sd b0 pr) sd i d)))), (r0, .inl (G.2.1.1, 3060, .inl (aI fra))), (w0, .inl (G.2.1.1, 3060, .inl (aI fwa)))] H := hP
              have hD : va_D A [(h0, .inr (5, [.ref tk, .ref r0, .ref w0, .ref c1, .ref i0, .ref p0, .int (zI sd), .int (zI cna), .int (zI lna), .int (zI gra)])), (tk, .inr (0, [.ref ta])), (ta, .inl (G.2.1.1, 52, .inl (aI (stp (poR sd b0 pr) sd i d)))), (r0, .inl (G.2.1.1, 3060, .inl (aI fra))), (w0, .inl (G.2.1.1, 3060, .inl (aI fwa)))] := hD
              obtain rfl := hw
              rw [show (stp (poR sd b0 pr) sd i d) = poR sd b0 (pr ++ [(i, d)]) from hpo.symm] at hP hD
              refine lv_istore (lv' := [(6, .int (zI (hwB (poR sd b0 pr) sd i d))), (0, .ref h0), (1, .int (zI d)), (2, .int (zI k)), (3, .int (zI hi)), (4, .int (zI (rc pr))), (5, .int (zI i))]) hx hb dX5_collectAlike_45 hl (by decide) rfl (fun ls hl => ?_)
              refine lv_aload_n hx hb dX5_collectAlike_47 rfl (lv_at hl 1 rfl) ?_
              refine lv_iload_n hx hb dX5_collectAlike_48 rfl (lv_at hl 2 rfl) ?_
              refine lv_iload_n hx hb dX5_collectAlike_49 rfl (lv_at hl 3 rfl) ?_
              refine z_iconst hF dX5_collectAlike_50 ?_
              refine z_iadd hF dX5_collectAlike_51 ?_
              refine lv_iload hx hb dX5_collectAlike_52 (lv_at hl 6 rfl) ?_
              refine lv_iload hx hb dX5_collectAlike_54 (lv_at hl 5 rfl) ?_
              refine lv_iload_n hx hb dX5_collectAlike_56 rfl (lv_at hl 3 rfl) ?_
              refine lv_iload hx hb dX5_collectAlike_57 (lv_at hl 6 rfl) ?_
              refine lv_iload_n hx hb dX5_collectAlike_59 rfl (lv_at hl 2 rfl) ?_
              refine cj_i (va_runSN (As := [.int (zI i), .int (zI d)]) (rest := [.int (zI k), .int (zI (rc pr)), .int (zI i), .int (zI (k + 1)), .int (zI d), .ref h0]) hF (c_X9_codeOf l G i d  (by omega) (by omega) H.size) ⟨va_cnB 2 hF.2.2.2.2 gX5_collectAlike_X9_codeOf_n84 rfl rfl rfl (hBd.2.1 (RX5, 84, yX9_codeOf, RX9) (by decide)) kt_RX9 (by decide +kernel) ⟨by dsimp only [rmL]; omega, by dsimp only [rmL]; omega⟩, ks_yX9_codeOf, trivial⟩ (z_preS hK hP hD hS hA hBd [] rfl rfl [.int (zI i), .int (zI d)]) rfl rfl hl.1 rfl (lv_room (Nat.le_of_ble_eq_true rfl)) dX5_collectAlike_60 ⟨Nat.le_of_ble_eq_true rfl, Nat.le_of_ble_eq_true rfl⟩) hP hD hS hA [] rfl (fun _ => Nat.le_of_ble_eq_true rfl) (fun r_33 u_32 H locs hw hP hD hS => ?_)
              have hP : va_P G.1 vwCl [(h0, .inr (5, [.ref tk, .ref r0, .ref w0, .ref c1, .ref i0, .ref p0, .int (zI sd), .int (zI cna), .int (zI lna), .int (zI gra)])), (tk, .inr (0, [.ref ta])), (ta, .inl (G.2.1.1, 52, .inl (aI (poR sd b0 (pr ++ [(i, d)]))))), (r0, .inl (G.2.1.1, 3060, .inl (aI fra))), (w0, .inl (G.2.1.1, 3060, .inl (aI fwa)))] H := hP
              have hD : va_D A [(h0, .inr (5, [.ref tk, .ref r0, .ref w0, .ref c1, .ref i0, .ref p0, .int (zI sd), .int (zI cna), .int (zI lna), .int (zI gra)])), (tk, .inr (0, [.ref ta])), (ta, .inl (G.2.1.1, 52, .inl (aI (poR sd b0 (pr ++ [(i, d)]))))), (r0, .inl (G.2.1.1, 3060, .inl (aI fra))), (w0, .inl (G.2.1.1, 3060, .inl (aI fwa)))] := hD
              obtain rfl := hw
              refine cj_i (va_runSN (As := [.int (zI (rc pr)), .int (zI k), .int (zI (8 * i + d))]) (rest := [.int (zI i), .int (zI (k + 1)), .int (zI d), .ref h0]) hF (c_X9_withCode l G (rc pr) k (8 * i + d)  (by omega) (by rw [← hpl, ← alike_pw (by omega)]; exact hz4) (by omega) H.size) ⟨va_cnB 3 hF.2.2.2.2 gX5_collectAlike_X9_withCode_n88 rfl rfl rfl (hBd.2.1 (RX5, 88, yX9_withCode, RX9) (by decide)) kt_RX9 (by decide +kernel) ⟨by dsimp only [rmL]; omega, by dsimp only [rmL]; omega⟩, ks_yX9_withCode, trivial⟩ (z_preS hK hP hD hS hA hBd [] rfl rfl [.int (zI (rc pr)), .int (zI k), .int (zI (8 * i + d))]) rfl rfl hl.1 rfl (lv_room (Nat.le_of_ble_eq_true rfl)) dX5_collectAlike_63 ⟨Nat.le_of_ble_eq_true rfl, Nat.le_of_ble_eq_true rfl⟩) hP hD hS hA [] rfl (fun _ => Nat.le_of_ble_eq_true rfl) (fun r_35 u_34 H locs hw hP hD hS => ?_)
              have hP : va_P G.1 vwCl [(h0, .inr (5, [.ref tk, .ref r0, .ref w0, .ref c1, .ref i0, .ref p0, .int (zI sd), .int (zI cna), .int (zI lna), .int (zI gra)])), (tk, .inr (0, [.ref ta])), (ta, .inl (G.2.1.1, 52, .inl (aI (poR sd b0 (pr ++ [(i, d)]))))), (r0, .inl (G.2.1.1, 3060, .inl (aI fra))), (w0, .inl (G.2.1.1, 3060, .inl (aI fwa)))] H := hP
              have hD : va_D A [(h0, .inr (5, [.ref tk, .ref r0, .ref w0, .ref c1, .ref i0, .ref p0, .int (zI sd), .int (zI cna), .int (zI lna), .int (zI gra)])), (tk, .inr (0, [.ref ta])), (ta, .inl (G.2.1.1, 52, .inl (aI (poR sd b0 (pr ++ [(i, d)]))))), (r0, .inl (G.2.1.1, 3060, .inl (aI fra))), (w0, .inl (G.2.1.1, 3060, .inl (aI fwa)))] := hD
              obtain rfl := hw
              refine z_tz (b := (rc (pr ++ [(i, d)]))) hzp ?_
              refine cj_v (va_runS (As := [.ref h0, .int (zI d), .int (zI (k + 1)), .int (zI i), .int (zI (rc (pr ++ [(i, d)])))]) (rest := []) hF (IHm h0 tk ta r0 w0 c1 i0 p0 b0 fra fwa sd cna lna gra n0 d (k + 1) i La (pr ++ [(i, d)]) hsd hn0 hvb hd6 (by omega) (by omega) (by rw [List.length_append]; simp; omega) hlg9 hRPa hlna (by rw [hpo]; omega) H.size) (va_cwS 5 hF.2.2.2.2 gX5_collectAlike_X5_collectAlike rfl rfl rfl (by decide +kernel) ⟨by dsimp only [rmL]; omega, by dsimp only [rmL]; omega⟩) (z_preS hK hP hD hS hA hBd [0, 1, 2, 3, 4] rfl rfl [.ref h0, .int (zI d), .int (zI (k + 1)), .int (zI i), .int (zI (rc (pr ++ [(i, d)])))]) rfl rfl hl.1 rfl (lv_room (Nat.le_of_ble_eq_true rfl)) dX5_collectAlike_66 ⟨Nat.le_of_ble_eq_true rfl, Nat.le_of_ble_eq_true rfl⟩) hP hD hS hA [0, 1, 2, 3, 4] rfl (fun _ => Nat.le_of_ble_eq_true rfl) (fun u_36 H locs hw hP hD hS => ?_)
              obtain ⟨fr2_38, fw2_39, cnt2_40, ln2_41, gr2_42⟩ := u_36
              dsimp only at hw hP hD
              have hP : va_P G.1 vwCl [(h0, .inr (5, [.ref tk, .ref r0, .ref w0, .ref c1, .ref i0, .ref p0, .int (zI sd), .int (zI cnt2_40), .int (zI ln2_41), .int (zI gr2_42)])), (tk, .inr (0, [.ref ta])), (ta, .inl (G.2.1.1, 52, .inl (aI (poR sd b0 (pr ++ [(i, d)]))))), (r0, .inl (G.2.1.1, 3060, .inl (aI fr2_38))), (w0, .inl (G.2.1.1, 3060, .inl (aI fw2_39)))] H := hP
              have hD : va_D A [(h0, .inr (5, [.ref tk, .ref r0, .ref w0, .ref c1, .ref i0, .ref p0, .int (zI sd), .int (zI cnt2_40), .int (zI ln2_41), .int (zI gr2_42)])), (tk, .inr (0, [.ref ta])), (ta, .inl (G.2.1.1, 52, .inl (aI (poR sd b0 (pr ++ [(i, d)]))))), (r0, .inl (G.2.1.1, 3060, .inl (aI fr2_38))), (w0, .inl (G.2.1.1, 3060, .inl (aI fw2_39)))] := hD
              obtain ⟨h_43, h_44⟩ := hw
              have hS1 := h_43
              have hS2 := h_44
              rw [hpo] at hS1 hS2
              have hq5 := hS1.1
              have hq6 := hRPa.1
              have hq7 := alike_ln (La := La) (pr := pr ++ [(i, d)]) (sd := sd) (d := d) (h := i) (b := stp (poR sd b0 pr) sd i d) (m := m0) (k := k + 1) hlna.2 (by rw [List.length_append]; simp; omega) (by omega)
              rw [← hS2] at hq7 hln9
              rw [show (poR sd b0 (pr ++ [(i, d)])) = stp (poR sd b0 pr) sd i d from hpo] at hP hD
              refine lv_aload_n hx hb dX5_collectAlike_69 rfl (lv_at hl 1 rfl) ?_
              refine z_get (k := 0) hF hK hP 0 rfl rfl i_wsX50 (by decide) kf_12 rfl dX5_collectAlike_70 ?_
              refine lv_aload_n hx hb dX5_collectAlike_73 rfl (lv_at hl 1 rfl) ?_
              refine z_get (k := 6) hF hK hP 0 rfl rfl i_wsX50 (by decide) kf_35 rfl dX5_collectAlike_74 ?_
              refine lv_iload hx hb dX5_collectAlike_77 (lv_at hl 6 rfl) ?_
              refine lv_iload_n hx hb dX5_collectAlike_79 rfl (lv_at hl 2 rfl) ?_
              refine lv_iload hx hb dX5_collectAlike_80 (lv_at hl 0 rfl) ?_
              refine cj_v (va_runV (As := [.int (zI sd), .int (zI i), .int (zI d), .int (zI (hwB (poR sd b0 pr) sd i d))]) (rest := []) hF (c_X0_stepBack l G tk ta (poR sd b0 pr) sd i d  (by omega) (by omega) (by omega) H.size) (cwV 4 hF.2.2.2.2 gX5_collectAlike_X0_stepBack rfl rfl rfl (by decide +kernel) ⟨by dsimp only [rmL]; omega, by dsimp only [rmL]; omega⟩) (z_preV hK hP hD hS hA hBd [1, 2] rfl rfl rfl rfl [.int (zI sd), .int (zI i), .int (zI d), .int (zI (hwB (poR sd b0 pr) sd i d))]) rfl rfl hl.1 rfl (lv_room (Nat.le_of_ble_eq_true rfl)) dX5_collectAlike_82 ⟨Nat.le_of_ble_eq_true rfl, Nat.le_of_ble_eq_true rfl⟩) hP hD hS hA [1, 2] rfl (fun _ => Nat.le_of_ble_eq_true rfl) (fun u_45 H locs hw hP hD hS => ?_)
              have hP : va_P G.1 vwCl [(h0, .inr (5, [.ref tk, .ref r0, .ref w0, .ref c1, .ref i0, .ref p0, .int (zI sd), .int (zI cnt2_40), .int (zI ln2_41), .int (zI gr2_42)])), (tk, .inr (0, [.ref ta])), (ta, .inl (G.2.1.1, 52, .inl (aI (poR sd b0 pr)))), (r0, .inl (G.2.1.1, 3060, .inl (aI fr2_38))), (w0, .inl (G.2.1.1, 3060, .inl (aI fw2_39)))] H := hP
              have hD : va_D A [(h0, .inr (5, [.ref tk, .ref r0, .ref w0, .ref c1, .ref i0, .ref p0, .int (zI sd), .int (zI cnt2_40), .int (zI ln2_41), .int (zI gr2_42)])), (tk, .inr (0, [.ref ta])), (ta, .inl (G.2.1.1, 52, .inl (aI (poR sd b0 pr)))), (r0, .inl (G.2.1.1, 3060, .inl (aI fr2_38))), (w0, .inl (G.2.1.1, 3060, .inl (aI fw2_39)))] := hD
              obtain - := hw
              refine z_iinc (lv' := [(5, .int (zI (i + (-1)))), (6, .int (zI (hwB (poR sd b0 pr) sd i d))), (0, .ref h0), (1, .int (zI d)), (2, .int (zI k)), (3, .int (zI hi)), (4, .int (zI (rc pr)))]) hF dX5_collectAlike_85 hl (k := 6) rfl (by decide) rfl (fun ls hl => ?_)
              refine z_goto (tgt := 3) hF dX5_collectAlike_88 (by decide) ?_
              exact ih3 (i + (-1)) fr2_38 fw2_39 cnt2_40 ln2_41 gr2_42 ((adLs (lna, La) ((lvS sd d m0 (stp (poR sd b0 pr) sd i d) i).map ((pr ++ [(i, d)]) ++ ·))).2) (by omega) (by omega) hS1 (fun h9 => by omega) (by rw [hS2, ← hst, hex, adLs_app]) (by omega) (by omega) H locs ls hP hD hS (lv_sub hl [2, 3, 4, 5, 6, 0] rfl)
          · skip
            have hnc : ¬ canP (poR sd b0 pr) sd i d := fun h9 => h_28 ⟨hd6.1, hd6.2, h9⟩
            refine z_if_eq (tgt := 85) hF dX5_collectAlike_28 (by decide) (by decide) (fun c_47 => ?_) (fun c_47 => ?_)
            · have hc_28 := c_47
              refine z_iinc (lv' := [(5, .int (zI (i + (-1)))), (0, .ref h0), (1, .int (zI d)), (2, .int (zI k)), (3, .int (zI hi)), (4, .int (zI (rc pr)))]) hF dX5_collectAlike_85 hl (k := 5) rfl (by decide) rfl (fun ls hl => ?_)
              refine z_goto (tgt := 3) hF dX5_collectAlike_88 (by decide) ?_
              exact ih3 (i + (-1)) fra fwa cna lna gra La (by omega) (by omega) hRPa hn00 (by rw [← hst, exS_f (by omega) hnc]) (by rw [exS_f (by omega) hnc] at hca; exact hca) (by omega) H locs ls hP hD hS (lv_sub hl [1, 2, 3, 4, 5, 0] rfl)
            · exact absurd c_47 (by decide)
  exact L3 _ hi fr fw cnt ln gr L (Nat.lt_succ_self _) (by omega) hRP (fun _ => ⟨rfl, rfl⟩) rfl (fun h9 => alike_cap hcap h9) hln H locs ls hP hD hS (lv_sub hl [1, 2, 3, 4, 5, 0] rfl)
/-- dice alike, the whole tree -/
theorem c_X5_collectAlike (l : Launch) (G : wG) : ∀ n : Nat, CAS l G n
  | 0 => c_X5_collectAlike_s l G 0 (fun m0 h9 => absurd h9 (by omega))
  | n + 1 => c_X5_collectAlike_s l G (n + 1) (fun m0 h9 => by
      have e : m0 = n := by omega
      subst e
      exact c_X5_collectAlike l G m0)
set_option maxHeartbeats 4000000 in
set_option maxRecDepth 100000 in
theorem c_X5_collect (l : Launch) (G : wG) (h0 tk ta r0 w0 c1 i0 p0 g0 g1 : Nat) (b b0 fr fw fc fh : Int → Int) (sd0 sd cnt ln gr n0 d1 d2 : Int)  (hsd : 0 ≤ sd ∧ sd ≤ 1) (hn0 : n0 ≤ 15) (hvb : VB n0 b0) (hd1 : 1 ≤ d1 ∧ d1 ≤ 6) (hd2 : 1 ≤ d2 ∧ d2 ≤ 6) (hfw : ∀ k, -100000 ≤ fw k ∧ fw k ≤ 100000) (hfc : ∀ k, -2000000000000000000 ≤ fc k ∧ fc k ≤ 2000000000000000000) (hfh : ∀ k, 0 ≤ fh k ∧ fh k ≤ 1073741824) (hcap1 : ((lvS sd d1 4 b0 25).length : Int) ≤ 3060) (hcap2 : cpPrs sd b0 d1 d2 (mvZ b0 sd d1 25) + cpPrs sd b0 d2 d1 (mvZ b0 sd d2 25) ≤ 450) (z9 : Nat) : Met l yX5_collect wsX5_collect (rmL 20 0 0) (wPc G [(h0, .inr (5, [.ref tk, .ref r0, .ref w0, .ref c1, .ref i0, .ref p0, .int (zI sd0), .int (zI cnt), .int (zI ln), .int (zI gr)])), (tk, .inr (0, [.ref ta])), (ta, .inl (G.2.1.1, 52, .inl (aI b))), (r0, .inl (G.2.1.1, 3060, .inl (aI fr))), (w0, .inl (G.2.1.1, 3060, .inl (aI fw))), (c1, .inl (G.2.1.2.1, 450, .inr (.inl (aL fc)))), (i0, .inl (G.2.1.1, 450, .inl (aI fh))), (p0, .inl (G.2.1.2.1, 26, .inr (.inl (aL p5)))), (g0, .inr (0, [.ref g1])), (g1, .inl (G.2.1.1, 52, .inl (aI b0)))] z9 [.ref h0, .ref g0, .int (zI sd), .int (zI d1), .int (zI d2)]) (wQv G (fun (u : ((Int → Int) × (Int → Int) × (Int → Int) × (Int → Int) × Int × Int × Int)) => RepP b0 sd (plc sd b0 d1 d2).2 u.1 u.2.1 u.2.2.2.2.1 u.2.2.2.2.2.2 ∧ u.2.2.2.2.2.1 = (plc sd b0 d1 d2).1 ∧ (∀ k, -2000000000000000000 ≤ u.2.2.1 k ∧ u.2.2.1 k ≤ 2000000000000000000) ∧ (∀ k, 0 ≤ u.2.2.2.1 k ∧ u.2.2.2.1 k ≤ 1073741824)) (fun (u : ((Int → Int) × (Int → Int) × (Int → Int) × (Int → Int) × Int × Int × Int)) => [(h0, .inr (5, [.ref tk, .ref r0, .ref w0, .ref c1, .ref i0, .ref p0, .int (zI sd), .int (zI u.2.2.2.2.1), .int (zI u.2.2.2.2.2.1), .int (zI u.2.2.2.2.2.2)])), (tk, .inr (0, [.ref ta])), (ta, .inl (G.2.1.1, 52, .inl (aI b0))), (r0, .inl (G.2.1.1, 3060, .inl (aI u.1))), (w0, .inl (G.2.1.1, 3060, .inl (aI u.2.1))), (c1, .inl (G.2.1.2.1, 450, .inr (.inl (aL u.2.2.1)))), (i0, .inl (G.2.1.1, 450, .inl (aI u.2.2.2.1))), (p0, .inl (G.2.1.2.1, 26, .inr (.inl (aL p5)))), (g0, .inr (0, [.ref g1])), (g1, .inl (G.2.1.1, 52, .inl (aI b0)))]) (va_A [(h0, .inr (5, [.ref tk, .ref r0, .ref w0, .ref c1, .ref i0, .ref p0, .int (zI sd0), .int (zI cnt), .int (zI ln), .int (zI gr)])), (tk, .inr (0, [.ref ta])), (ta, .inl (G.2.1.1, 52, .inl (aI b))), (r0, .inl (G.2.1.1, 3060, .inl (aI fr))), (w0, .inl (G.2.1.1, 3060, .inl (aI fw))), (c1, .inl (G.2.1.2.1, 450, .inr (.inl (aL fc)))), (i0, .inl (G.2.1.1, 450, .inl (aI fh))), (p0, .inl (G.2.1.2.1, 26, .inr (.inl (aL p5)))), (g0, .inr (0, [.ref g1])), (g1, .inl (G.2.1.1, 52, .inl (aI b0)))] z9)) 0 0 (va_A [(h0, .inr (5, [.ref tk, .ref r0, .ref w0, .ref c1, .ref i0, .ref p0, .int (zI sd0), .int (zI cnt), .int (zI ln), .int (zI gr)])), (tk, .inr (0, [.ref ta])), (ta, .inl (G.2.1.1, 52, .inl (aI b))), (r0, .inl (G.2.1.1, 3060, .inl (aI fr))), (w0, .inl (G.2.1.1, 3060, .inl (aI fw))), (c1, .inl (G.2.1.2.1, 450, .inr (.inl (aL fc)))), (i0, .inl (G.2.1.1, 450, .inl (aI fh))), (p0, .inl (G.2.1.2.1, 26, .inr (.inl (aL p5)))), (g0, .inr (0, [.ref g1])), (g1, .inl (G.2.1.1, 52, .inl (aI b0)))] z9) := by
  refine z_ofW (Qc := fun A => wQv G (fun (u : ((Int → Int) × (Int → Int) × (Int → Int) × (Int → Int) × Int × Int × Int)) => RepP b0 sd (plc sd b0 d1 d2).2 u.1 u.2.1 u.2.2.2.2.1 u.2.2.2.2.2.2 ∧ u.2.2.2.2.2.1 = (plc sd b0 d1 d2).1 ∧ (∀ k, -2000000000000000000 ≤ u.2.2.1 k ∧ u.2.2.1 k ≤ 2000000000000000000) ∧ (∀ k, 0 ≤ u.2.2.2.1 k ∧ u.2.2.2.1 k ≤ 1073741824)) (fun (u : ((Int → Int) × (Int → Int) × (Int → Int) × (Int → Int) × Int × Int × Int)) => [(h0, .inr (5, [.ref tk, .ref r0, .ref w0, .ref c1, .ref i0, .ref p0, .int (zI sd), .int (zI u.2.2.2.2.1), .int (zI u.2.2.2.2.2.1), .int (zI u.2.2.2.2.2.2)])), (tk, .inr (0, [.ref ta])), (ta, .inl (G.2.1.1, 52, .inl (aI b0))), (r0, .inl (G.2.1.1, 3060, .inl (aI u.1))), (w0, .inl (G.2.1.1, 3060, .inl (aI u.2.1))), (c1, .inl (G.2.1.2.1, 450, .inr (.inl (aL u.2.2.1)))), (i0, .inl (G.2.1.1, 450, .inl (aI u.2.2.2.1))), (p0, .inl (G.2.1.2.1, 26, .inr (.inl (aL p5)))), (g0, .inr (0, [.ref g1])), (g1, .inl (G.2.1.1, 52, .inl (aI b0)))]) A) l G [(h0, .inr (5, [.ref tk, .ref r0, .ref w0, .ref c1, .ref i0, .ref p0, .int (zI sd0), .int (zI cnt), .int (zI ln), .int (zI gr)])), (tk, .inr (0, [.ref ta])), (ta, .inl (G.2.1.1, 52, .inl (aI b))), (r0, .inl (G.2.1.1, 3060, .inl (aI fr))), (w0, .inl (G.2.1.1, 3060, .inl (aI fw))), (c1, .inl (G.2.1.2.1, 450, .inr (.inl (aL fc)))), (i0, .inl (G.2.1.1, 450, .inl (aI fh))), (p0, .inl (G.2.1.2.1, 26, .inr (.inl (aL p5)))), (g0, .inr (0, [.ref g1])), (g1, .inl (G.2.1.1, 52, .inl (aI b0)))] [.ref h0, .ref g0, .int (zI sd), .int (zI d1), .int (zI d2)] (by decide) rfl rfl ?_ z9
  intro p e s m args below meth c A ls H locs hF hr hlocks hinit hP hK hD hA hS hBd hl
  have hF : wFx p m c cX5_collect 5 s args wsX5_collect RX5 := hF
  have hl : lv_has ls 5 [(0, .ref h0), (1, .ref g0), (2, .int (zI sd)), (3, .int (zI d1)), (4, .int (zI d2))] := hl
  have hx := hF.1
  have hb := hF.2.1
  obtain ⟨Q0, hQ⟩ : ∃ q, q = (MQ below (wQv G (fun (u : ((Int → Int) × (Int → Int) × (Int → Int) × (Int → Int) × Int × Int × Int)) => RepP b0 sd (plc sd b0 d1 d2).2 u.1 u.2.1 u.2.2.2.2.1 u.2.2.2.2.2.2 ∧ u.2.2.2.2.2.1 = (plc sd b0 d1 d2).1 ∧ (∀ k, -2000000000000000000 ≤ u.2.2.1 k ∧ u.2.2.1 k ≤ 2000000000000000000) ∧ (∀ k, 0 ≤ u.2.2.2.1 k ∧ u.2.2.2.1 k ≤ 1073741824)) (fun (u : ((Int → Int) × (Int → Int) × (Int → Int) × (Int → Int) × Int × Int × Int)) => [(h0, .inr (5, [.ref tk, .ref r0, .ref w0, .ref c1, .ref i0, .ref p0, .int (zI sd), .int (zI u.2.2.2.2.1), .int (zI u.2.2.2.2.2.1), .int (zI u.2.2.2.2.2.2)])), (tk, .inr (0, [.ref ta])), (ta, .inl (G.2.1.1, 52, .inl (aI b0))), (r0, .inl (G.2.1.1, 3060, .inl (aI u.1))), (w0, .inl (G.2.1.1, 3060, .inl (aI u.2.1))), (c1, .inl (G.2.1.2.1, 450, .inr (.inl (aL u.2.2.1)))), (i0, .inl (G.2.1.1, 450, .inl (aI u.2.2.2.1))), (p0, .inl (G.2.1.2.1, 26, .inr (.inl (aL p5)))), (g0, .inr (0, [.ref g1])), (g1, .inl (G.2.1.1, 52, .inl (aI b0)))]) A) args s 0 0 A) := ⟨_, rfl⟩
  rw [← hQ]
  have i_wsX50 : ∀ w ∈ wsX50, w ∈ wsX5_collect := (fun _ h => (List.mem_cons_of_mem _ (List.mem_append_left _ (List.mem_append_right _ h))))
  have kf_12 : (Cond.fieldLink RX5 12 "Gammonry$Plays" "track" "LGammonry$Board;").before args s = true := hF.2.2.2.2 _ (List.mem_cons_of_mem _ (List.mem_append_left _ (List.mem_append_left _ (List.mem_append_left _ (List.mem_of_getElem? (i := 0) rfl)))))
  have kf_35 : (Cond.fieldLink RX5 35 "Gammonry$Plays" "side" "I").before args s = true := hF.2.2.2.2 _ (List.mem_cons_of_mem _ (List.mem_append_left _ (List.mem_append_left _ (List.mem_append_left _ (List.mem_of_getElem? (i := 1) rfl)))))
  refine lv_aload_n hx hb dX5_collect_0 rfl (lv_at hl 0 rfl) ?_
  refine z_get (k := 0) hF hK hP 0 rfl rfl i_wsX50 (by decide) kf_12 rfl dX5_collect_1 ?_
  refine lv_aload_n hx hb dX5_collect_4 rfl (lv_at hl 1 rfl) ?_
  refine cj_v (va_runV (As := [.ref g0]) (rest := []) hF (c_X0_become l G tk ta g0 g1 b b0   H.size) (cwV 1 hF.2.2.2.2 gX5_collect_X0_become rfl rfl rfl (by decide +kernel) ⟨Nat.le_of_ble_eq_true rfl, Nat.le_of_ble_eq_true rfl⟩) (z_preV hK hP hD hS hA hBd [1, 2, 8, 9] rfl rfl rfl rfl [.ref g0]) rfl rfl hl.1 rfl (lv_room (Nat.le_of_ble_eq_true rfl)) dX5_collect_5 ⟨Nat.le_of_ble_eq_true rfl, Nat.le_of_ble_eq_true rfl⟩) hP hD hS hA [1, 2, 8, 9] rfl (fun _ => Nat.le_of_ble_eq_true rfl) (fun u_1 H locs hw hP hD hS => ?_)
  have hP : va_P G.1 vwCl [(h0, .inr (5, [.ref tk, .ref r0, .ref w0, .ref c1, .ref i0, .ref p0, .int (zI sd0), .int (zI cnt), .int (zI ln), .int (zI gr)])), (tk, .inr (0, [.ref ta])), (ta, .inl (G.2.1.1, 52, .inl (aI b0))), (r0, .inl (G.2.1.1, 3060, .inl (aI fr))), (w0, .inl (G.2.1.1, 3060, .inl (aI fw))), (c1, .inl (G.2.1.2.1, 450, .inr (.inl (aL fc)))), (i0, .inl (G.2.1.1, 450, .inl (aI fh))), (p0, .inl (G.2.1.2.1, 26, .inr (.inl (aL p5)))), (g0, .inr (0, [.ref g1])), (g1, .inl (G.2.1.1, 52, .inl (aI b0)))] H := hP
  have hD : va_D A [(h0, .inr (5, [.ref tk, .ref r0, .ref w0, .ref c1, .ref i0, .ref p0, .int (zI sd0), .int (zI cnt), .int (zI ln), .int (zI gr)])), (tk, .inr (0, [.ref ta])), (ta, .inl (G.2.1.1, 52, .inl (aI b0))), (r0, .inl (G.2.1.1, 3060, .inl (aI fr))), (w0, .inl (G.2.1.1, 3060, .inl (aI fw))), (c1, .inl (G.2.1.2.1, 450, .inr (.inl (aL fc)))), (i0, .inl (G.2.1.1, 450, .inl (aI fh))), (p0, .inl (G.2.1.2.1, 26, .inr (.inl (aL p5)))), (g0, .inr (0, [.ref g1])), (g1, .inl (G.2.1.1, 52, .inl (aI b0)))] := hD
  obtain - := hw
  refine lv_aload_n hx hb dX5_collect_8 rfl (lv_at hl 0 rfl) ?_
  refine lv_iload_n hx hb dX5_collect_9 rfl (lv_at hl 2 rfl) ?_
  refine z_put (k := 6) hF hK hP hD hS 0 rfl rfl i_wsX50 (by decide) tyX5 tyX5_ok nmX5 rfl kf_35 rfl rfl (Nat.le_of_ble_eq_true rfl) dX5_collect_10 (fun H locs hP hD hS => ?_)
  have hP : va_P G.1 vwCl [(h0, .inr (5, [.ref tk, .ref r0, .ref w0, .ref c1, .ref i0, .ref p0, .int (zI sd), .int (zI cnt), .int (zI ln), .int (zI gr)])), (tk, .inr (0, [.ref ta])), (ta, .inl (G.2.1.1, 52, .inl (aI b0))), (r0, .inl (G.2.1.1, 3060, .inl (aI fr))), (w0, .inl (G.2.1.1, 3060, .inl (aI fw))), (c1, .inl (G.2.1.2.1, 450, .inr (.inl (aL fc)))), (i0, .inl (G.2.1.1, 450, .inl (aI fh))), (p0, .inl (G.2.1.2.1, 26, .inr (.inl (aL p5)))), (g0, .inr (0, [.ref g1])), (g1, .inl (G.2.1.1, 52, .inl (aI b0)))] H := hP
  have hD : va_D A [(h0, .inr (5, [.ref tk, .ref r0, .ref w0, .ref c1, .ref i0, .ref p0, .int (zI sd), .int (zI cnt), .int (zI ln), .int (zI gr)])), (tk, .inr (0, [.ref ta])), (ta, .inl (G.2.1.1, 52, .inl (aI b0))), (r0, .inl (G.2.1.1, 3060, .inl (aI fr))), (w0, .inl (G.2.1.1, 3060, .inl (aI fw))), (c1, .inl (G.2.1.2.1, 450, .inr (.inl (aL fc)))), (i0, .inl (G.2.1.1, 450, .inl (aI fh))), (p0, .inl (G.2.1.2.1, 26, .inr (.inl (aL p5)))), (g0, .inr (0, [.ref g1])), (g1, .inl (G.2.1.1, 52, .inl (aI b0)))] := hD
  refine lv_aload_n hx hb dX5_collect_13 rfl (lv_at hl 0 rfl) ?_
  refine z_iconst hF dX5_collect_14 ?_
  refine cj_v (va_runV (As := [.int (zI 0)]) (rest := []) hF (c_X5_clear l G h0 tk r0 w0 c1 i0 p0 sd cnt ln gr 0   H.size) (cwV 1 hF.2.2.2.2 gX5_collect_X5_clear rfl rfl rfl (by decide +kernel) ⟨Nat.le_of_ble_eq_true rfl, Nat.le_of_ble_eq_true rfl⟩) (z_preV hK hP hD hS hA hBd [0] rfl rfl rfl rfl [.int (zI 0)]) rfl rfl hl.1 rfl (lv_room (Nat.le_of_ble_eq_true rfl)) dX5_collect_15 ⟨Nat.le_of_ble_eq_true rfl, Nat.le_of_ble_eq_true rfl⟩) hP hD hS hA [0] rfl (fun _ => Nat.le_of_ble_eq_true rfl) (fun u_3 H locs hw hP hD hS => ?_)
  have hP : va_P G.1 vwCl [(h0, .inr (5, [.ref tk, .ref r0, .ref w0, .ref c1, .ref i0, .ref p0, .int (zI sd), .int (zI 0), .int (zI 0), .int (zI 0)])), (tk, .inr (0, [.ref ta])), (ta, .inl (G.2.1.1, 52, .inl (aI b0))), (r0, .inl (G.2.1.1, 3060, .inl (aI fr))), (w0, .inl (G.2.1.1, 3060, .inl (aI fw))), (c1, .inl (G.2.1.2.1, 450, .inr (.inl (aL fc)))), (i0, .inl (G.2.1.1, 450, .inl (aI fh))), (p0, .inl (G.2.1.2.1, 26, .inr (.inl (aL p5)))), (g0, .inr (0, [.ref g1])), (g1, .inl (G.2.1.1, 52, .inl (aI b0)))] H := hP
  have hD : va_D A [(h0, .inr (5, [.ref tk, .ref r0, .ref w0, .ref c1, .ref i0, .ref p0, .int (zI sd), .int (zI 0), .int (zI 0), .int (zI 0)])), (tk, .inr (0, [.ref ta])), (ta, .inl (G.2.1.1, 52, .inl (aI b0))), (r0, .inl (G.2.1.1, 3060, .inl (aI fr))), (w0, .inl (G.2.1.1, 3060, .inl (aI fw))), (c1, .inl (G.2.1.2.1, 450, .inr (.inl (aL fc)))), (i0, .inl (G.2.1.1, 450, .inl (aI fh))), (p0, .inl (G.2.1.2.1, 26, .inr (.inl (aL p5)))), (g0, .inr (0, [.ref g1])), (g1, .inl (G.2.1.1, 52, .inl (aI b0)))] := hD
  obtain - := hw
  refine lv_iload_n hx hb dX5_collect_18 rfl (lv_at hl 3 rfl) ?_
  refine lv_iload hx hb dX5_collect_19 (lv_at hl 4 rfl) ?_
  refine z_icmp_ne (tgt := 36) hF dX5_collect_21 (by decide) (by omega) (by omega) (fun c_5 => ?_) (fun c_5 => ?_)
  · have hc_21 := c_5
    refine lv_aload_n hx hb dX5_collect_36 rfl (lv_at hl 0 rfl) ?_
    refine lv_iload_n hx hb dX5_collect_37 rfl (lv_at hl 3 rfl) ?_
    refine lv_iload hx hb dX5_collect_38 (lv_at hl 4 rfl) ?_
    refine cj_v (va_runV (As := [.int (zI d1), .int (zI d2)]) (rest := []) hF (c_X5_collectUnlike l G h0 tk ta r0 w0 c1 i0 p0 b0 fr fw fc fh sd 0 0 0 n0 d1 d2  (by omega) hn0 hvb hd1 hd2 (RepP_0 hfw) hfc hfh hcap2 H.size) (cwV 2 hF.2.2.2.2 gX5_collect_X5_collectUnlike rfl rfl rfl (by decide +kernel) ⟨Nat.le_of_ble_eq_true rfl, Nat.le_of_ble_eq_true rfl⟩) (z_preV hK hP hD hS hA hBd [0, 1, 2, 3, 4, 5, 6, 7] rfl rfl rfl rfl [.int (zI d1), .int (zI d2)]) rfl rfl hl.1 rfl (lv_room (Nat.le_of_ble_eq_true rfl)) dX5_collect_40 ⟨Nat.le_of_ble_eq_true rfl, Nat.le_of_ble_eq_true rfl⟩) hP hD hS hA [0, 1, 2, 3, 4, 5, 6, 7] rfl (fun _ => Nat.le_of_ble_eq_true rfl) (fun u_6 H locs hw hP hD hS => ?_)
    obtain ⟨fr2_8, fw2_9, fc2_10, fh2_11, cnt2_12, ln2_13, gr2_14⟩ := u_6
    dsimp only at hw hP hD
    have hP : va_P G.1 vwCl [(h0, .inr (5, [.ref tk, .ref r0, .ref w0, .ref c1, .ref i0, .ref p0, .int (zI sd), .int (zI cnt2_12), .int (zI ln2_13), .int (zI gr2_14)])), (tk, .inr (0, [.ref ta])), (ta, .inl (G.2.1.1, 52, .inl (aI b0))), (r0, .inl (G.2.1.1, 3060, .inl (aI fr2_8))), (w0, .inl (G.2.1.1, 3060, .inl (aI fw2_9))), (c1, .inl (G.2.1.2.1, 450, .inr (.inl (aL fc2_10)))), (i0, .inl (G.2.1.1, 450, .inl (aI fh2_11))), (p0, .inl (G.2.1.2.1, 26, .inr (.inl (aL p5)))), (g0, .inr (0, [.ref g1])), (g1, .inl (G.2.1.1, 52, .inl (aI b0)))] H := hP
    have hD : va_D A [(h0, .inr (5, [.ref tk, .ref r0, .ref w0, .ref c1, .ref i0, .ref p0, .int (zI sd), .int (zI cnt2_12), .int (zI ln2_13), .int (zI gr2_14)])), (tk, .inr (0, [.ref ta])), (ta, .inl (G.2.1.1, 52, .inl (aI b0))), (r0, .inl (G.2.1.1, 3060, .inl (aI fr2_8))), (w0, .inl (G.2.1.1, 3060, .inl (aI fw2_9))), (c1, .inl (G.2.1.2.1, 450, .inr (.inl (aL fc2_10)))), (i0, .inl (G.2.1.1, 450, .inl (aI fh2_11))), (p0, .inl (G.2.1.2.1, 26, .inr (.inl (aL p5)))), (g0, .inr (0, [.ref g1])), (g1, .inl (G.2.1.1, 52, .inl (aI b0)))] := hD
    obtain ⟨h_15, h_16, h_17, h_18⟩ := hw
    have hS1 := h_15
    have hS2 := h_16
    have hS3 := h_17
    have hS4 := h_18
    rw [hQ]
    exact z_vret hF hr hlocks (fr2_8, fw2_9, fc2_10, fh2_11, cnt2_12, ln2_13, gr2_14) (by dsimp only; rw [plc_u (by omega)]; exact ⟨hS1, hS2, hS3, hS4⟩) hP hK hD hS dX5_collect_43
  · have hc_21 := c_5
    refine lv_aload_n hx hb dX5_collect_24 rfl (lv_at hl 0 rfl) ?_
    refine lv_iload_n hx hb dX5_collect_25 rfl (lv_at hl 3 rfl) ?_
    refine z_iconst hF dX5_collect_26 ?_
    refine z_bipush hF dX5_collect_27 (by decide) ?_
    refine z_iconst hF dX5_collect_29 ?_
    refine cj_v (va_runS (As := [.ref h0, .int (zI d1), .int (zI 0), .int (zI 25), .int (zI 0)]) (rest := []) hF (c_X5_collectAlike l G 4 h0 tk ta r0 w0 c1 i0 p0 b0 fr fw sd 0 0 0 n0 d1 0 25 ([]) ([]) hsd hn0 hvb hd1 (by omega) (by omega) rfl trivial (RepP_0 hfw) (by omega) (by show 0 + ((lvS sd d1 4 b0 25).length : Int) ≤ 3060; omega) H.size) (va_cwS 5 hF.2.2.2.2 gX5_collect_X5_collectAlike rfl rfl rfl (by decide +kernel) ⟨Nat.le_of_ble_eq_true rfl, Nat.le_of_ble_eq_true rfl⟩) (z_preS hK hP hD hS hA hBd [0, 1, 2, 3, 4] rfl rfl [.ref h0, .int (zI d1), .int (zI 0), .int (zI 25), .int (zI 0)]) rfl rfl hl.1 rfl (lv_room (Nat.le_of_ble_eq_true rfl)) dX5_collect_30 ⟨Nat.le_of_ble_eq_true rfl, Nat.le_of_ble_eq_true rfl⟩) hP hD hS hA [0, 1, 2, 3, 4] rfl (fun _ => Nat.le_of_ble_eq_true rfl) (fun u_19 H locs hw hP hD hS => ?_)
    obtain ⟨fr2_21, fw2_22, cnt2_23, ln2_24, gr2_25⟩ := u_19
    dsimp only at hw hP hD
    have hP : va_P G.1 vwCl [(h0, .inr (5, [.ref tk, .ref r0, .ref w0, .ref c1, .ref i0, .ref p0, .int (zI sd), .int (zI cnt2_23), .int (zI ln2_24), .int (zI gr2_25)])), (tk, .inr (0, [.ref ta])), (ta, .inl (G.2.1.1, 52, .inl (aI (poR sd b0 ([]))))), (r0, .inl (G.2.1.1, 3060, .inl (aI fr2_21))), (w0, .inl (G.2.1.1, 3060, .inl (aI fw2_22))), (c1, .inl (G.2.1.2.1, 450, .inr (.inl (aL fc)))), (i0, .inl (G.2.1.1, 450, .inl (aI fh))), (p0, .inl (G.2.1.2.1, 26, .inr (.inl (aL p5)))), (g0, .inr (0, [.ref g1])), (g1, .inl (G.2.1.1, 52, .inl (aI b0)))] H := hP
    have hD : va_D A [(h0, .inr (5, [.ref tk, .ref r0, .ref w0, .ref c1, .ref i0, .ref p0, .int (zI sd), .int (zI cnt2_23), .int (zI ln2_24), .int (zI gr2_25)])), (tk, .inr (0, [.ref ta])), (ta, .inl (G.2.1.1, 52, .inl (aI (poR sd b0 ([]))))), (r0, .inl (G.2.1.1, 3060, .inl (aI fr2_21))), (w0, .inl (G.2.1.1, 3060, .inl (aI fw2_22))), (c1, .inl (G.2.1.2.1, 450, .inr (.inl (aL fc)))), (i0, .inl (G.2.1.1, 450, .inl (aI fh))), (p0, .inl (G.2.1.2.1, 26, .inr (.inl (aL p5)))), (g0, .inr (0, [.ref g1])), (g1, .inl (G.2.1.1, 52, .inl (aI b0)))] := hD
    obtain ⟨h_26, h_27⟩ := hw
    have hS1 := h_26
    have hS2 := h_27
    rw [plc_m] at hS1 hS2
    rw [show (poR sd b0 ([])) = b0 from rfl] at hP hD
    refine z_goto (tgt := 43) hF dX5_collect_33 (by decide) ?_
    rw [hQ]
    exact z_vret hF hr hlocks (fr2_21, fw2_22, fc, fh, cnt2_23, ln2_24, gr2_25) (by dsimp only; rw [plc_a (by omega)]; exact ⟨hS1, hS2, hfc, hfh⟩) hP hK hD hS dX5_collect_43
set_option maxHeartbeats 4000000 in
set_option maxRecDepth 100000 in
theorem c_X5_init (l : Launch) (G : wG) (h0 : Nat)  (z9 : Nat) : Met l yX5_init wsX5_init (rmL 3 7 7099) (wPc G [(h0, .inr (5, [.null, .null, .null, .null, .null, .null, .int (zI 0), .int (zI 0), .int (zI 0), .int (zI 0)]))] z9 [.ref h0]) (wQv G (fun (u : (Nat × Nat × Nat × Nat × Nat × Nat × Nat)) => True) (fun (u : (Nat × Nat × Nat × Nat × Nat × Nat × Nat)) => [(h0, .inr (5, [.ref u.1, .ref u.2.2.1, .ref u.2.2.2.1, .ref u.2.2.2.2.1, .ref u.2.2.2.2.2.1, .ref u.2.2.2.2.2.2, .int (zI 0), .int (zI 0), .int (zI 0), .int (zI 0)])), (u.1, .inr (0, [.ref u.2.1])), (u.2.1, .inl (G.2.1.1, 52, .inl (aI (fun _ => 0)))), (u.2.2.1, .inl (G.2.1.1, 3060, .inl (aI (fun _ => 0)))), (u.2.2.2.1, .inl (G.2.1.1, 3060, .inl (aI (fun _ => 0)))), (u.2.2.2.2.1, .inl (G.2.1.2.1, 450, .inr (.inl (aL (fun _ => 0))))), (u.2.2.2.2.2.1, .inl (G.2.1.1, 450, .inl (aI (fun _ => 0)))), (u.2.2.2.2.2.2, .inl (G.2.1.2.1, 26, .inr (.inl (aL p5))))]) (va_A [(h0, .inr (5, [.null, .null, .null, .null, .null, .null, .int (zI 0), .int (zI 0), .int (zI 0), .int (zI 0)]))] z9)) 7 7099 (va_A [(h0, .inr (5, [.null, .null, .null, .null, .null, .null, .int (zI 0), .int (zI 0), .int (zI 0), .int (zI 0)]))] z9) := by
  refine z_ofW (Qc := fun A => wQv G (fun (u : (Nat × Nat × Nat × Nat × Nat × Nat × Nat)) => True) (fun (u : (Nat × Nat × Nat × Nat × Nat × Nat × Nat)) => [(h0, .inr (5, [.ref u.1, .ref u.2.2.1, .ref u.2.2.2.1, .ref u.2.2.2.2.1, .ref u.2.2.2.2.2.1, .ref u.2.2.2.2.2.2, .int (zI 0), .int (zI 0), .int (zI 0), .int (zI 0)])), (u.1, .inr (0, [.ref u.2.1])), (u.2.1, .inl (G.2.1.1, 52, .inl (aI (fun _ => 0)))), (u.2.2.1, .inl (G.2.1.1, 3060, .inl (aI (fun _ => 0)))), (u.2.2.2.1, .inl (G.2.1.1, 3060, .inl (aI (fun _ => 0)))), (u.2.2.2.2.1, .inl (G.2.1.2.1, 450, .inr (.inl (aL (fun _ => 0))))), (u.2.2.2.2.2.1, .inl (G.2.1.1, 450, .inl (aI (fun _ => 0)))), (u.2.2.2.2.2.2, .inl (G.2.1.2.1, 26, .inr (.inl (aL p5))))]) A) l G [(h0, .inr (5, [.null, .null, .null, .null, .null, .null, .int (zI 0), .int (zI 0), .int (zI 0), .int (zI 0)]))] [.ref h0] (by decide) rfl rfl ?_ z9
  intro p e s m args below meth c A ls H locs hF hr hlocks hinit hP hK hD hA hS hBd hl
  have hF : wFx p m c cX5_init 4 s args wsX5_init RX5 := hF
  have hl : lv_has ls 4 [(0, .ref h0)] := hl
  have hx := hF.1
  have hb := hF.2.1
  obtain ⟨Q0, hQ⟩ : ∃ q, q = (MQ below (wQv G (fun (u : (Nat × Nat × Nat × Nat × Nat × Nat × Nat)) => True) (fun (u : (Nat × Nat × Nat × Nat × Nat × Nat × Nat)) => [(h0, .inr (5, [.ref u.1, .ref u.2.2.1, .ref u.2.2.2.1, .ref u.2.2.2.2.1, .ref u.2.2.2.2.2.1, .ref u.2.2.2.2.2.2, .int (zI 0), .int (zI 0), .int (zI 0), .int (zI 0)])), (u.1, .inr (0, [.ref u.2.1])), (u.2.1, .inl (G.2.1.1, 52, .inl (aI (fun _ => 0)))), (u.2.2.1, .inl (G.2.1.1, 3060, .inl (aI (fun _ => 0)))), (u.2.2.2.1, .inl (G.2.1.1, 3060, .inl (aI (fun _ => 0)))), (u.2.2.2.2.1, .inl (G.2.1.2.1, 450, .inr (.inl (aL (fun _ => 0))))), (u.2.2.2.2.2.1, .inl (G.2.1.1, 450, .inl (aI (fun _ => 0)))), (u.2.2.2.2.2.2, .inl (G.2.1.2.1, 26, .inr (.inl (aL p5))))]) A) args s 7 7099 A) := ⟨_, rfl⟩
  rw [← hQ]
  have i_wsX00 : ∀ w ∈ wsX00, w ∈ wsX5_init := (fun _ h => (List.mem_cons_of_mem _ (List.mem_append_left _ (List.mem_append_right _ h))))
  have i_wsX50 : ∀ w ∈ wsX50, w ∈ wsX5_init := (fun _ h => (List.mem_cons_of_mem _ (List.mem_append_right _ h)))
  have ka_int : (Cond.arrayClass .int).before args s = true := hF.2.2.2.2 _ (List.mem_cons_of_mem _ (List.mem_append_left _ (List.mem_append_left _ (List.mem_of_getElem? (i := 7) rfl))))
  have ka_long : (Cond.arrayClass .long).before args s = true := hF.2.2.2.2 _ (List.mem_cons_of_mem _ (List.mem_append_left _ (List.mem_append_left _ (List.mem_of_getElem? (i := 10) rfl))))
  have kc_48 : (Cond.constantLong RX5 48 (5)).before args s = true := hF.2.2.2.2 _ (List.mem_cons_of_mem _ (List.mem_append_left _ (List.mem_append_left _ (List.mem_of_getElem? (i := 18) rfl))))
  have kf_12 : (Cond.fieldLink RX5 12 "Gammonry$Plays" "track" "LGammonry$Board;").before args s = true := hF.2.2.2.2 _ (List.mem_cons_of_mem _ (List.mem_append_left _ (List.mem_append_left _ (List.mem_of_getElem? (i := 6) rfl))))
  have kf_18 : (Cond.fieldLink RX5 18 "Gammonry$Plays" "rows" "[I").before args s = true := hF.2.2.2.2 _ (List.mem_cons_of_mem _ (List.mem_append_left _ (List.mem_append_left _ (List.mem_of_getElem? (i := 8) rfl))))
  have kf_22 : (Cond.fieldLink RX5 22 "Gammonry$Plays" "worths" "[I").before args s = true := hF.2.2.2.2 _ (List.mem_cons_of_mem _ (List.mem_append_left _ (List.mem_append_left _ (List.mem_of_getElem? (i := 9) rfl))))
  have kf_25 : (Cond.fieldLink RX5 25 "Gammonry$Plays" "changes" "[J").before args s = true := hF.2.2.2.2 _ (List.mem_cons_of_mem _ (List.mem_append_left _ (List.mem_append_left _ (List.mem_of_getElem? (i := 11) rfl))))
  have kf_29 : (Cond.fieldLink RX5 29 "Gammonry$Plays" "hits" "[I").before args s = true := hF.2.2.2.2 _ (List.mem_cons_of_mem _ (List.mem_append_left _ (List.mem_append_left _ (List.mem_of_getElem? (i := 12) rfl))))
  have kf_32 : (Cond.fieldLink RX5 32 "Gammonry$Plays" "powers" "[J").before args s = true := hF.2.2.2.2 _ (List.mem_cons_of_mem _ (List.mem_append_left _ (List.mem_append_left _ (List.mem_of_getElem? (i := 13) rfl))))
  have kf_35 : (Cond.fieldLink RX5 35 "Gammonry$Plays" "side" "I").before args s = true := hF.2.2.2.2 _ (List.mem_cons_of_mem _ (List.mem_append_left _ (List.mem_append_left _ (List.mem_of_getElem? (i := 14) rfl))))
  have kf_39 : (Cond.fieldLink RX5 39 "Gammonry$Plays" "count" "I").before args s = true := hF.2.2.2.2 _ (List.mem_cons_of_mem _ (List.mem_append_left _ (List.mem_append_left _ (List.mem_of_getElem? (i := 15) rfl))))
  have kf_42 : (Cond.fieldLink RX5 42 "Gammonry$Plays" "length" "I").before args s = true := hF.2.2.2.2 _ (List.mem_cons_of_mem _ (List.mem_append_left _ (List.mem_append_left _ (List.mem_of_getElem? (i := 16) rfl))))
  have kf_45 : (Cond.fieldLink RX5 45 "Gammonry$Plays" "greatest" "I").before args s = true := hF.2.2.2.2 _ (List.mem_cons_of_mem _ (List.mem_append_left _ (List.mem_append_left _ (List.mem_of_getElem? (i := 17) rfl))))
  have kl_9 : (Cond.classLink RX5 9 RX0).before args s = true := hF.2.2.2.2 _ (List.mem_cons_of_mem _ (List.mem_append_left _ (List.mem_append_left _ (List.mem_of_getElem? (i := 3) rfl))))
  have km_3 : (Cond.methodLink RX5 3 objectInit).before args s = true := hF.2.2.2.2 _ (List.mem_cons_of_mem _ (List.mem_append_left _ (List.mem_append_left _ (List.mem_of_getElem? (i := 0) rfl))))
  have kn_RX0 : (Cond.instantiable RX0 1).before args s = true := hF.2.2.2.2 _ (List.mem_cons_of_mem _ (List.mem_append_left _ (List.mem_append_left _ (List.mem_of_getElem? (i := 4) rfl))))
  have ko_c : (Cond.code objectInit ⟨#[0xb1]⟩ 1 none).before args s = true := hF.2.2.2.2 _ (List.mem_cons_of_mem _ (List.mem_append_left _ (List.mem_append_left _ (List.mem_of_getElem? (i := 2) rfl))))
  have ko_i : (Cond.instanceMethod objectInit).before args s = true := hF.2.2.2.2 _ (List.mem_cons_of_mem _ (List.mem_append_left _ (List.mem_append_left _ (List.mem_of_getElem? (i := 1) rfl))))
  have kt_RX0 : (Cond.initialized RX0).before args s = true := hF.2.2.2.2 _ (List.mem_cons_of_mem _ (List.mem_append_left _ (List.mem_append_left _ (List.mem_of_getElem? (i := 5) rfl))))
  have kv_yX0_init : (Cond.instanceMethod yX0_init).before args s = true := hF.2.2.2.2 _ (List.mem_cons_of_mem _ (List.mem_append_left _ (List.mem_append_left _ (List.mem_of_getElem? (i := 19) rfl))))
  refine lv_aload_n hx hb dX5_init_0 rfl (lv_at hl 0 rfl) ?_
  refine W.objInit hx hb hF.2.2.2.1 km_3 ko_i ko_c rfl (by rw [hF.2.2.1]; exact hl.1) rfl dX5_init_1 (Nat.le_of_ble_eq_true rfl) (Nat.le_of_ble_eq_true rfl) ?_
  refine W.eq (g2 := F0 m 4 ls []) rfl ?_
  refine lv_aload_n hx hb dX5_init_4 rfl (lv_at hl 0 rfl) ?_
  refine va_new (ci := 0) (fs := [.null]) (C := RX0) (T := TX0) (N := 1) hx hb hF.2.2.2.2 i_wsX00 tyX0 tyX0_ok hF.2.2.2.1 kl_9 kn_RX0 kt_RX0 hK hP hD hS hA rfl (by decide) (Nat.le_of_ble_eq_true rfl) (Nat.le_of_ble_eq_true rfl) dX5_init_5 (fun q_1 H hP hD hS => ?_)
  have hP : va_P G.1 vwCl [(h0, .inr (5, [.null, .null, .null, .null, .null, .null, .int (zI 0), .int (zI 0), .int (zI 0), .int (zI 0)])), (q_1, .inr (0, [.null]))] H := hP
  have hD : va_D A [(h0, .inr (5, [.null, .null, .null, .null, .null, .null, .int (zI 0), .int (zI 0), .int (zI 0), .int (zI 0)])), (q_1, .inr (0, [.null]))] := hD
  refine W.widen (k := 1) (n := 1) (Nat.le_of_ble_eq_true rfl) (Nat.le_of_ble_eq_true rfl) ?_
  refine lv_dup hx hb dX5_init_8 rfl ?_
  refine cj_v (va_runIN (As := []) (rest := [.ref q_1, .ref h0]) hF (c_X0_init l G q_1   H.size) ⟨va_cnB 0 hF.2.2.2.2 gX5_init_X0_init_n11 rfl rfl rfl (hBd.2.1 (RX5, 11, yX0_init, RX9) (by decide)) kt_RX0 (by decide +kernel) ⟨Nat.le_of_ble_eq_true rfl, Nat.le_of_ble_eq_true rfl⟩, rfl, kv_yX0_init⟩ (z_preS hK hP hD hS hA hBd [1] rfl rfl (.ref q_1 :: [])) rfl rfl hl.1 rfl (lv_room (Nat.le_of_ble_eq_true rfl)) dX5_init_9 ⟨Nat.le_of_ble_eq_true rfl, Nat.le_of_ble_eq_true rfl⟩) hP hD hS hA [1] rfl (fun _ => Nat.le_of_ble_eq_true rfl) (fun u_2 H locs hw hP hD hS => ?_)
  refine W.widen (k := 2) (n := 53) (Nat.le_of_ble_eq_true rfl) (Nat.le_of_ble_eq_true rfl) ?_
  have hP : va_P G.1 vwCl [(h0, .inr (5, [.null, .null, .null, .null, .null, .null, .int (zI 0), .int (zI 0), .int (zI 0), .int (zI 0)])), (q_1, .inr (0, [.ref u_2])), (u_2, .inl (G.2.1.1, 52, .inl (aI (fun _ => 0))))] H := hP
  have hD : va_D A [(h0, .inr (5, [.null, .null, .null, .null, .null, .null, .int (zI 0), .int (zI 0), .int (zI 0), .int (zI 0)])), (q_1, .inr (0, [.ref u_2])), (u_2, .inl (G.2.1.1, 52, .inl (aI (fun _ => 0))))] := hD
  obtain - := hw
  refine va_putF (D := G.1) (ty := tyX5 0) (ci := 5) (C := RX5) (T := TX5) (N := 10) hx hb hF.2.2.2.2 i_wsX50 tyX5 tyX5_ok nmX5 hF.2.2.2.1 hK hP hD hS 0 rfl rfl 0 (by decide) kf_12 (fun _ h9 => h9) rfl (hinit rfl) rfl (tyX5_ok 0 (by decide)) rfl rfl (Nat.le_of_ble_eq_true rfl) dX5_init_12 (fun H locs hP hD hS => ?_)
  have hP : va_P G.1 vwCl [(h0, .inr (5, [.ref q_1, .null, .null, .null, .null, .null, .int (zI 0), .int (zI 0), .int (zI 0), .int (zI 0)])), (q_1, .inr (0, [.ref u_2])), (u_2, .inl (G.2.1.1, 52, .inl (aI (fun _ => 0))))] H := hP
  have hD : va_D A [(h0, .inr (5, [.ref q_1, .null, .null, .null, .null, .null, .int (zI 0), .int (zI 0), .int (zI 0), .int (zI 0)])), (q_1, .inr (0, [.ref u_2])), (u_2, .inl (G.2.1.1, 52, .inl (aI (fun _ => 0))))] := hD
  refine lv_aload_n hx hb dX5_init_15 rfl (lv_at hl 0 rfl) ?_
  refine z_sipush hF dX5_init_16 (by decide) ?_
  refine z_newai hF ka_int hK hP hD hS hA (N := 3060) (by decide) (by decide) rfl rfl rfl dX5_init_19 (fun q_4 H hP hD hS => ?_)
  have hP : va_P G.1 vwCl [(h0, .inr (5, [.ref q_1, .null, .null, .null, .null, .null, .int (zI 0), .int (zI 0), .int (zI 0), .int (zI 0)])), (q_1, .inr (0, [.ref u_2])), (u_2, .inl (G.2.1.1, 52, .inl (aI (fun _ => 0)))), (q_4, .inl (G.2.1.1, 3060, .inl (aI (fun _ => 0))))] H := hP
  have hD : va_D A [(h0, .inr (5, [.ref q_1, .null, .null, .null, .null, .null, .int (zI 0), .int (zI 0), .int (zI 0), .int (zI 0)])), (q_1, .inr (0, [.ref u_2])), (u_2, .inl (G.2.1.1, 52, .inl (aI (fun _ => 0)))), (q_4, .inl (G.2.1.1, 3060, .inl (aI (fun _ => 0))))] := hD
  refine W.widen (k := 3) (n := 3113) (Nat.le_of_ble_eq_true rfl) (Nat.le_of_ble_eq_true rfl) ?_
  refine va_putF (D := G.1) (ty := tyX5 1) (ci := 5) (C := RX5) (T := TX5) (N := 10) hx hb hF.2.2.2.2 i_wsX50 tyX5 tyX5_ok nmX5 hF.2.2.2.1 hK hP hD hS 0 rfl rfl 1 (by decide) kf_18 (fun _ h9 => h9) rfl (hinit rfl) rfl (tyX5_ok 1 (by decide)) rfl rfl (Nat.le_of_ble_eq_true rfl) dX5_init_21 (fun H locs hP hD hS => ?_)
  have hP : va_P G.1 vwCl [(h0, .inr (5, [.ref q_1, .ref q_4, .null, .null, .null, .null, .int (zI 0), .int (zI 0), .int (zI 0), .int (zI 0)])), (q_1, .inr (0, [.ref u_2])), (u_2, .inl (G.2.1.1, 52, .inl (aI (fun _ => 0)))), (q_4, .inl (G.2.1.1, 3060, .inl (aI (fun _ => 0))))] H := hP
  have hD : va_D A [(h0, .inr (5, [.ref q_1, .ref q_4, .null, .null, .null, .null, .int (zI 0), .int (zI 0), .int (zI 0), .int (zI 0)])), (q_1, .inr (0, [.ref u_2])), (u_2, .inl (G.2.1.1, 52, .inl (aI (fun _ => 0)))), (q_4, .inl (G.2.1.1, 3060, .inl (aI (fun _ => 0))))] := hD
  refine lv_aload_n hx hb dX5_init_24 rfl (lv_at hl 0 rfl) ?_
  refine z_sipush hF dX5_init_25 (by decide) ?_
  refine z_newai hF ka_int hK hP hD hS hA (N := 3060) (by decide) (by decide) rfl rfl rfl dX5_init_28 (fun q_5 H hP hD hS => ?_)
  have hP : va_P G.1 vwCl [(h0, .inr (5, [.ref q_1, .ref q_4, .null, .null, .null, .null, .int (zI 0), .int (zI 0), .int (zI 0), .int (zI 0)])), (q_1, .inr (0, [.ref u_2])), (u_2, .inl (G.2.1.1, 52, .inl (aI (fun _ => 0)))), (q_4, .inl (G.2.1.1, 3060, .inl (aI (fun _ => 0)))), (q_5, .inl (G.2.1.1, 3060, .inl (aI (fun _ => 0))))] H := hP
  have hD : va_D A [(h0, .inr (5, [.ref q_1, .ref q_4, .null, .null, .null, .null, .int (zI 0), .int (zI 0), .int (zI 0), .int (zI 0)])), (q_1, .inr (0, [.ref u_2])), (u_2, .inl (G.2.1.1, 52, .inl (aI (fun _ => 0)))), (q_4, .inl (G.2.1.1, 3060, .inl (aI (fun _ => 0)))), (q_5, .inl (G.2.1.1, 3060, .inl (aI (fun _ => 0))))] := hD
  refine W.widen (k := 4) (n := 6173) (Nat.le_of_ble_eq_true rfl) (Nat.le_of_ble_eq_true rfl) ?_
  refine va_putF (D := G.1) (ty := tyX5 2) (ci := 5) (C := RX5) (T := TX5) (N := 10) hx hb hF.2.2.2.2 i_wsX50 tyX5 tyX5_ok nmX5 hF.2.2.2.1 hK hP hD hS 0 rfl rfl 2 (by decide) kf_22 (fun _ h9 => h9) rfl (hinit rfl) rfl (tyX5_ok 2 (by decide)) rfl rfl (Nat.le_of_ble_eq_true rfl) dX5_init_30 (fun H locs hP hD hS => ?_)
  have hP : va_P G.1 vwCl [(h0, .inr (5, [.ref q_1, .ref q_4, .ref q_5, .null, .null, .null, .int (zI 0), .int (zI 0), .int (zI 0), .int (zI 0)])), (q_1, .inr (0, [.ref u_2])), (u_2, .inl (G.2.1.1, 52, .inl (aI (fun _ => 0)))), (q_4, .inl (G.2.1.1, 3060, .inl (aI (fun _ => 0)))), (q_5, .inl (G.2.1.1, 3060, .inl (aI (fun _ => 0))))] H := hP
  have hD : va_D A [(h0, .inr (5, [.ref q_1, .ref q_4, .ref q_5, .null, .null, .null, .int (zI 0), .int (zI 0), .int (zI 0), .int (zI 0)])), (q_1, .inr (0, [.ref u_2])), (u_2, .inl (G.2.1.1, 52, .inl (aI (fun _ => 0)))), (q_4, .inl (G.2.1.1, 3060, .inl (aI (fun _ => 0)))), (q_5, .inl (G.2.1.1, 3060, .inl (aI (fun _ => 0))))] := hD
  refine lv_aload_n hx hb dX5_init_33 rfl (lv_at hl 0 rfl) ?_
  refine z_sipush hF dX5_init_34 (by decide) ?_
  refine z_newaj hF ka_long hK hP hD hS hA (N := 450) (by decide) (by decide) rfl rfl rfl dX5_init_37 (fun q_6 H hP hD hS => ?_)
  have hP : va_P G.1 vwCl [(h0, .inr (5, [.ref q_1, .ref q_4, .ref q_5, .null, .null, .null, .int (zI 0), .int (zI 0), .int (zI 0), .int (zI 0)])), (q_1, .inr (0, [.ref u_2])), (u_2, .inl (G.2.1.1, 52, .inl (aI (fun _ => 0)))), (q_4, .inl (G.2.1.1, 3060, .inl (aI (fun _ => 0)))), (q_5, .inl (G.2.1.1, 3060, .inl (aI (fun _ => 0)))), (q_6, .inl (G.2.1.2.1, 450, .inr (.inl (aL (fun _ => 0)))))] H := hP
  have hD : va_D A [(h0, .inr (5, [.ref q_1, .ref q_4, .ref q_5, .null, .null, .null, .int (zI 0), .int (zI 0), .int (zI 0), .int (zI 0)])), (q_1, .inr (0, [.ref u_2])), (u_2, .inl (G.2.1.1, 52, .inl (aI (fun _ => 0)))), (q_4, .inl (G.2.1.1, 3060, .inl (aI (fun _ => 0)))), (q_5, .inl (G.2.1.1, 3060, .inl (aI (fun _ => 0)))), (q_6, .inl (G.2.1.2.1, 450, .inr (.inl (aL (fun _ => 0)))))] := hD
  refine W.widen (k := 5) (n := 6623) (Nat.le_of_ble_eq_true rfl) (Nat.le_of_ble_eq_true rfl) ?_
  refine va_putF (D := G.1) (ty := tyX5 3) (ci := 5) (C := RX5) (T := TX5) (N := 10) hx hb hF.2.2.2.2 i_wsX50 tyX5 tyX5_ok nmX5 hF.2.2.2.1 hK hP hD hS 0 rfl rfl 3 (by decide) kf_25 (fun _ h9 => h9) rfl (hinit rfl) rfl (tyX5_ok 3 (by decide)) rfl rfl (Nat.le_of_ble_eq_true rfl) dX5_init_39 (fun H locs hP hD hS => ?_)
  have hP : va_P G.1 vwCl [(h0, .inr (5, [.ref q_1, .ref q_4, .ref q_5, .ref q_6, .null, .null, .int (zI 0), .int (zI 0), .int (zI 0), .int (zI 0)])), (q_1, .inr (0, [.ref u_2])), (u_2, .inl (G.2.1.1, 52, .inl (aI (fun _ => 0)))), (q_4, .inl (G.2.1.1, 3060, .inl (aI (fun _ => 0)))), (q_5, .inl (G.2.1.1, 3060, .inl (aI (fun _ => 0)))), (q_6, .inl (G.2.1.2.1, 450, .inr (.inl (aL (fun _ => 0)))))] H := hP
  have hD : va_D A [(h0, .inr (5, [.ref q_1, .ref q_4, .ref q_5, .ref q_6, .null, .null, .int (zI 0), .int (zI 0), .int (zI 0), .int (zI 0)])), (q_1, .inr (0, [.ref u_2])), (u_2, .inl (G.2.1.1, 52, .inl (aI (fun _ => 0)))), (q_4, .inl (G.2.1.1, 3060, .inl (aI (fun _ => 0)))), (q_5, .inl (G.2.1.1, 3060, .inl (aI (fun _ => 0)))), (q_6, .inl (G.2.1.2.1, 450, .inr (.inl (aL (fun _ => 0)))))] := hD
  refine lv_aload_n hx hb dX5_init_42 rfl (lv_at hl 0 rfl) ?_
  refine z_sipush hF dX5_init_43 (by decide) ?_
  refine z_newai hF ka_int hK hP hD hS hA (N := 450) (by decide) (by decide) rfl rfl rfl dX5_init_46 (fun q_7 H hP hD hS => ?_)
  have hP : va_P G.1 vwCl [(h0, .inr (5, [.ref q_1, .ref q_4, .ref q_5, .ref q_6, .null, .null, .int (zI 0), .int (zI 0), .int (zI 0), .int (zI 0)])), (q_1, .inr (0, [.ref u_2])), (u_2, .inl (G.2.1.1, 52, .inl (aI (fun _ => 0)))), (q_4, .inl (G.2.1.1, 3060, .inl (aI (fun _ => 0)))), (q_5, .inl (G.2.1.1, 3060, .inl (aI (fun _ => 0)))), (q_6, .inl (G.2.1.2.1, 450, .inr (.inl (aL (fun _ => 0))))), (q_7, .inl (G.2.1.1, 450, .inl (aI (fun _ => 0))))] H := hP
  have hD : va_D A [(h0, .inr (5, [.ref q_1, .ref q_4, .ref q_5, .ref q_6, .null, .null, .int (zI 0), .int (zI 0), .int (zI 0), .int (zI 0)])), (q_1, .inr (0, [.ref u_2])), (u_2, .inl (G.2.1.1, 52, .inl (aI (fun _ => 0)))), (q_4, .inl (G.2.1.1, 3060, .inl (aI (fun _ => 0)))), (q_5, .inl (G.2.1.1, 3060, .inl (aI (fun _ => 0)))), (q_6, .inl (G.2.1.2.1, 450, .inr (.inl (aL (fun _ => 0))))), (q_7, .inl (G.2.1.1, 450, .inl (aI (fun _ => 0))))] := hD
  refine W.widen (k := 6) (n := 7073) (Nat.le_of_ble_eq_true rfl) (Nat.le_of_ble_eq_true rfl) ?_
  refine va_putF (D := G.1) (ty := tyX5 4) (ci := 5) (C := RX5) (T := TX5) (N := 10) hx hb hF.2.2.2.2 i_wsX50 tyX5 tyX5_ok nmX5 hF.2.2.2.1 hK hP hD hS 0 rfl rfl 4 (by decide) kf_29 (fun _ h9 => h9) rfl (hinit rfl) rfl (tyX5_ok 4 (by decide)) rfl rfl (Nat.le_of_ble_eq_true rfl) dX5_init_48 (fun H locs hP hD hS => ?_)
  have hP : va_P G.1 vwCl [(h0, .inr (5, [.ref q_1, .ref q_4, .ref q_5, .ref q_6, .ref q_7, .null, .int (zI 0), .int (zI 0), .int (zI 0), .int (zI 0)])), (q_1, .inr (0, [.ref u_2])), (u_2, .inl (G.2.1.1, 52, .inl (aI (fun _ => 0)))), (q_4, .inl (G.2.1.1, 3060, .inl (aI (fun _ => 0)))), (q_5, .inl (G.2.1.1, 3060, .inl (aI (fun _ => 0)))), (q_6, .inl (G.2.1.2.1, 450, .inr (.inl (aL (fun _ => 0))))), (q_7, .inl (G.2.1.1, 450, .inl (aI (fun _ => 0))))] H := hP
  have hD : va_D A [(h0, .inr (5, [.ref q_1, .ref q_4, .ref q_5, .ref q_6, .ref q_7, .null, .int (zI 0), .int (zI 0), .int (zI 0), .int (zI 0)])), (q_1, .inr (0, [.ref u_2])), (u_2, .inl (G.2.1.1, 52, .inl (aI (fun _ => 0)))), (q_4, .inl (G.2.1.1, 3060, .inl (aI (fun _ => 0)))), (q_5, .inl (G.2.1.1, 3060, .inl (aI (fun _ => 0)))), (q_6, .inl (G.2.1.2.1, 450, .inr (.inl (aL (fun _ => 0))))), (q_7, .inl (G.2.1.1, 450, .inl (aI (fun _ => 0))))] := hD
  refine lv_aload_n hx hb dX5_init_51 rfl (lv_at hl 0 rfl) ?_
  refine z_bipush hF dX5_init_52 (by decide) ?_
  refine z_newaj hF ka_long hK hP hD hS hA (N := 26) (by decide) (by decide) rfl rfl rfl dX5_init_54 (fun q_8 H hP hD hS => ?_)
  have hP : va_P G.1 vwCl [(h0, .inr (5, [.ref q_1, .ref q_4, .ref q_5, .ref q_6, .ref q_7, .null, .int (zI 0), .int (zI 0), .int (zI 0), .int (zI 0)])), (q_1, .inr (0, [.ref u_2])), (u_2, .inl (G.2.1.1, 52, .inl (aI (fun _ => 0)))), (q_4, .inl (G.2.1.1, 3060, .inl (aI (fun _ => 0)))), (q_5, .inl (G.2.1.1, 3060, .inl (aI (fun _ => 0)))), (q_6, .inl (G.2.1.2.1, 450, .inr (.inl (aL (fun _ => 0))))), (q_7, .inl (G.2.1.1, 450, .inl (aI (fun _ => 0)))), (q_8, .inl (G.2.1.2.1, 26, .inr (.inl (aL (fun _ => 0)))))] H := hP
  have hD : va_D A [(h0, .inr (5, [.ref q_1, .ref q_4, .ref q_5, .ref q_6, .ref q_7, .null, .int (zI 0), .int (zI 0), .int (zI 0), .int (zI 0)])), (q_1, .inr (0, [.ref u_2])), (u_2, .inl (G.2.1.1, 52, .inl (aI (fun _ => 0)))), (q_4, .inl (G.2.1.1, 3060, .inl (aI (fun _ => 0)))), (q_5, .inl (G.2.1.1, 3060, .inl (aI (fun _ => 0)))), (q_6, .inl (G.2.1.2.1, 450, .inr (.inl (aL (fun _ => 0))))), (q_7, .inl (G.2.1.1, 450, .inl (aI (fun _ => 0)))), (q_8, .inl (G.2.1.2.1, 26, .inr (.inl (aL (fun _ => 0)))))] := hD
  refine W.widen (k := 7) (n := 7099) (Nat.le_of_ble_eq_true rfl) (Nat.le_of_ble_eq_true rfl) ?_
  refine va_putF (D := G.1) (ty := tyX5 5) (ci := 5) (C := RX5) (T := TX5) (N := 10) hx hb hF.2.2.2.2 i_wsX50 tyX5 tyX5_ok nmX5 hF.2.2.2.1 hK hP hD hS 0 rfl rfl 5 (by decide) kf_32 (fun _ h9 => h9) rfl (hinit rfl) rfl (tyX5_ok 5 (by decide)) rfl rfl (Nat.le_of_ble_eq_true rfl) dX5_init_56 (fun H locs hP hD hS => ?_)
  have hP : va_P G.1 vwCl [(h0, .inr (5, [.ref q_1, .ref q_4, .ref q_5, .ref q_6, .ref q_7, .ref q_8, .int (zI 0), .int (zI 0), .int (zI 0), .int (zI 0)])), (q_1, .inr (0, [.ref u_2])), (u_2, .inl (G.2.1.1, 52, .inl (aI (fun _ => 0)))), (q_4, .inl (G.2.1.1, 3060, .inl (aI (fun _ => 0)))), (q_5, .inl (G.2.1.1, 3060, .inl (aI (fun _ => 0)))), (q_6, .inl (G.2.1.2.1, 450, .inr (.inl (aL (fun _ => 0))))), (q_7, .inl (G.2.1.1, 450, .inl (aI (fun _ => 0)))), (q_8, .inl (G.2.1.2.1, 26, .inr (.inl (aL (fun _ => 0)))))] H := hP
  have hD : va_D A [(h0, .inr (5, [.ref q_1, .ref q_4, .ref q_5, .ref q_6, .ref q_7, .ref q_8, .int (zI 0), .int (zI 0), .int (zI 0), .int (zI 0)])), (q_1, .inr (0, [.ref u_2])), (u_2, .inl (G.2.1.1, 52, .inl (aI (fun _ => 0)))), (q_4, .inl (G.2.1.1, 3060, .inl (aI (fun _ => 0)))), (q_5, .inl (G.2.1.1, 3060, .inl (aI (fun _ => 0)))), (q_6, .inl (G.2.1.2.1, 450, .inr (.inl (aL (fun _ => 0))))), (q_7, .inl (G.2.1.1, 450, .inl (aI (fun _ => 0)))), (q_8, .inl (G.2.1.2.1, 26, .inr (.inl (aL (fun _ => 0)))))] := hD
  refine lv_aload_n hx hb dX5_init_59 rfl (lv_at hl 0 rfl) ?_
  refine z_iconst hF dX5_init_60 ?_
  refine z_put (k := 6) hF hK hP hD hS 0 rfl rfl i_wsX50 (by decide) tyX5 tyX5_ok nmX5 rfl kf_35 rfl rfl (Nat.le_of_ble_eq_true rfl) dX5_init_61 (fun H locs hP hD hS => ?_)
  have hP : va_P G.1 vwCl [(h0, .inr (5, [.ref q_1, .ref q_4, .ref q_5, .ref q_6, .ref q_7, .ref q_8, .int (zI 0), .int (zI 0), .int (zI 0), .int (zI 0)])), (q_1, .inr (0, [.ref u_2])), (u_2, .inl (G.2.1.1, 52, .inl (aI (fun _ => 0)))), (q_4, .inl (G.2.1.1, 3060, .inl (aI (fun _ => 0)))), (q_5, .inl (G.2.1.1, 3060, .inl (aI (fun _ => 0)))), (q_6, .inl (G.2.1.2.1, 450, .inr (.inl (aL (fun _ => 0))))), (q_7, .inl (G.2.1.1, 450, .inl (aI (fun _ => 0)))), (q_8, .inl (G.2.1.2.1, 26, .inr (.inl (aL (fun _ => 0)))))] H := hP
  have hD : va_D A [(h0, .inr (5, [.ref q_1, .ref q_4, .ref q_5, .ref q_6, .ref q_7, .ref q_8, .int (zI 0), .int (zI 0), .int (zI 0), .int (zI 0)])), (q_1, .inr (0, [.ref u_2])), (u_2, .inl (G.2.1.1, 52, .inl (aI (fun _ => 0)))), (q_4, .inl (G.2.1.1, 3060, .inl (aI (fun _ => 0)))), (q_5, .inl (G.2.1.1, 3060, .inl (aI (fun _ => 0)))), (q_6, .inl (G.2.1.2.1, 450, .inr (.inl (aL (fun _ => 0))))), (q_7, .inl (G.2.1.1, 450, .inl (aI (fun _ => 0)))), (q_8, .inl (G.2.1.2.1, 26, .inr (.inl (aL (fun _ => 0)))))] := hD
  refine lv_aload_n hx hb dX5_init_64 rfl (lv_at hl 0 rfl) ?_
  refine z_iconst hF dX5_init_65 ?_
  refine z_put (k := 7) hF hK hP hD hS 0 rfl rfl i_wsX50 (by decide) tyX5 tyX5_ok nmX5 rfl kf_39 rfl rfl (Nat.le_of_ble_eq_true rfl) dX5_init_66 (fun H locs hP hD hS => ?_)
  have hP : va_P G.1 vwCl [(h0, .inr (5, [.ref q_1, .ref q_4, .ref q_5, .ref q_6, .ref q_7, .ref q_8, .int (zI 0), .int (zI 0), .int (zI 0), .int (zI 0)])), (q_1, .inr (0, [.ref u_2])), (u_2, .inl (G.2.1.1, 52, .inl (aI (fun _ => 0)))), (q_4, .inl (G.2.1.1, 3060, .inl (aI (fun _ => 0)))), (q_5, .inl (G.2.1.1, 3060, .inl (aI (fun _ => 0)))), (q_6, .inl (G.2.1.2.1, 450, .inr (.inl (aL (fun _ => 0))))), (q_7, .inl (G.2.1.1, 450, .inl (aI (fun _ => 0)))), (q_8, .inl (G.2.1.2.1, 26, .inr (.inl (aL (fun _ => 0)))))] H := hP
  have hD : va_D A [(h0, .inr (5, [.ref q_1, .ref q_4, .ref q_5, .ref q_6, .ref q_7, .ref q_8, .int (zI 0), .int (zI 0), .int (zI 0), .int (zI 0)])), (q_1, .inr (0, [.ref u_2])), (u_2, .inl (G.2.1.1, 52, .inl (aI (fun _ => 0)))), (q_4, .inl (G.2.1.1, 3060, .inl (aI (fun _ => 0)))), (q_5, .inl (G.2.1.1, 3060, .inl (aI (fun _ => 0)))), (q_6, .inl (G.2.1.2.1, 450, .inr (.inl (aL (fun _ => 0))))), (q_7, .inl (G.2.1.1, 450, .inl (aI (fun _ => 0)))), (q_8, .inl (G.2.1.2.1, 26, .inr (.inl (aL (fun _ => 0)))))] := hD
  refine lv_aload_n hx hb dX5_init_69 rfl (lv_at hl 0 rfl) ?_
  refine z_iconst hF dX5_init_70 ?_
  refine z_put (k := 8) hF hK hP hD hS 0 rfl rfl i_wsX50 (by decide) tyX5 tyX5_ok nmX5 rfl kf_42 rfl rfl (Nat.le_of_ble_eq_true rfl) dX5_init_71 (fun H locs hP hD hS => ?_)
  have hP : va_P G.1 vwCl [(h0, .inr (5, [.ref q_1, .ref q_4, .ref q_5, .ref q_6, .ref q_7, .ref q_8, .int (zI 0), .int (zI 0), .int (zI 0), .int (zI 0)])), (q_1, .inr (0, [.ref u_2])), (u_2, .inl (G.2.1.1, 52, .inl (aI (fun _ => 0)))), (q_4, .inl (G.2.1.1, 3060, .inl (aI (fun _ => 0)))), (q_5, .inl (G.2.1.1, 3060, .inl (aI (fun _ => 0)))), (q_6, .inl (G.2.1.2.1, 450, .inr (.inl (aL (fun _ => 0))))), (q_7, .inl (G.2.1.1, 450, .inl (aI (fun _ => 0)))), (q_8, .inl (G.2.1.2.1, 26, .inr (.inl (aL (fun _ => 0)))))] H := hP
  have hD : va_D A [(h0, .inr (5, [.ref q_1, .ref q_4, .ref q_5, .ref q_6, .ref q_7, .ref q_8, .int (zI 0), .int (zI 0), .int (zI 0), .int (zI 0)])), (q_1, .inr (0, [.ref u_2])), (u_2, .inl (G.2.1.1, 52, .inl (aI (fun _ => 0)))), (q_4, .inl (G.2.1.1, 3060, .inl (aI (fun _ => 0)))), (q_5, .inl (G.2.1.1, 3060, .inl (aI (fun _ => 0)))), (q_6, .inl (G.2.1.2.1, 450, .inr (.inl (aL (fun _ => 0))))), (q_7, .inl (G.2.1.1, 450, .inl (aI (fun _ => 0)))), (q_8, .inl (G.2.1.2.1, 26, .inr (.inl (aL (fun _ => 0)))))] := hD
  refine lv_aload_n hx hb dX5_init_74 rfl (lv_at hl 0 rfl) ?_
  refine z_iconst hF dX5_init_75 ?_
  refine z_put (k := 9) hF hK hP hD hS 0 rfl rfl i_wsX50 (by decide) tyX5 tyX5_ok nmX5 rfl kf_45 rfl rfl (Nat.le_of_ble_eq_true rfl) dX5_init_76 (fun H locs hP hD hS => ?_)
  have hP : va_P G.1 vwCl [(h0, .inr (5, [.ref q_1, .ref q_4, .ref q_5, .ref q_6, .ref q_7, .ref q_8, .int (zI 0), .int (zI 0), .int (zI 0), .int (zI 0)])), (q_1, .inr (0, [.ref u_2])), (u_2, .inl (G.2.1.1, 52, .inl (aI (fun _ => 0)))), (q_4, .inl (G.2.1.1, 3060, .inl (aI (fun _ => 0)))), (q_5, .inl (G.2.1.1, 3060, .inl (aI (fun _ => 0)))), (q_6, .inl (G.2.1.2.1, 450, .inr (.inl (aL (fun _ => 0))))), (q_7, .inl (G.2.1.1, 450, .inl (aI (fun _ => 0)))), (q_8, .inl (G.2.1.2.1, 26, .inr (.inl (aL (fun _ => 0)))))] H := hP
  have hD : va_D A [(h0, .inr (5, [.ref q_1, .ref q_4, .ref q_5, .ref q_6, .ref q_7, .ref q_8, .int (zI 0), .int (zI 0), .int (zI 0), .int (zI 0)])), (q_1, .inr (0, [.ref u_2])), (u_2, .inl (G.2.1.1, 52, .inl (aI (fun _ => 0)))), (q_4, .inl (G.2.1.1, 3060, .inl (aI (fun _ => 0)))), (q_5, .inl (G.2.1.1, 3060, .inl (aI (fun _ => 0)))), (q_6, .inl (G.2.1.2.1, 450, .inr (.inl (aL (fun _ => 0))))), (q_7, .inl (G.2.1.1, 450, .inl (aI (fun _ => 0)))), (q_8, .inl (G.2.1.2.1, 26, .inr (.inl (aL (fun _ => 0)))))] := hD
  refine z_lconst hF dX5_init_79 ?_
  refine z_tzl (b := 1) rfl ?_
  refine lv_lstore_n (lv' := [(1, .long (zL 1)), (0, .ref h0)]) hx hb dX5_init_80 rfl hl (by decide) rfl (fun ls hl => ?_)
  refine z_iconst hF dX5_init_81 ?_
  refine lv_istore_n (lv' := [(3, .int (zI 0)), (1, .long (zL 1)), (0, .ref h0)]) hx hb dX5_init_82 rfl hl (by decide) rfl (fun ls hl => ?_)
  have L83 : ∀ (n9 : Nat) (i : Int), (26 - i).toNat < n9 → (0 ≤ i ∧ i ≤ 26) → ∀ (H : Heap) (locs : List Loc) (ls : Array Slot), va_P G.1 vwCl [(h0, .inr (5, [.ref q_1, .ref q_4, .ref q_5, .ref q_6, .ref q_7, .ref q_8, .int (zI 0), .int (zI 0), .int (zI 0), .int (zI 0)])), (q_1, .inr (0, [.ref u_2])), (u_2, .inl (G.2.1.1, 52, .inl (aI (fun _ => 0)))), (q_4, .inl (G.2.1.1, 3060, .inl (aI (fun _ => 0)))), (q_5, .inl (G.2.1.1, 3060, .inl (aI (fun _ => 0)))), (q_6, .inl (G.2.1.2.1, 450, .inr (.inl (aL (fun _ => 0))))), (q_7, .inl (G.2.1.1, 450, .inl (aI (fun _ => 0)))), (q_8, .inl (G.2.1.2.1, 26, .inr (.inl (aL (fl p5 (fun _ => 0) i)))))] H → va_D A [(h0, .inr (5, [.ref q_1, .ref q_4, .ref q_5, .ref q_6, .ref q_7, .ref q_8, .int (zI 0), .int (zI 0), .int (zI 0), .int (zI 0)])), (q_1, .inr (0, [.ref u_2])), (u_2, .inl (G.2.1.1, 52, .inl (aI (fun _ => 0)))), (q_4, .inl (G.2.1.1, 3060, .inl (aI (fun _ => 0)))), (q_5, .inl (G.2.1.1, 3060, .inl (aI (fun _ => 0)))), (q_6, .inl (G.2.1.2.1, 450, .inr (.inl (aL (fun _ => 0))))), (q_7, .inl (G.2.1.1, 450, .inl (aI (fun _ => 0)))), (q_8, .inl (G.2.1.2.1, 26, .inr (.inl (aL (fl p5 (fun _ => 0) i)))))] → va_S A s.heap H locs → lv_has ls 4 [(0, .ref h0), (1, .long (zL (p5 i))), (3, .int (zI i))] → W p l e (rmL 3 7 7099) s m args below meth c H locs 7 7099 Q0 (F0 m 83 ls []) := by
    intro n9
    induction n9 with
    | zero => intro i hmu; omega
    | succ n9 ih83 =>
      intro i hmu83 hzi H locs ls hP hD hS hl
      refine lv_iload_n hx hb dX5_init_83 rfl (lv_at hl 2 rfl) ?_
      refine z_bipush hF dX5_init_84 (by decide) ?_
      refine z_icmp_ge (tgt := 108) hF dX5_init_86 (by decide) (by omega) (by decide) (fun c_9 => ?_) (fun c_9 => ?_)
      · have hc_86 := c_9
        have hP : va_P G.1 vwCl [(h0, .inr (5, [.ref q_1, .ref q_4, .ref q_5, .ref q_6, .ref q_7, .ref q_8, .int (zI 0), .int (zI 0), .int (zI 0), .int (zI 0)])), (q_1, .inr (0, [.ref u_2])), (u_2, .inl (G.2.1.1, 52, .inl (aI (fun _ => 0)))), (q_4, .inl (G.2.1.1, 3060, .inl (aI (fun _ => 0)))), (q_5, .inl (G.2.1.1, 3060, .inl (aI (fun _ => 0)))), (q_6, .inl (G.2.1.2.1, 450, .inr (.inl (aL (fun _ => 0))))), (q_7, .inl (G.2.1.1, 450, .inl (aI (fun _ => 0)))), (q_8, .inl (G.2.1.2.1, 26, .inr (.inl (aL p5))))] H := z_extJ (q := 7) (g := p5) hP rfl (fun k h0 h1 => by unfold fl; rw [if_pos ⟨h0, by omega⟩])
        have hD : va_D A [(h0, .inr (5, [.ref q_1, .ref q_4, .ref q_5, .ref q_6, .ref q_7, .ref q_8, .int (zI 0), .int (zI 0), .int (zI 0), .int (zI 0)])), (q_1, .inr (0, [.ref u_2])), (u_2, .inl (G.2.1.1, 52, .inl (aI (fun _ => 0)))), (q_4, .inl (G.2.1.1, 3060, .inl (aI (fun _ => 0)))), (q_5, .inl (G.2.1.1, 3060, .inl (aI (fun _ => 0)))), (q_6, .inl (G.2.1.2.1, 450, .inr (.inl (aL (fun _ => 0))))), (q_7, .inl (G.2.1.1, 450, .inl (aI (fun _ => 0)))), (q_8, .inl (G.2.1.2.1, 26, .inr (.inl (aL p5))))] := va_D_cell (q := 7) hD rfl
        rw [hQ]
        refine W.widen (k := 7) (n := 7099) (Nat.le_of_ble_eq_true rfl) (Nat.le_of_ble_eq_true rfl) ?_
        exact z_vret hF hr hlocks (q_1, u_2, q_4, q_5, q_6, q_7, q_8) (trivial) hP hK hD hS dX5_init_108
      · have hc_86 := c_9
        refine lv_aload_n hx hb dX5_init_89 rfl (lv_at hl 0 rfl) ?_
        refine z_get (k := 5) hF hK hP 0 rfl rfl i_wsX50 (by decide) kf_32 rfl dX5_init_90 ?_
        refine lv_iload_n hx hb dX5_init_93 rfl (lv_at hl 2 rfl) ?_
        refine lv_lload_n hx hb dX5_init_94 rfl (lv_at hl 1 rfl) ?_
        refine z_last hF hK hP hD hS 7 rfl (by omega) rfl dX5_init_95 (fun H locs hP hD hS => ?_)
        have hP : va_P G.1 vwCl [(h0, .inr (5, [.ref q_1, .ref q_4, .ref q_5, .ref q_6, .ref q_7, .ref q_8, .int (zI 0), .int (zI 0), .int (zI 0), .int (zI 0)])), (q_1, .inr (0, [.ref u_2])), (u_2, .inl (G.2.1.1, 52, .inl (aI (fun _ => 0)))), (q_4, .inl (G.2.1.1, 3060, .inl (aI (fun _ => 0)))), (q_5, .inl (G.2.1.1, 3060, .inl (aI (fun _ => 0)))), (q_6, .inl (G.2.1.2.1, 450, .inr (.inl (aL (fun _ => 0))))), (q_7, .inl (G.2.1.1, 450, .inl (aI (fun _ => 0)))), (q_8, .inl (G.2.1.2.1, 26, .inr (.inl (aL (up (fl p5 (fun _ => 0) i) i (p5 i))))))] H := hP
        have hD : va_D A [(h0, .inr (5, [.ref q_1, .ref q_4, .ref q_5, .ref q_6, .ref q_7, .ref q_8, .int (zI 0), .int (zI 0), .int (zI 0), .int (zI 0)])), (q_1, .inr (0, [.ref u_2])), (u_2, .inl (G.2.1.1, 52, .inl (aI (fun _ => 0)))), (q_4, .inl (G.2.1.1, 3060, .inl (aI (fun _ => 0)))), (q_5, .inl (G.2.1.1, 3060, .inl (aI (fun _ => 0)))), (q_6, .inl (G.2.1.2.1, 450, .inr (.inl (aL (fun _ => 0))))), (q_7, .inl (G.2.1.1, 450, .inl (aI (fun _ => 0)))), (q_8, .inl (G.2.1.2.1, 26, .inr (.inl (aL (up (fl p5 (fun _ => 0) i) i (p5 i))))))] := hD
        rw [show up (fl p5 (fun _ => 0) i) i (p5 i) = fl p5 (fun _ => 0) (i + 1) from (fl_s p5 (fun _ => 0) hzi.1)] at hP hD
        refine lv_ldc2 hx hb hF.2.2.2.1 kc_48 dX5_init_96 ?_
        refine z_topl (y := zL 5) (by decide) ?_
        refine lv_lload_n hx hb dX5_init_99 rfl (lv_at hl 1 rfl) ?_
        refine z_lmul hF dX5_init_100 ?_
        refine z_tzl (b := (p5 (i + 1))) (p5_s hzi.1) ?_
        refine lv_lstore_n (lv' := [(1, .long (zL (p5 (i + 1)))), (0, .ref h0), (3, .int (zI i))]) hx hb dX5_init_101 rfl hl (by decide) rfl (fun ls hl => ?_)
        refine z_iinc (lv' := [(3, .int (zI (i + 1))), (1, .long (zL (p5 (i + 1)))), (0, .ref h0)]) hF dX5_init_102 hl (k := 2) rfl (by decide) rfl (fun ls hl => ?_)
        refine z_goto (tgt := 83) hF dX5_init_105 (by decide) ?_
        exact ih83 (i + 1) (by omega) (by omega) H locs ls hP hD hS (lv_sub hl [2, 1, 0] rfl)
  have hP : va_P G.1 vwCl [(h0, .inr (5, [.ref q_1, .ref q_4, .ref q_5, .ref q_6, .ref q_7, .ref q_8, .int (zI 0), .int (zI 0), .int (zI 0), .int (zI 0)])), (q_1, .inr (0, [.ref u_2])), (u_2, .inl (G.2.1.1, 52, .inl (aI (fun _ => 0)))), (q_4, .inl (G.2.1.1, 3060, .inl (aI (fun _ => 0)))), (q_5, .inl (G.2.1.1, 3060, .inl (aI (fun _ => 0)))), (q_6, .inl (G.2.1.2.1, 450, .inr (.inl (aL (fun _ => 0))))), (q_7, .inl (G.2.1.1, 450, .inl (aI (fun _ => 0)))), (q_8, .inl (G.2.1.2.1, 26, .inr (.inl (aL (fl p5 (fun _ => 0) 0)))))] H := z_extJ (q := 7) (g := (fl p5 (fun _ => 0) 0)) hP rfl (fun k h0 h1 => by rw [fl_0])
  have hD : va_D A [(h0, .inr (5, [.ref q_1, .ref q_4, .ref q_5, .ref q_6, .ref q_7, .ref q_8, .int (zI 0), .int (zI 0), .int (zI 0), .int (zI 0)])), (q_1, .inr (0, [.ref u_2])), (u_2, .inl (G.2.1.1, 52, .inl (aI (fun _ => 0)))), (q_4, .inl (G.2.1.1, 3060, .inl (aI (fun _ => 0)))), (q_5, .inl (G.2.1.1, 3060, .inl (aI (fun _ => 0)))), (q_6, .inl (G.2.1.2.1, 450, .inr (.inl (aL (fun _ => 0))))), (q_7, .inl (G.2.1.1, 450, .inl (aI (fun _ => 0)))), (q_8, .inl (G.2.1.2.1, 26, .inr (.inl (aL (fl p5 (fun _ => 0) 0)))))] := va_D_cell (q := 7) hD rfl
  exact L83 _ 0 (Nat.lt_succ_self _) (by omega) H locs ls hP hD hS (lv_sub hl [2, 1, 0] rfl)
