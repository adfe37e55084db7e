set_option maxHeartbeats 4000000 in
set_option maxRecDepth 100000 in
theorem c_X10_in (l : Launch) (G : wG) (x lo hi : Int)  (hr_x : -2147483648 ≤ x ∧ x < 2147483648) (hr_lo : -2147483648 ≤ lo ∧ lo < 2147483648) (hr_hi : -2147483648 ≤ hi ∧ hi < 2147483648) (z9 : Nat) : Met l yX10_in wsX10_in (rmL 1 0 0) (wPc G [] z9 [.int (zI x), .int (zI lo), .int (zI hi)]) (wQi G (fun (r : Int32) (u : Unit) => ((lo ≤ x ∧ x ≤ hi) ∧ r = zI 1) ∨ ((¬ (lo ≤ x ∧ x ≤ hi)) ∧ r = zI 0)) (fun (u : Unit) => []) (va_A [] z9)) 0 0 (va_A [] z9) := by
  refine z_ofW (Qc := fun A => wQi G (fun (r : Int32) (u : Unit) => ((lo ≤ x ∧ x ≤ hi) ∧ r = zI 1) ∨ ((¬ (lo ≤ x ∧ x ≤ hi)) ∧ r = zI 0)) (fun (u : Unit) => []) A) l G [] [.int (zI x), .int (zI lo), .int (zI hi)] (by decide) rfl rfl ?_ z9
  intro p e s m args below meth c A ls H locs hF hr hlocks hinit hP hK hD hA hS hBd hl
  have hF : wFx p m c cX10_in 3 s args wsX10_in RX10 := hF
  have hl : lv_has ls 3 [(0, .int (zI x)), (1, .int (zI lo)), (2, .int (zI hi))] := hl
  have hx := hF.1
  have hb := hF.2.1
  obtain ⟨Q0, hQ⟩ : ∃ q, q = (MQ below (wQi G (fun (r : Int32) (u : Unit) => ((lo ≤ x ∧ x ≤ hi) ∧ r = zI 1) ∨ ((¬ (lo ≤ x ∧ x ≤ hi)) ∧ r = zI 0)) (fun (u : Unit) => []) A) args s 0 0 A) := ⟨_, rfl⟩
  rw [← hQ]
  refine lv_iload_n hx hb dX10_in_0 rfl (lv_at hl 0 rfl) ?_
  refine lv_iload_n hx hb dX10_in_1 rfl (lv_at hl 1 rfl) ?_
  refine z_icmp_lt (tgt := 14) hF dX10_in_2 (by decide) (by omega) (by omega) (fun c_1 => ?_) (fun c_1 => ?_)
  · have hc_2 := c_1
    refine z_iconst hF dX10_in_14 ?_
    rw [hQ]
    exact z_zret hF hr hlocks rfl () (by first | exact Or.inl ⟨by omega, rfl⟩ | exact Or.inr ⟨by omega, rfl⟩) hP hK hD hS dX10_in_15
  · have hc_2 := c_1
    refine lv_iload_n hx hb dX10_in_5 rfl (lv_at hl 0 rfl) ?_
    refine lv_iload_n hx hb dX10_in_6 rfl (lv_at hl 2 rfl) ?_
    refine z_icmp_gt (tgt := 14) hF dX10_in_7 (by decide) (by omega) (by omega) (fun c_2 => ?_) (fun c_2 => ?_)
    · have hc_7 := c_2
      refine z_iconst hF dX10_in_14 ?_
      rw [hQ]
      exact z_zret hF hr hlocks rfl () (by first | exact Or.inl ⟨by omega, rfl⟩ | exact Or.inr ⟨by omega, rfl⟩) hP hK hD hS dX10_in_15
    · have hc_7 := c_2
      refine z_iconst hF dX10_in_10 ?_
      refine z_goto (tgt := 15) hF dX10_in_11 (by decide) ?_
      rw [hQ]
      exact z_zret hF hr hlocks rfl () (by first | exact Or.inl ⟨by omega, rfl⟩ | exact Or.inr ⟨by omega, rfl⟩) hP hK hD hS dX10_in_15
set_option maxHeartbeats 4000000 in
set_option maxRecDepth 100000 in
theorem c_X10_on (l : Launch) (G : wG) (a0 n : Nat) (f : Int → Int) (oo sd pt : Int)  (hble_n : Nat.ble n 2147483648 = true) (hoo : 0 ≤ oo ∧ oo + 52 ≤ (n : Int)) (hsd : 0 ≤ sd ∧ sd ≤ 1) (hpt : 0 ≤ pt ∧ pt ≤ 25) (z9 : Nat) : Met l yX10_on wsX10_on (rmL 1 0 0) (wPc G [(a0, .inl (G.2.1.1, n, .inl (aI f)))] z9 [.ref a0, .int (zI oo), .int (zI sd), .int (zI pt)]) (wQi G (fun (r : Int32) (u : Unit) => r = zI (bk f oo (26 * sd + pt))) (fun (u : Unit) => [(a0, .inl (G.2.1.1, n, .inl (aI f)))]) (va_A [(a0, .inl (G.2.1.1, n, .inl (aI f)))] z9)) 0 0 (va_A [(a0, .inl (G.2.1.1, n, .inl (aI f)))] z9) := by
  refine z_ofW (Qc := fun A => wQi G (fun (r : Int32) (u : Unit) => r = zI (bk f oo (26 * sd + pt))) (fun (u : Unit) => [(a0, .inl (G.2.1.1, n, .inl (aI f)))]) A) l G [(a0, .inl (G.2.1.1, n, .inl (aI f)))] [.ref a0, .int (zI oo), .int (zI sd), .int (zI pt)] (by decide) rfl rfl ?_ z9
  intro p e s m args below meth c A ls H locs hF hr hlocks hinit hP hK hD hA hS hBd hl
  have hF : wFx p m c cX10_on 4 s args wsX10_on RX10 := hF
  have hl : lv_has ls 4 [(0, .ref a0), (1, .int (zI oo)), (2, .int (zI sd)), (3, .int (zI pt))] := hl
  have hx := hF.1
  have hb := hF.2.1
  obtain ⟨Q0, hQ⟩ : ∃ q, q = (MQ below (wQi G (fun (r : Int32) (u : Unit) => r = zI (bk f oo (26 * sd + pt))) (fun (u : Unit) => [(a0, .inl (G.2.1.1, n, .inl (aI f)))]) A) args s 0 0 A) := ⟨_, rfl⟩
  rw [← hQ]
  refine lv_aload_n hx hb dX10_on_0 rfl (lv_at hl 0 rfl) ?_
  refine lv_iload_n hx hb dX10_on_1 rfl (lv_at hl 1 rfl) ?_
  refine z_bipush hF dX10_on_2 (by decide) ?_
  refine lv_iload_n hx hb dX10_on_4 rfl (lv_at hl 2 rfl) ?_
  refine z_imul hF dX10_on_5 ?_
  refine z_iadd hF dX10_on_6 ?_
  refine lv_iload_n hx hb dX10_on_7 rfl (lv_at hl 3 rfl) ?_
  refine z_iadd hF dX10_on_8 ?_
  refine z_iald hF hK hP 0 rfl (by omega) hble_n dX10_on_9 ?_
  refine z_tz (b := (bk f oo (26 * sd + pt))) (bk_e (by omega) (by omega)) ?_
  rw [hQ]
  exact z_iret hF hr hlocks () (rfl) hP hK hD hS dX10_on_10
set_option maxHeartbeats 4000000 in
set_option maxRecDepth 100000 in
theorem c_X10_against (l : Launch) (G : wG) (a0 n : Nat) (f : Int → Int) (oo sd pt : Int)  (hble_n : Nat.ble n 2147483648 = true) (hoo : 0 ≤ oo ∧ oo + 52 ≤ (n : Int)) (hsd : 0 ≤ sd ∧ sd ≤ 1) (hpt : 0 ≤ pt ∧ pt ≤ 25) (z9 : Nat) : Met l yX10_against wsX10_against (rmL 1 0 0) (wPc G [(a0, .inl (G.2.1.1, n, .inl (aI f)))] z9 [.ref a0, .int (zI oo), .int (zI sd), .int (zI pt)]) (wQi G (fun (r : Int32) (u : Unit) => r = zI (bk f oo (26 * (1 - sd) + (25 - pt)))) (fun (u : Unit) => [(a0, .inl (G.2.1.1, n, .inl (aI f)))]) (va_A [(a0, .inl (G.2.1.1, n, .inl (aI f)))] z9)) 0 0 (va_A [(a0, .inl (G.2.1.1, n, .inl (aI f)))] z9) := by
  refine z_ofW (Qc := fun A => wQi G (fun (r : Int32) (u : Unit) => r = zI (bk f oo (26 * (1 - sd) + (25 - pt)))) (fun (u : Unit) => [(a0, .inl (G.2.1.1, n, .inl (aI f)))]) A) l G [(a0, .inl (G.2.1.1, n, .inl (aI f)))] [.ref a0, .int (zI oo), .int (zI sd), .int (zI pt)] (by decide) rfl rfl ?_ z9
  intro p e s m args below meth c A ls H locs hF hr hlocks hinit hP hK hD hA hS hBd hl
  have hF : wFx p m c cX10_against 4 s args wsX10_against RX10 := hF
  have hl : lv_has ls 4 [(0, .ref a0), (1, .int (zI oo)), (2, .int (zI sd)), (3, .int (zI pt))] := hl
  have hx := hF.1
  have hb := hF.2.1
  obtain ⟨Q0, hQ⟩ : ∃ q, q = (MQ below (wQi G (fun (r : Int32) (u : Unit) => r = zI (bk f oo (26 * (1 - sd) + (25 - pt)))) (fun (u : Unit) => [(a0, .inl (G.2.1.1, n, .inl (aI f)))]) A) args s 0 0 A) := ⟨_, rfl⟩
  rw [← hQ]
  refine lv_aload_n hx hb dX10_against_0 rfl (lv_at hl 0 rfl) ?_
  refine lv_iload_n hx hb dX10_against_1 rfl (lv_at hl 1 rfl) ?_
  refine z_bipush hF dX10_against_2 (by decide) ?_
  refine z_iconst hF dX10_against_4 ?_
  refine lv_iload_n hx hb dX10_against_5 rfl (lv_at hl 2 rfl) ?_
  refine z_isub hF dX10_against_6 ?_
  refine z_imul hF dX10_against_7 ?_
  refine z_iadd hF dX10_against_8 ?_
  refine z_bipush hF dX10_against_9 (by decide) ?_
  refine z_iadd hF dX10_against_11 ?_
  refine lv_iload_n hx hb dX10_against_12 rfl (lv_at hl 3 rfl) ?_
  refine z_isub hF dX10_against_13 ?_
  refine z_iald hF hK hP 0 rfl (by omega) hble_n dX10_against_14 ?_
  refine z_tz (b := (bk f oo (26 * (1 - sd) + (25 - pt)))) (bk_e (by omega) (by omega)) ?_
  rw [hQ]
  exact z_iret hF hr hlocks () (rfl) hP hK hD hS dX10_against_15
set_option maxHeartbeats 4000000 in
set_option maxRecDepth 100000 in
theorem c_X10_canMove (l : Launch) (G : wG) (a0 n : Nat) (f : Int → Int) (oo sd fr d : Int)  (hble_n : Nat.ble n 2147483648 = true) (hoo : 0 ≤ oo ∧ oo + 52 ≤ (n : Int)) (hsd : 0 ≤ sd ∧ sd ≤ 1) (hd6 : 1 ≤ d ∧ d ≤ 6) (hokk : okB (bk f oo)) (hr_fr : -2147483648 ≤ fr ∧ fr < 2147483648) (z9 : Nat) : Met l yX10_canMove wsX10_canMove (rmL 3 0 0) (wPc G [(a0, .inl (G.2.1.1, n, .inl (aI f)))] z9 [.ref a0, .int (zI oo), .int (zI sd), .int (zI fr), .int (zI d)]) (wQi G (fun (r : Int32) (u : Unit) => (canP (bk f oo) sd fr d ∧ r = zI 1) ∨ (¬ (canP (bk f oo) sd fr d) ∧ r = zI 0)) (fun (u : Unit) => [(a0, .inl (G.2.1.1, n, .inl (aI f)))]) (va_A [(a0, .inl (G.2.1.1, n, .inl (aI f)))] z9)) 0 0 (va_A [(a0, .inl (G.2.1.1, n, .inl (aI f)))] z9) := by
  refine z_ofW (Qc := fun A => wQi G (fun (r : Int32) (u : Unit) => (canP (bk f oo) sd fr d ∧ r = zI 1) ∨ (¬ (canP (bk f oo) sd fr d) ∧ r = zI 0)) (fun (u : Unit) => [(a0, .inl (G.2.1.1, n, .inl (aI f)))]) A) l G [(a0, .inl (G.2.1.1, n, .inl (aI f)))] [.ref a0, .int (zI oo), .int (zI sd), .int (zI fr), .int (zI d)] (by decide) rfl rfl ?_ z9
  intro p e s m args below meth c A ls H locs hF hr hlocks hinit hP hK hD hA hS hBd hl
  have hF : wFx p m c cX10_canMove 6 s args wsX10_canMove RX10 := hF
  have hl : lv_has ls 6 [(0, .ref a0), (1, .int (zI oo)), (2, .int (zI sd)), (3, .int (zI fr)), (4, .int (zI d))] := hl
  have hx := hF.1
  have hb := hF.2.1
  obtain ⟨Q0, hQ⟩ : ∃ q, q = (MQ below (wQi G (fun (r : Int32) (u : Unit) => (canP (bk f oo) sd fr d ∧ r = zI 1) ∨ (¬ (canP (bk f oo) sd fr d) ∧ r = zI 0)) (fun (u : Unit) => [(a0, .inl (G.2.1.1, n, .inl (aI f)))]) A) args s 0 0 A) := ⟨_, rfl⟩
  rw [← hQ]
  refine lv_iload_n hx hb dX10_canMove_0 rfl (lv_at hl 3 rfl) ?_
  refine z_iconst hF dX10_canMove_1 ?_
  refine z_bipush hF dX10_canMove_2 (by decide) ?_
  refine cj_i (va_runS (As := [.int (zI fr), .int (zI 1), .int (zI 25)]) (rest := []) hF (c_X10_in l G fr 1 25  (by omega) (by omega) (by omega) H.size) (va_cwS 3 hF.2.2.2.2 gX10_canMove_X10_in rfl rfl rfl (by decide +kernel) ⟨Nat.le_of_ble_eq_true rfl, Nat.le_of_ble_eq_true rfl⟩) (z_preS hK hP hD hS hA hBd [] rfl rfl [.int (zI fr), .int (zI 1), .int (zI 25)]) rfl rfl hl.1 rfl (lv_room (Nat.le_of_ble_eq_true rfl)) dX10_canMove_4 ⟨Nat.le_of_ble_eq_true rfl, Nat.le_of_ble_eq_true rfl⟩) hP hD hS hA [] rfl (fun _ => Nat.le_of_ble_eq_true rfl) (fun r_2 u_1 H locs hw hP hD hS => ?_)
  have hP : va_P G.1 vwCl [(a0, .inl (G.2.1.1, n, .inl (aI f)))] H := hP
  have hD : va_D A [(a0, .inl (G.2.1.1, n, .inl (aI f)))] := hD
  rcases hw with ⟨h_3, rfl⟩ | ⟨h_4, rfl⟩
  · skip
    refine z_if_eq (tgt := 37) hF dX10_canMove_7 (by decide) (by decide) (fun c_5 => ?_) (fun c_5 => ?_)
    · exact absurd c_5 (by decide)
    · have hc_7 := c_5
      refine lv_aload_n hx hb dX10_canMove_10 rfl (lv_at hl 0 rfl) ?_
      refine lv_iload_n hx hb dX10_canMove_11 rfl (lv_at hl 1 rfl) ?_
      refine lv_iload_n hx hb dX10_canMove_12 rfl (lv_at hl 2 rfl) ?_
      refine lv_iload_n hx hb dX10_canMove_13 rfl (lv_at hl 3 rfl) ?_
      refine cj_i (va_runS (As := [.ref a0, .int (zI oo), .int (zI sd), .int (zI fr)]) (rest := []) hF (c_X10_on l G a0 n f oo sd fr  (by first | exact rfl | assumption) (by omega) (by omega) (by omega) H.size) (va_cwS 4 hF.2.2.2.2 gX10_canMove_X10_on rfl rfl rfl (by decide +kernel) ⟨Nat.le_of_ble_eq_true rfl, Nat.le_of_ble_eq_true rfl⟩) (z_preS hK hP hD hS hA hBd [0] rfl rfl [.ref a0, .int (zI oo), .int (zI sd), .int (zI fr)]) rfl rfl hl.1 rfl (lv_room (Nat.le_of_ble_eq_true rfl)) dX10_canMove_14 ⟨Nat.le_of_ble_eq_true rfl, Nat.le_of_ble_eq_true rfl⟩) hP hD hS hA [0] rfl (fun _ => Nat.le_of_ble_eq_true rfl) (fun r_7 u_6 H locs hw hP hD hS => ?_)
      have hP : va_P G.1 vwCl [(a0, .inl (G.2.1.1, n, .inl (aI f)))] H := hP
      have hD : va_D A [(a0, .inl (G.2.1.1, n, .inl (aI f)))] := hD
      obtain rfl := hw
      have q2 := hokk (26 * sd + fr)
      refine z_if_eq (tgt := 37) hF dX10_canMove_17 (by decide) (by have := hokk (26 * sd + fr); omega) (fun c_8 => ?_) (fun c_8 => ?_)
      · have hc_17 := c_8
        refine z_iconst hF dX10_canMove_37 ?_
        rw [hQ]
        exact z_zret hF hr hlocks rfl () (by unfold canP; first | exact Or.inr ⟨by omega, rfl⟩ | exact Or.inl ⟨by omega, rfl⟩) hP hK hD hS dX10_canMove_38
      · have hc_17 := c_8
        refine lv_iload_n hx hb dX10_canMove_20 rfl (lv_at hl 3 rfl) ?_
        refine z_bipush hF dX10_canMove_21 (by decide) ?_
        refine z_icmp_eq (tgt := 39) hF dX10_canMove_23 (by decide) (by omega) (by decide) (fun c_9 => ?_) (fun c_9 => ?_)
        · have hc_23 := c_9
          refine lv_iload_n hx hb dX10_canMove_39 rfl (lv_at hl 3 rfl) ?_
          refine lv_iload hx hb dX10_canMove_40 (lv_at hl 4 rfl) ?_
          refine z_icmp_le (tgt := 65) hF dX10_canMove_42 (by decide) (by omega) (by omega) (fun c_10 => ?_) (fun c_10 => ?_)
          · have hc_42 := c_10
            have q3 := far_rg (bk f oo) sd
            refine z_bipush hF dX10_canMove_65 (by decide) ?_
            refine lv_istore (lv' := [(5, .int (zI 25)), (0, .ref a0), (1, .int (zI oo)), (2, .int (zI sd)), (3, .int (zI fr)), (4, .int (zI d))]) hx hb dX10_canMove_67 hl (by decide) rfl (fun ls hl => ?_)
            have L69 : ∀ (n9 : Nat) (i : Int), i.toNat < n9 → (1 ≤ i ∧ i ≤ 25) → fr ≤ i → far (bk f oo) sd = farZ (bk f oo) sd i → ∀ (H : Heap) (locs : List Loc) (ls : Array Slot), va_P G.1 vwCl [(a0, .inl (G.2.1.1, n, .inl (aI f)))] H → va_D A [(a0, .inl (G.2.1.1, n, .inl (aI f)))] → va_S A s.heap H locs → lv_has ls 6 [(0, .ref a0), (1, .int (zI oo)), (2, .int (zI sd)), (3, .int (zI fr)), (4, .int (zI d)), (5, .int (zI i))] → W p l e (rmL 3 0 0) s m args below meth c H locs 0 0 Q0 (F0 m 69 ls []) := by
              intro n9
              induction n9 with
              | zero => intro i hmu; omega
              | succ n9 ih69 =>
                intro i hmu69 hzi hfri hfa H locs ls hP hD hS hl
                refine lv_aload_n hx hb dX10_canMove_69 rfl (lv_at hl 0 rfl) ?_
                have q4 := hokk (26 * sd + i)
                refine lv_iload_n hx hb dX10_canMove_70 rfl (lv_at hl 1 rfl) ?_
                refine lv_iload_n hx hb dX10_canMove_71 rfl (lv_at hl 2 rfl) ?_
                refine lv_iload hx hb dX10_canMove_72 (lv_at hl 5 rfl) ?_
                refine cj_i (va_runS (As := [.ref a0, .int (zI oo), .int (zI sd), .int (zI i)]) (rest := []) hF (c_X10_on l G a0 n f oo sd i  (by first | exact rfl | assumption) (by omega) (by omega) (by omega) H.size) (va_cwS 4 hF.2.2.2.2 gX10_canMove_X10_on rfl rfl rfl (by decide +kernel) ⟨Nat.le_of_ble_eq_true rfl, Nat.le_of_ble_eq_true rfl⟩) (z_preS hK hP hD hS hA hBd [0] rfl rfl [.ref a0, .int (zI oo), .int (zI sd), .int (zI i)]) rfl rfl hl.1 rfl (lv_room (Nat.le_of_ble_eq_true rfl)) dX10_canMove_74 ⟨Nat.le_of_ble_eq_true rfl, Nat.le_of_ble_eq_true rfl⟩) hP hD hS hA [0] rfl (fun _ => Nat.le_of_ble_eq_true rfl) (fun r_12 u_11 H locs hw hP hD hS => ?_)
                have hP : va_P G.1 vwCl [(a0, .inl (G.2.1.1, n, .inl (aI f)))] H := hP
                have hD : va_D A [(a0, .inl (G.2.1.1, n, .inl (aI f)))] := hD
                obtain rfl := hw
                refine z_if_ne (tgt := 86) hF dX10_canMove_77 (by decide) (by have := hokk (26 * sd + i); omega) (fun c_13 => ?_) (fun c_13 => ?_)
                · have hc_77 := c_13
                  have q5 : far (bk f oo) sd = i := by rw [hfa, farZ_hit (by omega) (by omega)]
                  refine lv_iload hx hb dX10_canMove_86 (lv_at hl 5 rfl) ?_
                  refine z_bipush hF dX10_canMove_88 (by decide) ?_
                  refine z_icmp_gt (tgt := 109) hF dX10_canMove_90 (by decide) (by omega) (by decide) (fun c_14 => ?_) (fun c_14 => ?_)
                  · have hc_90 := c_14
                    refine z_iconst hF dX10_canMove_109 ?_
                    rw [hQ]
                    exact z_zret hF hr hlocks rfl () (by unfold canP; first | exact Or.inr ⟨by omega, rfl⟩ | exact Or.inl ⟨by omega, rfl⟩) hP hK hD hS dX10_canMove_110
                  · have hc_90 := c_14
                    refine lv_iload_n hx hb dX10_canMove_93 rfl (lv_at hl 3 rfl) ?_
                    refine lv_iload hx hb dX10_canMove_94 (lv_at hl 4 rfl) ?_
                    refine z_icmp_eq (tgt := 105) hF dX10_canMove_96 (by decide) (by omega) (by omega) (fun c_15 => ?_) (fun c_15 => ?_)
                    · have hc_96 := c_15
                      refine z_iconst hF dX10_canMove_105 ?_
                      refine z_goto (tgt := 110) hF dX10_canMove_106 (by decide) ?_
                      rw [hQ]
                      exact z_zret hF hr hlocks rfl () (by unfold canP; first | exact Or.inr ⟨by omega, rfl⟩ | exact Or.inl ⟨by omega, rfl⟩) hP hK hD hS dX10_canMove_110
                    · have hc_96 := c_15
                      refine lv_iload hx hb dX10_canMove_99 (lv_at hl 5 rfl) ?_
                      refine lv_iload_n hx hb dX10_canMove_101 rfl (lv_at hl 3 rfl) ?_
                      refine z_icmp_ne (tgt := 109) hF dX10_canMove_102 (by decide) (by omega) (by omega) (fun c_16 => ?_) (fun c_16 => ?_)
                      · have hc_102 := c_16
                        refine z_iconst hF dX10_canMove_109 ?_
                        rw [hQ]
                        exact z_zret hF hr hlocks rfl () (by unfold canP; first | exact Or.inr ⟨by omega, rfl⟩ | exact Or.inl ⟨by omega, rfl⟩) hP hK hD hS dX10_canMove_110
                      · have hc_102 := c_16
                        refine z_iconst hF dX10_canMove_105 ?_
                        refine z_goto (tgt := 110) hF dX10_canMove_106 (by decide) ?_
                        rw [hQ]
                        exact z_zret hF hr hlocks rfl () (by unfold canP; first | exact Or.inr ⟨by omega, rfl⟩ | exact Or.inl ⟨by omega, rfl⟩) hP hK hD hS dX10_canMove_110
                · have hc_77 := c_13
                  refine z_iinc (lv' := [(5, .int (zI (i + (-1)))), (0, .ref a0), (1, .int (zI oo)), (2, .int (zI sd)), (3, .int (zI fr)), (4, .int (zI d))]) hF dX10_canMove_80 hl (k := 5) rfl (by decide) rfl (fun ls hl => ?_)
                  refine z_goto (tgt := 69) hF dX10_canMove_83 (by decide) ?_
                  exact ih69 (i + (-1)) (by omega) (by have h8 : fr ≠ i := (fun h9 => by subst h9; omega); omega) (by have h8 : fr ≠ i := (fun h9 => by subst h9; omega); omega) (by first | rfl | exact hfa.trans (farZ_miss (by omega) (by omega))) H locs ls hP hD hS (lv_sub hl [1, 2, 3, 4, 5, 0] rfl)
            exact L69 _ 25 (Nat.lt_succ_self _) (by omega) (by omega) (by first | rfl | exact hfa.trans (farZ_miss (by omega) (by omega))) H locs ls hP hD hS (lv_sub hl [1, 2, 3, 4, 5, 0] rfl)
          · have hc_42 := c_10
            refine lv_aload_n hx hb dX10_canMove_45 rfl (lv_at hl 0 rfl) ?_
            refine lv_iload_n hx hb dX10_canMove_46 rfl (lv_at hl 1 rfl) ?_
            refine lv_iload_n hx hb dX10_canMove_47 rfl (lv_at hl 2 rfl) ?_
            refine lv_iload_n hx hb dX10_canMove_48 rfl (lv_at hl 3 rfl) ?_
            refine lv_iload hx hb dX10_canMove_49 (lv_at hl 4 rfl) ?_
            refine z_isub hF dX10_canMove_51 ?_
            refine cj_i (va_runS (As := [.ref a0, .int (zI oo), .int (zI sd), .int (zI (fr - d))]) (rest := []) hF (c_X10_against l G a0 n f oo sd (fr - d)  (by first | exact rfl | assumption) (by omega) (by omega) (by omega) H.size) (va_cwS 4 hF.2.2.2.2 gX10_canMove_X10_against rfl rfl rfl (by decide +kernel) ⟨Nat.le_of_ble_eq_true rfl, Nat.le_of_ble_eq_true rfl⟩) (z_preS hK hP hD hS hA hBd [0] rfl rfl [.ref a0, .int (zI oo), .int (zI sd), .int (zI (fr - d))]) rfl rfl hl.1 rfl (lv_room (Nat.le_of_ble_eq_true rfl)) dX10_canMove_52 ⟨Nat.le_of_ble_eq_true rfl, Nat.le_of_ble_eq_true rfl⟩) hP hD hS hA [0] rfl (fun _ => Nat.le_of_ble_eq_true rfl) (fun r_18 u_17 H locs hw hP hD hS => ?_)
            have hP : va_P G.1 vwCl [(a0, .inl (G.2.1.1, n, .inl (aI f)))] H := hP
            have hD : va_D A [(a0, .inl (G.2.1.1, n, .inl (aI f)))] := hD
            obtain rfl := hw
            refine z_iconst hF dX10_canMove_55 ?_
            refine z_icmp_ge (tgt := 63) hF dX10_canMove_56 (by decide) (by have := hokk (26 * (1 - sd) + (25 - (fr - d))); omega) (by decide) (fun c_19 => ?_) (fun c_19 => ?_)
            · have hc_56 := c_19
              refine z_iconst hF dX10_canMove_63 ?_
              rw [hQ]
              exact z_zret hF hr hlocks rfl () (by unfold canP; first | exact Or.inr ⟨by omega, rfl⟩ | exact Or.inl ⟨by omega, rfl⟩) hP hK hD hS dX10_canMove_64
            · have hc_56 := c_19
              refine z_iconst hF dX10_canMove_59 ?_
              refine z_goto (tgt := 64) hF dX10_canMove_60 (by decide) ?_
              rw [hQ]
              exact z_zret hF hr hlocks rfl () (by unfold canP; first | exact Or.inr ⟨by omega, rfl⟩ | exact Or.inl ⟨by omega, rfl⟩) hP hK hD hS dX10_canMove_64
        · have hc_23 := c_9
          refine lv_aload_n hx hb dX10_canMove_26 rfl (lv_at hl 0 rfl) ?_
          refine lv_iload_n hx hb dX10_canMove_27 rfl (lv_at hl 1 rfl) ?_
          refine lv_iload_n hx hb dX10_canMove_28 rfl (lv_at hl 2 rfl) ?_
          refine z_bipush hF dX10_canMove_29 (by decide) ?_
          refine cj_i (va_runS (As := [.ref a0, .int (zI oo), .int (zI sd), .int (zI 25)]) (rest := []) hF (c_X10_on l G a0 n f oo sd 25  (by first | exact rfl | assumption) (by omega) (by omega) (by omega) H.size) (va_cwS 4 hF.2.2.2.2 gX10_canMove_X10_on rfl rfl rfl (by decide +kernel) ⟨Nat.le_of_ble_eq_true rfl, Nat.le_of_ble_eq_true rfl⟩) (z_preS hK hP hD hS hA hBd [0] rfl rfl [.ref a0, .int (zI oo), .int (zI sd), .int (zI 25)]) rfl rfl hl.1 rfl (lv_room (Nat.le_of_ble_eq_true rfl)) dX10_canMove_31 ⟨Nat.le_of_ble_eq_true rfl, Nat.le_of_ble_eq_true rfl⟩) hP hD hS hA [0] rfl (fun _ => Nat.le_of_ble_eq_true rfl) (fun r_21 u_20 H locs hw hP hD hS => ?_)
          have hP : va_P G.1 vwCl [(a0, .inl (G.2.1.1, n, .inl (aI f)))] H := hP
          have hD : va_D A [(a0, .inl (G.2.1.1, n, .inl (aI f)))] := hD
          obtain rfl := hw
          refine z_if_le (tgt := 39) hF dX10_canMove_34 (by decide) (by have := hokk (26 * sd + 25); omega) (fun c_22 => ?_) (fun c_22 => ?_)
          · have hc_34 := c_22
            refine lv_iload_n hx hb dX10_canMove_39 rfl (lv_at hl 3 rfl) ?_
            refine lv_iload hx hb dX10_canMove_40 (lv_at hl 4 rfl) ?_
            refine z_icmp_le (tgt := 65) hF dX10_canMove_42 (by decide) (by omega) (by omega) (fun c_23 => ?_) (fun c_23 => ?_)
            · have hc_42 := c_23
              have q3 := far_rg (bk f oo) sd
              refine z_bipush hF dX10_canMove_65 (by decide) ?_
              refine lv_istore (lv' := [(5, .int (zI 25)), (0, .ref a0), (1, .int (zI oo)), (2, .int (zI sd)), (3, .int (zI fr)), (4, .int (zI d))]) hx hb dX10_canMove_67 hl (by decide) rfl (fun ls hl => ?_)
              have L69 : ∀ (n9 : Nat) (i : Int), i.toNat < n9 → (1 ≤ i ∧ i ≤ 25) → fr ≤ i → far (bk f oo) sd = farZ (bk f oo) sd i → ∀ (H : Heap) (locs : List Loc) (ls : Array Slot), va_P G.1 vwCl [(a0, .inl (G.2.1.1, n, .inl (aI f)))] H → va_D A [(a0, .inl (G.2.1.1, n, .inl (aI f)))] → va_S A s.heap H locs → lv_has ls 6 [(0, .ref a0), (1, .int (zI oo)), (2, .int (zI sd)), (3, .int (zI fr)), (4, .int (zI d)), (5, .int (zI i))] → W p l e (rmL 3 0 0) s m args below meth c H locs 0 0 Q0 (F0 m 69 ls []) := by
                intro n9
                induction n9 with
                | zero => intro i hmu; omega
                | succ n9 ih69 =>
                  intro i hmu69 hzi hfri hfa H locs ls hP hD hS hl
                  refine lv_aload_n hx hb dX10_canMove_69 rfl (lv_at hl 0 rfl) ?_
                  have q4 := hokk (26 * sd + i)
                  refine lv_iload_n hx hb dX10_canMove_70 rfl (lv_at hl 1 rfl) ?_
                  refine lv_iload_n hx hb dX10_canMove_71 rfl (lv_at hl 2 rfl) ?_
                  refine lv_iload hx hb dX10_canMove_72 (lv_at hl 5 rfl) ?_
                  refine cj_i (va_runS (As := [.ref a0, .int (zI oo), .int (zI sd), .int (zI i)]) (rest := []) hF (c_X10_on l G a0 n f oo sd i  (by first | exact rfl | assumption) (by omega) (by omega) (by omega) H.size) (va_cwS 4 hF.2.2.2.2 gX10_canMove_X10_on rfl rfl rfl (by decide +kernel) ⟨Nat.le_of_ble_eq_true rfl, Nat.le_of_ble_eq_true rfl⟩) (z_preS hK hP hD hS hA hBd [0] rfl rfl [.ref a0, .int (zI oo), .int (zI sd), .int (zI i)]) rfl rfl hl.1 rfl (lv_room (Nat.le_of_ble_eq_true rfl)) dX10_canMove_74 ⟨Nat.le_of_ble_eq_true rfl, Nat.le_of_ble_eq_true rfl⟩) hP hD hS hA [0] rfl (fun _ => Nat.le_of_ble_eq_true rfl) (fun r_25 u_24 H locs hw hP hD hS => ?_)
                  have hP : va_P G.1 vwCl [(a0, .inl (G.2.1.1, n, .inl (aI f)))] H := hP
                  have hD : va_D A [(a0, .inl (G.2.1.1, n, .inl (aI f)))] := hD
                  obtain rfl := hw
                  refine z_if_ne (tgt := 86) hF dX10_canMove_77 (by decide) (by have := hokk (26 * sd + i); omega) (fun c_26 => ?_) (fun c_26 => ?_)
                  · have hc_77 := c_26
                    have q5 : far (bk f oo) sd = i := by rw [hfa, farZ_hit (by omega) (by omega)]
                    refine lv_iload hx hb dX10_canMove_86 (lv_at hl 5 rfl) ?_
                    refine z_bipush hF dX10_canMove_88 (by decide) ?_
                    refine z_icmp_gt (tgt := 109) hF dX10_canMove_90 (by decide) (by omega) (by decide) (fun c_27 => ?_) (fun c_27 => ?_)
                    · have hc_90 := c_27
                      refine z_iconst hF dX10_canMove_109 ?_
                      rw [hQ]
                      exact z_zret hF hr hlocks rfl () (by unfold canP; first | exact Or.inr ⟨by omega, rfl⟩ | exact Or.inl ⟨by omega, rfl⟩) hP hK hD hS dX10_canMove_110
                    · have hc_90 := c_27
                      refine lv_iload_n hx hb dX10_canMove_93 rfl (lv_at hl 3 rfl) ?_
                      refine lv_iload hx hb dX10_canMove_94 (lv_at hl 4 rfl) ?_
                      refine z_icmp_eq (tgt := 105) hF dX10_canMove_96 (by decide) (by omega) (by omega) (fun c_28 => ?_) (fun c_28 => ?_)
                      · have hc_96 := c_28
                        refine z_iconst hF dX10_canMove_105 ?_
                        refine z_goto (tgt := 110) hF dX10_canMove_106 (by decide) ?_
                        rw [hQ]
                        exact z_zret hF hr hlocks rfl () (by unfold canP; first | exact Or.inr ⟨by omega, rfl⟩ | exact Or.inl ⟨by omega, rfl⟩) hP hK hD hS dX10_canMove_110
                      · have hc_96 := c_28
                        refine lv_iload hx hb dX10_canMove_99 (lv_at hl 5 rfl) ?_
                        refine lv_iload_n hx hb dX10_canMove_101 rfl (lv_at hl 3 rfl) ?_
                        refine z_icmp_ne (tgt := 109) hF dX10_canMove_102 (by decide) (by omega) (by omega) (fun c_29 => ?_) (fun c_29 => ?_)
                        · have hc_102 := c_29
                          refine z_iconst hF dX10_canMove_109 ?_
                          rw [hQ]
                          exact z_zret hF hr hlocks rfl () (by unfold canP; first | exact Or.inr ⟨by omega, rfl⟩ | exact Or.inl ⟨by omega, rfl⟩) hP hK hD hS dX10_canMove_110
                        · have hc_102 := c_29
                          refine z_iconst hF dX10_canMove_105 ?_
                          refine z_goto (tgt := 110) hF dX10_canMove_106 (by decide) ?_
                          rw [hQ]
                          exact z_zret hF hr hlocks rfl () (by unfold canP; first | exact Or.inr ⟨by omega, rfl⟩ | exact Or.inl ⟨by omega, rfl⟩) hP hK hD hS dX10_canMove_110
                  · have hc_77 := c_26
                    refine z_iinc (lv' := [(5, .int (zI (i + (-1)))), (0, .ref a0), (1, .int (zI oo)), (2, .int (zI sd)), (3, .int (zI fr)), (4, .int (zI d))]) hF dX10_canMove_80 hl (k := 5) rfl (by decide) rfl (fun ls hl => ?_)
                    refine z_goto (tgt := 69) hF dX10_canMove_83 (by decide) ?_
                    exact ih69 (i + (-1)) (by omega) (by have h8 : fr ≠ i := (fun h9 => by subst h9; omega); omega) (by have h8 : fr ≠ i := (fun h9 => by subst h9; omega); omega) (by first | rfl | exact hfa.trans (farZ_miss (by omega) (by omega))) H locs ls hP hD hS (lv_sub hl [1, 2, 3, 4, 5, 0] rfl)
              exact L69 _ 25 (Nat.lt_succ_self _) (by omega) (by omega) (by first | rfl | exact hfa.trans (farZ_miss (by omega) (by omega))) H locs ls hP hD hS (lv_sub hl [1, 2, 3, 4, 5, 0] rfl)
            · have hc_42 := c_23
              refine lv_aload_n hx hb dX10_canMove_45 rfl (lv_at hl 0 rfl) ?_
              refine lv_iload_n hx hb dX10_canMove_46 rfl (lv_at hl 1 rfl) ?_
              refine lv_iload_n hx hb dX10_canMove_47 rfl (lv_at hl 2 rfl) ?_
              refine lv_iload_n hx hb dX10_canMove_48 rfl (lv_at hl 3 rfl) ?_
              refine lv_iload hx hb dX10_canMove_49 (lv_at hl 4 rfl) ?_
              refine z_isub hF dX10_canMove_51 ?_
              refine cj_i (va_runS (As := [.ref a0, .int (zI oo), .int (zI sd), .int (zI (fr - d))]) (rest := []) hF (c_X10_against l G a0 n f oo sd (fr - d)  (by first | exact rfl | assumption) (by omega) (by omega) (by omega) H.size) (va_cwS 4 hF.2.2.2.2 gX10_canMove_X10_against rfl rfl rfl (by decide +kernel) ⟨Nat.le_of_ble_eq_true rfl, Nat.le_of_ble_eq_true rfl⟩) (z_preS hK hP hD hS hA hBd [0] rfl rfl [.ref a0, .int (zI oo), .int (zI sd), .int (zI (fr - d))]) rfl rfl hl.1 rfl (lv_room (Nat.le_of_ble_eq_true rfl)) dX10_canMove_52 ⟨Nat.le_of_ble_eq_true rfl, Nat.le_of_ble_eq_true rfl⟩) hP hD hS hA [0] rfl (fun _ => Nat.le_of_ble_eq_true rfl) (fun r_31 u_30 H locs hw hP hD hS => ?_)
              have hP : va_P G.1 vwCl [(a0, .inl (G.2.1.1, n, .inl (aI f)))] H := hP
              have hD : va_D A [(a0, .inl (G.2.1.1, n, .inl (aI f)))] := hD
              obtain rfl := hw
              refine z_iconst hF dX10_canMove_55 ?_
              refine z_icmp_ge (tgt := 63) hF dX10_canMove_56 (by decide) (by have := hokk (26 * (1 - sd) + (25 - (fr - d))); omega) (by decide) (fun c_32 => ?_) (fun c_32 => ?_)
              · have hc_56 := c_32
                refine z_iconst hF dX10_canMove_63 ?_
                rw [hQ]
                exact z_zret hF hr hlocks rfl () (by unfold canP; first | exact Or.inr ⟨by omega, rfl⟩ | exact Or.inl ⟨by omega, rfl⟩) hP hK hD hS dX10_canMove_64
              · have hc_56 := c_32
                refine z_iconst hF dX10_canMove_59 ?_
                refine z_goto (tgt := 64) hF dX10_canMove_60 (by decide) ?_
                rw [hQ]
                exact z_zret hF hr hlocks rfl () (by unfold canP; first | exact Or.inr ⟨by omega, rfl⟩ | exact Or.inl ⟨by omega, rfl⟩) hP hK hD hS dX10_canMove_64
          · have hc_34 := c_22
            refine z_iconst hF dX10_canMove_37 ?_
            rw [hQ]
            exact z_zret hF hr hlocks rfl () (by unfold canP; first | exact Or.inr ⟨by omega, rfl⟩ | exact Or.inl ⟨by omega, rfl⟩) hP hK hD hS dX10_canMove_38
  · skip
    refine z_if_eq (tgt := 37) hF dX10_canMove_7 (by decide) (by decide) (fun c_33 => ?_) (fun c_33 => ?_)
    · have hc_7 := c_33
      refine z_iconst hF dX10_canMove_37 ?_
      rw [hQ]
      exact z_zret hF hr hlocks rfl () (by unfold canP; first | exact Or.inr ⟨by omega, rfl⟩ | exact Or.inl ⟨by omega, rfl⟩) hP hK hD hS dX10_canMove_38
    · exact absurd c_33 (by decide)
set_option maxHeartbeats 4000000 in
set_option maxRecDepth 100000 in
theorem c_X10_hits (l : Launch) (G : wG) (a0 n : Nat) (f : Int → Int) (oo sd fr d : Int)  (hble_n : Nat.ble n 2147483648 = true) (hoo : 0 ≤ oo ∧ oo + 52 ≤ (n : Int)) (hsd : 0 ≤ sd ∧ sd ≤ 1) (hd6 : 1 ≤ d ∧ d ≤ 6) (hfr : 1 ≤ fr ∧ fr ≤ 25) (hokk : okB (bk f oo)) (hlt2 : d < fr → bk f oo (26 * (1 - sd) + (25 - (fr - d))) < 2) (z9 : Nat) : Met l yX10_hits wsX10_hits (rmL 2 0 0) (wPc G [(a0, .inl (G.2.1.1, n, .inl (aI f)))] z9 [.ref a0, .int (zI oo), .int (zI sd), .int (zI fr), .int (zI d)]) (wQi G (fun (r : Int32) (u : Unit) => (hitP (bk f oo) sd fr d ∧ r = zI 1) ∨ (¬ (hitP (bk f oo) sd fr d) ∧ r = zI 0)) (fun (u : Unit) => [(a0, .inl (G.2.1.1, n, .inl (aI f)))]) (va_A [(a0, .inl (G.2.1.1, n, .inl (aI f)))] z9)) 0 0 (va_A [(a0, .inl (G.2.1.1, n, .inl (aI f)))] z9) := by
  refine z_ofW (Qc := fun A => wQi G (fun (r : Int32) (u : Unit) => (hitP (bk f oo) sd fr d ∧ r = zI 1) ∨ (¬ (hitP (bk f oo) sd fr d) ∧ r = zI 0)) (fun (u : Unit) => [(a0, .inl (G.2.1.1, n, .inl (aI f)))]) A) l G [(a0, .inl (G.2.1.1, n, .inl (aI f)))] [.ref a0, .int (zI oo), .int (zI sd), .int (zI fr), .int (zI d)] (by decide) rfl rfl ?_ z9
  intro p e s m args below meth c A ls H locs hF hr hlocks hinit hP hK hD hA hS hBd hl
  have hF : wFx p m c cX10_hits 5 s args wsX10_hits RX10 := hF
  have hl : lv_has ls 5 [(0, .ref a0), (1, .int (zI oo)), (2, .int (zI sd)), (3, .int (zI fr)), (4, .int (zI d))] := hl
  have hx := hF.1
  have hb := hF.2.1
  obtain ⟨Q0, hQ⟩ : ∃ q, q = (MQ below (wQi G (fun (r : Int32) (u : Unit) => (hitP (bk f oo) sd fr d ∧ r = zI 1) ∨ (¬ (hitP (bk f oo) sd fr d) ∧ r = zI 0)) (fun (u : Unit) => [(a0, .inl (G.2.1.1, n, .inl (aI f)))]) A) args s 0 0 A) := ⟨_, rfl⟩
  rw [← hQ]
  refine lv_iload_n hx hb dX10_hits_0 rfl (lv_at hl 3 rfl) ?_
  refine lv_iload hx hb dX10_hits_1 (lv_at hl 4 rfl) ?_
  refine z_icmp_le (tgt := 24) hF dX10_hits_3 (by decide) (by omega) (by omega) (fun c_1 => ?_) (fun c_1 => ?_)
  · have hc_3 := c_1
    refine z_iconst hF dX10_hits_24 ?_
    rw [hQ]
    exact z_zret hF hr hlocks rfl () (by unfold hitP; first | exact Or.inr ⟨by omega, rfl⟩ | exact Or.inl ⟨by omega, rfl⟩) hP hK hD hS dX10_hits_25
  · have hc_3 := c_1
    have q2 := hokk (26 * (1 - sd) + (25 - (fr - d)))
    have q3 := hlt2 (by omega)
    refine lv_aload_n hx hb dX10_hits_6 rfl (lv_at hl 0 rfl) ?_
    refine lv_iload_n hx hb dX10_hits_7 rfl (lv_at hl 1 rfl) ?_
    refine lv_iload_n hx hb dX10_hits_8 rfl (lv_at hl 2 rfl) ?_
    refine lv_iload_n hx hb dX10_hits_9 rfl (lv_at hl 3 rfl) ?_
    refine lv_iload hx hb dX10_hits_10 (lv_at hl 4 rfl) ?_
    refine z_isub hF dX10_hits_12 ?_
    refine cj_i (va_runS (As := [.ref a0, .int (zI oo), .int (zI sd), .int (zI (fr - d))]) (rest := []) hF (c_X10_against l G a0 n f oo sd (fr - d)  (by first | exact rfl | assumption) (by omega) (by omega) (by omega) H.size) (va_cwS 4 hF.2.2.2.2 gX10_hits_X10_against rfl rfl rfl (by decide +kernel) ⟨Nat.le_of_ble_eq_true rfl, Nat.le_of_ble_eq_true rfl⟩) (z_preS hK hP hD hS hA hBd [0] rfl rfl [.ref a0, .int (zI oo), .int (zI sd), .int (zI (fr - d))]) rfl rfl hl.1 rfl (lv_room (Nat.le_of_ble_eq_true rfl)) dX10_hits_13 ⟨Nat.le_of_ble_eq_true rfl, Nat.le_of_ble_eq_true rfl⟩) hP hD hS hA [0] rfl (fun _ => Nat.le_of_ble_eq_true rfl) (fun r_3 u_2 H locs hw hP hD hS => ?_)
    have hP : va_P G.1 vwCl [(a0, .inl (G.2.1.1, n, .inl (aI f)))] H := hP
    have hD : va_D A [(a0, .inl (G.2.1.1, n, .inl (aI f)))] := hD
    obtain rfl := hw
    refine z_iconst hF dX10_hits_16 ?_
    refine z_icmp_ne (tgt := 24) hF dX10_hits_17 (by decide) (by have := hokk (26 * (1 - sd) + (25 - (fr - d))); omega) (by decide) (fun c_4 => ?_) (fun c_4 => ?_)
    · have hc_17 := c_4
      refine z_iconst hF dX10_hits_24 ?_
      rw [hQ]
      exact z_zret hF hr hlocks rfl () (by unfold hitP; first | exact Or.inr ⟨by omega, rfl⟩ | exact Or.inl ⟨by omega, rfl⟩) hP hK hD hS dX10_hits_25
    · have hc_17 := c_4
      refine z_iconst hF dX10_hits_20 ?_
      refine z_goto (tgt := 25) hF dX10_hits_21 (by decide) ?_
      rw [hQ]
      exact z_zret hF hr hlocks rfl () (by unfold hitP; first | exact Or.inr ⟨by omega, rfl⟩ | exact Or.inl ⟨by omega, rfl⟩) hP hK hD hS dX10_hits_25
set_option maxHeartbeats 4000000 in
set_option maxRecDepth 100000 in
theorem c_X10_move (l : Launch) (G : wG) (a0 n : Nat) (f : Int → Int) (oo sd fr d : Int)  (hble_n : Nat.ble n 2147483648 = true) (hoo : 0 ≤ oo ∧ oo + 52 ≤ (n : Int)) (hsd : 0 ≤ sd ∧ sd ≤ 1) (hd6 : 1 ≤ d ∧ d ≤ 6) (hfr : 1 ≤ fr ∧ fr ≤ 25) (hokk : okB (bk f oo)) (hlt2 : d < fr → bk f oo (26 * (1 - sd) + (25 - (fr - d))) < 2) (z9 : Nat) : Met l yX10_move wsX10_move (rmL 3 0 0) (wPc G [(a0, .inl (G.2.1.1, n, .inl (aI f)))] z9 [.ref a0, .int (zI oo), .int (zI sd), .int (zI fr), .int (zI d)]) (wQv G (fun (u : Unit) => True) (fun (u : Unit) => [(a0, .inl (G.2.1.1, n, .inl (aI (wb f oo (stp (bk f oo) sd fr d)))))]) (va_A [(a0, .inl (G.2.1.1, n, .inl (aI f)))] z9)) 0 0 (va_A [(a0, .inl (G.2.1.1, n, .inl (aI f)))] z9) := by
  refine z_ofW (Qc := fun A => wQv G (fun (u : Unit) => True) (fun (u : Unit) => [(a0, .inl (G.2.1.1, n, .inl (aI (wb f oo (stp (bk f oo) sd fr d)))))]) A) l G [(a0, .inl (G.2.1.1, n, .inl (aI f)))] [.ref a0, .int (zI oo), .int (zI sd), .int (zI fr), .int (zI d)] (by decide) rfl rfl ?_ z9
  intro p e s m args below meth c A ls H locs hF hr hlocks hinit hP hK hD hA hS hBd hl
  have hF : wFx p m c cX10_move 7 s args wsX10_move RX10 := hF
  have hl : lv_has ls 7 [(0, .ref a0), (1, .int (zI oo)), (2, .int (zI sd)), (3, .int (zI fr)), (4, .int (zI d))] := hl
  have hx := hF.1
  have hb := hF.2.1
  obtain ⟨Q0, hQ⟩ : ∃ q, q = (MQ below (wQv G (fun (u : Unit) => True) (fun (u : Unit) => [(a0, .inl (G.2.1.1, n, .inl (aI (wb f oo (stp (bk f oo) sd fr d)))))]) A) args s 0 0 A) := ⟨_, rfl⟩
  rw [← hQ]
  have qt : (d < fr ∧ toP fr d = fr - d) ∨ (fr ≤ d ∧ toP fr d = 0) := by unfold toP; split <;> omega
  refine lv_aload_n hx hb dX10_move_0 rfl (lv_at hl 0 rfl) ?_
  refine lv_iload_n hx hb dX10_move_1 rfl (lv_at hl 1 rfl) ?_
  refine lv_iload_n hx hb dX10_move_2 rfl (lv_at hl 2 rfl) ?_
  refine lv_iload_n hx hb dX10_move_3 rfl (lv_at hl 3 rfl) ?_
  refine lv_iload hx hb dX10_move_4 (lv_at hl 4 rfl) ?_
  refine cj_i (va_runS (As := [.ref a0, .int (zI oo), .int (zI sd), .int (zI fr), .int (zI d)]) (rest := []) hF (c_X10_hits l G a0 n f oo sd fr d  (by first | exact rfl | assumption) (by omega) (by omega) (by omega) (by omega) hokk hlt2 H.size) (va_cwS 5 hF.2.2.2.2 gX10_move_X10_hits rfl rfl rfl (by decide +kernel) ⟨Nat.le_of_ble_eq_true rfl, Nat.le_of_ble_eq_true rfl⟩) (z_preS hK hP hD hS hA hBd [0] rfl rfl [.ref a0, .int (zI oo), .int (zI sd), .int (zI fr), .int (zI d)]) rfl rfl hl.1 rfl (lv_room (Nat.le_of_ble_eq_true rfl)) dX10_move_6 ⟨Nat.le_of_ble_eq_true rfl, Nat.le_of_ble_eq_true rfl⟩) hP hD hS hA [0] rfl (fun _ => Nat.le_of_ble_eq_true rfl) (fun r_2 u_1 H locs hw hP hD hS => ?_)
  have hP : va_P G.1 vwCl [(a0, .inl (G.2.1.1, n, .inl (aI f)))] H := hP
  have hD : va_D A [(a0, .inl (G.2.1.1, n, .inl (aI f)))] := hD
  rcases hw with ⟨h_3, rfl⟩ | ⟨h_4, rfl⟩
  · skip
    have hw9 := h_3
    have hw8 := hw9.1
    refine lv_istore (lv' := [(5, .int (zI 1)), (0, .ref a0), (1, .int (zI oo)), (2, .int (zI sd)), (3, .int (zI fr)), (4, .int (zI d))]) hx hb dX10_move_9 hl (by decide) rfl (fun ls hl => ?_)
    refine lv_iload_n hx hb dX10_move_11 rfl (lv_at hl 4 rfl) ?_
    refine lv_iload hx hb dX10_move_12 (lv_at hl 5 rfl) ?_
    refine z_icmp_le (tgt := 24) hF dX10_move_14 (by decide) (by omega) (by omega) (fun c_5 => ?_) (fun c_5 => ?_)
    · have hc_14 := c_5
      refine z_iconst hF dX10_move_24 ?_
      refine lv_istore (lv' := [(6, .int (zI 0)), (5, .int (zI 1)), (0, .ref a0), (1, .int (zI oo)), (2, .int (zI sd)), (3, .int (zI fr)), (4, .int (zI d))]) hx hb dX10_move_25 hl (by decide) rfl (fun ls hl => ?_)
      refine lv_aload_n hx hb dX10_move_27 rfl (lv_at hl 2 rfl) ?_
      refine lv_iload_n hx hb dX10_move_28 rfl (lv_at hl 3 rfl) ?_
      refine z_bipush hF dX10_move_29 (by decide) ?_
      refine lv_iload_n hx hb dX10_move_31 rfl (lv_at hl 4 rfl) ?_
      refine z_imul hF dX10_move_32 ?_
      refine z_iadd hF dX10_move_33 ?_
      refine lv_iload_n hx hb dX10_move_34 rfl (lv_at hl 5 rfl) ?_
      refine z_iadd hF dX10_move_35 ?_
      refine lv_dup2_11 hx hb dX10_move_36 rfl rfl ?_
      refine z_iald hF hK hP 0 rfl (by omega) hble_n dX10_move_37 ?_
      refine z_tz (b := (bk f oo (26 * sd + fr))) (bk_e (by omega) (by omega)) ?_
      refine z_iconst hF dX10_move_38 ?_
      refine z_isub hF dX10_move_39 ?_
      refine z_iast hF hK hP hD hS 0 rfl (by omega) hble_n dX10_move_40 (fun H locs hP hD hS => ?_)
      have hP : va_P G.1 vwCl [(a0, .inl (G.2.1.1, n, .inl (aI (up f ((oo + (26 * sd)) + fr) ((bk f oo (26 * sd + fr)) - 1)))))] H := hP
      have hD : va_D A [(a0, .inl (G.2.1.1, n, .inl (aI (up f ((oo + (26 * sd)) + fr) ((bk f oo (26 * sd + fr)) - 1)))))] := hD
      rw [show up f ((oo + (26 * sd)) + fr) ((bk f oo (26 * sd + fr)) - 1) = wb f oo (up (bk f oo) (26 * sd + fr) (bk f oo (26 * sd + fr) + (-1))) from (wb_up0 (by omega) (by omega) (by omega))] at hP hD
      refine lv_aload_n hx hb dX10_move_41 rfl (lv_at hl 2 rfl) ?_
      refine lv_iload_n hx hb dX10_move_42 rfl (lv_at hl 3 rfl) ?_
      refine z_bipush hF dX10_move_43 (by decide) ?_
      refine lv_iload_n hx hb dX10_move_45 rfl (lv_at hl 4 rfl) ?_
      refine z_imul hF dX10_move_46 ?_
      refine z_iadd hF dX10_move_47 ?_
      refine lv_iload hx hb dX10_move_48 (lv_at hl 0 rfl) ?_
      refine z_iadd hF dX10_move_50 ?_
      refine lv_dup2_11 hx hb dX10_move_51 rfl rfl ?_
      refine z_iald hF hK hP 0 rfl (by omega) hble_n dX10_move_52 ?_
      refine z_tz (b := ((up (bk f oo) (26 * sd + fr) (bk f oo (26 * sd + fr) + (-1))) (26 * sd + toP fr d))) (wb_at (by omega) (by omega)) ?_
      refine z_iconst hF dX10_move_53 ?_
      refine z_iadd hF dX10_move_54 ?_
      refine z_iast hF hK hP hD hS 0 rfl (by omega) hble_n dX10_move_55 (fun H locs hP hD hS => ?_)
      have hP : va_P G.1 vwCl [(a0, .inl (G.2.1.1, n, .inl (aI (up (wb f oo (up (bk f oo) (26 * sd + fr) (bk f oo (26 * sd + fr) + (-1)))) ((oo + (26 * sd)) + 0) (((up (bk f oo) (26 * sd + fr) (bk f oo (26 * sd + fr) + (-1))) (26 * sd + toP fr d)) + 1)))))] H := hP
      have hD : va_D A [(a0, .inl (G.2.1.1, n, .inl (aI (up (wb f oo (up (bk f oo) (26 * sd + fr) (bk f oo (26 * sd + fr) + (-1)))) ((oo + (26 * sd)) + 0) (((up (bk f oo) (26 * sd + fr) (bk f oo (26 * sd + fr) + (-1))) (26 * sd + toP fr d)) + 1)))))] := hD
      rw [show up (wb f oo (up (bk f oo) (26 * sd + fr) (bk f oo (26 * sd + fr) + (-1)))) ((oo + (26 * sd)) + 0) (((up (bk f oo) (26 * sd + fr) (bk f oo (26 * sd + fr) + (-1))) (26 * sd + toP fr d)) + 1) = wb f oo (mvB (bk f oo) sd fr d) from (wb_up (k := 26 * sd + toP fr d) (by omega) (by omega) rfl)] at hP hD
      refine lv_iload hx hb dX10_move_56 (lv_at hl 1 rfl) ?_
      refine z_if_eq (tgt := 98) hF dX10_move_58 (by decide) (by decide) (fun c_6 => ?_) (fun c_6 => ?_)
      · exact absurd c_6 (by decide)
      · have hc_58 := c_6
        refine lv_aload_n hx hb dX10_move_61 rfl (lv_at hl 2 rfl) ?_
        refine lv_iload_n hx hb dX10_move_62 rfl (lv_at hl 3 rfl) ?_
        refine z_bipush hF dX10_move_63 (by decide) ?_
        refine z_iconst hF dX10_move_65 ?_
        refine lv_iload_n hx hb dX10_move_66 rfl (lv_at hl 4 rfl) ?_
        refine z_isub hF dX10_move_67 ?_
        refine z_imul hF dX10_move_68 ?_
        refine z_iadd hF dX10_move_69 ?_
        refine z_bipush hF dX10_move_70 (by decide) ?_
        refine z_iadd hF dX10_move_72 ?_
        refine lv_iload hx hb dX10_move_73 (lv_at hl 0 rfl) ?_
        refine z_isub hF dX10_move_75 ?_
        refine lv_dup2_11 hx hb dX10_move_76 rfl rfl ?_
        refine z_iald hF hK hP 0 rfl (by omega) hble_n dX10_move_77 ?_
        refine z_tz (b := ((mvB (bk f oo) sd fr d) (26 * (1 - sd) + (25 - toP fr d)))) (wb_at (by omega) (by omega)) ?_
        refine z_iconst hF dX10_move_78 ?_
        refine z_isub hF dX10_move_79 ?_
        refine z_iast hF hK hP hD hS 0 rfl (by omega) hble_n dX10_move_80 (fun H locs hP hD hS => ?_)
        have hP : va_P G.1 vwCl [(a0, .inl (G.2.1.1, n, .inl (aI (up (wb f oo (mvB (bk f oo) sd fr d)) (((oo + (26 * (1 - sd))) + 25) - 0) (((mvB (bk f oo) sd fr d) (26 * (1 - sd) + (25 - toP fr d))) - 1)))))] H := hP
        have hD : va_D A [(a0, .inl (G.2.1.1, n, .inl (aI (up (wb f oo (mvB (bk f oo) sd fr d)) (((oo + (26 * (1 - sd))) + 25) - 0) (((mvB (bk f oo) sd fr d) (26 * (1 - sd) + (25 - toP fr d))) - 1)))))] := hD
        rw [show up (wb f oo (mvB (bk f oo) sd fr d)) (((oo + (26 * (1 - sd))) + 25) - 0) (((mvB (bk f oo) sd fr d) (26 * (1 - sd) + (25 - toP fr d))) - 1) = wb f oo (up (mvB (bk f oo) sd fr d) (26 * (1 - sd) + (25 - toP fr d)) ((mvB (bk f oo) sd fr d) (26 * (1 - sd) + (25 - toP fr d)) + (-1))) from (wb_up (k := 26 * (1 - sd) + (25 - toP fr d)) (by omega) (by omega) (by omega))] at hP hD
        refine lv_aload_n hx hb dX10_move_81 rfl (lv_at hl 2 rfl) ?_
        refine lv_iload_n hx hb dX10_move_82 rfl (lv_at hl 3 rfl) ?_
        refine z_bipush hF dX10_move_83 (by decide) ?_
        refine z_iconst hF dX10_move_85 ?_
        refine lv_iload_n hx hb dX10_move_86 rfl (lv_at hl 4 rfl) ?_
        refine z_isub hF dX10_move_87 ?_
        refine z_imul hF dX10_move_88 ?_
        refine z_iadd hF dX10_move_89 ?_
        refine z_bipush hF dX10_move_90 (by decide) ?_
        refine z_iadd hF dX10_move_92 ?_
        refine lv_dup2_11 hx hb dX10_move_93 rfl rfl ?_
        refine z_iald hF hK hP 0 rfl (by omega) hble_n dX10_move_94 ?_
        refine z_tz (b := ((up (mvB (bk f oo) sd fr d) (26 * (1 - sd) + (25 - toP fr d)) ((mvB (bk f oo) sd fr d) (26 * (1 - sd) + (25 - toP fr d)) + (-1))) (26 * (1 - sd) + 25))) (wb_at (by omega) (by omega)) ?_
        refine z_iconst hF dX10_move_95 ?_
        refine z_iadd hF dX10_move_96 ?_
        refine z_iast hF hK hP hD hS 0 rfl (by omega) hble_n dX10_move_97 (fun H locs hP hD hS => ?_)
        have hP : va_P G.1 vwCl [(a0, .inl (G.2.1.1, n, .inl (aI (up (wb f oo (up (mvB (bk f oo) sd fr d) (26 * (1 - sd) + (25 - toP fr d)) ((mvB (bk f oo) sd fr d) (26 * (1 - sd) + (25 - toP fr d)) + (-1)))) ((oo + (26 * (1 - sd))) + 25) (((up (mvB (bk f oo) sd fr d) (26 * (1 - sd) + (25 - toP fr d)) ((mvB (bk f oo) sd fr d) (26 * (1 - sd) + (25 - toP fr d)) + (-1))) (26 * (1 - sd) + 25)) + 1)))))] H := hP
        have hD : va_D A [(a0, .inl (G.2.1.1, n, .inl (aI (up (wb f oo (up (mvB (bk f oo) sd fr d) (26 * (1 - sd) + (25 - toP fr d)) ((mvB (bk f oo) sd fr d) (26 * (1 - sd) + (25 - toP fr d)) + (-1)))) ((oo + (26 * (1 - sd))) + 25) (((up (mvB (bk f oo) sd fr d) (26 * (1 - sd) + (25 - toP fr d)) ((mvB (bk f oo) sd fr d) (26 * (1 - sd) + (25 - toP fr d)) + (-1))) (26 * (1 - sd) + 25)) + 1)))))] := hD
        rw [show up (wb f oo (up (mvB (bk f oo) sd fr d) (26 * (1 - sd) + (25 - toP fr d)) ((mvB (bk f oo) sd fr d) (26 * (1 - sd) + (25 - toP fr d)) + (-1)))) ((oo + (26 * (1 - sd))) + 25) (((up (mvB (bk f oo) sd fr d) (26 * (1 - sd) + (25 - toP fr d)) ((mvB (bk f oo) sd fr d) (26 * (1 - sd) + (25 - toP fr d)) + (-1))) (26 * (1 - sd) + 25)) + 1) = wb f oo (htB (mvB (bk f oo) sd fr d) (1 - sd) (25 - toP fr d)) from (wb_up (k := 26 * (1 - sd) + 25) (by omega) (by omega) rfl)] at hP hD
        rw [show wb f oo (htB (mvB (bk f oo) sd fr d) (1 - sd) (25 - toP fr d)) = wb f oo (stp (bk f oo) sd fr d) from congrArg (wb f oo) (stp_t hw9).symm] at hP hD
        rw [hQ]
        exact z_vret hF hr hlocks () (trivial) hP hK hD hS dX10_move_98
    · have hc_14 := c_5
      refine lv_iload_n hx hb dX10_move_17 rfl (lv_at hl 4 rfl) ?_
      refine lv_iload hx hb dX10_move_18 (lv_at hl 5 rfl) ?_
      refine z_isub hF dX10_move_20 ?_
      refine z_goto (tgt := 25) hF dX10_move_21 (by decide) ?_
      refine lv_istore (lv' := [(6, .int (zI (fr - d))), (5, .int (zI 1)), (0, .ref a0), (1, .int (zI oo)), (2, .int (zI sd)), (3, .int (zI fr)), (4, .int (zI d))]) hx hb dX10_move_25 hl (by decide) rfl (fun ls hl => ?_)
      refine lv_aload_n hx hb dX10_move_27 rfl (lv_at hl 2 rfl) ?_
      refine lv_iload_n hx hb dX10_move_28 rfl (lv_at hl 3 rfl) ?_
      refine z_bipush hF dX10_move_29 (by decide) ?_
      refine lv_iload_n hx hb dX10_move_31 rfl (lv_at hl 4 rfl) ?_
      refine z_imul hF dX10_move_32 ?_
      refine z_iadd hF dX10_move_33 ?_
      refine lv_iload_n hx hb dX10_move_34 rfl (lv_at hl 5 rfl) ?_
      refine z_iadd hF dX10_move_35 ?_
      refine lv_dup2_11 hx hb dX10_move_36 rfl rfl ?_
      refine z_iald hF hK hP 0 rfl (by omega) hble_n dX10_move_37 ?_
      refine z_tz (b := (bk f oo (26 * sd + fr))) (bk_e (by omega) (by omega)) ?_
      refine z_iconst hF dX10_move_38 ?_
      refine z_isub hF dX10_move_39 ?_
      refine z_iast hF hK hP hD hS 0 rfl (by omega) hble_n dX10_move_40 (fun H locs hP hD hS => ?_)
      have hP : va_P G.1 vwCl [(a0, .inl (G.2.1.1, n, .inl (aI (up f ((oo + (26 * sd)) + fr) ((bk f oo (26 * sd + fr)) - 1)))))] H := hP
      have hD : va_D A [(a0, .inl (G.2.1.1, n, .inl (aI (up f ((oo + (26 * sd)) + fr) ((bk f oo (26 * sd + fr)) - 1)))))] := hD
      rw [show up f ((oo + (26 * sd)) + fr) ((bk f oo (26 * sd + fr)) - 1) = wb f oo (up (bk f oo) (26 * sd + fr) (bk f oo (26 * sd + fr) + (-1))) from (wb_up0 (by omega) (by omega) (by omega))] at hP hD
      refine lv_aload_n hx hb dX10_move_41 rfl (lv_at hl 2 rfl) ?_
      refine lv_iload_n hx hb dX10_move_42 rfl (lv_at hl 3 rfl) ?_
      refine z_bipush hF dX10_move_43 (by decide) ?_
      refine lv_iload_n hx hb dX10_move_45 rfl (lv_at hl 4 rfl) ?_
      refine z_imul hF dX10_move_46 ?_
      refine z_iadd hF dX10_move_47 ?_
      refine lv_iload hx hb dX10_move_48 (lv_at hl 0 rfl) ?_
      refine z_iadd hF dX10_move_50 ?_
      refine lv_dup2_11 hx hb dX10_move_51 rfl rfl ?_
      refine z_iald hF hK hP 0 rfl (by omega) hble_n dX10_move_52 ?_
      refine z_tz (b := ((up (bk f oo) (26 * sd + fr) (bk f oo (26 * sd + fr) + (-1))) (26 * sd + toP fr d))) (wb_at (by omega) (by omega)) ?_
      refine z_iconst hF dX10_move_53 ?_
      refine z_iadd hF dX10_move_54 ?_
      refine z_iast hF hK hP hD hS 0 rfl (by omega) hble_n dX10_move_55 (fun H locs hP hD hS => ?_)
      have hP : va_P G.1 vwCl [(a0, .inl (G.2.1.1, n, .inl (aI (up (wb f oo (up (bk f oo) (26 * sd + fr) (bk f oo (26 * sd + fr) + (-1)))) ((oo + (26 * sd)) + (fr - d)) (((up (bk f oo) (26 * sd + fr) (bk f oo (26 * sd + fr) + (-1))) (26 * sd + toP fr d)) + 1)))))] H := hP
      have hD : va_D A [(a0, .inl (G.2.1.1, n, .inl (aI (up (wb f oo (up (bk f oo) (26 * sd + fr) (bk f oo (26 * sd + fr) + (-1)))) ((oo + (26 * sd)) + (fr - d)) (((up (bk f oo) (26 * sd + fr) (bk f oo (26 * sd + fr) + (-1))) (26 * sd + toP fr d)) + 1)))))] := hD
      rw [show up (wb f oo (up (bk f oo) (26 * sd + fr) (bk f oo (26 * sd + fr) + (-1)))) ((oo + (26 * sd)) + (fr - d)) (((up (bk f oo) (26 * sd + fr) (bk f oo (26 * sd + fr) + (-1))) (26 * sd + toP fr d)) + 1) = wb f oo (mvB (bk f oo) sd fr d) from (wb_up (k := 26 * sd + toP fr d) (by omega) (by omega) rfl)] at hP hD
      refine lv_iload hx hb dX10_move_56 (lv_at hl 1 rfl) ?_
      refine z_if_eq (tgt := 98) hF dX10_move_58 (by decide) (by decide) (fun c_7 => ?_) (fun c_7 => ?_)
      · exact absurd c_7 (by decide)
      · have hc_58 := c_7
        refine lv_aload_n hx hb dX10_move_61 rfl (lv_at hl 2 rfl) ?_
        refine lv_iload_n hx hb dX10_move_62 rfl (lv_at hl 3 rfl) ?_
        refine z_bipush hF dX10_move_63 (by decide) ?_
        refine z_iconst hF dX10_move_65 ?_
        refine lv_iload_n hx hb dX10_move_66 rfl (lv_at hl 4 rfl) ?_
        refine z_isub hF dX10_move_67 ?_
        refine z_imul hF dX10_move_68 ?_
        refine z_iadd hF dX10_move_69 ?_
        refine z_bipush hF dX10_move_70 (by decide) ?_
        refine z_iadd hF dX10_move_72 ?_
        refine lv_iload hx hb dX10_move_73 (lv_at hl 0 rfl) ?_
        refine z_isub hF dX10_move_75 ?_
        refine lv_dup2_11 hx hb dX10_move_76 rfl rfl ?_
        refine z_iald hF hK hP 0 rfl (by omega) hble_n dX10_move_77 ?_
        refine z_tz (b := ((mvB (bk f oo) sd fr d) (26 * (1 - sd) + (25 - toP fr d)))) (wb_at (by omega) (by omega)) ?_
        refine z_iconst hF dX10_move_78 ?_
        refine z_isub hF dX10_move_79 ?_
        refine z_iast hF hK hP hD hS 0 rfl (by omega) hble_n dX10_move_80 (fun H locs hP hD hS => ?_)
        have hP : va_P G.1 vwCl [(a0, .inl (G.2.1.1, n, .inl (aI (up (wb f oo (mvB (bk f oo) sd fr d)) (((oo + (26 * (1 - sd))) + 25) - (fr - d)) (((mvB (bk f oo) sd fr d) (26 * (1 - sd) + (25 - toP fr d))) - 1)))))] H := hP
        have hD : va_D A [(a0, .inl (G.2.1.1, n, .inl (aI (up (wb f oo (mvB (bk f oo) sd fr d)) (((oo + (26 * (1 - sd))) + 25) - (fr - d)) (((mvB (bk f oo) sd fr d) (26 * (1 - sd) + (25 - toP fr d))) - 1)))))] := hD
        rw [show up (wb f oo (mvB (bk f oo) sd fr d)) (((oo + (26 * (1 - sd))) + 25) - (fr - d)) (((mvB (bk f oo) sd fr d) (26 * (1 - sd) + (25 - toP fr d))) - 1) = wb f oo (up (mvB (bk f oo) sd fr d) (26 * (1 - sd) + (25 - toP fr d)) ((mvB (bk f oo) sd fr d) (26 * (1 - sd) + (25 - toP fr d)) + (-1))) from (wb_up (k := 26 * (1 - sd) + (25 - toP fr d)) (by omega) (by omega) (by omega))] at hP hD
        refine lv_aload_n hx hb dX10_move_81 rfl (lv_at hl 2 rfl) ?_
        refine lv_iload_n hx hb dX10_move_82 rfl (lv_at hl 3 rfl) ?_
        refine z_bipush hF dX10_move_83 (by decide) ?_
        refine z_iconst hF dX10_move_85 ?_
        refine lv_iload_n hx hb dX10_move_86 rfl (lv_at hl 4 rfl) ?_
        refine z_isub hF dX10_move_87 ?_
        refine z_imul hF dX10_move_88 ?_
        refine z_iadd hF dX10_move_89 ?_
        refine z_bipush hF dX10_move_90 (by decide) ?_
        refine z_iadd hF dX10_move_92 ?_
        refine lv_dup2_11 hx hb dX10_move_93 rfl rfl ?_
        refine z_iald hF hK hP 0 rfl (by omega) hble_n dX10_move_94 ?_
        refine z_tz (b := ((up (mvB (bk f oo) sd fr d) (26 * (1 - sd) + (25 - toP fr d)) ((mvB (bk f oo) sd fr d) (26 * (1 - sd) + (25 - toP fr d)) + (-1))) (26 * (1 - sd) + 25))) (wb_at (by omega) (by omega)) ?_
        refine z_iconst hF dX10_move_95 ?_
        refine z_iadd hF dX10_move_96 ?_
        refine z_iast hF hK hP hD hS 0 rfl (by omega) hble_n dX10_move_97 (fun H locs hP hD hS => ?_)
        have hP : va_P G.1 vwCl [(a0, .inl (G.2.1.1, n, .inl (aI (up (wb f oo (up (mvB (bk f oo) sd fr d) (26 * (1 - sd) + (25 - toP fr d)) ((mvB (bk f oo) sd fr d) (26 * (1 - sd) + (25 - toP fr d)) + (-1)))) ((oo + (26 * (1 - sd))) + 25) (((up (mvB (bk f oo) sd fr d) (26 * (1 - sd) + (25 - toP fr d)) ((mvB (bk f oo) sd fr d) (26 * (1 - sd) + (25 - toP fr d)) + (-1))) (26 * (1 - sd) + 25)) + 1)))))] H := hP
        have hD : va_D A [(a0, .inl (G.2.1.1, n, .inl (aI (up (wb f oo (up (mvB (bk f oo) sd fr d) (26 * (1 - sd) + (25 - toP fr d)) ((mvB (bk f oo) sd fr d) (26 * (1 - sd) + (25 - toP fr d)) + (-1)))) ((oo + (26 * (1 - sd))) + 25) (((up (mvB (bk f oo) sd fr d) (26 * (1 - sd) + (25 - toP fr d)) ((mvB (bk f oo) sd fr d) (26 * (1 - sd) + (25 - toP fr d)) + (-1))) (26 * (1 - sd) + 25)) + 1)))))] := hD
        rw [show up (wb f oo (up (mvB (bk f oo) sd fr d) (26 * (1 - sd) + (25 - toP fr d)) ((mvB (bk f oo) sd fr d) (26 * (1 - sd) + (25 - toP fr d)) + (-1)))) ((oo + (26 * (1 - sd))) + 25) (((up (mvB (bk f oo) sd fr d) (26 * (1 - sd) + (25 - toP fr d)) ((mvB (bk f oo) sd fr d) (26 * (1 - sd) + (25 - toP fr d)) + (-1))) (26 * (1 - sd) + 25)) + 1) = wb f oo (htB (mvB (bk f oo) sd fr d) (1 - sd) (25 - toP fr d)) from (wb_up (k := 26 * (1 - sd) + 25) (by omega) (by omega) rfl)] at hP hD
        rw [show wb f oo (htB (mvB (bk f oo) sd fr d) (1 - sd) (25 - toP fr d)) = wb f oo (stp (bk f oo) sd fr d) from congrArg (wb f oo) (stp_t hw9).symm] at hP hD
        rw [hQ]
        exact z_vret hF hr hlocks () (trivial) hP hK hD hS dX10_move_98
  · skip
    have hw9 := h_4
    refine lv_istore (lv' := [(5, .int (zI 0)), (0, .ref a0), (1, .int (zI oo)), (2, .int (zI sd)), (3, .int (zI fr)), (4, .int (zI d))]) hx hb dX10_move_9 hl (by decide) rfl (fun ls hl => ?_)
    refine lv_iload_n hx hb dX10_move_11 rfl (lv_at hl 4 rfl) ?_
    refine lv_iload hx hb dX10_move_12 (lv_at hl 5 rfl) ?_
    refine z_icmp_le (tgt := 24) hF dX10_move_14 (by decide) (by omega) (by omega) (fun c_8 => ?_) (fun c_8 => ?_)
    · have hc_14 := c_8
      refine z_iconst hF dX10_move_24 ?_
      refine lv_istore (lv' := [(6, .int (zI 0)), (5, .int (zI 0)), (0, .ref a0), (1, .int (zI oo)), (2, .int (zI sd)), (3, .int (zI fr)), (4, .int (zI d))]) hx hb dX10_move_25 hl (by decide) rfl (fun ls hl => ?_)
      refine lv_aload_n hx hb dX10_move_27 rfl (lv_at hl 2 rfl) ?_
      refine lv_iload_n hx hb dX10_move_28 rfl (lv_at hl 3 rfl) ?_
      refine z_bipush hF dX10_move_29 (by decide) ?_
      refine lv_iload_n hx hb dX10_move_31 rfl (lv_at hl 4 rfl) ?_
      refine z_imul hF dX10_move_32 ?_
      refine z_iadd hF dX10_move_33 ?_
      refine lv_iload_n hx hb dX10_move_34 rfl (lv_at hl 5 rfl) ?_
      refine z_iadd hF dX10_move_35 ?_
      refine lv_dup2_11 hx hb dX10_move_36 rfl rfl ?_
      refine z_iald hF hK hP 0 rfl (by omega) hble_n dX10_move_37 ?_
      refine z_tz (b := (bk f oo (26 * sd + fr))) (bk_e (by omega) (by omega)) ?_
      refine z_iconst hF dX10_move_38 ?_
      refine z_isub hF dX10_move_39 ?_
      refine z_iast hF hK hP hD hS 0 rfl (by omega) hble_n dX10_move_40 (fun H locs hP hD hS => ?_)
      have hP : va_P G.1 vwCl [(a0, .inl (G.2.1.1, n, .inl (aI (up f ((oo + (26 * sd)) + fr) ((bk f oo (26 * sd + fr)) - 1)))))] H := hP
      have hD : va_D A [(a0, .inl (G.2.1.1, n, .inl (aI (up f ((oo + (26 * sd)) + fr) ((bk f oo (26 * sd + fr)) - 1)))))] := hD
      rw [show up f ((oo + (26 * sd)) + fr) ((bk f oo (26 * sd + fr)) - 1) = wb f oo (up (bk f oo) (26 * sd + fr) (bk f oo (26 * sd + fr) + (-1))) from (wb_up0 (by omega) (by omega) (by omega))] at hP hD
      refine lv_aload_n hx hb dX10_move_41 rfl (lv_at hl 2 rfl) ?_
      refine lv_iload_n hx hb dX10_move_42 rfl (lv_at hl 3 rfl) ?_
      refine z_bipush hF dX10_move_43 (by decide) ?_
      refine lv_iload_n hx hb dX10_move_45 rfl (lv_at hl 4 rfl) ?_
      refine z_imul hF dX10_move_46 ?_
      refine z_iadd hF dX10_move_47 ?_
      refine lv_iload hx hb dX10_move_48 (lv_at hl 0 rfl) ?_
      refine z_iadd hF dX10_move_50 ?_
      refine lv_dup2_11 hx hb dX10_move_51 rfl rfl ?_
      refine z_iald hF hK hP 0 rfl (by omega) hble_n dX10_move_52 ?_
      refine z_tz (b := ((up (bk f oo) (26 * sd + fr) (bk f oo (26 * sd + fr) + (-1))) (26 * sd + toP fr d))) (wb_at (by omega) (by omega)) ?_
      refine z_iconst hF dX10_move_53 ?_
      refine z_iadd hF dX10_move_54 ?_
      refine z_iast hF hK hP hD hS 0 rfl (by omega) hble_n dX10_move_55 (fun H locs hP hD hS => ?_)
      have hP : va_P G.1 vwCl [(a0, .inl (G.2.1.1, n, .inl (aI (up (wb f oo (up (bk f oo) (26 * sd + fr) (bk f oo (26 * sd + fr) + (-1)))) ((oo + (26 * sd)) + 0) (((up (bk f oo) (26 * sd + fr) (bk f oo (26 * sd + fr) + (-1))) (26 * sd + toP fr d)) + 1)))))] H := hP
      have hD : va_D A [(a0, .inl (G.2.1.1, n, .inl (aI (up (wb f oo (up (bk f oo) (26 * sd + fr) (bk f oo (26 * sd + fr) + (-1)))) ((oo + (26 * sd)) + 0) (((up (bk f oo) (26 * sd + fr) (bk f oo (26 * sd + fr) + (-1))) (26 * sd + toP fr d)) + 1)))))] := hD
      rw [show up (wb f oo (up (bk f oo) (26 * sd + fr) (bk f oo (26 * sd + fr) + (-1)))) ((oo + (26 * sd)) + 0) (((up (bk f oo) (26 * sd + fr) (bk f oo (26 * sd + fr) + (-1))) (26 * sd + toP fr d)) + 1) = wb f oo (mvB (bk f oo) sd fr d) from (wb_up (k := 26 * sd + toP fr d) (by omega) (by omega) rfl)] at hP hD
      refine lv_iload hx hb dX10_move_56 (lv_at hl 1 rfl) ?_
      refine z_if_eq (tgt := 98) hF dX10_move_58 (by decide) (by decide) (fun c_9 => ?_) (fun c_9 => ?_)
      · have hc_58 := c_9
        rw [show wb f oo (mvB (bk f oo) sd fr d) = wb f oo (stp (bk f oo) sd fr d) from congrArg (wb f oo) (stp_f hw9).symm] at hP hD
        rw [hQ]
        exact z_vret hF hr hlocks () (trivial) hP hK hD hS dX10_move_98
      · exact absurd c_9 (by decide)
    · have hc_14 := c_8
      refine lv_iload_n hx hb dX10_move_17 rfl (lv_at hl 4 rfl) ?_
      refine lv_iload hx hb dX10_move_18 (lv_at hl 5 rfl) ?_
      refine z_isub hF dX10_move_20 ?_
      refine z_goto (tgt := 25) hF dX10_move_21 (by decide) ?_
      refine lv_istore (lv' := [(6, .int (zI (fr - d))), (5, .int (zI 0)), (0, .ref a0), (1, .int (zI oo)), (2, .int (zI sd)), (3, .int (zI fr)), (4, .int (zI d))]) hx hb dX10_move_25 hl (by decide) rfl (fun ls hl => ?_)
      refine lv_aload_n hx hb dX10_move_27 rfl (lv_at hl 2 rfl) ?_
      refine lv_iload_n hx hb dX10_move_28 rfl (lv_at hl 3 rfl) ?_
      refine z_bipush hF dX10_move_29 (by decide) ?_
      refine lv_iload_n hx hb dX10_move_31 rfl (lv_at hl 4 rfl) ?_
      refine z_imul hF dX10_move_32 ?_
      refine z_iadd hF dX10_move_33 ?_
      refine lv_iload_n hx hb dX10_move_34 rfl (lv_at hl 5 rfl) ?_
      refine z_iadd hF dX10_move_35 ?_
      refine lv_dup2_11 hx hb dX10_move_36 rfl rfl ?_
      refine z_iald hF hK hP 0 rfl (by omega) hble_n dX10_move_37 ?_
      refine z_tz (b := (bk f oo (26 * sd + fr))) (bk_e (by omega) (by omega)) ?_
      refine z_iconst hF dX10_move_38 ?_
      refine z_isub hF dX10_move_39 ?_
      refine z_iast hF hK hP hD hS 0 rfl (by omega) hble_n dX10_move_40 (fun H locs hP hD hS => ?_)
      have hP : va_P G.1 vwCl [(a0, .inl (G.2.1.1, n, .inl (aI (up f ((oo + (26 * sd)) + fr) ((bk f oo (26 * sd + fr)) - 1)))))] H := hP
      have hD : va_D A [(a0, .inl (G.2.1.1, n, .inl (aI (up f ((oo + (26 * sd)) + fr) ((bk f oo (26 * sd + fr)) - 1)))))] := hD
      rw [show up f ((oo + (26 * sd)) + fr) ((bk f oo (26 * sd + fr)) - 1) = wb f oo (up (bk f oo) (26 * sd + fr) (bk f oo (26 * sd + fr) + (-1))) from (wb_up0 (by omega) (by omega) (by omega))] at hP hD
      refine lv_aload_n hx hb dX10_move_41 rfl (lv_at hl 2 rfl) ?_
      refine lv_iload_n hx hb dX10_move_42 rfl (lv_at hl 3 rfl) ?_
      refine z_bipush hF dX10_move_43 (by decide) ?_
      refine lv_iload_n hx hb dX10_move_45 rfl (lv_at hl 4 rfl) ?_
      refine z_imul hF dX10_move_46 ?_
      refine z_iadd hF dX10_move_47 ?_
      refine lv_iload hx hb dX10_move_48 (lv_at hl 0 rfl) ?_
      refine z_iadd hF dX10_move_50 ?_
      refine lv_dup2_11 hx hb dX10_move_51 rfl rfl ?_
      refine z_iald hF hK hP 0 rfl (by omega) hble_n dX10_move_52 ?_
      refine z_tz (b := ((up (bk f oo) (26 * sd + fr) (bk f oo (26 * sd + fr) + (-1))) (26 * sd + toP fr d))) (wb_at (by omega) (by omega)) ?_
      refine z_iconst hF dX10_move_53 ?_
      refine z_iadd hF dX10_move_54 ?_
      refine z_iast hF hK hP hD hS 0 rfl (by omega) hble_n dX10_move_55 (fun H locs hP hD hS => ?_)
      have hP : va_P G.1 vwCl [(a0, .inl (G.2.1.1, n, .inl (aI (up (wb f oo (up (bk f oo) (26 * sd + fr) (bk f oo (26 * sd + fr) + (-1)))) ((oo + (26 * sd)) + (fr - d)) (((up (bk f oo) (26 * sd + fr) (bk f oo (26 * sd + fr) + (-1))) (26 * sd + toP fr d)) + 1)))))] H := hP
      have hD : va_D A [(a0, .inl (G.2.1.1, n, .inl (aI (up (wb f oo (up (bk f oo) (26 * sd + fr) (bk f oo (26 * sd + fr) + (-1)))) ((oo + (26 * sd)) + (fr - d)) (((up (bk f oo) (26 * sd + fr) (bk f oo (26 * sd + fr) + (-1))) (26 * sd + toP fr d)) + 1)))))] := hD
      rw [show up (wb f oo (up (bk f oo) (26 * sd + fr) (bk f oo (26 * sd + fr) + (-1)))) ((oo + (26 * sd)) + (fr - d)) (((up (bk f oo) (26 * sd + fr) (bk f oo (26 * sd + fr) + (-1))) (26 * sd + toP fr d)) + 1) = wb f oo (mvB (bk f oo) sd fr d) from (wb_up (k := 26 * sd + toP fr d) (by omega) (by omega) rfl)] at hP hD
      refine lv_iload hx hb dX10_move_56 (lv_at hl 1 rfl) ?_
      refine z_if_eq (tgt := 98) hF dX10_move_58 (by decide) (by decide) (fun c_10 => ?_) (fun c_10 => ?_)
      · have hc_58 := c_10
        rw [show wb f oo (mvB (bk f oo) sd fr d) = wb f oo (stp (bk f oo) sd fr d) from congrArg (wb f oo) (stp_f hw9).symm] at hP hD
        rw [hQ]
        exact z_vret hF hr hlocks () (trivial) hP hK hD hS dX10_move_98
      · exact absurd c_10 (by decide)
set_option maxHeartbeats 4000000 in
set_option maxRecDepth 100000 in
theorem c_X10_pips (l : Launch) (G : wG) (a0 n : Nat) (f : Int → Int) (oo sd : Int)  (hble_n : Nat.ble n 2147483648 = true) (hoo : 0 ≤ oo ∧ oo + 52 ≤ (n : Int)) (hsd : 0 ≤ sd ∧ sd ≤ 1) (z9 : Nat) : Met l yX10_pips wsX10_pips (rmL 2 0 0) (wPc G [(a0, .inl (G.2.1.1, n, .inl (aI f)))] z9 [.ref a0, .int (zI oo), .int (zI sd)]) (wQi G (fun (r : Int32) (u : Unit) => r = zI (sz (fun p => p * bk f oo (26 * sd + p)) 26)) (fun (u : Unit) => [(a0, .inl (G.2.1.1, n, .inl (aI f)))]) (va_A [(a0, .inl (G.2.1.1, n, .inl (aI f)))] z9)) 0 0 (va_A [(a0, .inl (G.2.1.1, n, .inl (aI f)))] z9) := by
  refine z_ofW (Qc := fun A => wQi G (fun (r : Int32) (u : Unit) => r = zI (sz (fun p => p * bk f oo (26 * sd + p)) 26)) (fun (u : Unit) => [(a0, .inl (G.2.1.1, n, .inl (aI f)))]) A) l G [(a0, .inl (G.2.1.1, n, .inl (aI f)))] [.ref a0, .int (zI oo), .int (zI sd)] (by decide) rfl rfl ?_ z9
  intro p e s m args below meth c A ls H locs hF hr hlocks hinit hP hK hD hA hS hBd hl
  have hF : wFx p m c cX10_pips 5 s args wsX10_pips RX10 := hF
  have hl : lv_has ls 5 [(0, .ref a0), (1, .int (zI oo)), (2, .int (zI sd))] := hl
  have hx := hF.1
  have hb := hF.2.1
  obtain ⟨Q0, hQ⟩ : ∃ q, q = (MQ below (wQi G (fun (r : Int32) (u : Unit) => r = zI (sz (fun p => p * bk f oo (26 * sd + p)) 26)) (fun (u : Unit) => [(a0, .inl (G.2.1.1, n, .inl (aI f)))]) A) args s 0 0 A) := ⟨_, rfl⟩
  rw [← hQ]
  refine z_iconst hF dX10_pips_0 ?_
  refine lv_istore_n (lv' := [(3, .int (zI 0)), (0, .ref a0), (1, .int (zI oo)), (2, .int (zI sd))]) hx hb dX10_pips_1 rfl hl (by decide) rfl (fun ls hl => ?_)
  refine z_iconst hF dX10_pips_2 ?_
  refine lv_istore (lv' := [(4, .int (zI 1)), (3, .int (zI 0)), (0, .ref a0), (1, .int (zI oo)), (2, .int (zI sd))]) hx hb dX10_pips_3 hl (by decide) rfl (fun ls hl => ?_)
  have L5 : ∀ (n9 : Nat) (i sum : Int), (26 - i).toNat < n9 → (1 ≤ i ∧ i ≤ 26) → sum = sz (fun p => p * bk f oo (26 * sd + p)) i → ∀ (H : Heap) (locs : List Loc) (ls : Array Slot), va_P G.1 vwCl [(a0, .inl (G.2.1.1, n, .inl (aI f)))] H → va_D A [(a0, .inl (G.2.1.1, n, .inl (aI f)))] → va_S A s.heap H locs → lv_has ls 5 [(0, .ref a0), (1, .int (zI oo)), (2, .int (zI sd)), (3, .int (zI sum)), (4, .int (zI i))] → W p l e (rmL 2 0 0) s m args below meth c H locs 0 0 Q0 (F0 m 5 ls []) := by
    intro n9
    induction n9 with
    | zero => intro i sum hmu; omega
    | succ n9 ih5 =>
      intro i sum hmu5 hzi hzsum H locs ls hP hD hS hl
      refine lv_iload hx hb dX10_pips_5 (lv_at hl 4 rfl) ?_
      refine z_bipush hF dX10_pips_7 (by decide) ?_
      refine z_icmp_gt (tgt := 32) hF dX10_pips_9 (by decide) (by omega) (by decide) (fun c_1 => ?_) (fun c_1 => ?_)
      · have hc_9 := c_1
        refine lv_iload_n hx hb dX10_pips_32 rfl (lv_at hl 3 rfl) ?_
        rw [hQ]
        exact z_iret hF hr hlocks () (by rw [hzsum, show i = 26 by omega]) hP hK hD hS dX10_pips_33
      · have hc_9 := c_1
        refine lv_iload_n hx hb dX10_pips_12 rfl (lv_at hl 3 rfl) ?_
        refine lv_iload hx hb dX10_pips_13 (lv_at hl 4 rfl) ?_
        refine lv_aload_n hx hb dX10_pips_15 rfl (lv_at hl 0 rfl) ?_
        refine lv_iload_n hx hb dX10_pips_16 rfl (lv_at hl 1 rfl) ?_
        refine lv_iload_n hx hb dX10_pips_17 rfl (lv_at hl 2 rfl) ?_
        refine lv_iload hx hb dX10_pips_18 (lv_at hl 4 rfl) ?_
        refine cj_i (va_runS (As := [.ref a0, .int (zI oo), .int (zI sd), .int (zI i)]) (rest := [.int (zI i), .int (zI sum)]) hF (c_X10_on l G a0 n f oo sd i  (by first | exact rfl | assumption) (by omega) (by omega) (by omega) H.size) (va_cwS 4 hF.2.2.2.2 gX10_pips_X10_on rfl rfl rfl (by decide +kernel) ⟨Nat.le_of_ble_eq_true rfl, Nat.le_of_ble_eq_true rfl⟩) (z_preS hK hP hD hS hA hBd [0] rfl rfl [.ref a0, .int (zI oo), .int (zI sd), .int (zI i)]) rfl rfl hl.1 rfl (lv_room (Nat.le_of_ble_eq_true rfl)) dX10_pips_20 ⟨Nat.le_of_ble_eq_true rfl, Nat.le_of_ble_eq_true rfl⟩) hP hD hS hA [0] rfl (fun _ => Nat.le_of_ble_eq_true rfl) (fun r_3 u_2 H locs hw hP hD hS => ?_)
        have hP : va_P G.1 vwCl [(a0, .inl (G.2.1.1, n, .inl (aI f)))] H := hP
        have hD : va_D A [(a0, .inl (G.2.1.1, n, .inl (aI f)))] := hD
        obtain rfl := hw
        refine z_imul hF dX10_pips_23 ?_
        refine z_iadd hF dX10_pips_24 ?_
        refine lv_istore_n (lv' := [(3, .int (zI (sum + (i * (bk f oo (26 * sd + i)))))), (0, .ref a0), (1, .int (zI oo)), (2, .int (zI sd)), (4, .int (zI i))]) hx hb dX10_pips_25 rfl hl (by decide) rfl (fun ls hl => ?_)
        refine z_iinc (lv' := [(4, .int (zI (i + 1))), (3, .int (zI (sum + (i * (bk f oo (26 * sd + i)))))), (0, .ref a0), (1, .int (zI oo)), (2, .int (zI sd))]) hF dX10_pips_26 hl (k := 4) rfl (by decide) rfl (fun ls hl => ?_)
        refine z_goto (tgt := 5) hF dX10_pips_29 (by decide) ?_
        exact ih5 (i + 1) (sum + (i * (bk f oo (26 * sd + i)))) (by omega) (by omega) (by first | (rw [sz_s _ (by omega), ← hzsum]) | (rw [show (1 : Int) = 0 + 1 by rfl, sz_s _ (by omega), sz_0]; omega)) H locs ls hP hD hS (lv_sub hl [2, 3, 4, 1, 0] rfl)
  exact L5 _ 1 0 (Nat.lt_succ_self _) (by omega) (by first | (rw [sz_s _ (by omega), ← hzsum]) | (rw [show (1 : Int) = 0 + 1 by rfl, sz_s _ (by omega), sz_0]; omega)) H locs ls hP hD hS (lv_sub hl [2, 3, 4, 1, 0] rfl)
set_option maxHeartbeats 4000000 in
set_option maxRecDepth 100000 in
theorem c_X10_worth (l : Launch) (G : wG) (a0 n : Nat) (f : Int → Int) (oo sd : Int)  (hble_n : Nat.ble n 2147483648 = true) (hoo : 0 ≤ oo ∧ oo + 52 ≤ (n : Int)) (hsd : 0 ≤ sd ∧ sd ≤ 1) (hokk : okB (bk f oo)) (z9 : Nat) : Met l yX10_worth wsX10_worth (rmL 3 0 0) (wPc G [(a0, .inl (G.2.1.1, n, .inl (aI f)))] z9 [.ref a0, .int (zI oo), .int (zI sd)]) (wQi G (fun (r : Int32) (u : Unit) => r = zI (wth (bk f oo) sd)) (fun (u : Unit) => [(a0, .inl (G.2.1.1, n, .inl (aI f)))]) (va_A [(a0, .inl (G.2.1.1, n, .inl (aI f)))] z9)) 0 0 (va_A [(a0, .inl (G.2.1.1, n, .inl (aI f)))] z9) := by
  refine z_ofW (Qc := fun A => wQi G (fun (r : Int32) (u : Unit) => r = zI (wth (bk f oo) sd)) (fun (u : Unit) => [(a0, .inl (G.2.1.1, n, .inl (aI f)))]) A) l G [(a0, .inl (G.2.1.1, n, .inl (aI f)))] [.ref a0, .int (zI oo), .int (zI sd)] (by decide) rfl rfl ?_ z9
  intro p e s m args below meth c A ls H locs hF hr hlocks hinit hP hK hD hA hS hBd hl
  have hF : wFx p m c cX10_worth 7 s args wsX10_worth RX10 := hF
  have hl : lv_has ls 7 [(0, .ref a0), (1, .int (zI oo)), (2, .int (zI sd))] := hl
  have hx := hF.1
  have hb := hF.2.1
  obtain ⟨Q0, hQ⟩ : ∃ q, q = (MQ below (wQi G (fun (r : Int32) (u : Unit) => r = zI (wth (bk f oo) sd)) (fun (u : Unit) => [(a0, .inl (G.2.1.1, n, .inl (aI f)))]) A) args s 0 0 A) := ⟨_, rfl⟩
  rw [← hQ]
  refine lv_aload_n hx hb dX10_worth_0 rfl (lv_at hl 0 rfl) ?_
  refine lv_iload_n hx hb dX10_worth_1 rfl (lv_at hl 1 rfl) ?_
  refine z_iconst hF dX10_worth_2 ?_
  refine lv_iload_n hx hb dX10_worth_3 rfl (lv_at hl 2 rfl) ?_
  refine z_isub hF dX10_worth_4 ?_
  refine cj_i (va_runS (As := [.ref a0, .int (zI oo), .int (zI (1 - sd))]) (rest := []) hF (c_X10_pips l G a0 n f oo (1 - sd)  (by first | exact rfl | assumption) (by omega) (by omega) H.size) (va_cwS 3 hF.2.2.2.2 gX10_worth_X10_pips rfl rfl rfl (by decide +kernel) ⟨Nat.le_of_ble_eq_true rfl, Nat.le_of_ble_eq_true rfl⟩) (z_preS hK hP hD hS hA hBd [0] rfl rfl [.ref a0, .int (zI oo), .int (zI (1 - sd))]) rfl rfl hl.1 rfl (lv_room (Nat.le_of_ble_eq_true rfl)) dX10_worth_5 ⟨Nat.le_of_ble_eq_true rfl, Nat.le_of_ble_eq_true rfl⟩) hP hD hS hA [0] rfl (fun _ => Nat.le_of_ble_eq_true rfl) (fun r_2 u_1 H locs hw hP hD hS => ?_)
  have hP : va_P G.1 vwCl [(a0, .inl (G.2.1.1, n, .inl (aI f)))] H := hP
  have hD : va_D A [(a0, .inl (G.2.1.1, n, .inl (aI f)))] := hD
  obtain rfl := hw
  refine lv_aload_n hx hb dX10_worth_8 rfl (lv_at hl 0 rfl) ?_
  refine lv_iload_n hx hb dX10_worth_9 rfl (lv_at hl 1 rfl) ?_
  refine lv_iload_n hx hb dX10_worth_10 rfl (lv_at hl 2 rfl) ?_
  refine cj_i (va_runS (As := [.ref a0, .int (zI oo), .int (zI sd)]) (rest := [.int (zI (sz (fun p => p * bk f oo (26 * (1 - sd) + p)) 26))]) hF (c_X10_pips l G a0 n f oo sd  (by first | exact rfl | assumption) (by omega) (by omega) H.size) (va_cwS 3 hF.2.2.2.2 gX10_worth_X10_pips rfl rfl rfl (by decide +kernel) ⟨Nat.le_of_ble_eq_true rfl, Nat.le_of_ble_eq_true rfl⟩) (z_preS hK hP hD hS hA hBd [0] rfl rfl [.ref a0, .int (zI oo), .int (zI sd)]) rfl rfl hl.1 rfl (lv_room (Nat.le_of_ble_eq_true rfl)) dX10_worth_11 ⟨Nat.le_of_ble_eq_true rfl, Nat.le_of_ble_eq_true rfl⟩) hP hD hS hA [0] rfl (fun _ => Nat.le_of_ble_eq_true rfl) (fun r_4 u_3 H locs hw hP hD hS => ?_)
  have hP : va_P G.1 vwCl [(a0, .inl (G.2.1.1, n, .inl (aI f)))] H := hP
  have hD : va_D A [(a0, .inl (G.2.1.1, n, .inl (aI f)))] := hD
  obtain rfl := hw
  refine z_isub hF dX10_worth_14 ?_
  refine z_bipush hF dX10_worth_15 (by decide) ?_
  refine lv_aload_n hx hb dX10_worth_17 rfl (lv_at hl 0 rfl) ?_
  refine lv_iload_n hx hb dX10_worth_18 rfl (lv_at hl 1 rfl) ?_
  refine z_iconst hF dX10_worth_19 ?_
  refine lv_iload_n hx hb dX10_worth_20 rfl (lv_at hl 2 rfl) ?_
  refine z_isub hF dX10_worth_21 ?_
  refine z_bipush hF dX10_worth_22 (by decide) ?_
  refine cj_i (va_runS (As := [.ref a0, .int (zI oo), .int (zI (1 - sd)), .int (zI 25)]) (rest := [.int (zI 8), .int (zI ((sz (fun p => p * bk f oo (26 * (1 - sd) + p)) 26) - (sz (fun p => p * bk f oo (26 * sd + p)) 26)))]) hF (c_X10_on l G a0 n f oo (1 - sd) 25  (by first | exact rfl | assumption) (by omega) (by omega) (by omega) H.size) (va_cwS 4 hF.2.2.2.2 gX10_worth_X10_on rfl rfl rfl (by decide +kernel) ⟨Nat.le_of_ble_eq_true rfl, Nat.le_of_ble_eq_true rfl⟩) (z_preS hK hP hD hS hA hBd [0] rfl rfl [.ref a0, .int (zI oo), .int (zI (1 - sd)), .int (zI 25)]) rfl rfl hl.1 rfl (lv_room (Nat.le_of_ble_eq_true rfl)) dX10_worth_24 ⟨Nat.le_of_ble_eq_true rfl, Nat.le_of_ble_eq_true rfl⟩) hP hD hS hA [0] rfl (fun _ => Nat.le_of_ble_eq_true rfl) (fun r_6 u_5 H locs hw hP hD hS => ?_)
  have hP : va_P G.1 vwCl [(a0, .inl (G.2.1.1, n, .inl (aI f)))] H := hP
  have hD : va_D A [(a0, .inl (G.2.1.1, n, .inl (aI f)))] := hD
  obtain rfl := hw
  refine z_imul hF dX10_worth_27 ?_
  refine z_iadd hF dX10_worth_28 ?_
  refine z_bipush hF dX10_worth_29 (by decide) ?_
  refine lv_aload_n hx hb dX10_worth_31 rfl (lv_at hl 0 rfl) ?_
  refine lv_iload_n hx hb dX10_worth_32 rfl (lv_at hl 1 rfl) ?_
  refine lv_iload_n hx hb dX10_worth_33 rfl (lv_at hl 2 rfl) ?_
  refine z_iconst hF dX10_worth_34 ?_
  refine cj_i (va_runS (As := [.ref a0, .int (zI oo), .int (zI sd), .int (zI 0)]) (rest := [.int (zI 10), .int (zI (((sz (fun p => p * bk f oo (26 * (1 - sd) + p)) 26) - (sz (fun p => p * bk f oo (26 * sd + p)) 26)) + (8 * (bk f oo (26 * (1 - sd) + 25)))))]) hF (c_X10_on l G a0 n f oo sd 0  (by first | exact rfl | assumption) (by omega) (by omega) (by omega) H.size) (va_cwS 4 hF.2.2.2.2 gX10_worth_X10_on rfl rfl rfl (by decide +kernel) ⟨Nat.le_of_ble_eq_true rfl, Nat.le_of_ble_eq_true rfl⟩) (z_preS hK hP hD hS hA hBd [0] rfl rfl [.ref a0, .int (zI oo), .int (zI sd), .int (zI 0)]) rfl rfl hl.1 rfl (lv_room (Nat.le_of_ble_eq_true rfl)) dX10_worth_35 ⟨Nat.le_of_ble_eq_true rfl, Nat.le_of_ble_eq_true rfl⟩) hP hD hS hA [0] rfl (fun _ => Nat.le_of_ble_eq_true rfl) (fun r_8 u_7 H locs hw hP hD hS => ?_)
  have hP : va_P G.1 vwCl [(a0, .inl (G.2.1.1, n, .inl (aI f)))] H := hP
  have hD : va_D A [(a0, .inl (G.2.1.1, n, .inl (aI f)))] := hD
  obtain rfl := hw
  refine z_imul hF dX10_worth_38 ?_
  refine z_iadd hF dX10_worth_39 ?_
  refine lv_istore_n (lv' := [(3, .int (zI ((((sz (fun p => p * bk f oo (26 * (1 - sd) + p)) 26) - (sz (fun p => p * bk f oo (26 * sd + p)) 26)) + (8 * (bk f oo (26 * (1 - sd) + 25)))) + (10 * (bk f oo (26 * sd + 0)))))), (0, .ref a0), (1, .int (zI oo)), (2, .int (zI sd))]) hx hb dX10_worth_40 rfl hl (by decide) rfl (fun ls hl => ?_)
  have qz := exZ_1 (bk f oo) sd
  have qy := wth_pp (bk f oo) sd hsd
  have qx := hokk (26 * (1 - sd) + 25)
  refine lv_aload_n hx hb dX10_worth_41 rfl (lv_at hl 1 rfl) ?_
  refine lv_iload_n hx hb dX10_worth_42 rfl (lv_at hl 2 rfl) ?_
  refine z_iconst hF dX10_worth_43 ?_
  refine lv_iload_n hx hb dX10_worth_44 rfl (lv_at hl 3 rfl) ?_
  refine z_isub hF dX10_worth_45 ?_
  refine z_bipush hF dX10_worth_46 (by decide) ?_
  refine cj_i (va_runS (As := [.ref a0, .int (zI oo), .int (zI (1 - sd)), .int (zI 25)]) (rest := []) hF (c_X10_on l G a0 n f oo (1 - sd) 25  (by first | exact rfl | assumption) (by omega) (by omega) (by omega) H.size) (va_cwS 4 hF.2.2.2.2 gX10_worth_X10_on rfl rfl rfl (by decide +kernel) ⟨Nat.le_of_ble_eq_true rfl, Nat.le_of_ble_eq_true rfl⟩) (z_preS hK hP hD hS hA hBd [0] rfl rfl [.ref a0, .int (zI oo), .int (zI (1 - sd)), .int (zI 25)]) rfl rfl hl.1 rfl (lv_room (Nat.le_of_ble_eq_true rfl)) dX10_worth_48 ⟨Nat.le_of_ble_eq_true rfl, Nat.le_of_ble_eq_true rfl⟩) hP hD hS hA [0] rfl (fun _ => Nat.le_of_ble_eq_true rfl) (fun r_10 u_9 H locs hw hP hD hS => ?_)
  have hP : va_P G.1 vwCl [(a0, .inl (G.2.1.1, n, .inl (aI f)))] H := hP
  have hD : va_D A [(a0, .inl (G.2.1.1, n, .inl (aI f)))] := hD
  obtain rfl := hw
  refine z_if_le (tgt := 58) hF dX10_worth_51 (by decide) (by have := hokk (26 * (1 - sd) + 25); omega) (fun c_11 => ?_) (fun c_11 => ?_)
  · have hc_51 := c_11
    refine z_iconst hF dX10_worth_58 ?_
    refine lv_istore (lv' := [(4, .int (zI 0)), (3, .int (zI ((((sz (fun p => p * bk f oo (26 * (1 - sd) + p)) 26) - (sz (fun p => p * bk f oo (26 * sd + p)) 26)) + (8 * (bk f oo (26 * (1 - sd) + 25)))) + (10 * (bk f oo (26 * sd + 0)))))), (0, .ref a0), (1, .int (zI oo)), (2, .int (zI sd))]) hx hb dX10_worth_59 hl (by decide) rfl (fun ls hl => ?_)
    refine z_iconst hF dX10_worth_61 ?_
    refine lv_istore (lv' := [(5, .int (zI 1)), (4, .int (zI 0)), (3, .int (zI ((((sz (fun p => p * bk f oo (26 * (1 - sd) + p)) 26) - (sz (fun p => p * bk f oo (26 * sd + p)) 26)) + (8 * (bk f oo (26 * (1 - sd) + 25)))) + (10 * (bk f oo (26 * sd + 0)))))), (0, .ref a0), (1, .int (zI oo)), (2, .int (zI sd))]) hx hb dX10_worth_62 hl (by decide) rfl (fun ls hl => ?_)
    have L64 : ∀ (n9 : Nat) (i sm0 ex : Int), (25 - i).toNat < n9 → (1 ≤ i ∧ i ≤ 25) → wth (bk f oo) sd = sm0 + (adN24 (bk f oo) sd - adZ (bk f oo) sd i) → ex = exZ (bk f oo) sd i → ∀ (H : Heap) (locs : List Loc) (ls : Array Slot), va_P G.1 vwCl [(a0, .inl (G.2.1.1, n, .inl (aI f)))] H → va_D A [(a0, .inl (G.2.1.1, n, .inl (aI f)))] → va_S A s.heap H locs → lv_has ls 7 [(0, .ref a0), (1, .int (zI oo)), (2, .int (zI sd)), (3, .int (zI sm0)), (4, .int (zI ex)), (5, .int (zI i))] → W p l e (rmL 3 0 0) s m args below meth c H locs 0 0 Q0 (F0 m 64 ls []) := by
      intro n9
      induction n9 with
      | zero => intro i sm0 ex hmu; omega
      | succ n9 ih64 =>
        intro i sm0 ex hmu64 hzi hsm hex H locs ls hP hD hS hl
        refine lv_iload hx hb dX10_worth_64 (lv_at hl 5 rfl) ?_
        have qd := exZ_rg (bk f oo) sd i
        refine z_bipush hF dX10_worth_66 (by decide) ?_
        refine z_icmp_gt (tgt := 141) hF dX10_worth_68 (by decide) (by omega) (by decide) (fun c_12 => ?_) (fun c_12 => ?_)
        · have hc_68 := c_12
          refine lv_iload_n hx hb dX10_worth_141 rfl (lv_at hl 3 rfl) ?_
          rw [hQ]
          exact z_iret hF hr hlocks () (zI_congr (by rw [hsm, show i = 25 by omega]; unfold adN24; omega)) hP hK hD hS dX10_worth_142
        · have hc_68 := c_12
          have qa := adj_cs (bk f oo (26 * sd + i)) (exZ (bk f oo) sd i)
          have qb := adZ_s (b := bk f oo) (sd := sd) (i := i) hzi.1
          have qc := exZ_cs (b := bk f oo) (sd := sd) (i := i) hzi.1
          have qd := exZ_rg (bk f oo) sd i
          have qe := hokk (26 * sd + i)
          have qf := hokk (26 * (1 - sd) + (25 - i))
          refine lv_aload_n hx hb dX10_worth_71 rfl (lv_at hl 0 rfl) ?_
          refine lv_iload_n hx hb dX10_worth_72 rfl (lv_at hl 1 rfl) ?_
          refine lv_iload_n hx hb dX10_worth_73 rfl (lv_at hl 2 rfl) ?_
          refine lv_iload hx hb dX10_worth_74 (lv_at hl 5 rfl) ?_
          refine cj_i (va_runS (As := [.ref a0, .int (zI oo), .int (zI sd), .int (zI i)]) (rest := []) hF (c_X10_on l G a0 n f oo sd i  (by first | exact rfl | assumption) (by omega) (by omega) (by omega) H.size) (va_cwS 4 hF.2.2.2.2 gX10_worth_X10_on rfl rfl rfl (by decide +kernel) ⟨Nat.le_of_ble_eq_true rfl, Nat.le_of_ble_eq_true rfl⟩) (z_preS hK hP hD hS hA hBd [0] rfl rfl [.ref a0, .int (zI oo), .int (zI sd), .int (zI i)]) rfl rfl hl.1 rfl (lv_room (Nat.le_of_ble_eq_true rfl)) dX10_worth_76 ⟨Nat.le_of_ble_eq_true rfl, Nat.le_of_ble_eq_true rfl⟩) hP hD hS hA [0] rfl (fun _ => Nat.le_of_ble_eq_true rfl) (fun r_14 u_13 H locs hw hP hD hS => ?_)
          have hP : va_P G.1 vwCl [(a0, .inl (G.2.1.1, n, .inl (aI f)))] H := hP
          have hD : va_D A [(a0, .inl (G.2.1.1, n, .inl (aI f)))] := hD
          obtain rfl := hw
          refine lv_istore (lv' := [(6, .int (zI (bk f oo (26 * sd + i)))), (0, .ref a0), (1, .int (zI oo)), (2, .int (zI sd)), (3, .int (zI sm0)), (4, .int (zI ex)), (5, .int (zI i))]) hx hb dX10_worth_79 hl (by decide) rfl (fun ls hl => ?_)
          refine lv_iload_n hx hb dX10_worth_81 rfl (lv_at hl 4 rfl) ?_
          refine lv_iload hx hb dX10_worth_82 (lv_at hl 0 rfl) ?_
          refine z_iconst hF dX10_worth_84 ?_
          refine z_icmp_lt (tgt := 93) hF dX10_worth_85 (by decide) (by have := hokk (26 * sd + i); omega) (by decide) (fun c_15 => ?_) (fun c_15 => ?_)
          · have hc_85 := c_15
            refine lv_iload hx hb dX10_worth_93 (lv_at hl 0 rfl) ?_
            refine z_iconst hF dX10_worth_95 ?_
            refine z_icmp_ne (tgt := 109) hF dX10_worth_96 (by decide) (by have := hokk (26 * sd + i); omega) (by decide) (fun c_16 => ?_) (fun c_16 => ?_)
            · have hc_96 := c_16
              refine z_iconst hF dX10_worth_109 ?_
              refine z_iadd hF dX10_worth_110 ?_
              refine lv_istore_n (lv' := [(3, .int (zI (sm0 + 0))), (6, .int (zI (bk f oo (26 * sd + i)))), (0, .ref a0), (1, .int (zI oo)), (2, .int (zI sd)), (4, .int (zI ex)), (5, .int (zI i))]) hx hb dX10_worth_111 rfl hl (by decide) rfl (fun ls hl => ?_)
              refine lv_iload hx hb dX10_worth_112 (lv_at hl 5 rfl) ?_
              refine z_if_ne (tgt := 128) hF dX10_worth_114 (by decide) (by have := exZ_rg (bk f oo) sd i; omega) (fun c_17 => ?_) (fun c_17 => ?_)
              · have hc_114 := c_17
                refine z_iconst hF dX10_worth_128 ?_
                refine z_goto (tgt := 133) hF dX10_worth_129 (by decide) ?_
                refine lv_istore (lv' := [(4, .int (zI 1)), (3, .int (zI (sm0 + 0))), (6, .int (zI (bk f oo (26 * sd + i)))), (0, .ref a0), (1, .int (zI oo)), (2, .int (zI sd)), (5, .int (zI i))]) hx hb dX10_worth_133 hl (by decide) rfl (fun ls hl => ?_)
                refine z_iinc (lv' := [(5, .int (zI (i + 1))), (4, .int (zI 1)), (3, .int (zI (sm0 + 0))), (6, .int (zI (bk f oo (26 * sd + i)))), (0, .ref a0), (1, .int (zI oo)), (2, .int (zI sd))]) hF dX10_worth_135 hl (k := 6) rfl (by decide) rfl (fun ls hl => ?_)
                refine z_goto (tgt := 64) hF dX10_worth_138 (by decide) ?_
                exact ih64 (i + 1) (sm0 + 0) 1 (by omega) (by omega) (by omega) (by omega) H locs ls hP hD hS (lv_sub hl [4, 5, 6, 2, 1, 0] rfl)
              · have hc_114 := c_17
                refine lv_aload_n hx hb dX10_worth_117 rfl (lv_at hl 2 rfl) ?_
                refine lv_iload_n hx hb dX10_worth_118 rfl (lv_at hl 3 rfl) ?_
                refine lv_iload_n hx hb dX10_worth_119 rfl (lv_at hl 4 rfl) ?_
                refine lv_iload hx hb dX10_worth_120 (lv_at hl 6 rfl) ?_
                refine cj_i (va_runS (As := [.ref a0, .int (zI oo), .int (zI sd), .int (zI i)]) (rest := []) hF (c_X10_against l G a0 n f oo sd i  (by first | exact rfl | assumption) (by omega) (by omega) (by omega) H.size) (va_cwS 4 hF.2.2.2.2 gX10_worth_X10_against rfl rfl rfl (by decide +kernel) ⟨Nat.le_of_ble_eq_true rfl, Nat.le_of_ble_eq_true rfl⟩) (z_preS hK hP hD hS hA hBd [0] rfl rfl [.ref a0, .int (zI oo), .int (zI sd), .int (zI i)]) rfl rfl hl.1 rfl (lv_room (Nat.le_of_ble_eq_true rfl)) dX10_worth_122 ⟨Nat.le_of_ble_eq_true rfl, Nat.le_of_ble_eq_true rfl⟩) hP hD hS hA [0] rfl (fun _ => Nat.le_of_ble_eq_true rfl) (fun r_19 u_18 H locs hw hP hD hS => ?_)
                have hP : va_P G.1 vwCl [(a0, .inl (G.2.1.1, n, .inl (aI f)))] H := hP
                have hD : va_D A [(a0, .inl (G.2.1.1, n, .inl (aI f)))] := hD
                obtain rfl := hw
                refine z_if_le (tgt := 132) hF dX10_worth_125 (by decide) (by have := hokk (26 * (1 - sd) + (25 - i)); omega) (fun c_20 => ?_) (fun c_20 => ?_)
                · have hc_125 := c_20
                  refine z_iconst hF dX10_worth_132 ?_
                  refine lv_istore (lv' := [(4, .int (zI 0)), (3, .int (zI (sm0 + 0))), (6, .int (zI (bk f oo (26 * sd + i)))), (0, .ref a0), (1, .int (zI oo)), (2, .int (zI sd)), (5, .int (zI i))]) hx hb dX10_worth_133 hl (by decide) rfl (fun ls hl => ?_)
                  refine z_iinc (lv' := [(5, .int (zI (i + 1))), (4, .int (zI 0)), (3, .int (zI (sm0 + 0))), (6, .int (zI (bk f oo (26 * sd + i)))), (0, .ref a0), (1, .int (zI oo)), (2, .int (zI sd))]) hF dX10_worth_135 hl (k := 6) rfl (by decide) rfl (fun ls hl => ?_)
                  refine z_goto (tgt := 64) hF dX10_worth_138 (by decide) ?_
                  exact ih64 (i + 1) (sm0 + 0) 0 (by omega) (by omega) (by omega) (by omega) H locs ls hP hD hS (lv_sub hl [4, 5, 6, 2, 1, 0] rfl)
                · have hc_125 := c_20
                  refine z_iconst hF dX10_worth_128 ?_
                  refine z_goto (tgt := 133) hF dX10_worth_129 (by decide) ?_
                  refine lv_istore (lv' := [(4, .int (zI 1)), (3, .int (zI (sm0 + 0))), (6, .int (zI (bk f oo (26 * sd + i)))), (0, .ref a0), (1, .int (zI oo)), (2, .int (zI sd)), (5, .int (zI i))]) hx hb dX10_worth_133 hl (by decide) rfl (fun ls hl => ?_)
                  refine z_iinc (lv' := [(5, .int (zI (i + 1))), (4, .int (zI 1)), (3, .int (zI (sm0 + 0))), (6, .int (zI (bk f oo (26 * sd + i)))), (0, .ref a0), (1, .int (zI oo)), (2, .int (zI sd))]) hF dX10_worth_135 hl (k := 6) rfl (by decide) rfl (fun ls hl => ?_)
                  refine z_goto (tgt := 64) hF dX10_worth_138 (by decide) ?_
                  exact ih64 (i + 1) (sm0 + 0) 1 (by omega) (by omega) (by omega) (by omega) H locs ls hP hD hS (lv_sub hl [4, 5, 6, 2, 1, 0] rfl)
            · have hc_96 := c_16
              refine lv_iload hx hb dX10_worth_99 (lv_at hl 5 rfl) ?_
              refine z_if_eq (tgt := 109) hF dX10_worth_101 (by decide) (by have := exZ_rg (bk f oo) sd i; omega) (fun c_21 => ?_) (fun c_21 => ?_)
              · have hc_101 := c_21
                refine z_iconst hF dX10_worth_109 ?_
                refine z_iadd hF dX10_worth_110 ?_
                refine lv_istore_n (lv' := [(3, .int (zI (sm0 + 0))), (6, .int (zI (bk f oo (26 * sd + i)))), (0, .ref a0), (1, .int (zI oo)), (2, .int (zI sd)), (4, .int (zI ex)), (5, .int (zI i))]) hx hb dX10_worth_111 rfl hl (by decide) rfl (fun ls hl => ?_)
                refine lv_iload hx hb dX10_worth_112 (lv_at hl 5 rfl) ?_
                refine z_if_ne (tgt := 128) hF dX10_worth_114 (by decide) (by have := exZ_rg (bk f oo) sd i; omega) (fun c_22 => ?_) (fun c_22 => ?_)
                · have hc_114 := c_22
                  refine z_iconst hF dX10_worth_128 ?_
                  refine z_goto (tgt := 133) hF dX10_worth_129 (by decide) ?_
                  refine lv_istore (lv' := [(4, .int (zI 1)), (3, .int (zI (sm0 + 0))), (6, .int (zI (bk f oo (26 * sd + i)))), (0, .ref a0), (1, .int (zI oo)), (2, .int (zI sd)), (5, .int (zI i))]) hx hb dX10_worth_133 hl (by decide) rfl (fun ls hl => ?_)
                  refine z_iinc (lv' := [(5, .int (zI (i + 1))), (4, .int (zI 1)), (3, .int (zI (sm0 + 0))), (6, .int (zI (bk f oo (26 * sd + i)))), (0, .ref a0), (1, .int (zI oo)), (2, .int (zI sd))]) hF dX10_worth_135 hl (k := 6) rfl (by decide) rfl (fun ls hl => ?_)
                  refine z_goto (tgt := 64) hF dX10_worth_138 (by decide) ?_
                  exact ih64 (i + 1) (sm0 + 0) 1 (by omega) (by omega) (by omega) (by omega) H locs ls hP hD hS (lv_sub hl [4, 5, 6, 2, 1, 0] rfl)
                · have hc_114 := c_22
                  refine lv_aload_n hx hb dX10_worth_117 rfl (lv_at hl 2 rfl) ?_
                  refine lv_iload_n hx hb dX10_worth_118 rfl (lv_at hl 3 rfl) ?_
                  refine lv_iload_n hx hb dX10_worth_119 rfl (lv_at hl 4 rfl) ?_
                  refine lv_iload hx hb dX10_worth_120 (lv_at hl 6 rfl) ?_
                  refine cj_i (va_runS (As := [.ref a0, .int (zI oo), .int (zI sd), .int (zI i)]) (rest := []) hF (c_X10_against l G a0 n f oo sd i  (by first | exact rfl | assumption) (by omega) (by omega) (by omega) H.size) (va_cwS 4 hF.2.2.2.2 gX10_worth_X10_against rfl rfl rfl (by decide +kernel) ⟨Nat.le_of_ble_eq_true rfl, Nat.le_of_ble_eq_true rfl⟩) (z_preS hK hP hD hS hA hBd [0] rfl rfl [.ref a0, .int (zI oo), .int (zI sd), .int (zI i)]) rfl rfl hl.1 rfl (lv_room (Nat.le_of_ble_eq_true rfl)) dX10_worth_122 ⟨Nat.le_of_ble_eq_true rfl, Nat.le_of_ble_eq_true rfl⟩) hP hD hS hA [0] rfl (fun _ => Nat.le_of_ble_eq_true rfl) (fun r_24 u_23 H locs hw hP hD hS => ?_)
                  have hP : va_P G.1 vwCl [(a0, .inl (G.2.1.1, n, .inl (aI f)))] H := hP
                  have hD : va_D A [(a0, .inl (G.2.1.1, n, .inl (aI f)))] := hD
                  obtain rfl := hw
                  refine z_if_le (tgt := 132) hF dX10_worth_125 (by decide) (by have := hokk (26 * (1 - sd) + (25 - i)); omega) (fun c_25 => ?_) (fun c_25 => ?_)
                  · have hc_125 := c_25
                    refine z_iconst hF dX10_worth_132 ?_
                    refine lv_istore (lv' := [(4, .int (zI 0)), (3, .int (zI (sm0 + 0))), (6, .int (zI (bk f oo (26 * sd + i)))), (0, .ref a0), (1, .int (zI oo)), (2, .int (zI sd)), (5, .int (zI i))]) hx hb dX10_worth_133 hl (by decide) rfl (fun ls hl => ?_)
                    refine z_iinc (lv' := [(5, .int (zI (i + 1))), (4, .int (zI 0)), (3, .int (zI (sm0 + 0))), (6, .int (zI (bk f oo (26 * sd + i)))), (0, .ref a0), (1, .int (zI oo)), (2, .int (zI sd))]) hF dX10_worth_135 hl (k := 6) rfl (by decide) rfl (fun ls hl => ?_)
                    refine z_goto (tgt := 64) hF dX10_worth_138 (by decide) ?_
                    exact ih64 (i + 1) (sm0 + 0) 0 (by omega) (by omega) (by omega) (by omega) H locs ls hP hD hS (lv_sub hl [4, 5, 6, 2, 1, 0] rfl)
                  · have hc_125 := c_25
                    refine z_iconst hF dX10_worth_128 ?_
                    refine z_goto (tgt := 133) hF dX10_worth_129 (by decide) ?_
                    refine lv_istore (lv' := [(4, .int (zI 1)), (3, .int (zI (sm0 + 0))), (6, .int (zI (bk f oo (26 * sd + i)))), (0, .ref a0), (1, .int (zI oo)), (2, .int (zI sd)), (5, .int (zI i))]) hx hb dX10_worth_133 hl (by decide) rfl (fun ls hl => ?_)
                    refine z_iinc (lv' := [(5, .int (zI (i + 1))), (4, .int (zI 1)), (3, .int (zI (sm0 + 0))), (6, .int (zI (bk f oo (26 * sd + i)))), (0, .ref a0), (1, .int (zI oo)), (2, .int (zI sd))]) hF dX10_worth_135 hl (k := 6) rfl (by decide) rfl (fun ls hl => ?_)
                    refine z_goto (tgt := 64) hF dX10_worth_138 (by decide) ?_
                    exact ih64 (i + 1) (sm0 + 0) 1 (by omega) (by omega) (by omega) (by omega) H locs ls hP hD hS (lv_sub hl [4, 5, 6, 2, 1, 0] rfl)
              · have hc_101 := c_21
                refine z_bipush hF dX10_worth_104 (by decide) ?_
                refine z_goto (tgt := 110) hF dX10_worth_106 (by decide) ?_
                refine z_iadd hF dX10_worth_110 ?_
                refine lv_istore_n (lv' := [(3, .int (zI (sm0 + (-4)))), (6, .int (zI (bk f oo (26 * sd + i)))), (0, .ref a0), (1, .int (zI oo)), (2, .int (zI sd)), (4, .int (zI ex)), (5, .int (zI i))]) hx hb dX10_worth_111 rfl hl (by decide) rfl (fun ls hl => ?_)
                refine lv_iload hx hb dX10_worth_112 (lv_at hl 5 rfl) ?_
                refine z_if_ne (tgt := 128) hF dX10_worth_114 (by decide) (by have := exZ_rg (bk f oo) sd i; omega) (fun c_26 => ?_) (fun c_26 => ?_)
                · have hc_114 := c_26
                  refine z_iconst hF dX10_worth_128 ?_
                  refine z_goto (tgt := 133) hF dX10_worth_129 (by decide) ?_
                  refine lv_istore (lv' := [(4, .int (zI 1)), (3, .int (zI (sm0 + (-4)))), (6, .int (zI (bk f oo (26 * sd + i)))), (0, .ref a0), (1, .int (zI oo)), (2, .int (zI sd)), (5, .int (zI i))]) hx hb dX10_worth_133 hl (by decide) rfl (fun ls hl => ?_)
                  refine z_iinc (lv' := [(5, .int (zI (i + 1))), (4, .int (zI 1)), (3, .int (zI (sm0 + (-4)))), (6, .int (zI (bk f oo (26 * sd + i)))), (0, .ref a0), (1, .int (zI oo)), (2, .int (zI sd))]) hF dX10_worth_135 hl (k := 6) rfl (by decide) rfl (fun ls hl => ?_)
                  refine z_goto (tgt := 64) hF dX10_worth_138 (by decide) ?_
                  exact ih64 (i + 1) (sm0 + (-4)) 1 (by omega) (by omega) (by omega) (by omega) H locs ls hP hD hS (lv_sub hl [4, 5, 6, 2, 1, 0] rfl)
                · have hc_114 := c_26
                  refine lv_aload_n hx hb dX10_worth_117 rfl (lv_at hl 2 rfl) ?_
                  refine lv_iload_n hx hb dX10_worth_118 rfl (lv_at hl 3 rfl) ?_
                  refine lv_iload_n hx hb dX10_worth_119 rfl (lv_at hl 4 rfl) ?_
                  refine lv_iload hx hb dX10_worth_120 (lv_at hl 6 rfl) ?_
                  refine cj_i (va_runS (As := [.ref a0, .int (zI oo), .int (zI sd), .int (zI i)]) (rest := []) hF (c_X10_against l G a0 n f oo sd i  (by first | exact rfl | assumption) (by omega) (by omega) (by omega) H.size) (va_cwS 4 hF.2.2.2.2 gX10_worth_X10_against rfl rfl rfl (by decide +kernel) ⟨Nat.le_of_ble_eq_true rfl, Nat.le_of_ble_eq_true rfl⟩) (z_preS hK hP hD hS hA hBd [0] rfl rfl [.ref a0, .int (zI oo), .int (zI sd), .int (zI i)]) rfl rfl hl.1 rfl (lv_room (Nat.le_of_ble_eq_true rfl)) dX10_worth_122 ⟨Nat.le_of_ble_eq_true rfl, Nat.le_of_ble_eq_true rfl⟩) hP hD hS hA [0] rfl (fun _ => Nat.le_of_ble_eq_true rfl) (fun r_28 u_27 H locs hw hP hD hS => ?_)
                  have hP : va_P G.1 vwCl [(a0, .inl (G.2.1.1, n, .inl (aI f)))] H := hP
                  have hD : va_D A [(a0, .inl (G.2.1.1, n, .inl (aI f)))] := hD
                  obtain rfl := hw
                  refine z_if_le (tgt := 132) hF dX10_worth_125 (by decide) (by have := hokk (26 * (1 - sd) + (25 - i)); omega) (fun c_29 => ?_) (fun c_29 => ?_)
                  · have hc_125 := c_29
                    refine z_iconst hF dX10_worth_132 ?_
                    refine lv_istore (lv' := [(4, .int (zI 0)), (3, .int (zI (sm0 + (-4)))), (6, .int (zI (bk f oo (26 * sd + i)))), (0, .ref a0), (1, .int (zI oo)), (2, .int (zI sd)), (5, .int (zI i))]) hx hb dX10_worth_133 hl (by decide) rfl (fun ls hl => ?_)
                    refine z_iinc (lv' := [(5, .int (zI (i + 1))), (4, .int (zI 0)), (3, .int (zI (sm0 + (-4)))), (6, .int (zI (bk f oo (26 * sd + i)))), (0, .ref a0), (1, .int (zI oo)), (2, .int (zI sd))]) hF dX10_worth_135 hl (k := 6) rfl (by decide) rfl (fun ls hl => ?_)
                    refine z_goto (tgt := 64) hF dX10_worth_138 (by decide) ?_
                    exact ih64 (i + 1) (sm0 + (-4)) 0 (by omega) (by omega) (by omega) (by omega) H locs ls hP hD hS (lv_sub hl [4, 5, 6, 2, 1, 0] rfl)
                  · have hc_125 := c_29
                    refine z_iconst hF dX10_worth_128 ?_
                    refine z_goto (tgt := 133) hF dX10_worth_129 (by decide) ?_
                    refine lv_istore (lv' := [(4, .int (zI 1)), (3, .int (zI (sm0 + (-4)))), (6, .int (zI (bk f oo (26 * sd + i)))), (0, .ref a0), (1, .int (zI oo)), (2, .int (zI sd)), (5, .int (zI i))]) hx hb dX10_worth_133 hl (by decide) rfl (fun ls hl => ?_)
                    refine z_iinc (lv' := [(5, .int (zI (i + 1))), (4, .int (zI 1)), (3, .int (zI (sm0 + (-4)))), (6, .int (zI (bk f oo (26 * sd + i)))), (0, .ref a0), (1, .int (zI oo)), (2, .int (zI sd))]) hF dX10_worth_135 hl (k := 6) rfl (by decide) rfl (fun ls hl => ?_)
                    refine z_goto (tgt := 64) hF dX10_worth_138 (by decide) ?_
                    exact ih64 (i + 1) (sm0 + (-4)) 1 (by omega) (by omega) (by omega) (by omega) H locs ls hP hD hS (lv_sub hl [4, 5, 6, 2, 1, 0] rfl)
          · have hc_85 := c_15
            refine z_bipush hF dX10_worth_88 (by decide) ?_
            refine z_goto (tgt := 110) hF dX10_worth_90 (by decide) ?_
            refine z_iadd hF dX10_worth_110 ?_
            refine lv_istore_n (lv' := [(3, .int (zI (sm0 + 6))), (6, .int (zI (bk f oo (26 * sd + i)))), (0, .ref a0), (1, .int (zI oo)), (2, .int (zI sd)), (4, .int (zI ex)), (5, .int (zI i))]) hx hb dX10_worth_111 rfl hl (by decide) rfl (fun ls hl => ?_)
            refine lv_iload hx hb dX10_worth_112 (lv_at hl 5 rfl) ?_
            refine z_if_ne (tgt := 128) hF dX10_worth_114 (by decide) (by have := exZ_rg (bk f oo) sd i; omega) (fun c_30 => ?_) (fun c_30 => ?_)
            · have hc_114 := c_30
              refine z_iconst hF dX10_worth_128 ?_
              refine z_goto (tgt := 133) hF dX10_worth_129 (by decide) ?_
              refine lv_istore (lv' := [(4, .int (zI 1)), (3, .int (zI (sm0 + 6))), (6, .int (zI (bk f oo (26 * sd + i)))), (0, .ref a0), (1, .int (zI oo)), (2, .int (zI sd)), (5, .int (zI i))]) hx hb dX10_worth_133 hl (by decide) rfl (fun ls hl => ?_)
              refine z_iinc (lv' := [(5, .int (zI (i + 1))), (4, .int (zI 1)), (3, .int (zI (sm0 + 6))), (6, .int (zI (bk f oo (26 * sd + i)))), (0, .ref a0), (1, .int (zI oo)), (2, .int (zI sd))]) hF dX10_worth_135 hl (k := 6) rfl (by decide) rfl (fun ls hl => ?_)
              refine z_goto (tgt := 64) hF dX10_worth_138 (by decide) ?_
              exact ih64 (i + 1) (sm0 + 6) 1 (by omega) (by omega) (by omega) (by omega) H locs ls hP hD hS (lv_sub hl [4, 5, 6, 2, 1, 0] rfl)
            · have hc_114 := c_30
              refine lv_aload_n hx hb dX10_worth_117 rfl (lv_at hl 2 rfl) ?_
              refine lv_iload_n hx hb dX10_worth_118 rfl (lv_at hl 3 rfl) ?_
              refine lv_iload_n hx hb dX10_worth_119 rfl (lv_at hl 4 rfl) ?_
              refine lv_iload hx hb dX10_worth_120 (lv_at hl 6 rfl) ?_
              refine cj_i (va_runS (As := [.ref a0, .int (zI oo), .int (zI sd), .int (zI i)]) (rest := []) hF (c_X10_against l G a0 n f oo sd i  (by first | exact rfl | assumption) (by omega) (by omega) (by omega) H.size) (va_cwS 4 hF.2.2.2.2 gX10_worth_X10_against rfl rfl rfl (by decide +kernel) ⟨Nat.le_of_ble_eq_true rfl, Nat.le_of_ble_eq_true rfl⟩) (z_preS hK hP hD hS hA hBd [0] rfl rfl [.ref a0, .int (zI oo), .int (zI sd), .int (zI i)]) rfl rfl hl.1 rfl (lv_room (Nat.le_of_ble_eq_true rfl)) dX10_worth_122 ⟨Nat.le_of_ble_eq_true rfl, Nat.le_of_ble_eq_true rfl⟩) hP hD hS hA [0] rfl (fun _ => Nat.le_of_ble_eq_true rfl) (fun r_32 u_31 H locs hw hP hD hS => ?_)
              have hP : va_P G.1 vwCl [(a0, .inl (G.2.1.1, n, .inl (aI f)))] H := hP
              have hD : va_D A [(a0, .inl (G.2.1.1, n, .inl (aI f)))] := hD
              obtain rfl := hw
              refine z_if_le (tgt := 132) hF dX10_worth_125 (by decide) (by have := hokk (26 * (1 - sd) + (25 - i)); omega) (fun c_33 => ?_) (fun c_33 => ?_)
              · have hc_125 := c_33
                refine z_iconst hF dX10_worth_132 ?_
                refine lv_istore (lv' := [(4, .int (zI 0)), (3, .int (zI (sm0 + 6))), (6, .int (zI (bk f oo (26 * sd + i)))), (0, .ref a0), (1, .int (zI oo)), (2, .int (zI sd)), (5, .int (zI i))]) hx hb dX10_worth_133 hl (by decide) rfl (fun ls hl => ?_)
                refine z_iinc (lv' := [(5, .int (zI (i + 1))), (4, .int (zI 0)), (3, .int (zI (sm0 + 6))), (6, .int (zI (bk f oo (26 * sd + i)))), (0, .ref a0), (1, .int (zI oo)), (2, .int (zI sd))]) hF dX10_worth_135 hl (k := 6) rfl (by decide) rfl (fun ls hl => ?_)
                refine z_goto (tgt := 64) hF dX10_worth_138 (by decide) ?_
                exact ih64 (i + 1) (sm0 + 6) 0 (by omega) (by omega) (by omega) (by omega) H locs ls hP hD hS (lv_sub hl [4, 5, 6, 2, 1, 0] rfl)
              · have hc_125 := c_33
                refine z_iconst hF dX10_worth_128 ?_
                refine z_goto (tgt := 133) hF dX10_worth_129 (by decide) ?_
                refine lv_istore (lv' := [(4, .int (zI 1)), (3, .int (zI (sm0 + 6))), (6, .int (zI (bk f oo (26 * sd + i)))), (0, .ref a0), (1, .int (zI oo)), (2, .int (zI sd)), (5, .int (zI i))]) hx hb dX10_worth_133 hl (by decide) rfl (fun ls hl => ?_)
                refine z_iinc (lv' := [(5, .int (zI (i + 1))), (4, .int (zI 1)), (3, .int (zI (sm0 + 6))), (6, .int (zI (bk f oo (26 * sd + i)))), (0, .ref a0), (1, .int (zI oo)), (2, .int (zI sd))]) hF dX10_worth_135 hl (k := 6) rfl (by decide) rfl (fun ls hl => ?_)
                refine z_goto (tgt := 64) hF dX10_worth_138 (by decide) ?_
                exact ih64 (i + 1) (sm0 + 6) 1 (by omega) (by omega) (by omega) (by omega) H locs ls hP hD hS (lv_sub hl [4, 5, 6, 2, 1, 0] rfl)
    exact L64 _ 1 ((((sz (fun p => p * bk f oo (26 * (1 - sd) + p)) 26) - (sz (fun p => p * bk f oo (26 * sd + p)) 26)) + (8 * (bk f oo (26 * (1 - sd) + 25)))) + (10 * (bk f oo (26 * sd + 0)))) 0 (Nat.lt_succ_self _) (by omega) (by rw [adZ_1]; omega) (by omega) H locs ls hP hD hS (lv_sub hl [3, 4, 5, 2, 1, 0] rfl)
  · have hc_51 := c_11
    refine z_iconst hF dX10_worth_54 ?_
    refine z_goto (tgt := 59) hF dX10_worth_55 (by decide) ?_
    refine lv_istore (lv' := [(4, .int (zI 1)), (3, .int (zI ((((sz (fun p => p * bk f oo (26 * (1 - sd) + p)) 26) - (sz (fun p => p * bk f oo (26 * sd + p)) 26)) + (8 * (bk f oo (26 * (1 - sd) + 25)))) + (10 * (bk f oo (26 * sd + 0)))))), (0, .ref a0), (1, .int (zI oo)), (2, .int (zI sd))]) hx hb dX10_worth_59 hl (by decide) rfl (fun ls hl => ?_)
    refine z_iconst hF dX10_worth_61 ?_
    refine lv_istore (lv' := [(5, .int (zI 1)), (4, .int (zI 1)), (3, .int (zI ((((sz (fun p => p * bk f oo (26 * (1 - sd) + p)) 26) - (sz (fun p => p * bk f oo (26 * sd + p)) 26)) + (8 * (bk f oo (26 * (1 - sd) + 25)))) + (10 * (bk f oo (26 * sd + 0)))))), (0, .ref a0), (1, .int (zI oo)), (2, .int (zI sd))]) hx hb dX10_worth_62 hl (by decide) rfl (fun ls hl => ?_)
    have L64 : ∀ (n9 : Nat) (i sm0 ex : Int), (25 - i).toNat < n9 → (1 ≤ i ∧ i ≤ 25) → wth (bk f oo) sd = sm0 + (adN24 (bk f oo) sd - adZ (bk f oo) sd i) → ex = exZ (bk f oo) sd i → ∀ (H : Heap) (locs : List Loc) (ls : Array Slot), va_P G.1 vwCl [(a0, .inl (G.2.1.1, n, .inl (aI f)))] H → va_D A [(a0, .inl (G.2.1.1, n, .inl (aI f)))] → va_S A s.heap H locs → lv_has ls 7 [(0, .ref a0), (1, .int (zI oo)), (2, .int (zI sd)), (3, .int (zI sm0)), (4, .int (zI ex)), (5, .int (zI i))] → W p l e (rmL 3 0 0) s m args below meth c H locs 0 0 Q0 (F0 m 64 ls []) := by
      intro n9
      induction n9 with
      | zero => intro i sm0 ex hmu; omega
      | succ n9 ih64 =>
        intro i sm0 ex hmu64 hzi hsm hex H locs ls hP hD hS hl
        refine lv_iload hx hb dX10_worth_64 (lv_at hl 5 rfl) ?_
        have qd := exZ_rg (bk f oo) sd i
        refine z_bipush hF dX10_worth_66 (by decide) ?_
        refine z_icmp_gt (tgt := 141) hF dX10_worth_68 (by decide) (by omega) (by decide) (fun c_34 => ?_) (fun c_34 => ?_)
        · have hc_68 := c_34
          refine lv_iload_n hx hb dX10_worth_141 rfl (lv_at hl 3 rfl) ?_
          rw [hQ]
          exact z_iret hF hr hlocks () (zI_congr (by rw [hsm, show i = 25 by omega]; unfold adN24; omega)) hP hK hD hS dX10_worth_142
        · have hc_68 := c_34
          have qa := adj_cs (bk f oo (26 * sd + i)) (exZ (bk f oo) sd i)
          have qb := adZ_s (b := bk f oo) (sd := sd) (i := i) hzi.1
          have qc := exZ_cs (b := bk f oo) (sd := sd) (i := i) hzi.1
          have qd := exZ_rg (bk f oo) sd i
          have qe := hokk (26 * sd + i)
          have qf := hokk (26 * (1 - sd) + (25 - i))
          refine lv_aload_n hx hb dX10_worth_71 rfl (lv_at hl 0 rfl) ?_
          refine lv_iload_n hx hb dX10_worth_72 rfl (lv_at hl 1 rfl) ?_
          refine lv_iload_n hx hb dX10_worth_73 rfl (lv_at hl 2 rfl) ?_
          refine lv_iload hx hb dX10_worth_74 (lv_at hl 5 rfl) ?_
          refine cj_i (va_runS (As := [.ref a0, .int (zI oo), .int (zI sd), .int (zI i)]) (rest := []) hF (c_X10_on l G a0 n f oo sd i  (by first | exact rfl | assumption) (by omega) (by omega) (by omega) H.size) (va_cwS 4 hF.2.2.2.2 gX10_worth_X10_on rfl rfl rfl (by decide +kernel) ⟨Nat.le_of_ble_eq_true rfl, Nat.le_of_ble_eq_true rfl⟩) (z_preS hK hP hD hS hA hBd [0] rfl rfl [.ref a0, .int (zI oo), .int (zI sd), .int (zI i)]) rfl rfl hl.1 rfl (lv_room (Nat.le_of_ble_eq_true rfl)) dX10_worth_76 ⟨Nat.le_of_ble_eq_true rfl, Nat.le_of_ble_eq_true rfl⟩) hP hD hS hA [0] rfl (fun _ => Nat.le_of_ble_eq_true rfl) (fun r_36 u_35 H locs hw hP hD hS => ?_)
          have hP : va_P G.1 vwCl [(a0, .inl (G.2.1.1, n, .inl (aI f)))] H := hP
          have hD : va_D A [(a0, .inl (G.2.1.1, n, .inl (aI f)))] := hD
          obtain rfl := hw
          refine lv_istore (lv' := [(6, .int (zI (bk f oo (26 * sd + i)))), (0, .ref a0), (1, .int (zI oo)), (2, .int (zI sd)), (3, .int (zI sm0)), (4, .int (zI ex)), (5, .int (zI i))]) hx hb dX10_worth_79 hl (by decide) rfl (fun ls hl => ?_)
          refine lv_iload_n hx hb dX10_worth_81 rfl (lv_at hl 4 rfl) ?_
          refine lv_iload hx hb dX10_worth_82 (lv_at hl 0 rfl) ?_
          refine z_iconst hF dX10_worth_84 ?_
          refine z_icmp_lt (tgt := 93) hF dX10_worth_85 (by decide) (by have := hokk (26 * sd + i); omega) (by decide) (fun c_37 => ?_) (fun c_37 => ?_)
          · have hc_85 := c_37
            refine lv_iload hx hb dX10_worth_93 (lv_at hl 0 rfl) ?_
            refine z_iconst hF dX10_worth_95 ?_
            refine z_icmp_ne (tgt := 109) hF dX10_worth_96 (by decide) (by have := hokk (26 * sd + i); omega) (by decide) (fun c_38 => ?_) (fun c_38 => ?_)
            · have hc_96 := c_38
              refine z_iconst hF dX10_worth_109 ?_
              refine z_iadd hF dX10_worth_110 ?_
              refine lv_istore_n (lv' := [(3, .int (zI (sm0 + 0))), (6, .int (zI (bk f oo (26 * sd + i)))), (0, .ref a0), (1, .int (zI oo)), (2, .int (zI sd)), (4, .int (zI ex)), (5, .int (zI i))]) hx hb dX10_worth_111 rfl hl (by decide) rfl (fun ls hl => ?_)
              refine lv_iload hx hb dX10_worth_112 (lv_at hl 5 rfl) ?_
              refine z_if_ne (tgt := 128) hF dX10_worth_114 (by decide) (by have := exZ_rg (bk f oo) sd i; omega) (fun c_39 => ?_) (fun c_39 => ?_)
              · have hc_114 := c_39
                refine z_iconst hF dX10_worth_128 ?_
                refine z_goto (tgt := 133) hF dX10_worth_129 (by decide) ?_
                refine lv_istore (lv' := [(4, .int (zI 1)), (3, .int (zI (sm0 + 0))), (6, .int (zI (bk f oo (26 * sd + i)))), (0, .ref a0), (1, .int (zI oo)), (2, .int (zI sd)), (5, .int (zI i))]) hx hb dX10_worth_133 hl (by decide) rfl (fun ls hl => ?_)
                refine z_iinc (lv' := [(5, .int (zI (i + 1))), (4, .int (zI 1)), (3, .int (zI (sm0 + 0))), (6, .int (zI (bk f oo (26 * sd + i)))), (0, .ref a0), (1, .int (zI oo)), (2, .int (zI sd))]) hF dX10_worth_135 hl (k := 6) rfl (by decide) rfl (fun ls hl => ?_)
                refine z_goto (tgt := 64) hF dX10_worth_138 (by decide) ?_
                exact ih64 (i + 1) (sm0 + 0) 1 (by omega) (by omega) (by omega) (by omega) H locs ls hP hD hS (lv_sub hl [4, 5, 6, 2, 1, 0] rfl)
              · have hc_114 := c_39
                refine lv_aload_n hx hb dX10_worth_117 rfl (lv_at hl 2 rfl) ?_
                refine lv_iload_n hx hb dX10_worth_118 rfl (lv_at hl 3 rfl) ?_
                refine lv_iload_n hx hb dX10_worth_119 rfl (lv_at hl 4 rfl) ?_
                refine lv_iload hx hb dX10_worth_120 (lv_at hl 6 rfl) ?_
                refine cj_i (va_runS (As := [.ref a0, .int (zI oo), .int (zI sd), .int (zI i)]) (rest := []) hF (c_X10_against l G a0 n f oo sd i  (by first | exact rfl | assumption) (by omega) (by omega) (by omega) H.size) (va_cwS 4 hF.2.2.2.2 gX10_worth_X10_against rfl rfl rfl (by decide +kernel) ⟨Nat.le_of_ble_eq_true rfl, Nat.le_of_ble_eq_true rfl⟩) (z_preS hK hP hD hS hA hBd [0] rfl rfl [.ref a0, .int (zI oo), .int (zI sd), .int (zI i)]) rfl rfl hl.1 rfl (lv_room (Nat.le_of_ble_eq_true rfl)) dX10_worth_122 ⟨Nat.le_of_ble_eq_true rfl, Nat.le_of_ble_eq_true rfl⟩) hP hD hS hA [0] rfl (fun _ => Nat.le_of_ble_eq_true rfl) (fun r_41 u_40 H locs hw hP hD hS => ?_)
                have hP : va_P G.1 vwCl [(a0, .inl (G.2.1.1, n, .inl (aI f)))] H := hP
                have hD : va_D A [(a0, .inl (G.2.1.1, n, .inl (aI f)))] := hD
                obtain rfl := hw
                refine z_if_le (tgt := 132) hF dX10_worth_125 (by decide) (by have := hokk (26 * (1 - sd) + (25 - i)); omega) (fun c_42 => ?_) (fun c_42 => ?_)
                · have hc_125 := c_42
                  refine z_iconst hF dX10_worth_132 ?_
                  refine lv_istore (lv' := [(4, .int (zI 0)), (3, .int (zI (sm0 + 0))), (6, .int (zI (bk f oo (26 * sd + i)))), (0, .ref a0), (1, .int (zI oo)), (2, .int (zI sd)), (5, .int (zI i))]) hx hb dX10_worth_133 hl (by decide) rfl (fun ls hl => ?_)
                  refine z_iinc (lv' := [(5, .int (zI (i + 1))), (4, .int (zI 0)), (3, .int (zI (sm0 + 0))), (6, .int (zI (bk f oo (26 * sd + i)))), (0, .ref a0), (1, .int (zI oo)), (2, .int (zI sd))]) hF dX10_worth_135 hl (k := 6) rfl (by decide) rfl (fun ls hl => ?_)
                  refine z_goto (tgt := 64) hF dX10_worth_138 (by decide) ?_
                  exact ih64 (i + 1) (sm0 + 0) 0 (by omega) (by omega) (by omega) (by omega) H locs ls hP hD hS (lv_sub hl [4, 5, 6, 2, 1, 0] rfl)
                · have hc_125 := c_42
                  refine z_iconst hF dX10_worth_128 ?_
                  refine z_goto (tgt := 133) hF dX10_worth_129 (by decide) ?_
                  refine lv_istore (lv' := [(4, .int (zI 1)), (3, .int (zI (sm0 + 0))), (6, .int (zI (bk f oo (26 * sd + i)))), (0, .ref a0), (1, .int (zI oo)), (2, .int (zI sd)), (5, .int (zI i))]) hx hb dX10_worth_133 hl (by decide) rfl (fun ls hl => ?_)
                  refine z_iinc (lv' := [(5, .int (zI (i + 1))), (4, .int (zI 1)), (3, .int (zI (sm0 + 0))), (6, .int (zI (bk f oo (26 * sd + i)))), (0, .ref a0), (1, .int (zI oo)), (2, .int (zI sd))]) hF dX10_worth_135 hl (k := 6) rfl (by decide) rfl (fun ls hl => ?_)
                  refine z_goto (tgt := 64) hF dX10_worth_138 (by decide) ?_
                  exact ih64 (i + 1) (sm0 + 0) 1 (by omega) (by omega) (by omega) (by omega) H locs ls hP hD hS (lv_sub hl [4, 5, 6, 2, 1, 0] rfl)
            · have hc_96 := c_38
              refine lv_iload hx hb dX10_worth_99 (lv_at hl 5 rfl) ?_
              refine z_if_eq (tgt := 109) hF dX10_worth_101 (by decide) (by have := exZ_rg (bk f oo) sd i; omega) (fun c_43 => ?_) (fun c_43 => ?_)
              · have hc_101 := c_43
                refine z_iconst hF dX10_worth_109 ?_
                refine z_iadd hF dX10_worth_110 ?_
                refine lv_istore_n (lv' := [(3, .int (zI (sm0 + 0))), (6, .int (zI (bk f oo (26 * sd + i)))), (0, .ref a0), (1, .int (zI oo)), (2, .int (zI sd)), (4, .int (zI ex)), (5, .int (zI i))]) hx hb dX10_worth_111 rfl hl (by decide) rfl (fun ls hl => ?_)
                refine lv_iload hx hb dX10_worth_112 (lv_at hl 5 rfl) ?_
                refine z_if_ne (tgt := 128) hF dX10_worth_114 (by decide) (by have := exZ_rg (bk f oo) sd i; omega) (fun c_44 => ?_) (fun c_44 => ?_)
                · have hc_114 := c_44
                  refine z_iconst hF dX10_worth_128 ?_
                  refine z_goto (tgt := 133) hF dX10_worth_129 (by decide) ?_
                  refine lv_istore (lv' := [(4, .int (zI 1)), (3, .int (zI (sm0 + 0))), (6, .int (zI (bk f oo (26 * sd + i)))), (0, .ref a0), (1, .int (zI oo)), (2, .int (zI sd)), (5, .int (zI i))]) hx hb dX10_worth_133 hl (by decide) rfl (fun ls hl => ?_)
                  refine z_iinc (lv' := [(5, .int (zI (i + 1))), (4, .int (zI 1)), (3, .int (zI (sm0 + 0))), (6, .int (zI (bk f oo (26 * sd + i)))), (0, .ref a0), (1, .int (zI oo)), (2, .int (zI sd))]) hF dX10_worth_135 hl (k := 6) rfl (by decide) rfl (fun ls hl => ?_)
                  refine z_goto (tgt := 64) hF dX10_worth_138 (by decide) ?_
                  exact ih64 (i + 1) (sm0 + 0) 1 (by omega) (by omega) (by omega) (by omega) H locs ls hP hD hS (lv_sub hl [4, 5, 6, 2, 1, 0] rfl)
                · have hc_114 := c_44
                  refine lv_aload_n hx hb dX10_worth_117 rfl (lv_at hl 2 rfl) ?_
                  refine lv_iload_n hx hb dX10_worth_118 rfl (lv_at hl 3 rfl) ?_
                  refine lv_iload_n hx hb dX10_worth_119 rfl (lv_at hl 4 rfl) ?_
                  refine lv_iload hx hb dX10_worth_120 (lv_at hl 6 rfl) ?_
                  refine cj_i (va_runS (As := [.ref a0, .int (zI oo), .int (zI sd), .int (zI i)]) (rest := []) hF (c_X10_against l G a0 n f oo sd i  (by first | exact rfl | assumption) (by omega) (by omega) (by omega) H.size) (va_cwS 4 hF.2.2.2.2 gX10_worth_X10_against rfl rfl rfl (by decide +kernel) ⟨Nat.le_of_ble_eq_true rfl, Nat.le_of_ble_eq_true rfl⟩) (z_preS hK hP hD hS hA hBd [0] rfl rfl [.ref a0, .int (zI oo), .int (zI sd), .int (zI i)]) rfl rfl hl.1 rfl (lv_room (Nat.le_of_ble_eq_true rfl)) dX10_worth_122 ⟨Nat.le_of_ble_eq_true rfl, Nat.le_of_ble_eq_true rfl⟩) hP hD hS hA [0] rfl (fun _ => Nat.le_of_ble_eq_true rfl) (fun r_46 u_45 H locs hw hP hD hS => ?_)
                  have hP : va_P G.1 vwCl [(a0, .inl (G.2.1.1, n, .inl (aI f)))] H := hP
                  have hD : va_D A [(a0, .inl (G.2.1.1, n, .inl (aI f)))] := hD
                  obtain rfl := hw
                  refine z_if_le (tgt := 132) hF dX10_worth_125 (by decide) (by have := hokk (26 * (1 - sd) + (25 - i)); omega) (fun c_47 => ?_) (fun c_47 => ?_)
                  · have hc_125 := c_47
                    refine z_iconst hF dX10_worth_132 ?_
                    refine lv_istore (lv' := [(4, .int (zI 0)), (3, .int (zI (sm0 + 0))), (6, .int (zI (bk f oo (26 * sd + i)))), (0, .ref a0), (1, .int (zI oo)), (2, .int (zI sd)), (5, .int (zI i))]) hx hb dX10_worth_133 hl (by decide) rfl (fun ls hl => ?_)
                    refine z_iinc (lv' := [(5, .int (zI (i + 1))), (4, .int (zI 0)), (3, .int (zI (sm0 + 0))), (6, .int (zI (bk f oo (26 * sd + i)))), (0, .ref a0), (1, .int (zI oo)), (2, .int (zI sd))]) hF dX10_worth_135 hl (k := 6) rfl (by decide) rfl (fun ls hl => ?_)
                    refine z_goto (tgt := 64) hF dX10_worth_138 (by decide) ?_
                    exact ih64 (i + 1) (sm0 + 0) 0 (by omega) (by omega) (by omega) (by omega) H locs ls hP hD hS (lv_sub hl [4, 5, 6, 2, 1, 0] rfl)
                  · have hc_125 := c_47
                    refine z_iconst hF dX10_worth_128 ?_
                    refine z_goto (tgt := 133) hF dX10_worth_129 (by decide) ?_
                    refine lv_istore (lv' := [(4, .int (zI 1)), (3, .int (zI (sm0 + 0))), (6, .int (zI (bk f oo (26 * sd + i)))), (0, .ref a0), (1, .int (zI oo)), (2, .int (zI sd)), (5, .int (zI i))]) hx hb dX10_worth_133 hl (by decide) rfl (fun ls hl => ?_)
                    refine z_iinc (lv' := [(5, .int (zI (i + 1))), (4, .int (zI 1)), (3, .int (zI (sm0 + 0))), (6, .int (zI (bk f oo (26 * sd + i)))), (0, .ref a0), (1, .int (zI oo)), (2, .int (zI sd))]) hF dX10_worth_135 hl (k := 6) rfl (by decide) rfl (fun ls hl => ?_)
                    refine z_goto (tgt := 64) hF dX10_worth_138 (by decide) ?_
                    exact ih64 (i + 1) (sm0 + 0) 1 (by omega) (by omega) (by omega) (by omega) H locs ls hP hD hS (lv_sub hl [4, 5, 6, 2, 1, 0] rfl)
              · have hc_101 := c_43
                refine z_bipush hF dX10_worth_104 (by decide) ?_
                refine z_goto (tgt := 110) hF dX10_worth_106 (by decide) ?_
                refine z_iadd hF dX10_worth_110 ?_
                refine lv_istore_n (lv' := [(3, .int (zI (sm0 + (-4)))), (6, .int (zI (bk f oo (26 * sd + i)))), (0, .ref a0), (1, .int (zI oo)), (2, .int (zI sd)), (4, .int (zI ex)), (5, .int (zI i))]) hx hb dX10_worth_111 rfl hl (by decide) rfl (fun ls hl => ?_)
                refine lv_iload hx hb dX10_worth_112 (lv_at hl 5 rfl) ?_
                refine z_if_ne (tgt := 128) hF dX10_worth_114 (by decide) (by have := exZ_rg (bk f oo) sd i; omega) (fun c_48 => ?_) (fun c_48 => ?_)
                · have hc_114 := c_48
                  refine z_iconst hF dX10_worth_128 ?_
                  refine z_goto (tgt := 133) hF dX10_worth_129 (by decide) ?_
                  refine lv_istore (lv' := [(4, .int (zI 1)), (3, .int (zI (sm0 + (-4)))), (6, .int (zI (bk f oo (26 * sd + i)))), (0, .ref a0), (1, .int (zI oo)), (2, .int (zI sd)), (5, .int (zI i))]) hx hb dX10_worth_133 hl (by decide) rfl (fun ls hl => ?_)
                  refine z_iinc (lv' := [(5, .int (zI (i + 1))), (4, .int (zI 1)), (3, .int (zI (sm0 + (-4)))), (6, .int (zI (bk f oo (26 * sd + i)))), (0, .ref a0), (1, .int (zI oo)), (2, .int (zI sd))]) hF dX10_worth_135 hl (k := 6) rfl (by decide) rfl (fun ls hl => ?_)
                  refine z_goto (tgt := 64) hF dX10_worth_138 (by decide) ?_
                  exact ih64 (i + 1) (sm0 + (-4)) 1 (by omega) (by omega) (by omega) (by omega) H locs ls hP hD hS (lv_sub hl [4, 5, 6, 2, 1, 0] rfl)
                · have hc_114 := c_48
                  refine lv_aload_n hx hb dX10_worth_117 rfl (lv_at hl 2 rfl) ?_
                  refine lv_iload_n hx hb dX10_worth_118 rfl (lv_at hl 3 rfl) ?_
                  refine lv_iload_n hx hb dX10_worth_119 rfl (lv_at hl 4 rfl) ?_
                  refine lv_iload hx hb dX10_worth_120 (lv_at hl 6 rfl) ?_
                  refine cj_i (va_runS (As := [.ref a0, .int (zI oo), .int (zI sd), .int (zI i)]) (rest := []) hF (c_X10_against l G a0 n f oo sd i  (by first | exact rfl | assumption) (by omega) (by omega) (by omega) H.size) (va_cwS 4 hF.2.2.2.2 gX10_worth_X10_against rfl rfl rfl (by decide +kernel) ⟨Nat.le_of_ble_eq_true rfl, Nat.le_of_ble_eq_true rfl⟩) (z_preS hK hP hD hS hA hBd [0] rfl rfl [.ref a0, .int (zI oo), .int (zI sd), .int (zI i)]) rfl rfl hl.1 rfl (lv_room (Nat.le_of_ble_eq_true rfl)) dX10_worth_122 ⟨Nat.le_of_ble_eq_true rfl, Nat.le_of_ble_eq_true rfl⟩) hP hD hS hA [0] rfl (fun _ => Nat.le_of_ble_eq_true rfl) (fun r_50 u_49 H locs hw hP hD hS => ?_)
                  have hP : va_P G.1 vwCl [(a0, .inl (G.2.1.1, n, .inl (aI f)))] H := hP
                  have hD : va_D A [(a0, .inl (G.2.1.1, n, .inl (aI f)))] := hD
                  obtain rfl := hw
                  refine z_if_le (tgt := 132) hF dX10_worth_125 (by decide) (by have := hokk (26 * (1 - sd) + (25 - i)); omega) (fun c_51 => ?_) (fun c_51 => ?_)
                  · have hc_125 := c_51
                    refine z_iconst hF dX10_worth_132 ?_
                    refine lv_istore (lv' := [(4, .int (zI 0)), (3, .int (zI (sm0 + (-4)))), (6, .int (zI (bk f oo (26 * sd + i)))), (0, .ref a0), (1, .int (zI oo)), (2, .int (zI sd)), (5, .int (zI i))]) hx hb dX10_worth_133 hl (by decide) rfl (fun ls hl => ?_)
                    refine z_iinc (lv' := [(5, .int (zI (i + 1))), (4, .int (zI 0)), (3, .int (zI (sm0 + (-4)))), (6, .int (zI (bk f oo (26 * sd + i)))), (0, .ref a0), (1, .int (zI oo)), (2, .int (zI sd))]) hF dX10_worth_135 hl (k := 6) rfl (by decide) rfl (fun ls hl => ?_)
                    refine z_goto (tgt := 64) hF dX10_worth_138 (by decide) ?_
                    exact ih64 (i + 1) (sm0 + (-4)) 0 (by omega) (by omega) (by omega) (by omega) H locs ls hP hD hS (lv_sub hl [4, 5, 6, 2, 1, 0] rfl)
                  · have hc_125 := c_51
                    refine z_iconst hF dX10_worth_128 ?_
                    refine z_goto (tgt := 133) hF dX10_worth_129 (by decide) ?_
                    refine lv_istore (lv' := [(4, .int (zI 1)), (3, .int (zI (sm0 + (-4)))), (6, .int (zI (bk f oo (26 * sd + i)))), (0, .ref a0), (1, .int (zI oo)), (2, .int (zI sd)), (5, .int (zI i))]) hx hb dX10_worth_133 hl (by decide) rfl (fun ls hl => ?_)
                    refine z_iinc (lv' := [(5, .int (zI (i + 1))), (4, .int (zI 1)), (3, .int (zI (sm0 + (-4)))), (6, .int (zI (bk f oo (26 * sd + i)))), (0, .ref a0), (1, .int (zI oo)), (2, .int (zI sd))]) hF dX10_worth_135 hl (k := 6) rfl (by decide) rfl (fun ls hl => ?_)
                    refine z_goto (tgt := 64) hF dX10_worth_138 (by decide) ?_
                    exact ih64 (i + 1) (sm0 + (-4)) 1 (by omega) (by omega) (by omega) (by omega) H locs ls hP hD hS (lv_sub hl [4, 5, 6, 2, 1, 0] rfl)
          · have hc_85 := c_37
            refine z_bipush hF dX10_worth_88 (by decide) ?_
            refine z_goto (tgt := 110) hF dX10_worth_90 (by decide) ?_
            refine z_iadd hF dX10_worth_110 ?_
            refine lv_istore_n (lv' := [(3, .int (zI (sm0 + 6))), (6, .int (zI (bk f oo (26 * sd + i)))), (0, .ref a0), (1, .int (zI oo)), (2, .int (zI sd)), (4, .int (zI ex)), (5, .int (zI i))]) hx hb dX10_worth_111 rfl hl (by decide) rfl (fun ls hl => ?_)
            refine lv_iload hx hb dX10_worth_112 (lv_at hl 5 rfl) ?_
            refine z_if_ne (tgt := 128) hF dX10_worth_114 (by decide) (by have := exZ_rg (bk f oo) sd i; omega) (fun c_52 => ?_) (fun c_52 => ?_)
            · have hc_114 := c_52
              refine z_iconst hF dX10_worth_128 ?_
              refine z_goto (tgt := 133) hF dX10_worth_129 (by decide) ?_
              refine lv_istore (lv' := [(4, .int (zI 1)), (3, .int (zI (sm0 + 6))), (6, .int (zI (bk f oo (26 * sd + i)))), (0, .ref a0), (1, .int (zI oo)), (2, .int (zI sd)), (5, .int (zI i))]) hx hb dX10_worth_133 hl (by decide) rfl (fun ls hl => ?_)
              refine z_iinc (lv' := [(5, .int (zI (i + 1))), (4, .int (zI 1)), (3, .int (zI (sm0 + 6))), (6, .int (zI (bk f oo (26 * sd + i)))), (0, .ref a0), (1, .int (zI oo)), (2, .int (zI sd))]) hF dX10_worth_135 hl (k := 6) rfl (by decide) rfl (fun ls hl => ?_)
              refine z_goto (tgt := 64) hF dX10_worth_138 (by decide) ?_
              exact ih64 (i + 1) (sm0 + 6) 1 (by omega) (by omega) (by omega) (by omega) H locs ls hP hD hS (lv_sub hl [4, 5, 6, 2, 1, 0] rfl)
            · have hc_114 := c_52
              refine lv_aload_n hx hb dX10_worth_117 rfl (lv_at hl 2 rfl) ?_
              refine lv_iload_n hx hb dX10_worth_118 rfl (lv_at hl 3 rfl) ?_
              refine lv_iload_n hx hb dX10_worth_119 rfl (lv_at hl 4 rfl) ?_
              refine lv_iload hx hb dX10_worth_120 (lv_at hl 6 rfl) ?_
              refine cj_i (va_runS (As := [.ref a0, .int (zI oo), .int (zI sd), .int (zI i)]) (rest := []) hF (c_X10_against l G a0 n f oo sd i  (by first | exact rfl | assumption) (by omega) (by omega) (by omega) H.size) (va_cwS 4 hF.2.2.2.2 gX10_worth_X10_against rfl rfl rfl (by decide +kernel) ⟨Nat.le_of_ble_eq_true rfl, Nat.le_of_ble_eq_true rfl⟩) (z_preS hK hP hD hS hA hBd [0] rfl rfl [.ref a0, .int (zI oo), .int (zI sd), .int (zI i)]) rfl rfl hl.1 rfl (lv_room (Nat.le_of_ble_eq_true rfl)) dX10_worth_122 ⟨Nat.le_of_ble_eq_true rfl, Nat.le_of_ble_eq_true rfl⟩) hP hD hS hA [0] rfl (fun _ => Nat.le_of_ble_eq_true rfl) (fun r_54 u_53 H locs hw hP hD hS => ?_)
              have hP : va_P G.1 vwCl [(a0, .inl (G.2.1.1, n, .inl (aI f)))] H := hP
              have hD : va_D A [(a0, .inl (G.2.1.1, n, .inl (aI f)))] := hD
              obtain rfl := hw
              refine z_if_le (tgt := 132) hF dX10_worth_125 (by decide) (by have := hokk (26 * (1 - sd) + (25 - i)); omega) (fun c_55 => ?_) (fun c_55 => ?_)
              · have hc_125 := c_55
                refine z_iconst hF dX10_worth_132 ?_
                refine lv_istore (lv' := [(4, .int (zI 0)), (3, .int (zI (sm0 + 6))), (6, .int (zI (bk f oo (26 * sd + i)))), (0, .ref a0), (1, .int (zI oo)), (2, .int (zI sd)), (5, .int (zI i))]) hx hb dX10_worth_133 hl (by decide) rfl (fun ls hl => ?_)
                refine z_iinc (lv' := [(5, .int (zI (i + 1))), (4, .int (zI 0)), (3, .int (zI (sm0 + 6))), (6, .int (zI (bk f oo (26 * sd + i)))), (0, .ref a0), (1, .int (zI oo)), (2, .int (zI sd))]) hF dX10_worth_135 hl (k := 6) rfl (by decide) rfl (fun ls hl => ?_)
                refine z_goto (tgt := 64) hF dX10_worth_138 (by decide) ?_
                exact ih64 (i + 1) (sm0 + 6) 0 (by omega) (by omega) (by omega) (by omega) H locs ls hP hD hS (lv_sub hl [4, 5, 6, 2, 1, 0] rfl)
              · have hc_125 := c_55
                refine z_iconst hF dX10_worth_128 ?_
                refine z_goto (tgt := 133) hF dX10_worth_129 (by decide) ?_
                refine lv_istore (lv' := [(4, .int (zI 1)), (3, .int (zI (sm0 + 6))), (6, .int (zI (bk f oo (26 * sd + i)))), (0, .ref a0), (1, .int (zI oo)), (2, .int (zI sd)), (5, .int (zI i))]) hx hb dX10_worth_133 hl (by decide) rfl (fun ls hl => ?_)
                refine z_iinc (lv' := [(5, .int (zI (i + 1))), (4, .int (zI 1)), (3, .int (zI (sm0 + 6))), (6, .int (zI (bk f oo (26 * sd + i)))), (0, .ref a0), (1, .int (zI oo)), (2, .int (zI sd))]) hF dX10_worth_135 hl (k := 6) rfl (by decide) rfl (fun ls hl => ?_)
                refine z_goto (tgt := 64) hF dX10_worth_138 (by decide) ?_
                exact ih64 (i + 1) (sm0 + 6) 1 (by omega) (by omega) (by omega) (by omega) H locs ls hP hD hS (lv_sub hl [4, 5, 6, 2, 1, 0] rfl)
    exact L64 _ 1 ((((sz (fun p => p * bk f oo (26 * (1 - sd) + p)) 26) - (sz (fun p => p * bk f oo (26 * sd + p)) 26)) + (8 * (bk f oo (26 * (1 - sd) + 25)))) + (10 * (bk f oo (26 * sd + 0)))) 1 (Nat.lt_succ_self _) (by omega) (by rw [adZ_1]; omega) (by omega) H locs ls hP hD hS (lv_sub hl [3, 4, 5, 2, 1, 0] rfl)
set_option maxHeartbeats 4000000 in
set_option maxRecDepth 100000 in
theorem c_X10_isAlike (l : Launch) (G : wG) (a0 n a1 n2 : Nat) (f g : Int → Int) (o1 o2 : Int)  (hble_n : Nat.ble n 2147483648 = true) (hble_n2 : Nat.ble n2 2147483648 = true) (ho1 : 0 ≤ o1 ∧ o1 + 52 ≤ (n : Int)) (ho2 : 0 ≤ o2 ∧ o2 + 52 ≤ (n2 : Int)) (hok1 : okB (bk f o1)) (hok2 : okB (bk g o2)) (z9 : Nat) : Met l yX10_isAlike wsX10_isAlike (rmL 1 0 0) (wPc G [(a0, .inl (G.2.1.1, n, .inl (aI f))), (a1, .inl (G.2.1.1, n2, .inl (aI g)))] z9 [.ref a0, .int (zI o1), .ref a1, .int (zI o2)]) (wQi G (fun (r : Int32) (u : Unit) => ((∀ k : Int, 0 ≤ k → k < 52 → bk f o1 k = bk g o2 k) ∧ r = zI 1) ∨ ((¬ (∀ k : Int, 0 ≤ k → k < 52 → bk f o1 k = bk g o2 k)) ∧ r = zI 0)) (fun (u : Unit) => [(a0, .inl (G.2.1.1, n, .inl (aI f))), (a1, .inl (G.2.1.1, n2, .inl (aI g)))]) (va_A [(a0, .inl (G.2.1.1, n, .inl (aI f))), (a1, .inl (G.2.1.1, n2, .inl (aI g)))] z9)) 0 0 (va_A [(a0, .inl (G.2.1.1, n, .inl (aI f))), (a1, .inl (G.2.1.1, n2, .inl (aI g)))] z9) := by
  refine z_ofW (Qc := fun A => wQi G (fun (r : Int32) (u : Unit) => ((∀ k : Int, 0 ≤ k → k < 52 → bk f o1 k = bk g o2 k) ∧ r = zI 1) ∨ ((¬ (∀ k : Int, 0 ≤ k → k < 52 → bk f o1 k = bk g o2 k)) ∧ r = zI 0)) (fun (u : Unit) => [(a0, .inl (G.2.1.1, n, .inl (aI f))), (a1, .inl (G.2.1.1, n2, .inl (aI g)))]) A) l G [(a0, .inl (G.2.1.1, n, .inl (aI f))), (a1, .inl (G.2.1.1, n2, .inl (aI g)))] [.ref a0, .int (zI o1), .ref a1, .int (zI o2)] (by decide) rfl rfl ?_ z9
  intro p e s m args below meth c A ls H locs hF hr hlocks hinit hP hK hD hA hS hBd hl
  have hF : wFx p m c cX10_isAlike 6 s args wsX10_isAlike RX10 := hF
  have hl : lv_has ls 6 [(0, .ref a0), (1, .int (zI o1)), (2, .ref a1), (3, .int (zI o2))] := hl
  have hx := hF.1
  have hb := hF.2.1
  obtain ⟨Q0, hQ⟩ : ∃ q, q = (MQ below (wQi G (fun (r : Int32) (u : Unit) => ((∀ k : Int, 0 ≤ k → k < 52 → bk f o1 k = bk g o2 k) ∧ r = zI 1) ∨ ((¬ (∀ k : Int, 0 ≤ k → k < 52 → bk f o1 k = bk g o2 k)) ∧ r = zI 0)) (fun (u : Unit) => [(a0, .inl (G.2.1.1, n, .inl (aI f))), (a1, .inl (G.2.1.1, n2, .inl (aI g)))]) A) args s 0 0 A) := ⟨_, rfl⟩
  rw [← hQ]
  refine z_iconst hF dX10_isAlike_0 ?_
  refine lv_istore (lv' := [(4, .int (zI 1)), (0, .ref a0), (1, .int (zI o1)), (2, .ref a1), (3, .int (zI o2))]) hx hb dX10_isAlike_1 hl (by decide) rfl (fun ls hl => ?_)
  refine z_iconst hF dX10_isAlike_3 ?_
  refine lv_istore (lv' := [(5, .int (zI 0)), (4, .int (zI 1)), (0, .ref a0), (1, .int (zI o1)), (2, .ref a1), (3, .int (zI o2))]) hx hb dX10_isAlike_4 hl (by decide) rfl (fun ls hl => ?_)
  have L6 : ∀ (n9 : Nat) (i q : Int), (52 - i).toNat < n9 → (0 ≤ i ∧ i ≤ 52) → ((q = 1 ∧ ∀ k : Int, 0 ≤ k → k < i → bk f o1 k = bk g o2 k) ∨ (q = 0 ∧ ¬ ∀ k : Int, 0 ≤ k → k < i → bk f o1 k = bk g o2 k)) → ∀ (H : Heap) (locs : List Loc) (ls : Array Slot), va_P G.1 vwCl [(a0, .inl (G.2.1.1, n, .inl (aI f))), (a1, .inl (G.2.1.1, n2, .inl (aI g)))] H → va_D A [(a0, .inl (G.2.1.1, n, .inl (aI f))), (a1, .inl (G.2.1.1, n2, .inl (aI g)))] → va_S A s.heap H locs → lv_has ls 6 [(0, .ref a0), (1, .int (zI o1)), (2, .ref a1), (3, .int (zI o2)), (4, .int (zI q)), (5, .int (zI i))] → W p l e (rmL 1 0 0) s m args below meth c H locs 0 0 Q0 (F0 m 6 ls []) := by
    intro n9
    induction n9 with
    | zero => intro i q hmu; omega
    | succ n9 ih6 =>
      intro i q hmu6 hzi hq H locs ls hP hD hS hl
      refine lv_iload hx hb dX10_isAlike_6 (lv_at hl 5 rfl) ?_
      refine z_bipush hF dX10_isAlike_8 (by decide) ?_
      refine z_icmp_ge (tgt := 46) hF dX10_isAlike_10 (by decide) (by omega) (by decide) (fun c_1 => ?_) (fun c_1 => ?_)
      · have hc_10 := c_1
        refine lv_iload hx hb dX10_isAlike_46 (lv_at hl 4 rfl) ?_
        rw [hQ]
        exact z_zret hF hr hlocks (zb_n (by omega)) () (by rcases hq with h8 | h8; (exact Or.inl ⟨fun k h0 h1 => h8.2 k h0 (by omega), by rw [h8.1]⟩); exact Or.inr ⟨fun h9 => h8.2 (fun k h0 h1 => h9 k h0 (by omega)), by rw [h8.1]⟩) hP hK hD hS dX10_isAlike_48
      · have hc_10 := c_1
        refine lv_iload hx hb dX10_isAlike_13 (lv_at hl 4 rfl) ?_
        refine z_if_eq (tgt := 37) hF dX10_isAlike_15 (by decide) (by omega) (fun c_2 => ?_) (fun c_2 => ?_)
        · have hc_15 := c_2
          refine z_iconst hF dX10_isAlike_37 ?_
          refine lv_istore (lv' := [(4, .int (zI 0)), (0, .ref a0), (1, .int (zI o1)), (2, .ref a1), (3, .int (zI o2)), (5, .int (zI i))]) hx hb dX10_isAlike_38 hl (by decide) rfl (fun ls hl => ?_)
          refine z_iinc (lv' := [(5, .int (zI (i + 1))), (4, .int (zI 0)), (0, .ref a0), (1, .int (zI o1)), (2, .ref a1), (3, .int (zI o2))]) hF dX10_isAlike_40 hl (k := 5) rfl (by decide) rfl (fun ls hl => ?_)
          refine z_goto (tgt := 6) hF dX10_isAlike_43 (by decide) ?_
          exact ih6 (i + 1) 0 (by omega) (by omega) (by rcases hq with h8 | h8; (first | (exact absurd h8.1 (by omega)) | (exact Or.inl ⟨rfl, fun k h0 h1 => if h7 : k = i then h7 ▸ hc_30 else h8.2 k h0 (by omega)⟩) | (exact Or.inr ⟨rfl, fun h9 => hc_30 (h9 i hzi.1 (by omega))⟩)); (first | (exact absurd h8.1 (by omega)) | (exact Or.inr ⟨rfl, fun h9 => h8.2 (fun k h0 h1 => h9 k h0 (by omega))⟩))) H locs ls hP hD hS (lv_sub hl [2, 3, 4, 5, 1, 0] rfl)
        · have hc_15 := c_2
          have q1 := hok1 i
          have q2 := hok2 i
          refine lv_aload_n hx hb dX10_isAlike_18 rfl (lv_at hl 0 rfl) ?_
          refine lv_iload_n hx hb dX10_isAlike_19 rfl (lv_at hl 1 rfl) ?_
          refine lv_iload hx hb dX10_isAlike_20 (lv_at hl 5 rfl) ?_
          refine z_iadd hF dX10_isAlike_22 ?_
          refine z_iald hF hK hP 0 rfl (by omega) hble_n dX10_isAlike_23 ?_
          refine z_tz (b := (bk f o1 i)) (bk_e (by omega) (by omega)) ?_
          refine lv_aload_n hx hb dX10_isAlike_24 rfl (lv_at hl 2 rfl) ?_
          refine lv_iload_n hx hb dX10_isAlike_25 rfl (lv_at hl 3 rfl) ?_
          refine lv_iload hx hb dX10_isAlike_26 (lv_at hl 5 rfl) ?_
          refine z_iadd hF dX10_isAlike_28 ?_
          refine z_iald hF hK hP 1 rfl (by omega) hble_n2 dX10_isAlike_29 ?_
          refine z_tz (b := (bk g o2 i)) (bk_e (by omega) (by omega)) ?_
          refine z_icmp_ne (tgt := 37) hF dX10_isAlike_30 (by decide) (by omega) (by omega) (fun c_3 => ?_) (fun c_3 => ?_)
          · have hc_30 := c_3
            refine z_iconst hF dX10_isAlike_37 ?_
            refine lv_istore (lv' := [(4, .int (zI 0)), (0, .ref a0), (1, .int (zI o1)), (2, .ref a1), (3, .int (zI o2)), (5, .int (zI i))]) hx hb dX10_isAlike_38 hl (by decide) rfl (fun ls hl => ?_)
            refine z_iinc (lv' := [(5, .int (zI (i + 1))), (4, .int (zI 0)), (0, .ref a0), (1, .int (zI o1)), (2, .ref a1), (3, .int (zI o2))]) hF dX10_isAlike_40 hl (k := 5) rfl (by decide) rfl (fun ls hl => ?_)
            refine z_goto (tgt := 6) hF dX10_isAlike_43 (by decide) ?_
            exact ih6 (i + 1) 0 (by omega) (by omega) (by rcases hq with h8 | h8; (first | (exact absurd h8.1 (by omega)) | (exact Or.inl ⟨rfl, fun k h0 h1 => if h7 : k = i then h7 ▸ hc_30 else h8.2 k h0 (by omega)⟩) | (exact Or.inr ⟨rfl, fun h9 => hc_30 (h9 i hzi.1 (by omega))⟩)); (first | (exact absurd h8.1 (by omega)) | (exact Or.inr ⟨rfl, fun h9 => h8.2 (fun k h0 h1 => h9 k h0 (by omega))⟩))) H locs ls hP hD hS (lv_sub hl [2, 3, 4, 5, 1, 0] rfl)
          · have hc_30 := c_3
            refine z_iconst hF dX10_isAlike_33 ?_
            refine z_goto (tgt := 38) hF dX10_isAlike_34 (by decide) ?_
            refine lv_istore (lv' := [(4, .int (zI 1)), (0, .ref a0), (1, .int (zI o1)), (2, .ref a1), (3, .int (zI o2)), (5, .int (zI i))]) hx hb dX10_isAlike_38 hl (by decide) rfl (fun ls hl => ?_)
            refine z_iinc (lv' := [(5, .int (zI (i + 1))), (4, .int (zI 1)), (0, .ref a0), (1, .int (zI o1)), (2, .ref a1), (3, .int (zI o2))]) hF dX10_isAlike_40 hl (k := 5) rfl (by decide) rfl (fun ls hl => ?_)
            refine z_goto (tgt := 6) hF dX10_isAlike_43 (by decide) ?_
            exact ih6 (i + 1) 1 (by omega) (by omega) (by rcases hq with h8 | h8; (first | (exact absurd h8.1 (by omega)) | (exact Or.inl ⟨rfl, fun k h0 h1 => if h7 : k = i then h7 ▸ hc_30 else h8.2 k h0 (by omega)⟩) | (exact Or.inr ⟨rfl, fun h9 => hc_30 (h9 i hzi.1 (by omega))⟩)); (first | (exact absurd h8.1 (by omega)) | (exact Or.inr ⟨rfl, fun h9 => h8.2 (fun k h0 h1 => h9 k h0 (by omega))⟩))) H locs ls hP hD hS (lv_sub hl [2, 3, 4, 5, 1, 0] rfl)
  exact L6 _ 0 1 (Nat.lt_succ_self _) (by omega) (Or.inl ⟨rfl, fun k h0 h1 => by omega⟩) H locs ls hP hD hS (lv_sub hl [2, 3, 4, 5, 1, 0] rfl)
set_option maxHeartbeats 4000000 in
set_option maxRecDepth 100000 in
theorem c_X10_copyS (l : Launch) (G : wG) (a0 n : Nat) (f : Int → Int) (o1 o2 : Int)  (hble_n : Nat.ble n 2147483648 = true) (ho1 : 0 ≤ o1 ∧ o1 + 52 ≤ (n : Int)) (ho2 : 0 ≤ o2 ∧ o2 + 52 ≤ (n : Int)) (hap : o1 + 52 ≤ o2 ∨ o2 + 52 ≤ o1) (z9 : Nat) : Met l yX10_copy wsX10_copy (rmL 1 0 0) (wPc G [(a0, .inl (G.2.1.1, n, .inl (aI f)))] z9 [.ref a0, .int (zI o1), .ref a0, .int (zI o2)]) (wQv G (fun (u : Unit) => True) (fun (u : Unit) => [(a0, .inl (G.2.1.1, n, .inl (aI (wb f o2 (bk f o1)))))]) (va_A [(a0, .inl (G.2.1.1, n, .inl (aI f)))] z9)) 0 0 (va_A [(a0, .inl (G.2.1.1, n, .inl (aI f)))] z9) := by
  refine z_ofW (Qc := fun A => wQv G (fun (u : Unit) => True) (fun (u : Unit) => [(a0, .inl (G.2.1.1, n, .inl (aI (wb f o2 (bk f o1)))))]) A) l G [(a0, .inl (G.2.1.1, n, .inl (aI f)))] [.ref a0, .int (zI o1), .ref a0, .int (zI o2)] (by decide) rfl rfl ?_ z9
  intro p e s m args below meth c A ls H locs hF hr hlocks hinit hP hK hD hA hS hBd hl
  have hF : wFx p m c cX10_copy 5 s args wsX10_copy RX10 := hF
  have hl : lv_has ls 5 [(0, .ref a0), (1, .int (zI o1)), (2, .ref a0), (3, .int (zI o2))] := hl
  have hx := hF.1
  have hb := hF.2.1
  obtain ⟨Q0, hQ⟩ : ∃ q, q = (MQ below (wQv G (fun (u : Unit) => True) (fun (u : Unit) => [(a0, .inl (G.2.1.1, n, .inl (aI (wb f o2 (bk f o1)))))]) A) args s 0 0 A) := ⟨_, rfl⟩
  rw [← hQ]
  refine z_iconst hF dX10_copy_0 ?_
  refine lv_istore (lv' := [(4, .int (zI 0)), (0, .ref a0), (1, .int (zI o1)), (2, .ref a0), (3, .int (zI o2))]) hx hb dX10_copy_1 hl (by decide) rfl (fun ls hl => ?_)
  have L3 : ∀ (n9 : Nat) (i : Int), (52 - i).toNat < n9 → (0 ≤ i ∧ i ≤ 52) → ∀ (H : Heap) (locs : List Loc) (ls : Array Slot), va_P G.1 vwCl [(a0, .inl (G.2.1.1, n, .inl (aI (cpi f f o1 o2 i))))] H → va_D A [(a0, .inl (G.2.1.1, n, .inl (aI (cpi f f o1 o2 i))))] → va_S A s.heap H locs → lv_has ls 5 [(0, .ref a0), (1, .int (zI o1)), (2, .ref a0), (3, .int (zI o2)), (4, .int (zI i))] → W p l e (rmL 1 0 0) s m args below meth c H locs 0 0 Q0 (F0 m 3 ls []) := by
    intro n9
    induction n9 with
    | zero => intro i hmu; omega
    | succ n9 ih3 =>
      intro i hmu3 hzi H locs ls hP hD hS hl
      refine lv_iload hx hb dX10_copy_3 (lv_at hl 4 rfl) ?_
      refine z_bipush hF dX10_copy_5 (by decide) ?_
      refine z_icmp_ge (tgt := 28) hF dX10_copy_7 (by decide) (by omega) (by decide) (fun c_1 => ?_) (fun c_1 => ?_)
      · have hc_7 := c_1
        have hP : va_P G.1 vwCl [(a0, .inl (G.2.1.1, n, .inl (aI (wb f o2 (bk f o1)))))] H := by rw [show ((wb f o2 (bk f o1)) : Int → Int) = (cpi f f o1 o2 i) from (by rw [show i = 52 by omega]; exact cpi_e.symm)]; exact hP
        have hD : va_D A [(a0, .inl (G.2.1.1, n, .inl (aI (wb f o2 (bk f o1)))))] := by rw [show ((wb f o2 (bk f o1)) : Int → Int) = (cpi f f o1 o2 i) from (by rw [show i = 52 by omega]; exact cpi_e.symm)]; exact hD
        rw [hQ]
        exact z_vret hF hr hlocks () (trivial) hP hK hD hS dX10_copy_28
      · have hc_7 := c_1
        refine lv_aload_n hx hb dX10_copy_10 rfl (lv_at hl 2 rfl) ?_
        refine lv_iload_n hx hb dX10_copy_11 rfl (lv_at hl 3 rfl) ?_
        refine lv_iload hx hb dX10_copy_12 (lv_at hl 4 rfl) ?_
        refine z_iadd hF dX10_copy_14 ?_
        refine lv_aload_n hx hb dX10_copy_15 rfl (lv_at hl 0 rfl) ?_
        refine lv_iload_n hx hb dX10_copy_16 rfl (lv_at hl 1 rfl) ?_
        refine lv_iload hx hb dX10_copy_17 (lv_at hl 4 rfl) ?_
        refine z_iadd hF dX10_copy_19 ?_
        refine z_iald hF hK hP 0 rfl (by omega) hble_n dX10_copy_20 ?_
        refine z_tz (b := (f (o1 + i))) (cpi_o (by omega)) ?_
        refine z_iast hF hK hP hD hS 0 rfl (by omega) hble_n dX10_copy_21 (fun H locs hP hD hS => ?_)
        have hP : va_P G.1 vwCl [(a0, .inl (G.2.1.1, n, .inl (aI (up (cpi f f o1 o2 i) (o2 + i) (f (o1 + i))))))] H := hP
        have hD : va_D A [(a0, .inl (G.2.1.1, n, .inl (aI (up (cpi f f o1 o2 i) (o2 + i) (f (o1 + i))))))] := hD
        rw [show up (cpi f f o1 o2 i) (o2 + i) (f (o1 + i)) = cpi f f o1 o2 (i + 1) from (cpi_s hzi.1)] at hP hD
        refine z_iinc (lv' := [(4, .int (zI (i + 1))), (0, .ref a0), (1, .int (zI o1)), (2, .ref a0), (3, .int (zI o2))]) hF dX10_copy_22 hl (k := 4) rfl (by decide) rfl (fun ls hl => ?_)
        refine z_goto (tgt := 3) hF dX10_copy_25 (by decide) ?_
        exact ih3 (i + 1) (by omega) (by omega) H locs ls hP hD hS (lv_sub hl [1, 2, 3, 4, 0] rfl)
  rw [show aI f = aI (cpi f f o1 o2 0) by rw [cpi_0]] at hP hD
  exact L3 _ 0 (Nat.lt_succ_self _) (by omega) H locs ls hP hD hS (lv_sub hl [1, 2, 3, 4, 0] rfl)
set_option maxHeartbeats 4000000 in
set_option maxRecDepth 100000 in
theorem c_X10_copyD (l : Launch) (G : wG) (a0 n a1 n2 : Nat) (f g : Int → Int) (o1 o2 : Int)  (hble_n : Nat.ble n 2147483648 = true) (hble_n2 : Nat.ble n2 2147483648 = true) (ho1 : 0 ≤ o1 ∧ o1 + 52 ≤ (n : Int)) (ho2 : 0 ≤ o2 ∧ o2 + 52 ≤ (n2 : Int)) (z9 : Nat) : Met l yX10_copy wsX10_copy (rmL 1 0 0) (wPc G [(a0, .inl (G.2.1.1, n, .inl (aI f))), (a1, .inl (G.2.1.1, n2, .inl (aI g)))] z9 [.ref a0, .int (zI o1), .ref a1, .int (zI o2)]) (wQv G (fun (u : Unit) => True) (fun (u : Unit) => [(a0, .inl (G.2.1.1, n, .inl (aI f))), (a1, .inl (G.2.1.1, n2, .inl (aI (wb g o2 (bk f o1)))))]) (va_A [(a0, .inl (G.2.1.1, n, .inl (aI f))), (a1, .inl (G.2.1.1, n2, .inl (aI g)))] z9)) 0 0 (va_A [(a0, .inl (G.2.1.1, n, .inl (aI f))), (a1, .inl (G.2.1.1, n2, .inl (aI g)))] z9) := by
  refine z_ofW (Qc := fun A => wQv G (fun (u : Unit) => True) (fun (u : Unit) => [(a0, .inl (G.2.1.1, n, .inl (aI f))), (a1, .inl (G.2.1.1, n2, .inl (aI (wb g o2 (bk f o1)))))]) A) l G [(a0, .inl (G.2.1.1, n, .inl (aI f))), (a1, .inl (G.2.1.1, n2, .inl (aI g)))] [.ref a0, .int (zI o1), .ref a1, .int (zI o2)] (by decide) rfl rfl ?_ z9
  intro p e s m args below meth c A ls H locs hF hr hlocks hinit hP hK hD hA hS hBd hl
  have hF : wFx p m c cX10_copy 5 s args wsX10_copy RX10 := hF
  have hl : lv_has ls 5 [(0, .ref a0), (1, .int (zI o1)), (2, .ref a1), (3, .int (zI o2))] := hl
  have hx := hF.1
  have hb := hF.2.1
  obtain ⟨Q0, hQ⟩ : ∃ q, q = (MQ below (wQv G (fun (u : Unit) => True) (fun (u : Unit) => [(a0, .inl (G.2.1.1, n, .inl (aI f))), (a1, .inl (G.2.1.1, n2, .inl (aI (wb g o2 (bk f o1)))))]) A) args s 0 0 A) := ⟨_, rfl⟩
  rw [← hQ]
  refine z_iconst hF dX10_copy_0 ?_
  refine lv_istore (lv' := [(4, .int (zI 0)), (0, .ref a0), (1, .int (zI o1)), (2, .ref a1), (3, .int (zI o2))]) hx hb dX10_copy_1 hl (by decide) rfl (fun ls hl => ?_)
  have L3 : ∀ (n9 : Nat) (i : Int), (52 - i).toNat < n9 → (0 ≤ i ∧ i ≤ 52) → ∀ (H : Heap) (locs : List Loc) (ls : Array Slot), va_P G.1 vwCl [(a0, .inl (G.2.1.1, n, .inl (aI f))), (a1, .inl (G.2.1.1, n2, .inl (aI (cpi f g o1 o2 i))))] H → va_D A [(a0, .inl (G.2.1.1, n, .inl (aI f))), (a1, .inl (G.2.1.1, n2, .inl (aI (cpi f g o1 o2 i))))] → va_S A s.heap H locs → lv_has ls 5 [(0, .ref a0), (1, .int (zI o1)), (2, .ref a1), (3, .int (zI o2)), (4, .int (zI i))] → W p l e (rmL 1 0 0) s m args below meth c H locs 0 0 Q0 (F0 m 3 ls []) := by
    intro n9
    induction n9 with
    | zero => intro i hmu; omega
    | succ n9 ih3 =>
      intro i hmu3 hzi H locs ls hP hD hS hl
      refine lv_iload hx hb dX10_copy_3 (lv_at hl 4 rfl) ?_
      refine z_bipush hF dX10_copy_5 (by decide) ?_
      refine z_icmp_ge (tgt := 28) hF dX10_copy_7 (by decide) (by omega) (by decide) (fun c_1 => ?_) (fun c_1 => ?_)
      · have hc_7 := c_1
        have hP : va_P G.1 vwCl [(a0, .inl (G.2.1.1, n, .inl (aI f))), (a1, .inl (G.2.1.1, n2, .inl (aI (wb g o2 (bk f o1)))))] H := by rw [show ((wb g o2 (bk f o1)) : Int → Int) = (cpi f g o1 o2 i) from (by rw [show i = 52 by omega]; exact cpi_e.symm)]; exact hP
        have hD : va_D A [(a0, .inl (G.2.1.1, n, .inl (aI f))), (a1, .inl (G.2.1.1, n2, .inl (aI (wb g o2 (bk f o1)))))] := by rw [show ((wb g o2 (bk f o1)) : Int → Int) = (cpi f g o1 o2 i) from (by rw [show i = 52 by omega]; exact cpi_e.symm)]; exact hD
        rw [hQ]
        exact z_vret hF hr hlocks () (trivial) hP hK hD hS dX10_copy_28
      · have hc_7 := c_1
        refine lv_aload_n hx hb dX10_copy_10 rfl (lv_at hl 2 rfl) ?_
        refine lv_iload_n hx hb dX10_copy_11 rfl (lv_at hl 3 rfl) ?_
        refine lv_iload hx hb dX10_copy_12 (lv_at hl 4 rfl) ?_
        refine z_iadd hF dX10_copy_14 ?_
        refine lv_aload_n hx hb dX10_copy_15 rfl (lv_at hl 0 rfl) ?_
        refine lv_iload_n hx hb dX10_copy_16 rfl (lv_at hl 1 rfl) ?_
        refine lv_iload hx hb dX10_copy_17 (lv_at hl 4 rfl) ?_
        refine z_iadd hF dX10_copy_19 ?_
        refine z_iald hF hK hP 0 rfl (by omega) hble_n dX10_copy_20 ?_
        refine z_iast hF hK hP hD hS 1 rfl (by omega) hble_n2 dX10_copy_21 (fun H locs hP hD hS => ?_)
        have hP : va_P G.1 vwCl [(a0, .inl (G.2.1.1, n, .inl (aI f))), (a1, .inl (G.2.1.1, n2, .inl (aI (up (cpi f g o1 o2 i) (o2 + i) (f (o1 + i))))))] H := hP
        have hD : va_D A [(a0, .inl (G.2.1.1, n, .inl (aI f))), (a1, .inl (G.2.1.1, n2, .inl (aI (up (cpi f g o1 o2 i) (o2 + i) (f (o1 + i))))))] := hD
        rw [show up (cpi f g o1 o2 i) (o2 + i) (f (o1 + i)) = cpi f g o1 o2 (i + 1) from (cpi_s hzi.1)] at hP hD
        refine z_iinc (lv' := [(4, .int (zI (i + 1))), (0, .ref a0), (1, .int (zI o1)), (2, .ref a1), (3, .int (zI o2))]) hF dX10_copy_22 hl (k := 4) rfl (by decide) rfl (fun ls hl => ?_)
        refine z_goto (tgt := 3) hF dX10_copy_25 (by decide) ?_
        exact ih3 (i + 1) (by omega) (by omega) H locs ls hP hD hS (lv_sub hl [1, 2, 3, 4, 0] rfl)
  rw [show aI g = aI (cpi f g o1 o2 0) by rw [cpi_0]] at hP hD
  exact L3 _ 0 (Nat.lt_succ_self _) (by omega) H locs ls hP hD hS (lv_sub hl [1, 2, 3, 4, 0] rfl)
