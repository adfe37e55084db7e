set_option maxHeartbeats 4000000 in
set_option maxRecDepth 100000 in
theorem c_X10_code (l : Launch) (G : wG) (x y : Int)  (hx : 0 ≤ x ∧ x ≤ 6) (hy : 0 ≤ y ∧ y ≤ 6) (z9 : Nat) : Met l yX10_code wsX10_code (rmL 1 0 0) (wPc G [] z9 [.int (zI x), .int (zI y), .int (zI 0)]) (wQi G (fun (r : Int32) (u : Unit) => r = zI (7 * pr7 x y)) (fun (u : Unit) => []) (va_A [] z9)) 0 0 (va_A [] z9) := by
  refine z_ofW (Qc := fun A => wQi G (fun (r : Int32) (u : Unit) => r = zI (7 * pr7 x y)) (fun (u : Unit) => []) A) l G [] [.int (zI x), .int (zI y), .int (zI 0)] (by decide) rfl rfl ?_ z9
  intro p e s m args below meth c A ls H locs hF hr hlocks hinit hP hK hD hA hS hBd hl
  have hF : wFx p m c cX10_code 5 s args wsX10_code RX10 := hF
  have hl : lv_has ls 5 [(0, .int (zI x)), (1, .int (zI y)), (2, .int (zI 0))] := hl
  have hx := hF.1
  have hb := hF.2.1
  obtain ⟨Q0, hQ⟩ : ∃ q, q = (MQ below (wQi G (fun (r : Int32) (u : Unit) => r = zI (7 * pr7 x y)) (fun (u : Unit) => []) A) args s 0 0 A) := ⟨_, rfl⟩
  rw [← hQ]
  refine lv_iload_n hx hb dX10_code_0 rfl (lv_at hl 0 rfl) ?_
  refine lv_iload_n hx hb dX10_code_1 rfl (lv_at hl 1 rfl) ?_
  refine z_icmp_le (tgt := 18) hF dX10_code_2 (by decide) (by omega) (by omega) (fun c_1 => ?_) (fun c_1 => ?_)
  · have hc_2 := c_1
    refine lv_iload_n hx hb dX10_code_18 rfl (lv_at hl 1 rfl) ?_
    refine lv_iload_n hx hb dX10_code_19 rfl (lv_at hl 2 rfl) ?_
    refine z_icmp_le (tgt := 27) hF dX10_code_20 (by decide) (by omega) (by decide) (fun c_2 => ?_) (fun c_2 => ?_)
    · have hc_20 := c_2
      refine lv_iload_n hx hb dX10_code_27 rfl (lv_at hl 2 rfl) ?_
      refine lv_istore_n (lv' := [(3, .int (zI 0)), (0, .int (zI x)), (1, .int (zI y)), (2, .int (zI 0))]) hx hb dX10_code_28 rfl hl (by decide) rfl (fun ls hl => ?_)
      refine lv_iload_n hx hb dX10_code_29 rfl (lv_at hl 1 rfl) ?_
      refine lv_iload_n hx hb dX10_code_30 rfl (lv_at hl 2 rfl) ?_
      refine z_icmp_ge (tgt := 47) hF dX10_code_31 (by decide) (by omega) (by omega) (fun c_3 => ?_) (fun c_3 => ?_)
      · have hc_31 := c_3
        refine lv_iload_n hx hb dX10_code_47 rfl (lv_at hl 2 rfl) ?_
        refine lv_iload_n hx hb dX10_code_48 rfl (lv_at hl 3 rfl) ?_
        refine z_icmp_ge (tgt := 56) hF dX10_code_49 (by decide) (by omega) (by decide) (fun c_4 => ?_) (fun c_4 => ?_)
        · have hc_49 := c_4
          refine lv_iload_n hx hb dX10_code_56 rfl (lv_at hl 3 rfl) ?_
          refine lv_istore (lv' := [(4, .int (zI 0)), (3, .int (zI 0)), (0, .int (zI x)), (1, .int (zI y)), (2, .int (zI 0))]) hx hb dX10_code_57 hl (by decide) rfl (fun ls hl => ?_)
          refine z_bipush hF dX10_code_59 (by decide) ?_
          refine lv_iload_n hx hb dX10_code_61 rfl (lv_at hl 1 rfl) ?_
          refine z_imul hF dX10_code_62 ?_
          refine z_tz (b := 0) rfl ?_
          refine z_bipush hF dX10_code_63 (by decide) ?_
          refine lv_iload_n hx hb dX10_code_65 rfl (lv_at hl 2 rfl) ?_
          refine lv_iload_n hx hb dX10_code_66 rfl (lv_at hl 3 rfl) ?_
          refine z_iadd hF dX10_code_67 ?_
          refine lv_iload_n hx hb dX10_code_68 rfl (lv_at hl 4 rfl) ?_
          refine z_iadd hF dX10_code_69 ?_
          refine lv_iload_n hx hb dX10_code_70 rfl (lv_at hl 1 rfl) ?_
          refine z_isub hF dX10_code_71 ?_
          refine lv_iload hx hb dX10_code_72 (lv_at hl 0 rfl) ?_
          refine z_isub hF dX10_code_74 ?_
          refine z_imul hF dX10_code_75 ?_
          refine z_iadd hF dX10_code_76 ?_
          refine lv_iload hx hb dX10_code_77 (lv_at hl 0 rfl) ?_
          refine z_iadd hF dX10_code_79 ?_
          rw [hQ]
          exact z_iret hF hr hlocks () (zI_congr (by unfold pr7 zmax zmin; (split <;> first | omega | (split <;> omega)))) hP hK hD hS dX10_code_80
        · have hc_49 := c_4
          refine lv_iload_n hx hb dX10_code_52 rfl (lv_at hl 2 rfl) ?_
          refine z_goto (tgt := 57) hF dX10_code_53 (by decide) ?_
          refine lv_istore (lv' := [(4, .int (zI y)), (3, .int (zI 0)), (0, .int (zI x)), (1, .int (zI y)), (2, .int (zI 0))]) hx hb dX10_code_57 hl (by decide) rfl (fun ls hl => ?_)
          refine z_bipush hF dX10_code_59 (by decide) ?_
          refine lv_iload_n hx hb dX10_code_61 rfl (lv_at hl 1 rfl) ?_
          refine z_imul hF dX10_code_62 ?_
          refine z_tz (b := 0) rfl ?_
          refine z_bipush hF dX10_code_63 (by decide) ?_
          refine lv_iload_n hx hb dX10_code_65 rfl (lv_at hl 2 rfl) ?_
          refine lv_iload_n hx hb dX10_code_66 rfl (lv_at hl 3 rfl) ?_
          refine z_iadd hF dX10_code_67 ?_
          refine lv_iload_n hx hb dX10_code_68 rfl (lv_at hl 4 rfl) ?_
          refine z_iadd hF dX10_code_69 ?_
          refine lv_iload_n hx hb dX10_code_70 rfl (lv_at hl 1 rfl) ?_
          refine z_isub hF dX10_code_71 ?_
          refine lv_iload hx hb dX10_code_72 (lv_at hl 0 rfl) ?_
          refine z_isub hF dX10_code_74 ?_
          refine z_imul hF dX10_code_75 ?_
          refine z_iadd hF dX10_code_76 ?_
          refine lv_iload hx hb dX10_code_77 (lv_at hl 0 rfl) ?_
          refine z_iadd hF dX10_code_79 ?_
          rw [hQ]
          exact z_iret hF hr hlocks () (zI_congr (by unfold pr7 zmax zmin; (split <;> first | omega | (split <;> omega)))) hP hK hD hS dX10_code_80
      · have hc_31 := c_3
        refine lv_iload_n hx hb dX10_code_34 rfl (lv_at hl 1 rfl) ?_
        refine lv_iload_n hx hb dX10_code_35 rfl (lv_at hl 3 rfl) ?_
        refine z_icmp_ge (tgt := 43) hF dX10_code_36 (by decide) (by omega) (by decide) (fun c_5 => ?_) (fun c_5 => ?_)
        · have hc_36 := c_5
          refine lv_iload_n hx hb dX10_code_43 rfl (lv_at hl 3 rfl) ?_
          refine z_goto (tgt := 57) hF dX10_code_44 (by decide) ?_
          refine lv_istore (lv' := [(4, .int (zI 0)), (3, .int (zI 0)), (0, .int (zI x)), (1, .int (zI y)), (2, .int (zI 0))]) hx hb dX10_code_57 hl (by decide) rfl (fun ls hl => ?_)
          refine z_bipush hF dX10_code_59 (by decide) ?_
          refine lv_iload_n hx hb dX10_code_61 rfl (lv_at hl 1 rfl) ?_
          refine z_imul hF dX10_code_62 ?_
          refine z_tz (b := 0) rfl ?_
          refine z_bipush hF dX10_code_63 (by decide) ?_
          refine lv_iload_n hx hb dX10_code_65 rfl (lv_at hl 2 rfl) ?_
          refine lv_iload_n hx hb dX10_code_66 rfl (lv_at hl 3 rfl) ?_
          refine z_iadd hF dX10_code_67 ?_
          refine lv_iload_n hx hb dX10_code_68 rfl (lv_at hl 4 rfl) ?_
          refine z_iadd hF dX10_code_69 ?_
          refine lv_iload_n hx hb dX10_code_70 rfl (lv_at hl 1 rfl) ?_
          refine z_isub hF dX10_code_71 ?_
          refine lv_iload hx hb dX10_code_72 (lv_at hl 0 rfl) ?_
          refine z_isub hF dX10_code_74 ?_
          refine z_imul hF dX10_code_75 ?_
          refine z_iadd hF dX10_code_76 ?_
          refine lv_iload hx hb dX10_code_77 (lv_at hl 0 rfl) ?_
          refine z_iadd hF dX10_code_79 ?_
          rw [hQ]
          exact z_iret hF hr hlocks () (zI_congr (by unfold pr7 zmax zmin; (split <;> first | omega | (split <;> omega)))) hP hK hD hS dX10_code_80
        · have hc_36 := c_5
          refine lv_iload_n hx hb dX10_code_39 rfl (lv_at hl 1 rfl) ?_
          refine z_goto (tgt := 57) hF dX10_code_40 (by decide) ?_
          refine lv_istore (lv' := [(4, .int (zI x)), (3, .int (zI 0)), (0, .int (zI x)), (1, .int (zI y)), (2, .int (zI 0))]) hx hb dX10_code_57 hl (by decide) rfl (fun ls hl => ?_)
          refine z_bipush hF dX10_code_59 (by decide) ?_
          refine lv_iload_n hx hb dX10_code_61 rfl (lv_at hl 1 rfl) ?_
          refine z_imul hF dX10_code_62 ?_
          refine z_tz (b := 0) rfl ?_
          refine z_bipush hF dX10_code_63 (by decide) ?_
          refine lv_iload_n hx hb dX10_code_65 rfl (lv_at hl 2 rfl) ?_
          refine lv_iload_n hx hb dX10_code_66 rfl (lv_at hl 3 rfl) ?_
          refine z_iadd hF dX10_code_67 ?_
          refine lv_iload_n hx hb dX10_code_68 rfl (lv_at hl 4 rfl) ?_
          refine z_iadd hF dX10_code_69 ?_
          refine lv_iload_n hx hb dX10_code_70 rfl (lv_at hl 1 rfl) ?_
          refine z_isub hF dX10_code_71 ?_
          refine lv_iload hx hb dX10_code_72 (lv_at hl 0 rfl) ?_
          refine z_isub hF dX10_code_74 ?_
          refine z_imul hF dX10_code_75 ?_
          refine z_iadd hF dX10_code_76 ?_
          refine lv_iload hx hb dX10_code_77 (lv_at hl 0 rfl) ?_
          refine z_iadd hF dX10_code_79 ?_
          rw [hQ]
          exact z_iret hF hr hlocks () (zI_congr (by unfold pr7 zmax zmin; (split <;> first | omega | (split <;> omega)))) hP hK hD hS dX10_code_80
    · have hc_20 := c_2
      refine lv_iload_n hx hb dX10_code_23 rfl (lv_at hl 1 rfl) ?_
      refine z_goto (tgt := 28) hF dX10_code_24 (by decide) ?_
      refine lv_istore_n (lv' := [(3, .int (zI y)), (0, .int (zI x)), (1, .int (zI y)), (2, .int (zI 0))]) hx hb dX10_code_28 rfl hl (by decide) rfl (fun ls hl => ?_)
      refine lv_iload_n hx hb dX10_code_29 rfl (lv_at hl 1 rfl) ?_
      refine lv_iload_n hx hb dX10_code_30 rfl (lv_at hl 2 rfl) ?_
      refine z_icmp_ge (tgt := 47) hF dX10_code_31 (by decide) (by omega) (by omega) (fun c_6 => ?_) (fun c_6 => ?_)
      · have hc_31 := c_6
        refine lv_iload_n hx hb dX10_code_47 rfl (lv_at hl 2 rfl) ?_
        refine lv_iload_n hx hb dX10_code_48 rfl (lv_at hl 3 rfl) ?_
        refine z_icmp_ge (tgt := 56) hF dX10_code_49 (by decide) (by omega) (by decide) (fun c_7 => ?_) (fun c_7 => ?_)
        · have hc_49 := c_7
          refine lv_iload_n hx hb dX10_code_56 rfl (lv_at hl 3 rfl) ?_
          refine lv_istore (lv' := [(4, .int (zI 0)), (3, .int (zI y)), (0, .int (zI x)), (1, .int (zI y)), (2, .int (zI 0))]) hx hb dX10_code_57 hl (by decide) rfl (fun ls hl => ?_)
          refine z_bipush hF dX10_code_59 (by decide) ?_
          refine lv_iload_n hx hb dX10_code_61 rfl (lv_at hl 1 rfl) ?_
          refine z_imul hF dX10_code_62 ?_
          refine z_bipush hF dX10_code_63 (by decide) ?_
          refine lv_iload_n hx hb dX10_code_65 rfl (lv_at hl 2 rfl) ?_
          refine lv_iload_n hx hb dX10_code_66 rfl (lv_at hl 3 rfl) ?_
          refine z_iadd hF dX10_code_67 ?_
          refine lv_iload_n hx hb dX10_code_68 rfl (lv_at hl 4 rfl) ?_
          refine z_iadd hF dX10_code_69 ?_
          refine lv_iload_n hx hb dX10_code_70 rfl (lv_at hl 1 rfl) ?_
          refine z_isub hF dX10_code_71 ?_
          refine lv_iload hx hb dX10_code_72 (lv_at hl 0 rfl) ?_
          refine z_isub hF dX10_code_74 ?_
          refine z_imul hF dX10_code_75 ?_
          refine z_iadd hF dX10_code_76 ?_
          refine lv_iload hx hb dX10_code_77 (lv_at hl 0 rfl) ?_
          refine z_iadd hF dX10_code_79 ?_
          rw [hQ]
          exact z_iret hF hr hlocks () (zI_congr (by unfold pr7 zmax zmin; (split <;> first | omega | (split <;> omega)))) hP hK hD hS dX10_code_80
        · have hc_49 := c_7
          refine lv_iload_n hx hb dX10_code_52 rfl (lv_at hl 2 rfl) ?_
          refine z_goto (tgt := 57) hF dX10_code_53 (by decide) ?_
          refine lv_istore (lv' := [(4, .int (zI y)), (3, .int (zI y)), (0, .int (zI x)), (1, .int (zI y)), (2, .int (zI 0))]) hx hb dX10_code_57 hl (by decide) rfl (fun ls hl => ?_)
          refine z_bipush hF dX10_code_59 (by decide) ?_
          refine lv_iload_n hx hb dX10_code_61 rfl (lv_at hl 1 rfl) ?_
          refine z_imul hF dX10_code_62 ?_
          refine z_bipush hF dX10_code_63 (by decide) ?_
          refine lv_iload_n hx hb dX10_code_65 rfl (lv_at hl 2 rfl) ?_
          refine lv_iload_n hx hb dX10_code_66 rfl (lv_at hl 3 rfl) ?_
          refine z_iadd hF dX10_code_67 ?_
          refine lv_iload_n hx hb dX10_code_68 rfl (lv_at hl 4 rfl) ?_
          refine z_iadd hF dX10_code_69 ?_
          refine lv_iload_n hx hb dX10_code_70 rfl (lv_at hl 1 rfl) ?_
          refine z_isub hF dX10_code_71 ?_
          refine lv_iload hx hb dX10_code_72 (lv_at hl 0 rfl) ?_
          refine z_isub hF dX10_code_74 ?_
          refine z_imul hF dX10_code_75 ?_
          refine z_iadd hF dX10_code_76 ?_
          refine lv_iload hx hb dX10_code_77 (lv_at hl 0 rfl) ?_
          refine z_iadd hF dX10_code_79 ?_
          rw [hQ]
          exact z_iret hF hr hlocks () (zI_congr (by unfold pr7 zmax zmin; (split <;> first | omega | (split <;> omega)))) hP hK hD hS dX10_code_80
      · have hc_31 := c_6
        refine lv_iload_n hx hb dX10_code_34 rfl (lv_at hl 1 rfl) ?_
        refine lv_iload_n hx hb dX10_code_35 rfl (lv_at hl 3 rfl) ?_
        refine z_icmp_ge (tgt := 43) hF dX10_code_36 (by decide) (by omega) (by decide) (fun c_8 => ?_) (fun c_8 => ?_)
        · have hc_36 := c_8
          refine lv_iload_n hx hb dX10_code_43 rfl (lv_at hl 3 rfl) ?_
          refine z_goto (tgt := 57) hF dX10_code_44 (by decide) ?_
          refine lv_istore (lv' := [(4, .int (zI 0)), (3, .int (zI y)), (0, .int (zI x)), (1, .int (zI y)), (2, .int (zI 0))]) hx hb dX10_code_57 hl (by decide) rfl (fun ls hl => ?_)
          refine z_bipush hF dX10_code_59 (by decide) ?_
          refine lv_iload_n hx hb dX10_code_61 rfl (lv_at hl 1 rfl) ?_
          refine z_imul hF dX10_code_62 ?_
          refine z_bipush hF dX10_code_63 (by decide) ?_
          refine lv_iload_n hx hb dX10_code_65 rfl (lv_at hl 2 rfl) ?_
          refine lv_iload_n hx hb dX10_code_66 rfl (lv_at hl 3 rfl) ?_
          refine z_iadd hF dX10_code_67 ?_
          refine lv_iload_n hx hb dX10_code_68 rfl (lv_at hl 4 rfl) ?_
          refine z_iadd hF dX10_code_69 ?_
          refine lv_iload_n hx hb dX10_code_70 rfl (lv_at hl 1 rfl) ?_
          refine z_isub hF dX10_code_71 ?_
          refine lv_iload hx hb dX10_code_72 (lv_at hl 0 rfl) ?_
          refine z_isub hF dX10_code_74 ?_
          refine z_imul hF dX10_code_75 ?_
          refine z_iadd hF dX10_code_76 ?_
          refine lv_iload hx hb dX10_code_77 (lv_at hl 0 rfl) ?_
          refine z_iadd hF dX10_code_79 ?_
          rw [hQ]
          exact z_iret hF hr hlocks () (zI_congr (by unfold pr7 zmax zmin; (split <;> first | omega | (split <;> omega)))) hP hK hD hS dX10_code_80
        · have hc_36 := c_8
          refine lv_iload_n hx hb dX10_code_39 rfl (lv_at hl 1 rfl) ?_
          refine z_goto (tgt := 57) hF dX10_code_40 (by decide) ?_
          refine lv_istore (lv' := [(4, .int (zI x)), (3, .int (zI y)), (0, .int (zI x)), (1, .int (zI y)), (2, .int (zI 0))]) hx hb dX10_code_57 hl (by decide) rfl (fun ls hl => ?_)
          refine z_bipush hF dX10_code_59 (by decide) ?_
          refine lv_iload_n hx hb dX10_code_61 rfl (lv_at hl 1 rfl) ?_
          refine z_imul hF dX10_code_62 ?_
          refine z_bipush hF dX10_code_63 (by decide) ?_
          refine lv_iload_n hx hb dX10_code_65 rfl (lv_at hl 2 rfl) ?_
          refine lv_iload_n hx hb dX10_code_66 rfl (lv_at hl 3 rfl) ?_
          refine z_iadd hF dX10_code_67 ?_
          refine lv_iload_n hx hb dX10_code_68 rfl (lv_at hl 4 rfl) ?_
          refine z_iadd hF dX10_code_69 ?_
          refine lv_iload_n hx hb dX10_code_70 rfl (lv_at hl 1 rfl) ?_
          refine z_isub hF dX10_code_71 ?_
          refine lv_iload hx hb dX10_code_72 (lv_at hl 0 rfl) ?_
          refine z_isub hF dX10_code_74 ?_
          refine z_imul hF dX10_code_75 ?_
          refine z_iadd hF dX10_code_76 ?_
          refine lv_iload hx hb dX10_code_77 (lv_at hl 0 rfl) ?_
          refine z_iadd hF dX10_code_79 ?_
          rw [hQ]
          exact z_iret hF hr hlocks () (zI_congr (by unfold pr7 zmax zmin; (split <;> first | omega | (split <;> omega)))) hP hK hD hS dX10_code_80
  · have hc_2 := c_1
    refine lv_iload_n hx hb dX10_code_5 rfl (lv_at hl 0 rfl) ?_
    refine lv_iload_n hx hb dX10_code_6 rfl (lv_at hl 2 rfl) ?_
    refine z_icmp_le (tgt := 14) hF dX10_code_7 (by decide) (by omega) (by decide) (fun c_9 => ?_) (fun c_9 => ?_)
    · have hc_7 := c_9
      refine lv_iload_n hx hb dX10_code_14 rfl (lv_at hl 2 rfl) ?_
      refine z_goto (tgt := 28) hF dX10_code_15 (by decide) ?_
      refine lv_istore_n (lv' := [(3, .int (zI 0)), (0, .int (zI x)), (1, .int (zI y)), (2, .int (zI 0))]) hx hb dX10_code_28 rfl hl (by decide) rfl (fun ls hl => ?_)
      refine lv_iload_n hx hb dX10_code_29 rfl (lv_at hl 1 rfl) ?_
      refine lv_iload_n hx hb dX10_code_30 rfl (lv_at hl 2 rfl) ?_
      refine z_icmp_ge (tgt := 47) hF dX10_code_31 (by decide) (by omega) (by omega) (fun c_10 => ?_) (fun c_10 => ?_)
      · have hc_31 := c_10
        refine lv_iload_n hx hb dX10_code_47 rfl (lv_at hl 2 rfl) ?_
        refine lv_iload_n hx hb dX10_code_48 rfl (lv_at hl 3 rfl) ?_
        refine z_icmp_ge (tgt := 56) hF dX10_code_49 (by decide) (by omega) (by decide) (fun c_11 => ?_) (fun c_11 => ?_)
        · have hc_49 := c_11
          refine lv_iload_n hx hb dX10_code_56 rfl (lv_at hl 3 rfl) ?_
          refine lv_istore (lv' := [(4, .int (zI 0)), (3, .int (zI 0)), (0, .int (zI x)), (1, .int (zI y)), (2, .int (zI 0))]) hx hb dX10_code_57 hl (by decide) rfl (fun ls hl => ?_)
          refine z_bipush hF dX10_code_59 (by decide) ?_
          refine lv_iload_n hx hb dX10_code_61 rfl (lv_at hl 1 rfl) ?_
          refine z_imul hF dX10_code_62 ?_
          refine z_tz (b := 0) rfl ?_
          refine z_bipush hF dX10_code_63 (by decide) ?_
          refine lv_iload_n hx hb dX10_code_65 rfl (lv_at hl 2 rfl) ?_
          refine lv_iload_n hx hb dX10_code_66 rfl (lv_at hl 3 rfl) ?_
          refine z_iadd hF dX10_code_67 ?_
          refine lv_iload_n hx hb dX10_code_68 rfl (lv_at hl 4 rfl) ?_
          refine z_iadd hF dX10_code_69 ?_
          refine lv_iload_n hx hb dX10_code_70 rfl (lv_at hl 1 rfl) ?_
          refine z_isub hF dX10_code_71 ?_
          refine lv_iload hx hb dX10_code_72 (lv_at hl 0 rfl) ?_
          refine z_isub hF dX10_code_74 ?_
          refine z_imul hF dX10_code_75 ?_
          refine z_iadd hF dX10_code_76 ?_
          refine lv_iload hx hb dX10_code_77 (lv_at hl 0 rfl) ?_
          refine z_iadd hF dX10_code_79 ?_
          rw [hQ]
          exact z_iret hF hr hlocks () (zI_congr (by unfold pr7 zmax zmin; (split <;> first | omega | (split <;> omega)))) hP hK hD hS dX10_code_80
        · have hc_49 := c_11
          refine lv_iload_n hx hb dX10_code_52 rfl (lv_at hl 2 rfl) ?_
          refine z_goto (tgt := 57) hF dX10_code_53 (by decide) ?_
          refine lv_istore (lv' := [(4, .int (zI y)), (3, .int (zI 0)), (0, .int (zI x)), (1, .int (zI y)), (2, .int (zI 0))]) hx hb dX10_code_57 hl (by decide) rfl (fun ls hl => ?_)
          refine z_bipush hF dX10_code_59 (by decide) ?_
          refine lv_iload_n hx hb dX10_code_61 rfl (lv_at hl 1 rfl) ?_
          refine z_imul hF dX10_code_62 ?_
          refine z_tz (b := 0) rfl ?_
          refine z_bipush hF dX10_code_63 (by decide) ?_
          refine lv_iload_n hx hb dX10_code_65 rfl (lv_at hl 2 rfl) ?_
          refine lv_iload_n hx hb dX10_code_66 rfl (lv_at hl 3 rfl) ?_
          refine z_iadd hF dX10_code_67 ?_
          refine lv_iload_n hx hb dX10_code_68 rfl (lv_at hl 4 rfl) ?_
          refine z_iadd hF dX10_code_69 ?_
          refine lv_iload_n hx hb dX10_code_70 rfl (lv_at hl 1 rfl) ?_
          refine z_isub hF dX10_code_71 ?_
          refine lv_iload hx hb dX10_code_72 (lv_at hl 0 rfl) ?_
          refine z_isub hF dX10_code_74 ?_
          refine z_imul hF dX10_code_75 ?_
          refine z_iadd hF dX10_code_76 ?_
          refine lv_iload hx hb dX10_code_77 (lv_at hl 0 rfl) ?_
          refine z_iadd hF dX10_code_79 ?_
          rw [hQ]
          exact z_iret hF hr hlocks () (zI_congr (by unfold pr7 zmax zmin; (split <;> first | omega | (split <;> omega)))) hP hK hD hS dX10_code_80
      · have hc_31 := c_10
        refine lv_iload_n hx hb dX10_code_34 rfl (lv_at hl 1 rfl) ?_
        refine lv_iload_n hx hb dX10_code_35 rfl (lv_at hl 3 rfl) ?_
        refine z_icmp_ge (tgt := 43) hF dX10_code_36 (by decide) (by omega) (by decide) (fun c_12 => ?_) (fun c_12 => ?_)
        · have hc_36 := c_12
          refine lv_iload_n hx hb dX10_code_43 rfl (lv_at hl 3 rfl) ?_
          refine z_goto (tgt := 57) hF dX10_code_44 (by decide) ?_
          refine lv_istore (lv' := [(4, .int (zI 0)), (3, .int (zI 0)), (0, .int (zI x)), (1, .int (zI y)), (2, .int (zI 0))]) hx hb dX10_code_57 hl (by decide) rfl (fun ls hl => ?_)
          refine z_bipush hF dX10_code_59 (by decide) ?_
          refine lv_iload_n hx hb dX10_code_61 rfl (lv_at hl 1 rfl) ?_
          refine z_imul hF dX10_code_62 ?_
          refine z_tz (b := 0) rfl ?_
          refine z_bipush hF dX10_code_63 (by decide) ?_
          refine lv_iload_n hx hb dX10_code_65 rfl (lv_at hl 2 rfl) ?_
          refine lv_iload_n hx hb dX10_code_66 rfl (lv_at hl 3 rfl) ?_
          refine z_iadd hF dX10_code_67 ?_
          refine lv_iload_n hx hb dX10_code_68 rfl (lv_at hl 4 rfl) ?_
          refine z_iadd hF dX10_code_69 ?_
          refine lv_iload_n hx hb dX10_code_70 rfl (lv_at hl 1 rfl) ?_
          refine z_isub hF dX10_code_71 ?_
          refine lv_iload hx hb dX10_code_72 (lv_at hl 0 rfl) ?_
          refine z_isub hF dX10_code_74 ?_
          refine z_imul hF dX10_code_75 ?_
          refine z_iadd hF dX10_code_76 ?_
          refine lv_iload hx hb dX10_code_77 (lv_at hl 0 rfl) ?_
          refine z_iadd hF dX10_code_79 ?_
          rw [hQ]
          exact z_iret hF hr hlocks () (zI_congr (by unfold pr7 zmax zmin; (split <;> first | omega | (split <;> omega)))) hP hK hD hS dX10_code_80
        · have hc_36 := c_12
          refine lv_iload_n hx hb dX10_code_39 rfl (lv_at hl 1 rfl) ?_
          refine z_goto (tgt := 57) hF dX10_code_40 (by decide) ?_
          refine lv_istore (lv' := [(4, .int (zI x)), (3, .int (zI 0)), (0, .int (zI x)), (1, .int (zI y)), (2, .int (zI 0))]) hx hb dX10_code_57 hl (by decide) rfl (fun ls hl => ?_)
          refine z_bipush hF dX10_code_59 (by decide) ?_
          refine lv_iload_n hx hb dX10_code_61 rfl (lv_at hl 1 rfl) ?_
          refine z_imul hF dX10_code_62 ?_
          refine z_tz (b := 0) rfl ?_
          refine z_bipush hF dX10_code_63 (by decide) ?_
          refine lv_iload_n hx hb dX10_code_65 rfl (lv_at hl 2 rfl) ?_
          refine lv_iload_n hx hb dX10_code_66 rfl (lv_at hl 3 rfl) ?_
          refine z_iadd hF dX10_code_67 ?_
          refine lv_iload_n hx hb dX10_code_68 rfl (lv_at hl 4 rfl) ?_
          refine z_iadd hF dX10_code_69 ?_
          refine lv_iload_n hx hb dX10_code_70 rfl (lv_at hl 1 rfl) ?_
          refine z_isub hF dX10_code_71 ?_
          refine lv_iload hx hb dX10_code_72 (lv_at hl 0 rfl) ?_
          refine z_isub hF dX10_code_74 ?_
          refine z_imul hF dX10_code_75 ?_
          refine z_iadd hF dX10_code_76 ?_
          refine lv_iload hx hb dX10_code_77 (lv_at hl 0 rfl) ?_
          refine z_iadd hF dX10_code_79 ?_
          rw [hQ]
          exact z_iret hF hr hlocks () (zI_congr (by unfold pr7 zmax zmin; (split <;> first | omega | (split <;> omega)))) hP hK hD hS dX10_code_80
    · have hc_7 := c_9
      refine lv_iload_n hx hb dX10_code_10 rfl (lv_at hl 0 rfl) ?_
      refine z_goto (tgt := 28) hF dX10_code_11 (by decide) ?_
      refine lv_istore_n (lv' := [(3, .int (zI x)), (0, .int (zI x)), (1, .int (zI y)), (2, .int (zI 0))]) hx hb dX10_code_28 rfl hl (by decide) rfl (fun ls hl => ?_)
      refine lv_iload_n hx hb dX10_code_29 rfl (lv_at hl 1 rfl) ?_
      refine lv_iload_n hx hb dX10_code_30 rfl (lv_at hl 2 rfl) ?_
      refine z_icmp_ge (tgt := 47) hF dX10_code_31 (by decide) (by omega) (by omega) (fun c_13 => ?_) (fun c_13 => ?_)
      · have hc_31 := c_13
        refine lv_iload_n hx hb dX10_code_47 rfl (lv_at hl 2 rfl) ?_
        refine lv_iload_n hx hb dX10_code_48 rfl (lv_at hl 3 rfl) ?_
        refine z_icmp_ge (tgt := 56) hF dX10_code_49 (by decide) (by omega) (by decide) (fun c_14 => ?_) (fun c_14 => ?_)
        · have hc_49 := c_14
          refine lv_iload_n hx hb dX10_code_56 rfl (lv_at hl 3 rfl) ?_
          refine lv_istore (lv' := [(4, .int (zI 0)), (3, .int (zI x)), (0, .int (zI x)), (1, .int (zI y)), (2, .int (zI 0))]) hx hb dX10_code_57 hl (by decide) rfl (fun ls hl => ?_)
          refine z_bipush hF dX10_code_59 (by decide) ?_
          refine lv_iload_n hx hb dX10_code_61 rfl (lv_at hl 1 rfl) ?_
          refine z_imul hF dX10_code_62 ?_
          refine z_bipush hF dX10_code_63 (by decide) ?_
          refine lv_iload_n hx hb dX10_code_65 rfl (lv_at hl 2 rfl) ?_
          refine lv_iload_n hx hb dX10_code_66 rfl (lv_at hl 3 rfl) ?_
          refine z_iadd hF dX10_code_67 ?_
          refine lv_iload_n hx hb dX10_code_68 rfl (lv_at hl 4 rfl) ?_
          refine z_iadd hF dX10_code_69 ?_
          refine lv_iload_n hx hb dX10_code_70 rfl (lv_at hl 1 rfl) ?_
          refine z_isub hF dX10_code_71 ?_
          refine lv_iload hx hb dX10_code_72 (lv_at hl 0 rfl) ?_
          refine z_isub hF dX10_code_74 ?_
          refine z_imul hF dX10_code_75 ?_
          refine z_iadd hF dX10_code_76 ?_
          refine lv_iload hx hb dX10_code_77 (lv_at hl 0 rfl) ?_
          refine z_iadd hF dX10_code_79 ?_
          rw [hQ]
          exact z_iret hF hr hlocks () (zI_congr (by unfold pr7 zmax zmin; (split <;> first | omega | (split <;> omega)))) hP hK hD hS dX10_code_80
        · have hc_49 := c_14
          refine lv_iload_n hx hb dX10_code_52 rfl (lv_at hl 2 rfl) ?_
          refine z_goto (tgt := 57) hF dX10_code_53 (by decide) ?_
          refine lv_istore (lv' := [(4, .int (zI y)), (3, .int (zI x)), (0, .int (zI x)), (1, .int (zI y)), (2, .int (zI 0))]) hx hb dX10_code_57 hl (by decide) rfl (fun ls hl => ?_)
          refine z_bipush hF dX10_code_59 (by decide) ?_
          refine lv_iload_n hx hb dX10_code_61 rfl (lv_at hl 1 rfl) ?_
          refine z_imul hF dX10_code_62 ?_
          refine z_bipush hF dX10_code_63 (by decide) ?_
          refine lv_iload_n hx hb dX10_code_65 rfl (lv_at hl 2 rfl) ?_
          refine lv_iload_n hx hb dX10_code_66 rfl (lv_at hl 3 rfl) ?_
          refine z_iadd hF dX10_code_67 ?_
          refine lv_iload_n hx hb dX10_code_68 rfl (lv_at hl 4 rfl) ?_
          refine z_iadd hF dX10_code_69 ?_
          refine lv_iload_n hx hb dX10_code_70 rfl (lv_at hl 1 rfl) ?_
          refine z_isub hF dX10_code_71 ?_
          refine lv_iload hx hb dX10_code_72 (lv_at hl 0 rfl) ?_
          refine z_isub hF dX10_code_74 ?_
          refine z_imul hF dX10_code_75 ?_
          refine z_iadd hF dX10_code_76 ?_
          refine lv_iload hx hb dX10_code_77 (lv_at hl 0 rfl) ?_
          refine z_iadd hF dX10_code_79 ?_
          rw [hQ]
          exact z_iret hF hr hlocks () (zI_congr (by unfold pr7 zmax zmin; (split <;> first | omega | (split <;> omega)))) hP hK hD hS dX10_code_80
      · have hc_31 := c_13
        refine lv_iload_n hx hb dX10_code_34 rfl (lv_at hl 1 rfl) ?_
        refine lv_iload_n hx hb dX10_code_35 rfl (lv_at hl 3 rfl) ?_
        refine z_icmp_ge (tgt := 43) hF dX10_code_36 (by decide) (by omega) (by decide) (fun c_15 => ?_) (fun c_15 => ?_)
        · have hc_36 := c_15
          refine lv_iload_n hx hb dX10_code_43 rfl (lv_at hl 3 rfl) ?_
          refine z_goto (tgt := 57) hF dX10_code_44 (by decide) ?_
          refine lv_istore (lv' := [(4, .int (zI 0)), (3, .int (zI x)), (0, .int (zI x)), (1, .int (zI y)), (2, .int (zI 0))]) hx hb dX10_code_57 hl (by decide) rfl (fun ls hl => ?_)
          refine z_bipush hF dX10_code_59 (by decide) ?_
          refine lv_iload_n hx hb dX10_code_61 rfl (lv_at hl 1 rfl) ?_
          refine z_imul hF dX10_code_62 ?_
          refine z_bipush hF dX10_code_63 (by decide) ?_
          refine lv_iload_n hx hb dX10_code_65 rfl (lv_at hl 2 rfl) ?_
          refine lv_iload_n hx hb dX10_code_66 rfl (lv_at hl 3 rfl) ?_
          refine z_iadd hF dX10_code_67 ?_
          refine lv_iload_n hx hb dX10_code_68 rfl (lv_at hl 4 rfl) ?_
          refine z_iadd hF dX10_code_69 ?_
          refine lv_iload_n hx hb dX10_code_70 rfl (lv_at hl 1 rfl) ?_
          refine z_isub hF dX10_code_71 ?_
          refine lv_iload hx hb dX10_code_72 (lv_at hl 0 rfl) ?_
          refine z_isub hF dX10_code_74 ?_
          refine z_imul hF dX10_code_75 ?_
          refine z_iadd hF dX10_code_76 ?_
          refine lv_iload hx hb dX10_code_77 (lv_at hl 0 rfl) ?_
          refine z_iadd hF dX10_code_79 ?_
          rw [hQ]
          exact z_iret hF hr hlocks () (zI_congr (by unfold pr7 zmax zmin; (split <;> first | omega | (split <;> omega)))) hP hK hD hS dX10_code_80
        · have hc_36 := c_15
          refine lv_iload_n hx hb dX10_code_39 rfl (lv_at hl 1 rfl) ?_
          refine z_goto (tgt := 57) hF dX10_code_40 (by decide) ?_
          refine lv_istore (lv' := [(4, .int (zI x)), (3, .int (zI x)), (0, .int (zI x)), (1, .int (zI y)), (2, .int (zI 0))]) hx hb dX10_code_57 hl (by decide) rfl (fun ls hl => ?_)
          refine z_bipush hF dX10_code_59 (by decide) ?_
          refine lv_iload_n hx hb dX10_code_61 rfl (lv_at hl 1 rfl) ?_
          refine z_imul hF dX10_code_62 ?_
          refine z_bipush hF dX10_code_63 (by decide) ?_
          refine lv_iload_n hx hb dX10_code_65 rfl (lv_at hl 2 rfl) ?_
          refine lv_iload_n hx hb dX10_code_66 rfl (lv_at hl 3 rfl) ?_
          refine z_iadd hF dX10_code_67 ?_
          refine lv_iload_n hx hb dX10_code_68 rfl (lv_at hl 4 rfl) ?_
          refine z_iadd hF dX10_code_69 ?_
          refine lv_iload_n hx hb dX10_code_70 rfl (lv_at hl 1 rfl) ?_
          refine z_isub hF dX10_code_71 ?_
          refine lv_iload hx hb dX10_code_72 (lv_at hl 0 rfl) ?_
          refine z_isub hF dX10_code_74 ?_
          refine z_imul hF dX10_code_75 ?_
          refine z_iadd hF dX10_code_76 ?_
          refine lv_iload hx hb dX10_code_77 (lv_at hl 0 rfl) ?_
          refine z_iadd hF dX10_code_79 ?_
          rw [hQ]
          exact z_iret hF hr hlocks () (zI_congr (by unfold pr7 zmax zmin; (split <;> first | omega | (split <;> omega)))) hP hK hD hS dX10_code_80
set_option maxHeartbeats 4000000 in
set_option maxRecDepth 100000 in
theorem c_X10_behind (l : Launch) (G : wG) (v pl d : Int)  (hv : v7 v) (hpl : 0 ≤ pl ∧ pl ≤ 2) (hd6 : 1 ≤ d ∧ d ≤ 6) (z9 : Nat) : Met l yX10_behind wsX10_behind (rmL 3 0 0) (wPc G [] z9 [.int (zI (7 * v)), .int (zI pl), .int (zI d)]) (wQi G (fun (r : Int32) (u : Unit) => r = zI (bhV v pl d)) (fun (u : Unit) => []) (va_A [] z9)) 0 0 (va_A [] z9) := by
  refine z_ofW (Qc := fun A => wQi G (fun (r : Int32) (u : Unit) => r = zI (bhV v pl d)) (fun (u : Unit) => []) A) l G [] [.int (zI (7 * v)), .int (zI pl), .int (zI d)] (by decide) rfl rfl ?_ z9
  intro p e s m args below meth c A ls H locs hF hr hlocks hinit hP hK hD hA hS hBd hl
  have hF : wFx p m c cX10_behind 8 s args wsX10_behind RX10 := hF
  have hl : lv_has ls 8 [(0, .int (zI (7 * v))), (1, .int (zI pl)), (2, .int (zI d))] := hl
  have hx := hF.1
  have hb := hF.2.1
  obtain ⟨Q0, hQ⟩ : ∃ q, q = (MQ below (wQi G (fun (r : Int32) (u : Unit) => r = zI (bhV v pl d)) (fun (u : Unit) => []) A) args s 0 0 A) := ⟨_, rfl⟩
  rw [← hQ]
  have hr9 := v7_rg hv
  refine lv_iload_n hx hb dX10_behind_0 rfl (lv_at hl 0 rfl) ?_
  refine z_bipush hF dX10_behind_1 (by decide) ?_
  refine z_idiv hF dX10_behind_3 (by omega) (by decide) ?_
  refine z_tz (b := (v / 7)) (by omega) ?_
  refine lv_istore_n (lv' := [(3, .int (zI (v / 7))), (0, .int (zI (7 * v))), (1, .int (zI pl)), (2, .int (zI d))]) hx hb dX10_behind_4 rfl hl (by decide) rfl (fun ls hl => ?_)
  refine lv_iload_n hx hb dX10_behind_5 rfl (lv_at hl 1 rfl) ?_
  refine z_bipush hF dX10_behind_6 (by decide) ?_
  refine z_idiv hF dX10_behind_8 (by omega) (by decide) ?_
  refine z_bipush hF dX10_behind_9 (by decide) ?_
  refine z_irem hF dX10_behind_11 (by omega) (by decide) ?_
  refine z_tz (b := (v % 7)) (by omega) ?_
  refine lv_istore (lv' := [(4, .int (zI (v % 7))), (3, .int (zI (v / 7))), (0, .int (zI (7 * v))), (1, .int (zI pl)), (2, .int (zI d))]) hx hb dX10_behind_12 hl (by decide) rfl (fun ls hl => ?_)
  refine lv_iload_n hx hb dX10_behind_14 rfl (lv_at hl 2 rfl) ?_
  refine z_bipush hF dX10_behind_15 (by decide) ?_
  refine z_irem hF dX10_behind_17 (by omega) (by decide) ?_
  refine z_tz (b := 0) (by omega) ?_
  refine lv_istore (lv' := [(5, .int (zI 0)), (4, .int (zI (v % 7))), (3, .int (zI (v / 7))), (0, .int (zI (7 * v))), (1, .int (zI pl)), (2, .int (zI d))]) hx hb dX10_behind_18 hl (by decide) rfl (fun ls hl => ?_)
  refine lv_iload_n hx hb dX10_behind_20 rfl (lv_at hl 4 rfl) ?_
  refine z_if_ne (tgt := 28) hF dX10_behind_21 (by decide) (by omega) (fun c_1 => ?_) (fun c_1 => ?_)
  · have hc_21 := c_1
    refine lv_iload_n hx hb dX10_behind_28 rfl (lv_at hl 4 rfl) ?_
    refine z_iconst hF dX10_behind_29 ?_
    refine z_icmp_ne (tgt := 38) hF dX10_behind_30 (by decide) (by omega) (by decide) (fun c_2 => ?_) (fun c_2 => ?_)
    · have hc_30 := c_2
      refine lv_iload hx hb dX10_behind_38 (lv_at hl 0 rfl) ?_
      refine lv_istore (lv' := [(6, .int (zI 0)), (5, .int (zI 0)), (4, .int (zI (v % 7))), (3, .int (zI (v / 7))), (0, .int (zI (7 * v))), (1, .int (zI pl)), (2, .int (zI d))]) hx hb dX10_behind_40 hl (by decide) rfl (fun ls hl => ?_)
      refine lv_iload hx hb dX10_behind_42 (lv_at hl 0 rfl) ?_
      refine z_if_eq (tgt := 59) hF dX10_behind_44 (by decide) (by decide) (fun c_3 => ?_) (fun c_3 => ?_)
      · have hc_44 := c_3
        refine z_iconst hF dX10_behind_59 ?_
        rw [hQ]
        exact z_iret hF hr hlocks () (zI_congr (by unfold bhV; first | omega | (rw [if_pos (by omega)]; first | rw [if_pos (by omega)] | (rw [if_neg (by omega)]; congr 2; rw [zmx0]; first | exact (if_pos (by omega)).symm | exact (if_neg (by omega)).symm)) | (rw [if_neg (by omega)]; first | (rw [if_pos (by omega)]; first | rw [if_pos (by omega)] | (rw [if_neg (by omega)]; congr 2; rw [zmx0]; first | exact (if_pos (by omega)).symm | exact (if_neg (by omega)).symm)) | rw [if_neg (by omega)]))) hP hK hD hS dX10_behind_60
      · exact absurd c_3 (by decide)
    · have hc_30 := c_2
      refine lv_iload hx hb dX10_behind_33 (lv_at hl 1 rfl) ?_
      refine z_goto (tgt := 40) hF dX10_behind_35 (by decide) ?_
      refine lv_istore (lv' := [(6, .int (zI (v % 7))), (5, .int (zI 0)), (4, .int (zI (v % 7))), (3, .int (zI (v / 7))), (0, .int (zI (7 * v))), (1, .int (zI pl)), (2, .int (zI d))]) hx hb dX10_behind_40 hl (by decide) rfl (fun ls hl => ?_)
      refine lv_iload hx hb dX10_behind_42 (lv_at hl 0 rfl) ?_
      refine z_if_eq (tgt := 59) hF dX10_behind_44 (by decide) (by omega) (fun c_4 => ?_) (fun c_4 => ?_)
      · have hc_44 := c_4
        refine z_iconst hF dX10_behind_59 ?_
        rw [hQ]
        exact z_iret hF hr hlocks () (zI_congr (by unfold bhV; first | omega | (rw [if_pos (by omega)]; first | rw [if_pos (by omega)] | (rw [if_neg (by omega)]; congr 2; rw [zmx0]; first | exact (if_pos (by omega)).symm | exact (if_neg (by omega)).symm)) | (rw [if_neg (by omega)]; first | (rw [if_pos (by omega)]; first | rw [if_pos (by omega)] | (rw [if_neg (by omega)]; congr 2; rw [zmx0]; first | exact (if_pos (by omega)).symm | exact (if_neg (by omega)).symm)) | rw [if_neg (by omega)]))) hP hK hD hS dX10_behind_60
      · have hc_44 := c_4
        refine lv_iload hx hb dX10_behind_47 (lv_at hl 0 rfl) ?_
        refine lv_iload_n hx hb dX10_behind_49 rfl (lv_at hl 6 rfl) ?_
        refine z_icmp_ge (tgt := 61) hF dX10_behind_50 (by decide) (by omega) (by omega) (fun c_5 => ?_) (fun c_5 => ?_)
        · have hc_50 := c_5
          refine lv_iload hx hb dX10_behind_61 (lv_at hl 0 rfl) ?_
          refine lv_iload_n hx hb dX10_behind_63 rfl (lv_at hl 6 rfl) ?_
          refine z_icmp_le (tgt := 74) hF dX10_behind_64 (by decide) (by omega) (by omega) (fun c_6 => ?_) (fun c_6 => ?_)
          · have hc_64 := c_6
            refine z_iconst hF dX10_behind_74 ?_
            refine lv_istore (lv' := [(7, .int (zI 0)), (6, .int (zI (v % 7))), (5, .int (zI 0)), (4, .int (zI (v % 7))), (3, .int (zI (v / 7))), (0, .int (zI (7 * v))), (1, .int (zI pl)), (2, .int (zI d))]) hx hb dX10_behind_75 hl (by decide) rfl (fun ls hl => ?_)
            refine lv_iload_n hx hb dX10_behind_77 rfl (lv_at hl 6 rfl) ?_
            refine z_if_ne (tgt := 86) hF dX10_behind_78 (by decide) (by omega) (fun c_7 => ?_) (fun c_7 => ?_)
            · have hc_78 := c_7
              refine lv_iload_n hx hb dX10_behind_86 rfl (lv_at hl 4 rfl) ?_
              refine lv_iload_n hx hb dX10_behind_87 rfl (lv_at hl 6 rfl) ?_
              refine z_iconst hF dX10_behind_88 ?_
              refine z_icmp_ne (tgt := 97) hF dX10_behind_89 (by decide) (by omega) (by decide) (fun c_8 => ?_) (fun c_8 => ?_)
              · exfalso; omega
              · have hc_89 := c_8
                refine lv_iload hx hb dX10_behind_92 (lv_at hl 0 rfl) ?_
                refine z_goto (tgt := 99) hF dX10_behind_94 (by decide) ?_
                refine lv_iload_n hx hb dX10_behind_99 rfl (lv_at hl 6 rfl) ?_
                refine z_iconst hF dX10_behind_100 ?_
                refine z_icmp_ne (tgt := 109) hF dX10_behind_101 (by decide) (by omega) (by decide) (fun c_9 => ?_) (fun c_9 => ?_)
                · have hc_101 := c_9
                  refine lv_iload hx hb dX10_behind_109 (lv_at hl 2 rfl) ?_
                  refine cj_i (va_runS (As := [.int (zI (v / 7)), .int (zI 0), .int (zI 0)]) (rest := []) hF (c_X10_code l G (v / 7) 0  (by omega) (by omega) H.size) (va_cwS 3 hF.2.2.2.2 gX10_behind_X10_code rfl rfl rfl (by decide +kernel) ⟨Nat.le_of_ble_eq_true rfl, Nat.le_of_ble_eq_true rfl⟩) (z_preS hK hP hD hS hA hBd [] rfl rfl [.int (zI (v / 7)), .int (zI 0), .int (zI 0)]) rfl rfl hl.1 rfl (lv_room (Nat.le_of_ble_eq_true rfl)) dX10_behind_111 ⟨Nat.le_of_ble_eq_true rfl, Nat.le_of_ble_eq_true rfl⟩) hP hD hS hA [] rfl (fun _ => Nat.le_of_ble_eq_true rfl) (fun r_11 u_10 H locs hw hP hD hS => ?_)
                  have hP : va_P G.1 vwCl [] H := hP
                  have hD : va_D A [] := hD
                  obtain rfl := hw
                  rw [hQ]
                  exact z_iret hF hr hlocks () (zI_congr (by unfold bhV; first | omega | (rw [if_pos (by omega)]; first | rw [if_pos (by omega)] | (rw [if_neg (by omega)]; congr 2; rw [zmx0]; first | exact (if_pos (by omega)).symm | exact (if_neg (by omega)).symm)) | (rw [if_neg (by omega)]; first | (rw [if_pos (by omega)]; first | rw [if_pos (by omega)] | (rw [if_neg (by omega)]; congr 2; rw [zmx0]; first | exact (if_pos (by omega)).symm | exact (if_neg (by omega)).symm)) | rw [if_neg (by omega)]))) hP hK hD hS dX10_behind_114
                · exfalso; omega
            · exfalso; omega
          · have hc_64 := c_6
            refine lv_iload hx hb dX10_behind_67 (lv_at hl 0 rfl) ?_
            refine lv_iload_n hx hb dX10_behind_69 rfl (lv_at hl 6 rfl) ?_
            refine z_isub hF dX10_behind_70 ?_
            refine z_goto (tgt := 75) hF dX10_behind_71 (by decide) ?_
            refine lv_istore (lv' := [(7, .int (zI ((v % 7) - d))), (6, .int (zI (v % 7))), (5, .int (zI 0)), (4, .int (zI (v % 7))), (3, .int (zI (v / 7))), (0, .int (zI (7 * v))), (1, .int (zI pl)), (2, .int (zI d))]) hx hb dX10_behind_75 hl (by decide) rfl (fun ls hl => ?_)
            refine lv_iload_n hx hb dX10_behind_77 rfl (lv_at hl 6 rfl) ?_
            refine z_if_ne (tgt := 86) hF dX10_behind_78 (by decide) (by omega) (fun c_12 => ?_) (fun c_12 => ?_)
            · have hc_78 := c_12
              refine lv_iload_n hx hb dX10_behind_86 rfl (lv_at hl 4 rfl) ?_
              refine lv_iload_n hx hb dX10_behind_87 rfl (lv_at hl 6 rfl) ?_
              refine z_iconst hF dX10_behind_88 ?_
              refine z_icmp_ne (tgt := 97) hF dX10_behind_89 (by decide) (by omega) (by decide) (fun c_13 => ?_) (fun c_13 => ?_)
              · exfalso; omega
              · have hc_89 := c_13
                refine lv_iload hx hb dX10_behind_92 (lv_at hl 0 rfl) ?_
                refine z_goto (tgt := 99) hF dX10_behind_94 (by decide) ?_
                refine lv_iload_n hx hb dX10_behind_99 rfl (lv_at hl 6 rfl) ?_
                refine z_iconst hF dX10_behind_100 ?_
                refine z_icmp_ne (tgt := 109) hF dX10_behind_101 (by decide) (by omega) (by decide) (fun c_14 => ?_) (fun c_14 => ?_)
                · have hc_101 := c_14
                  refine lv_iload hx hb dX10_behind_109 (lv_at hl 2 rfl) ?_
                  refine cj_i (va_runS (As := [.int (zI (v / 7)), .int (zI ((v % 7) - d)), .int (zI 0)]) (rest := []) hF (c_X10_code l G (v / 7) ((v % 7) - d)  (by omega) (by omega) H.size) (va_cwS 3 hF.2.2.2.2 gX10_behind_X10_code rfl rfl rfl (by decide +kernel) ⟨Nat.le_of_ble_eq_true rfl, Nat.le_of_ble_eq_true rfl⟩) (z_preS hK hP hD hS hA hBd [] rfl rfl [.int (zI (v / 7)), .int (zI ((v % 7) - d)), .int (zI 0)]) rfl rfl hl.1 rfl (lv_room (Nat.le_of_ble_eq_true rfl)) dX10_behind_111 ⟨Nat.le_of_ble_eq_true rfl, Nat.le_of_ble_eq_true rfl⟩) hP hD hS hA [] rfl (fun _ => Nat.le_of_ble_eq_true rfl) (fun r_16 u_15 H locs hw hP hD hS => ?_)
                  have hP : va_P G.1 vwCl [] H := hP
                  have hD : va_D A [] := hD
                  obtain rfl := hw
                  rw [hQ]
                  exact z_iret hF hr hlocks () (zI_congr (by unfold bhV; first | omega | (rw [if_pos (by omega)]; first | rw [if_pos (by omega)] | (rw [if_neg (by omega)]; congr 2; rw [zmx0]; first | exact (if_pos (by omega)).symm | exact (if_neg (by omega)).symm)) | (rw [if_neg (by omega)]; first | (rw [if_pos (by omega)]; first | rw [if_pos (by omega)] | (rw [if_neg (by omega)]; congr 2; rw [zmx0]; first | exact (if_pos (by omega)).symm | exact (if_neg (by omega)).symm)) | rw [if_neg (by omega)]))) hP hK hD hS dX10_behind_114
                · exfalso; omega
            · exfalso; omega
        · have hc_50 := c_5
          refine lv_iload hx hb dX10_behind_53 (lv_at hl 0 rfl) ?_
          refine lv_iload_n hx hb dX10_behind_55 rfl (lv_at hl 3 rfl) ?_
          refine z_icmp_eq (tgt := 61) hF dX10_behind_56 (by decide) (by omega) (by omega) (fun c_17 => ?_) (fun c_17 => ?_)
          · have hc_56 := c_17
            refine lv_iload hx hb dX10_behind_61 (lv_at hl 0 rfl) ?_
            refine lv_iload_n hx hb dX10_behind_63 rfl (lv_at hl 6 rfl) ?_
            refine z_icmp_le (tgt := 74) hF dX10_behind_64 (by decide) (by omega) (by omega) (fun c_18 => ?_) (fun c_18 => ?_)
            · have hc_64 := c_18
              refine z_iconst hF dX10_behind_74 ?_
              refine lv_istore (lv' := [(7, .int (zI 0)), (6, .int (zI (v % 7))), (5, .int (zI 0)), (4, .int (zI (v % 7))), (3, .int (zI (v / 7))), (0, .int (zI (7 * v))), (1, .int (zI pl)), (2, .int (zI d))]) hx hb dX10_behind_75 hl (by decide) rfl (fun ls hl => ?_)
              refine lv_iload_n hx hb dX10_behind_77 rfl (lv_at hl 6 rfl) ?_
              refine z_if_ne (tgt := 86) hF dX10_behind_78 (by decide) (by omega) (fun c_19 => ?_) (fun c_19 => ?_)
              · have hc_78 := c_19
                refine lv_iload_n hx hb dX10_behind_86 rfl (lv_at hl 4 rfl) ?_
                refine lv_iload_n hx hb dX10_behind_87 rfl (lv_at hl 6 rfl) ?_
                refine z_iconst hF dX10_behind_88 ?_
                refine z_icmp_ne (tgt := 97) hF dX10_behind_89 (by decide) (by omega) (by decide) (fun c_20 => ?_) (fun c_20 => ?_)
                · exfalso; omega
                · have hc_89 := c_20
                  refine lv_iload hx hb dX10_behind_92 (lv_at hl 0 rfl) ?_
                  refine z_goto (tgt := 99) hF dX10_behind_94 (by decide) ?_
                  refine lv_iload_n hx hb dX10_behind_99 rfl (lv_at hl 6 rfl) ?_
                  refine z_iconst hF dX10_behind_100 ?_
                  refine z_icmp_ne (tgt := 109) hF dX10_behind_101 (by decide) (by omega) (by decide) (fun c_21 => ?_) (fun c_21 => ?_)
                  · have hc_101 := c_21
                    refine lv_iload hx hb dX10_behind_109 (lv_at hl 2 rfl) ?_
                    refine cj_i (va_runS (As := [.int (zI (v / 7)), .int (zI 0), .int (zI 0)]) (rest := []) hF (c_X10_code l G (v / 7) 0  (by omega) (by omega) H.size) (va_cwS 3 hF.2.2.2.2 gX10_behind_X10_code rfl rfl rfl (by decide +kernel) ⟨Nat.le_of_ble_eq_true rfl, Nat.le_of_ble_eq_true rfl⟩) (z_preS hK hP hD hS hA hBd [] rfl rfl [.int (zI (v / 7)), .int (zI 0), .int (zI 0)]) rfl rfl hl.1 rfl (lv_room (Nat.le_of_ble_eq_true rfl)) dX10_behind_111 ⟨Nat.le_of_ble_eq_true rfl, Nat.le_of_ble_eq_true rfl⟩) hP hD hS hA [] rfl (fun _ => Nat.le_of_ble_eq_true rfl) (fun r_23 u_22 H locs hw hP hD hS => ?_)
                    have hP : va_P G.1 vwCl [] H := hP
                    have hD : va_D A [] := hD
                    obtain rfl := hw
                    rw [hQ]
                    exact z_iret hF hr hlocks () (zI_congr (by unfold bhV; first | omega | (rw [if_pos (by omega)]; first | rw [if_pos (by omega)] | (rw [if_neg (by omega)]; congr 2; rw [zmx0]; first | exact (if_pos (by omega)).symm | exact (if_neg (by omega)).symm)) | (rw [if_neg (by omega)]; first | (rw [if_pos (by omega)]; first | rw [if_pos (by omega)] | (rw [if_neg (by omega)]; congr 2; rw [zmx0]; first | exact (if_pos (by omega)).symm | exact (if_neg (by omega)).symm)) | rw [if_neg (by omega)]))) hP hK hD hS dX10_behind_114
                  · exfalso; omega
              · exfalso; omega
            · have hc_64 := c_18
              refine lv_iload hx hb dX10_behind_67 (lv_at hl 0 rfl) ?_
              refine lv_iload_n hx hb dX10_behind_69 rfl (lv_at hl 6 rfl) ?_
              refine z_isub hF dX10_behind_70 ?_
              refine z_goto (tgt := 75) hF dX10_behind_71 (by decide) ?_
              refine lv_istore (lv' := [(7, .int (zI ((v % 7) - d))), (6, .int (zI (v % 7))), (5, .int (zI 0)), (4, .int (zI (v % 7))), (3, .int (zI (v / 7))), (0, .int (zI (7 * v))), (1, .int (zI pl)), (2, .int (zI d))]) hx hb dX10_behind_75 hl (by decide) rfl (fun ls hl => ?_)
              refine lv_iload_n hx hb dX10_behind_77 rfl (lv_at hl 6 rfl) ?_
              refine z_if_ne (tgt := 86) hF dX10_behind_78 (by decide) (by omega) (fun c_24 => ?_) (fun c_24 => ?_)
              · have hc_78 := c_24
                refine lv_iload_n hx hb dX10_behind_86 rfl (lv_at hl 4 rfl) ?_
                refine lv_iload_n hx hb dX10_behind_87 rfl (lv_at hl 6 rfl) ?_
                refine z_iconst hF dX10_behind_88 ?_
                refine z_icmp_ne (tgt := 97) hF dX10_behind_89 (by decide) (by omega) (by decide) (fun c_25 => ?_) (fun c_25 => ?_)
                · exfalso; omega
                · have hc_89 := c_25
                  refine lv_iload hx hb dX10_behind_92 (lv_at hl 0 rfl) ?_
                  refine z_goto (tgt := 99) hF dX10_behind_94 (by decide) ?_
                  refine lv_iload_n hx hb dX10_behind_99 rfl (lv_at hl 6 rfl) ?_
                  refine z_iconst hF dX10_behind_100 ?_
                  refine z_icmp_ne (tgt := 109) hF dX10_behind_101 (by decide) (by omega) (by decide) (fun c_26 => ?_) (fun c_26 => ?_)
                  · have hc_101 := c_26
                    refine lv_iload hx hb dX10_behind_109 (lv_at hl 2 rfl) ?_
                    refine cj_i (va_runS (As := [.int (zI (v / 7)), .int (zI ((v % 7) - d)), .int (zI 0)]) (rest := []) hF (c_X10_code l G (v / 7) ((v % 7) - d)  (by omega) (by omega) H.size) (va_cwS 3 hF.2.2.2.2 gX10_behind_X10_code rfl rfl rfl (by decide +kernel) ⟨Nat.le_of_ble_eq_true rfl, Nat.le_of_ble_eq_true rfl⟩) (z_preS hK hP hD hS hA hBd [] rfl rfl [.int (zI (v / 7)), .int (zI ((v % 7) - d)), .int (zI 0)]) rfl rfl hl.1 rfl (lv_room (Nat.le_of_ble_eq_true rfl)) dX10_behind_111 ⟨Nat.le_of_ble_eq_true rfl, Nat.le_of_ble_eq_true rfl⟩) hP hD hS hA [] rfl (fun _ => Nat.le_of_ble_eq_true rfl) (fun r_28 u_27 H locs hw hP hD hS => ?_)
                    have hP : va_P G.1 vwCl [] H := hP
                    have hD : va_D A [] := hD
                    obtain rfl := hw
                    rw [hQ]
                    exact z_iret hF hr hlocks () (zI_congr (by unfold bhV; first | omega | (rw [if_pos (by omega)]; first | rw [if_pos (by omega)] | (rw [if_neg (by omega)]; congr 2; rw [zmx0]; first | exact (if_pos (by omega)).symm | exact (if_neg (by omega)).symm)) | (rw [if_neg (by omega)]; first | (rw [if_pos (by omega)]; first | rw [if_pos (by omega)] | (rw [if_neg (by omega)]; congr 2; rw [zmx0]; first | exact (if_pos (by omega)).symm | exact (if_neg (by omega)).symm)) | rw [if_neg (by omega)]))) hP hK hD hS dX10_behind_114
                  · exfalso; omega
              · exfalso; omega
          · have hc_56 := c_17
            refine z_iconst hF dX10_behind_59 ?_
            rw [hQ]
            exact z_iret hF hr hlocks () (zI_congr (by unfold bhV; first | omega | (rw [if_pos (by omega)]; first | rw [if_pos (by omega)] | (rw [if_neg (by omega)]; congr 2; rw [zmx0]; first | exact (if_pos (by omega)).symm | exact (if_neg (by omega)).symm)) | (rw [if_neg (by omega)]; first | (rw [if_pos (by omega)]; first | rw [if_pos (by omega)] | (rw [if_neg (by omega)]; congr 2; rw [zmx0]; first | exact (if_pos (by omega)).symm | exact (if_neg (by omega)).symm)) | rw [if_neg (by omega)]))) hP hK hD hS dX10_behind_60
  · have hc_21 := c_1
    refine lv_iload_n hx hb dX10_behind_24 rfl (lv_at hl 2 rfl) ?_
    refine z_goto (tgt := 40) hF dX10_behind_25 (by decide) ?_
    refine lv_istore (lv' := [(6, .int (zI (v / 7))), (5, .int (zI 0)), (4, .int (zI (v % 7))), (3, .int (zI (v / 7))), (0, .int (zI (7 * v))), (1, .int (zI pl)), (2, .int (zI d))]) hx hb dX10_behind_40 hl (by decide) rfl (fun ls hl => ?_)
    refine lv_iload hx hb dX10_behind_42 (lv_at hl 0 rfl) ?_
    refine z_if_eq (tgt := 59) hF dX10_behind_44 (by decide) (by omega) (fun c_29 => ?_) (fun c_29 => ?_)
    · have hc_44 := c_29
      refine z_iconst hF dX10_behind_59 ?_
      rw [hQ]
      exact z_iret hF hr hlocks () (zI_congr (by unfold bhV; first | omega | (rw [if_pos (by omega)]; first | rw [if_pos (by omega)] | (rw [if_neg (by omega)]; congr 2; rw [zmx0]; first | exact (if_pos (by omega)).symm | exact (if_neg (by omega)).symm)) | (rw [if_neg (by omega)]; first | (rw [if_pos (by omega)]; first | rw [if_pos (by omega)] | (rw [if_neg (by omega)]; congr 2; rw [zmx0]; first | exact (if_pos (by omega)).symm | exact (if_neg (by omega)).symm)) | rw [if_neg (by omega)]))) hP hK hD hS dX10_behind_60
    · have hc_44 := c_29
      refine lv_iload hx hb dX10_behind_47 (lv_at hl 0 rfl) ?_
      refine lv_iload_n hx hb dX10_behind_49 rfl (lv_at hl 6 rfl) ?_
      refine z_icmp_ge (tgt := 61) hF dX10_behind_50 (by decide) (by omega) (by omega) (fun c_30 => ?_) (fun c_30 => ?_)
      · have hc_50 := c_30
        refine lv_iload hx hb dX10_behind_61 (lv_at hl 0 rfl) ?_
        refine lv_iload_n hx hb dX10_behind_63 rfl (lv_at hl 6 rfl) ?_
        refine z_icmp_le (tgt := 74) hF dX10_behind_64 (by decide) (by omega) (by omega) (fun c_31 => ?_) (fun c_31 => ?_)
        · have hc_64 := c_31
          refine z_iconst hF dX10_behind_74 ?_
          refine lv_istore (lv' := [(7, .int (zI 0)), (6, .int (zI (v / 7))), (5, .int (zI 0)), (4, .int (zI (v % 7))), (3, .int (zI (v / 7))), (0, .int (zI (7 * v))), (1, .int (zI pl)), (2, .int (zI d))]) hx hb dX10_behind_75 hl (by decide) rfl (fun ls hl => ?_)
          refine lv_iload_n hx hb dX10_behind_77 rfl (lv_at hl 6 rfl) ?_
          refine z_if_ne (tgt := 86) hF dX10_behind_78 (by decide) (by omega) (fun c_32 => ?_) (fun c_32 => ?_)
          · exfalso; omega
          · have hc_78 := c_32
            refine lv_iload hx hb dX10_behind_81 (lv_at hl 0 rfl) ?_
            refine z_goto (tgt := 87) hF dX10_behind_83 (by decide) ?_
            refine lv_iload_n hx hb dX10_behind_87 rfl (lv_at hl 6 rfl) ?_
            refine z_iconst hF dX10_behind_88 ?_
            refine z_icmp_ne (tgt := 97) hF dX10_behind_89 (by decide) (by omega) (by decide) (fun c_33 => ?_) (fun c_33 => ?_)
            · have hc_89 := c_33
              refine lv_iload hx hb dX10_behind_97 (lv_at hl 3 rfl) ?_
              refine lv_iload_n hx hb dX10_behind_99 rfl (lv_at hl 6 rfl) ?_
              refine z_iconst hF dX10_behind_100 ?_
              refine z_icmp_ne (tgt := 109) hF dX10_behind_101 (by decide) (by omega) (by decide) (fun c_34 => ?_) (fun c_34 => ?_)
              · have hc_101 := c_34
                refine lv_iload hx hb dX10_behind_109 (lv_at hl 2 rfl) ?_
                refine cj_i (va_runS (As := [.int (zI 0), .int (zI (v % 7)), .int (zI 0)]) (rest := []) hF (c_X10_code l G 0 (v % 7)  (by omega) (by omega) H.size) (va_cwS 3 hF.2.2.2.2 gX10_behind_X10_code rfl rfl rfl (by decide +kernel) ⟨Nat.le_of_ble_eq_true rfl, Nat.le_of_ble_eq_true rfl⟩) (z_preS hK hP hD hS hA hBd [] rfl rfl [.int (zI 0), .int (zI (v % 7)), .int (zI 0)]) rfl rfl hl.1 rfl (lv_room (Nat.le_of_ble_eq_true rfl)) dX10_behind_111 ⟨Nat.le_of_ble_eq_true rfl, Nat.le_of_ble_eq_true rfl⟩) hP hD hS hA [] rfl (fun _ => Nat.le_of_ble_eq_true rfl) (fun r_36 u_35 H locs hw hP hD hS => ?_)
                have hP : va_P G.1 vwCl [] H := hP
                have hD : va_D A [] := hD
                obtain rfl := hw
                rw [hQ]
                exact z_iret hF hr hlocks () (zI_congr (by unfold bhV; first | omega | (rw [if_pos (by omega)]; first | rw [if_pos (by omega)] | (rw [if_neg (by omega)]; congr 2; rw [zmx0]; first | exact (if_pos (by omega)).symm | exact (if_neg (by omega)).symm)) | (rw [if_neg (by omega)]; first | (rw [if_pos (by omega)]; first | rw [if_pos (by omega)] | (rw [if_neg (by omega)]; congr 2; rw [zmx0]; first | exact (if_pos (by omega)).symm | exact (if_neg (by omega)).symm)) | rw [if_neg (by omega)]))) hP hK hD hS dX10_behind_114
              · exfalso; omega
            · exfalso; omega
        · have hc_64 := c_31
          refine lv_iload hx hb dX10_behind_67 (lv_at hl 0 rfl) ?_
          refine lv_iload_n hx hb dX10_behind_69 rfl (lv_at hl 6 rfl) ?_
          refine z_isub hF dX10_behind_70 ?_
          refine z_goto (tgt := 75) hF dX10_behind_71 (by decide) ?_
          refine lv_istore (lv' := [(7, .int (zI ((v / 7) - d))), (6, .int (zI (v / 7))), (5, .int (zI 0)), (4, .int (zI (v % 7))), (3, .int (zI (v / 7))), (0, .int (zI (7 * v))), (1, .int (zI pl)), (2, .int (zI d))]) hx hb dX10_behind_75 hl (by decide) rfl (fun ls hl => ?_)
          refine lv_iload_n hx hb dX10_behind_77 rfl (lv_at hl 6 rfl) ?_
          refine z_if_ne (tgt := 86) hF dX10_behind_78 (by decide) (by omega) (fun c_37 => ?_) (fun c_37 => ?_)
          · exfalso; omega
          · have hc_78 := c_37
            refine lv_iload hx hb dX10_behind_81 (lv_at hl 0 rfl) ?_
            refine z_goto (tgt := 87) hF dX10_behind_83 (by decide) ?_
            refine lv_iload_n hx hb dX10_behind_87 rfl (lv_at hl 6 rfl) ?_
            refine z_iconst hF dX10_behind_88 ?_
            refine z_icmp_ne (tgt := 97) hF dX10_behind_89 (by decide) (by omega) (by decide) (fun c_38 => ?_) (fun c_38 => ?_)
            · have hc_89 := c_38
              refine lv_iload hx hb dX10_behind_97 (lv_at hl 3 rfl) ?_
              refine lv_iload_n hx hb dX10_behind_99 rfl (lv_at hl 6 rfl) ?_
              refine z_iconst hF dX10_behind_100 ?_
              refine z_icmp_ne (tgt := 109) hF dX10_behind_101 (by decide) (by omega) (by decide) (fun c_39 => ?_) (fun c_39 => ?_)
              · have hc_101 := c_39
                refine lv_iload hx hb dX10_behind_109 (lv_at hl 2 rfl) ?_
                refine cj_i (va_runS (As := [.int (zI ((v / 7) - d)), .int (zI (v % 7)), .int (zI 0)]) (rest := []) hF (c_X10_code l G ((v / 7) - d) (v % 7)  (by omega) (by omega) H.size) (va_cwS 3 hF.2.2.2.2 gX10_behind_X10_code rfl rfl rfl (by decide +kernel) ⟨Nat.le_of_ble_eq_true rfl, Nat.le_of_ble_eq_true rfl⟩) (z_preS hK hP hD hS hA hBd [] rfl rfl [.int (zI ((v / 7) - d)), .int (zI (v % 7)), .int (zI 0)]) rfl rfl hl.1 rfl (lv_room (Nat.le_of_ble_eq_true rfl)) dX10_behind_111 ⟨Nat.le_of_ble_eq_true rfl, Nat.le_of_ble_eq_true rfl⟩) hP hD hS hA [] rfl (fun _ => Nat.le_of_ble_eq_true rfl) (fun r_41 u_40 H locs hw hP hD hS => ?_)
                have hP : va_P G.1 vwCl [] H := hP
                have hD : va_D A [] := hD
                obtain rfl := hw
                rw [hQ]
                exact z_iret hF hr hlocks () (zI_congr (by unfold bhV; first | omega | (rw [if_pos (by omega)]; first | rw [if_pos (by omega)] | (rw [if_neg (by omega)]; congr 2; rw [zmx0]; first | exact (if_pos (by omega)).symm | exact (if_neg (by omega)).symm)) | (rw [if_neg (by omega)]; first | (rw [if_pos (by omega)]; first | rw [if_pos (by omega)] | (rw [if_neg (by omega)]; congr 2; rw [zmx0]; first | exact (if_pos (by omega)).symm | exact (if_neg (by omega)).symm)) | rw [if_neg (by omega)]))) hP hK hD hS dX10_behind_114
              · exfalso; omega
            · exfalso; omega
      · have hc_50 := c_30
        refine lv_iload hx hb dX10_behind_53 (lv_at hl 0 rfl) ?_
        refine lv_iload_n hx hb dX10_behind_55 rfl (lv_at hl 3 rfl) ?_
        refine z_icmp_eq (tgt := 61) hF dX10_behind_56 (by decide) (by omega) (by omega) (fun c_42 => ?_) (fun c_42 => ?_)
        · have hc_56 := c_42
          refine lv_iload hx hb dX10_behind_61 (lv_at hl 0 rfl) ?_
          refine lv_iload_n hx hb dX10_behind_63 rfl (lv_at hl 6 rfl) ?_
          refine z_icmp_le (tgt := 74) hF dX10_behind_64 (by decide) (by omega) (by omega) (fun c_43 => ?_) (fun c_43 => ?_)
          · have hc_64 := c_43
            refine z_iconst hF dX10_behind_74 ?_
            refine lv_istore (lv' := [(7, .int (zI 0)), (6, .int (zI (v / 7))), (5, .int (zI 0)), (4, .int (zI (v % 7))), (3, .int (zI (v / 7))), (0, .int (zI (7 * v))), (1, .int (zI pl)), (2, .int (zI d))]) hx hb dX10_behind_75 hl (by decide) rfl (fun ls hl => ?_)
            refine lv_iload_n hx hb dX10_behind_77 rfl (lv_at hl 6 rfl) ?_
            refine z_if_ne (tgt := 86) hF dX10_behind_78 (by decide) (by omega) (fun c_44 => ?_) (fun c_44 => ?_)
            · exfalso; omega
            · have hc_78 := c_44
              refine lv_iload hx hb dX10_behind_81 (lv_at hl 0 rfl) ?_
              refine z_goto (tgt := 87) hF dX10_behind_83 (by decide) ?_
              refine lv_iload_n hx hb dX10_behind_87 rfl (lv_at hl 6 rfl) ?_
              refine z_iconst hF dX10_behind_88 ?_
              refine z_icmp_ne (tgt := 97) hF dX10_behind_89 (by decide) (by omega) (by decide) (fun c_45 => ?_) (fun c_45 => ?_)
              · have hc_89 := c_45
                refine lv_iload hx hb dX10_behind_97 (lv_at hl 3 rfl) ?_
                refine lv_iload_n hx hb dX10_behind_99 rfl (lv_at hl 6 rfl) ?_
                refine z_iconst hF dX10_behind_100 ?_
                refine z_icmp_ne (tgt := 109) hF dX10_behind_101 (by decide) (by omega) (by decide) (fun c_46 => ?_) (fun c_46 => ?_)
                · have hc_101 := c_46
                  refine lv_iload hx hb dX10_behind_109 (lv_at hl 2 rfl) ?_
                  refine cj_i (va_runS (As := [.int (zI 0), .int (zI (v % 7)), .int (zI 0)]) (rest := []) hF (c_X10_code l G 0 (v % 7)  (by omega) (by omega) H.size) (va_cwS 3 hF.2.2.2.2 gX10_behind_X10_code rfl rfl rfl (by decide +kernel) ⟨Nat.le_of_ble_eq_true rfl, Nat.le_of_ble_eq_true rfl⟩) (z_preS hK hP hD hS hA hBd [] rfl rfl [.int (zI 0), .int (zI (v % 7)), .int (zI 0)]) rfl rfl hl.1 rfl (lv_room (Nat.le_of_ble_eq_true rfl)) dX10_behind_111 ⟨Nat.le_of_ble_eq_true rfl, Nat.le_of_ble_eq_true rfl⟩) hP hD hS hA [] rfl (fun _ => Nat.le_of_ble_eq_true rfl) (fun r_48 u_47 H locs hw hP hD hS => ?_)
                  have hP : va_P G.1 vwCl [] H := hP
                  have hD : va_D A [] := hD
                  obtain rfl := hw
                  rw [hQ]
                  exact z_iret hF hr hlocks () (zI_congr (by unfold bhV; first | omega | (rw [if_pos (by omega)]; first | rw [if_pos (by omega)] | (rw [if_neg (by omega)]; congr 2; rw [zmx0]; first | exact (if_pos (by omega)).symm | exact (if_neg (by omega)).symm)) | (rw [if_neg (by omega)]; first | (rw [if_pos (by omega)]; first | rw [if_pos (by omega)] | (rw [if_neg (by omega)]; congr 2; rw [zmx0]; first | exact (if_pos (by omega)).symm | exact (if_neg (by omega)).symm)) | rw [if_neg (by omega)]))) hP hK hD hS dX10_behind_114
                · exfalso; omega
              · exfalso; omega
          · have hc_64 := c_43
            refine lv_iload hx hb dX10_behind_67 (lv_at hl 0 rfl) ?_
            refine lv_iload_n hx hb dX10_behind_69 rfl (lv_at hl 6 rfl) ?_
            refine z_isub hF dX10_behind_70 ?_
            refine z_goto (tgt := 75) hF dX10_behind_71 (by decide) ?_
            refine lv_istore (lv' := [(7, .int (zI ((v / 7) - d))), (6, .int (zI (v / 7))), (5, .int (zI 0)), (4, .int (zI (v % 7))), (3, .int (zI (v / 7))), (0, .int (zI (7 * v))), (1, .int (zI pl)), (2, .int (zI d))]) hx hb dX10_behind_75 hl (by decide) rfl (fun ls hl => ?_)
            refine lv_iload_n hx hb dX10_behind_77 rfl (lv_at hl 6 rfl) ?_
            refine z_if_ne (tgt := 86) hF dX10_behind_78 (by decide) (by omega) (fun c_49 => ?_) (fun c_49 => ?_)
            · exfalso; omega
            · have hc_78 := c_49
              refine lv_iload hx hb dX10_behind_81 (lv_at hl 0 rfl) ?_
              refine z_goto (tgt := 87) hF dX10_behind_83 (by decide) ?_
              refine lv_iload_n hx hb dX10_behind_87 rfl (lv_at hl 6 rfl) ?_
              refine z_iconst hF dX10_behind_88 ?_
              refine z_icmp_ne (tgt := 97) hF dX10_behind_89 (by decide) (by omega) (by decide) (fun c_50 => ?_) (fun c_50 => ?_)
              · have hc_89 := c_50
                refine lv_iload hx hb dX10_behind_97 (lv_at hl 3 rfl) ?_
                refine lv_iload_n hx hb dX10_behind_99 rfl (lv_at hl 6 rfl) ?_
                refine z_iconst hF dX10_behind_100 ?_
                refine z_icmp_ne (tgt := 109) hF dX10_behind_101 (by decide) (by omega) (by decide) (fun c_51 => ?_) (fun c_51 => ?_)
                · have hc_101 := c_51
                  refine lv_iload hx hb dX10_behind_109 (lv_at hl 2 rfl) ?_
                  refine cj_i (va_runS (As := [.int (zI ((v / 7) - d)), .int (zI (v % 7)), .int (zI 0)]) (rest := []) hF (c_X10_code l G ((v / 7) - d) (v % 7)  (by omega) (by omega) H.size) (va_cwS 3 hF.2.2.2.2 gX10_behind_X10_code rfl rfl rfl (by decide +kernel) ⟨Nat.le_of_ble_eq_true rfl, Nat.le_of_ble_eq_true rfl⟩) (z_preS hK hP hD hS hA hBd [] rfl rfl [.int (zI ((v / 7) - d)), .int (zI (v % 7)), .int (zI 0)]) rfl rfl hl.1 rfl (lv_room (Nat.le_of_ble_eq_true rfl)) dX10_behind_111 ⟨Nat.le_of_ble_eq_true rfl, Nat.le_of_ble_eq_true rfl⟩) hP hD hS hA [] rfl (fun _ => Nat.le_of_ble_eq_true rfl) (fun r_53 u_52 H locs hw hP hD hS => ?_)
                  have hP : va_P G.1 vwCl [] H := hP
                  have hD : va_D A [] := hD
                  obtain rfl := hw
                  rw [hQ]
                  exact z_iret hF hr hlocks () (zI_congr (by unfold bhV; first | omega | (rw [if_pos (by omega)]; first | rw [if_pos (by omega)] | (rw [if_neg (by omega)]; congr 2; rw [zmx0]; first | exact (if_pos (by omega)).symm | exact (if_neg (by omega)).symm)) | (rw [if_neg (by omega)]; first | (rw [if_pos (by omega)]; first | rw [if_pos (by omega)] | (rw [if_neg (by omega)]; congr 2; rw [zmx0]; first | exact (if_pos (by omega)).symm | exact (if_neg (by omega)).symm)) | rw [if_neg (by omega)]))) hP hK hD hS dX10_behind_114
                · exfalso; omega
              · exfalso; omega
        · have hc_56 := c_42
          refine z_iconst hF dX10_behind_59 ?_
          rw [hQ]
          exact z_iret hF hr hlocks () (zI_congr (by unfold bhV; first | omega | (rw [if_pos (by omega)]; first | rw [if_pos (by omega)] | (rw [if_neg (by omega)]; congr 2; rw [zmx0]; first | exact (if_pos (by omega)).symm | exact (if_neg (by omega)).symm)) | (rw [if_neg (by omega)]; first | (rw [if_pos (by omega)]; first | rw [if_pos (by omega)] | (rw [if_neg (by omega)]; congr 2; rw [zmx0]; first | exact (if_pos (by omega)).symm | exact (if_neg (by omega)).symm)) | rw [if_neg (by omega)]))) hP hK hD hS dX10_behind_60
def CHM (l : Launch) (G : wG) (n : Nat) : Prop := ∀ (m0 y5 y11 y12 y18 y21 y22 y23 y24 y25 y26 y27 y28 y29 y38 y40 y42 y43 y44 y48 y53 : Nat) (j0 j1 j2 j3 j4 j6 j7 j8 j9 j10 j13 j14 j15 j16 j17 j19 j20 j30 j31 j32 j33 j34 j35 j36 j37 j39 j41 j45 j46 j47 j49 j50 j51 j52 : Int)  (w38 : Int → UInt64) (v w : Int)  (hv : v7 v) (hw : v7 w) (hv0 : v ≠ 0) (hw0 : w ≠ 0) (hnn : pip v + pip w ≤ n) (hcI : chM w38) (z9 : Nat), Met l yX10_chance wsX10_chance (rmL (20 + 9 * n) 0 0) (wPc G [(m0, .inr (10, .int (zI j0) :: .int (zI j1) :: .int (zI j2) :: .int (zI j3) :: .int (zI j4) :: .ref y5 :: .int (zI j6) :: .int (zI j7) :: .int (zI j8) :: .int (zI j9) :: .int (zI j10) :: .ref y11 :: .ref y12 :: .int (zI j13) :: .int (zI j14) :: .int (zI j15) :: .int (zI j16) :: .int (zI j17) :: .ref y18 :: .int (zI j19) :: .int (zI j20) :: .ref y21 :: .ref y22 :: .ref y23 :: .ref y24 :: .ref y25 :: .ref y26 :: .ref y27 :: .ref y28 :: .ref y29 :: .int (zI j30) :: .int (zI j31) :: .int (zI j32) :: .int (zI j33) :: .int (zI j34) :: .int (zI j35) :: .int (zI j36) :: .int (zI j37) :: .ref y38 :: .int (zI j39) :: .ref y40 :: .int (zI j41) :: .ref y42 :: .ref y43 :: .ref y44 :: .int (zI j45) :: .int (zI j46) :: .long (zL j47) :: .ref y48 :: .int (zI j49) :: .int (zI j50) :: .int (zI j51) :: .int (zI j52) :: .ref y53 :: [])), (y38, .inl (G.2.1.2.2, 117649, .inr (.inr (.inr (.inl (aD w38))))))] z9 [.ref m0, .int (zI (7 * v)), .int (zI (7 * w))]) (wQd G (fun (r : UInt64) (u : (Int → UInt64)) => chM u ∧ r = (chV v w)) (fun (u : (Int → UInt64)) => [(m0, .inr (10, .int (zI j0) :: .int (zI j1) :: .int (zI j2) :: .int (zI j3) :: .int (zI j4) :: .ref y5 :: .int (zI j6) :: .int (zI j7) :: .int (zI j8) :: .int (zI j9) :: .int (zI j10) :: .ref y11 :: .ref y12 :: .int (zI j13) :: .int (zI j14) :: .int (zI j15) :: .int (zI j16) :: .int (zI j17) :: .ref y18 :: .int (zI j19) :: .int (zI j20) :: .ref y21 :: .ref y22 :: .ref y23 :: .ref y24 :: .ref y25 :: .ref y26 :: .ref y27 :: .ref y28 :: .ref y29 :: .int (zI j30) :: .int (zI j31) :: .int (zI j32) :: .int (zI j33) :: .int (zI j34) :: .int (zI j35) :: .int (zI j36) :: .int (zI j37) :: .ref y38 :: .int (zI j39) :: .ref y40 :: .int (zI j41) :: .ref y42 :: .ref y43 :: .ref y44 :: .int (zI j45) :: .int (zI j46) :: .long (zL j47) :: .ref y48 :: .int (zI j49) :: .int (zI j50) :: .int (zI j51) :: .int (zI j52) :: .ref y53 :: [])), (y38, .inl (G.2.1.2.2, 117649, .inr (.inr (.inr (.inl (aD u))))))]) (va_A [(m0, .inr (10, .int (zI j0) :: .int (zI j1) :: .int (zI j2) :: .int (zI j3) :: .int (zI j4) :: .ref y5 :: .int (zI j6) :: .int (zI j7) :: .int (zI j8) :: .int (zI j9) :: .int (zI j10) :: .ref y11 :: .ref y12 :: .int (zI j13) :: .int (zI j14) :: .int (zI j15) :: .int (zI j16) :: .int (zI j17) :: .ref y18 :: .int (zI j19) :: .int (zI j20) :: .ref y21 :: .ref y22 :: .ref y23 :: .ref y24 :: .ref y25 :: .ref y26 :: .ref y27 :: .ref y28 :: .ref y29 :: .int (zI j30) :: .int (zI j31) :: .int (zI j32) :: .int (zI j33) :: .int (zI j34) :: .int (zI j35) :: .int (zI j36) :: .int (zI j37) :: .ref y38 :: .int (zI j39) :: .ref y40 :: .int (zI j41) :: .ref y42 :: .ref y43 :: .ref y44 :: .int (zI j45) :: .int (zI j46) :: .long (zL j47) :: .ref y48 :: .int (zI j49) :: .int (zI j50) :: .int (zI j51) :: .int (zI j52) :: .ref y53 :: [])), (y38, .inl (G.2.1.2.2, 117649, .inr (.inr (.inr (.inl (aD w38))))))] z9)) 0 0 (va_A [(m0, .inr (10, .int (zI j0) :: .int (zI j1) :: .int (zI j2) :: .int (zI j3) :: .int (zI j4) :: .ref y5 :: .int (zI j6) :: .int (zI j7) :: .int (zI j8) :: .int (zI j9) :: .int (zI j10) :: .ref y11 :: .ref y12 :: .int (zI j13) :: .int (zI j14) :: .int (zI j15) :: .int (zI j16) :: .int (zI j17) :: .ref y18 :: .int (zI j19) :: .int (zI j20) :: .ref y21 :: .ref y22 :: .ref y23 :: .ref y24 :: .ref y25 :: .ref y26 :: .ref y27 :: .ref y28 :: .ref y29 :: .int (zI j30) :: .int (zI j31) :: .int (zI j32) :: .int (zI j33) :: .int (zI j34) :: .int (zI j35) :: .int (zI j36) :: .int (zI j37) :: .ref y38 :: .int (zI j39) :: .ref y40 :: .int (zI j41) :: .ref y42 :: .ref y43 :: .ref y44 :: .int (zI j45) :: .int (zI j46) :: .long (zL j47) :: .ref y48 :: .int (zI j49) :: .int (zI j50) :: .int (zI j51) :: .int (zI j52) :: .ref y53 :: [])), (y38, .inl (G.2.1.2.2, 117649, .inr (.inr (.inr (.inl (aD w38))))))] z9)
def RES (l : Launch) (G : wG) (n nn tt ss : Nat) : Prop := ∀ (m0 y5 y11 y12 y18 y21 y22 y23 y24 y25 y26 y27 y28 y29 y38 y40 y42 y43 y44 y48 y53 : Nat) (j0 j1 j2 j3 j4 j6 j7 j8 j9 j10 j13 j14 j15 j16 j17 j19 j20 j30 j31 j32 j33 j34 j35 j36 j37 j39 j41 j45 j46 j47 j49 j50 j51 j52 : Int)  (w38 : Int → UInt64) (v w d t dq sq j : Int)  (hv : v7 v) (hw : v7 w) (hw0 : w ≠ 0) (hd_ : 1 ≤ d ∧ d ≤ 6) (he_ : 1 ≤ dq ∧ dq ≤ 6) (htt : t = (tt : Int) ∧ sq = (ss : Int) ∧ tt + ss = nn ∧ nn ≤ 4) (hnn : pip v + pip w + j ≤ n) (hj : 0 ≤ j ∧ 2 ≤ j + (nn : Int)) (hcI : chM w38) (z9 : Nat), Met l yX10_reach wsX10_reach (rmL (12 + 9 * n + nn) 0 0) (wPc G [(m0, .inr (10, .int (zI j0) :: .int (zI j1) :: .int (zI j2) :: .int (zI j3) :: .int (zI j4) :: .ref y5 :: .int (zI j6) :: .int (zI j7) :: .int (zI j8) :: .int (zI j9) :: .int (zI j10) :: .ref y11 :: .ref y12 :: .int (zI j13) :: .int (zI j14) :: .int (zI j15) :: .int (zI j16) :: .int (zI j17) :: .ref y18 :: .int (zI j19) :: .int (zI j20) :: .ref y21 :: .ref y22 :: .ref y23 :: .ref y24 :: .ref y25 :: .ref y26 :: .ref y27 :: .ref y28 :: .ref y29 :: .int (zI j30) :: .int (zI j31) :: .int (zI j32) :: .int (zI j33) :: .int (zI j34) :: .int (zI j35) :: .int (zI j36) :: .int (zI j37) :: .ref y38 :: .int (zI j39) :: .ref y40 :: .int (zI j41) :: .ref y42 :: .ref y43 :: .ref y44 :: .int (zI j45) :: .int (zI j46) :: .long (zL j47) :: .ref y48 :: .int (zI j49) :: .int (zI j50) :: .int (zI j51) :: .int (zI j52) :: .ref y53 :: [])), (y38, .inl (G.2.1.2.2, 117649, .inr (.inr (.inr (.inl (aD w38))))))] z9 [.ref m0, .int (zI (7 * v)), .int (zI (7 * w)), .int (zI d), .int (zI t), .int (zI dq), .int (zI sq)]) (wQd G (fun (r : UInt64) (u : (Int → UInt64)) => chM u ∧ r = (rcF chV w nn tt ss v d dq)) (fun (u : (Int → UInt64)) => [(m0, .inr (10, .int (zI j0) :: .int (zI j1) :: .int (zI j2) :: .int (zI j3) :: .int (zI j4) :: .ref y5 :: .int (zI j6) :: .int (zI j7) :: .int (zI j8) :: .int (zI j9) :: .int (zI j10) :: .ref y11 :: .ref y12 :: .int (zI j13) :: .int (zI j14) :: .int (zI j15) :: .int (zI j16) :: .int (zI j17) :: .ref y18 :: .int (zI j19) :: .int (zI j20) :: .ref y21 :: .ref y22 :: .ref y23 :: .ref y24 :: .ref y25 :: .ref y26 :: .ref y27 :: .ref y28 :: .ref y29 :: .int (zI j30) :: .int (zI j31) :: .int (zI j32) :: .int (zI j33) :: .int (zI j34) :: .int (zI j35) :: .int (zI j36) :: .int (zI j37) :: .ref y38 :: .int (zI j39) :: .ref y40 :: .int (zI j41) :: .ref y42 :: .ref y43 :: .ref y44 :: .int (zI j45) :: .int (zI j46) :: .long (zL j47) :: .ref y48 :: .int (zI j49) :: .int (zI j50) :: .int (zI j51) :: .int (zI j52) :: .ref y53 :: [])), (y38, .inl (G.2.1.2.2, 117649, .inr (.inr (.inr (.inl (aD u))))))]) (va_A [(m0, .inr (10, .int (zI j0) :: .int (zI j1) :: .int (zI j2) :: .int (zI j3) :: .int (zI j4) :: .ref y5 :: .int (zI j6) :: .int (zI j7) :: .int (zI j8) :: .int (zI j9) :: .int (zI j10) :: .ref y11 :: .ref y12 :: .int (zI j13) :: .int (zI j14) :: .int (zI j15) :: .int (zI j16) :: .int (zI j17) :: .ref y18 :: .int (zI j19) :: .int (zI j20) :: .ref y21 :: .ref y22 :: .ref y23 :: .ref y24 :: .ref y25 :: .ref y26 :: .ref y27 :: .ref y28 :: .ref y29 :: .int (zI j30) :: .int (zI j31) :: .int (zI j32) :: .int (zI j33) :: .int (zI j34) :: .int (zI j35) :: .int (zI j36) :: .int (zI j37) :: .ref y38 :: .int (zI j39) :: .ref y40 :: .int (zI j41) :: .ref y42 :: .ref y43 :: .ref y44 :: .int (zI j45) :: .int (zI j46) :: .long (zL j47) :: .ref y48 :: .int (zI j49) :: .int (zI j50) :: .int (zI j51) :: .int (zI j52) :: .ref y53 :: [])), (y38, .inl (G.2.1.2.2, 117649, .inr (.inr (.inr (.inl (aD w38))))))] z9)) 0 0 (va_A [(m0, .inr (10, .int (zI j0) :: .int (zI j1) :: .int (zI j2) :: .int (zI j3) :: .int (zI j4) :: .ref y5 :: .int (zI j6) :: .int (zI j7) :: .int (zI j8) :: .int (zI j9) :: .int (zI j10) :: .ref y11 :: .ref y12 :: .int (zI j13) :: .int (zI j14) :: .int (zI j15) :: .int (zI j16) :: .int (zI j17) :: .ref y18 :: .int (zI j19) :: .int (zI j20) :: .ref y21 :: .ref y22 :: .ref y23 :: .ref y24 :: .ref y25 :: .ref y26 :: .ref y27 :: .ref y28 :: .ref y29 :: .int (zI j30) :: .int (zI j31) :: .int (zI j32) :: .int (zI j33) :: .int (zI j34) :: .int (zI j35) :: .int (zI j36) :: .int (zI j37) :: .ref y38 :: .int (zI j39) :: .ref y40 :: .int (zI j41) :: .ref y42 :: .ref y43 :: .ref y44 :: .int (zI j45) :: .int (zI j46) :: .long (zL j47) :: .ref y48 :: .int (zI j49) :: .int (zI j50) :: .int (zI j51) :: .int (zI j52) :: .ref y53 :: [])), (y38, .inl (G.2.1.2.2, 117649, .inr (.inr (.inr (.inl (aD w38))))))] z9)
set_option maxHeartbeats 4000000 in
set_option maxRecDepth 100000 in
theorem c_X10_reach_s (l : Launch) (G : wG) (n nn tt ss : Nat) (hfp : FPL) (CHH : ∀ k : Nat, k < n → CHM l G k) (IH : ∀ n0 t9 s9 : Nat, nn = n0 + 1 → RES l G n n0 t9 s9) : RES l G n nn tt ss := by
  intro m0 y5 y11 y12 y18 y21 y22 y23 y24 y25 y26 y27 y28 y29 y38 y40 y42 y43 y44 y48 y53 j0 j1 j2 j3 j4 j6 j7 j8 j9 j10 j13 j14 j15 j16 j17 j19 j20 j30 j31 j32 j33 j34 j35 j36 j37 j39 j41 j45 j46 j47 j49 j50 j51 j52 w38 v w d t dq sq j hv hw hw0 hd_ he_ htt hnn hj hcI z9
  refine z_ofW (Qc := fun A => wQd G (fun (r : UInt64) (u : (Int → UInt64)) => chM u ∧ r = (rcF chV w nn tt ss v d dq)) (fun (u : (Int → UInt64)) => [(m0, .inr (10, .int (zI j0) :: .int (zI j1) :: .int (zI j2) :: .int (zI j3) :: .int (zI j4) :: .ref y5 :: .int (zI j6) :: .int (zI j7) :: .int (zI j8) :: .int (zI j9) :: .int (zI j10) :: .ref y11 :: .ref y12 :: .int (zI j13) :: .int (zI j14) :: .int (zI j15) :: .int (zI j16) :: .int (zI j17) :: .ref y18 :: .int (zI j19) :: .int (zI j20) :: .ref y21 :: .ref y22 :: .ref y23 :: .ref y24 :: .ref y25 :: .ref y26 :: .ref y27 :: .ref y28 :: .ref y29 :: .int (zI j30) :: .int (zI j31) :: .int (zI j32) :: .int (zI j33) :: .int (zI j34) :: .int (zI j35) :: .int (zI j36) :: .int (zI j37) :: .ref y38 :: .int (zI j39) :: .ref y40 :: .int (zI j41) :: .ref y42 :: .ref y43 :: .ref y44 :: .int (zI j45) :: .int (zI j46) :: .long (zL j47) :: .ref y48 :: .int (zI j49) :: .int (zI j50) :: .int (zI j51) :: .int (zI j52) :: .ref y53 :: [])), (y38, .inl (G.2.1.2.2, 117649, .inr (.inr (.inr (.inl (aD u))))))]) A) l G [(m0, .inr (10, .int (zI j0) :: .int (zI j1) :: .int (zI j2) :: .int (zI j3) :: .int (zI j4) :: .ref y5 :: .int (zI j6) :: .int (zI j7) :: .int (zI j8) :: .int (zI j9) :: .int (zI j10) :: .ref y11 :: .ref y12 :: .int (zI j13) :: .int (zI j14) :: .int (zI j15) :: .int (zI j16) :: .int (zI j17) :: .ref y18 :: .int (zI j19) :: .int (zI j20) :: .ref y21 :: .ref y22 :: .ref y23 :: .ref y24 :: .ref y25 :: .ref y26 :: .ref y27 :: .ref y28 :: .ref y29 :: .int (zI j30) :: .int (zI j31) :: .int (zI j32) :: .int (zI j33) :: .int (zI j34) :: .int (zI j35) :: .int (zI j36) :: .int (zI j37) :: .ref y38 :: .int (zI j39) :: .ref y40 :: .int (zI j41) :: .ref y42 :: .ref y43 :: .ref y44 :: .int (zI j45) :: .int (zI j46) :: .long (zL j47) :: .ref y48 :: .int (zI j49) :: .int (zI j50) :: .int (zI j51) :: .int (zI j52) :: .ref y53 :: [])), (y38, .inl (G.2.1.2.2, 117649, .inr (.inr (.inr (.inl (aD w38))))))] [.ref m0, .int (zI (7 * v)), .int (zI (7 * w)), .int (zI d), .int (zI t), .int (zI dq), .int (zI sq)] (by decide) rfl rfl ?_ z9
  intro p e s m args below meth c A ls H locs hF hr hlocks hinit hP hK hD hA hS hBd hl
  have hF : wFx p m c cX10_reach 13 s args wsX10_reach RX10 := hF
  have hl : lv_has ls 13 [(0, .ref m0), (1, .int (zI (7 * v))), (2, .int (zI (7 * w))), (3, .int (zI d)), (4, .int (zI t)), (5, .int (zI dq)), (6, .int (zI sq))] := hl
  have hx := hF.1
  have hb := hF.2.1
  obtain ⟨Q0, hQ⟩ : ∃ q, q = (MQ below (wQd G (fun (r : UInt64) (u : (Int → UInt64)) => chM u ∧ r = (rcF chV w nn tt ss v d dq)) (fun (u : (Int → UInt64)) => [(m0, .inr (10, .int (zI j0) :: .int (zI j1) :: .int (zI j2) :: .int (zI j3) :: .int (zI j4) :: .ref y5 :: .int (zI j6) :: .int (zI j7) :: .int (zI j8) :: .int (zI j9) :: .int (zI j10) :: .ref y11 :: .ref y12 :: .int (zI j13) :: .int (zI j14) :: .int (zI j15) :: .int (zI j16) :: .int (zI j17) :: .ref y18 :: .int (zI j19) :: .int (zI j20) :: .ref y21 :: .ref y22 :: .ref y23 :: .ref y24 :: .ref y25 :: .ref y26 :: .ref y27 :: .ref y28 :: .ref y29 :: .int (zI j30) :: .int (zI j31) :: .int (zI j32) :: .int (zI j33) :: .int (zI j34) :: .int (zI j35) :: .int (zI j36) :: .int (zI j37) :: .ref y38 :: .int (zI j39) :: .ref y40 :: .int (zI j41) :: .ref y42 :: .ref y43 :: .ref y44 :: .int (zI j45) :: .int (zI j46) :: .long (zL j47) :: .ref y48 :: .int (zI j49) :: .int (zI j50) :: .int (zI j51) :: .int (zI j52) :: .ref y53 :: [])), (y38, .inl (G.2.1.2.2, 117649, .inr (.inr (.inr (.inl (aD u))))))]) A) args s 0 0 A) := ⟨_, rfl⟩
  rw [← hQ]
  have hr9 := v7_rg hv
  have hr8 := v7_rg hw
  refine lv_iload_n hx hb dX10_reach_0 rfl (lv_at hl 1 rfl) ?_
  refine z_if_ne (tgt := 6) hF dX10_reach_1 (by decide) (by omega) (fun c_1 => ?_) (fun c_1 => ?_)
  · have hc_1 := c_1
    have hv0 : v ≠ 0 := by omega
    have hp9 := v7_pos hv hv0
    have hp8 := v7_pos hw hw0
    refine lv_iload hx hb dX10_reach_6 (lv_at hl 4 rfl) ?_
    refine lv_iload hx hb dX10_reach_8 (lv_at hl 6 rfl) ?_
    refine z_iadd hF dX10_reach_10 ?_
    refine z_if_ne (tgt := 23) hF dX10_reach_11 (by decide) (by omega) (fun c_2 => ?_) (fun c_2 => ?_)
    · have hc_11 := c_2
      obtain ⟨n0, hn0⟩ : ∃ n0, nn = n0 + 1 := ⟨nn - 1, by omega⟩
      have hrB : ∀ (a9 c9 : Nat) (v9 : Int), v7 v9 → dB 1 (rcF chV w n0 a9 c9 v9 d dq) := fun a9 c9 v9 h9 => rcF_D hfp hw hw0 h9 hd_.1 he_.1
      refine lv_dconst0 hx hb dX10_reach_23 ?_
      refine lv_dstore (lv' := [(7, .double FP.dconst0), (0, .ref m0), (1, .int (zI (7 * v))), (2, .int (zI (7 * w))), (3, .int (zI d)), (4, .int (zI t)), (5, .int (zI dq)), (6, .int (zI sq))]) hx hb dX10_reach_24 hl (by decide) rfl (fun ls hl => ?_)
      refine z_iconst hF dX10_reach_26 ?_
      refine lv_istore (lv' := [(9, .int (zI 0)), (7, .double FP.dconst0), (0, .ref m0), (1, .int (zI (7 * v))), (2, .int (zI (7 * w))), (3, .int (zI d)), (4, .int (zI t)), (5, .int (zI dq)), (6, .int (zI sq))]) hx hb dX10_reach_27 hl (by decide) rfl (fun ls hl => ?_)
      have L29 : ∀ (n9 : Nat) (pl : Int) (bs9 : UInt64) (f0 : Int → UInt64), (3 - pl).toNat < n9 → (0 ≤ pl ∧ pl ≤ 3) → bs9 = rcL (fun a9 c9 v9 => rcF chV w n0 a9 c9 v9 d dq) tt ss v d dq pl.toNat → chM f0 → ∀ (H : Heap) (locs : List Loc) (ls : Array Slot), va_P G.1 vwCl [(m0, .inr (10, .int (zI j0) :: .int (zI j1) :: .int (zI j2) :: .int (zI j3) :: .int (zI j4) :: .ref y5 :: .int (zI j6) :: .int (zI j7) :: .int (zI j8) :: .int (zI j9) :: .int (zI j10) :: .ref y11 :: .ref y12 :: .int (zI j13) :: .int (zI j14) :: .int (zI j15) :: .int (zI j16) :: .int (zI j17) :: .ref y18 :: .int (zI j19) :: .int (zI j20) :: .ref y21 :: .ref y22 :: .ref y23 :: .ref y24 :: .ref y25 :: .ref y26 :: .ref y27 :: .ref y28 :: .ref y29 :: .int (zI j30) :: .int (zI j31) :: .int (zI j32) :: .int (zI j33) :: .int (zI j34) :: .int (zI j35) :: .int (zI j36) :: .int (zI j37) :: .ref y38 :: .int (zI j39) :: .ref y40 :: .int (zI j41) :: .ref y42 :: .ref y43 :: .ref y44 :: .int (zI j45) :: .int (zI j46) :: .long (zL j47) :: .ref y48 :: .int (zI j49) :: .int (zI j50) :: .int (zI j51) :: .int (zI j52) :: .ref y53 :: [])), (y38, .inl (G.2.1.2.2, 117649, .inr (.inr (.inr (.inl (aD f0))))))] H → va_D A [(m0, .inr (10, .int (zI j0) :: .int (zI j1) :: .int (zI j2) :: .int (zI j3) :: .int (zI j4) :: .ref y5 :: .int (zI j6) :: .int (zI j7) :: .int (zI j8) :: .int (zI j9) :: .int (zI j10) :: .ref y11 :: .ref y12 :: .int (zI j13) :: .int (zI j14) :: .int (zI j15) :: .int (zI j16) :: .int (zI j17) :: .ref y18 :: .int (zI j19) :: .int (zI j20) :: .ref y21 :: .ref y22 :: .ref y23 :: .ref y24 :: .ref y25 :: .ref y26 :: .ref y27 :: .ref y28 :: .ref y29 :: .int (zI j30) :: .int (zI j31) :: .int (zI j32) :: .int (zI j33) :: .int (zI j34) :: .int (zI j35) :: .int (zI j36) :: .int (zI j37) :: .ref y38 :: .int (zI j39) :: .ref y40 :: .int (zI j41) :: .ref y42 :: .ref y43 :: .ref y44 :: .int (zI j45) :: .int (zI j46) :: .long (zL j47) :: .ref y48 :: .int (zI j49) :: .int (zI j50) :: .int (zI j51) :: .int (zI j52) :: .ref y53 :: [])), (y38, .inl (G.2.1.2.2, 117649, .inr (.inr (.inr (.inl (aD f0))))))] → va_S A s.heap H locs → lv_has ls 13 [(0, .ref m0), (1, .int (zI (7 * v))), (2, .int (zI (7 * w))), (3, .int (zI d)), (4, .int (zI t)), (5, .int (zI dq)), (6, .int (zI sq)), (7, .double bs9), (9, .int (zI pl))] → W p l e (rmL (12 + 9 * n + nn) 0 0) s m args below meth c H locs 0 0 Q0 (F0 m 29 ls []) := by
        intro n9
        induction n9 with
        | zero => intro pl bs9 f0 hmu; omega
        | succ n9 ih29 =>
          intro pl bs9 f0 hmu29 hzp hbs hI0 H locs ls hP hD hS hl
          refine lv_iload hx hb dX10_reach_29 (lv_at hl 8 rfl) ?_
          refine z_iconst hF dX10_reach_31 ?_
          refine z_icmp_ge (tgt := 166) hF dX10_reach_32 (by decide) (by omega) (by decide) (fun c_3 => ?_) (fun c_3 => ?_)
          · have hc_32 := c_3
            refine lv_dload hx hb dX10_reach_166 (lv_at hl 7 rfl) ?_
            rw [hQ]
            exact z_dret hF hr hlocks f0 ⟨hI0, by rw [hn0, hbs, show pl.toNat = 3 by omega, rcF, if_neg hv0]⟩ hP hK hD hS dX10_reach_168
          · have hc_32 := c_3
            have hbB : dB 1 (rcL (fun a9 c9 v9 => rcF chV w n0 a9 c9 v9 d dq) tt ss v d dq pl.toNat) := rcL_B hrB hv hv0 hd_.1 he_.1 _
            have L97 : ∀ (b1 : UInt64) (f1 : Int → UInt64), b1 = mxx (rcL (fun a9 c9 v9 => rcF chV w n0 a9 c9 v9 d dq) tt ss v d dq pl.toNat) (rcA (fun a9 c9 v9 => rcF chV w n0 a9 c9 v9 d dq) tt ss v d pl) → chM f1 → ∀ (H : Heap) (locs : List Loc) (ls : Array Slot), va_P G.1 vwCl [(m0, .inr (10, .int (zI j0) :: .int (zI j1) :: .int (zI j2) :: .int (zI j3) :: .int (zI j4) :: .ref y5 :: .int (zI j6) :: .int (zI j7) :: .int (zI j8) :: .int (zI j9) :: .int (zI j10) :: .ref y11 :: .ref y12 :: .int (zI j13) :: .int (zI j14) :: .int (zI j15) :: .int (zI j16) :: .int (zI j17) :: .ref y18 :: .int (zI j19) :: .int (zI j20) :: .ref y21 :: .ref y22 :: .ref y23 :: .ref y24 :: .ref y25 :: .ref y26 :: .ref y27 :: .ref y28 :: .ref y29 :: .int (zI j30) :: .int (zI j31) :: .int (zI j32) :: .int (zI j33) :: .int (zI j34) :: .int (zI j35) :: .int (zI j36) :: .int (zI j37) :: .ref y38 :: .int (zI j39) :: .ref y40 :: .int (zI j41) :: .ref y42 :: .ref y43 :: .ref y44 :: .int (zI j45) :: .int (zI j46) :: .long (zL j47) :: .ref y48 :: .int (zI j49) :: .int (zI j50) :: .int (zI j51) :: .int (zI j52) :: .ref y53 :: [])), (y38, .inl (G.2.1.2.2, 117649, .inr (.inr (.inr (.inl (aD f1))))))] H → va_D A [(m0, .inr (10, .int (zI j0) :: .int (zI j1) :: .int (zI j2) :: .int (zI j3) :: .int (zI j4) :: .ref y5 :: .int (zI j6) :: .int (zI j7) :: .int (zI j8) :: .int (zI j9) :: .int (zI j10) :: .ref y11 :: .ref y12 :: .int (zI j13) :: .int (zI j14) :: .int (zI j15) :: .int (zI j16) :: .int (zI j17) :: .ref y18 :: .int (zI j19) :: .int (zI j20) :: .ref y21 :: .ref y22 :: .ref y23 :: .ref y24 :: .ref y25 :: .ref y26 :: .ref y27 :: .ref y28 :: .ref y29 :: .int (zI j30) :: .int (zI j31) :: .int (zI j32) :: .int (zI j33) :: .int (zI j34) :: .int (zI j35) :: .int (zI j36) :: .int (zI j37) :: .ref y38 :: .int (zI j39) :: .ref y40 :: .int (zI j41) :: .ref y42 :: .ref y43 :: .ref y44 :: .int (zI j45) :: .int (zI j46) :: .long (zL j47) :: .ref y48 :: .int (zI j49) :: .int (zI j50) :: .int (zI j51) :: .int (zI j52) :: .ref y53 :: [])), (y38, .inl (G.2.1.2.2, 117649, .inr (.inr (.inr (.inl (aD f1))))))] → va_S A s.heap H locs → lv_has ls 13 [(0, .ref m0), (1, .int (zI (7 * v))), (2, .int (zI (7 * w))), (3, .int (zI d)), (4, .int (zI t)), (5, .int (zI dq)), (6, .int (zI sq)), (7, .double b1), (9, .int (zI pl))] → W p l e (rmL (12 + 9 * n + nn) 0 0) s m args below meth c H locs 0 0 Q0 (F0 m 97 ls []) := by
              intro b1 f1 hb1 hI1 H locs ls hP hD hS hl
              refine lv_iload hx hb dX10_reach_97 (lv_at hl 6 rfl) ?_
              have hb1B : dB 1 b1 := by rw [hb1]; exact mxx_B hbB (rcA_B hrB hv hv0 hd_.1)
              refine z_if_le (tgt := 113) hF dX10_reach_99 (by decide) (by omega) (fun c_4 => ?_) (fun c_4 => ?_)
              · have hc_99 := c_4
                refine z_iconst hF dX10_reach_113 ?_
                refine lv_istore (lv' := [(10, .int (zI (-1))), (0, .ref m0), (1, .int (zI (7 * v))), (2, .int (zI (7 * w))), (3, .int (zI d)), (4, .int (zI t)), (5, .int (zI dq)), (6, .int (zI sq)), (7, .double b1), (9, .int (zI pl))]) hx hb dX10_reach_114 hl (by decide) rfl (fun ls hl => ?_)
                refine lv_iload hx hb dX10_reach_116 (lv_at hl 0 rfl) ?_
                refine z_if_ge (tgt := 125) hF dX10_reach_118 (by decide) (by decide) (fun c_5 => ?_) (fun c_5 => ?_)
                · exact absurd c_5 (by decide)
                · have hc_118 := c_5
                  refine lv_dconst0 hx hb dX10_reach_121 ?_
                  refine z_goto (tgt := 141) hF dX10_reach_122 (by decide) ?_
                  refine lv_dstore (lv' := [(11, .double FP.dconst0), (10, .int (zI (-1))), (0, .ref m0), (1, .int (zI (7 * v))), (2, .int (zI (7 * w))), (3, .int (zI d)), (4, .int (zI t)), (5, .int (zI dq)), (6, .int (zI sq)), (7, .double b1), (9, .int (zI pl))]) hx hb dX10_reach_141 hl (by decide) rfl (fun ls hl => ?_)
                  refine lv_dload hx hb dX10_reach_143 (lv_at hl 0 rfl) ?_
                  refine lv_dload hx hb dX10_reach_145 (lv_at hl 9 rfl) ?_
                  refine lv_dcmp hx hb dX10_reach_147 ?_
                  refine z_top (z_dcmp hfp ((dB_0.mono (Nat.zero_le 1) (by decide)).mono (by decide) (by decide)) (hb1B.mono (by decide) (by decide))) ?_
                  have qcm := cmZ_cs (bI FP.dconst0) (bI b1)
                  refine z_if_le (tgt := 156) hF dX10_reach_148 (by decide) (by omega) (fun c_6 => ?_) (fun c_6 => ?_)
                  · have hc_148 := c_6
                    refine lv_dload hx hb dX10_reach_156 (lv_at hl 9 rfl) ?_
                    refine lv_dstore (lv' := [(7, .double b1), (11, .double FP.dconst0), (10, .int (zI (-1))), (0, .ref m0), (1, .int (zI (7 * v))), (2, .int (zI (7 * w))), (3, .int (zI d)), (4, .int (zI t)), (5, .int (zI dq)), (6, .int (zI sq)), (9, .int (zI pl))]) hx hb dX10_reach_158 hl (by decide) rfl (fun ls hl => ?_)
                    refine z_iinc (lv' := [(9, .int (zI (pl + 1))), (7, .double b1), (11, .double FP.dconst0), (10, .int (zI (-1))), (0, .ref m0), (1, .int (zI (7 * v))), (2, .int (zI (7 * w))), (3, .int (zI d)), (4, .int (zI t)), (5, .int (zI dq)), (6, .int (zI sq))]) hF dX10_reach_160 hl (k := 10) rfl (by decide) rfl (fun ls hl => ?_)
                    refine z_goto (tgt := 29) hF dX10_reach_163 (by decide) ?_
                    exact ih29 (pl + 1) b1 f1 (by omega) (by omega) (by rw [show (pl + 1).toNat = pl.toNat + 1 by omega, rcL, Int.toNat_of_nonneg hzp.1, show rcB (fun a9 c9 v9 => rcF chV w n0 a9 c9 v9 d dq) tt ss v dq pl = FP.dconst0 from rcB_0 (by omega), mxx_0]; exact hb1) hI1 H locs ls hP hD hS (lv_sub hl [4, 5, 6, 7, 8, 9, 10, 1, 0] rfl)
                  · exfalso; have h9 := bI_rg b1; have h8 := bI_0; omega
              · have hc_99 := c_4
                refine lv_iload_n hx hb dX10_reach_102 rfl (lv_at hl 1 rfl) ?_
                refine lv_iload hx hb dX10_reach_103 (lv_at hl 8 rfl) ?_
                refine lv_iload hx hb dX10_reach_105 (lv_at hl 5 rfl) ?_
                refine cj_i (va_runS (As := [.int (zI (7 * v)), .int (zI pl), .int (zI dq)]) (rest := []) hF (c_X10_behind l G v pl dq  hv (by omega) (by omega) H.size) (va_cwS 3 hF.2.2.2.2 gX10_reach_X10_behind rfl rfl rfl (by decide +kernel) ⟨by dsimp only [rmL]; omega, by dsimp only [rmL]; omega⟩) (z_preS hK hP hD hS hA hBd [] rfl rfl [.int (zI (7 * v)), .int (zI pl), .int (zI dq)]) rfl rfl hl.1 rfl (lv_room (Nat.le_of_ble_eq_true rfl)) dX10_reach_107 ⟨Nat.le_of_ble_eq_true rfl, Nat.le_of_ble_eq_true rfl⟩) hP hD hS hA [] rfl (fun _ => Nat.le_of_ble_eq_true rfl) (fun r_8 u_7 H locs hw hP hD hS => ?_)
                have hP : va_P G.1 vwCl [(m0, .inr (10, .int (zI j0) :: .int (zI j1) :: .int (zI j2) :: .int (zI j3) :: .int (zI j4) :: .ref y5 :: .int (zI j6) :: .int (zI j7) :: .int (zI j8) :: .int (zI j9) :: .int (zI j10) :: .ref y11 :: .ref y12 :: .int (zI j13) :: .int (zI j14) :: .int (zI j15) :: .int (zI j16) :: .int (zI j17) :: .ref y18 :: .int (zI j19) :: .int (zI j20) :: .ref y21 :: .ref y22 :: .ref y23 :: .ref y24 :: .ref y25 :: .ref y26 :: .ref y27 :: .ref y28 :: .ref y29 :: .int (zI j30) :: .int (zI j31) :: .int (zI j32) :: .int (zI j33) :: .int (zI j34) :: .int (zI j35) :: .int (zI j36) :: .int (zI j37) :: .ref y38 :: .int (zI j39) :: .ref y40 :: .int (zI j41) :: .ref y42 :: .ref y43 :: .ref y44 :: .int (zI j45) :: .int (zI j46) :: .long (zL j47) :: .ref y48 :: .int (zI j49) :: .int (zI j50) :: .int (zI j51) :: .int (zI j52) :: .ref y53 :: [])), (y38, .inl (G.2.1.2.2, 117649, .inr (.inr (.inr (.inl (aD f1))))))] H := hP
                have hD : va_D A [(m0, .inr (10, .int (zI j0) :: .int (zI j1) :: .int (zI j2) :: .int (zI j3) :: .int (zI j4) :: .ref y5 :: .int (zI j6) :: .int (zI j7) :: .int (zI j8) :: .int (zI j9) :: .int (zI j10) :: .ref y11 :: .ref y12 :: .int (zI j13) :: .int (zI j14) :: .int (zI j15) :: .int (zI j16) :: .int (zI j17) :: .ref y18 :: .int (zI j19) :: .int (zI j20) :: .ref y21 :: .ref y22 :: .ref y23 :: .ref y24 :: .ref y25 :: .ref y26 :: .ref y27 :: .ref y28 :: .ref y29 :: .int (zI j30) :: .int (zI j31) :: .int (zI j32) :: .int (zI j33) :: .int (zI j34) :: .int (zI j35) :: .int (zI j36) :: .int (zI j37) :: .ref y38 :: .int (zI j39) :: .ref y40 :: .int (zI j41) :: .ref y42 :: .ref y43 :: .ref y44 :: .int (zI j45) :: .int (zI j46) :: .long (zL j47) :: .ref y48 :: .int (zI j49) :: .int (zI j50) :: .int (zI j51) :: .int (zI j52) :: .ref y53 :: [])), (y38, .inl (G.2.1.2.2, 117649, .inr (.inr (.inr (.inl (aD f1))))))] := hD
                obtain rfl := hw
                refine z_goto (tgt := 114) hF dX10_reach_110 (by decide) ?_
                refine lv_istore (lv' := [(10, .int (zI (bhV v pl dq))), (0, .ref m0), (1, .int (zI (7 * v))), (2, .int (zI (7 * w))), (3, .int (zI d)), (4, .int (zI t)), (5, .int (zI dq)), (6, .int (zI sq)), (7, .double b1), (9, .int (zI pl))]) hx hb dX10_reach_114 hl (by decide) rfl (fun ls hl => ?_)
                refine lv_iload hx hb dX10_reach_116 (lv_at hl 0 rfl) ?_
                refine z_if_ge (tgt := 125) hF dX10_reach_118 (by decide) (by have h9 := bhV_rg (pl := pl) (d := dq) hv (by omega); omega) (fun c_9 => ?_) (fun c_9 => ?_)
                · have hc_118 := c_9
                  have hbp := bhV_ok (pl := pl) hv hv0 he_.1 (by omega)
                  have hcC := hrB tt (ss - 1) _ hbp.2.1
                  refine lv_aload_n hx hb dX10_reach_125 rfl (lv_at hl 1 rfl) ?_
                  refine lv_iload hx hb dX10_reach_126 (lv_at hl 0 rfl) ?_
                  refine z_tz (b := (7 * (bhV v pl dq / 7))) hbp.1 ?_
                  refine lv_iload_n hx hb dX10_reach_128 rfl (lv_at hl 3 rfl) ?_
                  refine lv_iload_n hx hb dX10_reach_129 rfl (lv_at hl 4 rfl) ?_
                  refine lv_iload hx hb dX10_reach_130 (lv_at hl 5 rfl) ?_
                  refine lv_iload hx hb dX10_reach_132 (lv_at hl 6 rfl) ?_
                  refine lv_iload hx hb dX10_reach_134 (lv_at hl 7 rfl) ?_
                  refine z_iconst hF dX10_reach_136 ?_
                  refine z_isub hF dX10_reach_137 ?_
                  refine cj_d (va_runV (As := [.int (zI (7 * (bhV v pl dq / 7))), .int (zI (7 * w)), .int (zI d), .int (zI t), .int (zI dq), .int (zI (sq - 1))]) (rest := []) hF (IH n0 tt (ss - 1) hn0 m0 y5 y11 y12 y18 y21 y22 y23 y24 y25 y26 y27 y28 y29 y38 y40 y42 y43 y44 y48 y53 j0 j1 j2 j3 j4 j6 j7 j8 j9 j10 j13 j14 j15 j16 j17 j19 j20 j30 j31 j32 j33 j34 j35 j36 j37 j39 j41 j45 j46 j47 j49 j50 j51 j52 f1 (bhV v pl dq / 7) w d t dq (sq - 1) (j + 1) hbp.2.1 hw hw0 hd_ he_ (by omega) (by omega) (by omega) hI1 H.size) (cwV 6 hF.2.2.2.2 gX10_reach_X10_reach rfl rfl rfl (by decide +kernel) ⟨by dsimp only [rmL]; omega, by dsimp only [rmL]; omega⟩) (z_preV hK hP hD hS hA hBd [0, 1] rfl rfl rfl rfl [.int (zI (7 * (bhV v pl dq / 7))), .int (zI (7 * w)), .int (zI d), .int (zI t), .int (zI dq), .int (zI (sq - 1))]) rfl rfl hl.1 rfl (lv_room (Nat.le_of_ble_eq_true rfl)) dX10_reach_138 ⟨Nat.le_of_ble_eq_true rfl, Nat.le_of_ble_eq_true rfl⟩) hP hD hS hA [0, 1] rfl (fun _ => Nat.le_of_ble_eq_true rfl) (fun r_11 u_10 H locs hw hP hD hS => ?_)
                  have hP : va_P G.1 vwCl [(m0, .inr (10, .int (zI j0) :: .int (zI j1) :: .int (zI j2) :: .int (zI j3) :: .int (zI j4) :: .ref y5 :: .int (zI j6) :: .int (zI j7) :: .int (zI j8) :: .int (zI j9) :: .int (zI j10) :: .ref y11 :: .ref y12 :: .int (zI j13) :: .int (zI j14) :: .int (zI j15) :: .int (zI j16) :: .int (zI j17) :: .ref y18 :: .int (zI j19) :: .int (zI j20) :: .ref y21 :: .ref y22 :: .ref y23 :: .ref y24 :: .ref y25 :: .ref y26 :: .ref y27 :: .ref y28 :: .ref y29 :: .int (zI j30) :: .int (zI j31) :: .int (zI j32) :: .int (zI j33) :: .int (zI j34) :: .int (zI j35) :: .int (zI j36) :: .int (zI j37) :: .ref y38 :: .int (zI j39) :: .ref y40 :: .int (zI j41) :: .ref y42 :: .ref y43 :: .ref y44 :: .int (zI j45) :: .int (zI j46) :: .long (zL j47) :: .ref y48 :: .int (zI j49) :: .int (zI j50) :: .int (zI j51) :: .int (zI j52) :: .ref y53 :: [])), (y38, .inl (G.2.1.2.2, 117649, .inr (.inr (.inr (.inl (aD u_10))))))] H := hP
                  have hD : va_D A [(m0, .inr (10, .int (zI j0) :: .int (zI j1) :: .int (zI j2) :: .int (zI j3) :: .int (zI j4) :: .ref y5 :: .int (zI j6) :: .int (zI j7) :: .int (zI j8) :: .int (zI j9) :: .int (zI j10) :: .ref y11 :: .ref y12 :: .int (zI j13) :: .int (zI j14) :: .int (zI j15) :: .int (zI j16) :: .int (zI j17) :: .ref y18 :: .int (zI j19) :: .int (zI j20) :: .ref y21 :: .ref y22 :: .ref y23 :: .ref y24 :: .ref y25 :: .ref y26 :: .ref y27 :: .ref y28 :: .ref y29 :: .int (zI j30) :: .int (zI j31) :: .int (zI j32) :: .int (zI j33) :: .int (zI j34) :: .int (zI j35) :: .int (zI j36) :: .int (zI j37) :: .ref y38 :: .int (zI j39) :: .ref y40 :: .int (zI j41) :: .ref y42 :: .ref y43 :: .ref y44 :: .int (zI j45) :: .int (zI j46) :: .long (zL j47) :: .ref y48 :: .int (zI j49) :: .int (zI j50) :: .int (zI j51) :: .int (zI j52) :: .ref y53 :: [])), (y38, .inl (G.2.1.2.2, 117649, .inr (.inr (.inr (.inl (aD u_10))))))] := hD
                  obtain ⟨h_12, rfl⟩ := hw
                  have hS2 := h_12
                  have hBr : rcB (fun a9 c9 v9 => rcF chV w n0 a9 c9 v9 d dq) tt ss v dq pl = rcF chV w n0 tt (ss - 1) (bhV v pl dq / 7) d dq := rcB_r (by omega) (by omega)
                  refine lv_dstore (lv' := [(11, .double (rcF chV w n0 tt (ss - 1) (bhV v pl dq / 7) d dq)), (10, .int (zI (bhV v pl dq))), (0, .ref m0), (1, .int (zI (7 * v))), (2, .int (zI (7 * w))), (3, .int (zI d)), (4, .int (zI t)), (5, .int (zI dq)), (6, .int (zI sq)), (7, .double b1), (9, .int (zI pl))]) hx hb dX10_reach_141 hl (by decide) rfl (fun ls hl => ?_)
                  refine lv_dload hx hb dX10_reach_143 (lv_at hl 0 rfl) ?_
                  refine lv_dload hx hb dX10_reach_145 (lv_at hl 9 rfl) ?_
                  refine lv_dcmp hx hb dX10_reach_147 ?_
                  refine z_top (z_dcmp hfp (hcC.mono (by decide) (by decide)) (hb1B.mono (by decide) (by decide))) ?_
                  have qcm := cmZ_cs (bI (rcF chV w n0 tt (ss - 1) (bhV v pl dq / 7) d dq)) (bI b1)
                  refine z_if_le (tgt := 156) hF dX10_reach_148 (by decide) (by omega) (fun c_13 => ?_) (fun c_13 => ?_)
                  · have hc_148 := c_13
                    refine lv_dload hx hb dX10_reach_156 (lv_at hl 9 rfl) ?_
                    refine lv_dstore (lv' := [(7, .double b1), (11, .double (rcF chV w n0 tt (ss - 1) (bhV v pl dq / 7) d dq)), (10, .int (zI (bhV v pl dq))), (0, .ref m0), (1, .int (zI (7 * v))), (2, .int (zI (7 * w))), (3, .int (zI d)), (4, .int (zI t)), (5, .int (zI dq)), (6, .int (zI sq)), (9, .int (zI pl))]) hx hb dX10_reach_158 hl (by decide) rfl (fun ls hl => ?_)
                    refine z_iinc (lv' := [(9, .int (zI (pl + 1))), (7, .double b1), (11, .double (rcF chV w n0 tt (ss - 1) (bhV v pl dq / 7) d dq)), (10, .int (zI (bhV v pl dq))), (0, .ref m0), (1, .int (zI (7 * v))), (2, .int (zI (7 * w))), (3, .int (zI d)), (4, .int (zI t)), (5, .int (zI dq)), (6, .int (zI sq))]) hF dX10_reach_160 hl (k := 10) rfl (by decide) rfl (fun ls hl => ?_)
                    refine z_goto (tgt := 29) hF dX10_reach_163 (by decide) ?_
                    exact ih29 (pl + 1) b1 u_10 (by omega) (by omega) (by rw [show (pl + 1).toNat = pl.toNat + 1 by omega, rcL, Int.toNat_of_nonneg hzp.1, hBr, ← hb1]; unfold mxx; rw [if_neg (by omega)]) hS2 H locs ls hP hD hS (lv_sub hl [4, 5, 6, 7, 8, 9, 10, 1, 0] rfl)
                  · have hc_148 := c_13
                    refine lv_dload hx hb dX10_reach_151 (lv_at hl 0 rfl) ?_
                    refine z_goto (tgt := 158) hF dX10_reach_153 (by decide) ?_
                    refine lv_dstore (lv' := [(7, .double (rcF chV w n0 tt (ss - 1) (bhV v pl dq / 7) d dq)), (11, .double (rcF chV w n0 tt (ss - 1) (bhV v pl dq / 7) d dq)), (10, .int (zI (bhV v pl dq))), (0, .ref m0), (1, .int (zI (7 * v))), (2, .int (zI (7 * w))), (3, .int (zI d)), (4, .int (zI t)), (5, .int (zI dq)), (6, .int (zI sq)), (9, .int (zI pl))]) hx hb dX10_reach_158 hl (by decide) rfl (fun ls hl => ?_)
                    refine z_iinc (lv' := [(9, .int (zI (pl + 1))), (7, .double (rcF chV w n0 tt (ss - 1) (bhV v pl dq / 7) d dq)), (11, .double (rcF chV w n0 tt (ss - 1) (bhV v pl dq / 7) d dq)), (10, .int (zI (bhV v pl dq))), (0, .ref m0), (1, .int (zI (7 * v))), (2, .int (zI (7 * w))), (3, .int (zI d)), (4, .int (zI t)), (5, .int (zI dq)), (6, .int (zI sq))]) hF dX10_reach_160 hl (k := 10) rfl (by decide) rfl (fun ls hl => ?_)
                    refine z_goto (tgt := 29) hF dX10_reach_163 (by decide) ?_
                    exact ih29 (pl + 1) (rcF chV w n0 tt (ss - 1) (bhV v pl dq / 7) d dq) u_10 (by omega) (by omega) (by rw [show (pl + 1).toNat = pl.toNat + 1 by omega, rcL, Int.toNat_of_nonneg hzp.1, hBr, ← hb1]; unfold mxx; rw [if_pos (by omega)]) hS2 H locs ls hP hD hS (lv_sub hl [4, 5, 6, 7, 8, 9, 10, 1, 0] rfl)
                · have hc_118 := c_9
                  refine lv_dconst0 hx hb dX10_reach_121 ?_
                  refine z_goto (tgt := 141) hF dX10_reach_122 (by decide) ?_
                  refine lv_dstore (lv' := [(11, .double FP.dconst0), (10, .int (zI (bhV v pl dq))), (0, .ref m0), (1, .int (zI (7 * v))), (2, .int (zI (7 * w))), (3, .int (zI d)), (4, .int (zI t)), (5, .int (zI dq)), (6, .int (zI sq)), (7, .double b1), (9, .int (zI pl))]) hx hb dX10_reach_141 hl (by decide) rfl (fun ls hl => ?_)
                  refine lv_dload hx hb dX10_reach_143 (lv_at hl 0 rfl) ?_
                  refine lv_dload hx hb dX10_reach_145 (lv_at hl 9 rfl) ?_
                  refine lv_dcmp hx hb dX10_reach_147 ?_
                  refine z_top (z_dcmp hfp ((dB_0.mono (Nat.zero_le 1) (by decide)).mono (by decide) (by decide)) (hb1B.mono (by decide) (by decide))) ?_
                  have qcm := cmZ_cs (bI FP.dconst0) (bI b1)
                  refine z_if_le (tgt := 156) hF dX10_reach_148 (by decide) (by omega) (fun c_14 => ?_) (fun c_14 => ?_)
                  · have hc_148 := c_14
                    refine lv_dload hx hb dX10_reach_156 (lv_at hl 9 rfl) ?_
                    refine lv_dstore (lv' := [(7, .double b1), (11, .double FP.dconst0), (10, .int (zI (bhV v pl dq))), (0, .ref m0), (1, .int (zI (7 * v))), (2, .int (zI (7 * w))), (3, .int (zI d)), (4, .int (zI t)), (5, .int (zI dq)), (6, .int (zI sq)), (9, .int (zI pl))]) hx hb dX10_reach_158 hl (by decide) rfl (fun ls hl => ?_)
                    refine z_iinc (lv' := [(9, .int (zI (pl + 1))), (7, .double b1), (11, .double FP.dconst0), (10, .int (zI (bhV v pl dq))), (0, .ref m0), (1, .int (zI (7 * v))), (2, .int (zI (7 * w))), (3, .int (zI d)), (4, .int (zI t)), (5, .int (zI dq)), (6, .int (zI sq))]) hF dX10_reach_160 hl (k := 10) rfl (by decide) rfl (fun ls hl => ?_)
                    refine z_goto (tgt := 29) hF dX10_reach_163 (by decide) ?_
                    exact ih29 (pl + 1) b1 f1 (by omega) (by omega) (by rw [show (pl + 1).toNat = pl.toNat + 1 by omega, rcL, Int.toNat_of_nonneg hzp.1, show rcB (fun a9 c9 v9 => rcF chV w n0 a9 c9 v9 d dq) tt ss v dq pl = FP.dconst0 from rcB_0 (by omega), mxx_0]; exact hb1) hI1 H locs ls hP hD hS (lv_sub hl [4, 5, 6, 7, 8, 9, 10, 1, 0] rfl)
                  · exfalso; have h9 := bI_rg b1; have h8 := bI_0; omega
            refine lv_iload hx hb dX10_reach_35 (lv_at hl 4 rfl) ?_
            refine z_if_le (tgt := 50) hF dX10_reach_37 (by decide) (by omega) (fun c_15 => ?_) (fun c_15 => ?_)
            · have hc_37 := c_15
              refine z_iconst hF dX10_reach_50 ?_
              refine lv_istore (lv' := [(10, .int (zI (-1))), (0, .ref m0), (1, .int (zI (7 * v))), (2, .int (zI (7 * w))), (3, .int (zI d)), (4, .int (zI t)), (5, .int (zI dq)), (6, .int (zI sq)), (7, .double bs9), (9, .int (zI pl))]) hx hb dX10_reach_51 hl (by decide) rfl (fun ls hl => ?_)
              refine lv_iload hx hb dX10_reach_53 (lv_at hl 0 rfl) ?_
              refine z_if_ge (tgt := 62) hF dX10_reach_55 (by decide) (by decide) (fun c_16 => ?_) (fun c_16 => ?_)
              · exact absurd c_16 (by decide)
              · have hc_55 := c_16
                refine lv_dconst0 hx hb dX10_reach_58 ?_
                refine z_goto (tgt := 78) hF dX10_reach_59 (by decide) ?_
                refine lv_dstore (lv' := [(11, .double FP.dconst0), (10, .int (zI (-1))), (0, .ref m0), (1, .int (zI (7 * v))), (2, .int (zI (7 * w))), (3, .int (zI d)), (4, .int (zI t)), (5, .int (zI dq)), (6, .int (zI sq)), (7, .double bs9), (9, .int (zI pl))]) hx hb dX10_reach_78 hl (by decide) rfl (fun ls hl => ?_)
                refine lv_dload hx hb dX10_reach_80 (lv_at hl 0 rfl) ?_
                refine lv_dload hx hb dX10_reach_82 (lv_at hl 9 rfl) ?_
                refine lv_dcmp hx hb dX10_reach_84 ?_
                refine z_top (z_dcmp hfp ((dB_0.mono (Nat.zero_le 1) (by decide)).mono (by decide) (by decide)) ((hbs ▸ hbB : dB 1 bs9).mono (by decide) (by decide))) ?_
                have qcm := cmZ_cs (bI FP.dconst0) (bI bs9)
                refine z_if_le (tgt := 93) hF dX10_reach_85 (by decide) (by omega) (fun c_17 => ?_) (fun c_17 => ?_)
                · have hc_85 := c_17
                  refine lv_dload hx hb dX10_reach_93 (lv_at hl 9 rfl) ?_
                  refine lv_dstore (lv' := [(7, .double bs9), (11, .double FP.dconst0), (10, .int (zI (-1))), (0, .ref m0), (1, .int (zI (7 * v))), (2, .int (zI (7 * w))), (3, .int (zI d)), (4, .int (zI t)), (5, .int (zI dq)), (6, .int (zI sq)), (9, .int (zI pl))]) hx hb dX10_reach_95 hl (by decide) rfl (fun ls hl => ?_)
                  exact L97 bs9 f0 (by rw [show rcA (fun a9 c9 v9 => rcF chV w n0 a9 c9 v9 d dq) tt ss v d pl = FP.dconst0 from rcA_0 (by omega), mxx_0]; exact hbs) hI0 H locs ls hP hD hS (lv_sub hl [3, 4, 5, 6, 7, 8, 9, 0, 10] rfl)
                · exfalso; have h9 := bI_rg bs9; have h8 := bI_0; omega
            · have hc_37 := c_15
              refine lv_iload_n hx hb dX10_reach_40 rfl (lv_at hl 1 rfl) ?_
              refine lv_iload hx hb dX10_reach_41 (lv_at hl 8 rfl) ?_
              refine lv_iload_n hx hb dX10_reach_43 rfl (lv_at hl 3 rfl) ?_
              refine cj_i (va_runS (As := [.int (zI (7 * v)), .int (zI pl), .int (zI d)]) (rest := []) hF (c_X10_behind l G v pl d  hv (by omega) (by omega) H.size) (va_cwS 3 hF.2.2.2.2 gX10_reach_X10_behind rfl rfl rfl (by decide +kernel) ⟨by dsimp only [rmL]; omega, by dsimp only [rmL]; omega⟩) (z_preS hK hP hD hS hA hBd [] rfl rfl [.int (zI (7 * v)), .int (zI pl), .int (zI d)]) rfl rfl hl.1 rfl (lv_room (Nat.le_of_ble_eq_true rfl)) dX10_reach_44 ⟨Nat.le_of_ble_eq_true rfl, Nat.le_of_ble_eq_true rfl⟩) hP hD hS hA [] rfl (fun _ => Nat.le_of_ble_eq_true rfl) (fun r_19 u_18 H locs hw hP hD hS => ?_)
              have hP : va_P G.1 vwCl [(m0, .inr (10, .int (zI j0) :: .int (zI j1) :: .int (zI j2) :: .int (zI j3) :: .int (zI j4) :: .ref y5 :: .int (zI j6) :: .int (zI j7) :: .int (zI j8) :: .int (zI j9) :: .int (zI j10) :: .ref y11 :: .ref y12 :: .int (zI j13) :: .int (zI j14) :: .int (zI j15) :: .int (zI j16) :: .int (zI j17) :: .ref y18 :: .int (zI j19) :: .int (zI j20) :: .ref y21 :: .ref y22 :: .ref y23 :: .ref y24 :: .ref y25 :: .ref y26 :: .ref y27 :: .ref y28 :: .ref y29 :: .int (zI j30) :: .int (zI j31) :: .int (zI j32) :: .int (zI j33) :: .int (zI j34) :: .int (zI j35) :: .int (zI j36) :: .int (zI j37) :: .ref y38 :: .int (zI j39) :: .ref y40 :: .int (zI j41) :: .ref y42 :: .ref y43 :: .ref y44 :: .int (zI j45) :: .int (zI j46) :: .long (zL j47) :: .ref y48 :: .int (zI j49) :: .int (zI j50) :: .int (zI j51) :: .int (zI j52) :: .ref y53 :: [])), (y38, .inl (G.2.1.2.2, 117649, .inr (.inr (.inr (.inl (aD f0))))))] H := hP
              have hD : va_D A [(m0, .inr (10, .int (zI j0) :: .int (zI j1) :: .int (zI j2) :: .int (zI j3) :: .int (zI j4) :: .ref y5 :: .int (zI j6) :: .int (zI j7) :: .int (zI j8) :: .int (zI j9) :: .int (zI j10) :: .ref y11 :: .ref y12 :: .int (zI j13) :: .int (zI j14) :: .int (zI j15) :: .int (zI j16) :: .int (zI j17) :: .ref y18 :: .int (zI j19) :: .int (zI j20) :: .ref y21 :: .ref y22 :: .ref y23 :: .ref y24 :: .ref y25 :: .ref y26 :: .ref y27 :: .ref y28 :: .ref y29 :: .int (zI j30) :: .int (zI j31) :: .int (zI j32) :: .int (zI j33) :: .int (zI j34) :: .int (zI j35) :: .int (zI j36) :: .int (zI j37) :: .ref y38 :: .int (zI j39) :: .ref y40 :: .int (zI j41) :: .ref y42 :: .ref y43 :: .ref y44 :: .int (zI j45) :: .int (zI j46) :: .long (zL j47) :: .ref y48 :: .int (zI j49) :: .int (zI j50) :: .int (zI j51) :: .int (zI j52) :: .ref y53 :: [])), (y38, .inl (G.2.1.2.2, 117649, .inr (.inr (.inr (.inl (aD f0))))))] := hD
              obtain rfl := hw
              refine z_goto (tgt := 51) hF dX10_reach_47 (by decide) ?_
              refine lv_istore (lv' := [(10, .int (zI (bhV v pl d))), (0, .ref m0), (1, .int (zI (7 * v))), (2, .int (zI (7 * w))), (3, .int (zI d)), (4, .int (zI t)), (5, .int (zI dq)), (6, .int (zI sq)), (7, .double bs9), (9, .int (zI pl))]) hx hb dX10_reach_51 hl (by decide) rfl (fun ls hl => ?_)
              refine lv_iload hx hb dX10_reach_53 (lv_at hl 0 rfl) ?_
              refine z_if_ge (tgt := 62) hF dX10_reach_55 (by decide) (by have h9 := bhV_rg (pl := pl) (d := d) hv (by omega); omega) (fun c_20 => ?_) (fun c_20 => ?_)
              · have hc_55 := c_20
                have hbo := bhV_ok (pl := pl) hv hv0 hd_.1 (by omega)
                have hcB := hrB (tt - 1) ss _ hbo.2.1
                refine lv_aload_n hx hb dX10_reach_62 rfl (lv_at hl 1 rfl) ?_
                refine lv_iload hx hb dX10_reach_63 (lv_at hl 0 rfl) ?_
                refine z_tz (b := (7 * (bhV v pl d / 7))) hbo.1 ?_
                refine lv_iload_n hx hb dX10_reach_65 rfl (lv_at hl 3 rfl) ?_
                refine lv_iload_n hx hb dX10_reach_66 rfl (lv_at hl 4 rfl) ?_
                refine lv_iload hx hb dX10_reach_67 (lv_at hl 5 rfl) ?_
                refine z_iconst hF dX10_reach_69 ?_
                refine z_isub hF dX10_reach_70 ?_
                refine lv_iload hx hb dX10_reach_71 (lv_at hl 6 rfl) ?_
                refine lv_iload hx hb dX10_reach_73 (lv_at hl 7 rfl) ?_
                refine cj_d (va_runV (As := [.int (zI (7 * (bhV v pl d / 7))), .int (zI (7 * w)), .int (zI d), .int (zI (t - 1)), .int (zI dq), .int (zI sq)]) (rest := []) hF (IH n0 (tt - 1) ss hn0 m0 y5 y11 y12 y18 y21 y22 y23 y24 y25 y26 y27 y28 y29 y38 y40 y42 y43 y44 y48 y53 j0 j1 j2 j3 j4 j6 j7 j8 j9 j10 j13 j14 j15 j16 j17 j19 j20 j30 j31 j32 j33 j34 j35 j36 j37 j39 j41 j45 j46 j47 j49 j50 j51 j52 f0 (bhV v pl d / 7) w d (t - 1) dq sq (j + 1) hbo.2.1 hw hw0 hd_ he_ (by omega) (by omega) (by omega) hI0 H.size) (cwV 6 hF.2.2.2.2 gX10_reach_X10_reach rfl rfl rfl (by decide +kernel) ⟨by dsimp only [rmL]; omega, by dsimp only [rmL]; omega⟩) (z_preV hK hP hD hS hA hBd [0, 1] rfl rfl rfl rfl [.int (zI (7 * (bhV v pl d / 7))), .int (zI (7 * w)), .int (zI d), .int (zI (t - 1)), .int (zI dq), .int (zI sq)]) rfl rfl hl.1 rfl (lv_room (Nat.le_of_ble_eq_true rfl)) dX10_reach_75 ⟨Nat.le_of_ble_eq_true rfl, Nat.le_of_ble_eq_true rfl⟩) hP hD hS hA [0, 1] rfl (fun _ => Nat.le_of_ble_eq_true rfl) (fun r_22 u_21 H locs hw hP hD hS => ?_)
                have hP : va_P G.1 vwCl [(m0, .inr (10, .int (zI j0) :: .int (zI j1) :: .int (zI j2) :: .int (zI j3) :: .int (zI j4) :: .ref y5 :: .int (zI j6) :: .int (zI j7) :: .int (zI j8) :: .int (zI j9) :: .int (zI j10) :: .ref y11 :: .ref y12 :: .int (zI j13) :: .int (zI j14) :: .int (zI j15) :: .int (zI j16) :: .int (zI j17) :: .ref y18 :: .int (zI j19) :: .int (zI j20) :: .ref y21 :: .ref y22 :: .ref y23 :: .ref y24 :: .ref y25 :: .ref y26 :: .ref y27 :: .ref y28 :: .ref y29 :: .int (zI j30) :: .int (zI j31) :: .int (zI j32) :: .int (zI j33) :: .int (zI j34) :: .int (zI j35) :: .int (zI j36) :: .int (zI j37) :: .ref y38 :: .int (zI j39) :: .ref y40 :: .int (zI j41) :: .ref y42 :: .ref y43 :: .ref y44 :: .int (zI j45) :: .int (zI j46) :: .long (zL j47) :: .ref y48 :: .int (zI j49) :: .int (zI j50) :: .int (zI j51) :: .int (zI j52) :: .ref y53 :: [])), (y38, .inl (G.2.1.2.2, 117649, .inr (.inr (.inr (.inl (aD u_21))))))] H := hP
                have hD : va_D A [(m0, .inr (10, .int (zI j0) :: .int (zI j1) :: .int (zI j2) :: .int (zI j3) :: .int (zI j4) :: .ref y5 :: .int (zI j6) :: .int (zI j7) :: .int (zI j8) :: .int (zI j9) :: .int (zI j10) :: .ref y11 :: .ref y12 :: .int (zI j13) :: .int (zI j14) :: .int (zI j15) :: .int (zI j16) :: .int (zI j17) :: .ref y18 :: .int (zI j19) :: .int (zI j20) :: .ref y21 :: .ref y22 :: .ref y23 :: .ref y24 :: .ref y25 :: .ref y26 :: .ref y27 :: .ref y28 :: .ref y29 :: .int (zI j30) :: .int (zI j31) :: .int (zI j32) :: .int (zI j33) :: .int (zI j34) :: .int (zI j35) :: .int (zI j36) :: .int (zI j37) :: .ref y38 :: .int (zI j39) :: .ref y40 :: .int (zI j41) :: .ref y42 :: .ref y43 :: .ref y44 :: .int (zI j45) :: .int (zI j46) :: .long (zL j47) :: .ref y48 :: .int (zI j49) :: .int (zI j50) :: .int (zI j51) :: .int (zI j52) :: .ref y53 :: [])), (y38, .inl (G.2.1.2.2, 117649, .inr (.inr (.inr (.inl (aD u_21))))))] := hD
                obtain ⟨h_23, rfl⟩ := hw
                have hS1 := h_23
                have hAr : rcA (fun a9 c9 v9 => rcF chV w n0 a9 c9 v9 d dq) tt ss v d pl = rcF chV w n0 (tt - 1) ss (bhV v pl d / 7) d dq := rcA_r (by omega) (by omega)
                refine lv_dstore (lv' := [(11, .double (rcF chV w n0 (tt - 1) ss (bhV v pl d / 7) d dq)), (10, .int (zI (bhV v pl d))), (0, .ref m0), (1, .int (zI (7 * v))), (2, .int (zI (7 * w))), (3, .int (zI d)), (4, .int (zI t)), (5, .int (zI dq)), (6, .int (zI sq)), (7, .double bs9), (9, .int (zI pl))]) hx hb dX10_reach_78 hl (by decide) rfl (fun ls hl => ?_)
                refine lv_dload hx hb dX10_reach_80 (lv_at hl 0 rfl) ?_
                refine lv_dload hx hb dX10_reach_82 (lv_at hl 9 rfl) ?_
                refine lv_dcmp hx hb dX10_reach_84 ?_
                refine z_top (z_dcmp hfp (hcB.mono (by decide) (by decide)) ((hbs ▸ hbB : dB 1 bs9).mono (by decide) (by decide))) ?_
                have qcm := cmZ_cs (bI (rcF chV w n0 (tt - 1) ss (bhV v pl d / 7) d dq)) (bI bs9)
                refine z_if_le (tgt := 93) hF dX10_reach_85 (by decide) (by omega) (fun c_24 => ?_) (fun c_24 => ?_)
                · have hc_85 := c_24
                  refine lv_dload hx hb dX10_reach_93 (lv_at hl 9 rfl) ?_
                  refine lv_dstore (lv' := [(7, .double bs9), (11, .double (rcF chV w n0 (tt - 1) ss (bhV v pl d / 7) d dq)), (10, .int (zI (bhV v pl d))), (0, .ref m0), (1, .int (zI (7 * v))), (2, .int (zI (7 * w))), (3, .int (zI d)), (4, .int (zI t)), (5, .int (zI dq)), (6, .int (zI sq)), (9, .int (zI pl))]) hx hb dX10_reach_95 hl (by decide) rfl (fun ls hl => ?_)
                  exact L97 bs9 u_21 (by rw [hAr, ← hbs]; unfold mxx; rw [if_neg (by omega)]) hS1 H locs ls hP hD hS (lv_sub hl [3, 4, 5, 6, 7, 8, 9, 0, 10] rfl)
                · have hc_85 := c_24
                  refine lv_dload hx hb dX10_reach_88 (lv_at hl 0 rfl) ?_
                  refine z_goto (tgt := 95) hF dX10_reach_90 (by decide) ?_
                  refine lv_dstore (lv' := [(7, .double (rcF chV w n0 (tt - 1) ss (bhV v pl d / 7) d dq)), (11, .double (rcF chV w n0 (tt - 1) ss (bhV v pl d / 7) d dq)), (10, .int (zI (bhV v pl d))), (0, .ref m0), (1, .int (zI (7 * v))), (2, .int (zI (7 * w))), (3, .int (zI d)), (4, .int (zI t)), (5, .int (zI dq)), (6, .int (zI sq)), (9, .int (zI pl))]) hx hb dX10_reach_95 hl (by decide) rfl (fun ls hl => ?_)
                  exact L97 (rcF chV w n0 (tt - 1) ss (bhV v pl d / 7) d dq) u_21 (by rw [hAr]; unfold mxx; rw [← hbs, if_pos (by omega)]) hS1 H locs ls hP hD hS (lv_sub hl [3, 4, 5, 6, 7, 8, 9, 0, 10] rfl)
              · have hc_55 := c_20
                refine lv_dconst0 hx hb dX10_reach_58 ?_
                refine z_goto (tgt := 78) hF dX10_reach_59 (by decide) ?_
                refine lv_dstore (lv' := [(11, .double FP.dconst0), (10, .int (zI (bhV v pl d))), (0, .ref m0), (1, .int (zI (7 * v))), (2, .int (zI (7 * w))), (3, .int (zI d)), (4, .int (zI t)), (5, .int (zI dq)), (6, .int (zI sq)), (7, .double bs9), (9, .int (zI pl))]) hx hb dX10_reach_78 hl (by decide) rfl (fun ls hl => ?_)
                refine lv_dload hx hb dX10_reach_80 (lv_at hl 0 rfl) ?_
                refine lv_dload hx hb dX10_reach_82 (lv_at hl 9 rfl) ?_
                refine lv_dcmp hx hb dX10_reach_84 ?_
                refine z_top (z_dcmp hfp ((dB_0.mono (Nat.zero_le 1) (by decide)).mono (by decide) (by decide)) ((hbs ▸ hbB : dB 1 bs9).mono (by decide) (by decide))) ?_
                have qcm := cmZ_cs (bI FP.dconst0) (bI bs9)
                refine z_if_le (tgt := 93) hF dX10_reach_85 (by decide) (by omega) (fun c_25 => ?_) (fun c_25 => ?_)
                · have hc_85 := c_25
                  refine lv_dload hx hb dX10_reach_93 (lv_at hl 9 rfl) ?_
                  refine lv_dstore (lv' := [(7, .double bs9), (11, .double FP.dconst0), (10, .int (zI (bhV v pl d))), (0, .ref m0), (1, .int (zI (7 * v))), (2, .int (zI (7 * w))), (3, .int (zI d)), (4, .int (zI t)), (5, .int (zI dq)), (6, .int (zI sq)), (9, .int (zI pl))]) hx hb dX10_reach_95 hl (by decide) rfl (fun ls hl => ?_)
                  exact L97 bs9 f0 (by rw [show rcA (fun a9 c9 v9 => rcF chV w n0 a9 c9 v9 d dq) tt ss v d pl = FP.dconst0 from rcA_0 (by omega), mxx_0]; exact hbs) hI0 H locs ls hP hD hS (lv_sub hl [3, 4, 5, 6, 7, 8, 9, 0, 10] rfl)
                · exfalso; have h9 := bI_rg bs9; have h8 := bI_0; omega
      exact L29 _ 0 FP.dconst0 w38 (Nat.lt_succ_self _) (by omega) rfl hcI H locs ls hP hD hS (lv_sub hl [2, 3, 4, 5, 6, 7, 8, 1, 0] rfl)
    · have hc_11 := c_2
      have hn0 : nn = 0 := by omega
      have hE9 : rcF chV w 0 tt ss v d dq = FP.dsub FP.dconst1 (chV w v) := by rw [rcF, if_neg hv0]
      have hB9 : dB 1 (FP.dsub FP.dconst1 (chV w v)) := hfp.2.2.1 _ (chV_D hfp hw hw0 hv hv0)
      refine lv_dconst1 hx hb dX10_reach_14 ?_
      refine lv_aload_n hx hb dX10_reach_15 rfl (lv_at hl 0 rfl) ?_
      refine lv_iload_n hx hb dX10_reach_16 rfl (lv_at hl 2 rfl) ?_
      refine lv_iload_n hx hb dX10_reach_17 rfl (lv_at hl 1 rfl) ?_
      refine cj_d (va_runV (As := [.int (zI (7 * w)), .int (zI (7 * v))]) (rest := [.double FP.dconst1]) hF (CHH ((pip v + pip w).toNat) (by omega) m0 y5 y11 y12 y18 y21 y22 y23 y24 y25 y26 y27 y28 y29 y38 y40 y42 y43 y44 y48 y53 j0 j1 j2 j3 j4 j6 j7 j8 j9 j10 j13 j14 j15 j16 j17 j19 j20 j30 j31 j32 j33 j34 j35 j36 j37 j39 j41 j45 j46 j47 j49 j50 j51 j52 w38 w v hw hv hw0 hv0 (by omega) hcI H.size) (cwV 2 hF.2.2.2.2 gX10_reach_X10_chance rfl rfl rfl (by decide +kernel) ⟨by dsimp only [rmL]; omega, by dsimp only [rmL]; omega⟩) (z_preV hK hP hD hS hA hBd [0, 1] rfl rfl rfl rfl [.int (zI (7 * w)), .int (zI (7 * v))]) rfl rfl hl.1 rfl (lv_room (Nat.le_of_ble_eq_true rfl)) dX10_reach_18 ⟨Nat.le_of_ble_eq_true rfl, Nat.le_of_ble_eq_true rfl⟩) hP hD hS hA [0, 1] rfl (fun _ => Nat.le_of_ble_eq_true rfl) (fun r_27 u_26 H locs hw hP hD hS => ?_)
      have hP : va_P G.1 vwCl [(m0, .inr (10, .int (zI j0) :: .int (zI j1) :: .int (zI j2) :: .int (zI j3) :: .int (zI j4) :: .ref y5 :: .int (zI j6) :: .int (zI j7) :: .int (zI j8) :: .int (zI j9) :: .int (zI j10) :: .ref y11 :: .ref y12 :: .int (zI j13) :: .int (zI j14) :: .int (zI j15) :: .int (zI j16) :: .int (zI j17) :: .ref y18 :: .int (zI j19) :: .int (zI j20) :: .ref y21 :: .ref y22 :: .ref y23 :: .ref y24 :: .ref y25 :: .ref y26 :: .ref y27 :: .ref y28 :: .ref y29 :: .int (zI j30) :: .int (zI j31) :: .int (zI j32) :: .int (zI j33) :: .int (zI j34) :: .int (zI j35) :: .int (zI j36) :: .int (zI j37) :: .ref y38 :: .int (zI j39) :: .ref y40 :: .int (zI j41) :: .ref y42 :: .ref y43 :: .ref y44 :: .int (zI j45) :: .int (zI j46) :: .long (zL j47) :: .ref y48 :: .int (zI j49) :: .int (zI j50) :: .int (zI j51) :: .int (zI j52) :: .ref y53 :: [])), (y38, .inl (G.2.1.2.2, 117649, .inr (.inr (.inr (.inl (aD u_26))))))] H := hP
      have hD : va_D A [(m0, .inr (10, .int (zI j0) :: .int (zI j1) :: .int (zI j2) :: .int (zI j3) :: .int (zI j4) :: .ref y5 :: .int (zI j6) :: .int (zI j7) :: .int (zI j8) :: .int (zI j9) :: .int (zI j10) :: .ref y11 :: .ref y12 :: .int (zI j13) :: .int (zI j14) :: .int (zI j15) :: .int (zI j16) :: .int (zI j17) :: .ref y18 :: .int (zI j19) :: .int (zI j20) :: .ref y21 :: .ref y22 :: .ref y23 :: .ref y24 :: .ref y25 :: .ref y26 :: .ref y27 :: .ref y28 :: .ref y29 :: .int (zI j30) :: .int (zI j31) :: .int (zI j32) :: .int (zI j33) :: .int (zI j34) :: .int (zI j35) :: .int (zI j36) :: .int (zI j37) :: .ref y38 :: .int (zI j39) :: .ref y40 :: .int (zI j41) :: .ref y42 :: .ref y43 :: .ref y44 :: .int (zI j45) :: .int (zI j46) :: .long (zL j47) :: .ref y48 :: .int (zI j49) :: .int (zI j50) :: .int (zI j51) :: .int (zI j52) :: .ref y53 :: [])), (y38, .inl (G.2.1.2.2, 117649, .inr (.inr (.inr (.inl (aD u_26))))))] := hD
      obtain ⟨h_28, rfl⟩ := hw
      have hS0 := h_28
      refine lv_dsub hx hb dX10_reach_21 (hB9.no (by decide)) ?_
      rw [hQ]
      exact z_dret hF hr hlocks u_26 ⟨hS0, by rw [hn0]; exact hE9.symm⟩ hP hK hD hS dX10_reach_22
  · have hc_1 := c_1
    refine lv_dconst1 hx hb dX10_reach_4 ?_
    rw [hQ]
    exact z_dret hF hr hlocks w38 ⟨hcI, by cases nn <;> exact (if_pos (by omega)).symm⟩ hP hK hD hS dX10_reach_5
theorem c_X10_reach (l : Launch) (G : wG) (n : Nat) (hfp : FPL) (CHH : ∀ k : Nat, k < n → CHM l G k) : ∀ nn tt ss : Nat, RES l G n nn tt ss
  | 0, tt, ss => c_X10_reach_s l G n 0 tt ss hfp CHH (fun n0 _ _ h9 => absurd h9 (by omega))
  | nn + 1, tt, ss => c_X10_reach_s l G n (nn + 1) tt ss hfp CHH (fun n0 t9 s9 h9 => by
      have e : n0 = nn := by omega
      subst e
      exact c_X10_reach l G n hfp CHH n0 t9 s9)
set_option maxHeartbeats 4000000 in
set_option maxRecDepth 100000 in
theorem c_X10_chance_s (l : Launch) (G : wG) (n : Nat) (hfp : FPL) (CHH : ∀ k : Nat, k < n → CHM l G k) : CHM l G n := by
  intro m0 y5 y11 y12 y18 y21 y22 y23 y24 y25 y26 y27 y28 y29 y38 y40 y42 y43 y44 y48 y53 j0 j1 j2 j3 j4 j6 j7 j8 j9 j10 j13 j14 j15 j16 j17 j19 j20 j30 j31 j32 j33 j34 j35 j36 j37 j39 j41 j45 j46 j47 j49 j50 j51 j52 w38 v w hv hw hv0 hw0 hnn hcI z9
  refine z_ofW (Qc := fun A => wQd G (fun (r : UInt64) (u : (Int → UInt64)) => chM u ∧ r = (chV v w)) (fun (u : (Int → UInt64)) => [(m0, .inr (10, .int (zI j0) :: .int (zI j1) :: .int (zI j2) :: .int (zI j3) :: .int (zI j4) :: .ref y5 :: .int (zI j6) :: .int (zI j7) :: .int (zI j8) :: .int (zI j9) :: .int (zI j10) :: .ref y11 :: .ref y12 :: .int (zI j13) :: .int (zI j14) :: .int (zI j15) :: .int (zI j16) :: .int (zI j17) :: .ref y18 :: .int (zI j19) :: .int (zI j20) :: .ref y21 :: .ref y22 :: .ref y23 :: .ref y24 :: .ref y25 :: .ref y26 :: .ref y27 :: .ref y28 :: .ref y29 :: .int (zI j30) :: .int (zI j31) :: .int (zI j32) :: .int (zI j33) :: .int (zI j34) :: .int (zI j35) :: .int (zI j36) :: .int (zI j37) :: .ref y38 :: .int (zI j39) :: .ref y40 :: .int (zI j41) :: .ref y42 :: .ref y43 :: .ref y44 :: .int (zI j45) :: .int (zI j46) :: .long (zL j47) :: .ref y48 :: .int (zI j49) :: .int (zI j50) :: .int (zI j51) :: .int (zI j52) :: .ref y53 :: [])), (y38, .inl (G.2.1.2.2, 117649, .inr (.inr (.inr (.inl (aD u))))))]) A) l G [(m0, .inr (10, .int (zI j0) :: .int (zI j1) :: .int (zI j2) :: .int (zI j3) :: .int (zI j4) :: .ref y5 :: .int (zI j6) :: .int (zI j7) :: .int (zI j8) :: .int (zI j9) :: .int (zI j10) :: .ref y11 :: .ref y12 :: .int (zI j13) :: .int (zI j14) :: .int (zI j15) :: .int (zI j16) :: .int (zI j17) :: .ref y18 :: .int (zI j19) :: .int (zI j20) :: .ref y21 :: .ref y22 :: .ref y23 :: .ref y24 :: .ref y25 :: .ref y26 :: .ref y27 :: .ref y28 :: .ref y29 :: .int (zI j30) :: .int (zI j31) :: .int (zI j32) :: .int (zI j33) :: .int (zI j34) :: .int (zI j35) :: .int (zI j36) :: .int (zI j37) :: .ref y38 :: .int (zI j39) :: .ref y40 :: .int (zI j41) :: .ref y42 :: .ref y43 :: .ref y44 :: .int (zI j45) :: .int (zI j46) :: .long (zL j47) :: .ref y48 :: .int (zI j49) :: .int (zI j50) :: .int (zI j51) :: .int (zI j52) :: .ref y53 :: [])), (y38, .inl (G.2.1.2.2, 117649, .inr (.inr (.inr (.inl (aD w38))))))] [.ref m0, .int (zI (7 * v)), .int (zI (7 * w))] (by decide) rfl rfl ?_ z9
  intro p e s m args below meth c A ls H locs hF hr hlocks hinit hP hK hD hA hS hBd hl
  have hF : wFx p m c cX10_chance 10 s args wsX10_chance RX10 := hF
  have hl : lv_has ls 10 [(0, .ref m0), (1, .int (zI (7 * v))), (2, .int (zI (7 * w)))] := hl
  have hx := hF.1
  have hb := hF.2.1
  obtain ⟨Q0, hQ⟩ : ∃ q, q = (MQ below (wQd G (fun (r : UInt64) (u : (Int → UInt64)) => chM u ∧ r = (chV v w)) (fun (u : (Int → UInt64)) => [(m0, .inr (10, .int (zI j0) :: .int (zI j1) :: .int (zI j2) :: .int (zI j3) :: .int (zI j4) :: .ref y5 :: .int (zI j6) :: .int (zI j7) :: .int (zI j8) :: .int (zI j9) :: .int (zI j10) :: .ref y11 :: .ref y12 :: .int (zI j13) :: .int (zI j14) :: .int (zI j15) :: .int (zI j16) :: .int (zI j17) :: .ref y18 :: .int (zI j19) :: .int (zI j20) :: .ref y21 :: .ref y22 :: .ref y23 :: .ref y24 :: .ref y25 :: .ref y26 :: .ref y27 :: .ref y28 :: .ref y29 :: .int (zI j30) :: .int (zI j31) :: .int (zI j32) :: .int (zI j33) :: .int (zI j34) :: .int (zI j35) :: .int (zI j36) :: .int (zI j37) :: .ref y38 :: .int (zI j39) :: .ref y40 :: .int (zI j41) :: .ref y42 :: .ref y43 :: .ref y44 :: .int (zI j45) :: .int (zI j46) :: .long (zL j47) :: .ref y48 :: .int (zI j49) :: .int (zI j50) :: .int (zI j51) :: .int (zI j52) :: .ref y53 :: [])), (y38, .inl (G.2.1.2.2, 117649, .inr (.inr (.inr (.inl (aD u))))))]) A) args s 0 0 A) := ⟨_, rfl⟩
  rw [← hQ]
  have i_wsX100 : ∀ w ∈ wsX100, w ∈ wsX10_chance := (fun _ h => (List.mem_cons_of_mem _ (List.mem_append_right _ h)))
  have kc_302 : (Cond.constantDouble RX10 302 (4611686018427387904)).before args s = true := hF.2.2.2.2 _ (List.mem_cons_of_mem _ (List.mem_append_left _ (List.mem_of_getElem? (i := 1) rfl)))
  have kc_304 : (Cond.constantDouble RX10 304 (4630263366890291200)).before args s = true := hF.2.2.2.2 _ (List.mem_cons_of_mem _ (List.mem_append_left _ (List.mem_of_getElem? (i := 2) rfl)))
  have kf_62 : (Cond.fieldLink RX10 62 "GammonryModel" "chances" "[D").before args s = true := hF.2.2.2.2 _ (List.mem_cons_of_mem _ (List.mem_append_left _ (List.mem_of_getElem? (i := 0) rfl)))
  have hr9 := v7_rg hv
  have hr8 := v7_rg hw
  have hp9 := v7_pos hv hv0
  have hp8 := v7_pos hw hw0
  have hI9 := hcI v w hv hv0 hw hw0
  have hB9 := chV_D hfp hv hv0 hw hw0
  refine z_sipush hF dX10_chance_0 (by decide) ?_
  refine lv_iload_n hx hb dX10_chance_3 rfl (lv_at hl 1 rfl) ?_
  refine z_imul hF dX10_chance_4 ?_
  refine lv_iload_n hx hb dX10_chance_5 rfl (lv_at hl 2 rfl) ?_
  refine z_iadd hF dX10_chance_6 ?_
  refine lv_istore_n (lv' := [(3, .int (zI ((343 * (7 * v)) + (7 * w)))), (0, .ref m0), (1, .int (zI (7 * v))), (2, .int (zI (7 * w)))]) hx hb dX10_chance_7 rfl hl (by decide) rfl (fun ls hl => ?_)
  have L19 : ∀ (_u : Unit), ∀ (H : Heap) (locs : List Loc) (ls : Array Slot), va_P G.1 vwCl [(m0, .inr (10, .int (zI j0) :: .int (zI j1) :: .int (zI j2) :: .int (zI j3) :: .int (zI j4) :: .ref y5 :: .int (zI j6) :: .int (zI j7) :: .int (zI j8) :: .int (zI j9) :: .int (zI j10) :: .ref y11 :: .ref y12 :: .int (zI j13) :: .int (zI j14) :: .int (zI j15) :: .int (zI j16) :: .int (zI j17) :: .ref y18 :: .int (zI j19) :: .int (zI j20) :: .ref y21 :: .ref y22 :: .ref y23 :: .ref y24 :: .ref y25 :: .ref y26 :: .ref y27 :: .ref y28 :: .ref y29 :: .int (zI j30) :: .int (zI j31) :: .int (zI j32) :: .int (zI j33) :: .int (zI j34) :: .int (zI j35) :: .int (zI j36) :: .int (zI j37) :: .ref y38 :: .int (zI j39) :: .ref y40 :: .int (zI j41) :: .ref y42 :: .ref y43 :: .ref y44 :: .int (zI j45) :: .int (zI j46) :: .long (zL j47) :: .ref y48 :: .int (zI j49) :: .int (zI j50) :: .int (zI j51) :: .int (zI j52) :: .ref y53 :: [])), (y38, .inl (G.2.1.2.2, 117649, .inr (.inr (.inr (.inl (aD w38))))))] H → va_D A [(m0, .inr (10, .int (zI j0) :: .int (zI j1) :: .int (zI j2) :: .int (zI j3) :: .int (zI j4) :: .ref y5 :: .int (zI j6) :: .int (zI j7) :: .int (zI j8) :: .int (zI j9) :: .int (zI j10) :: .ref y11 :: .ref y12 :: .int (zI j13) :: .int (zI j14) :: .int (zI j15) :: .int (zI j16) :: .int (zI j17) :: .ref y18 :: .int (zI j19) :: .int (zI j20) :: .ref y21 :: .ref y22 :: .ref y23 :: .ref y24 :: .ref y25 :: .ref y26 :: .ref y27 :: .ref y28 :: .ref y29 :: .int (zI j30) :: .int (zI j31) :: .int (zI j32) :: .int (zI j33) :: .int (zI j34) :: .int (zI j35) :: .int (zI j36) :: .int (zI j37) :: .ref y38 :: .int (zI j39) :: .ref y40 :: .int (zI j41) :: .ref y42 :: .ref y43 :: .ref y44 :: .int (zI j45) :: .int (zI j46) :: .long (zL j47) :: .ref y48 :: .int (zI j49) :: .int (zI j50) :: .int (zI j51) :: .int (zI j52) :: .ref y53 :: [])), (y38, .inl (G.2.1.2.2, 117649, .inr (.inr (.inr (.inl (aD w38))))))] → va_S A s.heap H locs → lv_has ls 10 [(0, .ref m0), (1, .int (zI (7 * v))), (2, .int (zI (7 * w))), (3, .int (zI (343 * (7 * v) + 7 * w)))] → W p l e (rmL (20 + 9 * n) 0 0) s m args below meth c H locs 0 0 Q0 (F0 m 19 ls []) := by
    intro _u  H locs ls hP hD hS hl
    refine lv_dconst0 hx hb dX10_chance_19 ?_
    refine lv_dstore (lv' := [(4, .double FP.dconst0), (0, .ref m0), (1, .int (zI (7 * v))), (2, .int (zI (7 * w))), (3, .int (zI (343 * (7 * v) + 7 * w)))]) hx hb dX10_chance_20 hl (by decide) rfl (fun ls hl => ?_)
    refine z_iconst hF dX10_chance_22 ?_
    refine lv_istore (lv' := [(6, .int (zI 1)), (4, .double FP.dconst0), (0, .ref m0), (1, .int (zI (7 * v))), (2, .int (zI (7 * w))), (3, .int (zI (343 * (7 * v) + 7 * w)))]) hx hb dX10_chance_23 hl (by decide) rfl (fun ls hl => ?_)
    have L25 : ∀ (n9 : Nat) (i : Int) (sm9 : UInt64) (f0 : Int → UInt64), (7 - i).toNat < n9 → (1 ≤ i ∧ i ≤ 7) → sm9 = ouZ chV v w i → dB (bd2 i i) sm9 → chM f0 → ∀ (H : Heap) (locs : List Loc) (ls : Array Slot), va_P G.1 vwCl [(m0, .inr (10, .int (zI j0) :: .int (zI j1) :: .int (zI j2) :: .int (zI j3) :: .int (zI j4) :: .ref y5 :: .int (zI j6) :: .int (zI j7) :: .int (zI j8) :: .int (zI j9) :: .int (zI j10) :: .ref y11 :: .ref y12 :: .int (zI j13) :: .int (zI j14) :: .int (zI j15) :: .int (zI j16) :: .int (zI j17) :: .ref y18 :: .int (zI j19) :: .int (zI j20) :: .ref y21 :: .ref y22 :: .ref y23 :: .ref y24 :: .ref y25 :: .ref y26 :: .ref y27 :: .ref y28 :: .ref y29 :: .int (zI j30) :: .int (zI j31) :: .int (zI j32) :: .int (zI j33) :: .int (zI j34) :: .int (zI j35) :: .int (zI j36) :: .int (zI j37) :: .ref y38 :: .int (zI j39) :: .ref y40 :: .int (zI j41) :: .ref y42 :: .ref y43 :: .ref y44 :: .int (zI j45) :: .int (zI j46) :: .long (zL j47) :: .ref y48 :: .int (zI j49) :: .int (zI j50) :: .int (zI j51) :: .int (zI j52) :: .ref y53 :: [])), (y38, .inl (G.2.1.2.2, 117649, .inr (.inr (.inr (.inl (aD f0))))))] H → va_D A [(m0, .inr (10, .int (zI j0) :: .int (zI j1) :: .int (zI j2) :: .int (zI j3) :: .int (zI j4) :: .ref y5 :: .int (zI j6) :: .int (zI j7) :: .int (zI j8) :: .int (zI j9) :: .int (zI j10) :: .ref y11 :: .ref y12 :: .int (zI j13) :: .int (zI j14) :: .int (zI j15) :: .int (zI j16) :: .int (zI j17) :: .ref y18 :: .int (zI j19) :: .int (zI j20) :: .ref y21 :: .ref y22 :: .ref y23 :: .ref y24 :: .ref y25 :: .ref y26 :: .ref y27 :: .ref y28 :: .ref y29 :: .int (zI j30) :: .int (zI j31) :: .int (zI j32) :: .int (zI j33) :: .int (zI j34) :: .int (zI j35) :: .int (zI j36) :: .int (zI j37) :: .ref y38 :: .int (zI j39) :: .ref y40 :: .int (zI j41) :: .ref y42 :: .ref y43 :: .ref y44 :: .int (zI j45) :: .int (zI j46) :: .long (zL j47) :: .ref y48 :: .int (zI j49) :: .int (zI j50) :: .int (zI j51) :: .int (zI j52) :: .ref y53 :: [])), (y38, .inl (G.2.1.2.2, 117649, .inr (.inr (.inr (.inl (aD f0))))))] → va_S A s.heap H locs → lv_has ls 10 [(0, .ref m0), (1, .int (zI (7 * v))), (2, .int (zI (7 * w))), (3, .int (zI (343 * (7 * v) + 7 * w))), (4, .double sm9), (6, .int (zI i))] → W p l e (rmL (20 + 9 * n) 0 0) s m args below meth c H locs 0 0 Q0 (F0 m 25 ls []) := by
      intro n9
      induction n9 with
      | zero => intro i sm9 f0 hmu; omega
      | succ n9 ih25 =>
        intro i sm9 f0 hmu25 hzi hss hsB hI0 H locs ls hP hD hS hl
        refine lv_iload hx hb dX10_chance_25 (lv_at hl 5 rfl) ?_
        refine z_bipush hF dX10_chance_27 (by decide) ?_
        refine z_icmp_gt (tgt := 113) hF dX10_chance_29 (by decide) (by omega) (by decide) (fun c_1 => ?_) (fun c_1 => ?_)
        · have hc_29 := c_1
          refine lv_aload_n hx hb dX10_chance_113 rfl (lv_at hl 0 rfl) ?_
          refine z_get (k := 38) hF hK hP 0 rfl rfl i_wsX100 (by decide) kf_62 rfl dX10_chance_114 ?_
          refine lv_iload_n hx hb dX10_chance_117 rfl (lv_at hl 3 rfl) ?_
          refine lv_dload hx hb dX10_chance_118 (lv_at hl 4 rfl) ?_
          refine lv_ldc2d hx hb hF.2.2.2.1 kc_304 dX10_chance_120 ?_
          refine z_topd (y := d36) (by decide +kernel) ?_
          refine lv_ddiv hx hb dX10_chance_123 (by have h8 := hB9.no (by decide); rw [chV_eq hv hv0 hw hw0] at h8; rw [hss, show i = 7 by omega]; exact h8) ?_
          refine z_topd (y := chV v w) (by rw [hss, show i = 7 by omega]; exact (chV_eq hv hv0 hw hw0).symm) ?_
          refine z_dast hF hK hP hD hS 1 rfl (by omega) rfl dX10_chance_124 (fun H locs hP hD hS => ?_)
          have hP : va_P G.1 vwCl [(m0, .inr (10, .int (zI j0) :: .int (zI j1) :: .int (zI j2) :: .int (zI j3) :: .int (zI j4) :: .ref y5 :: .int (zI j6) :: .int (zI j7) :: .int (zI j8) :: .int (zI j9) :: .int (zI j10) :: .ref y11 :: .ref y12 :: .int (zI j13) :: .int (zI j14) :: .int (zI j15) :: .int (zI j16) :: .int (zI j17) :: .ref y18 :: .int (zI j19) :: .int (zI j20) :: .ref y21 :: .ref y22 :: .ref y23 :: .ref y24 :: .ref y25 :: .ref y26 :: .ref y27 :: .ref y28 :: .ref y29 :: .int (zI j30) :: .int (zI j31) :: .int (zI j32) :: .int (zI j33) :: .int (zI j34) :: .int (zI j35) :: .int (zI j36) :: .int (zI j37) :: .ref y38 :: .int (zI j39) :: .ref y40 :: .int (zI j41) :: .ref y42 :: .ref y43 :: .ref y44 :: .int (zI j45) :: .int (zI j46) :: .long (zL j47) :: .ref y48 :: .int (zI j49) :: .int (zI j50) :: .int (zI j51) :: .int (zI j52) :: .ref y53 :: [])), (y38, .inl (G.2.1.2.2, 117649, .inr (.inr (.inr (.inl (aD (upD f0 (343 * (7 * v) + 7 * w) (chV v w))))))))] H := hP
          have hD : va_D A [(m0, .inr (10, .int (zI j0) :: .int (zI j1) :: .int (zI j2) :: .int (zI j3) :: .int (zI j4) :: .ref y5 :: .int (zI j6) :: .int (zI j7) :: .int (zI j8) :: .int (zI j9) :: .int (zI j10) :: .ref y11 :: .ref y12 :: .int (zI j13) :: .int (zI j14) :: .int (zI j15) :: .int (zI j16) :: .int (zI j17) :: .ref y18 :: .int (zI j19) :: .int (zI j20) :: .ref y21 :: .ref y22 :: .ref y23 :: .ref y24 :: .ref y25 :: .ref y26 :: .ref y27 :: .ref y28 :: .ref y29 :: .int (zI j30) :: .int (zI j31) :: .int (zI j32) :: .int (zI j33) :: .int (zI j34) :: .int (zI j35) :: .int (zI j36) :: .int (zI j37) :: .ref y38 :: .int (zI j39) :: .ref y40 :: .int (zI j41) :: .ref y42 :: .ref y43 :: .ref y44 :: .int (zI j45) :: .int (zI j46) :: .long (zL j47) :: .ref y48 :: .int (zI j49) :: .int (zI j50) :: .int (zI j51) :: .int (zI j52) :: .ref y53 :: [])), (y38, .inl (G.2.1.2.2, 117649, .inr (.inr (.inr (.inl (aD (upD f0 (343 * (7 * v) + 7 * w) (chV v w))))))))] := hD
          refine lv_aload_n hx hb dX10_chance_125 rfl (lv_at hl 0 rfl) ?_
          refine z_get (k := 38) hF hK hP 0 rfl rfl i_wsX100 (by decide) kf_62 rfl dX10_chance_126 ?_
          refine lv_iload_n hx hb dX10_chance_129 rfl (lv_at hl 3 rfl) ?_
          refine z_dald hF hK hP 1 rfl (by omega) rfl dX10_chance_130 ?_
          refine z_topd (y := (chV v w)) (upD_s _ _ _) ?_
          rw [hQ]
          exact z_dret hF hr hlocks (upD f0 (343 * (7 * v) + 7 * w) (chV v w)) ⟨chM_up hI0 hv hw, rfl⟩ hP hK hD hS dX10_chance_131
        · have hc_29 := c_1
          refine lv_iload hx hb dX10_chance_32 (lv_at hl 5 rfl) ?_
          refine lv_istore (lv' := [(7, .int (zI i)), (0, .ref m0), (1, .int (zI (7 * v))), (2, .int (zI (7 * w))), (3, .int (zI (343 * (7 * v) + 7 * w))), (4, .double sm9), (6, .int (zI i))]) hx hb dX10_chance_34 hl (by decide) rfl (fun ls hl => ?_)
          have L36 : ∀ (n9 : Nat) (j : Int) (sj9 : UInt64) (f1 : Int → UInt64), (7 - j).toNat < n9 → (i ≤ j ∧ j ≤ 7) → sj9 = inZ chV v w i (ouZ chV v w i) j → dB (bd2 i j) sj9 → chM f1 → ∀ (H : Heap) (locs : List Loc) (ls : Array Slot), va_P G.1 vwCl [(m0, .inr (10, .int (zI j0) :: .int (zI j1) :: .int (zI j2) :: .int (zI j3) :: .int (zI j4) :: .ref y5 :: .int (zI j6) :: .int (zI j7) :: .int (zI j8) :: .int (zI j9) :: .int (zI j10) :: .ref y11 :: .ref y12 :: .int (zI j13) :: .int (zI j14) :: .int (zI j15) :: .int (zI j16) :: .int (zI j17) :: .ref y18 :: .int (zI j19) :: .int (zI j20) :: .ref y21 :: .ref y22 :: .ref y23 :: .ref y24 :: .ref y25 :: .ref y26 :: .ref y27 :: .ref y28 :: .ref y29 :: .int (zI j30) :: .int (zI j31) :: .int (zI j32) :: .int (zI j33) :: .int (zI j34) :: .int (zI j35) :: .int (zI j36) :: .int (zI j37) :: .ref y38 :: .int (zI j39) :: .ref y40 :: .int (zI j41) :: .ref y42 :: .ref y43 :: .ref y44 :: .int (zI j45) :: .int (zI j46) :: .long (zL j47) :: .ref y48 :: .int (zI j49) :: .int (zI j50) :: .int (zI j51) :: .int (zI j52) :: .ref y53 :: [])), (y38, .inl (G.2.1.2.2, 117649, .inr (.inr (.inr (.inl (aD f1))))))] H → va_D A [(m0, .inr (10, .int (zI j0) :: .int (zI j1) :: .int (zI j2) :: .int (zI j3) :: .int (zI j4) :: .ref y5 :: .int (zI j6) :: .int (zI j7) :: .int (zI j8) :: .int (zI j9) :: .int (zI j10) :: .ref y11 :: .ref y12 :: .int (zI j13) :: .int (zI j14) :: .int (zI j15) :: .int (zI j16) :: .int (zI j17) :: .ref y18 :: .int (zI j19) :: .int (zI j20) :: .ref y21 :: .ref y22 :: .ref y23 :: .ref y24 :: .ref y25 :: .ref y26 :: .ref y27 :: .ref y28 :: .ref y29 :: .int (zI j30) :: .int (zI j31) :: .int (zI j32) :: .int (zI j33) :: .int (zI j34) :: .int (zI j35) :: .int (zI j36) :: .int (zI j37) :: .ref y38 :: .int (zI j39) :: .ref y40 :: .int (zI j41) :: .ref y42 :: .ref y43 :: .ref y44 :: .int (zI j45) :: .int (zI j46) :: .long (zL j47) :: .ref y48 :: .int (zI j49) :: .int (zI j50) :: .int (zI j51) :: .int (zI j52) :: .ref y53 :: [])), (y38, .inl (G.2.1.2.2, 117649, .inr (.inr (.inr (.inl (aD f1))))))] → va_S A s.heap H locs → lv_has ls 10 [(0, .ref m0), (1, .int (zI (7 * v))), (2, .int (zI (7 * w))), (3, .int (zI (343 * (7 * v) + 7 * w))), (4, .double sj9), (6, .int (zI i)), (7, .int (zI j))] → W p l e (rmL (20 + 9 * n) 0 0) s m args below meth c H locs 0 0 Q0 (F0 m 36 ls []) := by
            intro n9
            induction n9 with
            | zero => intro j sj9 f1 hmu; omega
            | succ n9 ih36 =>
              intro j sj9 f1 hmu36 hzj hst htB hI1 H locs ls hP hD hS hl
              refine lv_iload hx hb dX10_chance_36 (lv_at hl 6 rfl) ?_
              refine z_bipush hF dX10_chance_38 (by decide) ?_
              refine z_icmp_gt (tgt := 107) hF dX10_chance_40 (by decide) (by omega) (by decide) (fun c_2 => ?_) (fun c_2 => ?_)
              · have hc_40 := c_2
                refine z_iinc (lv' := [(6, .int (zI (i + 1))), (0, .ref m0), (1, .int (zI (7 * v))), (2, .int (zI (7 * w))), (3, .int (zI (343 * (7 * v) + 7 * w))), (4, .double sj9), (7, .int (zI j))]) hF dX10_chance_107 hl (k := 5) rfl (by decide) rfl (fun ls hl => ?_)
                refine z_goto (tgt := 25) hF dX10_chance_110 (by decide) ?_
                exact ih25 (i + 1) sj9 f1 (by omega) (by omega) (by rw [ouZ_s (by omega), hst, show j = 7 by omega]) (by have h9 := (bd2_r (l := i) (by omega)).1; rw [show j = 7 by omega, h9] at htB; exact htB) hI1 H locs ls hP hD hS (lv_sub hl [1, 2, 3, 4, 5, 0] rfl)
              · have hc_40 := c_2
                refine lv_iload hx hb dX10_chance_43 (lv_at hl 5 rfl) ?_
                refine lv_iload hx hb dX10_chance_45 (lv_at hl 6 rfl) ?_
                refine z_icmp_ne (tgt := 65) hF dX10_chance_47 (by decide) (by omega) (by omega) (fun c_3 => ?_) (fun c_3 => ?_)
                · have hc_47 := c_3
                  refine lv_aload_n hx hb dX10_chance_65 rfl (lv_at hl 0 rfl) ?_
                  refine lv_iload_n hx hb dX10_chance_66 rfl (lv_at hl 1 rfl) ?_
                  refine lv_iload_n hx hb dX10_chance_67 rfl (lv_at hl 2 rfl) ?_
                  refine lv_iload hx hb dX10_chance_68 (lv_at hl 5 rfl) ?_
                  refine z_iconst hF dX10_chance_70 ?_
                  refine lv_iload hx hb dX10_chance_71 (lv_at hl 6 rfl) ?_
                  refine z_iconst hF dX10_chance_73 ?_
                  refine cj_d (va_runV (As := [.int (zI (7 * v)), .int (zI (7 * w)), .int (zI i), .int (zI 1), .int (zI j), .int (zI 1)]) (rest := []) hF (c_X10_reach l G n hfp CHH 2 1 1 m0 y5 y11 y12 y18 y21 y22 y23 y24 y25 y26 y27 y28 y29 y38 y40 y42 y43 y44 y48 y53 j0 j1 j2 j3 j4 j6 j7 j8 j9 j10 j13 j14 j15 j16 j17 j19 j20 j30 j31 j32 j33 j34 j35 j36 j37 j39 j41 j45 j46 j47 j49 j50 j51 j52 f1 v w i 1 j 1 0 hv hw hw0 (by omega) (by omega) ⟨rfl, rfl, rfl, by decide⟩ (by omega) ⟨by decide, by decide⟩ hI1 H.size) (cwV 6 hF.2.2.2.2 gX10_chance_X10_reach rfl rfl rfl (by decide +kernel) ⟨by dsimp only [rmL]; omega, by dsimp only [rmL]; omega⟩) (z_preV hK hP hD hS hA hBd [0, 1] rfl rfl rfl rfl [.int (zI (7 * v)), .int (zI (7 * w)), .int (zI i), .int (zI 1), .int (zI j), .int (zI 1)]) rfl rfl hl.1 rfl (lv_room (Nat.le_of_ble_eq_true rfl)) dX10_chance_74 ⟨Nat.le_of_ble_eq_true rfl, Nat.le_of_ble_eq_true rfl⟩) hP hD hS hA [0, 1] rfl (fun _ => Nat.le_of_ble_eq_true rfl) (fun r_5 u_4 H locs hw hP hD hS => ?_)
                  have hP : va_P G.1 vwCl [(m0, .inr (10, .int (zI j0) :: .int (zI j1) :: .int (zI j2) :: .int (zI j3) :: .int (zI j4) :: .ref y5 :: .int (zI j6) :: .int (zI j7) :: .int (zI j8) :: .int (zI j9) :: .int (zI j10) :: .ref y11 :: .ref y12 :: .int (zI j13) :: .int (zI j14) :: .int (zI j15) :: .int (zI j16) :: .int (zI j17) :: .ref y18 :: .int (zI j19) :: .int (zI j20) :: .ref y21 :: .ref y22 :: .ref y23 :: .ref y24 :: .ref y25 :: .ref y26 :: .ref y27 :: .ref y28 :: .ref y29 :: .int (zI j30) :: .int (zI j31) :: .int (zI j32) :: .int (zI j33) :: .int (zI j34) :: .int (zI j35) :: .int (zI j36) :: .int (zI j37) :: .ref y38 :: .int (zI j39) :: .ref y40 :: .int (zI j41) :: .ref y42 :: .ref y43 :: .ref y44 :: .int (zI j45) :: .int (zI j46) :: .long (zL j47) :: .ref y48 :: .int (zI j49) :: .int (zI j50) :: .int (zI j51) :: .int (zI j52) :: .ref y53 :: [])), (y38, .inl (G.2.1.2.2, 117649, .inr (.inr (.inr (.inl (aD u_4))))))] H := hP
                  have hD : va_D A [(m0, .inr (10, .int (zI j0) :: .int (zI j1) :: .int (zI j2) :: .int (zI j3) :: .int (zI j4) :: .ref y5 :: .int (zI j6) :: .int (zI j7) :: .int (zI j8) :: .int (zI j9) :: .int (zI j10) :: .ref y11 :: .ref y12 :: .int (zI j13) :: .int (zI j14) :: .int (zI j15) :: .int (zI j16) :: .int (zI j17) :: .ref y18 :: .int (zI j19) :: .int (zI j20) :: .ref y21 :: .ref y22 :: .ref y23 :: .ref y24 :: .ref y25 :: .ref y26 :: .ref y27 :: .ref y28 :: .ref y29 :: .int (zI j30) :: .int (zI j31) :: .int (zI j32) :: .int (zI j33) :: .int (zI j34) :: .int (zI j35) :: .int (zI j36) :: .int (zI j37) :: .ref y38 :: .int (zI j39) :: .ref y40 :: .int (zI j41) :: .ref y42 :: .ref y43 :: .ref y44 :: .int (zI j45) :: .int (zI j46) :: .long (zL j47) :: .ref y48 :: .int (zI j49) :: .int (zI j50) :: .int (zI j51) :: .int (zI j52) :: .ref y53 :: [])), (y38, .inl (G.2.1.2.2, 117649, .inr (.inr (.inr (.inl (aD u_4))))))] := hD
                  obtain ⟨h_6, rfl⟩ := hw
                  have hS1 := h_6
                  have hR1 : rcF chV w 2 1 1 v i j = rlC chV v w j i := rcF_u (by omega) (by omega) (by omega) hv
                  have hB1 := rlC_D (g := j) (l := i) hfp hv hw hw0 (by omega) (by omega)
                  have hW1 := wt_B hfp hB1 j i
                  have hW2 := wtN2_le j i
                  have hT1 := inZ_B (g := j) hfp (by omega) (by omega) htB hB1
                  have hT2 := bd2_s (l := i) (g := j) (by omega) (by omega)
                  refine z_topd (y := (rlC chV v w j i)) hR1 ?_
                  refine lv_dstore (lv' := [(8, .double (rlC chV v w j i)), (0, .ref m0), (1, .int (zI (7 * v))), (2, .int (zI (7 * w))), (3, .int (zI (343 * (7 * v) + 7 * w))), (4, .double sj9), (6, .int (zI i)), (7, .int (zI j))]) hx hb dX10_chance_77 hl (by decide) rfl (fun ls hl => ?_)
                  refine lv_dload hx hb dX10_chance_79 (lv_at hl 5 rfl) ?_
                  refine lv_dload hx hb dX10_chance_81 (lv_at hl 0 rfl) ?_
                  refine lv_iload hx hb dX10_chance_83 (lv_at hl 6 rfl) ?_
                  refine lv_iload hx hb dX10_chance_85 (lv_at hl 7 rfl) ?_
                  refine z_icmp_ne (tgt := 94) hF dX10_chance_87 (by decide) (by omega) (by omega) (fun c_7 => ?_) (fun c_7 => ?_)
                  · have hc_87 := c_7
                    refine lv_ldc2d hx hb hF.2.2.2.1 kc_302 dX10_chance_94 ?_
                    refine z_topd (y := wt2 j i) (by unfold wt2; first | exact (if_pos (by omega)).symm | exact (if_neg (by omega)).symm) ?_
                    refine lv_dmul hx hb dX10_chance_97 (hW1.no (by omega)) ?_
                    refine lv_dadd hx hb dX10_chance_98 (hT1.no (by omega)) ?_
                    refine lv_dstore (lv' := [(4, .double (FP.dadd sj9 (FP.dmul (rlC chV v w j i) (wt2 j i)))), (8, .double (rlC chV v w j i)), (0, .ref m0), (1, .int (zI (7 * v))), (2, .int (zI (7 * w))), (3, .int (zI (343 * (7 * v) + 7 * w))), (6, .int (zI i)), (7, .int (zI j))]) hx hb dX10_chance_99 hl (by decide) rfl (fun ls hl => ?_)
                    refine z_iinc (lv' := [(7, .int (zI (j + 1))), (4, .double (FP.dadd sj9 (FP.dmul (rlC chV v w j i) (wt2 j i)))), (8, .double (rlC chV v w j i)), (0, .ref m0), (1, .int (zI (7 * v))), (2, .int (zI (7 * w))), (3, .int (zI (343 * (7 * v) + 7 * w))), (6, .int (zI i))]) hF dX10_chance_101 hl (k := 7) rfl (by decide) rfl (fun ls hl => ?_)
                    refine z_goto (tgt := 36) hF dX10_chance_104 (by decide) ?_
                    exact ih36 (j + 1) (FP.dadd sj9 (FP.dmul (rlC chV v w j i) (wt2 j i))) u_4 (by omega) (by omega) (by rw [inZ_s hzj.1, ← hst]) hT1 hS1 H locs ls hP hD hS (lv_sub hl [3, 4, 5, 6, 1, 7, 0] rfl)
                  · exfalso; omega
                · have hc_47 := c_3
                  refine lv_aload_n hx hb dX10_chance_50 rfl (lv_at hl 0 rfl) ?_
                  refine lv_iload_n hx hb dX10_chance_51 rfl (lv_at hl 1 rfl) ?_
                  refine lv_iload_n hx hb dX10_chance_52 rfl (lv_at hl 2 rfl) ?_
                  refine lv_iload hx hb dX10_chance_53 (lv_at hl 5 rfl) ?_
                  refine z_iconst hF dX10_chance_55 ?_
                  refine lv_iload hx hb dX10_chance_56 (lv_at hl 5 rfl) ?_
                  refine z_iconst hF dX10_chance_58 ?_
                  refine cj_d (va_runV (As := [.int (zI (7 * v)), .int (zI (7 * w)), .int (zI i), .int (zI 4), .int (zI i), .int (zI 0)]) (rest := []) hF (c_X10_reach l G n hfp CHH 4 4 0 m0 y5 y11 y12 y18 y21 y22 y23 y24 y25 y26 y27 y28 y29 y38 y40 y42 y43 y44 y48 y53 j0 j1 j2 j3 j4 j6 j7 j8 j9 j10 j13 j14 j15 j16 j17 j19 j20 j30 j31 j32 j33 j34 j35 j36 j37 j39 j41 j45 j46 j47 j49 j50 j51 j52 f1 v w i 4 i 0 0 hv hw hw0 (by omega) (by omega) ⟨rfl, rfl, rfl, by decide⟩ (by omega) ⟨by decide, by decide⟩ hI1 H.size) (cwV 6 hF.2.2.2.2 gX10_chance_X10_reach rfl rfl rfl (by decide +kernel) ⟨by dsimp only [rmL]; omega, by dsimp only [rmL]; omega⟩) (z_preV hK hP hD hS hA hBd [0, 1] rfl rfl rfl rfl [.int (zI (7 * v)), .int (zI (7 * w)), .int (zI i), .int (zI 4), .int (zI i), .int (zI 0)]) rfl rfl hl.1 rfl (lv_room (Nat.le_of_ble_eq_true rfl)) dX10_chance_59 ⟨Nat.le_of_ble_eq_true rfl, Nat.le_of_ble_eq_true rfl⟩) hP hD hS hA [0, 1] rfl (fun _ => Nat.le_of_ble_eq_true rfl) (fun r_9 u_8 H locs hw hP hD hS => ?_)
                  have hP : va_P G.1 vwCl [(m0, .inr (10, .int (zI j0) :: .int (zI j1) :: .int (zI j2) :: .int (zI j3) :: .int (zI j4) :: .ref y5 :: .int (zI j6) :: .int (zI j7) :: .int (zI j8) :: .int (zI j9) :: .int (zI j10) :: .ref y11 :: .ref y12 :: .int (zI j13) :: .int (zI j14) :: .int (zI j15) :: .int (zI j16) :: .int (zI j17) :: .ref y18 :: .int (zI j19) :: .int (zI j20) :: .ref y21 :: .ref y22 :: .ref y23 :: .ref y24 :: .ref y25 :: .ref y26 :: .ref y27 :: .ref y28 :: .ref y29 :: .int (zI j30) :: .int (zI j31) :: .int (zI j32) :: .int (zI j33) :: .int (zI j34) :: .int (zI j35) :: .int (zI j36) :: .int (zI j37) :: .ref y38 :: .int (zI j39) :: .ref y40 :: .int (zI j41) :: .ref y42 :: .ref y43 :: .ref y44 :: .int (zI j45) :: .int (zI j46) :: .long (zL j47) :: .ref y48 :: .int (zI j49) :: .int (zI j50) :: .int (zI j51) :: .int (zI j52) :: .ref y53 :: [])), (y38, .inl (G.2.1.2.2, 117649, .inr (.inr (.inr (.inl (aD u_8))))))] H := hP
                  have hD : va_D A [(m0, .inr (10, .int (zI j0) :: .int (zI j1) :: .int (zI j2) :: .int (zI j3) :: .int (zI j4) :: .ref y5 :: .int (zI j6) :: .int (zI j7) :: .int (zI j8) :: .int (zI j9) :: .int (zI j10) :: .ref y11 :: .ref y12 :: .int (zI j13) :: .int (zI j14) :: .int (zI j15) :: .int (zI j16) :: .int (zI j17) :: .ref y18 :: .int (zI j19) :: .int (zI j20) :: .ref y21 :: .ref y22 :: .ref y23 :: .ref y24 :: .ref y25 :: .ref y26 :: .ref y27 :: .ref y28 :: .ref y29 :: .int (zI j30) :: .int (zI j31) :: .int (zI j32) :: .int (zI j33) :: .int (zI j34) :: .int (zI j35) :: .int (zI j36) :: .int (zI j37) :: .ref y38 :: .int (zI j39) :: .ref y40 :: .int (zI j41) :: .ref y42 :: .ref y43 :: .ref y44 :: .int (zI j45) :: .int (zI j46) :: .long (zL j47) :: .ref y48 :: .int (zI j49) :: .int (zI j50) :: .int (zI j51) :: .int (zI j52) :: .ref y53 :: [])), (y38, .inl (G.2.1.2.2, 117649, .inr (.inr (.inr (.inl (aD u_8))))))] := hD
                  obtain ⟨h_10, rfl⟩ := hw
                  have hS1 := h_10
                  have hR1 : rcF chV w 4 4 0 v i i = rlC chV v w j i := by rw [show j = i by omega]; exact rcF_a (j := i) (by omega) hv
                  have hB1 := rlC_D (g := j) (l := i) hfp hv hw hw0 (by omega) (by omega)
                  have hW1 := wt_B hfp hB1 j i
                  have hW2 := wtN2_le j i
                  have hT1 := inZ_B (g := j) hfp (by omega) (by omega) htB hB1
                  have hT2 := bd2_s (l := i) (g := j) (by omega) (by omega)
                  refine z_topd (y := (rlC chV v w j i)) hR1 ?_
                  refine z_goto (tgt := 77) hF dX10_chance_62 (by decide) ?_
                  refine lv_dstore (lv' := [(8, .double (rlC chV v w j i)), (0, .ref m0), (1, .int (zI (7 * v))), (2, .int (zI (7 * w))), (3, .int (zI (343 * (7 * v) + 7 * w))), (4, .double sj9), (6, .int (zI i)), (7, .int (zI j))]) hx hb dX10_chance_77 hl (by decide) rfl (fun ls hl => ?_)
                  refine lv_dload hx hb dX10_chance_79 (lv_at hl 5 rfl) ?_
                  refine lv_dload hx hb dX10_chance_81 (lv_at hl 0 rfl) ?_
                  refine lv_iload hx hb dX10_chance_83 (lv_at hl 6 rfl) ?_
                  refine lv_iload hx hb dX10_chance_85 (lv_at hl 7 rfl) ?_
                  refine z_icmp_ne (tgt := 94) hF dX10_chance_87 (by decide) (by omega) (by omega) (fun c_11 => ?_) (fun c_11 => ?_)
                  · exfalso; omega
                  · have hc_87 := c_11
                    refine lv_dconst1 hx hb dX10_chance_90 ?_
                    refine z_goto (tgt := 97) hF dX10_chance_91 (by decide) ?_
                    refine z_topd (y := wt2 j i) (by unfold wt2; first | exact (if_pos (by omega)).symm | exact (if_neg (by omega)).symm) ?_
                    refine lv_dmul hx hb dX10_chance_97 (hW1.no (by omega)) ?_
                    refine lv_dadd hx hb dX10_chance_98 (hT1.no (by omega)) ?_
                    refine lv_dstore (lv' := [(4, .double (FP.dadd sj9 (FP.dmul (rlC chV v w j i) (wt2 j i)))), (8, .double (rlC chV v w j i)), (0, .ref m0), (1, .int (zI (7 * v))), (2, .int (zI (7 * w))), (3, .int (zI (343 * (7 * v) + 7 * w))), (6, .int (zI i)), (7, .int (zI j))]) hx hb dX10_chance_99 hl (by decide) rfl (fun ls hl => ?_)
                    refine z_iinc (lv' := [(7, .int (zI (j + 1))), (4, .double (FP.dadd sj9 (FP.dmul (rlC chV v w j i) (wt2 j i)))), (8, .double (rlC chV v w j i)), (0, .ref m0), (1, .int (zI (7 * v))), (2, .int (zI (7 * w))), (3, .int (zI (343 * (7 * v) + 7 * w))), (6, .int (zI i))]) hF dX10_chance_101 hl (k := 7) rfl (by decide) rfl (fun ls hl => ?_)
                    refine z_goto (tgt := 36) hF dX10_chance_104 (by decide) ?_
                    exact ih36 (j + 1) (FP.dadd sj9 (FP.dmul (rlC chV v w j i) (wt2 j i))) u_8 (by omega) (by omega) (by rw [inZ_s hzj.1, ← hst]) hT1 hS1 H locs ls hP hD hS (lv_sub hl [3, 4, 5, 6, 1, 7, 0] rfl)
          exact L36 _ i sm9 f0 (Nat.lt_succ_self _) (by omega) (by rw [inZ_0]; exact hss) hsB hI0 H locs ls hP hD hS (lv_sub hl [1, 2, 3, 4, 5, 6, 0] rfl)
    exact L25 _ 1 FP.dconst0 w38 (Nat.lt_succ_self _) (by omega) rfl dB_0 hcI H locs ls hP hD hS (lv_sub hl [2, 3, 4, 5, 1, 0] rfl)
  refine lv_aload_n hx hb dX10_chance_8 rfl (lv_at hl 1 rfl) ?_
  refine z_get (k := 38) hF hK hP 0 rfl rfl i_wsX100 (by decide) kf_62 rfl dX10_chance_9 ?_
  refine lv_iload_n hx hb dX10_chance_12 rfl (lv_at hl 0 rfl) ?_
  refine z_dald hF hK hP 1 rfl (by omega) rfl dX10_chance_13 ?_
  rcases hI9 with hf9 | hf9
  · skip
    refine lv_dconst0 hx hb dX10_chance_14 ?_
    refine lv_dcmp hx hb dX10_chance_15 ?_
    refine z_top (y := zI (cmZ (bI FP.dconst0) 0)) (by rw [hf9]; exact z_dcmp0 hfp (dB_0.mono (Nat.zero_le 1) (by decide))) ?_
    have qcm := cmZ_cs (bI FP.dconst0) 0
    have qb0 := bI_0
    refine z_if_ne (tgt := 125) hF dX10_chance_16 (by decide) (by omega) (fun c_12 => ?_) (fun c_12 => ?_)
    · exfalso; omega
    · have hc_16 := c_12
      exact L19 ()  H locs ls hP hD hS (lv_sub hl [1, 2, 3, 0] rfl)
  · skip
    refine lv_dconst0 hx hb dX10_chance_14 ?_
    refine lv_dcmp hx hb dX10_chance_15 ?_
    refine z_top (y := zI (cmZ (bI (chV v w)) 0)) (by rw [hf9]; exact z_dcmp0 hfp hB9) ?_
    have qcm := cmZ_cs (bI (chV v w)) 0
    refine z_if_ne (tgt := 125) hF dX10_chance_16 (by decide) (by omega) (fun c_13 => ?_) (fun c_13 => ?_)
    · have hc_16 := c_13
      refine lv_aload_n hx hb dX10_chance_125 rfl (lv_at hl 1 rfl) ?_
      refine z_get (k := 38) hF hK hP 0 rfl rfl i_wsX100 (by decide) kf_62 rfl dX10_chance_126 ?_
      refine lv_iload_n hx hb dX10_chance_129 rfl (lv_at hl 0 rfl) ?_
      refine z_dald hF hK hP 1 rfl (by omega) rfl dX10_chance_130 ?_
      refine z_topd (y := (chV v w)) hf9 ?_
      rw [hQ]
      exact z_dret hF hr hlocks w38 ⟨hcI, rfl⟩ hP hK hD hS dX10_chance_131
    · have hc_16 := c_13
      exact L19 ()  H locs ls hP hD hS (lv_sub hl [1, 2, 3, 0] rfl)
theorem c_X10_chance (l : Launch) (G : wG) (hfp : FPL) : ∀ n : Nat, CHM l G n := by
  intro n
  induction n using Nat.strongRecOn with
  | ind n ih => exact c_X10_chance_s l G n hfp ih
set_option maxHeartbeats 4000000 in
set_option maxRecDepth 100000 in
theorem c_X10_ending (l : Launch) (G : wG) (m0 y5 y11 y12 y18 y21 y22 y23 y24 y25 y26 y27 y28 y29 y38 y40 y42 y43 y44 y48 y53 : Nat) (j0 j1 j2 j3 j4 j6 j7 j8 j9 j10 j13 j14 j15 j16 j17 j19 j20 j30 j31 j32 j33 j34 j35 j36 j37 j39 j41 j45 j46 j47 j49 j50 j51 j52 : Int) (w11 : Int → Int) (sd : Int)  (hsd : 0 ≤ sd ∧ sd ≤ 1) (okb11 : okB (bk w11 0)) (hed : edC (bk w11 0) sd) (z9 : Nat) : Met l yX10_ending wsX10_ending (rmL 2 0 0) (wPc G [(m0, .inr (10, .int (zI j0) :: .int (zI j1) :: .int (zI j2) :: .int (zI j3) :: .int (zI j4) :: .ref y5 :: .int (zI j6) :: .int (zI j7) :: .int (zI j8) :: .int (zI j9) :: .int (zI j10) :: .ref y11 :: .ref y12 :: .int (zI j13) :: .int (zI j14) :: .int (zI j15) :: .int (zI j16) :: .int (zI j17) :: .ref y18 :: .int (zI j19) :: .int (zI j20) :: .ref y21 :: .ref y22 :: .ref y23 :: .ref y24 :: .ref y25 :: .ref y26 :: .ref y27 :: .ref y28 :: .ref y29 :: .int (zI j30) :: .int (zI j31) :: .int (zI j32) :: .int (zI j33) :: .int (zI j34) :: .int (zI j35) :: .int (zI j36) :: .int (zI j37) :: .ref y38 :: .int (zI j39) :: .ref y40 :: .int (zI j41) :: .ref y42 :: .ref y43 :: .ref y44 :: .int (zI j45) :: .int (zI j46) :: .long (zL j47) :: .ref y48 :: .int (zI j49) :: .int (zI j50) :: .int (zI j51) :: .int (zI j52) :: .ref y53 :: [])), (y11, .inl (G.2.1.1, 52, .inl (aI w11)))] z9 [.ref m0, .int (zI sd)]) (wQi G (fun (r : Int32) (u : Unit) => r = zI (7 * l2V (bk w11 0) sd)) (fun (u : Unit) => [(m0, .inr (10, .int (zI j0) :: .int (zI j1) :: .int (zI j2) :: .int (zI j3) :: .int (zI j4) :: .ref y5 :: .int (zI j6) :: .int (zI j7) :: .int (zI j8) :: .int (zI j9) :: .int (zI j10) :: .ref y11 :: .ref y12 :: .int (zI j13) :: .int (zI j14) :: .int (zI j15) :: .int (zI j16) :: .int (zI j17) :: .ref y18 :: .int (zI j19) :: .int (zI j20) :: .ref y21 :: .ref y22 :: .ref y23 :: .ref y24 :: .ref y25 :: .ref y26 :: .ref y27 :: .ref y28 :: .ref y29 :: .int (zI j30) :: .int (zI j31) :: .int (zI j32) :: .int (zI j33) :: .int (zI j34) :: .int (zI j35) :: .int (zI j36) :: .int (zI j37) :: .ref y38 :: .int (zI j39) :: .ref y40 :: .int (zI j41) :: .ref y42 :: .ref y43 :: .ref y44 :: .int (zI j45) :: .int (zI j46) :: .long (zL j47) :: .ref y48 :: .int (zI j49) :: .int (zI j50) :: .int (zI j51) :: .int (zI j52) :: .ref y53 :: [])), (y11, .inl (G.2.1.1, 52, .inl (aI w11)))]) (va_A [(m0, .inr (10, .int (zI j0) :: .int (zI j1) :: .int (zI j2) :: .int (zI j3) :: .int (zI j4) :: .ref y5 :: .int (zI j6) :: .int (zI j7) :: .int (zI j8) :: .int (zI j9) :: .int (zI j10) :: .ref y11 :: .ref y12 :: .int (zI j13) :: .int (zI j14) :: .int (zI j15) :: .int (zI j16) :: .int (zI j17) :: .ref y18 :: .int (zI j19) :: .int (zI j20) :: .ref y21 :: .ref y22 :: .ref y23 :: .ref y24 :: .ref y25 :: .ref y26 :: .ref y27 :: .ref y28 :: .ref y29 :: .int (zI j30) :: .int (zI j31) :: .int (zI j32) :: .int (zI j33) :: .int (zI j34) :: .int (zI j35) :: .int (zI j36) :: .int (zI j37) :: .ref y38 :: .int (zI j39) :: .ref y40 :: .int (zI j41) :: .ref y42 :: .ref y43 :: .ref y44 :: .int (zI j45) :: .int (zI j46) :: .long (zL j47) :: .ref y48 :: .int (zI j49) :: .int (zI j50) :: .int (zI j51) :: .int (zI j52) :: .ref y53 :: [])), (y11, .inl (G.2.1.1, 52, .inl (aI w11)))] z9)) 0 0 (va_A [(m0, .inr (10, .int (zI j0) :: .int (zI j1) :: .int (zI j2) :: .int (zI j3) :: .int (zI j4) :: .ref y5 :: .int (zI j6) :: .int (zI j7) :: .int (zI j8) :: .int (zI j9) :: .int (zI j10) :: .ref y11 :: .ref y12 :: .int (zI j13) :: .int (zI j14) :: .int (zI j15) :: .int (zI j16) :: .int (zI j17) :: .ref y18 :: .int (zI j19) :: .int (zI j20) :: .ref y21 :: .ref y22 :: .ref y23 :: .ref y24 :: .ref y25 :: .ref y26 :: .ref y27 :: .ref y28 :: .ref y29 :: .int (zI j30) :: .int (zI j31) :: .int (zI j32) :: .int (zI j33) :: .int (zI j34) :: .int (zI j35) :: .int (zI j36) :: .int (zI j37) :: .ref y38 :: .int (zI j39) :: .ref y40 :: .int (zI j41) :: .ref y42 :: .ref y43 :: .ref y44 :: .int (zI j45) :: .int (zI j46) :: .long (zL j47) :: .ref y48 :: .int (zI j49) :: .int (zI j50) :: .int (zI j51) :: .int (zI j52) :: .ref y53 :: [])), (y11, .inl (G.2.1.1, 52, .inl (aI w11)))] z9) := by
  refine z_ofW (Qc := fun A => wQi G (fun (r : Int32) (u : Unit) => r = zI (7 * l2V (bk w11 0) sd)) (fun (u : Unit) => [(m0, .inr (10, .int (zI j0) :: .int (zI j1) :: .int (zI j2) :: .int (zI j3) :: .int (zI j4) :: .ref y5 :: .int (zI j6) :: .int (zI j7) :: .int (zI j8) :: .int (zI j9) :: .int (zI j10) :: .ref y11 :: .ref y12 :: .int (zI j13) :: .int (zI j14) :: .int (zI j15) :: .int (zI j16) :: .int (zI j17) :: .ref y18 :: .int (zI j19) :: .int (zI j20) :: .ref y21 :: .ref y22 :: .ref y23 :: .ref y24 :: .ref y25 :: .ref y26 :: .ref y27 :: .ref y28 :: .ref y29 :: .int (zI j30) :: .int (zI j31) :: .int (zI j32) :: .int (zI j33) :: .int (zI j34) :: .int (zI j35) :: .int (zI j36) :: .int (zI j37) :: .ref y38 :: .int (zI j39) :: .ref y40 :: .int (zI j41) :: .ref y42 :: .ref y43 :: .ref y44 :: .int (zI j45) :: .int (zI j46) :: .long (zL j47) :: .ref y48 :: .int (zI j49) :: .int (zI j50) :: .int (zI j51) :: .int (zI j52) :: .ref y53 :: [])), (y11, .inl (G.2.1.1, 52, .inl (aI w11)))]) A) l G [(m0, .inr (10, .int (zI j0) :: .int (zI j1) :: .int (zI j2) :: .int (zI j3) :: .int (zI j4) :: .ref y5 :: .int (zI j6) :: .int (zI j7) :: .int (zI j8) :: .int (zI j9) :: .int (zI j10) :: .ref y11 :: .ref y12 :: .int (zI j13) :: .int (zI j14) :: .int (zI j15) :: .int (zI j16) :: .int (zI j17) :: .ref y18 :: .int (zI j19) :: .int (zI j20) :: .ref y21 :: .ref y22 :: .ref y23 :: .ref y24 :: .ref y25 :: .ref y26 :: .ref y27 :: .ref y28 :: .ref y29 :: .int (zI j30) :: .int (zI j31) :: .int (zI j32) :: .int (zI j33) :: .int (zI j34) :: .int (zI j35) :: .int (zI j36) :: .int (zI j37) :: .ref y38 :: .int (zI j39) :: .ref y40 :: .int (zI j41) :: .ref y42 :: .ref y43 :: .ref y44 :: .int (zI j45) :: .int (zI j46) :: .long (zL j47) :: .ref y48 :: .int (zI j49) :: .int (zI j50) :: .int (zI j51) :: .int (zI j52) :: .ref y53 :: [])), (y11, .inl (G.2.1.1, 52, .inl (aI w11)))] [.ref m0, .int (zI sd)] (by decide) rfl rfl ?_ z9
  intro p e s m args below meth c A ls H locs hF hr hlocks hinit hP hK hD hA hS hBd hl
  have hF : wFx p m c cX10_ending 6 s args wsX10_ending RX10 := hF
  have hl : lv_has ls 6 [(0, .ref m0), (1, .int (zI sd))] := hl
  have hx := hF.1
  have hb := hF.2.1
  obtain ⟨Q0, hQ⟩ : ∃ q, q = (MQ below (wQi G (fun (r : Int32) (u : Unit) => r = zI (7 * l2V (bk w11 0) sd)) (fun (u : Unit) => [(m0, .inr (10, .int (zI j0) :: .int (zI j1) :: .int (zI j2) :: .int (zI j3) :: .int (zI j4) :: .ref y5 :: .int (zI j6) :: .int (zI j7) :: .int (zI j8) :: .int (zI j9) :: .int (zI j10) :: .ref y11 :: .ref y12 :: .int (zI j13) :: .int (zI j14) :: .int (zI j15) :: .int (zI j16) :: .int (zI j17) :: .ref y18 :: .int (zI j19) :: .int (zI j20) :: .ref y21 :: .ref y22 :: .ref y23 :: .ref y24 :: .ref y25 :: .ref y26 :: .ref y27 :: .ref y28 :: .ref y29 :: .int (zI j30) :: .int (zI j31) :: .int (zI j32) :: .int (zI j33) :: .int (zI j34) :: .int (zI j35) :: .int (zI j36) :: .int (zI j37) :: .ref y38 :: .int (zI j39) :: .ref y40 :: .int (zI j41) :: .ref y42 :: .ref y43 :: .ref y44 :: .int (zI j45) :: .int (zI j46) :: .long (zL j47) :: .ref y48 :: .int (zI j49) :: .int (zI j50) :: .int (zI j51) :: .int (zI j52) :: .ref y53 :: [])), (y11, .inl (G.2.1.1, 52, .inl (aI w11)))]) A) args s 0 0 A) := ⟨_, rfl⟩
  rw [← hQ]
  have i_wsX100 : ∀ w ∈ wsX100, w ∈ wsX10_ending := (fun _ h => (List.mem_cons_of_mem _ (List.mem_append_right _ h)))
  have kf_17 : (Cond.fieldLink RX10 17 "GammonryModel" "men" "[I").before args s = true := hF.2.2.2.2 _ (List.mem_cons_of_mem _ (List.mem_append_left _ (List.mem_of_getElem? (i := 0) rfl)))
  have hQe := edC_end okb11 hed
  refine z_iconst hF dX10_ending_0 ?_
  refine lv_istore_n (lv' := [(2, .int (zI 0)), (0, .ref m0), (1, .int (zI sd))]) hx hb dX10_ending_1 rfl hl (by decide) rfl (fun ls hl => ?_)
  refine z_iconst hF dX10_ending_2 ?_
  refine lv_istore_n (lv' := [(3, .int (zI 0)), (2, .int (zI 0)), (0, .ref m0), (1, .int (zI sd))]) hx hb dX10_ending_3 rfl hl (by decide) rfl (fun ls hl => ?_)
  refine z_bipush hF dX10_ending_4 (by decide) ?_
  refine lv_istore (lv' := [(4, .int (zI 6)), (3, .int (zI 0)), (2, .int (zI 0)), (0, .ref m0), (1, .int (zI sd))]) hx hb dX10_ending_6 hl (by decide) rfl (fun ls hl => ?_)
  have L8 : ∀ (n9 : Nat) (pt cd mm : Int), pt.toNat < n9 → (0 ≤ pt ∧ pt ≤ 6) → (cd, mm) = enE (bk w11 0) sd (6 - pt).toNat → ∀ (H : Heap) (locs : List Loc) (ls : Array Slot), va_P G.1 vwCl [(m0, .inr (10, .int (zI j0) :: .int (zI j1) :: .int (zI j2) :: .int (zI j3) :: .int (zI j4) :: .ref y5 :: .int (zI j6) :: .int (zI j7) :: .int (zI j8) :: .int (zI j9) :: .int (zI j10) :: .ref y11 :: .ref y12 :: .int (zI j13) :: .int (zI j14) :: .int (zI j15) :: .int (zI j16) :: .int (zI j17) :: .ref y18 :: .int (zI j19) :: .int (zI j20) :: .ref y21 :: .ref y22 :: .ref y23 :: .ref y24 :: .ref y25 :: .ref y26 :: .ref y27 :: .ref y28 :: .ref y29 :: .int (zI j30) :: .int (zI j31) :: .int (zI j32) :: .int (zI j33) :: .int (zI j34) :: .int (zI j35) :: .int (zI j36) :: .int (zI j37) :: .ref y38 :: .int (zI j39) :: .ref y40 :: .int (zI j41) :: .ref y42 :: .ref y43 :: .ref y44 :: .int (zI j45) :: .int (zI j46) :: .long (zL j47) :: .ref y48 :: .int (zI j49) :: .int (zI j50) :: .int (zI j51) :: .int (zI j52) :: .ref y53 :: [])), (y11, .inl (G.2.1.1, 52, .inl (aI w11)))] H → va_D A [(m0, .inr (10, .int (zI j0) :: .int (zI j1) :: .int (zI j2) :: .int (zI j3) :: .int (zI j4) :: .ref y5 :: .int (zI j6) :: .int (zI j7) :: .int (zI j8) :: .int (zI j9) :: .int (zI j10) :: .ref y11 :: .ref y12 :: .int (zI j13) :: .int (zI j14) :: .int (zI j15) :: .int (zI j16) :: .int (zI j17) :: .ref y18 :: .int (zI j19) :: .int (zI j20) :: .ref y21 :: .ref y22 :: .ref y23 :: .ref y24 :: .ref y25 :: .ref y26 :: .ref y27 :: .ref y28 :: .ref y29 :: .int (zI j30) :: .int (zI j31) :: .int (zI j32) :: .int (zI j33) :: .int (zI j34) :: .int (zI j35) :: .int (zI j36) :: .int (zI j37) :: .ref y38 :: .int (zI j39) :: .ref y40 :: .int (zI j41) :: .ref y42 :: .ref y43 :: .ref y44 :: .int (zI j45) :: .int (zI j46) :: .long (zL j47) :: .ref y48 :: .int (zI j49) :: .int (zI j50) :: .int (zI j51) :: .int (zI j52) :: .ref y53 :: [])), (y11, .inl (G.2.1.1, 52, .inl (aI w11)))] → va_S A s.heap H locs → lv_has ls 6 [(0, .ref m0), (1, .int (zI sd)), (2, .int (zI cd)), (3, .int (zI mm)), (4, .int (zI pt))] → W p l e (rmL 2 0 0) s m args below meth c H locs 0 0 Q0 (F0 m 8 ls []) := by
    intro n9
    induction n9 with
    | zero => intro pt cd mm hmu; omega
    | succ n9 ih8 =>
      intro pt cd mm hmu8 hzp hen H locs ls hP hD hS hl
      refine lv_iload hx hb dX10_ending_8 (lv_at hl 4 rfl) ?_
      refine z_if_le (tgt := 55) hF dX10_ending_10 (by decide) (by omega) (fun c_1 => ?_) (fun c_1 => ?_)
      · have hc_10 := c_1
        have hE6 : (cd, mm) = enE (bk w11 0) sd 6 := by rw [hen, show (6 - pt).toNat = 6 by omega]
        have hE7 := hQe cd mm hE6
        refine lv_iload_n hx hb dX10_ending_55 rfl (lv_at hl 3 rfl) ?_
        refine z_iconst hF dX10_ending_56 ?_
        refine z_icmp_ne (tgt := 67) hF dX10_ending_57 (by decide) (by omega) (by decide) (fun c_2 => ?_) (fun c_2 => ?_)
        · have hc_57 := c_2
          refine lv_iload_n hx hb dX10_ending_67 rfl (lv_at hl 3 rfl) ?_
          refine z_iconst hF dX10_ending_68 ?_
          refine z_icmp_ne (tgt := 79) hF dX10_ending_69 (by decide) (by omega) (by decide) (fun c_3 => ?_) (fun c_3 => ?_)
          · have hc_69 := c_3
            refine lv_iload_n hx hb dX10_ending_79 rfl (lv_at hl 2 rfl) ?_
            rw [hQ]
            exact z_iret hF hr hlocks () (zI_congr (by omega)) hP hK hD hS dX10_ending_80
          · have hc_69 := c_3
            refine z_bipush hF dX10_ending_72 (by decide) ?_
            refine lv_iload_n hx hb dX10_ending_74 rfl (lv_at hl 2 rfl) ?_
            refine z_imul hF dX10_ending_75 ?_
            refine z_goto (tgt := 80) hF dX10_ending_76 (by decide) ?_
            rw [hQ]
            exact z_iret hF hr hlocks () (zI_congr (by omega)) hP hK hD hS dX10_ending_80
        · have hc_57 := c_2
          refine z_bipush hF dX10_ending_60 (by decide) ?_
          refine lv_iload_n hx hb dX10_ending_62 rfl (lv_at hl 2 rfl) ?_
          refine z_imul hF dX10_ending_63 ?_
          refine z_goto (tgt := 80) hF dX10_ending_64 (by decide) ?_
          rw [hQ]
          exact z_iret hF hr hlocks () (zI_congr (by omega)) hP hK hD hS dX10_ending_80
      · have hc_10 := c_1
        have hq8 := okb11 (26 * sd + pt)
        refine z_iconst hF dX10_ending_13 ?_
        refine lv_istore (lv' := [(5, .int (zI 0)), (0, .ref m0), (1, .int (zI sd)), (2, .int (zI cd)), (3, .int (zI mm)), (4, .int (zI pt))]) hx hb dX10_ending_14 hl (by decide) rfl (fun ls hl => ?_)
        have L16 : ∀ (n9 : Nat) (k ce me : Int), (bk w11 0 (26 * sd + pt) - k).toNat < n9 → (0 ≤ k ∧ k ≤ bk w11 0 (26 * sd + pt)) → (ce, me) = itE pt k.toNat (enE (bk w11 0) sd (6 - pt).toNat) → ∀ (H : Heap) (locs : List Loc) (ls : Array Slot), va_P G.1 vwCl [(m0, .inr (10, .int (zI j0) :: .int (zI j1) :: .int (zI j2) :: .int (zI j3) :: .int (zI j4) :: .ref y5 :: .int (zI j6) :: .int (zI j7) :: .int (zI j8) :: .int (zI j9) :: .int (zI j10) :: .ref y11 :: .ref y12 :: .int (zI j13) :: .int (zI j14) :: .int (zI j15) :: .int (zI j16) :: .int (zI j17) :: .ref y18 :: .int (zI j19) :: .int (zI j20) :: .ref y21 :: .ref y22 :: .ref y23 :: .ref y24 :: .ref y25 :: .ref y26 :: .ref y27 :: .ref y28 :: .ref y29 :: .int (zI j30) :: .int (zI j31) :: .int (zI j32) :: .int (zI j33) :: .int (zI j34) :: .int (zI j35) :: .int (zI j36) :: .int (zI j37) :: .ref y38 :: .int (zI j39) :: .ref y40 :: .int (zI j41) :: .ref y42 :: .ref y43 :: .ref y44 :: .int (zI j45) :: .int (zI j46) :: .long (zL j47) :: .ref y48 :: .int (zI j49) :: .int (zI j50) :: .int (zI j51) :: .int (zI j52) :: .ref y53 :: [])), (y11, .inl (G.2.1.1, 52, .inl (aI w11)))] H → va_D A [(m0, .inr (10, .int (zI j0) :: .int (zI j1) :: .int (zI j2) :: .int (zI j3) :: .int (zI j4) :: .ref y5 :: .int (zI j6) :: .int (zI j7) :: .int (zI j8) :: .int (zI j9) :: .int (zI j10) :: .ref y11 :: .ref y12 :: .int (zI j13) :: .int (zI j14) :: .int (zI j15) :: .int (zI j16) :: .int (zI j17) :: .ref y18 :: .int (zI j19) :: .int (zI j20) :: .ref y21 :: .ref y22 :: .ref y23 :: .ref y24 :: .ref y25 :: .ref y26 :: .ref y27 :: .ref y28 :: .ref y29 :: .int (zI j30) :: .int (zI j31) :: .int (zI j32) :: .int (zI j33) :: .int (zI j34) :: .int (zI j35) :: .int (zI j36) :: .int (zI j37) :: .ref y38 :: .int (zI j39) :: .ref y40 :: .int (zI j41) :: .ref y42 :: .ref y43 :: .ref y44 :: .int (zI j45) :: .int (zI j46) :: .long (zL j47) :: .ref y48 :: .int (zI j49) :: .int (zI j50) :: .int (zI j51) :: .int (zI j52) :: .ref y53 :: [])), (y11, .inl (G.2.1.1, 52, .inl (aI w11)))] → va_S A s.heap H locs → lv_has ls 6 [(0, .ref m0), (1, .int (zI sd)), (2, .int (zI ce)), (3, .int (zI me)), (4, .int (zI pt)), (5, .int (zI k))] → W p l e (rmL 2 0 0) s m args below meth c H locs 0 0 Q0 (F0 m 16 ls []) := by
          intro n9
          induction n9 with
          | zero => intro k ce me hmu; omega
          | succ n9 ih16 =>
            intro k ce me hmu16 hzk hin H locs ls hP hD hS hl
            refine lv_iload hx hb dX10_ending_16 (lv_at hl 5 rfl) ?_
            have hq9 := okb11 (26 * sd + pt)
            refine lv_aload_n hx hb dX10_ending_18 rfl (lv_at hl 0 rfl) ?_
            refine z_get (k := 11) hF hK hP 0 rfl rfl i_wsX100 (by decide) kf_17 rfl dX10_ending_19 ?_
            refine z_iconst hF dX10_ending_22 ?_
            refine lv_iload_n hx hb dX10_ending_23 rfl (lv_at hl 1 rfl) ?_
            refine lv_iload hx hb dX10_ending_24 (lv_at hl 4 rfl) ?_
            refine cj_i (va_runS (As := [.ref y11, .int (zI 0), .int (zI sd), .int (zI pt)]) (rest := [.int (zI k)]) hF (c_X10_on l G y11 52 w11 0 sd pt  (by first | exact rfl | assumption) (by omega) (by omega) (by omega) H.size) (va_cwS 4 hF.2.2.2.2 gX10_ending_X10_on rfl rfl rfl (by decide +kernel) ⟨Nat.le_of_ble_eq_true rfl, Nat.le_of_ble_eq_true rfl⟩) (z_preS hK hP hD hS hA hBd [1] rfl rfl [.ref y11, .int (zI 0), .int (zI sd), .int (zI pt)]) rfl rfl hl.1 rfl (lv_room (Nat.le_of_ble_eq_true rfl)) dX10_ending_26 ⟨Nat.le_of_ble_eq_true rfl, Nat.le_of_ble_eq_true rfl⟩) hP hD hS hA [1] rfl (fun _ => Nat.le_of_ble_eq_true rfl) (fun r_5 u_4 H locs hw hP hD hS => ?_)
            have hP : va_P G.1 vwCl [(m0, .inr (10, .int (zI j0) :: .int (zI j1) :: .int (zI j2) :: .int (zI j3) :: .int (zI j4) :: .ref y5 :: .int (zI j6) :: .int (zI j7) :: .int (zI j8) :: .int (zI j9) :: .int (zI j10) :: .ref y11 :: .ref y12 :: .int (zI j13) :: .int (zI j14) :: .int (zI j15) :: .int (zI j16) :: .int (zI j17) :: .ref y18 :: .int (zI j19) :: .int (zI j20) :: .ref y21 :: .ref y22 :: .ref y23 :: .ref y24 :: .ref y25 :: .ref y26 :: .ref y27 :: .ref y28 :: .ref y29 :: .int (zI j30) :: .int (zI j31) :: .int (zI j32) :: .int (zI j33) :: .int (zI j34) :: .int (zI j35) :: .int (zI j36) :: .int (zI j37) :: .ref y38 :: .int (zI j39) :: .ref y40 :: .int (zI j41) :: .ref y42 :: .ref y43 :: .ref y44 :: .int (zI j45) :: .int (zI j46) :: .long (zL j47) :: .ref y48 :: .int (zI j49) :: .int (zI j50) :: .int (zI j51) :: .int (zI j52) :: .ref y53 :: [])), (y11, .inl (G.2.1.1, 52, .inl (aI w11)))] H := hP
            have hD : va_D A [(m0, .inr (10, .int (zI j0) :: .int (zI j1) :: .int (zI j2) :: .int (zI j3) :: .int (zI j4) :: .ref y5 :: .int (zI j6) :: .int (zI j7) :: .int (zI j8) :: .int (zI j9) :: .int (zI j10) :: .ref y11 :: .ref y12 :: .int (zI j13) :: .int (zI j14) :: .int (zI j15) :: .int (zI j16) :: .int (zI j17) :: .ref y18 :: .int (zI j19) :: .int (zI j20) :: .ref y21 :: .ref y22 :: .ref y23 :: .ref y24 :: .ref y25 :: .ref y26 :: .ref y27 :: .ref y28 :: .ref y29 :: .int (zI j30) :: .int (zI j31) :: .int (zI j32) :: .int (zI j33) :: .int (zI j34) :: .int (zI j35) :: .int (zI j36) :: .int (zI j37) :: .ref y38 :: .int (zI j39) :: .ref y40 :: .int (zI j41) :: .ref y42 :: .ref y43 :: .ref y44 :: .int (zI j45) :: .int (zI j46) :: .long (zL j47) :: .ref y48 :: .int (zI j49) :: .int (zI j50) :: .int (zI j51) :: .int (zI j52) :: .ref y53 :: [])), (y11, .inl (G.2.1.1, 52, .inl (aI w11)))] := hD
            obtain rfl := hw
            refine z_icmp_ge (tgt := 49) hF dX10_ending_29 (by decide) (by omega) (by omega) (fun c_6 => ?_) (fun c_6 => ?_)
            · have hc_29 := c_6
              refine z_iinc (lv' := [(4, .int (zI (pt + (-1)))), (0, .ref m0), (1, .int (zI sd)), (2, .int (zI ce)), (3, .int (zI me)), (5, .int (zI k))]) hF dX10_ending_49 hl (k := 4) rfl (by decide) rfl (fun ls hl => ?_)
              refine z_goto (tgt := 8) hF dX10_ending_52 (by decide) ?_
              exact ih8 (pt + (-1)) ce me (by omega) (by omega) (by rw [show (6 - (pt + -1)).toNat = (6 - pt).toNat + 1 by omega, enE, hin, show 6 - (((6 - pt).toNat : Nat) : Int) = pt by omega, show k = bk w11 0 (26 * sd + pt) by omega]) H locs ls hP hD hS (lv_sub hl [1, 2, 3, 4, 0] rfl)
            · have hc_29 := c_6
              refine z_bipush hF dX10_ending_32 (by decide) ?_
              refine lv_iload_n hx hb dX10_ending_34 rfl (lv_at hl 2 rfl) ?_
              refine z_imul hF dX10_ending_35 ?_
              refine lv_iload hx hb dX10_ending_36 (lv_at hl 4 rfl) ?_
              refine z_iadd hF dX10_ending_38 ?_
              refine lv_istore_n (lv' := [(2, .int (zI ((7 * ce) + pt))), (0, .ref m0), (1, .int (zI sd)), (3, .int (zI me)), (4, .int (zI pt)), (5, .int (zI k))]) hx hb dX10_ending_39 rfl hl (by decide) rfl (fun ls hl => ?_)
              refine z_iinc (lv' := [(3, .int (zI (me + 1))), (2, .int (zI ((7 * ce) + pt))), (0, .ref m0), (1, .int (zI sd)), (4, .int (zI pt)), (5, .int (zI k))]) hF dX10_ending_40 hl (k := 3) rfl (by decide) rfl (fun ls hl => ?_)
              refine z_iinc (lv' := [(5, .int (zI (k + 1))), (3, .int (zI (me + 1))), (2, .int (zI ((7 * ce) + pt))), (0, .ref m0), (1, .int (zI sd)), (4, .int (zI pt))]) hF dX10_ending_43 hl (k := 5) rfl (by decide) rfl (fun ls hl => ?_)
              refine z_goto (tgt := 16) hF dX10_ending_46 (by decide) ?_
              exact ih16 (k + 1) ((7 * ce) + pt) (me + 1) (by omega) (by omega) (by rw [show (k + 1).toNat = k.toNat + 1 by omega, itE, ← hin]) H locs ls hP hD hS (lv_sub hl [3, 4, 2, 1, 5, 0] rfl)
        exact L16 _ 0 cd mm (Nat.lt_succ_self _) (by omega) hen H locs ls hP hD hS (lv_sub hl [1, 2, 3, 4, 5, 0] rfl)
  exact L8 _ 6 0 0 (Nat.lt_succ_self _) (by omega) rfl H locs ls hP hD hS (lv_sub hl [3, 4, 2, 1, 0] rfl)
set_option maxHeartbeats 4000000 in
set_option maxRecDepth 100000 in
theorem c_X10_chance_ (l : Launch) (G : wG) (m0 y5 y11 y12 y18 y21 y22 y23 y24 y25 y26 y27 y28 y29 y38 y40 y42 y43 y44 y48 y53 : Nat) (j0 j1 j2 j3 j4 j6 j7 j8 j9 j10 j13 j14 j15 j16 j17 j19 j20 j30 j31 j32 j33 j34 j35 j36 j37 j39 j41 j45 j46 j47 j49 j50 j51 j52 : Int) (w11 : Int → Int) (w38 : Int → UInt64) (n0 : Int) (hfp : FPL) (hj9 : 0 ≤ j9 ∧ j9 < 65536) (hj10 : 0 ≤ j10 ∧ j10 ≤ 1) (hn0 : n0 ≤ 15) (hvb : VB n0 (bk w11 0)) (hcI : chM w38) (z9 : Nat) : Met l yX10_chance_ wsX10_chance_ (rmL 300 0 0) (wPc G [(m0, .inr (10, .int (zI j0) :: .int (zI j1) :: .int (zI j2) :: .int (zI j3) :: .int (zI j4) :: .ref y5 :: .int (zI j6) :: .int (zI j7) :: .int (zI j8) :: .int (zI j9) :: .int (zI j10) :: .ref y11 :: .ref y12 :: .int (zI j13) :: .int (zI j14) :: .int (zI j15) :: .int (zI j16) :: .int (zI j17) :: .ref y18 :: .int (zI j19) :: .int (zI j20) :: .ref y21 :: .ref y22 :: .ref y23 :: .ref y24 :: .ref y25 :: .ref y26 :: .ref y27 :: .ref y28 :: .ref y29 :: .int (zI j30) :: .int (zI j31) :: .int (zI j32) :: .int (zI j33) :: .int (zI j34) :: .int (zI j35) :: .int (zI j36) :: .int (zI j37) :: .ref y38 :: .int (zI j39) :: .ref y40 :: .int (zI j41) :: .ref y42 :: .ref y43 :: .ref y44 :: .int (zI j45) :: .int (zI j46) :: .long (zL j47) :: .ref y48 :: .int (zI j49) :: .int (zI j50) :: .int (zI j51) :: .int (zI j52) :: .ref y53 :: [])), (y11, .inl (G.2.1.1, 52, .inl (aI w11))), (y38, .inl (G.2.1.2.2, 117649, .inr (.inr (.inr (.inl (aD w38))))))] z9 [.ref m0]) (wQd G (fun (r : UInt64) (u : (Int × (Int → UInt64))) => (u.1 = 0 ∧ j9 = 100 ∧ isE (bk w11 0) 0 ∧ isE (bk w11 0) 1 ∧ chM u.2 ∧ r = (chV (l2V (bk w11 0) j10) (l2V (bk w11 0) (1 - j10)))) ∨ (u.1 = 1 ∧ j9 ≠ 100 ∧ r = FP.dconst0) ∨ (u.1 = 2 ∧ (j9 = 100 ∧ ¬ (isE (bk w11 0) 0 ∧ isE (bk w11 0) 1)) ∧ r = FP.dconst0)) (fun (u : (Int × (Int → UInt64))) => [(m0, .inr (10, .int (zI u.1) :: .int (zI j1) :: .int (zI j2) :: .int (zI j3) :: .int (zI j4) :: .ref y5 :: .int (zI j6) :: .int (zI j7) :: .int (zI j8) :: .int (zI j9) :: .int (zI j10) :: .ref y11 :: .ref y12 :: .int (zI j13) :: .int (zI j14) :: .int (zI j15) :: .int (zI j16) :: .int (zI j17) :: .ref y18 :: .int (zI j19) :: .int (zI j20) :: .ref y21 :: .ref y22 :: .ref y23 :: .ref y24 :: .ref y25 :: .ref y26 :: .ref y27 :: .ref y28 :: .ref y29 :: .int (zI j30) :: .int (zI j31) :: .int (zI j32) :: .int (zI j33) :: .int (zI j34) :: .int (zI j35) :: .int (zI j36) :: .int (zI j37) :: .ref y38 :: .int (zI j39) :: .ref y40 :: .int (zI j41) :: .ref y42 :: .ref y43 :: .ref y44 :: .int (zI j45) :: .int (zI j46) :: .long (zL j47) :: .ref y48 :: .int (zI j49) :: .int (zI j50) :: .int (zI j51) :: .int (zI j52) :: .ref y53 :: [])), (y11, .inl (G.2.1.1, 52, .inl (aI w11))), (y38, .inl (G.2.1.2.2, 117649, .inr (.inr (.inr (.inl (aD (if u.1 = 0 then u.2 else w38)))))))]) (va_A [(m0, .inr (10, .int (zI j0) :: .int (zI j1) :: .int (zI j2) :: .int (zI j3) :: .int (zI j4) :: .ref y5 :: .int (zI j6) :: .int (zI j7) :: .int (zI j8) :: .int (zI j9) :: .int (zI j10) :: .ref y11 :: .ref y12 :: .int (zI j13) :: .int (zI j14) :: .int (zI j15) :: .int (zI j16) :: .int (zI j17) :: .ref y18 :: .int (zI j19) :: .int (zI j20) :: .ref y21 :: .ref y22 :: .ref y23 :: .ref y24 :: .ref y25 :: .ref y26 :: .ref y27 :: .ref y28 :: .ref y29 :: .int (zI j30) :: .int (zI j31) :: .int (zI j32) :: .int (zI j33) :: .int (zI j34) :: .int (zI j35) :: .int (zI j36) :: .int (zI j37) :: .ref y38 :: .int (zI j39) :: .ref y40 :: .int (zI j41) :: .ref y42 :: .ref y43 :: .ref y44 :: .int (zI j45) :: .int (zI j46) :: .long (zL j47) :: .ref y48 :: .int (zI j49) :: .int (zI j50) :: .int (zI j51) :: .int (zI j52) :: .ref y53 :: [])), (y11, .inl (G.2.1.1, 52, .inl (aI w11))), (y38, .inl (G.2.1.2.2, 117649, .inr (.inr (.inr (.inl (aD w38))))))] z9)) 0 0 (va_A [(m0, .inr (10, .int (zI j0) :: .int (zI j1) :: .int (zI j2) :: .int (zI j3) :: .int (zI j4) :: .ref y5 :: .int (zI j6) :: .int (zI j7) :: .int (zI j8) :: .int (zI j9) :: .int (zI j10) :: .ref y11 :: .ref y12 :: .int (zI j13) :: .int (zI j14) :: .int (zI j15) :: .int (zI j16) :: .int (zI j17) :: .ref y18 :: .int (zI j19) :: .int (zI j20) :: .ref y21 :: .ref y22 :: .ref y23 :: .ref y24 :: .ref y25 :: .ref y26 :: .ref y27 :: .ref y28 :: .ref y29 :: .int (zI j30) :: .int (zI j31) :: .int (zI j32) :: .int (zI j33) :: .int (zI j34) :: .int (zI j35) :: .int (zI j36) :: .int (zI j37) :: .ref y38 :: .int (zI j39) :: .ref y40 :: .int (zI j41) :: .ref y42 :: .ref y43 :: .ref y44 :: .int (zI j45) :: .int (zI j46) :: .long (zL j47) :: .ref y48 :: .int (zI j49) :: .int (zI j50) :: .int (zI j51) :: .int (zI j52) :: .ref y53 :: [])), (y11, .inl (G.2.1.1, 52, .inl (aI w11))), (y38, .inl (G.2.1.2.2, 117649, .inr (.inr (.inr (.inl (aD w38))))))] z9) := by
  refine z_ofW (Qc := fun A => wQd G (fun (r : UInt64) (u : (Int × (Int → UInt64))) => (u.1 = 0 ∧ j9 = 100 ∧ isE (bk w11 0) 0 ∧ isE (bk w11 0) 1 ∧ chM u.2 ∧ r = (chV (l2V (bk w11 0) j10) (l2V (bk w11 0) (1 - j10)))) ∨ (u.1 = 1 ∧ j9 ≠ 100 ∧ r = FP.dconst0) ∨ (u.1 = 2 ∧ (j9 = 100 ∧ ¬ (isE (bk w11 0) 0 ∧ isE (bk w11 0) 1)) ∧ r = FP.dconst0)) (fun (u : (Int × (Int → UInt64))) => [(m0, .inr (10, .int (zI u.1) :: .int (zI j1) :: .int (zI j2) :: .int (zI j3) :: .int (zI j4) :: .ref y5 :: .int (zI j6) :: .int (zI j7) :: .int (zI j8) :: .int (zI j9) :: .int (zI j10) :: .ref y11 :: .ref y12 :: .int (zI j13) :: .int (zI j14) :: .int (zI j15) :: .int (zI j16) :: .int (zI j17) :: .ref y18 :: .int (zI j19) :: .int (zI j20) :: .ref y21 :: .ref y22 :: .ref y23 :: .ref y24 :: .ref y25 :: .ref y26 :: .ref y27 :: .ref y28 :: .ref y29 :: .int (zI j30) :: .int (zI j31) :: .int (zI j32) :: .int (zI j33) :: .int (zI j34) :: .int (zI j35) :: .int (zI j36) :: .int (zI j37) :: .ref y38 :: .int (zI j39) :: .ref y40 :: .int (zI j41) :: .ref y42 :: .ref y43 :: .ref y44 :: .int (zI j45) :: .int (zI j46) :: .long (zL j47) :: .ref y48 :: .int (zI j49) :: .int (zI j50) :: .int (zI j51) :: .int (zI j52) :: .ref y53 :: [])), (y11, .inl (G.2.1.1, 52, .inl (aI w11))), (y38, .inl (G.2.1.2.2, 117649, .inr (.inr (.inr (.inl (aD (if u.1 = 0 then u.2 else w38)))))))]) A) l G [(m0, .inr (10, .int (zI j0) :: .int (zI j1) :: .int (zI j2) :: .int (zI j3) :: .int (zI j4) :: .ref y5 :: .int (zI j6) :: .int (zI j7) :: .int (zI j8) :: .int (zI j9) :: .int (zI j10) :: .ref y11 :: .ref y12 :: .int (zI j13) :: .int (zI j14) :: .int (zI j15) :: .int (zI j16) :: .int (zI j17) :: .ref y18 :: .int (zI j19) :: .int (zI j20) :: .ref y21 :: .ref y22 :: .ref y23 :: .ref y24 :: .ref y25 :: .ref y26 :: .ref y27 :: .ref y28 :: .ref y29 :: .int (zI j30) :: .int (zI j31) :: .int (zI j32) :: .int (zI j33) :: .int (zI j34) :: .int (zI j35) :: .int (zI j36) :: .int (zI j37) :: .ref y38 :: .int (zI j39) :: .ref y40 :: .int (zI j41) :: .ref y42 :: .ref y43 :: .ref y44 :: .int (zI j45) :: .int (zI j46) :: .long (zL j47) :: .ref y48 :: .int (zI j49) :: .int (zI j50) :: .int (zI j51) :: .int (zI j52) :: .ref y53 :: [])), (y11, .inl (G.2.1.1, 52, .inl (aI w11))), (y38, .inl (G.2.1.2.2, 117649, .inr (.inr (.inr (.inl (aD w38))))))] [.ref m0] (by decide) rfl rfl ?_ z9
  intro p e s m args below meth c A ls H locs hF hr hlocks hinit hP hK hD hA hS hBd hl
  have hF : wFx p m c cX10_chance_ 3 s args wsX10_chance_ RX10 := hF
  have hl : lv_has ls 3 [(0, .ref m0)] := hl
  have hx := hF.1
  have hb := hF.2.1
  obtain ⟨Q0, hQ⟩ : ∃ q, q = (MQ below (wQd G (fun (r : UInt64) (u : (Int × (Int → UInt64))) => (u.1 = 0 ∧ j9 = 100 ∧ isE (bk w11 0) 0 ∧ isE (bk w11 0) 1 ∧ chM u.2 ∧ r = (chV (l2V (bk w11 0) j10) (l2V (bk w11 0) (1 - j10)))) ∨ (u.1 = 1 ∧ j9 ≠ 100 ∧ r = FP.dconst0) ∨ (u.1 = 2 ∧ (j9 = 100 ∧ ¬ (isE (bk w11 0) 0 ∧ isE (bk w11 0) 1)) ∧ r = FP.dconst0)) (fun (u : (Int × (Int → UInt64))) => [(m0, .inr (10, .int (zI u.1) :: .int (zI j1) :: .int (zI j2) :: .int (zI j3) :: .int (zI j4) :: .ref y5 :: .int (zI j6) :: .int (zI j7) :: .int (zI j8) :: .int (zI j9) :: .int (zI j10) :: .ref y11 :: .ref y12 :: .int (zI j13) :: .int (zI j14) :: .int (zI j15) :: .int (zI j16) :: .int (zI j17) :: .ref y18 :: .int (zI j19) :: .int (zI j20) :: .ref y21 :: .ref y22 :: .ref y23 :: .ref y24 :: .ref y25 :: .ref y26 :: .ref y27 :: .ref y28 :: .ref y29 :: .int (zI j30) :: .int (zI j31) :: .int (zI j32) :: .int (zI j33) :: .int (zI j34) :: .int (zI j35) :: .int (zI j36) :: .int (zI j37) :: .ref y38 :: .int (zI j39) :: .ref y40 :: .int (zI j41) :: .ref y42 :: .ref y43 :: .ref y44 :: .int (zI j45) :: .int (zI j46) :: .long (zL j47) :: .ref y48 :: .int (zI j49) :: .int (zI j50) :: .int (zI j51) :: .int (zI j52) :: .ref y53 :: [])), (y11, .inl (G.2.1.1, 52, .inl (aI w11))), (y38, .inl (G.2.1.2.2, 117649, .inr (.inr (.inr (.inl (aD (if u.1 = 0 then u.2 else w38)))))))]) A) args s 0 0 A) := ⟨_, rfl⟩
  rw [← hQ]
  have i_wsX100 : ∀ w ∈ wsX100, w ∈ wsX10_chance_ := (fun _ h => (List.mem_cons_of_mem _ (List.mem_append_right _ h)))
  have kf_13 : (Cond.fieldLink RX10 13 "GammonryModel" "state" "C").before args s = true := hF.2.2.2.2 _ (List.mem_cons_of_mem _ (List.mem_append_left _ (List.mem_append_left _ (List.mem_of_getElem? (i := 0) rfl))))
  have kf_168 : (Cond.fieldLink RX10 168 "GammonryModel" "side" "I").before args s = true := hF.2.2.2.2 _ (List.mem_cons_of_mem _ (List.mem_append_left _ (List.mem_append_left _ (List.mem_of_getElem? (i := 1) rfl))))
  refine lv_aload_n hx hb dX10_chance__0 rfl (lv_at hl 0 rfl) ?_
  refine lv_aload_n hx hb dX10_chance__1 rfl (lv_at hl 0 rfl) ?_
  refine z_get (k := 9) hF hK hP 0 rfl rfl i_wsX100 (by decide) kf_13 rfl dX10_chance__2 ?_
  refine z_bipush hF dX10_chance__5 (by decide) ?_
  refine z_icmp_eq (tgt := 14) hF dX10_chance__7 (by decide) (by omega) (by decide) (fun c_1 => ?_) (fun c_1 => ?_)
  · have hc_7 := c_1
    refine z_iconst hF dX10_chance__14 ?_
    refine cj_i (va_runV (As := [.int (zI 0)]) (rest := []) hF (c_X10_fails l G m0 y5 y11 y12 y18 y21 y22 y23 y24 y25 y26 y27 y28 y29 y38 y40 y42 y43 y44 y48 y53 j0 j1 j2 j3 j4 j6 j7 j8 j9 j10 j13 j14 j15 j16 j17 j19 j20 j30 j31 j32 j33 j34 j35 j36 j37 j39 j41 j45 j46 j47 j49 j50 j51 j52 0  (by omega) H.size) (cwV 1 hF.2.2.2.2 gX10_chance__X10_fails rfl rfl rfl (by decide +kernel) ⟨Nat.le_of_ble_eq_true rfl, Nat.le_of_ble_eq_true rfl⟩) (z_preV hK hP hD hS hA hBd [0] rfl rfl rfl rfl [.int (zI 0)]) rfl rfl hl.1 rfl (lv_room (Nat.le_of_ble_eq_true rfl)) dX10_chance__15 ⟨Nat.le_of_ble_eq_true rfl, Nat.le_of_ble_eq_true rfl⟩) hP hD hS hA [0] rfl (fun _ => Nat.le_of_ble_eq_true rfl) (fun r_3 u_2 H locs hw hP hD hS => ?_)
    have hP : va_P G.1 vwCl [(m0, .inr (10, .int (zI 0) :: .int (zI j1) :: .int (zI j2) :: .int (zI j3) :: .int (zI j4) :: .ref y5 :: .int (zI j6) :: .int (zI j7) :: .int (zI j8) :: .int (zI j9) :: .int (zI j10) :: .ref y11 :: .ref y12 :: .int (zI j13) :: .int (zI j14) :: .int (zI j15) :: .int (zI j16) :: .int (zI j17) :: .ref y18 :: .int (zI j19) :: .int (zI j20) :: .ref y21 :: .ref y22 :: .ref y23 :: .ref y24 :: .ref y25 :: .ref y26 :: .ref y27 :: .ref y28 :: .ref y29 :: .int (zI j30) :: .int (zI j31) :: .int (zI j32) :: .int (zI j33) :: .int (zI j34) :: .int (zI j35) :: .int (zI j36) :: .int (zI j37) :: .ref y38 :: .int (zI j39) :: .ref y40 :: .int (zI j41) :: .ref y42 :: .ref y43 :: .ref y44 :: .int (zI j45) :: .int (zI j46) :: .long (zL j47) :: .ref y48 :: .int (zI j49) :: .int (zI j50) :: .int (zI j51) :: .int (zI j52) :: .ref y53 :: [])), (y11, .inl (G.2.1.1, 52, .inl (aI w11))), (y38, .inl (G.2.1.2.2, 117649, .inr (.inr (.inr (.inl (aD w38))))))] H := hP
    have hD : va_D A [(m0, .inr (10, .int (zI 0) :: .int (zI j1) :: .int (zI j2) :: .int (zI j3) :: .int (zI j4) :: .ref y5 :: .int (zI j6) :: .int (zI j7) :: .int (zI j8) :: .int (zI j9) :: .int (zI j10) :: .ref y11 :: .ref y12 :: .int (zI j13) :: .int (zI j14) :: .int (zI j15) :: .int (zI j16) :: .int (zI j17) :: .ref y18 :: .int (zI j19) :: .int (zI j20) :: .ref y21 :: .ref y22 :: .ref y23 :: .ref y24 :: .ref y25 :: .ref y26 :: .ref y27 :: .ref y28 :: .ref y29 :: .int (zI j30) :: .int (zI j31) :: .int (zI j32) :: .int (zI j33) :: .int (zI j34) :: .int (zI j35) :: .int (zI j36) :: .int (zI j37) :: .ref y38 :: .int (zI j39) :: .ref y40 :: .int (zI j41) :: .ref y42 :: .ref y43 :: .ref y44 :: .int (zI j45) :: .int (zI j46) :: .long (zL j47) :: .ref y48 :: .int (zI j49) :: .int (zI j50) :: .int (zI j51) :: .int (zI j52) :: .ref y53 :: [])), (y11, .inl (G.2.1.1, 52, .inl (aI w11))), (y38, .inl (G.2.1.2.2, 117649, .inr (.inr (.inr (.inl (aD w38))))))] := hD
    obtain rfl := hw
    refine z_tz (b := 0) rfl ?_
    refine z_if_eq (tgt := 23) hF dX10_chance__18 (by decide) (by decide) (fun c_4 => ?_) (fun c_4 => ?_)
    · have hc_18 := c_4
      refine z_iconst hF dX10_chance__23 ?_
      refine lv_istore_n (lv' := [(1, .int (zI 1)), (0, .ref m0)]) hx hb dX10_chance__24 rfl hl (by decide) rfl (fun ls hl => ?_)
      refine z_iconst hF dX10_chance__25 ?_
      refine lv_istore_n (lv' := [(2, .int (zI 0)), (1, .int (zI 1)), (0, .ref m0)]) hx hb dX10_chance__26 rfl hl (by decide) rfl (fun ls hl => ?_)
      have L27 : ∀ (n9 : Nat) (i q : Int), (2 - i).toNat < n9 → (0 ≤ i ∧ i ≤ 2) → ((q = 1 ∧ ∀ sd : Int, 0 ≤ sd → sd < i → edC (bk w11 0) sd) ∨ (q = 0 ∧ ¬ ∀ sd : Int, 0 ≤ sd → sd < i → edC (bk w11 0) sd)) → ∀ (H : Heap) (locs : List Loc) (ls : Array Slot), va_P G.1 vwCl [(m0, .inr (10, .int (zI 0) :: .int (zI j1) :: .int (zI j2) :: .int (zI j3) :: .int (zI j4) :: .ref y5 :: .int (zI j6) :: .int (zI j7) :: .int (zI j8) :: .int (zI j9) :: .int (zI j10) :: .ref y11 :: .ref y12 :: .int (zI j13) :: .int (zI j14) :: .int (zI j15) :: .int (zI j16) :: .int (zI j17) :: .ref y18 :: .int (zI j19) :: .int (zI j20) :: .ref y21 :: .ref y22 :: .ref y23 :: .ref y24 :: .ref y25 :: .ref y26 :: .ref y27 :: .ref y28 :: .ref y29 :: .int (zI j30) :: .int (zI j31) :: .int (zI j32) :: .int (zI j33) :: .int (zI j34) :: .int (zI j35) :: .int (zI j36) :: .int (zI j37) :: .ref y38 :: .int (zI j39) :: .ref y40 :: .int (zI j41) :: .ref y42 :: .ref y43 :: .ref y44 :: .int (zI j45) :: .int (zI j46) :: .long (zL j47) :: .ref y48 :: .int (zI j49) :: .int (zI j50) :: .int (zI j51) :: .int (zI j52) :: .ref y53 :: [])), (y11, .inl (G.2.1.1, 52, .inl (aI w11))), (y38, .inl (G.2.1.2.2, 117649, .inr (.inr (.inr (.inl (aD w38))))))] H → va_D A [(m0, .inr (10, .int (zI 0) :: .int (zI j1) :: .int (zI j2) :: .int (zI j3) :: .int (zI j4) :: .ref y5 :: .int (zI j6) :: .int (zI j7) :: .int (zI j8) :: .int (zI j9) :: .int (zI j10) :: .ref y11 :: .ref y12 :: .int (zI j13) :: .int (zI j14) :: .int (zI j15) :: .int (zI j16) :: .int (zI j17) :: .ref y18 :: .int (zI j19) :: .int (zI j20) :: .ref y21 :: .ref y22 :: .ref y23 :: .ref y24 :: .ref y25 :: .ref y26 :: .ref y27 :: .ref y28 :: .ref y29 :: .int (zI j30) :: .int (zI j31) :: .int (zI j32) :: .int (zI j33) :: .int (zI j34) :: .int (zI j35) :: .int (zI j36) :: .int (zI j37) :: .ref y38 :: .int (zI j39) :: .ref y40 :: .int (zI j41) :: .ref y42 :: .ref y43 :: .ref y44 :: .int (zI j45) :: .int (zI j46) :: .long (zL j47) :: .ref y48 :: .int (zI j49) :: .int (zI j50) :: .int (zI j51) :: .int (zI j52) :: .ref y53 :: [])), (y11, .inl (G.2.1.1, 52, .inl (aI w11))), (y38, .inl (G.2.1.2.2, 117649, .inr (.inr (.inr (.inl (aD w38))))))] → va_S A s.heap H locs → lv_has ls 3 [(0, .ref m0), (1, .int (zI q)), (2, .int (zI i))] → W p l e (rmL 300 0 0) s m args below meth c H locs 0 0 Q0 (F0 m 27 ls []) := by
        intro n9
        induction n9 with
        | zero => intro i q hmu; omega
        | succ n9 ih27 =>
          intro i q hmu27 hzi hq H locs ls hP hD hS hl
          refine lv_iload_n hx hb dX10_chance__27 rfl (lv_at hl 2 rfl) ?_
          refine z_iconst hF dX10_chance__28 ?_
          refine z_icmp_ge (tgt := 76) hF dX10_chance__29 (by decide) (by omega) (by decide) (fun c_5 => ?_) (fun c_5 => ?_)
          · have hc_29 := c_5
            refine lv_aload_n hx hb dX10_chance__76 rfl (lv_at hl 0 rfl) ?_
            refine lv_iload_n hx hb dX10_chance__77 rfl (lv_at hl 1 rfl) ?_
            refine z_if_eq (tgt := 85) hF dX10_chance__78 (by decide) (by omega) (fun c_6 => ?_) (fun c_6 => ?_)
            · have hc_78 := c_6
              have hD0 : ¬ (isE (bk w11 0) 0 ∧ isE (bk w11 0) 1) := fun h9 => by rcases hq with h8 | h8; (exact absurd h8.1 (by omega)); exact h8.2 (fun sd h0 h1 => by rcases (show sd = 0 ∨ sd = 1 by omega) with h7 | h7; (rw [h7]; exact (edC_isE hvb (by omega)).mpr h9.1); (rw [h7]; exact (edC_isE hvb (by omega)).mpr h9.2))
              refine z_iconst hF dX10_chance__85 ?_
              refine cj_i (va_runV (As := [.int (zI 2)]) (rest := []) hF (c_X10_fails l G m0 y5 y11 y12 y18 y21 y22 y23 y24 y25 y26 y27 y28 y29 y38 y40 y42 y43 y44 y48 y53 0 j1 j2 j3 j4 j6 j7 j8 j9 j10 j13 j14 j15 j16 j17 j19 j20 j30 j31 j32 j33 j34 j35 j36 j37 j39 j41 j45 j46 j47 j49 j50 j51 j52 2  (by omega) H.size) (cwV 1 hF.2.2.2.2 gX10_chance__X10_fails rfl rfl rfl (by decide +kernel) ⟨Nat.le_of_ble_eq_true rfl, Nat.le_of_ble_eq_true rfl⟩) (z_preV hK hP hD hS hA hBd [0] rfl rfl rfl rfl [.int (zI 2)]) rfl rfl hl.1 rfl (lv_room (Nat.le_of_ble_eq_true rfl)) dX10_chance__86 ⟨Nat.le_of_ble_eq_true rfl, Nat.le_of_ble_eq_true rfl⟩) hP hD hS hA [0] rfl (fun _ => Nat.le_of_ble_eq_true rfl) (fun r_8 u_7 H locs hw hP hD hS => ?_)
              have hP : va_P G.1 vwCl [(m0, .inr (10, .int (zI 2) :: .int (zI j1) :: .int (zI j2) :: .int (zI j3) :: .int (zI j4) :: .ref y5 :: .int (zI j6) :: .int (zI j7) :: .int (zI j8) :: .int (zI j9) :: .int (zI j10) :: .ref y11 :: .ref y12 :: .int (zI j13) :: .int (zI j14) :: .int (zI j15) :: .int (zI j16) :: .int (zI j17) :: .ref y18 :: .int (zI j19) :: .int (zI j20) :: .ref y21 :: .ref y22 :: .ref y23 :: .ref y24 :: .ref y25 :: .ref y26 :: .ref y27 :: .ref y28 :: .ref y29 :: .int (zI j30) :: .int (zI j31) :: .int (zI j32) :: .int (zI j33) :: .int (zI j34) :: .int (zI j35) :: .int (zI j36) :: .int (zI j37) :: .ref y38 :: .int (zI j39) :: .ref y40 :: .int (zI j41) :: .ref y42 :: .ref y43 :: .ref y44 :: .int (zI j45) :: .int (zI j46) :: .long (zL j47) :: .ref y48 :: .int (zI j49) :: .int (zI j50) :: .int (zI j51) :: .int (zI j52) :: .ref y53 :: [])), (y11, .inl (G.2.1.1, 52, .inl (aI w11))), (y38, .inl (G.2.1.2.2, 117649, .inr (.inr (.inr (.inl (aD w38))))))] H := hP
              have hD : va_D A [(m0, .inr (10, .int (zI 2) :: .int (zI j1) :: .int (zI j2) :: .int (zI j3) :: .int (zI j4) :: .ref y5 :: .int (zI j6) :: .int (zI j7) :: .int (zI j8) :: .int (zI j9) :: .int (zI j10) :: .ref y11 :: .ref y12 :: .int (zI j13) :: .int (zI j14) :: .int (zI j15) :: .int (zI j16) :: .int (zI j17) :: .ref y18 :: .int (zI j19) :: .int (zI j20) :: .ref y21 :: .ref y22 :: .ref y23 :: .ref y24 :: .ref y25 :: .ref y26 :: .ref y27 :: .ref y28 :: .ref y29 :: .int (zI j30) :: .int (zI j31) :: .int (zI j32) :: .int (zI j33) :: .int (zI j34) :: .int (zI j35) :: .int (zI j36) :: .int (zI j37) :: .ref y38 :: .int (zI j39) :: .ref y40 :: .int (zI j41) :: .ref y42 :: .ref y43 :: .ref y44 :: .int (zI j45) :: .int (zI j46) :: .long (zL j47) :: .ref y48 :: .int (zI j49) :: .int (zI j50) :: .int (zI j51) :: .int (zI j52) :: .ref y53 :: [])), (y11, .inl (G.2.1.1, 52, .inl (aI w11))), (y38, .inl (G.2.1.2.2, 117649, .inr (.inr (.inr (.inl (aD w38))))))] := hD
              obtain rfl := hw
              refine z_tz (b := 1) rfl ?_
              refine z_if_eq (tgt := 96) hF dX10_chance__89 (by decide) (by decide) (fun c_9 => ?_) (fun c_9 => ?_)
              · exact absurd c_9 (by decide)
              · have hc_89 := c_9
                refine lv_dconst0 hx hb dX10_chance__92 ?_
                refine z_goto (tgt := 118) hF dX10_chance__93 (by decide) ?_
                rw [hQ]
                exact z_dret hF hr hlocks (2, w38) (by dsimp only; exact Or.inr (Or.inr ⟨rfl, ⟨by omega, hD0⟩, rfl⟩)) hP hK hD hS dX10_chance__118
            · have hc_78 := c_6
              have hD0 : ∀ sd : Int, 0 ≤ sd ∧ sd ≤ 1 → edC (bk w11 0) sd ∧ isE (bk w11 0) sd := fun sd h9 => by rcases hq with h8 | h8; (have h7 := h8.2 sd h9.1 (by omega); exact ⟨h7, (edC_isE hvb h9).mp h7⟩); exact absurd h8.1 (by omega)
              have hL1 := l2V_v hvb hj10 (hD0 j10 (by omega)).2
              have hL2 := l2V_v (sd := 1 - j10) hvb (by omega) (hD0 (1 - j10) (by omega)).2
              have hPp1 := v7_pos hL1.1 hL1.2
              have hPp2 := v7_pos hL2.1 hL2.2
              refine z_iconst hF dX10_chance__81 ?_
              refine z_goto (tgt := 86) hF dX10_chance__82 (by decide) ?_
              refine cj_i (va_runV (As := [.int (zI 0)]) (rest := []) hF (c_X10_fails l G m0 y5 y11 y12 y18 y21 y22 y23 y24 y25 y26 y27 y28 y29 y38 y40 y42 y43 y44 y48 y53 0 j1 j2 j3 j4 j6 j7 j8 j9 j10 j13 j14 j15 j16 j17 j19 j20 j30 j31 j32 j33 j34 j35 j36 j37 j39 j41 j45 j46 j47 j49 j50 j51 j52 0  (by omega) H.size) (cwV 1 hF.2.2.2.2 gX10_chance__X10_fails rfl rfl rfl (by decide +kernel) ⟨Nat.le_of_ble_eq_true rfl, Nat.le_of_ble_eq_true rfl⟩) (z_preV hK hP hD hS hA hBd [0] rfl rfl rfl rfl [.int (zI 0)]) rfl rfl hl.1 rfl (lv_room (Nat.le_of_ble_eq_true rfl)) dX10_chance__86 ⟨Nat.le_of_ble_eq_true rfl, Nat.le_of_ble_eq_true rfl⟩) hP hD hS hA [0] rfl (fun _ => Nat.le_of_ble_eq_true rfl) (fun r_11 u_10 H locs hw hP hD hS => ?_)
              have hP : va_P G.1 vwCl [(m0, .inr (10, .int (zI 0) :: .int (zI j1) :: .int (zI j2) :: .int (zI j3) :: .int (zI j4) :: .ref y5 :: .int (zI j6) :: .int (zI j7) :: .int (zI j8) :: .int (zI j9) :: .int (zI j10) :: .ref y11 :: .ref y12 :: .int (zI j13) :: .int (zI j14) :: .int (zI j15) :: .int (zI j16) :: .int (zI j17) :: .ref y18 :: .int (zI j19) :: .int (zI j20) :: .ref y21 :: .ref y22 :: .ref y23 :: .ref y24 :: .ref y25 :: .ref y26 :: .ref y27 :: .ref y28 :: .ref y29 :: .int (zI j30) :: .int (zI j31) :: .int (zI j32) :: .int (zI j33) :: .int (zI j34) :: .int (zI j35) :: .int (zI j36) :: .int (zI j37) :: .ref y38 :: .int (zI j39) :: .ref y40 :: .int (zI j41) :: .ref y42 :: .ref y43 :: .ref y44 :: .int (zI j45) :: .int (zI j46) :: .long (zL j47) :: .ref y48 :: .int (zI j49) :: .int (zI j50) :: .int (zI j51) :: .int (zI j52) :: .ref y53 :: [])), (y11, .inl (G.2.1.1, 52, .inl (aI w11))), (y38, .inl (G.2.1.2.2, 117649, .inr (.inr (.inr (.inl (aD w38))))))] H := hP
              have hD : va_D A [(m0, .inr (10, .int (zI 0) :: .int (zI j1) :: .int (zI j2) :: .int (zI j3) :: .int (zI j4) :: .ref y5 :: .int (zI j6) :: .int (zI j7) :: .int (zI j8) :: .int (zI j9) :: .int (zI j10) :: .ref y11 :: .ref y12 :: .int (zI j13) :: .int (zI j14) :: .int (zI j15) :: .int (zI j16) :: .int (zI j17) :: .ref y18 :: .int (zI j19) :: .int (zI j20) :: .ref y21 :: .ref y22 :: .ref y23 :: .ref y24 :: .ref y25 :: .ref y26 :: .ref y27 :: .ref y28 :: .ref y29 :: .int (zI j30) :: .int (zI j31) :: .int (zI j32) :: .int (zI j33) :: .int (zI j34) :: .int (zI j35) :: .int (zI j36) :: .int (zI j37) :: .ref y38 :: .int (zI j39) :: .ref y40 :: .int (zI j41) :: .ref y42 :: .ref y43 :: .ref y44 :: .int (zI j45) :: .int (zI j46) :: .long (zL j47) :: .ref y48 :: .int (zI j49) :: .int (zI j50) :: .int (zI j51) :: .int (zI j52) :: .ref y53 :: [])), (y11, .inl (G.2.1.1, 52, .inl (aI w11))), (y38, .inl (G.2.1.2.2, 117649, .inr (.inr (.inr (.inl (aD w38))))))] := hD
              obtain rfl := hw
              refine z_tz (b := 0) rfl ?_
              refine z_if_eq (tgt := 96) hF dX10_chance__89 (by decide) (by decide) (fun c_12 => ?_) (fun c_12 => ?_)
              · have hc_89 := c_12
                refine lv_aload_n hx hb dX10_chance__96 rfl (lv_at hl 0 rfl) ?_
                refine lv_aload_n hx hb dX10_chance__97 rfl (lv_at hl 0 rfl) ?_
                refine lv_aload_n hx hb dX10_chance__98 rfl (lv_at hl 0 rfl) ?_
                refine z_get (k := 10) hF hK hP 0 rfl rfl i_wsX100 (by decide) kf_168 rfl dX10_chance__99 ?_
                refine cj_i (va_runV (As := [.int (zI j10)]) (rest := [.ref m0]) hF (c_X10_ending l G m0 y5 y11 y12 y18 y21 y22 y23 y24 y25 y26 y27 y28 y29 y38 y40 y42 y43 y44 y48 y53 0 j1 j2 j3 j4 j6 j7 j8 j9 j10 j13 j14 j15 j16 j17 j19 j20 j30 j31 j32 j33 j34 j35 j36 j37 j39 j41 j45 j46 j47 j49 j50 j51 j52 w11 j10  hj10 (hvb.ok (by omega)) (hD0 j10 (by omega)).1 H.size) (cwV 1 hF.2.2.2.2 gX10_chance__X10_ending rfl rfl rfl (by decide +kernel) ⟨Nat.le_of_ble_eq_true rfl, Nat.le_of_ble_eq_true rfl⟩) (z_preV hK hP hD hS hA hBd [0, 1] rfl rfl rfl rfl [.int (zI j10)]) rfl rfl hl.1 rfl (lv_room (Nat.le_of_ble_eq_true rfl)) dX10_chance__102 ⟨Nat.le_of_ble_eq_true rfl, Nat.le_of_ble_eq_true rfl⟩) hP hD hS hA [0, 1] rfl (fun _ => Nat.le_of_ble_eq_true rfl) (fun r_14 u_13 H locs hw hP hD hS => ?_)
                have hP : va_P G.1 vwCl [(m0, .inr (10, .int (zI 0) :: .int (zI j1) :: .int (zI j2) :: .int (zI j3) :: .int (zI j4) :: .ref y5 :: .int (zI j6) :: .int (zI j7) :: .int (zI j8) :: .int (zI j9) :: .int (zI j10) :: .ref y11 :: .ref y12 :: .int (zI j13) :: .int (zI j14) :: .int (zI j15) :: .int (zI j16) :: .int (zI j17) :: .ref y18 :: .int (zI j19) :: .int (zI j20) :: .ref y21 :: .ref y22 :: .ref y23 :: .ref y24 :: .ref y25 :: .ref y26 :: .ref y27 :: .ref y28 :: .ref y29 :: .int (zI j30) :: .int (zI j31) :: .int (zI j32) :: .int (zI j33) :: .int (zI j34) :: .int (zI j35) :: .int (zI j36) :: .int (zI j37) :: .ref y38 :: .int (zI j39) :: .ref y40 :: .int (zI j41) :: .ref y42 :: .ref y43 :: .ref y44 :: .int (zI j45) :: .int (zI j46) :: .long (zL j47) :: .ref y48 :: .int (zI j49) :: .int (zI j50) :: .int (zI j51) :: .int (zI j52) :: .ref y53 :: [])), (y11, .inl (G.2.1.1, 52, .inl (aI w11))), (y38, .inl (G.2.1.2.2, 117649, .inr (.inr (.inr (.inl (aD w38))))))] H := hP
                have hD : va_D A [(m0, .inr (10, .int (zI 0) :: .int (zI j1) :: .int (zI j2) :: .int (zI j3) :: .int (zI j4) :: .ref y5 :: .int (zI j6) :: .int (zI j7) :: .int (zI j8) :: .int (zI j9) :: .int (zI j10) :: .ref y11 :: .ref y12 :: .int (zI j13) :: .int (zI j14) :: .int (zI j15) :: .int (zI j16) :: .int (zI j17) :: .ref y18 :: .int (zI j19) :: .int (zI j20) :: .ref y21 :: .ref y22 :: .ref y23 :: .ref y24 :: .ref y25 :: .ref y26 :: .ref y27 :: .ref y28 :: .ref y29 :: .int (zI j30) :: .int (zI j31) :: .int (zI j32) :: .int (zI j33) :: .int (zI j34) :: .int (zI j35) :: .int (zI j36) :: .int (zI j37) :: .ref y38 :: .int (zI j39) :: .ref y40 :: .int (zI j41) :: .ref y42 :: .ref y43 :: .ref y44 :: .int (zI j45) :: .int (zI j46) :: .long (zL j47) :: .ref y48 :: .int (zI j49) :: .int (zI j50) :: .int (zI j51) :: .int (zI j52) :: .ref y53 :: [])), (y11, .inl (G.2.1.1, 52, .inl (aI w11))), (y38, .inl (G.2.1.2.2, 117649, .inr (.inr (.inr (.inl (aD w38))))))] := hD
                obtain rfl := hw
                refine z_tz (b := (7 * l2V (bk w11 0) j10)) rfl ?_
                refine lv_aload_n hx hb dX10_chance__105 rfl (lv_at hl 0 rfl) ?_
                refine z_iconst hF dX10_chance__106 ?_
                refine lv_aload_n hx hb dX10_chance__107 rfl (lv_at hl 0 rfl) ?_
                refine z_get (k := 10) hF hK hP 0 rfl rfl i_wsX100 (by decide) kf_168 rfl dX10_chance__108 ?_
                refine z_isub hF dX10_chance__111 ?_
                refine cj_i (va_runV (As := [.int (zI (1 - j10))]) (rest := [.int (zI (7 * l2V (bk w11 0) j10)), .ref m0]) hF (c_X10_ending l G m0 y5 y11 y12 y18 y21 y22 y23 y24 y25 y26 y27 y28 y29 y38 y40 y42 y43 y44 y48 y53 0 j1 j2 j3 j4 j6 j7 j8 j9 j10 j13 j14 j15 j16 j17 j19 j20 j30 j31 j32 j33 j34 j35 j36 j37 j39 j41 j45 j46 j47 j49 j50 j51 j52 w11 (1 - j10)  (by omega) (hvb.ok (by omega)) (hD0 (1 - j10) (by omega)).1 H.size) (cwV 1 hF.2.2.2.2 gX10_chance__X10_ending rfl rfl rfl (by decide +kernel) ⟨Nat.le_of_ble_eq_true rfl, Nat.le_of_ble_eq_true rfl⟩) (z_preV hK hP hD hS hA hBd [0, 1] rfl rfl rfl rfl [.int (zI (1 - j10))]) rfl rfl hl.1 rfl (lv_room (Nat.le_of_ble_eq_true rfl)) dX10_chance__112 ⟨Nat.le_of_ble_eq_true rfl, Nat.le_of_ble_eq_true rfl⟩) hP hD hS hA [0, 1] rfl (fun _ => Nat.le_of_ble_eq_true rfl) (fun r_16 u_15 H locs hw hP hD hS => ?_)
                have hP : va_P G.1 vwCl [(m0, .inr (10, .int (zI 0) :: .int (zI j1) :: .int (zI j2) :: .int (zI j3) :: .int (zI j4) :: .ref y5 :: .int (zI j6) :: .int (zI j7) :: .int (zI j8) :: .int (zI j9) :: .int (zI j10) :: .ref y11 :: .ref y12 :: .int (zI j13) :: .int (zI j14) :: .int (zI j15) :: .int (zI j16) :: .int (zI j17) :: .ref y18 :: .int (zI j19) :: .int (zI j20) :: .ref y21 :: .ref y22 :: .ref y23 :: .ref y24 :: .ref y25 :: .ref y26 :: .ref y27 :: .ref y28 :: .ref y29 :: .int (zI j30) :: .int (zI j31) :: .int (zI j32) :: .int (zI j33) :: .int (zI j34) :: .int (zI j35) :: .int (zI j36) :: .int (zI j37) :: .ref y38 :: .int (zI j39) :: .ref y40 :: .int (zI j41) :: .ref y42 :: .ref y43 :: .ref y44 :: .int (zI j45) :: .int (zI j46) :: .long (zL j47) :: .ref y48 :: .int (zI j49) :: .int (zI j50) :: .int (zI j51) :: .int (zI j52) :: .ref y53 :: [])), (y11, .inl (G.2.1.1, 52, .inl (aI w11))), (y38, .inl (G.2.1.2.2, 117649, .inr (.inr (.inr (.inl (aD w38))))))] H := hP
                have hD : va_D A [(m0, .inr (10, .int (zI 0) :: .int (zI j1) :: .int (zI j2) :: .int (zI j3) :: .int (zI j4) :: .ref y5 :: .int (zI j6) :: .int (zI j7) :: .int (zI j8) :: .int (zI j9) :: .int (zI j10) :: .ref y11 :: .ref y12 :: .int (zI j13) :: .int (zI j14) :: .int (zI j15) :: .int (zI j16) :: .int (zI j17) :: .ref y18 :: .int (zI j19) :: .int (zI j20) :: .ref y21 :: .ref y22 :: .ref y23 :: .ref y24 :: .ref y25 :: .ref y26 :: .ref y27 :: .ref y28 :: .ref y29 :: .int (zI j30) :: .int (zI j31) :: .int (zI j32) :: .int (zI j33) :: .int (zI j34) :: .int (zI j35) :: .int (zI j36) :: .int (zI j37) :: .ref y38 :: .int (zI j39) :: .ref y40 :: .int (zI j41) :: .ref y42 :: .ref y43 :: .ref y44 :: .int (zI j45) :: .int (zI j46) :: .long (zL j47) :: .ref y48 :: .int (zI j49) :: .int (zI j50) :: .int (zI j51) :: .int (zI j52) :: .ref y53 :: [])), (y11, .inl (G.2.1.1, 52, .inl (aI w11))), (y38, .inl (G.2.1.2.2, 117649, .inr (.inr (.inr (.inl (aD w38))))))] := hD
                obtain rfl := hw
                refine z_tz (b := (7 * l2V (bk w11 0) (1 - j10))) rfl ?_
                refine cj_d (va_runV (As := [.int (zI (7 * l2V (bk w11 0) j10)), .int (zI (7 * l2V (bk w11 0) (1 - j10)))]) (rest := []) hF (c_X10_chance l G hfp 24 m0 y5 y11 y12 y18 y21 y22 y23 y24 y25 y26 y27 y28 y29 y38 y40 y42 y43 y44 y48 y53 0 j1 j2 j3 j4 j6 j7 j8 j9 j10 j13 j14 j15 j16 j17 j19 j20 j30 j31 j32 j33 j34 j35 j36 j37 j39 j41 j45 j46 j47 j49 j50 j51 j52 w38 (l2V (bk w11 0) j10) (l2V (bk w11 0) (1 - j10)) hL1.1 hL2.1 hL1.2 hL2.2 (by omega) hcI H.size) (cwV 2 hF.2.2.2.2 gX10_chance__X10_chance rfl rfl rfl (by decide +kernel) ⟨Nat.le_of_ble_eq_true rfl, Nat.le_of_ble_eq_true rfl⟩) (z_preV hK hP hD hS hA hBd [0, 2] rfl rfl rfl rfl [.int (zI (7 * l2V (bk w11 0) j10)), .int (zI (7 * l2V (bk w11 0) (1 - j10)))]) rfl rfl hl.1 rfl (lv_room (Nat.le_of_ble_eq_true rfl)) dX10_chance__115 ⟨Nat.le_of_ble_eq_true rfl, Nat.le_of_ble_eq_true rfl⟩) hP hD hS hA [0, 2] rfl (fun _ => Nat.le_of_ble_eq_true rfl) (fun r_18 u_17 H locs hw hP hD hS => ?_)
                have hP : va_P G.1 vwCl [(m0, .inr (10, .int (zI 0) :: .int (zI j1) :: .int (zI j2) :: .int (zI j3) :: .int (zI j4) :: .ref y5 :: .int (zI j6) :: .int (zI j7) :: .int (zI j8) :: .int (zI j9) :: .int (zI j10) :: .ref y11 :: .ref y12 :: .int (zI j13) :: .int (zI j14) :: .int (zI j15) :: .int (zI j16) :: .int (zI j17) :: .ref y18 :: .int (zI j19) :: .int (zI j20) :: .ref y21 :: .ref y22 :: .ref y23 :: .ref y24 :: .ref y25 :: .ref y26 :: .ref y27 :: .ref y28 :: .ref y29 :: .int (zI j30) :: .int (zI j31) :: .int (zI j32) :: .int (zI j33) :: .int (zI j34) :: .int (zI j35) :: .int (zI j36) :: .int (zI j37) :: .ref y38 :: .int (zI j39) :: .ref y40 :: .int (zI j41) :: .ref y42 :: .ref y43 :: .ref y44 :: .int (zI j45) :: .int (zI j46) :: .long (zL j47) :: .ref y48 :: .int (zI j49) :: .int (zI j50) :: .int (zI j51) :: .int (zI j52) :: .ref y53 :: [])), (y11, .inl (G.2.1.1, 52, .inl (aI w11))), (y38, .inl (G.2.1.2.2, 117649, .inr (.inr (.inr (.inl (aD u_17))))))] H := hP
                have hD : va_D A [(m0, .inr (10, .int (zI 0) :: .int (zI j1) :: .int (zI j2) :: .int (zI j3) :: .int (zI j4) :: .ref y5 :: .int (zI j6) :: .int (zI j7) :: .int (zI j8) :: .int (zI j9) :: .int (zI j10) :: .ref y11 :: .ref y12 :: .int (zI j13) :: .int (zI j14) :: .int (zI j15) :: .int (zI j16) :: .int (zI j17) :: .ref y18 :: .int (zI j19) :: .int (zI j20) :: .ref y21 :: .ref y22 :: .ref y23 :: .ref y24 :: .ref y25 :: .ref y26 :: .ref y27 :: .ref y28 :: .ref y29 :: .int (zI j30) :: .int (zI j31) :: .int (zI j32) :: .int (zI j33) :: .int (zI j34) :: .int (zI j35) :: .int (zI j36) :: .int (zI j37) :: .ref y38 :: .int (zI j39) :: .ref y40 :: .int (zI j41) :: .ref y42 :: .ref y43 :: .ref y44 :: .int (zI j45) :: .int (zI j46) :: .long (zL j47) :: .ref y48 :: .int (zI j49) :: .int (zI j50) :: .int (zI j51) :: .int (zI j52) :: .ref y53 :: [])), (y11, .inl (G.2.1.1, 52, .inl (aI w11))), (y38, .inl (G.2.1.2.2, 117649, .inr (.inr (.inr (.inl (aD u_17))))))] := hD
                obtain ⟨h_19, rfl⟩ := hw
                have hS1 := h_19
                rw [hQ]
                exact z_dret hF hr hlocks (0, u_17) (by dsimp only; exact Or.inl ⟨rfl, by omega, (hD0 0 (by omega)).2, (hD0 1 (by omega)).2, hS1, rfl⟩) hP hK hD hS dX10_chance__118
              · exact absurd c_12 (by decide)
          · have hc_29 := c_5
            refine lv_iload_n hx hb dX10_chance__32 rfl (lv_at hl 1 rfl) ?_
            refine z_if_eq (tgt := 68) hF dX10_chance__33 (by decide) (by omega) (fun c_20 => ?_) (fun c_20 => ?_)
            · have hc_33 := c_20
              refine z_iconst hF dX10_chance__68 ?_
              refine lv_istore_n (lv' := [(1, .int (zI 0)), (0, .ref m0), (2, .int (zI i))]) hx hb dX10_chance__69 rfl hl (by decide) rfl (fun ls hl => ?_)
              refine z_iinc (lv' := [(2, .int (zI (i + 1))), (1, .int (zI 0)), (0, .ref m0)]) hF dX10_chance__70 hl (k := 2) rfl (by decide) rfl (fun ls hl => ?_)
              refine z_goto (tgt := 27) hF dX10_chance__73 (by decide) ?_
              exact ih27 (i + 1) 0 (by omega) (by omega) (Or.inr ⟨rfl, fun h9 => by rcases hq with h8 | h8; (exact absurd h8.1 (by omega)); exact h8.2 (fun sd h0 h1 => h9 sd h0 (by omega))⟩) H locs ls hP hD hS (lv_sub hl [2, 1, 0] rfl)
            · have hc_33 := c_20
              have hc1 := cnM_rg (sd := i) (a := 7) (e := 26) hvb hn0 (by omega) (by omega) (by omega)
              have hc2 := cnM_rg (sd := i) (a := 1) (e := 7) hvb hn0 (by omega) (by omega) (by omega)
              have hed9 : edC (bk w11 0) i ↔ (cnM (bk w11 0) i 7 26 = 0 ∧ 1 ≤ cnM (bk w11 0) i 1 7 ∧ cnM (bk w11 0) i 1 7 ≤ 2) := Iff.rfl
              refine lv_aload_n hx hb dX10_chance__36 rfl (lv_at hl 0 rfl) ?_
              refine lv_iload_n hx hb dX10_chance__37 rfl (lv_at hl 2 rfl) ?_
              refine z_bipush hF dX10_chance__38 (by decide) ?_
              refine z_bipush hF dX10_chance__40 (by decide) ?_
              refine cj_i (va_runV (As := [.int (zI i), .int (zI 7), .int (zI 25)]) (rest := []) hF (c_X10_countMen l G m0 y5 y11 y12 y18 y21 y22 y23 y24 y25 y26 y27 y28 y29 y38 y40 y42 y43 y44 y48 y53 0 j1 j2 j3 j4 j6 j7 j8 j9 j10 j13 j14 j15 j16 j17 j19 j20 j30 j31 j32 j33 j34 j35 j36 j37 j39 j41 j45 j46 j47 j49 j50 j51 j52 w11 i 7 25  (by omega) (by omega) (by omega) H.size) (cwV 3 hF.2.2.2.2 gX10_chance__X10_countMen rfl rfl rfl (by decide +kernel) ⟨Nat.le_of_ble_eq_true rfl, Nat.le_of_ble_eq_true rfl⟩) (z_preV hK hP hD hS hA hBd [0, 1] rfl rfl rfl rfl [.int (zI i), .int (zI 7), .int (zI 25)]) rfl rfl hl.1 rfl (lv_room (Nat.le_of_ble_eq_true rfl)) dX10_chance__42 ⟨Nat.le_of_ble_eq_true rfl, Nat.le_of_ble_eq_true rfl⟩) hP hD hS hA [0, 1] rfl (fun _ => Nat.le_of_ble_eq_true rfl) (fun r_22 u_21 H locs hw hP hD hS => ?_)
              have hP : va_P G.1 vwCl [(m0, .inr (10, .int (zI 0) :: .int (zI j1) :: .int (zI j2) :: .int (zI j3) :: .int (zI j4) :: .ref y5 :: .int (zI j6) :: .int (zI j7) :: .int (zI j8) :: .int (zI j9) :: .int (zI j10) :: .ref y11 :: .ref y12 :: .int (zI j13) :: .int (zI j14) :: .int (zI j15) :: .int (zI j16) :: .int (zI j17) :: .ref y18 :: .int (zI j19) :: .int (zI j20) :: .ref y21 :: .ref y22 :: .ref y23 :: .ref y24 :: .ref y25 :: .ref y26 :: .ref y27 :: .ref y28 :: .ref y29 :: .int (zI j30) :: .int (zI j31) :: .int (zI j32) :: .int (zI j33) :: .int (zI j34) :: .int (zI j35) :: .int (zI j36) :: .int (zI j37) :: .ref y38 :: .int (zI j39) :: .ref y40 :: .int (zI j41) :: .ref y42 :: .ref y43 :: .ref y44 :: .int (zI j45) :: .int (zI j46) :: .long (zL j47) :: .ref y48 :: .int (zI j49) :: .int (zI j50) :: .int (zI j51) :: .int (zI j52) :: .ref y53 :: [])), (y11, .inl (G.2.1.1, 52, .inl (aI w11))), (y38, .inl (G.2.1.2.2, 117649, .inr (.inr (.inr (.inl (aD w38))))))] H := hP
              have hD : va_D A [(m0, .inr (10, .int (zI 0) :: .int (zI j1) :: .int (zI j2) :: .int (zI j3) :: .int (zI j4) :: .ref y5 :: .int (zI j6) :: .int (zI j7) :: .int (zI j8) :: .int (zI j9) :: .int (zI j10) :: .ref y11 :: .ref y12 :: .int (zI j13) :: .int (zI j14) :: .int (zI j15) :: .int (zI j16) :: .int (zI j17) :: .ref y18 :: .int (zI j19) :: .int (zI j20) :: .ref y21 :: .ref y22 :: .ref y23 :: .ref y24 :: .ref y25 :: .ref y26 :: .ref y27 :: .ref y28 :: .ref y29 :: .int (zI j30) :: .int (zI j31) :: .int (zI j32) :: .int (zI j33) :: .int (zI j34) :: .int (zI j35) :: .int (zI j36) :: .int (zI j37) :: .ref y38 :: .int (zI j39) :: .ref y40 :: .int (zI j41) :: .ref y42 :: .ref y43 :: .ref y44 :: .int (zI j45) :: .int (zI j46) :: .long (zL j47) :: .ref y48 :: .int (zI j49) :: .int (zI j50) :: .int (zI j51) :: .int (zI j52) :: .ref y53 :: [])), (y11, .inl (G.2.1.1, 52, .inl (aI w11))), (y38, .inl (G.2.1.2.2, 117649, .inr (.inr (.inr (.inl (aD w38))))))] := hD
              obtain rfl := hw
              refine z_tz (b := (cnM (bk w11 0) i 7 26)) rfl ?_
              refine z_if_ne (tgt := 68) hF dX10_chance__45 (by decide) (by omega) (fun c_23 => ?_) (fun c_23 => ?_)
              · have hc_45 := c_23
                refine z_iconst hF dX10_chance__68 ?_
                refine lv_istore_n (lv' := [(1, .int (zI 0)), (0, .ref m0), (2, .int (zI i))]) hx hb dX10_chance__69 rfl hl (by decide) rfl (fun ls hl => ?_)
                refine z_iinc (lv' := [(2, .int (zI (i + 1))), (1, .int (zI 0)), (0, .ref m0)]) hF dX10_chance__70 hl (k := 2) rfl (by decide) rfl (fun ls hl => ?_)
                refine z_goto (tgt := 27) hF dX10_chance__73 (by decide) ?_
                exact ih27 (i + 1) 0 (by omega) (by omega) (Or.inr ⟨rfl, fun h9 => by have h7 := hed9.mp (h9 i hzi.1 (by omega)); omega⟩) H locs ls hP hD hS (lv_sub hl [2, 1, 0] rfl)
              · have hc_45 := c_23
                refine lv_aload_n hx hb dX10_chance__48 rfl (lv_at hl 0 rfl) ?_
                refine lv_iload_n hx hb dX10_chance__49 rfl (lv_at hl 2 rfl) ?_
                refine z_iconst hF dX10_chance__50 ?_
                refine z_bipush hF dX10_chance__51 (by decide) ?_
                refine cj_i (va_runV (As := [.int (zI i), .int (zI 1), .int (zI 6)]) (rest := []) hF (c_X10_countMen l G m0 y5 y11 y12 y18 y21 y22 y23 y24 y25 y26 y27 y28 y29 y38 y40 y42 y43 y44 y48 y53 0 j1 j2 j3 j4 j6 j7 j8 j9 j10 j13 j14 j15 j16 j17 j19 j20 j30 j31 j32 j33 j34 j35 j36 j37 j39 j41 j45 j46 j47 j49 j50 j51 j52 w11 i 1 6  (by omega) (by omega) (by omega) H.size) (cwV 3 hF.2.2.2.2 gX10_chance__X10_countMen rfl rfl rfl (by decide +kernel) ⟨Nat.le_of_ble_eq_true rfl, Nat.le_of_ble_eq_true rfl⟩) (z_preV hK hP hD hS hA hBd [0, 1] rfl rfl rfl rfl [.int (zI i), .int (zI 1), .int (zI 6)]) rfl rfl hl.1 rfl (lv_room (Nat.le_of_ble_eq_true rfl)) dX10_chance__53 ⟨Nat.le_of_ble_eq_true rfl, Nat.le_of_ble_eq_true rfl⟩) hP hD hS hA [0, 1] rfl (fun _ => Nat.le_of_ble_eq_true rfl) (fun r_25 u_24 H locs hw hP hD hS => ?_)
                have hP : va_P G.1 vwCl [(m0, .inr (10, .int (zI 0) :: .int (zI j1) :: .int (zI j2) :: .int (zI j3) :: .int (zI j4) :: .ref y5 :: .int (zI j6) :: .int (zI j7) :: .int (zI j8) :: .int (zI j9) :: .int (zI j10) :: .ref y11 :: .ref y12 :: .int (zI j13) :: .int (zI j14) :: .int (zI j15) :: .int (zI j16) :: .int (zI j17) :: .ref y18 :: .int (zI j19) :: .int (zI j20) :: .ref y21 :: .ref y22 :: .ref y23 :: .ref y24 :: .ref y25 :: .ref y26 :: .ref y27 :: .ref y28 :: .ref y29 :: .int (zI j30) :: .int (zI j31) :: .int (zI j32) :: .int (zI j33) :: .int (zI j34) :: .int (zI j35) :: .int (zI j36) :: .int (zI j37) :: .ref y38 :: .int (zI j39) :: .ref y40 :: .int (zI j41) :: .ref y42 :: .ref y43 :: .ref y44 :: .int (zI j45) :: .int (zI j46) :: .long (zL j47) :: .ref y48 :: .int (zI j49) :: .int (zI j50) :: .int (zI j51) :: .int (zI j52) :: .ref y53 :: [])), (y11, .inl (G.2.1.1, 52, .inl (aI w11))), (y38, .inl (G.2.1.2.2, 117649, .inr (.inr (.inr (.inl (aD w38))))))] H := hP
                have hD : va_D A [(m0, .inr (10, .int (zI 0) :: .int (zI j1) :: .int (zI j2) :: .int (zI j3) :: .int (zI j4) :: .ref y5 :: .int (zI j6) :: .int (zI j7) :: .int (zI j8) :: .int (zI j9) :: .int (zI j10) :: .ref y11 :: .ref y12 :: .int (zI j13) :: .int (zI j14) :: .int (zI j15) :: .int (zI j16) :: .int (zI j17) :: .ref y18 :: .int (zI j19) :: .int (zI j20) :: .ref y21 :: .ref y22 :: .ref y23 :: .ref y24 :: .ref y25 :: .ref y26 :: .ref y27 :: .ref y28 :: .ref y29 :: .int (zI j30) :: .int (zI j31) :: .int (zI j32) :: .int (zI j33) :: .int (zI j34) :: .int (zI j35) :: .int (zI j36) :: .int (zI j37) :: .ref y38 :: .int (zI j39) :: .ref y40 :: .int (zI j41) :: .ref y42 :: .ref y43 :: .ref y44 :: .int (zI j45) :: .int (zI j46) :: .long (zL j47) :: .ref y48 :: .int (zI j49) :: .int (zI j50) :: .int (zI j51) :: .int (zI j52) :: .ref y53 :: [])), (y11, .inl (G.2.1.1, 52, .inl (aI w11))), (y38, .inl (G.2.1.2.2, 117649, .inr (.inr (.inr (.inl (aD w38))))))] := hD
                obtain rfl := hw
                refine z_tz (b := (cnM (bk w11 0) i 1 7)) rfl ?_
                refine z_iconst hF dX10_chance__56 ?_
                refine z_iconst hF dX10_chance__57 ?_
                refine cj_i (va_runS (As := [.int (zI (cnM (bk w11 0) i 1 7)), .int (zI 1), .int (zI 2)]) (rest := []) hF (c_X10_in l G (cnM (bk w11 0) i 1 7) 1 2  (by omega) (by omega) (by omega) H.size) (va_cwS 3 hF.2.2.2.2 gX10_chance__X10_in rfl rfl rfl (by decide +kernel) ⟨Nat.le_of_ble_eq_true rfl, Nat.le_of_ble_eq_true rfl⟩) (z_preS hK hP hD hS hA hBd [] rfl rfl [.int (zI (cnM (bk w11 0) i 1 7)), .int (zI 1), .int (zI 2)]) rfl rfl hl.1 rfl (lv_room (Nat.le_of_ble_eq_true rfl)) dX10_chance__58 ⟨Nat.le_of_ble_eq_true rfl, Nat.le_of_ble_eq_true rfl⟩) hP hD hS hA [] rfl (fun _ => Nat.le_of_ble_eq_true rfl) (fun r_27 u_26 H locs hw hP hD hS => ?_)
                have hP : va_P G.1 vwCl [(m0, .inr (10, .int (zI 0) :: .int (zI j1) :: .int (zI j2) :: .int (zI j3) :: .int (zI j4) :: .ref y5 :: .int (zI j6) :: .int (zI j7) :: .int (zI j8) :: .int (zI j9) :: .int (zI j10) :: .ref y11 :: .ref y12 :: .int (zI j13) :: .int (zI j14) :: .int (zI j15) :: .int (zI j16) :: .int (zI j17) :: .ref y18 :: .int (zI j19) :: .int (zI j20) :: .ref y21 :: .ref y22 :: .ref y23 :: .ref y24 :: .ref y25 :: .ref y26 :: .ref y27 :: .ref y28 :: .ref y29 :: .int (zI j30) :: .int (zI j31) :: .int (zI j32) :: .int (zI j33) :: .int (zI j34) :: .int (zI j35) :: .int (zI j36) :: .int (zI j37) :: .ref y38 :: .int (zI j39) :: .ref y40 :: .int (zI j41) :: .ref y42 :: .ref y43 :: .ref y44 :: .int (zI j45) :: .int (zI j46) :: .long (zL j47) :: .ref y48 :: .int (zI j49) :: .int (zI j50) :: .int (zI j51) :: .int (zI j52) :: .ref y53 :: [])), (y11, .inl (G.2.1.1, 52, .inl (aI w11))), (y38, .inl (G.2.1.2.2, 117649, .inr (.inr (.inr (.inl (aD w38))))))] H := hP
                have hD : va_D A [(m0, .inr (10, .int (zI 0) :: .int (zI j1) :: .int (zI j2) :: .int (zI j3) :: .int (zI j4) :: .ref y5 :: .int (zI j6) :: .int (zI j7) :: .int (zI j8) :: .int (zI j9) :: .int (zI j10) :: .ref y11 :: .ref y12 :: .int (zI j13) :: .int (zI j14) :: .int (zI j15) :: .int (zI j16) :: .int (zI j17) :: .ref y18 :: .int (zI j19) :: .int (zI j20) :: .ref y21 :: .ref y22 :: .ref y23 :: .ref y24 :: .ref y25 :: .ref y26 :: .ref y27 :: .ref y28 :: .ref y29 :: .int (zI j30) :: .int (zI j31) :: .int (zI j32) :: .int (zI j33) :: .int (zI j34) :: .int (zI j35) :: .int (zI j36) :: .int (zI j37) :: .ref y38 :: .int (zI j39) :: .ref y40 :: .int (zI j41) :: .ref y42 :: .ref y43 :: .ref y44 :: .int (zI j45) :: .int (zI j46) :: .long (zL j47) :: .ref y48 :: .int (zI j49) :: .int (zI j50) :: .int (zI j51) :: .int (zI j52) :: .ref y53 :: [])), (y11, .inl (G.2.1.1, 52, .inl (aI w11))), (y38, .inl (G.2.1.2.2, 117649, .inr (.inr (.inr (.inl (aD w38))))))] := hD
                rcases hw with ⟨h_28, rfl⟩ | ⟨h_29, rfl⟩
                · skip
                  refine z_if_eq (tgt := 68) hF dX10_chance__61 (by decide) (by decide) (fun c_30 => ?_) (fun c_30 => ?_)
                  · exact absurd c_30 (by decide)
                  · have hc_61 := c_30
                    refine z_iconst hF dX10_chance__64 ?_
                    refine z_goto (tgt := 69) hF dX10_chance__65 (by decide) ?_
                    refine lv_istore_n (lv' := [(1, .int (zI 1)), (0, .ref m0), (2, .int (zI i))]) hx hb dX10_chance__69 rfl hl (by decide) rfl (fun ls hl => ?_)
                    refine z_iinc (lv' := [(2, .int (zI (i + 1))), (1, .int (zI 1)), (0, .ref m0)]) hF dX10_chance__70 hl (k := 2) rfl (by decide) rfl (fun ls hl => ?_)
                    refine z_goto (tgt := 27) hF dX10_chance__73 (by decide) ?_
                    exact ih27 (i + 1) 1 (by omega) (by omega) (Or.inl ⟨rfl, fun sd h0 h1 => by rcases hq with h8 | h8; (by_cases h7 : sd = i; (rw [h7]; exact hed9.mpr ⟨by omega, by omega, by omega⟩); exact h8.2 sd h0 (by omega)); exact absurd h8.1 (by omega)⟩) H locs ls hP hD hS (lv_sub hl [2, 1, 0] rfl)
                · skip
                  refine z_if_eq (tgt := 68) hF dX10_chance__61 (by decide) (by decide) (fun c_31 => ?_) (fun c_31 => ?_)
                  · have hc_61 := c_31
                    refine z_iconst hF dX10_chance__68 ?_
                    refine lv_istore_n (lv' := [(1, .int (zI 0)), (0, .ref m0), (2, .int (zI i))]) hx hb dX10_chance__69 rfl hl (by decide) rfl (fun ls hl => ?_)
                    refine z_iinc (lv' := [(2, .int (zI (i + 1))), (1, .int (zI 0)), (0, .ref m0)]) hF dX10_chance__70 hl (k := 2) rfl (by decide) rfl (fun ls hl => ?_)
                    refine z_goto (tgt := 27) hF dX10_chance__73 (by decide) ?_
                    exact ih27 (i + 1) 0 (by omega) (by omega) (Or.inr ⟨rfl, fun h9 => by have h7 := hed9.mp (h9 i hzi.1 (by omega)); omega⟩) H locs ls hP hD hS (lv_sub hl [2, 1, 0] rfl)
                  · exact absurd c_31 (by decide)
      exact L27 _ 0 1 (Nat.lt_succ_self _) (by omega) (Or.inl ⟨rfl, fun sd h0 h1 => by omega⟩) H locs ls hP hD hS (lv_sub hl [2, 1, 0] rfl)
    · exact absurd c_4 (by decide)
  · have hc_7 := c_1
    refine z_iconst hF dX10_chance__10 ?_
    refine z_goto (tgt := 15) hF dX10_chance__11 (by decide) ?_
    refine cj_i (va_runV (As := [.int (zI 1)]) (rest := []) hF (c_X10_fails l G m0 y5 y11 y12 y18 y21 y22 y23 y24 y25 y26 y27 y28 y29 y38 y40 y42 y43 y44 y48 y53 j0 j1 j2 j3 j4 j6 j7 j8 j9 j10 j13 j14 j15 j16 j17 j19 j20 j30 j31 j32 j33 j34 j35 j36 j37 j39 j41 j45 j46 j47 j49 j50 j51 j52 1  (by omega) H.size) (cwV 1 hF.2.2.2.2 gX10_chance__X10_fails rfl rfl rfl (by decide +kernel) ⟨Nat.le_of_ble_eq_true rfl, Nat.le_of_ble_eq_true rfl⟩) (z_preV hK hP hD hS hA hBd [0] rfl rfl rfl rfl [.int (zI 1)]) rfl rfl hl.1 rfl (lv_room (Nat.le_of_ble_eq_true rfl)) dX10_chance__15 ⟨Nat.le_of_ble_eq_true rfl, Nat.le_of_ble_eq_true rfl⟩) hP hD hS hA [0] rfl (fun _ => Nat.le_of_ble_eq_true rfl) (fun r_33 u_32 H locs hw hP hD hS => ?_)
    have hP : va_P G.1 vwCl [(m0, .inr (10, .int (zI 1) :: .int (zI j1) :: .int (zI j2) :: .int (zI j3) :: .int (zI j4) :: .ref y5 :: .int (zI j6) :: .int (zI j7) :: .int (zI j8) :: .int (zI j9) :: .int (zI j10) :: .ref y11 :: .ref y12 :: .int (zI j13) :: .int (zI j14) :: .int (zI j15) :: .int (zI j16) :: .int (zI j17) :: .ref y18 :: .int (zI j19) :: .int (zI j20) :: .ref y21 :: .ref y22 :: .ref y23 :: .ref y24 :: .ref y25 :: .ref y26 :: .ref y27 :: .ref y28 :: .ref y29 :: .int (zI j30) :: .int (zI j31) :: .int (zI j32) :: .int (zI j33) :: .int (zI j34) :: .int (zI j35) :: .int (zI j36) :: .int (zI j37) :: .ref y38 :: .int (zI j39) :: .ref y40 :: .int (zI j41) :: .ref y42 :: .ref y43 :: .ref y44 :: .int (zI j45) :: .int (zI j46) :: .long (zL j47) :: .ref y48 :: .int (zI j49) :: .int (zI j50) :: .int (zI j51) :: .int (zI j52) :: .ref y53 :: [])), (y11, .inl (G.2.1.1, 52, .inl (aI w11))), (y38, .inl (G.2.1.2.2, 117649, .inr (.inr (.inr (.inl (aD w38))))))] H := hP
    have hD : va_D A [(m0, .inr (10, .int (zI 1) :: .int (zI j1) :: .int (zI j2) :: .int (zI j3) :: .int (zI j4) :: .ref y5 :: .int (zI j6) :: .int (zI j7) :: .int (zI j8) :: .int (zI j9) :: .int (zI j10) :: .ref y11 :: .ref y12 :: .int (zI j13) :: .int (zI j14) :: .int (zI j15) :: .int (zI j16) :: .int (zI j17) :: .ref y18 :: .int (zI j19) :: .int (zI j20) :: .ref y21 :: .ref y22 :: .ref y23 :: .ref y24 :: .ref y25 :: .ref y26 :: .ref y27 :: .ref y28 :: .ref y29 :: .int (zI j30) :: .int (zI j31) :: .int (zI j32) :: .int (zI j33) :: .int (zI j34) :: .int (zI j35) :: .int (zI j36) :: .int (zI j37) :: .ref y38 :: .int (zI j39) :: .ref y40 :: .int (zI j41) :: .ref y42 :: .ref y43 :: .ref y44 :: .int (zI j45) :: .int (zI j46) :: .long (zL j47) :: .ref y48 :: .int (zI j49) :: .int (zI j50) :: .int (zI j51) :: .int (zI j52) :: .ref y53 :: [])), (y11, .inl (G.2.1.1, 52, .inl (aI w11))), (y38, .inl (G.2.1.2.2, 117649, .inr (.inr (.inr (.inl (aD w38))))))] := hD
    obtain rfl := hw
    refine z_tz (b := 1) rfl ?_
    refine z_if_eq (tgt := 23) hF dX10_chance__18 (by decide) (by decide) (fun c_34 => ?_) (fun c_34 => ?_)
    · exact absurd c_34 (by decide)
    · have hc_18 := c_34
      refine lv_dconst0 hx hb dX10_chance__21 ?_
      rw [hQ]
      exact z_dret hF hr hlocks (1, w38) (by dsimp only; exact Or.inr (Or.inl ⟨rfl, by omega, rfl⟩)) hP hK hD hS dX10_chance__22
