/-! THE LAW'S START: what the Statement gives of it -/
section LBASE
variable {args : Array Value} {s : State}
theorem lb_int (h : (Cond.arrayClass .int).before args s = true) : ∃ cA : ClassId, ArrOfT s cA .int ∧ va_RA s cA .int := by
  obtain ⟨cA, kA, comp, h1, h2, h3⟩ := Cond.arrayClass_spec h
  exact ⟨cA, fun n z => ⟨fun k h => (by cases h), kA, h2, comp, h3⟩, h1⟩
theorem lb_long (h : (Cond.arrayClass .long).before args s = true) : ∃ cA : ClassId, ArrOfT s cA .long ∧ va_RA s cA .long := by
  obtain ⟨cA, kA, comp, h1, h2, h3⟩ := Cond.arrayClass_spec h
  exact ⟨cA, fun n z => ⟨fun k h => (by cases h), kA, h2, comp, h3⟩, h1⟩
theorem lb_double (h : (Cond.arrayClass .double).before args s = true) : ∃ cA : ClassId, ArrOfT s cA .double ∧ va_RA s cA .double := by
  obtain ⟨cA, kA, comp, h1, h2, h3⟩ := Cond.arrayClass_spec h
  exact ⟨cA, fun n z => ⟨fun k h => (by cases h), kA, h2, comp, h3⟩, h1⟩
set_option maxRecDepth 20000 in
theorem lb_K (hts : ∀ w ∈ lw_tbl, w.before args s = true) : ∃ (D : va_G) (ci cj cd : ClassId), va_K D vwCl [(ci, .int), (cj, .long), (cd, .double)] s := by
  obtain ⟨ci, hi1, hi2⟩ := lb_int (hts (.arrayClass .int) (by decide +kernel))
  obtain ⟨cj, hj1, hj2⟩ := lb_long (hts (.arrayClass .long) (by decide +kernel))
  obtain ⟨cd, hd1, hd2⟩ := lb_double (hts (.arrayClass .double) (by decide +kernel))
  obtain ⟨c0, i0, k0⟩ := u_known (C := RX0) (T := TX0) (N := 1) (n := 1) hts inX0 (hts (.instantiable RX0 1) (by decide +kernel))
  obtain ⟨c1, i1, k1⟩ := u_known (C := RX1) (T := TX1) (N := 1) (n := 1) hts inX1 (hts (.instantiable RX1 1) (by decide +kernel))
  obtain ⟨c2, i2, k2⟩ := u_known (C := RX2) (T := TX2) (N := 2) (n := 2) hts inX2 (hts (.instantiable RX2 2) (by decide +kernel))
  obtain ⟨c3, i3, k3⟩ := u_known (C := RX3) (T := TX3) (N := 6) (n := 6) hts inX3 (hts (.instantiable RX3 6) (by decide +kernel))
  obtain ⟨c4, i4, k4⟩ := u_known (C := RX4) (T := TX4) (N := 7) (n := 7) hts inX4 (hts (.instantiable RX4 7) (by decide +kernel))
  obtain ⟨c5, i5, k5⟩ := u_known (C := RX5) (T := TX5) (N := 10) (n := 10) hts inX5 (hts (.instantiable RX5 10) (by decide +kernel))
  obtain ⟨c6, i6, k6⟩ := u_known (C := RX6) (T := TX6) (N := 5) (n := 5) hts inX6 (hts (.instantiable RX6 5) (by decide +kernel))
  obtain ⟨c7, i7, k7⟩ := u_known (C := RX7) (T := TX7) (N := 3) (n := 3) hts inX7 (hts (.instantiable RX7 3) (by decide +kernel))
  obtain ⟨c8, i8, k8⟩ := u_known (C := RX8) (T := TX8) (N := 4) (n := 4) hts inX8 (hts (.instantiable RX8 4) (by decide +kernel))
  obtain ⟨c9, i9, k9⟩ := u_known (C := RX9) (T := TX9) (N := 17) (n := 17) hts inX9 (hts (.instantiable RX9 17) (by decide +kernel))
  refine ⟨(fun k => match k with | 0 => c0 | 1 => c1 | 2 => c2 | 3 => c3 | 4 => c4 | 5 => c5 | 6 => c6 | 7 => c7 | 8 => c8 | _ => c9, fun k => match k with | 0 => i0 | 1 => i1 | 2 => i2 | 3 => i3 | 4 => i4 | 5 => i5 | 6 => i6 | 7 => i7 | 8 => i8 | _ => i9), ci, cj, cd, fun k q hq => ?_, fun k q hq => ?_⟩
  · match k, hq with
    | 0, hq => cases hq; exact k0
    | 1, hq => cases hq; exact k1
    | 2, hq => cases hq; exact k2
    | 3, hq => cases hq; exact k3
    | 4, hq => cases hq; exact k4
    | 5, hq => cases hq; exact k5
    | 6, hq => cases hq; exact k6
    | 7, hq => cases hq; exact k7
    | 8, hq => cases hq; exact k8
    | 9, hq => cases hq; exact k9
    | k + 10, hq => cases hq
  · match k, hq with
    | 0, hq => cases hq; exact ⟨hi1, hi2⟩
    | 1, hq => cases hq; exact ⟨hj1, hj2⟩
    | 2, hq => cases hq; exact ⟨hd1, hd2⟩
    | k + 3, hq => cases hq
theorem lb_lay {n : Nat} {f : Int → Int} {nm : String} {A : Nat → Prop} (hn : n < 2 ^ 31) (hl : (Cond.laysStatic RX9 nm "[I").before args s = true) (hini : (Cond.initialized RX9).before args s = true) (harr : (Cond.arrayOf (.static RX9 nm "[I") .int).before args s = true) (hlen : (Cond.eq (.length (.static RX9 nm "[I")) (.int (Int32.ofNat n))).before args s = true) (hel : ∀ j : Nat, j < n → (Cond.eq (.elem (.static RX9 nm "[I") (.int (Int32.ofNat j))) (.int (aI f j))).before args s = true) (hA : ∀ a : Nat, a < s.heap.size → ¬ A a) : ∃ t : Nat, wLay t n f nm A s s.heap := by
  obtain ⟨t, ht, hT⟩ := va_Tof (f := fun j => .int (aI f j)) hn harr (va_eqt hlen) (fun j hj => va_eqt (hel j hj)) hA
  exact ⟨t, va_Zref hl hini ht hA, hT⟩
def lbG : List Cond := flatC (Cond.and given_1 narrow_1)
theorem lb_str1 : ∀ q ∈ wStr, Cond.stringRef q.1 q.2.1 q.2.2 ∈ lw_tbl := by decide +kernel
theorem lb_str2 : ∀ q ∈ wStr, Cond.exactly (.string q.1 q.2.1) "java/lang/String" ∈ lbG := by decide +kernel
theorem lb_nest : ∀ q ∈ wNest, Cond.methodLinkNest q.1 q.2.1 q.2.2.1 q.2.2.2 ∈ lw_tbl := by decide +kernel
theorem lb_dcl : ∀ q ∈ wDcl, Cond.declares q ∈ lw_tbl := by decide +kernel
theorem lb_cst : ∀ q ∈ wCst, Cond.castable q q ∈ lw_tbl := by decide +kernel
theorem lb_ncs : ∀ q ∈ wNcs, Cond.not (Cond.castable q.1 q.2) ∈ lbG := by decide +kernel
def lbEl (nm : String) (f : Int → Int) (n : Nat) : List Cond := (List.range n).map (fun j => Cond.eq (.elem (.static RX9 nm "[I") (.int (Int32.ofNat j))) (.int (aI f j)))
theorem lb_el {nm : String} {f : Int → Int} {n : Nat} {L : List Cond} (h : ∀ w ∈ lbEl nm f n, w ∈ L) (hs : ∀ w ∈ L, w.before args s = true) : ∀ j : Nat, j < n → (Cond.eq (.elem (.static RX9 nm "[I") (.int (Int32.ofNat j))) (.int (aI f j))).before args s = true :=
  fun j hj => hs _ (h _ (List.mem_map.mpr ⟨j, List.mem_range.mpr hj, rfl⟩))
theorem lb_elB : ∀ w ∈ lbEl "LAYOUT_B" lyB 8, w ∈ lbG := by decide +kernel
theorem lb_elN : ∀ w ∈ lbEl "LAYOUT_N" lyN 10, w ∈ lbG := by decide +kernel
theorem lb_elH : ∀ w ∈ lbEl "LAYOUT_H" lyH 6, w ∈ lbG := by decide +kernel
set_option maxRecDepth 20000 in
theorem lb_base (hts : ∀ w ∈ lw_tbl, w.before args s = true) (hgv : (Cond.and given_1 narrow_1).before args s = true) : ∃ G : wG, wK G s ∧ wBd G (fun q => s.heap.size ≤ q) s s.heap := by
  have hs : ∀ w ∈ lbG, w.before args s = true := flat_of_before _ hgv
  have hA : ∀ a : Nat, a < s.heap.size → ¬ (fun q : Nat => s.heap.size ≤ q) a := fun a h => Nat.not_le.mpr h
  obtain ⟨D, ci, cj, cd, hK⟩ := lb_K hts
  have hini := hts (.initialized RX9) (by decide +kernel)
  obtain ⟨tB, hB⟩ := lb_lay (n := 8) (f := lyB) (nm := "LAYOUT_B") (by decide) (hts _ (by decide +kernel)) hini (hs _ (by decide +kernel)) (hs _ (by decide +kernel)) (lb_el lb_elB hs) hA
  obtain ⟨tN, hN⟩ := lb_lay (n := 10) (f := lyN) (nm := "LAYOUT_N") (by decide) (hts _ (by decide +kernel)) hini (hs _ (by decide +kernel)) (hs _ (by decide +kernel)) (lb_el lb_elN hs) hA
  obtain ⟨tH, hH⟩ := lb_lay (n := 6) (f := lyH) (nm := "LAYOUT_H") (by decide) (hts _ (by decide +kernel)) hini (hs _ (by decide +kernel)) (hs _ (by decide +kernel)) (lb_el lb_elH hs) hA
  obtain ⟨tZ, hZ⟩ := lb_lay (n := 0) (f := lyZ) (nm := "NO_LAYOUT") (by decide) (hts _ (by decide +kernel)) hini (hs _ (by decide +kernel)) (hs _ (by decide +kernel)) (fun j hj => absurd hj (Nat.not_lt_zero _)) hA
  refine ⟨(D, (ci, cj, cd), (tB, tN, tH, tZ)), hK, fun q hq => ?_, fun q hq => va_Nw.of rfl (hts _ (lb_nest q hq)), vx_Zqof (hts _ (by decide +kernel)) (hts _ (by decide +kernel)) (hs _ (by decide +kernel)) hA, vx_Zqof (hts _ (by decide +kernel)) (hts _ (by decide +kernel)) (hs _ (by decide +kernel)) hA, hB, hN, hH, hZ, fun q hq => va_Nw.of rfl (hts _ (lb_dcl q hq)), fun q hq => va_Nw.of rfl (hts _ (lb_cst q hq)), fun q hq => va_Nc.of (hs _ (lb_ncs q hq))⟩
  obtain ⟨a, -, -, -, ha, -⟩ := Cond.exactly_spec (hs _ (lb_str2 q hq))
  exact ⟨a, vk_R.of (hts _ (lb_str1 q hq)) ha⟩
end LBASE
