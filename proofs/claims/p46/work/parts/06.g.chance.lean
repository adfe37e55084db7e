/-! THE REFERENCE'S CHANCES: three men's numbers of which the least is none -/
def bhV (v pl d : Int) : Int := if pl = 0 then (if v / 7 = 0 then -1 else 7 * pr7 (zmax (v / 7 - d) 0) (v % 7)) else if pl = 1 then (if v % 7 = 0 ∨ (v % 7 < d ∧ v % 7 ≠ v / 7) then -1 else 7 * pr7 (v / 7) (zmax (v % 7 - d) 0)) else -1
theorem bhV_ok {v pl d : Int} (h : v7 v) (h0 : v ≠ 0) (hd : 1 ≤ d) (hb : 0 ≤ bhV v pl d) : bhV v pl d = 7 * (bhV v pl d / 7) ∧ v7 (bhV v pl d / 7) ∧ pip (bhV v pl d / 7) + 1 ≤ pip v := by
  have r := v7_rg h
  by_cases q0 : pl = 0
  · have e : bhV v pl d = (if v / 7 = 0 then -1 else 7 * pr7 (zmax (v / 7 - d) 0) (v % 7)) := by unfold bhV; rw [if_pos q0]
    by_cases q : v / 7 = 0
    · rw [e, if_pos q] at hb; omega
    · rw [if_neg q] at e
      have h1 := mvF h h0 hd
      rw [e, show 7 * pr7 (zmax (v / 7 - d) 0) (v % 7) / 7 = pr7 (zmax (v / 7 - d) 0) (v % 7) by omega]
      exact ⟨rfl, h1.1, h1.2⟩
  · by_cases q1 : pl = 1
    · have e : bhV v pl d = (if v % 7 = 0 ∨ (v % 7 < d ∧ v % 7 ≠ v / 7) then -1 else 7 * pr7 (v / 7) (zmax (v % 7 - d) 0)) := by unfold bhV; rw [if_neg q0, if_pos q1]
      by_cases q : v % 7 = 0 ∨ (v % 7 < d ∧ v % 7 ≠ v / 7)
      · rw [e, if_pos q] at hb; omega
      · rw [if_neg q] at e
        have hz : 0 ≤ zmax (v % 7 - d) 0 ∧ zmax (v % 7 - d) 0 + 1 ≤ v % 7 := by rw [zmx0]; split <;> omega
        have h1 := pr7_v (a := v / 7) (b := zmax (v % 7 - d) 0) (by omega) (by omega)
        rw [e, show 7 * pr7 (v / 7) (zmax (v % 7 - d) 0) / 7 = pr7 (v / 7) (zmax (v % 7 - d) 0) by omega]
        refine ⟨rfl, h1.1, ?_⟩
        rw [h1.2]
        unfold pip
        omega
    · have e : bhV v pl d = -1 := by unfold bhV; rw [if_neg q0, if_neg q1]
      omega
theorem bhV_rg {v pl d : Int} (h : v7 v) (hd : 0 ≤ d) : -1 ≤ bhV v pl d ∧ bhV v pl d ≤ 1000 := by
  have r := v7_rg h
  have hp : ∀ a b : Int, pr7 a b ≤ 8 * zmax a b := fun a b => by unfold pr7 zmax zmin; split <;> split <;> omega
  unfold bhV
  split
  · split
    · omega
    · unfold pr7 zmax zmin
      split <;> split <;> split <;> omega
  · split
    · split
      · omega
      · unfold pr7 zmax zmin
        split <;> split <;> split <;> omega
    · omega
/-- the greater of two, the old one kept where they are the same -/
def mxx (b c : UInt64) : UInt64 := if bI b < bI c then c else b
theorem mxx_0 (b : UInt64) : mxx b FP.dconst0 = b := by
  unfold mxx
  rw [if_neg]
  have := bI_rg b
  rw [bI_0]
  omega
theorem mxx_B {b c : UInt64} (h1 : dB 1 b) (h2 : dB 1 c) : dB 1 (mxx b c) := by
  unfold mxx
  split
  · exact h2
  · exact h1
theorem dB_01 : dB 1 FP.dconst0 := dB_0.mono (Nat.zero_le 1) (by decide)
def rcA (rec : Nat → Nat → Int → UInt64) (tt ss : Nat) (v d k : Int) : UInt64 := if tt = 0 ∨ bhV v k d < 0 then FP.dconst0 else rec (tt - 1) ss (bhV v k d / 7)
def rcB (rec : Nat → Nat → Int → UInt64) (tt ss : Nat) (v e k : Int) : UInt64 := if ss = 0 ∨ bhV v k e < 0 then FP.dconst0 else rec tt (ss - 1) (bhV v k e / 7)
theorem rcA_0 {rec : Nat → Nat → Int → UInt64} {tt ss : Nat} {v d k : Int} (h : tt = 0 ∨ bhV v k d < 0) : rcA rec tt ss v d k = FP.dconst0 := if_pos h
theorem rcB_0 {rec : Nat → Nat → Int → UInt64} {tt ss : Nat} {v e k : Int} (h : ss = 0 ∨ bhV v k e < 0) : rcB rec tt ss v e k = FP.dconst0 := if_pos h
theorem rcA_r {rec : Nat → Nat → Int → UInt64} {tt ss : Nat} {v d k : Int} (h : 0 < tt) (h2 : 0 ≤ bhV v k d) : rcA rec tt ss v d k = rec (tt - 1) ss (bhV v k d / 7) := if_neg (by omega)
theorem rcB_r {rec : Nat → Nat → Int → UInt64} {tt ss : Nat} {v e k : Int} (h : 0 < ss) (h2 : 0 ≤ bhV v k e) : rcB rec tt ss v e k = rec tt (ss - 1) (bhV v k e / 7) := if_neg (by omega)
def rcL (rec : Nat → Nat → Int → UInt64) (tt ss : Nat) (v d e : Int) : Nat → UInt64
  | 0 => FP.dconst0
  | k + 1 => mxx (mxx (rcL rec tt ss v d e k) (rcA rec tt ss v d (k : Int))) (rcB rec tt ss v e (k : Int))
def rcF (ch : Int → Int → UInt64) (ot : Int) : Nat → Nat → Nat → Int → Int → Int → UInt64
  | 0, _, _, v, _, _ => if v = 0 then FP.dconst1 else FP.dsub FP.dconst1 (ch ot v)
  | n + 1, tt, ss, v, d, e => if v = 0 then FP.dconst1 else rcL (fun a c v' => rcF ch ot n a c v' d e) tt ss v d e 3
section RCB
variable {rec : Nat → Nat → Int → UInt64} {tt ss : Nat} {v d e : Int}
theorem rcA_B (hr : ∀ (a c : Nat) (v' : Int), v7 v' → dB 1 (rec a c v')) (hv : v7 v) (h0 : v ≠ 0) (hd : 1 ≤ d) {k : Int} : dB 1 (rcA rec tt ss v d k) := by
  unfold rcA
  split
  · exact dB_01
  · next q => exact hr _ _ _ (bhV_ok hv h0 hd (by omega)).2.1
theorem rcB_B (hr : ∀ (a c : Nat) (v' : Int), v7 v' → dB 1 (rec a c v')) (hv : v7 v) (h0 : v ≠ 0) (he : 1 ≤ e) {k : Int} : dB 1 (rcB rec tt ss v e k) := by
  unfold rcB
  split
  · exact dB_01
  · next q => exact hr _ _ _ (bhV_ok hv h0 he (by omega)).2.1
theorem rcL_B (hr : ∀ (a c : Nat) (v' : Int), v7 v' → dB 1 (rec a c v')) (hv : v7 v) (h0 : v ≠ 0) (hd : 1 ≤ d) (he : 1 ≤ e) : ∀ k : Nat, dB 1 (rcL rec tt ss v d e k)
  | 0 => dB_01
  | k + 1 => mxx_B (mxx_B (rcL_B hr hv h0 hd he k) (rcA_B hr hv h0 hd)) (rcB_B hr hv h0 he)
end RCB
theorem rcF_D (hfp : FPL) {w : Int} (hw : v7 w) (hw0 : w ≠ 0) : ∀ {n tt ss : Nat} {v d e : Int}, v7 v → 1 ≤ d → 1 ≤ e → dB 1 (rcF chV w n tt ss v d e)
  | 0, tt, ss, v, d, e, hv, _, _ => by
    rw [rcF]
    split
    · exact dB_1
    · next q => exact hfp.2.2.1 _ (chV_D hfp hw hw0 hv q)
  | n + 1, tt, ss, v, d, e, hv, hd, he => by
    rw [rcF]
    split
    · exact dB_1
    · next q => exact rcL_B (fun a c v' h => rcF_D hfp hw hw0 h hd he) hv q hd he 3
/-! the same as with two men -/
theorem bI_mxx (b c : UInt64) : bI (mxx b c) = if bI b < bI c then bI c else bI b := by unfold mxx; split <;> rfl
theorem bI_mx (b c : UInt64) : bI (mx b c) = if bI c ≤ bI b then bI b else bI c := by unfold mx; split <;> rfl
def FvM (v d : Int) : Int := pr7 (zmax (v / 7 - d) 0) (v % 7)
def Nv (v d : Int) : Int := pr7 (v / 7) (v % 7 - d)
theorem bhV_F {v d : Int} (h : v7 v) (h0 : v ≠ 0) : bhV v 0 d = 7 * FvM v d := by
  have := v7_pos h h0
  unfold bhV FvM
  rw [if_pos rfl, if_neg (by omega)]
theorem bhV_1 {v d : Int} (h : v7 v) (hd : 1 ≤ d) : (v % 7 < d ∧ v % 7 ≠ v / 7 ∧ bhV v 1 d < 0) ∨ (v % 7 = 0 ∧ bhV v 1 d < 0) ∨ (v % 7 ≠ 0 ∧ v % 7 = v / 7 ∧ bhV v 1 d = 7 * FvM v d) ∨ (d ≤ v % 7 ∧ v % 7 ≠ v / 7 ∧ bhV v 1 d = 7 * Nv v d) := by
  have r := v7_rg h
  have e : bhV v 1 d = (if v % 7 = 0 ∨ (v % 7 < d ∧ v % 7 ≠ v / 7) then -1 else 7 * pr7 (v / 7) (zmax (v % 7 - d) 0)) := by unfold bhV; rw [if_neg (by decide), if_pos rfl]
  by_cases q : v % 7 = 0 ∨ (v % 7 < d ∧ v % 7 ≠ v / 7)
  · rw [if_pos q] at e
    rcases q with q | q
    · exact Or.inr (Or.inl ⟨q, by omega⟩)
    · exact Or.inl ⟨q.1, q.2, by omega⟩
  · rw [if_neg q] at e
    by_cases q2 : v % 7 = v / 7
    · refine Or.inr (Or.inr (Or.inl ⟨by omega, q2, ?_⟩))
      rw [e, q2]
      unfold FvM pr7 zmax zmin
      rw [q2]
      congr 1
      split <;> split <;> split <;> omega
    · refine Or.inr (Or.inr (Or.inr ⟨by omega, q2, ?_⟩))
      rw [e, zmx0]
      unfold Nv
      congr 2
      split <;> omega
theorem bhV_2 (v d : Int) : bhV v 2 d = -1 := by
  unfold bhV
  rw [if_neg (by decide), if_neg (by decide)]
theorem d7 (x : Int) : 7 * x / 7 = x := by omega
/-- one die alone -/
theorem rcF_s0 {ch : Int → Int → UInt64} {ot d e nd : Int} (hd : 1 ≤ d) : ∀ {n : Nat} {v : Int}, v7 v → nd = d → rcF ch ot n n 0 v d e = grC ch ot n v d nd
  | 0, v, hv, _ => rfl
  | n + 1, v, hv, hn => by
    subst hn
    rw [rcF, grC]
    by_cases q : v = 0
    · rw [if_pos q, if_pos q]
    · rw [if_neg q, if_neg q]
      have hF := bhV_F (d := nd) hv q
      have vF := (mvF hv q hd).1
      have aF : rcA (fun a c v' => rcF ch ot n a c v' nd e) (n + 1) 0 v nd 0 = grC ch ot n (FvM v nd) nd nd := by
        unfold rcA
        have hp : 0 ≤ FvM v nd := by have := v7_rg vF; unfold FvM; omega
        rw [hF, if_neg (by omega), d7]
        exact rcF_s0 hd vF rfl
      have bz : ∀ k : Int, rcB (fun a c v' => rcF ch ot n a c v' nd e) (n + 1) 0 v e k = FP.dconst0 := fun k => rcB_0 (Or.inl rfl)
      have a2 : rcA (fun a c v' => rcF ch ot n a c v' nd e) (n + 1) 0 v nd 2 = FP.dconst0 := rcA_0 (Or.inr (by rw [bhV_2]; decide))
      have e3 : rcL (fun a c v' => rcF ch ot n a c v' nd e) (n + 1) 0 v nd e 3 = mxx (mxx FP.dconst0 (grC ch ot n (FvM v nd) nd nd)) (rcA (fun a c v' => rcF ch ot n a c v' nd e) (n + 1) 0 v nd 1) := by
        show mxx (mxx (mxx (mxx (mxx (mxx FP.dconst0 (rcA _ (n + 1) 0 v nd 0)) (rcB _ (n + 1) 0 v e 0)) (rcA _ (n + 1) 0 v nd 1)) (rcB _ (n + 1) 0 v e 1)) (rcA _ (n + 1) 0 v nd 2)) (rcB _ (n + 1) 0 v e 2) = _
        rw [aF, bz, bz, bz, a2, mxx_0, mxx_0, mxx_0, mxx_0]
      rw [e3]
      have z0 := bI_0
      have zF := bI_rg (grC ch ot n (FvM v nd) nd nd)
      rcases bhV_1 (d := nd) hv hd with h | h | h | h
      · rw [if_pos (Or.inl h.1), show rcA (fun a c v' => rcF ch ot n a c v' nd e) (n + 1) 0 v nd 1 = FP.dconst0 from rcA_0 (Or.inr h.2.2), mxx_0]
        apply bI_inj
        rw [bI_mxx]
        show _ = bI (grC ch ot n (FvM v nd) nd nd)
        split <;> omega
      · rw [if_pos (Or.inl (by omega)), show rcA (fun a c v' => rcF ch ot n a c v' nd e) (n + 1) 0 v nd 1 = FP.dconst0 from rcA_0 (Or.inr h.2), mxx_0]
        apply bI_inj
        rw [bI_mxx]
        show _ = bI (grC ch ot n (FvM v nd) nd nd)
        split <;> omega
      · have a1 : rcA (fun a c v' => rcF ch ot n a c v' nd e) (n + 1) 0 v nd 1 = grC ch ot n (FvM v nd) nd nd := by
          unfold rcA
          have hp : 0 ≤ FvM v nd := by have := v7_rg vF; unfold FvM; omega
          rw [h.2.2, if_neg (by omega), d7]
          exact rcF_s0 hd vF rfl
        rw [if_pos (Or.inr h.2.1), a1]
        apply bI_inj
        rw [bI_mxx, bI_mxx]
        show _ = bI (grC ch ot n (FvM v nd) nd nd)
        split <;> first | omega | (split <;> omega)
      · have vN := (mvN hv hd (by omega)).1
        have a1 : rcA (fun a c v' => rcF ch ot n a c v' nd e) (n + 1) 0 v nd 1 = grC ch ot n (Nv v nd) nd nd := by
          unfold rcA
          have hp : 0 ≤ Nv v nd := by have := v7_rg vN; unfold Nv; omega
          rw [h.2.2, if_neg (by omega), d7]
          exact rcF_s0 hd vN rfl
        rw [if_neg (by omega), a1]
        apply bI_inj
        rw [bI_mxx, bI_mxx, bI_mx]
        show _ = if bI (grC ch ot n (Nv v nd) nd nd) ≤ bI (grC ch ot n (FvM v nd) nd nd) then bI (grC ch ot n (FvM v nd) nd nd) else bI (grC ch ot n (Nv v nd) nd nd)
        repeat' split
        all_goals omega
theorem rcF_a {v i j : Int} {w : Int} (hi : 1 ≤ i) (hv : v7 v) : rcF chV w 4 4 0 v i i = rlC chV v w i i := by
  unfold rlC
  rw [if_pos rfl]
  exact rcF_s0 hi hv rfl
/-- one move by a die: what is left is another -/
theorem rc1_t {ch : Int → Int → UInt64} {ot d e nd : Int} {v : Int} (hd : 1 ≤ d) (hv : v7 v) : rcF ch ot 1 1 0 v d e = grC ch ot 1 v d nd := by
  have h := rcF_s0 (ch := ch) (ot := ot) (e := e) (nd := d) hd (n := 1) hv rfl
  rw [h]
  rfl
theorem rc1_s {ch : Int → Int → UInt64} {ot d e nd : Int} {v : Int} (he : 1 ≤ e) (hv : v7 v) : rcF ch ot 1 0 1 v d e = grC ch ot 1 v e nd := by
  rw [rcF, grC]
  by_cases q : v = 0
  · rw [if_pos q, if_pos q]
  · rw [if_neg q, if_neg q]
    have hF := bhV_F (d := e) hv q
    have vF := (mvF hv q he).1
    have r0 : ∀ x : Int, rcF ch ot 0 0 0 x d e = grC ch ot 0 x nd e := fun x => rfl
    have aF : rcB (fun a c v' => rcF ch ot 0 a c v' d e) 0 1 v e 0 = grC ch ot 0 (FvM v e) nd e := by
      unfold rcB
      have hp : 0 ≤ FvM v e := by have := v7_rg vF; unfold FvM; omega
      rw [hF, if_neg (by omega), d7]
      rfl
    have bz : ∀ k : Int, rcA (fun a c v' => rcF ch ot 0 a c v' d e) 0 1 v d k = FP.dconst0 := fun k => rcA_0 (Or.inl rfl)
    have a2 : rcB (fun a c v' => rcF ch ot 0 a c v' d e) 0 1 v e 2 = FP.dconst0 := rcB_0 (Or.inr (by rw [bhV_2]; decide))
    have e3 : rcL (fun a c v' => rcF ch ot 0 a c v' d e) 0 1 v d e 3 = mxx (mxx FP.dconst0 (grC ch ot 0 (FvM v e) nd e)) (rcB (fun a c v' => rcF ch ot 0 a c v' d e) 0 1 v e 1) := by
      show mxx (mxx (mxx (mxx (mxx (mxx FP.dconst0 (rcA _ 0 1 v d 0)) (rcB _ 0 1 v e 0)) (rcA _ 0 1 v d 1)) (rcB _ 0 1 v e 1)) (rcA _ 0 1 v d 2)) (rcB _ 0 1 v e 2) = _
      rw [aF, bz, bz, bz, a2, mxx_0, mxx_0, mxx_0, mxx_0]
    rw [e3]
    have z0 := bI_0
    have zF := bI_rg (grC ch ot 0 (FvM v e) nd e)
    rcases bhV_1 (d := e) hv he with h | h | h | h
    · rw [if_pos (Or.inl h.1), show rcB (fun a c v' => rcF ch ot 0 a c v' d e) 0 1 v e 1 = FP.dconst0 from rcB_0 (Or.inr h.2.2), mxx_0]
      apply bI_inj
      rw [bI_mxx]
      show _ = bI (grC ch ot 0 (FvM v e) nd e)
      split <;> omega
    · rw [if_pos (Or.inl (by omega)), show rcB (fun a c v' => rcF ch ot 0 a c v' d e) 0 1 v e 1 = FP.dconst0 from rcB_0 (Or.inr h.2), mxx_0]
      apply bI_inj
      rw [bI_mxx]
      show _ = bI (grC ch ot 0 (FvM v e) nd e)
      split <;> omega
    · have a1 : rcB (fun a c v' => rcF ch ot 0 a c v' d e) 0 1 v e 1 = grC ch ot 0 (FvM v e) nd e := by
        unfold rcB
        have hp : 0 ≤ FvM v e := by have := v7_rg vF; unfold FvM; omega
        rw [h.2.2, if_neg (by omega), d7]
        rfl
      rw [if_pos (Or.inr h.2.1), a1]
      apply bI_inj
      rw [bI_mxx, bI_mxx]
      show _ = bI (grC ch ot 0 (FvM v e) nd e)
      split <;> first | omega | (split <;> omega)
    · have vN := (mvN hv he (by omega)).1
      have a1 : rcB (fun a c v' => rcF ch ot 0 a c v' d e) 0 1 v e 1 = grC ch ot 0 (Nv v e) nd e := by
        unfold rcB
        have hp : 0 ≤ Nv v e := by have := v7_rg vN; unfold Nv; omega
        rw [h.2.2, if_neg (by omega), d7]
        rfl
      rw [if_neg (by omega), a1]
      apply bI_inj
      rw [bI_mxx, bI_mxx, bI_mx]
      show _ = if bI (grC ch ot 0 (Nv v e) nd e) ≤ bI (grC ch ot 0 (FvM v e) nd e) then bI (grC ch ot 0 (FvM v e) nd e) else bI (grC ch ot 0 (Nv v e) nd e)
      repeat' split
      all_goals omega
theorem rcF_u {v i j : Int} {w : Int} (hi : 1 ≤ i) (hj : 1 ≤ j) (hij : j ≠ i) (hv : v7 v) : rcF chV w 2 1 1 v i j = rlC chV v w j i := by
  unfold rlC
  have g2 : ∀ d nd : Int, grC chV w 2 v d nd = (if v = 0 then FP.dconst1 else if v % 7 < d ∨ v % 7 = v / 7 then grC chV w 1 (FvM v d) nd d else mx (grC chV w 1 (FvM v d) nd d) (grC chV w 1 (Nv v d) nd d)) := fun d nd => rfl
  rw [if_neg hij, rcF, g2, g2]
  by_cases q : v = 0
  · rw [if_pos q, if_pos q, if_pos q]
    apply bI_inj
    rw [bI_mx, if_pos (Int.le_refl _)]
  · rw [if_neg q, if_neg q, if_neg q]
    have hFi := bhV_F (d := i) hv q
    have hFj := bhV_F (d := j) hv q
    have vFi := (mvF hv q hi).1
    have vFj := (mvF hv q hj).1
    have aF : rcA (fun a c v' => rcF chV w 1 a c v' i j) 1 1 v i 0 = grC chV w 1 (FvM v i) j i := by
      unfold rcA
      have hp : 0 ≤ FvM v i := by have := v7_rg vFi; unfold FvM; omega
      rw [hFi, if_neg (by omega), d7]
      exact rc1_s hj vFi
    have bF : rcB (fun a c v' => rcF chV w 1 a c v' i j) 1 1 v j 0 = grC chV w 1 (FvM v j) i j := by
      unfold rcB
      have hp : 0 ≤ FvM v j := by have := v7_rg vFj; unfold FvM; omega
      rw [hFj, if_neg (by omega), d7]
      exact rc1_t hi vFj
    have a2 : rcA (fun a c v' => rcF chV w 1 a c v' i j) 1 1 v i 2 = FP.dconst0 := rcA_0 (Or.inr (by rw [bhV_2]; decide))
    have b2 : rcB (fun a c v' => rcF chV w 1 a c v' i j) 1 1 v j 2 = FP.dconst0 := rcB_0 (Or.inr (by rw [bhV_2]; decide))
    have hA : ∃ X : UInt64, rcA (fun a c v' => rcF chV w 1 a c v' i j) 1 1 v i 1 = X ∧ bI (if v % 7 < i ∨ v % 7 = v / 7 then grC chV w 1 (FvM v i) j i else mx (grC chV w 1 (FvM v i) j i) (grC chV w 1 (Nv v i) j i)) = (if bI X ≤ bI (grC chV w 1 (FvM v i) j i) then bI (grC chV w 1 (FvM v i) j i) else bI X) := by
      have z0 := bI_0
      have zF := bI_rg (grC chV w 1 (FvM v i) j i)
      rcases bhV_1 (d := i) hv hi with h | h | h | h
      · refine ⟨_, rcA_0 (Or.inr h.2.2), ?_⟩
        rw [if_pos (Or.inl h.1), z0, if_pos zF]
      · refine ⟨_, rcA_0 (Or.inr h.2), ?_⟩
        rw [if_pos (Or.inl (by omega)), z0, if_pos zF]
      · refine ⟨grC chV w 1 (FvM v i) j i, ?_, ?_⟩
        · unfold rcA
          have hp : 0 ≤ FvM v i := by have := v7_rg vFi; unfold FvM; omega
          rw [h.2.2, if_neg (by omega), d7]
          exact rc1_s hj vFi
        · rw [if_pos (Or.inr h.2.1), if_pos (Int.le_refl _)]
      · have vN := (mvN hv hi (by omega)).1
        refine ⟨grC chV w 1 (Nv v i) j i, ?_, ?_⟩
        · unfold rcA
          have hp : 0 ≤ Nv v i := by have := v7_rg vN; unfold Nv; omega
          rw [h.2.2, if_neg (by omega), d7]
          exact rc1_s hj vN
        · rw [if_neg (by omega), bI_mx]
    have hB : ∃ Y : UInt64, rcB (fun a c v' => rcF chV w 1 a c v' i j) 1 1 v j 1 = Y ∧ bI (if v % 7 < j ∨ v % 7 = v / 7 then grC chV w 1 (FvM v j) i j else mx (grC chV w 1 (FvM v j) i j) (grC chV w 1 (Nv v j) i j)) = (if bI Y ≤ bI (grC chV w 1 (FvM v j) i j) then bI (grC chV w 1 (FvM v j) i j) else bI Y) := by
      have z0 := bI_0
      have zF := bI_rg (grC chV w 1 (FvM v j) i j)
      rcases bhV_1 (d := j) hv hj with h | h | h | h
      · refine ⟨_, rcB_0 (Or.inr h.2.2), ?_⟩
        rw [if_pos (Or.inl h.1), z0, if_pos zF]
      · refine ⟨_, rcB_0 (Or.inr h.2), ?_⟩
        rw [if_pos (Or.inl (by omega)), z0, if_pos zF]
      · refine ⟨grC chV w 1 (FvM v j) i j, ?_, ?_⟩
        · unfold rcB
          have hp : 0 ≤ FvM v j := by have := v7_rg vFj; unfold FvM; omega
          rw [h.2.2, if_neg (by omega), d7]
          exact rc1_t hi vFj
        · rw [if_pos (Or.inr h.2.1), if_pos (Int.le_refl _)]
      · have vN := (mvN hv hj (by omega)).1
        refine ⟨grC chV w 1 (Nv v j) i j, ?_, ?_⟩
        · unfold rcB
          have hp : 0 ≤ Nv v j := by have := v7_rg vN; unfold Nv; omega
          rw [h.2.2, if_neg (by omega), d7]
          exact rc1_t hi vN
        · rw [if_neg (by omega), bI_mx]
    obtain ⟨X, hX, hX2⟩ := hA
    obtain ⟨Y, hY, hY2⟩ := hB
    have e3 : rcL (fun a c v' => rcF chV w 1 a c v' i j) 1 1 v i j 3 = mxx (mxx (mxx (mxx FP.dconst0 (grC chV w 1 (FvM v i) j i)) (grC chV w 1 (FvM v j) i j)) X) Y := by
      show mxx (mxx (mxx (mxx (mxx (mxx FP.dconst0 (rcA _ 1 1 v i 0)) (rcB _ 1 1 v j 0)) (rcA _ 1 1 v i 1)) (rcB _ 1 1 v j 1)) (rcA _ 1 1 v i 2)) (rcB _ 1 1 v j 2) = _
      rw [aF, bF, hX, hY, a2, b2, mxx_0, mxx_0]
    rw [e3]
    apply bI_inj
    rw [bI_mxx, bI_mxx, bI_mxx, bI_mxx, bI_mx]
    show _ = if bI (if v % 7 < i ∨ v % 7 = v / 7 then grC chV w 1 (FvM v i) j i else mx (grC chV w 1 (FvM v i) j i) (grC chV w 1 (Nv v i) j i)) ≤ bI (if v % 7 < j ∨ v % 7 = v / 7 then grC chV w 1 (FvM v j) i j else mx (grC chV w 1 (FvM v j) i j) (grC chV w 1 (Nv v j) i j)) then bI (if v % 7 < j ∨ v % 7 = v / 7 then grC chV w 1 (FvM v j) i j else mx (grC chV w 1 (FvM v j) i j) (grC chV w 1 (Nv v j) i j)) else bI (if v % 7 < i ∨ v % 7 = v / 7 then grC chV w 1 (FvM v i) j i else mx (grC chV w 1 (FvM v i) j i) (grC chV w 1 (Nv v i) j i))
    rw [hX2, hY2, bI_0]
    have z1 := bI_rg (grC chV w 1 (FvM v i) j i)
    have z2 := bI_rg (grC chV w 1 (FvM v j) i j)
    generalize bI (grC chV w 1 (FvM v i) j i) = A1 at *
    generalize bI (grC chV w 1 (FvM v j) i j) = A2 at *
    have z3 := bI_rg X
    have z4 := bI_rg Y
    generalize bI X = A3 at *
    generalize bI Y = A4 at *
    clear hX2 hY2
    omega
/-- what the reference remembers -/
def chM (f : Int → UInt64) : Prop := ∀ v w : Int, v7 v → v ≠ 0 → v7 w → w ≠ 0 → f (343 * (7 * v) + 7 * w) = FP.dconst0 ∨ f (343 * (7 * v) + 7 * w) = chV v w
theorem chM_up {f : Int → UInt64} (h : chM f) {v w : Int} (h1 : v7 v) (h3 : v7 w) : chM (upD f (343 * (7 * v) + 7 * w) (chV v w)) := by
  intro v' w' a b c d
  have r1 := v7_rg h1
  have r2 := v7_rg h3
  have r3 := v7_rg a
  have r4 := v7_rg c
  by_cases q : v' = v ∧ w' = w
  · rw [q.1, q.2, upD_s]
    exact Or.inr rfl
  · rw [upD_n _ _ (by omega)]
    exact h v' w' a b c d
/-! endings by the reference -/
def itE (p : Int) : Nat → Int × Int → Int × Int
  | 0, s => s
  | n + 1, s => (7 * (itE p n s).1 + p, (itE p n s).2 + 1)
def enE (b : Int → Int) (sd : Int) : Nat → Int × Int
  | 0 => (0, 0)
  | n + 1 => itE (6 - (n : Int)) (b (26 * sd + (6 - (n : Int)))).toNat (enE b sd n)
def edC (b : Int → Int) (sd : Int) : Prop := cnM b sd 7 26 = 0 ∧ 1 ≤ cnM b sd 1 7 ∧ cnM b sd 1 7 ≤ 2
theorem cnM_1_7 (b : Int → Int) (sd : Int) : cnM b sd 1 7 = b (26 * sd + 1) + b (26 * sd + 2) + b (26 * sd + 3) + b (26 * sd + 4) + b (26 * sd + 5) + b (26 * sd + 6) := by
  have h : ∀ e : Int, 1 ≤ e → cnM b sd 1 (e + 1) = cnM b sd 1 e + b (26 * sd + e) := fun e he => cnM_s he
  have h1 := h 1 (by decide)
  have h2 := h 2 (by decide)
  have h3 := h 3 (by decide)
  have h4 := h 4 (by decide)
  have h5 := h 5 (by decide)
  have h6 := h 6 (by decide)
  have h0 := cnM_0 b sd 1
  rw [show (1 : Int) + 1 = 2 from rfl] at h1
  rw [show (2 : Int) + 1 = 3 from rfl] at h2
  rw [show (3 : Int) + 1 = 4 from rfl] at h3
  rw [show (4 : Int) + 1 = 5 from rfl] at h4
  rw [show (5 : Int) + 1 = 6 from rfl] at h5
  rw [show (6 : Int) + 1 = 7 from rfl] at h6
  omega
theorem cnM_z {b : Int → Int} {sd : Int} (hb : okB b) {a : Int} : ∀ {e : Int}, a ≤ e → (cnM b sd a e = 0 ↔ ∀ p : Int, a ≤ p → p < e → b (26 * sd + p) = 0) := by
  intro e he
  obtain ⟨n, rfl⟩ : ∃ n : Nat, e = a + n := ⟨(e - a).toNat, by omega⟩
  clear he
  have nn : ∀ n : Nat, 0 ≤ cnM b sd a (a + n) := fun n => sm_nonneg (fun k => (hb _).1) _
  induction n with
  | zero =>
    rw [show a + ((0 : Nat) : Int) = a by omega, cnM_0]
    exact ⟨fun _ p h1 h2 => by omega, fun _ => rfl⟩
  | succ n ih =>
    rw [show a + ((n + 1 : Nat) : Int) = (a + n) + 1 by omega, cnM_s (by omega)]
    have h1 := nn n
    have h2 := hb (26 * sd + (a + n))
    constructor
    · intro h p p1 p2
      by_cases q : p = a + n
      · rw [q]; omega
      · exact ih.mp (by omega) p p1 (by omega)
    · intro h
      have h3 := ih.mpr (fun p p1 p2 => h p p1 (by omega))
      have h4 := h (a + n) (by omega) (by omega)
      omega
theorem cnM_split (b : Int → Int) (sd : Int) {a m e : Int} (h1 : a ≤ m) (h2 : m ≤ e) : cnM b sd a e = cnM b sd a m + cnM b sd m e := by
  obtain ⟨n, rfl⟩ : ∃ n : Nat, e = m + n := ⟨(e - m).toNat, by omega⟩
  clear h2
  induction n with
  | zero => rw [show m + ((0 : Nat) : Int) = m by omega, cnM_0]; omega
  | succ n ih =>
    rw [show m + ((n + 1 : Nat) : Int) = (m + n) + 1 by omega, cnM_s (by omega), cnM_s (by omega), ih]
    omega
theorem cnM_men (b : Int → Int) (sd : Int) : men b sd - b (26 * sd + 0) = cnM b sd 1 26 := by
  have h1 := cnM_split b sd (a := 0) (m := 1) (e := 26) (by decide) (by decide)
  have h2 := cnM_s (b := b) (sd := sd) (a := 0) (e := 0) (by decide)
  rw [cnM_0, show (0 : Int) + 1 = 1 from rfl] at h2
  have h3 : men b sd = cnM b sd 0 26 := by
    unfold men cnM
    rw [show (26 : Int) - 0 = 26 from rfl]
    exact sz_congr (fun k _ _ => by show b (26 * sd + k) = b (26 * sd + (0 + k)); rw [Int.zero_add])
  omega
theorem edC_isE {n0 sd : Int} {b : Int → Int} (hv : VB n0 b) (hs : 0 ≤ sd ∧ sd ≤ 1) : edC b sd ↔ isE b sd := by
  have hok : ∀ k, 0 ≤ b k := hv.1
  have hc := cnM_split b sd (a := 1) (m := 7) (e := 26) (by decide) (by decide)
  have hm := cnM_men b sd
  have n7 : 0 ≤ cnM b sd 7 26 := sm_nonneg (fun k => hok _) _
  have z : cnM b sd 7 26 = 0 ↔ far b sd ≤ 6 := by
    have key : ∀ n : Nat, (cnM b sd 7 (7 + n) = 0 ↔ ∀ p : Int, 7 ≤ p → p < 7 + n → b (26 * sd + p) = 0) := by
      intro n
      induction n with
      | zero =>
        rw [show (7 : Int) + ((0 : Nat) : Int) = 7 by omega, cnM_0]
        exact ⟨fun _ p h1 h2 => by omega, fun _ => rfl⟩
      | succ n ih =>
        have nn : 0 ≤ cnM b sd 7 (7 + n) := sm_nonneg (fun k => hok _) _
        have h2 := hok (26 * sd + (7 + n))
        rw [show (7 : Int) + ((n + 1 : Nat) : Int) = (7 + n) + 1 by omega, cnM_s (by omega)]
        constructor
        · intro h p p1 p2
          by_cases q : p = 7 + n
          · rw [q]; omega
          · exact ih.mp (by omega) p p1 (by omega)
        · intro h
          have h3 := ih.mpr (fun p p1 p2 => h p p1 (by omega))
          have h4 := h (7 + n) (by omega) (by omega)
          omega
    rw [far_lt]
    have k19 := key 19
    rw [show (7 : Int) + ((19 : Nat) : Int) = 26 from rfl] at k19
    rw [k19]
    constructor
    · intro h
      exact ⟨fun p p1 p2 p3 => by rw [h p (by omega) (by omega)]; exact Int.le_refl _, by decide⟩
    · intro h p p1 p2
      have h3 := h.1 p (by omega) (by omega) (by omega)
      have h4 := hok (26 * sd + p)
      omega
  unfold edC isE
  rw [hm, z]
  constructor
  · intro h
    have := z.mpr h.1
    exact ⟨by omega, by omega, h.1⟩
  · intro h
    have := z.mpr h.2.2
    exact ⟨h.2.2, by omega, by omega⟩
theorem nrN_at {b : Int → Int} {sd x y : Int} (hy : 1 ≤ y) (hb : 0 < b (26 * sd + y)) : ∀ n : Nat, y ≤ n → (∀ p : Int, y < p → p ≤ n → b (26 * sd + p) ≤ 0) → nrN b sd x n = y
  | 0, h, _ => by omega
  | n + 1, h, hz => by
    rw [nrN]
    by_cases q : y = ((n + 1 : Nat) : Int)
    · rw [← q, if_pos hb]
    · rw [if_neg (by have := hz ((n + 1 : Nat) : Int) (by omega) (Int.le_refl _); omega)]
      exact nrN_at hy hb n (by omega) (fun p p1 p2 => hz p p1 (by omega))
theorem nrN_no {b : Int → Int} {sd x : Int} : ∀ n : Nat, (∀ p : Int, 1 ≤ p → p ≤ n → b (26 * sd + p) ≤ 0) → nrN b sd x n = x
  | 0, _ => rfl
  | n + 1, hz => by
    rw [nrN, if_neg (by have := hz ((n + 1 : Nat) : Int) (by omega) (Int.le_refl _); omega)]
    exact nrN_no n (fun p p1 p2 => hz p p1 (by omega))
theorem far_is {b : Int → Int} {sd x : Int} (h1 : 1 ≤ x) (h2 : x ≤ 25) (hb : 0 < b (26 * sd + x)) (hz : ∀ p : Int, x < p → p ≤ 25 → b (26 * sd + p) ≤ 0) : far b sd = x := by
  have a := far_ge h1 h2 hb
  have c := (far_lt (b := b) (sd := sd) (x := x)).mpr ⟨fun p p1 p2 p3 => hz p p3 p2, by omega⟩
  omega
/-- the points above q: none, one, or two men -/
def edI (b : Int → Int) (sd q cd mm : Int) : Prop :=
  (mm = 0 ∧ cd = 0 ∧ ∀ p : Int, q < p → p ≤ 6 → b (26 * sd + p) = 0) ∨
  (mm = 1 ∧ ∃ x : Int, q < x ∧ x ≤ 6 ∧ cd = x ∧ b (26 * sd + x) = 1 ∧ ∀ p : Int, q < p → p ≤ 6 → p ≠ x → b (26 * sd + p) = 0) ∨
  (mm = 2 ∧ ∃ x y : Int, q < y ∧ y ≤ x ∧ x ≤ 6 ∧ cd = 7 * x + y ∧ ((x = y ∧ b (26 * sd + x) = 2) ∨ (y < x ∧ b (26 * sd + x) = 1 ∧ b (26 * sd + y) = 1)) ∧ ∀ p : Int, q < p → p ≤ 6 → p ≠ x → p ≠ y → b (26 * sd + p) = 0)
theorem edI_s {b : Int → Int} {sd q : Int} (hq : 1 ≤ q ∧ q ≤ 6) {s : Int × Int} (h : edI b sd q s.1 s.2) (h0 : 0 ≤ b (26 * sd + q)) (h2 : s.2 + b (26 * sd + q) ≤ 2) : edI b sd (q - 1) (itE q (b (26 * sd + q)).toNat s).1 (itE q (b (26 * sd + q)).toNat s).2 ∧ (itE q (b (26 * sd + q)).toNat s).2 = s.2 + b (26 * sd + q) := by
  have hs0 : 0 ≤ s.2 := by
    rcases h with h | h | h
    · omega
    · omega
    · omega
  rcases (show b (26 * sd + q) = 0 ∨ b (26 * sd + q) = 1 ∨ b (26 * sd + q) = 2 by omega) with e | e | e
  · rw [e]
    refine ⟨?_, by show s.2 = s.2 + 0; omega⟩
    show edI b sd (q - 1) s.1 s.2
    rcases h with ⟨a1, a2, a3⟩ | ⟨a1, x, b1, b2, b3, b4, b5⟩ | ⟨a1, x, y, c1, c2, c3, c4, c5, c6⟩
    · exact Or.inl ⟨a1, a2, fun p p1 p2 => by
        by_cases e2 : p = q
        · rw [e2]; exact e
        · exact a3 p (by omega) p2⟩
    · exact Or.inr (Or.inl ⟨a1, x, by omega, b2, b3, b4, fun p p1 p2 p3 => by
        by_cases e2 : p = q
        · rw [e2]; exact e
        · exact b5 p (by omega) p2 p3⟩)
    · exact Or.inr (Or.inr ⟨a1, x, y, by omega, c2, c3, c4, c5, fun p p1 p2 p3 p4 => by
        by_cases e2 : p = q
        · rw [e2]; exact e
        · exact c6 p (by omega) p2 p3 p4⟩)
  · have en : (b (26 * sd + q)).toNat = 1 := by omega
    rw [en, e]
    refine ⟨?_, rfl⟩
    show edI b sd (q - 1) (7 * s.1 + q) (s.2 + 1)
    rcases h with ⟨a1, a2, a3⟩ | ⟨a1, x, b1, b2, b3, b4, b5⟩ | ⟨a1, x, y, c1, c2, c3, c4, c5, c6⟩
    · exact Or.inr (Or.inl ⟨by omega, q, by omega, hq.2, by omega, e, fun p p1 p2 p3 => a3 p (by omega) p2⟩)
    · exact Or.inr (Or.inr ⟨by omega, x, q, by omega, by omega, b2, by omega, Or.inr ⟨by omega, b4, e⟩, fun p p1 p2 p3 p4 => b5 p (by omega) p2 p3⟩)
    · omega
  · have en : (b (26 * sd + q)).toNat = 2 := by omega
    rw [en, e]
    refine ⟨?_, by show s.2 + 1 + 1 = s.2 + 2; omega⟩
    show edI b sd (q - 1) (7 * (7 * s.1 + q) + q) (s.2 + 1 + 1)
    rcases h with ⟨a1, a2, a3⟩ | ⟨a1, x, b1, b2, b3, b4, b5⟩ | ⟨a1, x, y, c1, c2, c3, c4, c5, c6⟩
    · exact Or.inr (Or.inr ⟨by omega, q, q, by omega, by omega, hq.2, by omega, Or.inl ⟨rfl, e⟩, fun p p1 p2 p3 p4 => a3 p (by omega) p2⟩)
    · omega
    · omega
theorem edC_end {b : Int → Int} {sd : Int} (hb : okB b) (h : edC b sd) : ∀ cd mm : Int, (cd, mm) = enE b sd 6 → (mm = 1 ∧ 49 * cd = 7 * l2V b sd) ∨ (mm = 2 ∧ 7 * cd = 7 * l2V b sd) := by
  have key : ∀ n : Nat, n ≤ 6 → edI b sd (6 - (n : Int)) (enE b sd n).1 (enE b sd n).2 ∧ (enE b sd n).2 = cnM b sd (7 - (n : Int)) 7 := by
    intro n
    induction n with
    | zero =>
      intro _
      refine ⟨Or.inl ⟨rfl, rfl, fun p p1 p2 => by omega⟩, ?_⟩
      rw [show (7 : Int) - ((0 : Nat) : Int) = 7 by omega, cnM_0]
      rfl
    | succ n ih =>
      intro hn
      obtain ⟨i1, i2⟩ := ih (by omega)
      have hsp := cnM_split b sd (a := 6 - (n : Int)) (m := 7 - (n : Int)) (e := 7) (by omega) (by omega)
      have hone := cnM_s (b := b) (sd := sd) (a := 6 - (n : Int)) (e := 6 - (n : Int)) (by omega)
      rw [cnM_0, show 6 - (n : Int) + 1 = 7 - (n : Int) by omega] at hone
      have hrest := cnM_split b sd (a := 1) (m := 6 - (n : Int)) (e := 7) (by omega) (by omega)
      have hnn : 0 ≤ cnM b sd 1 (6 - (n : Int)) := sm_nonneg (fun k => (hb _).1) _
      have h1 := h.2.2
      have hst := edI_s (b := b) (sd := sd) (q := 6 - (n : Int)) (by omega) (s := enE b sd n) i1 (hb _).1 (by omega)
      rw [show (6 : Int) - ((n + 1 : Nat) : Int) = 6 - (n : Int) - 1 by omega, show (7 : Int) - ((n + 1 : Nat) : Int) = 6 - (n : Int) by omega]
      exact ⟨hst.1, by rw [show (enE b sd (n + 1)).2 = (itE (6 - (n : Int)) (b (26 * sd + (6 - (n : Int)))).toNat (enE b sd n)).2 from rfl, hst.2]; omega⟩
  intro cd mm hc
  obtain ⟨k1, k2⟩ := key 6 (by decide)
  rw [← hc] at k1 k2
  rw [show (6 : Int) - ((6 : Nat) : Int) = 0 by decide] at k1
  rw [show (7 : Int) - ((6 : Nat) : Int) = 1 by decide] at k2
  have k2' : mm = cnM b sd 1 7 := k2
  have hz7 : ∀ p : Int, 7 ≤ p → p ≤ 25 → b (26 * sd + p) = 0 := fun p p1 p2 => (cnM_z hb (a := 7) (e := 26) (by decide)).mp h.1 p p1 (by omega)
  rcases k1 with ⟨a1, a2, a3⟩ | ⟨a1, x, b1, b2, b3, b4, b5⟩ | ⟨a1, x, y, c1, c2, c3, c4, c5, c6⟩
  · have := h.2.1
    have a1' : mm = 0 := a1
    omega
  · left
    have b3' : cd = x := b3
    have hf : far b sd = x := far_is (by omega) (by omega) (by omega) (fun p p1 p2 => by
      by_cases q : p ≤ 6
      · rw [b5 p (by omega) q (by omega)]; exact Int.le_refl _
      · rw [hz7 p (by omega) p2]; exact Int.le_refl _)
    have hn : near b sd = 0 := by
      unfold near nrZ
      rw [hf, if_neg (by omega)]
      exact nrN_no _ (fun p p1 p2 => by rw [b5 p (by omega) (by omega) (by omega)]; exact Int.le_refl _)
    refine ⟨a1, ?_⟩
    unfold l2V
    rw [hf, hn]
    unfold pr7 zmax zmin
    rw [b3']
    split <;> first | omega | (split <;> omega)
  · right
    have c4' : cd = 7 * x + y := c4
    have hf : far b sd = x := far_is (by omega) (by omega) (by omega) (fun p p1 p2 => by
      by_cases q : p ≤ 6
      · rw [c6 p (by omega) q (by omega) (by omega)]; exact Int.le_refl _
      · rw [hz7 p (by omega) p2]; exact Int.le_refl _)
    have hn : near b sd = y := by
      unfold near nrZ
      rw [hf]
      rcases c5 with ⟨d1, d2⟩ | ⟨d1, d2, d3⟩
      · rw [if_pos (by omega)]
        rw [nrN_no _ (fun p p1 p2 => by rw [c6 p (by omega) (by omega) (by omega) (by omega)]; exact Int.le_refl _)]
        exact d1
      · exact nrN_at (by omega) (by omega) _ (by omega) (fun p p1 p2 => by rw [c6 p (by omega) (by omega) (by omega) (by omega)]; exact Int.le_refl _)
    refine ⟨a1, ?_⟩
    unfold l2V
    rw [hf, hn]
    unfold pr7 zmax zmin
    rw [c4']
    split <;> split <;> omega
