/-! what the arms ask of what stays -/
section IMORE
variable {ph mv sk ho lk op va le ja cr p0 p1 tn tu hv fi al hi0 dg dl gl ll ra cnt ln gr j2 j6 j7 j8 j36 j49 j51 j52 n : Int}
variable {se ba fd fn fr0 fa fr fw fc fh qw qc qh bs bb w5 w11 w12 w18 w21 w22 w23 w24 w25 w40 w42 w43 w48 w53 : Int → Int} {fe w38 : Int → UInt64}
theorem jzM.more (h : jzM ph sk ho lk op va le ja cr p0 p1 j2 j6 j7 j8 w5 n) : (0 ≤ cr ∧ cr ≤ 2) ∧ (j6 = 0 ∨ j6 = 1) ∧ (j7 = 0 ∨ j7 = 1) ∧ (j8 = 0 ∨ j8 = 1) ∧ (ph = 45 → (cr = 1 ↔ j7 = 1)) ∧ (ph = 100 → (cr = 1 ↔ j8 = 1)) := by
  obtain ⟨c1, c2, c3⟩ := h.2.2.2.2.2.2.2.2.2.2.1
  by_cases e : ph = 45
  · have := c1 e
    exact ⟨by omega, by omega, by omega, c3, fun _ => by omega, fun q => by omega⟩
  · have := c2 e
    exact ⟨by omega, by omega, by omega, c3, fun q => absurd q e, fun q => by omega⟩
theorem jzM.w2 (h : jzM ph sk ho lk op va le ja cr p0 p1 j2 j6 j7 j8 w5 n) : ∀ t : Int, 0 ≤ t → t ≤ 1 → w5 t = (if t = 0 then p0 else p1) := by
  obtain ⟨w0, w1⟩ := h.2.2.2.2.2.2.2.2.2.2.2.1
  intro t h0 h1
  rcases (show t = 0 ∨ t = 1 by omega) with e | e <;> subst e
  · exact w0
  · exact w1
theorem jzM.pts (h : jzM ph sk ho lk op va le ja cr p0 p1 j2 j6 j7 j8 w5 n) (hn : 0 ≤ n ∧ n ≤ 511) : (0 ≤ p0 ∧ p0 ≤ 102200) ∧ (0 ≤ p1 ∧ p1 ≤ 102200) ∧ ∀ k, -1000000 ≤ w5 k ∧ w5 k ≤ 1000000 := by
  obtain ⟨w0, w1⟩ := h.2.2.2.2.2.2.2.2.2.2.2.1
  have h5 := h.2.2.2.2.2.2.2.2.2.2.2.2.1
  have a0 := h5 0
  have a1 := h5 1
  exact ⟨by omega, by omega, fun k => by have := h5 k; omega⟩
theorem jzT.more (h : jzT tn se ba j49 j51 j52 w48 w53) : (0 ≤ tn ∧ tn ≤ 6) ∧ (tn = 0 ∨ 3 ≤ tn) ∧ (0 ≤ j49 ∧ j49 ≤ 4) ∧ (∀ k : Int, 0 ≤ k → k < tn → 0 ≤ se k ∧ se k ≤ 5) := by
  have h1 := h.1
  have h2 := h.2.1
  have h3 := h.2.2.1
  refine ⟨by omega, by omega, ?_, fun k h0 h4 => ?_⟩
  · by_cases e : tn = 0
    · have := h2 e
      omega
    · have := (h3 (by omega)).1
      omega
  · have := h.2.2.2.2.1 k h0 h4
    omega
theorem jzF_mk (h1 : 0 ≤ ra ∧ ra ≤ 100) (h2 : chI fe) (h3 : chM w38) (h4 : ∀ i j : Int, 2 ≤ i → i < 27 → 0 ≤ j → j < 2 → w40 (27 * i + j) = 0) : jzF ra fe w38 w40 := ⟨h1, h2, h3, h4⟩
theorem jzR_mk (h1 : ∀ k, -100000 ≤ qw k ∧ qw k ≤ 100000) (h2 : ∀ k, -2000000000000000000 ≤ qc k ∧ qc k ≤ 2000000000000000000) (h3 : ∀ k, 0 ≤ qh k ∧ qh k ≤ 1073741824) (h4 : -100000 ≤ j36 ∧ j36 ≤ 100000) : jzR qw qc qh j36 := ⟨h1, h2, h3, h4⟩
theorem jzL.more (h : jzL ph mv dg dl cnt ln gr fr fw fc fh bs w21 w22 w23 w24 w25) (hp : ph = 114) : RepP bs mv (plc mv bs dg dl).2 fr fw cnt gr ∧ (∀ r ∈ (plc mv bs dg dl).2, lgR mv bs r ∧ r.length ≤ 4) ∧ PlE mv bs (plc mv bs dg dl).2 w21 cnt ∧ (plc mv bs dg dl).2.length ≤ 4096 ∧ gr = bsN bs mv (plc mv bs dg dl).2 ∧ 0 < cnt := by
  obtain ⟨l1, l2, l3, l4, l5, l6, l7, l8, l9⟩ := h
  obtain ⟨hR, hP, hlg⟩ := l9 hp
  have h1 := hR.1
  have h2 := plc_pos mv bs dg dl
  exact ⟨hR, fun r hr => ⟨(hlg r hr).1, by have := (hlg r hr).2; omega⟩, hP.e, by omega, RepP_b hR, by omega⟩
end IMORE
theorem lwInv_0 : lwInv 45 0 1 (-1) 0 0 32 0 0 0 0 0 0 0 32 0 0 0 0 0 0 0 25 0 0 0 0 0 0 0 0 0 0 0 (fun _ => 0) (fun _ => 0) (fun _ => 0) (fun _ => 0) (fun _ => 0) (fun _ => 0) (fun _ => 0) (fun _ => 0) (fun _ => 0) (fun _ => 0) (fun _ => 0) (fun _ => 0) (fun _ => 0) (fun _ => 0) (fun _ => 0) (fun _ => 0) (fun _ => 0) (fun _ => 0) (fun _ => 0) (fun _ => 0) (fun _ => 0) (fun _ => 0) (fun _ => 0) (fun _ => 0) (fun _ => 0) (fun _ => 0) (fun _ => 0) (fun _ => 0) (fun _ => 0) (fun _ => dm1) (fun _ => FP.dconst0) 0 := by
  have hL : lyP 32 = (fun _ => 0) := rfl
  have hV : VB (lyE 32) (fun _ => 0) := by
    have := iz_lyP 32
    rwa [hL] at this
  have hb : bk (fun _ => 0) 0 = (fun _ => 0) := by
    funext k
    unfold bk
    split <;> rfl
  refine ⟨⟨by omega, ⟨Or.inl rfl, fun q => by omega⟩, ⟨by omega, by omega, fun _ => by omega⟩, by omega, Or.inl rfl, by omega, by omega, fun q => absurd rfl q, by omega, Or.inl rfl, ⟨fun _ => Or.inl ⟨rfl, rfl, rfl⟩, fun q => absurd rfl q, Or.inl rfl⟩, ⟨rfl, rfl⟩, fun k => ⟨Int.le_refl _, by show (0 : Int) ≤ 200 * 0; omega⟩, fun q => absurd rfl q⟩,
    ⟨Or.inl rfl, fun _ => rfl, fun q => by omega, fun k h0 h1 => by omega, fun k h0 h1 => by omega, fun j k h0 h1 => by omega, fun p h0 h1 => by omega, fun k h0 h1 => by omega, rfl, by omega⟩,
    ⟨by omega, by omega, by omega, fun k h0 h1 => by omega, fun k h0 h1 => by omega, [], rfl, fun k h => absurd h (Nat.not_lt_zero _), trivial, hL, fun q => absurd rfl q⟩,
    ⟨hb.symm, by omega, hV, by rw [hb]; exact hV, fun _ => hb.symm, fun q => by omega, by omega, by omega, fun q => by omega, by omega, by omega, fun k _ _ => by show (0 : Int) ≤ 0 ∧ (0 : Int) ≤ 1000; omega, fun q => by omega⟩,
    ⟨by omega, by omega, by omega, fun k h0 h1 => by omega, fun k => by show -100000 ≤ (0 : Int) ∧ (0 : Int) ≤ 100000; omega, fun k => by show -2000000000000000000 ≤ (0 : Int) ∧ (0 : Int) ≤ 2000000000000000000; omega, fun k => by show (0 : Int) ≤ 0 ∧ (0 : Int) ≤ 1073741824; omega, fun k h0 h1 => by omega, fun q => by omega⟩,
    ⟨fun k => by show -100000 ≤ (0 : Int) ∧ (0 : Int) ≤ 100000; omega, fun k => by show -2000000000000000000 ≤ (0 : Int) ∧ (0 : Int) ≤ 2000000000000000000; omega, fun k => by show (0 : Int) ≤ 0 ∧ (0 : Int) ≤ 1073741824; omega, by omega⟩,
    ⟨by omega, fun v w _ _ _ _ => Or.inl rfl, fun v w _ _ _ _ => Or.inl rfl, fun i j _ _ _ _ => rfl⟩,
    ⟨by omega, by omega, fun k => by show (0 : Int) ≤ 0 ∧ (0 : Int) ≤ 2 * 0; omega⟩⟩
