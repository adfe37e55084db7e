/-! A NEW OBJECT; what stays from it to the first game -/
def s_0 : gS := ((45, 0, 1, -1, 0), (0, 32, 0, 0, 0, 0, 0), (fun _ => 0, fun _ => 0, 0), (fun _ => 0, fun _ => 0, fun _ => 0, 0, 32, 0), (fun _ => 0, 0, 0, 0), (0, 0, 0, 0, 0), (fun _ => 0, 25), (fun _ => dm1), (fun _ => 0, fun _ => 0, fun _ => 0, fun _ => 0, fun _ => 0, 0, 0, 0, 0), (fun _ => 0, fun _ => 0, fun _ => 0, fun _ => 0, fun _ => 0, 0, 0, 0, 0), (fun _ => 0, fun _ => 0, fun _ => 0))
def gY (seats ra : Int) (σ : gS) : Prop := g_ph σ = 45 ∧ g_op σ = 0 ∧ g_ra σ = ra ∧ (0 ≤ g_mv σ ∧ g_mv σ ≤ 1) ∧ g_sk σ = 1 ∧ g_ho σ = -1 ∧ qT seats (g_tn σ) (g_se σ) (g_ba σ) ∧ qL (g_cnt σ) (g_fw σ) (g_fc σ) (g_fh σ) (g_qw σ) (g_qc σ) (g_qh σ) ∧ chI (g_fe σ) ∧ g_fa σ = (fun _ => 0)
theorem qL_0 : qL 0 (fun _ => 0) (fun _ => 0) (fun _ => 0) (fun _ => 0) (fun _ => 0) (fun _ => 0) := ⟨⟨by decide, by decide⟩, fun _ => ⟨show (-100000 : Int) ≤ 0 by decide, show (0 : Int) ≤ 100000 by decide⟩, fun _ => ⟨show (-2000000000000000000 : Int) ≤ 0 by decide, show (0 : Int) ≤ 2000000000000000000 by decide⟩, fun _ => ⟨show (0 : Int) ≤ 0 by decide, show (0 : Int) ≤ 1073741824 by decide⟩, fun _ => ⟨show (-100000 : Int) ≤ 0 by decide, show (0 : Int) ≤ 100000 by decide⟩, fun _ => ⟨show (-2000000000000000000 : Int) ≤ 0 by decide, show (0 : Int) ≤ 2000000000000000000 by decide⟩, fun _ => ⟨show (0 : Int) ≤ 0 by decide, show (0 : Int) ≤ 1073741824 by decide⟩⟩
theorem chI_0 : chI (fun _ => dm1) := fun _ _ _ _ _ _ => Or.inl rfl
theorem gY_0 {seats : Int} (h : seats = 2) : gY seats 25 s_0 := ⟨rfl, rfl, rfl, ⟨by decide, by decide⟩, rfl, rfl, ⟨Or.inl ⟨h, rfl⟩, fun k h0 h1 => by have h2 : k < 0 := h1; omega, rfl, rfl⟩, qL_0, chI_0, rfl⟩
theorem sz_nil : ∀ n : Nat, sm (fun _ => 0) n = 0
  | 0 => rfl
  | n + 1 => by
    rw [sm, sz_nil n]
    rfl
theorem gY_seat {pl : Int} (h : 3 ≤ pl ∧ pl ≤ 6) : gY pl 25 (s_seat s_0 pl) := ⟨rfl, rfl, rfl, ⟨Int.le_refl _, show (0 : Int) ≤ 1 by decide⟩, rfl, rfl, ⟨Or.inr ⟨h.1, h.2, rfl⟩, fun k h0 h1 => ⟨h0, h1⟩, rfl, sz_nil _⟩, qL_0, chI_0, rfl⟩
section GY
variable {seats ra r : Int} {σ : gS}
theorem gY_rate (h : gY seats ra σ) : gY seats r (s_rate σ r) := ⟨h.1, h.2.1, rfl, h.2.2.2⟩
theorem gY_kn {u : Int → Int} (h : gY seats ra σ) : gY seats ra (s_kn σ u) := ⟨h.1, h.2.1, h.2.2.1, h.2.2.2⟩
theorem gY_ra (h : gY seats ra σ) (hr : 0 ≤ ra ∧ ra ≤ 100) : 0 ≤ g_ra σ ∧ g_ra σ ≤ 100 := by rw [h.2.2.1]; exact hr
theorem gY_tn (h : gY seats ra σ) : 0 ≤ g_tn σ ∧ g_tn σ ≤ 6 := by have := h.2.2.2.2.2.2.1.1; omega
theorem gY_start {va ja all : Int} (h : gY seats ra σ) (hj : ja = 0 ∨ ja = 1) (hv : va = 98 ∨ va = 110 ∨ va = 104) (ha : lyE va = all) : gI all seats 0 0 (s_start σ va 0 ja) ∧ gT all 0 0 (s_start σ va 0 ja) := by
  obtain ⟨y1, y2, y3, y4, y5, y6, y7, y8, y9, y10⟩ := h
  have hM : qM all (g_ph σ) (g_mv σ) (g_sk σ) (g_ho σ) 1 va 0 ja 0 0 0 0 := ⟨Or.inl y1, y4, Or.inl y5, fun e => by omega, by omega, rfl, hv, ha, rfl, hj, rfl, by omega, by omega, by omega⟩
  exact ⟨⟨hM, y7, y8, y9, fun _ => y10⟩, Or.inl ⟨y1, Or.inl rfl⟩⟩
end GY
