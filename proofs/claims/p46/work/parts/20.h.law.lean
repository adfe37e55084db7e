set_option maxHeartbeats 4000000 in
/-- a turn -/
theorem tn_turn (hfp : FPL) (hfm : FPM) {p : Program} {l : Launch} {e : Env} {s : State} {m : MethodId} {args : Array Value} {below : List Frame} {meth : Method} {c : Code} {G : wG} {A : Nat → Prop} {b Ln : Nat} {sx : Nat → Int32} {Q0 : State → Prop} {cells slots : Nat} {a : Nat → Nat} (hC : lwC6 p l s m args c G A b Ln sx) {all seats t dz rec : Int} {σ : gS} (hr : cells + 2600 ≤ 600130 ∧ slots + 15600 ≤ 7301080) (hall : 0 ≤ all ∧ all ≤ 15) (hI : gI all seats t dz σ) (hT : gT all t rec σ) (ht : 0 ≤ t ∧ t < 30) (hdz : 0 ≤ dz)
    (K : ∀ {dz2 rec : Int} {σ : gS} {kc ks : Nat}, gI all seats (t + 1) dz2 σ → gT all (t + 1) rec σ → gB all (t + 1) σ → 0 ≤ dz2 ∧ dz2 ≤ dz + 2 → kc ≤ cells + 2500 ∧ ks ≤ slots + 15000 → ∀ {H : Heap} {locs : List Loc} {ls : Array Slot}, va_P G.1 vwCl (gW G a σ) H → va_D A (gW G a σ) → va_S A s.heap H locs → lv_has ls 31 [(0, .ref b), (1, .ref (a 0)), (2, .int (zI all)), (3, .int (zI seats)), (5, .int (zI rec)), (6, .int (zI dz2)), (13, .int (zI (t + 1)))] → W p l e room_1 s m args below meth c H locs kc ks Q0 (F0 m 247 ls []))
    {H : Heap} {locs : List Loc} {ls : Array Slot} (hP : va_P G.1 vwCl (gW G a σ) H) (hD : va_D A (gW G a σ)) (hS : va_S A s.heap H locs) (hl : lv_has ls 31 [(0, .ref b), (1, .ref (a 0)), (2, .int (zI all)), (3, .int (zI seats)), (5, .int (zI rec)), (6, .int (zI dz)), (13, .int (zI t))]) : W p l e room_1 s m args below meth c H locs cells slots Q0 (F0 m 263 ls []) := by
  -- behind the turn: accounts, then the next turn
  have TAIL : ∀ {dz2 rec : Int} {σ : gS} {kc ks : Nat}, 0 ≤ dz2 ∧ dz2 ≤ dz + 2 → gI all seats (t + 1) dz2 σ → gB all (t + 1) σ → g_bb σ = g_bs σ → (g_ph σ = 45 ∨ (g_ph σ = 100 ∧ rec = g_tu σ)) → kc ≤ cells + 2200 ∧ ks ≤ slots + 13200 → ∀ {H : Heap} {locs : List Loc} {ls : Array Slot}, va_P G.1 vwCl (gW G a σ) H → va_D A (gW G a σ) → va_S A s.heap H locs → lv_has ls 31 [(0, .ref b), (1, .ref (a 0)), (2, .int (zI all)), (3, .int (zI seats)), (5, .int (zI rec)), (6, .int (zI dz2)), (13, .int (zI t))] → W p l e room_1 s m args below meth c H locs kc ks Q0 (F0 m 1074 ls []) := by
    intro dz2 rec σ kc ks hdz2 hI hB hbb hph hk H locs ls hP hD hS hl
    have hse := hI.2.1.1
    refine sg_9 hC (by omega) hI hB hall (kp.mk ?_) hP hD hS hl
    intro H locs ls hP hD hS hl
    refine lp_9 (cells := kc + 220) (slots := ks + 1320) hC (by omega) hI hB ?_ 8 (S9 := 0) (k9 := 0) (kc := kc + 220) (ks := ks + 1320) (by omega) (by omega) rfl (fun _ => rfl) (by omega) hP hD hS hl
    intro S9 k9 kc2 ks2 hS9 hk2 H locs ls hP hD hS hl
    refine sg_9c (cells := kc2) (slots := ks2) hC (by omega) hS9 (by omega) (kp.mk ?_) hP hD hS hl
    intro H locs ls hP hD hS hl
    refine K hI ?_ hB hdz2 (by omega) hP hD hS hl
    rcases hph with h | h
    · exact Or.inl ⟨h, Or.inr ⟨hB, hbb⟩⟩
    · exact Or.inr ⟨h.1, hB, hbb, h.2⟩
  have hP0 : g_ph σ = 45 ∨ (g_ph σ = 100 ∧ gB all t σ ∧ g_bb σ = g_bs σ ∧ rec = g_tu σ) := by
    rcases hT with h | h
    · exact Or.inl h.1
    · exact Or.inr h
  refine sg_1 hC (by omega) hI ht hP0 (kp.mk ?_) hP hD hS hl
  intro σ1 rec1 hI1 hB1 hp1 hbb1 hrec1 H locs ls hP hD hS hl
  refine sg_2 (cells := cells + 8) (slots := slots + 48) hC (by omega) hI1 hB1 hp1 hbb1 hrec1 ht (kp.mk ?_) (kp.mk ?_) hP hD hS hl
  · intro sd hsd H locs ls hP hD hS hl
    have hmv := hI1.mv
    have hrec0 : 0 ≤ rec1 := by have := gB_tu5 hI1 hB1; omega
    refine sg_3 (cells := cells + 8 + 20) (slots := slots + 48 + 120) hC (by omega) hI1 hB1 hp1 hbb1 hrec1 ht hdz hsd (kp.mk ?_) hP hD hS hl
    intro σ2 f1 f2 k n0 c0 fr0 P0 P1 hI2 hB2 hR2 hp2 hbb2 hgl2 hll2 hsd2 hrec2 hn0 hc0 hfr0 hP0 hP1 hdg hdl hf1 hf2 hk H locs ls hP hD hS hl
    have hg0 := gL_0 hI2 hB2 hR2 hp2 hbb2 hgl2 hll2 (k := k) (by omega)
    rw [← hsd2, ← hrec2, ← hn0, ← hc0, ← hfr0, ← hP0, ← hP1] at hg0
    have hn4 := gR_ln hI2 hB2 hR2
    have hc30 := hI2.2.2.1.1
    refine lp_4 (cells := cells + 8 + 20 + 40) (slots := slots + 48 + 120 + 240) hC (by omega) hall hdg hdl hf1 hf2 ?_ 6 (hits := 0) (spent := 0) (j := 0) (kc := cells + 8 + 20 + 40) (ks := slots + 48 + 120 + 240) (by omega) (by omega) hg0 (by omega) hP hD hS hl
    intro hits spent j σ3 kc ks hg hj hkc H locs ls hP hD hS hl
    refine sg_5 (cells := kc) (slots := ks) hC (by omega) hg hj (kp.mk ?_) hP hD hS hl
    intro nw H locs ls hP hD hS hl
    refine lp_5 (t := t) (dz := dz + 2) (rec := rec1) (sd := sd) (D := g_dg σ2) (E := g_dl σ2) (n0 := n0) (c0 := c0) (P0 := P0) (P1 := P1) (fr0 := fr0) (b0 := g_bs σ2) (cells := kc + 20) (slots := ks + 120) hC (by omega) ?_ 54 (p8 := 0) (f := fun _ => 0) (kc := kc + 20) (ks := ks + 120) (by omega) (by omega) (fun q h0 h1 => by omega) (by omega) hP hD hS hl
    intro p8 f kc2 ks2 hf hk2 H locs ls hP hD hS hl
    refine sg_6 (cells := kc2) (slots := ks2) hC (by omega) hg hj ht (kp.mk ?_) hP hD hS hl
    intro σ4 x1 x2 x3 x4 x5 x6 x7 x8 H locs ls hP hD hS hl
    refine sg_6b (n0 := n0) (c0 := c0) (P0 := P0) (P1 := P1) (fr0 := fr0) (b0 := g_bs σ2) (cells := kc2 + 4) (slots := ks2 + 24) hC (by omega) x1 x2 x5 x6 x7 (by omega) hrec0 hdg hdl hf1 hf2 (kp.mk ?_) hP hD hS hl
    intro H locs ls hP hD hS hl
    have hbr : ∀ q : Int, 0 ≤ g_bb σ4 q ∧ g_bb σ4 q ≤ 15 := fun q => ⟨x2.2.2.2.1.1 q, by have := x2.2.2.2.1.le q; omega⟩
    refine lp_7 (all := all) (seats := seats) (t := t) (dz := dz + 2) (rec := rec1 + 1) (sd := sd) (cells := kc2 + 4 + 4) (slots := ks2 + 24 + 24) hC (by omega) (fun q h0 h1 => by rw [x3]; exact hf q h0 h1) hbr ?_ 54 (q8 := 0) (kc := kc2 + 4 + 4) (ks := ks2 + 24 + 24) (by omega) (by omega) (by omega) hP hD hS hl
    intro q8 kc3 ks3 hk3 H locs ls hP hD hS hl
    refine sg_8 (t := t) (rec := rec1 + 1) (cells := kc3) (slots := ks3) hC (by omega) hfp hfm x1 x2 x4 x5 x8 (by omega) (kp.mk ?_) hP hD hS hl
    intro σ5 rec5 hI5 hB5 hbb5 hph5 H locs ls hP hD hS hl
    exact TAIL (by omega) hI5 hB5 hbb5 hph5 (by omega) hP hD hS hl
  · intro σ5 rec5 hI5 hB5 hbb5 hph5 H locs ls hP hD hS hl
    exact TAIL (by omega) hI5 hB5 hbb5 hph5 (by omega) hP hD hS hl
/-- the loop over the turns -/
theorem lw_loop6 (hfp : FPL) (hfm : FPM) {p : Program} {l : Launch} {e : Env} {s : State} {m : MethodId} {args : Array Value} {below : List Frame} {meth : Method} {c : Code} {G : wG} {A : Nat → Prop} {b Ln : Nat} {sx : Nat → Int32} {Q0 : State → Prop} {cells slots : Nat} {a : Nat → Nat} (hC : lwC6 p l s m args c G A b Ln sx) {all seats : Int} (hr : cells + 90000 ≤ 600130 ∧ slots + 540000 ≤ 7301080) (hall : all = 3 ∨ all = 15)
    (K : ∀ {kc ks : Nat} (H : Heap) (locs : List Loc) (ls : Array Slot), kc ≤ 600130 → ks ≤ 7301080 → va_S A s.heap H locs → W p l e room_1 s m args below meth c H locs kc ks Q0 (F0 m 1181 ls [.int (zI 1)])) :
    ∀ (g9 : Nat) {t dz rec : Int} {σ : gS} {kc ks : Nat}, (31 - t).toNat < g9 → 0 ≤ t ∧ t ≤ 30 → gI all seats t dz σ → gT all t rec σ → (t ≠ 0 → gB all t σ) → 0 ≤ dz ∧ dz ≤ 2 * t → kc ≤ cells + 2600 * t.toNat ∧ ks ≤ slots + 15600 * t.toNat → ∀ {H : Heap} {locs : List Loc} {ls : Array Slot}, va_P G.1 vwCl (gW G a σ) H → va_D A (gW G a σ) → va_S A s.heap H locs → lv_has ls 31 [(0, .ref b), (1, .ref (a 0)), (2, .int (zI all)), (3, .int (zI seats)), (5, .int (zI rec)), (6, .int (zI dz)), (13, .int (zI t))] → W p l e room_1 s m args below meth c H locs kc ks Q0 (F0 m 247 ls []) := by
  intro g9
  induction g9 with
  | zero => intro t dz rec σ kc ks h; omega
  | succ g9 ih =>
    intro t dz rec σ kc ks hmu ht hI hT hBt hdz hk H locs ls hP hD hS hl
    have ht4 : t.toNat ≤ 30 := by omega
    refine sg_0 (cells := kc) (slots := ks) (σ := σ) hC (by omega) hall ht (kp.mk ?_) (kp.mk ?_) hP hD hS hl
    · intro hlt H locs ls hP hD hS hl
      refine tn_turn (cells := kc + 2) (slots := ks + 12) hfp hfm hC (by omega) (by omega) hI hT ⟨ht.1, hlt⟩ hdz.1 ?_ hP hD hS hl
      intro dz2 rec2 σ2 kc2 ks2 hI2 hT2 hB2 hdz2 hk2 H locs ls hP hD hS hl
      exact ih (by omega) (by omega) hI2 hT2 (fun _ => hB2) (by omega) (by omega) hP hD hS hl
    · intro h4 H locs ls hP hD hS hl
      refine sg_10 (cells := kc + 2) (slots := ks + 12) hC (by omega) hI (hBt (by omega)) hdz.1 (by omega) (kp.mk ?_) hP hD hS hl
      intro H locs ls hS
      exact K H locs ls (by omega) (by omega) hS
