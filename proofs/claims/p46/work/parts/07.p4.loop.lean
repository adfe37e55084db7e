/-! THE LOOP OVER A PLAY'S MOVES: what stays, a step of it -/
def gL (all seats nt dz sd D E n0 c0 rec k : Int) (fr0 : Int → Int) (P0 P1 hits spent j : Int) (b0 : Int → Int) (σ : gS) : Prop := gI all seats nt dz σ ∧ gB all nt σ ∧ gR σ ∧ (g_ph σ = 114 ∧ g_mv σ = sd ∧ g_bs σ = b0 ∧ g_dg σ = D ∧ g_dl σ = E ∧ g_ln σ = n0 ∧ g_cnt σ = c0 ∧ g_tu σ = rec ∧ g_fr σ = fr0) ∧ (0 ≤ k ∧ k < c0) ∧ rmR sd D E (g_gl σ) (g_ll σ) (g_bb σ) (poR sd b0 ((plc sd b0 D E).2.getD k.toNat [])) ((plc sd b0 D E).2.getD k.toNat []) j.toNat ∧ pipB (g_bb σ) sd = P0 - spent ∧ P1 + hits ≤ pipB (g_bb σ) (1 - sd) ∧ 0 ≤ hits ∧ (0 ≤ g_gl σ ∧ g_gl σ ≤ 4) ∧ (0 ≤ g_ll σ ∧ g_ll σ ≤ 4) ∧ (0 ≤ P0 ∧ P0 ≤ 375) ∧ (0 ≤ P1 ∧ P1 ≤ 375)
theorem rm_us {mv dg dl gl ll : Int} {b bT : Int → Int} {r0 : Row} {j : Nat} (h : rmR mv dg dl gl ll b bT r0 j) : (dg = dl ∧ ll = 0) ∨ dl < dg := by
  obtain ⟨r, h1, h2, h3, h4, h5⟩ := h
  rcases h3 with h9 | h9
  · exact Or.inl ⟨h9.1, h9.2.1⟩
  · exact Or.inr h9.1
section GL
variable {all seats nt dz sd D E n0 c0 rec k P0 P1 hits spent j : Int} {fr0 b0 : Int → Int} {σ : gS}
theorem gL_mv {F T d : Int} (h : gL all seats nt dz sd D E n0 c0 rec k fr0 P0 P1 hits spent j b0 σ) (hj : 0 ≤ j) (hc : canP (g_bb σ) sd F d) (hd : 1 ≤ d) (hT : toP F d = T) (hu : (d = D ∧ 0 < g_gl σ) ∨ (d ≠ D ∧ d = E ∧ 0 < g_ll σ)) (hr : rmR sd D E (if d = D then g_gl σ - 1 else g_gl σ) (if d = D then g_ll σ else g_ll σ - 1) (stp (g_bb σ) sd F d) (poR sd b0 ((plc sd b0 D E).2.getD k.toNat [])) ((plc sd b0 D E).2.getD k.toNat []) (j.toNat + 1)) : gL all seats nt dz sd D E n0 c0 rec k fr0 P0 P1 (hits + hwB (g_bb σ) sd F d) (spent + (F - T)) (j + 1) b0 (s_move σ F d) := by
  obtain ⟨hI, hB, hR, ⟨e1, e2, e3, e4, e5, e6, e7, e8, e9⟩, hk, hm, hp0, hp1, hh, hg, hl, hq0, hq1⟩ := h
  subst e2
  have hs := hI.mv
  have h1 := tr_move hI hB hR hc hd
  have h2 := pip_own (b := g_bb σ) hs ⟨hc.1, hc.2.1⟩ hd
  have h3 := pip_opp (b := g_bb σ) hs ⟨hc.1, hc.2.1⟩ hd
  have h4 : 0 ≤ hwB (g_bb σ) (g_mv σ) F d := by unfold hwB; split <;> omega
  have ej : (j + 1).toNat = j.toNat + 1 := by omega
  have hr2 : rmR (g_mv σ) D E (g_gl (s_move σ F d)) (g_ll (s_move σ F d)) (stp (g_bb σ) (g_mv σ) F d) (poR (g_mv σ) b0 ((plc (g_mv σ) b0 D E).2.getD k.toNat [])) ((plc (g_mv σ) b0 D E).2.getD k.toNat []) (j.toNat + 1) := by
    show rmR (g_mv σ) D E (if d = g_dg σ then g_gl σ - 1 else g_gl σ) (if d = g_dg σ then g_ll σ else g_ll σ - 1) _ _ _ _
    rw [e4]
    exact hr
  refine ⟨h1.1, h1.2.1, h1.2.2, ⟨e1, rfl, e3, e4, e5, e6, e7, e8, e9⟩, hk, by rw [ej]; exact hr2, ?_, ?_, by omega, ?_, ?_, hq0, hq1⟩
  · show pipB (stp (g_bb σ) (g_mv σ) F d) (g_mv σ) = _
    rw [h2, hp0, hT]
    omega
  · show _ ≤ pipB (stp (g_bb σ) (g_mv σ) F d) (1 - g_mv σ)
    omega
  · show 0 ≤ (if d = g_dg σ then g_gl σ - 1 else g_gl σ) ∧ (if d = g_dg σ then g_gl σ - 1 else g_gl σ) ≤ 4
    rw [e4]
    split <;> omega
  · show 0 ≤ (if d = g_dg σ then g_ll σ else g_ll σ - 1) ∧ (if d = g_dg σ then g_ll σ else g_ll σ - 1) ≤ 4
    rw [e4]
    split <;> omega
theorem gL_step (h : gL all seats nt dz sd D E n0 c0 rec k fr0 P0 P1 hits spent j b0 σ) (hj : 0 ≤ j ∧ j < n0) : ∃ F T d, (g_fr σ k / p8 j % 256) / 8 = F ∧ toP ((g_fr σ k / p8 j % 256) / 8) ((g_fr σ k / p8 j % 256) % 8) = T ∧ (1 ≤ F ∧ F ≤ 25 ∧ 0 ≤ T ∧ T < F) ∧ canP (g_bb σ) sd F d ∧ (1 ≤ d ∧ d ≤ 6) ∧ toP F d = T ∧ ((d = D ∧ 0 < g_gl σ) ∨ (d ≠ D ∧ d = E ∧ 0 < g_ll σ)) ∧ gL all seats nt dz sd D E n0 c0 rec k fr0 P0 P1 (hits + hwB (g_bb σ) sd F d) (spent + (F - T)) (j + 1) b0 (s_move σ F d) ∧ (T = 0 → ((D = D ∧ 0 < g_gl σ) ∨ (D = E ∧ 0 < g_ll σ)) → canP (g_bb σ) sd F D → gL all seats nt dz sd D E n0 c0 rec k fr0 P0 P1 (hits + hwB (g_bb σ) sd F D) (spent + (F - T)) (j + 1) b0 (s_move σ F D)) ∧ E ≤ D := by
  have h0 := h
  obtain ⟨hI, hB, hR, ⟨e1, e2, e3, e4, e5, e6, e7, e8, e9⟩, hk, hm, hp0, hp1, hh, hg, hl, hq0, hq1⟩ := h0
  have hs := hI.mv
  rw [e2] at hs
  have hu9 := rm_us hm
  have hk2 : k < g_cnt σ := by omega
  have hj2 : j < g_ln σ := by omega
  have hmv := gR_mv hI hB hR hk.1 hk2 hj.1 hj2
  have hlen := (gR_lg hI hB hR _ (gR_at hI hB hR hk.1 hk2).1).2
  rw [e2, e3, e4, e5] at hmv hlen
  have hjl : j.toNat < ((plc sd b0 D E).2.getD k.toNat []).length := by omega
  obtain ⟨F, eF⟩ : ∃ F, (((plc sd b0 D E).2.getD k.toNat []).getD j.toNat (0, 0)).1 = F := ⟨_, rfl⟩
  obtain ⟨T, eT⟩ : ∃ T, toP (((plc sd b0 D E).2.getD k.toNat []).getD j.toNat (0, 0)).1 (((plc sd b0 D E).2.getD k.toNat []).getD j.toNat (0, 0)).2 = T := ⟨_, rfl⟩
  obtain ⟨d, hc, hd, hT, hus, hrm, halt⟩ := rm_hd hm hjl hB.2.2.2.1 hs eF eT
  have hF := hc.1
  have hF2 := hc.2.1
  have hTr := toP_rg (fr := F) (d := d) (by omega)
  have hTn : toP F d < F := by
    unfold toP
    split <;> omega
  have hus2 : (d = D ∧ 0 < g_gl σ) ∨ (d ≠ D ∧ d = E ∧ 0 < g_ll σ) := by omega
  refine ⟨F, T, d, by rw [hmv.1]; exact eF, by rw [hmv.1, hmv.2]; exact eT, by omega, hc, hd, hT, hus2, gL_mv h hj.1 hc hd.1 hT hus2 hrm, fun t0 hg0 hcD => ?_, by omega⟩
  have hg1 : 0 < g_gl σ := by omega
  have hD1 : 1 ≤ D ∧ D ≤ 6 := by rw [← e4]; exact gR_dg hR
  by_cases q : d = D
  · subst q
    exact gL_mv h hj.1 hc hd.1 hT hus2 hrm
  · have hlt : E < D := by omega
    have h8 := halt q t0 hg1 hcD
    have hT0 : toP F D = T := by
      rw [t0] at hT
      have := toP_1 hF hT
      rw [toP_0 (by omega), t0]
    refine gL_mv h hj.1 hcD hD1.1 hT0 (Or.inl ⟨rfl, hg1⟩) ?_
    rw [if_pos rfl, if_pos rfl]
    exact h8
/-- at the end of its moves a play is made -/
theorem gL_end (h : gL all seats nt dz sd D E n0 c0 rec k fr0 P0 P1 hits spent j b0 σ) (hj : n0 ≤ j) : g_bb σ = poR sd b0 ((plc sd b0 D E).2.getD k.toNat []) := by
  obtain ⟨hI, hB, hR, ⟨e1, e2, e3, e4, e5, e6, e7, e8, e9⟩, hk, hm, -⟩ := h
  have hk2 : k < g_cnt σ := by omega
  have hlen := (gR_lg hI hB hR _ (gR_at hI hB hR hk.1 hk2).1).2
  rw [e2, e3, e4, e5] at hlen
  exact rm_end hm (by omega)
theorem gL_0 (hI : gI all seats nt dz σ) (hB : gB all nt σ) (hR : gR σ) (hp : g_ph σ = 114) (hbb : g_bb σ = g_bs σ) (hgl : g_gl σ = if g_dg σ = g_dl σ then 4 else 1) (hll : g_ll σ = if g_dg σ = g_dl σ then 0 else 1) (hk : 0 ≤ k ∧ k < g_cnt σ) : gL all seats nt dz (g_mv σ) (g_dg σ) (g_dl σ) (g_ln σ) (g_cnt σ) (g_tu σ) k (g_fr σ) (pipB (g_bb σ) (g_mv σ)) (pipB (g_bb σ) (1 - g_mv σ)) 0 0 0 (g_bs σ) σ := by
  have h1 := gR_at hI hB hR hk.1 hk.2
  have h2 := gR_ls hI hB hR _ h1.1
  have h3 := plc_us hR.1.2.1 h1.1
  have hv := hB.2.2.2.1
  have ha := hI.all15
  have hm := hI.mv
  refine ⟨hI, hB, hR, ⟨hp, rfl, rfl, rfl, rfl, rfl, rfl, rfl, rfl⟩, hk, ?_, by omega, by omega, Int.le_refl _, by rw [hgl]; split <;> omega, by rw [hll]; split <;> omega, pipB_rg hv ha hm, pipB_rg hv ha (by omega)⟩
  rw [hgl, hll, hbb]
  exact rm_0 h2.1 h3
end GL
def zabs (x : Int) : Int := if 0 ≤ x then x else 0 - x
theorem zab {x y : Int} (hx : 1 ≤ x ∧ x ≤ 6) (hy : 1 ≤ y ∧ y ≤ 6) : (1 ≤ zmax 1 (zabs (x - y)) ∧ zmax 1 (zabs (x - y)) ≤ 5) ∧ (0 ≤ zabs (x - y) ∧ zabs (x - y) ≤ 5) ∧ (zmin x y < zmax x y → zmax x y - zmax 1 (zabs (x - y)) = zmin x y) := by
  unfold zmax zmin zabs
  split <;> split <;> split <;> (try split) <;> (try split) <;> omega
section ZABS
variable {p : Program} {l : Launch} {e : Env} {R : Room} {s : State} {m : MethodId} {args : Array Value} {below : List Frame} {meth : Method} {c : Code} {H : Heap} {locs : List Loc} {cells slots : Nat} {Q : State → Prop}
variable {cc : ByteArray} {nL : Nat} {Ts : List Cond} {own : String} {pc : Nat} {ls : Array Slot} {rest : List Value}
theorem z_absF (hF : wFx p m c cc nL s args Ts own) {index : Nat} (hlink : (Cond.methodLink own index Lib.Math.abs.name).before args s = true) (hstat : (Cond.static Lib.Math.abs.name).before args s = true) (hini : (Cond.initialized "java/lang/Math").before args s = true) (hcode : (Cond.code Lib.Math.abs.name Lib.Math.abs.code 1 (some .int)).before args s = true) (hsz : ls.size = nL)
    (hframes : 1 ≤ R.frames) (hlocals : (rest.map fun v => v.category).sum + 13 ≤ R.locals) (hc : cells ≤ R.cells) (hs : slots ≤ R.slots) {a : Int} (ha : -1000000 ≤ a ∧ a < 1000000) (hd : decode cc pc = .ok (.invokestatic index, 3))
    (kk : W p l e R s m args below meth c H locs cells slots Q (F0 m (pc + 3) ls (.int (zI (zabs a)) :: rest))) : W p l e R s m args below meth c H locs cells slots Q (F0 m pc ls (.int (zI a) :: rest)) := by
  refine va_mabs hF.1 hF.2.1 (hF.2.2.1.trans hsz.symm) hF.2.2.2.1 hlink hstat hini hcode hframes hlocals hc hs hd ?_
  have e9 : (if 0 ≤ zI a then zI a else 0 - zI a) = zI (zabs a) := by
    unfold zabs
    have h0 : (0 : Int32) = zI 0 := zI_0.symm
    by_cases q : 0 ≤ a
    · rw [if_pos q, if_pos (by rw [h0]; exact (zI_le (by omega) (by omega)).mpr q)]
    · rw [if_neg q, if_neg (fun h => q (by rw [h0] at h; exact (zI_le (by omega) (by omega)).mp h)), h0, zI_sub]
  rw [e9]
  exact kk
end ZABS
theorem lx_fit {x y cells slots K1 K2 : Nat} (h1 : x ≤ cells + K1) (h2 : y ≤ slots + K2) (hr : cells + K1 ≤ 600130 ∧ slots + K2 ≤ 7301080) : x ≤ room_1.cells ∧ y ≤ room_1.slots := ⟨Nat.le_trans h1 hr.1, Nat.le_trans h2 hr.2⟩
theorem lx_c {x cells K1 : Nat} {P : Prop} (h1 : x ≤ cells + K1) (hr : cells + K1 ≤ 600130 ∧ P) : x ≤ room_1.cells := Nat.le_trans h1 hr.1
theorem lx_s {y slots K2 : Nat} {P : Prop} (h2 : y ≤ slots + K2) (hr : P ∧ slots + K2 ≤ 7301080) : y ≤ room_1.slots := Nat.le_trans h2 hr.2
def lwC6 (p : Program) (l : Launch) (s : State) (m : MethodId) (args : Array Value) (c : Code) (G : wG) (A : Nat → Prop) (b Ln : Nat) (xs : Nat → Int32) : Prop :=
  wFx p m c cL_law 31 s args wsL_law RL ∧ l.stackTraces = false ∧ wK G s ∧ wBd G A s s.heap ∧ (∀ q, s.heap.size ≤ q → A q) ∧ va_X b Ln xs s s.heap ∧ b < s.heap.size ∧ ¬ A b ∧ Ln ≤ 260 ∧ (∀ w ∈ lw_tbl, w.before args s = true)
theorem va_P_left {D : va_G} {cl : List vw_C} {ws qs : va_W} {H : Heap} (h : va_P D cl (ws ++ qs) H) : va_P D cl ws H := fun k q hq => h k q (by rw [List.getElem?_append_left (List.getElem?_eq_some_iff.mp hq).1]; exact hq)
theorem va_D_left {A : Nat → Prop} {ws qs : va_W} (h : va_D A (ws ++ qs)) : va_D A ws :=
  ⟨fun i j p q hp hq => h.1 i j p q (by rw [List.getElem?_append_left (List.getElem?_eq_some_iff.mp hp).1]; exact hp) (by rw [List.getElem?_append_left (List.getElem?_eq_some_iff.mp hq).1]; exact hq), fun k q hq => h.2 k q (by rw [List.getElem?_append_left (List.getElem?_eq_some_iff.mp hq).1]; exact hq)⟩
/-- what a finished play leaves -/
theorem fin_all {all seats nt dz sd D E n0 c0 rec k P0 P1 hits spent j n hr : Int} {fr0 b0 u : Int → Int} {σ : gS} (h : gL all seats nt dz sd D E n0 c0 rec k fr0 P0 P1 hits spent j b0 σ) (hj : n0 ≤ j) (hn : n = k) (ht : nt ≤ 30) (L : List Row) (hL : L = (plc (g_mv σ) (g_bs σ) (g_dg σ) (g_dl σ)).2) :
    (gI all seats (nt + 1) dz (s_fin0 σ n hr (poR (g_mv σ) (g_bs σ) (L.getD n.toNat [])) u) ∧ gB all (nt + 1) (s_fin0 σ n hr (poR (g_mv σ) (g_bs σ) (L.getD n.toNat [])) u) ∧ poR (g_mv σ) (g_bs σ) (L.getD n.toNat []) = g_bb σ) ∧
    (gI all seats (nt + 1) dz (s_fin1 σ n hr (poR (g_mv σ) (g_bs σ) (L.getD n.toNat [])) u) ∧ gB all (nt + 1) (s_fin1 σ n hr (poR (g_mv σ) (g_bs σ) (L.getD n.toNat [])) u)) := by
  subst hn
  subst hL
  have he := gL_end h hj
  obtain ⟨hI, hB, hR, ⟨e1, e2, e3, e4, e5, e6, e7, e8, e9⟩, hk, hm, -⟩ := h
  have hk2 : n < g_cnt σ := by omega
  have h1 := gR_at hI hB hR hk.1 hk2
  have h2 := gR_ls hI hB hR _ h1.1
  have h3 := tr_fin (hr := hr) (u := u) hI hB e1 ht h2.1 h2.2 h1.2
  rw [e2, e3, e4, e5] at h3 ⊢
  exact ⟨⟨h3.1.1, h3.1.2, he.symm⟩, h3.2⟩
theorem gL_fd {all seats nt dz sd D E n0 c0 rec k P0 P1 hits spent j : Int} {fr0 b0 : Int → Int} {σ : gS} (h : gL all seats nt dz sd D E n0 c0 rec k fr0 P0 P1 hits spent j b0 σ) (hj : n0 ≤ j) : fdI (g_mv σ) (g_bs σ) (g_bb σ) (plc (g_mv σ) (g_bs σ) (g_dg σ) (g_dl σ)).2 = k := by
  have he := gL_end h hj
  obtain ⟨hI, hB, hR, ⟨e1, e2, e3, e4, e5, e6, e7, e8, e9⟩, hk, hm, -⟩ := h
  exact fdI_of hI hB hR hk.1 (by omega) (by rw [he, e2, e3, e4, e5])
/-- the law's loop, where a turn begins -/
def gT (all t rec : Int) (σ : gS) : Prop := g_ph σ = 45 ∧ (t = 0 ∨ (gB all t σ ∧ g_bb σ = g_bs σ)) ∨ (g_ph σ = 100 ∧ gB all t σ ∧ g_bb σ = g_bs σ ∧ rec = g_tu σ)
