/-! CHANCES of endings with two men: as the class finds them -/
section DROW
variable {p : Program} {l : Launch} {e : Env} {R : Room} {s : State} {m : MethodId} {args : Array Value} {below : List Frame} {meth : Method} {c : Code} {H : Heap} {locs : List Loc} {cells slots : Nat} {Q : State → Prop}
variable {pc : Nat} {ls : Array Slot} {rest : List Value}
theorem z_topd {x y : UInt64} (h : x = y) (k : W p l e R s m args below meth c H locs cells slots Q (F0 m pc ls (.double y :: rest))) : W p l e R s m args below meth c H locs cells slots Q (F0 m pc ls (.double x :: rest)) := by rw [h]; exact k
end DROW
theorem upD_s (f : Int → UInt64) (k : Int) (v : UInt64) : upD f k v k = v := if_pos rfl
theorem upD_n (f : Int → UInt64) {k j : Int} (v : UInt64) (h : j ≠ k) : upD f k v j = f j := if_neg h
def pr7 (a b : Int) : Int := 7 * zmax a b + zmin a b
def pip (v : Int) : Int := v / 7 + v % 7
/-- two men's number -/
def v7 (v : Int) : Prop := 0 ≤ v ∧ v % 7 ≤ v / 7 ∧ v / 7 ≤ 6
theorem pr7_v {a b : Int} (ha : 0 ≤ a ∧ a ≤ 6) (hb : 0 ≤ b ∧ b ≤ 6) : v7 (pr7 a b) ∧ pip (pr7 a b) = a + b := by
  unfold v7 pip pr7 zmax zmin
  split <;> split <;> omega
theorem v7_rg {v : Int} (h : v7 v) : 0 ≤ v ∧ v < 49 ∧ 0 ≤ v / 7 ∧ v / 7 ≤ 6 ∧ 0 ≤ v % 7 ∧ v % 7 ≤ 6 := by
  unfold v7 at h
  omega
theorem v7_pos {v : Int} (h : v7 v) (h0 : v ≠ 0) : 1 ≤ v / 7 ∧ 1 ≤ pip v ∧ pip v ≤ 12 := by
  unfold v7 at h
  unfold pip
  omega
theorem zmx0 (x : Int) : zmax x 0 = (if 0 < x then x else 0) := by
  unfold zmax
  split <;> split <;> omega
/-- behind a move of the farther man, of the nearer one -/
theorem mvF {v d : Int} (h : v7 v) (h0 : v ≠ 0) (hd : 1 ≤ d) : v7 (pr7 (zmax (v / 7 - d) 0) (v % 7)) ∧ pip (pr7 (zmax (v / 7 - d) 0) (v % 7)) + 1 ≤ pip v := by
  have h1 := v7_rg h
  have h2 := v7_pos h h0
  have h3 : 0 ≤ zmax (v / 7 - d) 0 ∧ zmax (v / 7 - d) 0 + 1 ≤ v / 7 := by rw [zmx0]; split <;> omega
  have h4 := pr7_v (a := zmax (v / 7 - d) 0) (b := v % 7) (by omega) (by omega)
  refine ⟨h4.1, ?_⟩
  rw [h4.2]
  unfold pip
  omega
theorem mvN {v d : Int} (h : v7 v) (hd : 1 ≤ d) (hn : ¬ v % 7 < d) : v7 (pr7 (v / 7) (v % 7 - d)) ∧ pip (pr7 (v / 7) (v % 7 - d)) + 1 ≤ pip v := by
  have h1 := v7_rg h
  have h4 := pr7_v (a := v / 7) (b := v % 7 - d) (by omega) (by omega)
  refine ⟨h4.1, ?_⟩
  rw [h4.2]
  unfold pip
  omega
def grC (ch : Int → Int → UInt64) (ot : Int) : Nat → Int → Int → Int → UInt64
  | 0, own, _, _ => if own = 0 then FP.dconst1 else FP.dsub FP.dconst1 (ch ot own)
  | n + 1, own, d, nd => if own = 0 then FP.dconst1 else if own % 7 < d ∨ own % 7 = own / 7 then grC ch ot n (pr7 (zmax (own / 7 - d) 0) (own % 7)) nd d else mx (grC ch ot n (pr7 (zmax (own / 7 - d) 0) (own % 7)) nd d) (grC ch ot n (pr7 (own / 7) (own % 7 - d)) nd d)
def rlC (ch : Int → Int → UInt64) (own ot g l : Int) : UInt64 := if g = l then grC ch ot 4 own g g else mx (grC ch ot 2 own g l) (grC ch ot 2 own l g)
def wt2 (g l : Int) : UInt64 := if g = l then FP.dconst1 else d2p
/-- the sum behind n of the greater dice -/
def inS (ch : Int → Int → UInt64) (own ot l : Int) (acc : UInt64) : Nat → UInt64
  | 0 => acc
  | n + 1 => FP.dadd (inS ch own ot l acc n) (FP.dmul (rlC ch own ot (l + n) l) (wt2 (l + n) l))
def ouS (ch : Int → Int → UInt64) (own ot : Int) : Nat → UInt64
  | 0 => FP.dconst0
  | n + 1 => inS ch own ot (n + 1 : Nat) (ouS ch own ot n) (6 - n)
def chF : Nat → Int → Int → UInt64
  | 0, _, _ => FP.dconst0
  | n + 1, own, ot => FP.ddiv (ouS (chF n) own ot 6) d36
def chV (own ot : Int) : UInt64 := chF (pip own + pip ot).toNat own ot
theorem grC_congr {ch ch' : Int → Int → UInt64} {ot : Int} : ∀ {m : Nat} {own d nd : Int}, v7 own → 1 ≤ d → 1 ≤ nd → (∀ v, v7 v → v ≠ 0 → pip v + (m : Int) ≤ pip own → ch ot v = ch' ot v) → grC ch ot m own d nd = grC ch' ot m own d nd
  | 0, own, d, nd, h7, _, _, h => by
    rw [grC, grC]
    by_cases q : own = 0
    · rw [if_pos q, if_pos q]
    · rw [if_neg q, if_neg q, h own h7 q (by omega)]
  | m + 1, own, d, nd, h7, hd, hn, h => by
    rw [grC, grC]
    by_cases q : own = 0
    · rw [if_pos q, if_pos q]
    · rw [if_neg q, if_neg q]
      have h1 := mvF h7 q hd
      rw [grC_congr (m := m) h1.1 hn hd (fun v a b c => h v a b (by omega))]
      by_cases q2 : own % 7 < d ∨ own % 7 = own / 7
      · rw [if_pos q2, if_pos q2]
      · rw [if_neg q2, if_neg q2]
        have h2 := mvN h7 hd (fun q3 => q2 (Or.inl q3))
        rw [grC_congr (m := m) h2.1 hn hd (fun v a b c => h v a b (by omega))]
theorem rlC_congr {ch ch' : Int → Int → UInt64} {own ot g l : Int} (h7 : v7 own) (hg : 1 ≤ g) (hl : 1 ≤ l) (h : ∀ v, v7 v → v ≠ 0 → pip v + 2 ≤ pip own → ch ot v = ch' ot v) : rlC ch own ot g l = rlC ch' own ot g l := by
  unfold rlC
  by_cases q : g = l
  · rw [if_pos q, if_pos q]
    exact grC_congr h7 hg hg (fun v a b c => h v a b (by omega))
  · rw [if_neg q, if_neg q, grC_congr (ch := ch) (ch' := ch') h7 hg hl (fun v a b c => h v a b (by omega)), grC_congr (ch := ch) (ch' := ch') h7 hl hg (fun v a b c => h v a b (by omega))]
theorem inS_congr {ch ch' : Int → Int → UInt64} {own ot l : Int} {acc : UInt64} (h7 : v7 own) (hl : 1 ≤ l) (h : ∀ v, v7 v → v ≠ 0 → pip v + 2 ≤ pip own → ch ot v = ch' ot v) : ∀ n, inS ch own ot l acc n = inS ch' own ot l acc n
  | 0 => rfl
  | n + 1 => by rw [inS, inS, inS_congr h7 hl h n, rlC_congr h7 (by omega) hl h]
theorem ouS_congr {ch ch' : Int → Int → UInt64} {own ot : Int} (h7 : v7 own) (h : ∀ v, v7 v → v ≠ 0 → pip v + 2 ≤ pip own → ch ot v = ch' ot v) : ∀ n, ouS ch own ot n = ouS ch' own ot n
  | 0 => rfl
  | n + 1 => by rw [ouS, ouS, ouS_congr h7 h n, inS_congr h7 (by omega) h]
theorem chF_n : ∀ (n m : Nat) (v w : Int), v7 v → v ≠ 0 → v7 w → w ≠ 0 → pip v + pip w ≤ n → pip v + pip w ≤ m → chF n v w = chF m v w := by
  intro n
  induction n with
  | zero =>
    intro m v w h1 h2 h3 h4 h5
    have := v7_pos h1 h2
    have := v7_pos h3 h4
    omega
  | succ n ih =>
    intro m v w h1 h2 h3 h4 h5 h6
    have h7 := v7_pos h1 h2
    have h8 := v7_pos h3 h4
    obtain ⟨k, rfl⟩ : ∃ k, m = k + 1 := ⟨m - 1, by omega⟩
    rw [chF, chF, ouS_congr h1 (fun v' a b c => ih k w v' h3 h4 a b (by omega) (by omega))]
theorem chV_eq {v w : Int} (h1 : v7 v) (h2 : v ≠ 0) (h3 : v7 w) (h4 : w ≠ 0) : chV v w = FP.ddiv (ouS chV v w 6) d36 := by
  have h7 := v7_pos h1 h2
  have h8 := v7_pos h3 h4
  have h9 : chV v w = chF ((pip v + pip w).toNat) v w := rfl
  obtain ⟨k, hk⟩ : ∃ k, (pip v + pip w).toNat = k + 1 := ⟨(pip v + pip w).toNat - 1, by omega⟩
  rw [h9, hk, chF, ouS_congr (ch := chF k) (ch' := chV) h1 (fun v' a b c => by
    have := v7_pos a b
    show chF k w v' = chF (pip w + pip v').toNat w v'
    exact chF_n k _ w v' h3 h4 a b (by omega) (by omega))]
/-- all of them from 0 to 1 -/
theorem grC_B (hfp : FPL) {ch : Int → Int → UInt64} {ot : Int} : ∀ {m : Nat} {own d nd : Int}, v7 own → 1 ≤ d → 1 ≤ nd → (∀ v, v7 v → v ≠ 0 → pip v + (m : Int) ≤ pip own → dB 1 (ch ot v)) → dB 1 (grC ch ot m own d nd)
  | 0, own, d, nd, h7, _, _, h => by
    rw [grC]
    by_cases q : own = 0
    · rw [if_pos q]; exact dB_1
    · rw [if_neg q]; exact hfp.2.2.1 _ (h own h7 q (by omega))
  | m + 1, own, d, nd, h7, hd, hn, h => by
    rw [grC]
    by_cases q : own = 0
    · rw [if_pos q]; exact dB_1
    · rw [if_neg q]
      have h1 := mvF h7 q hd
      have h3 := grC_B hfp (m := m) h1.1 hn hd (fun v a b c => h v a b (by omega))
      by_cases q2 : own % 7 < d ∨ own % 7 = own / 7
      · rw [if_pos q2]; exact h3
      · rw [if_neg q2]
        have h2 := mvN h7 hd (fun q3 => q2 (Or.inl q3))
        exact mx_B h3 (grC_B hfp (m := m) h2.1 hn hd (fun v a b c => h v a b (by omega)))
theorem rlC_B (hfp : FPL) {ch : Int → Int → UInt64} {own ot g l : Int} (h7 : v7 own) (hg : 1 ≤ g) (hl : 1 ≤ l) (h : ∀ v, v7 v → v ≠ 0 → pip v + 2 ≤ pip own → dB 1 (ch ot v)) : dB 1 (rlC ch own ot g l) := by
  unfold rlC
  by_cases q : g = l
  · rw [if_pos q]
    exact grC_B hfp h7 hg hg (fun v a b c => h v a b (by omega))
  · rw [if_neg q]
    exact mx_B (grC_B hfp h7 hg hl (fun v a b c => h v a b (by omega))) (grC_B hfp h7 hl hg (fun v a b c => h v a b (by omega)))
def wtN2 (g l : Int) : Nat := if g = l then 1 else 2
theorem wt_B (hfp : FPL) {x : UInt64} (h : dB 1 x) (g l : Int) : dB (wtN2 g l) (FP.dmul x (wt2 g l)) := by
  unfold wtN2 wt2
  split
  · rw [hfp.2.2.2.1 x h]; exact h
  · exact hfp.2.2.2.2.1 x h
theorem wtN2_le (g l : Int) : wtN2 g l ≤ 2 := by unfold wtN2; split <;> decide
/-- how great the sums can be: behind l - 1 rows, and the row of l as far as g -/
def bd2 (l g : Int) : Nat := ((l - 1) * (13 - l) + (if g = l then 0 else 2 * (g - l) - 1)).toNat
theorem bd2_s {l g : Int} (hl : 1 ≤ l ∧ l ≤ 6) (hg : l ≤ g ∧ g ≤ 6) : bd2 l g + wtN2 g l = bd2 l (g + 1) ∧ bd2 l (g + 1) ≤ 36 := by
  have h : ∀ (i j : Fin 7), bd2 (i : Nat) (j : Nat) + wtN2 (j : Nat) (i : Nat) = bd2 (i : Nat) ((j : Nat) + 1) ∧ bd2 (i : Nat) ((j : Nat) + 1) ≤ 36 ∨ ¬ (1 ≤ (i : Nat) ∧ (i : Nat) ≤ (j : Nat)) := by decide
  have h1 := h ⟨l.toNat, by omega⟩ ⟨g.toNat, by omega⟩
  rw [show (((⟨l.toNat, by omega⟩ : Fin 7) : Nat) : Int) = l by show ((l.toNat : Nat) : Int) = l; omega, show (((⟨g.toNat, by omega⟩ : Fin 7) : Nat) : Int) = g by show ((g.toNat : Nat) : Int) = g; omega] at h1
  rcases h1 with h1 | h1
  · exact h1
  · exact absurd (show 1 ≤ l.toNat ∧ l.toNat ≤ g.toNat by omega) h1
theorem bd2_r {l : Int} (hl : 1 ≤ l ∧ l ≤ 6) : bd2 l 7 = bd2 (l + 1) (l + 1) ∧ bd2 l 7 ≤ 36 := by
  rcases (show l = 1 ∨ l = 2 ∨ l = 3 ∨ l = 4 ∨ l = 5 ∨ l = 6 by omega) with q | q | q | q | q | q <;> subst q <;> decide
def inZ (ch : Int → Int → UInt64) (own ot l : Int) (acc : UInt64) (g : Int) : UInt64 := inS ch own ot l acc (g - l).toNat
def ouZ (ch : Int → Int → UInt64) (own ot l : Int) : UInt64 := ouS ch own ot (l - 1).toNat
theorem inZ_0 (ch : Int → Int → UInt64) (own ot l : Int) (acc : UInt64) : inZ ch own ot l acc l = acc := by
  unfold inZ
  rw [show (l - l).toNat = 0 by omega]
  rfl
theorem inZ_s {ch : Int → Int → UInt64} {own ot l g : Int} {acc : UInt64} (h : l ≤ g) : inZ ch own ot l acc (g + 1) = FP.dadd (inZ ch own ot l acc g) (FP.dmul (rlC ch own ot g l) (wt2 g l)) := by
  unfold inZ
  rw [show (g + 1 - l).toNat = (g - l).toNat + 1 by omega, inS, show l + ((g - l).toNat : Int) = g by omega]
theorem ouZ_s {ch : Int → Int → UInt64} {own ot l : Int} (h : 1 ≤ l ∧ l ≤ 6) : ouZ ch own ot (l + 1) = inZ ch own ot l (ouZ ch own ot l) 7 := by
  unfold inZ ouZ
  rw [show (l + 1 - 1).toNat = (l - 1).toNat + 1 by omega, ouS, show (((l - 1).toNat + 1 : Nat) : Int) = l by omega, show 6 - (l - 1).toNat = (7 - l).toNat by omega]
theorem inZ_B (hfp : FPL) {ch : Int → Int → UInt64} {own ot l g : Int} {acc : UInt64} (hl : 1 ≤ l ∧ l ≤ 6) (hg : l ≤ g ∧ g ≤ 6) (ha : dB (bd2 l g) acc) (hr : dB 1 (rlC ch own ot g l)) : dB (bd2 l (g + 1)) (FP.dadd acc (FP.dmul (rlC ch own ot g l) (wt2 g l))) := by
  have h1 := bd2_s hl hg
  rw [← h1.1]
  exact hfp.2.1 _ _ _ _ ha (wt_B hfp hr g l) (by omega)
theorem chV_B (hfp : FPL) : ∀ (n : Nat) (v w : Int), pip v + pip w ≤ n → v7 v → v ≠ 0 → v7 w → w ≠ 0 → dB 1 (chV v w) := by
  intro n
  induction n with
  | zero =>
    intro v w h h1 h2 h3 h4
    have := v7_pos h1 h2
    have := v7_pos h3 h4
    omega
  | succ n ih =>
    intro v w h h1 h2 h3 h4
    have hr : ∀ g l : Int, 1 ≤ g → 1 ≤ l → dB 1 (rlC chV v w g l) := fun g l hg hl => rlC_B hfp h1 hg hl (fun v' a b c => ih w v' (by omega) h3 h4 a b)
    have hi : ∀ (l : Int) (acc : UInt64), 1 ≤ l ∧ l ≤ 6 → dB (bd2 l l) acc → ∀ k : Nat, l + k ≤ 7 → dB (bd2 l (l + k)) (inZ chV v w l acc (l + k)) := by
      intro l acc hl ha k
      induction k with
      | zero =>
        intro _
        rw [show l + ((0 : Nat) : Int) = l by omega, inZ_0]
        exact ha
      | succ k ihk =>
        intro hk
        have h5 := ihk (by omega)
        have h6 := inZ_B hfp hl (by omega) h5 (hr (l + k) l (by omega) hl.1)
        rw [show l + ((k + 1 : Nat) : Int) = l + k + 1 by omega, inZ_s (by omega)]
        exact h6
    have ho : ∀ k : Nat, k ≤ 6 → dB (bd2 (k + 1) (k + 1)) (ouZ chV v w (k + 1)) := by
      intro k
      induction k with
      | zero => intro _; exact dB_0
      | succ k ihk =>
        intro hk
        have h5 := hi ((k + 1 : Nat) : Int) _ (by omega) (ihk (by omega)) (6 - k) (by omega)
        rw [show ((k + 1 : Nat) : Int) + ((6 - k : Nat) : Int) = 7 by omega, (bd2_r (by omega)).1] at h5
        rw [ouZ_s (l := ((k + 1 : Nat) : Int)) (by omega)]
        exact h5
    have h6 := ho 6 (by decide)
    rw [chV_eq h1 h2 h3 h4]
    exact hfp.2.2.2.2.2.1 _ h6
/-- what the class remembers -/
def chI (f : Int → UInt64) : Prop := ∀ v w : Int, v7 v → v ≠ 0 → v7 w → w ≠ 0 → f (v * 49 + w) = dm1 ∨ f (v * 49 + w) = chV v w
theorem chI_up {f : Int → UInt64} (h : chI f) {v w : Int} (h1 : v7 v) (h3 : v7 w) : chI (upD f (v * 49 + w) (chV v w)) := by
  intro v' w' a b c d
  have r1 := v7_rg h1
  have r2 := v7_rg h3
  have r3 := v7_rg a
  have r4 := v7_rg c
  by_cases q : v' = v ∧ w' = w
  · rw [q.1, q.2, upD_s]
    exact Or.inr rfl
  · rw [upD_n _ _ (by omega)]
    exact h v' w' a b c d
theorem chV_D (hfp : FPL) {v w : Int} (h1 : v7 v) (h2 : v ≠ 0) (h3 : v7 w) (h4 : w ≠ 0) : dB 1 (chV v w) := by
  have h7 := v7_pos h1 h2
  have h8 := v7_pos h3 h4
  exact chV_B hfp (pip v + pip w).toNat v w (by omega) h1 h2 h3 h4
theorem grC_D (hfp : FPL) {w : Int} {m : Nat} {own d nd : Int} (h1 : v7 own) (h3 : v7 w) (h4 : w ≠ 0) (hd : 1 ≤ d) (hn : 1 ≤ nd) : dB 1 (grC chV w m own d nd) := grC_B hfp h1 hd hn (fun v a b _ => chV_D hfp h3 h4 a b)
theorem rlC_D (hfp : FPL) {v w g l : Int} (h1 : v7 v) (h3 : v7 w) (h4 : w ≠ 0) (hd : 1 ≤ g) (hn : 1 ≤ l) : dB 1 (rlC chV v w g l) := rlC_B hfp h1 hd hn (fun v' a b _ => chV_D hfp h3 h4 a b)
def flD (f g : Int → UInt64) (i : Int) : Int → UInt64 := fun k => if 0 ≤ k ∧ k < i then f k else g k
theorem flD_0 (f g : Int → UInt64) : flD f g 0 = g := by
  funext k
  unfold flD
  rw [if_neg (by omega)]
theorem flD_s (f g : Int → UInt64) {i : Int} (h : 0 ≤ i) : upD (flD f g i) i (f i) = flD f g (i + 1) := by
  funext k
  by_cases q : k = i
  · subst q
    rw [upD_s]
    show f k = if 0 ≤ k ∧ k < k + 1 then f k else g k
    rw [if_pos (by omega)]
  · rw [upD_n _ _ q]
    show (if 0 ≤ k ∧ k < i then f k else g k) = if 0 ≤ k ∧ k < i + 1 then f k else g k
    by_cases q2 : 0 ≤ k ∧ k < i
    · rw [if_pos q2, if_pos (by omega)]
    · rw [if_neg q2, if_neg (by omega)]
theorem arrD_ext {cA : ClassId} {n : Nat} {f g : Int → UInt64} (h : ∀ k : Int, 0 ≤ k → k < n → f k = g k) : vp_cell cA (n, .inr (.inr (.inr (.inl (aD f))))) = vp_cell cA (n, .inr (.inr (.inr (.inl (aD g))))) := by
  show arrV cA n (fun k => .double (aD f k)) = arrV cA n (fun k => .double (aD g k))
  exact arrV_ext (fun k hk => by
    show Value.double (f k) = .double (g k)
    rw [h k (by omega) (by omega)])
theorem z_extD {G : wG} {ws : va_W} {H : Heap} {q a n : Nat} {f g : Int → UInt64} (hP : va_P G.1 vwCl ws H) (he : ws[q]? = some (a, .inl (G.2.1.2.2, n, .inr (.inr (.inr (.inl (aD f))))))) (h : ∀ k : Int, 0 ≤ k → k < n → f k = g k) : va_P G.1 vwCl (ws.set q (a, .inl (G.2.1.2.2, n, .inr (.inr (.inr (.inl (aD g))))))) H := by
  refine va_P_cell hP he (fun h1 => ?_)
  show H[a]? = some (vp_cell _ _)
  have h2 : H[a]? = some (vp_cell G.2.1.2.2 (n, .inr (.inr (.inr (.inl (aD f)))))) := h1
  rw [h2, arrD_ext h]
