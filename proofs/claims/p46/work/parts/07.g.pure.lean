/-! FROM CALL TO CALL: pure facts of boards, rows, seats -/
theorem iz_bk {n : Int} {b : Int → Int} (h : VB n b) : bk b 0 = b := by
  funext k
  by_cases q : 0 ≤ k ∧ k < 52
  · unfold bk
    rw [if_pos q, show (0 : Int) + k = k by omega]
  · rw [bk_o q, h.2.1 k (by omega)]
theorem iz_put {n p q : Int} {b : Int → Int} (h : VB n b) (hp : 0 ≤ p ∧ p ≤ 25) (hq : 0 ≤ q) : VB (n + q) (up (up b (26 * 0 + p) (b (26 * 0 + p) + q)) (26 * 1 + p) (up b (26 * 0 + p) (b (26 * 0 + p) + q) (26 * 1 + p) + q)) := by
  have hn : ∀ k, 0 ≤ up b (26 * 0 + p) (b (26 * 0 + p) + q) k := fun k => by
    by_cases e : k = 26 * 0 + p
    · rw [e, up_s]
      have := h.1 (26 * 0 + p)
      omega
    · rw [up_n _ _ e]
      exact h.1 k
  refine ⟨fun k => ?_, fun k hk => ?_, ?_, ?_⟩
  · by_cases e : k = 26 * 1 + p
    · rw [e, up_s]
      have := hn (26 * 1 + p)
      omega
    · rw [up_n _ _ e]
      exact hn k
  · rw [up_n _ _ (by omega), up_n _ _ (by omega)]
    exact h.2.1 k hk
  · rw [men_out (by omega), men_up hp, h.2.2.1]
    omega
  · rw [men_up hp, men_out (by omega), h.2.2.2]
    omega
theorem iz_lyF {f : Int → Int} (h0 : ∀ k, 0 ≤ f k ∧ f k ≤ 25) : ∀ n : Nat, VB (lyS f n) (lyF f n)
  | 0 => ⟨fun _ => Int.le_refl _, fun _ _ => rfl, rfl, rfl⟩
  | n + 1 => iz_put (iz_lyF h0 n) (h0 (2 * (n : Int))) (h0 (2 * (n : Int) + 1)).1
theorem iz_lyP (v : Int) : VB (lyE v) (lyP v) := iz_lyF (lyV_rg v) (lyM v)
theorem iz_lyE (v : Int) : lyE v ≤ 15 := by
  have h := lyE_cs v
  omega
theorem iz_stp {b : Int → Int} {sd fr d : Int} (hs : 0 ≤ sd ∧ sd ≤ 1) (hf : 1 ≤ fr ∧ fr ≤ 25) (hd : 1 ≤ d) : stp b sd fr d (26 * (1 - sd) + 25) = b (26 * (1 - sd) + 25) + hwB b sd fr d := by
  by_cases q : d < fr ∧ b (26 * (1 - sd) + (25 - (fr - d))) ≠ 0
  · have ht : toP fr d = fr - d := if_pos q.1
    have h1 : hwB b sd fr d = 1 := if_pos q
    rw [stp_t (show hitP b sd fr d from q), h1]
    unfold htB
    rw [up_s, ht, up_n _ _ (by omega), mvB_o hs (by omega) (by omega) (by omega)]
  · have h1 : hwB b sd fr d = 0 := if_neg q
    rw [stp_f (show ¬ hitP b sd fr d from q), h1, mvB_o hs (by omega) (by omega) (by omega)]
    omega
theorem iz_hiR {sd : Int} (hs : 0 ≤ sd ∧ sd ≤ 1) : ∀ (r : Row) (b : Int → Int), lgR sd b r → hiR sd b r = poR sd b r (26 * (1 - sd) + 25) - b (26 * (1 - sd) + 25)
  | [], b, _ => by
    show (0 : Int) = b _ - b _
    omega
  | q :: t, b, h => by
    show hwB b sd q.1 q.2 + hiR sd (stp b sd q.1 q.2) t = poR sd (stp b sd q.1 q.2) t _ - b _
    have h1 := iz_hiR hs t (stp b sd q.1 q.2) h.2.2
    have h2 := iz_stp (b := b) hs ⟨h.1.1, h.1.2.1⟩ h.2.1.1
    rw [h1, h2]
    omega
theorem iz_rc {sd : Int} : ∀ (r : Row) (b : Int → Int) (j : Nat), lgR sd b r → r.length ≤ 4 → j < r.length → rc r / p8 (j : Int) % 256 = 8 * (r.getD j (0, 0)).1 + (r.getD j (0, 0)).2 ∧ (1 ≤ (r.getD j (0, 0)).2 ∧ (r.getD j (0, 0)).2 ≤ 6)
  | [], _, _, _, _, hj => absurd hj (Nat.not_lt_zero _)
  | q :: t, b, 0, h, _, _ => by
    have h1 := rc_tl h
    refine ⟨?_, h.2.1⟩
    show rc (q :: t) / 1 % 256 = 8 * q.1 + q.2
    rw [Int.ediv_one]
    exact h1.2
  | q :: t, b, j + 1, h, hl, hj => by
    have h1 := rc_tl h
    have hl' : t.length + 1 ≤ 4 := hl
    have hj' : j + 1 < t.length + 1 := hj
    have h2 := iz_rc t (stp b sd q.1 q.2) j h.2.2 (by omega) (by omega)
    have h3 : rc (q :: t) / p8 ((j + 1 : Nat) : Int) = rc t / p8 (j : Int) := by
      rw [← h1.1]
      rcases (show j = 0 ∨ j = 1 ∨ j = 2 by omega) with e | e | e <;> subst e
      · show rc (q :: t) / 256 = rc (q :: t) / 256 / 1
        omega
      · show rc (q :: t) / 65536 = rc (q :: t) / 256 / 256
        omega
      · show rc (q :: t) / 16777216 = rc (q :: t) / 256 / 65536
        omega
    rw [h3]
    exact h2
theorem iz_farN {b : Int → Int} {sd : Int} (hb : okB b) : ∀ n : Nat, 0 ≤ cnM b sd 19 (19 + (n : Int)) ∧ (18 < farN b sd (18 + n) ↔ 0 < cnM b sd 19 (19 + (n : Int)))
  | 0 => by
    have h1 := farN_rg b sd 18
    have h2 := cnM_0 b sd 19
    rw [show (19 : Int) + ((0 : Nat) : Int) = 19 by omega, h2]
    refine ⟨Int.le_refl _, ?_⟩
    show 18 < farN b sd 18 ↔ (0 : Int) < 0
    omega
  | n + 1 => by
    have ih := iz_farN (sd := sd) hb n
    have h2 := cnM_s (b := b) (sd := sd) (a := 19) (e := 19 + (n : Int)) (by omega)
    have h3 := (hb (26 * sd + (19 + (n : Int)))).1
    rw [show (19 : Int) + ((n + 1 : Nat) : Int) = 19 + (n : Int) + 1 by omega, h2]
    have e1 : ((18 + n + 1 : Nat) : Int) = 19 + (n : Int) := by omega
    have h4 : farN b sd (18 + n + 1) = if 0 < b (26 * sd + (19 + (n : Int))) then 19 + (n : Int) else farN b sd (18 + n) := by
      rw [← e1]
      rfl
    refine ⟨by omega, ?_⟩
    show 18 < farN b sd (18 + n + 1) ↔ _
    rw [h4]
    by_cases c : 0 < b (26 * sd + (19 + (n : Int)))
    · rw [if_pos c]
      omega
    · rw [if_neg c, ih.2]
      omega
theorem iz_far {b : Int → Int} {sd : Int} (hb : okB b) : 18 < far b sd ↔ 0 < cnM b sd 19 26 := by
  have h := (iz_farN (sd := sd) hb 7).2
  rw [show (19 : Int) + ((7 : Nat) : Int) = 26 by omega] at h
  exact h
theorem iz_kd {op le ja sk ho mv : Int} {b : Int → Int} (hb : okB b) (h1 : op ≠ 0) (h2 : sk = 1 → ho < 0) : (if le = 0 ∧ ja ≠ 0 ∧ sk = 1 ∧ ho < 0 then (1 : Int) else (if 0 < b (26 * (1 - mv) + 0) then 1 else if 0 < cnM b (1 - mv) 19 26 then 3 else 2)) = kdF op le ja sk b (1 - mv) := by
  have hf := iz_far (sd := 1 - mv) hb
  unfold kdF
  by_cases c0 : le = 0 ∧ ja ≠ 0 ∧ sk = 1 ∧ ho < 0
  · rw [if_pos c0, if_pos (Or.inr ⟨h1, c0.1, c0.2.1, c0.2.2.1⟩)]
  · rw [if_neg c0]
    by_cases c1 : 0 < b (26 * (1 - mv) + 0)
    · rw [if_pos c1, if_pos (Or.inl c1)]
    · have c3 : ¬ (0 < b (26 * (1 - mv) + 0) ∨ (op ≠ 0 ∧ le = 0 ∧ ja ≠ 0 ∧ sk = 1)) := fun h => h.elim c1 (fun q => c0 ⟨q.2.1, q.2.2.1, q.2.2.2, h2 q.2.2.2⟩)
      rw [if_neg c1, if_neg c3]
      by_cases c2 : 18 < far b (1 - mv)
      · rw [if_pos (hf.mp c2), if_pos c2]
      · rw [if_neg (fun q => c2 (hf.mpr q)), if_neg c2]
theorem iz_kd3 (op le ja sk : Int) (b : Int → Int) (lo : Int) : 1 ≤ kdF op le ja sk b lo ∧ kdF op le ja sk b lo ≤ 3 := by
  unfold kdF
  split
  · omega
  · split <;> omega
/-- who plays a turn -/
def jzS (fi : Int) (T : List Row) : Int := if T.length % 2 = 0 then fi else 1 - fi
theorem jzS_c (fi : Int) (r : Row) (t : List Row) : jzS fi (r :: t) = jzS (1 - fi) t := by
  unfold jzS
  rw [List.length_cons]
  by_cases h : t.length % 2 = 0
  · rw [if_pos h, if_neg (by omega)]
  · rw [if_neg h, if_pos (by omega)]
    omega
theorem jzS_s (fi : Int) (T : List Row) (r : Row) : jzS fi (T ++ [r]) = 1 - jzS fi T := by
  unfold jzS
  rw [List.length_append, List.length_singleton]
  by_cases h : T.length % 2 = 0
  · rw [if_pos h, if_neg (by omega)]
  · rw [if_neg h, if_pos (by omega)]
    omega
theorem jzS_0 (fi : Int) : jzS fi [] = fi := rfl
theorem rpB_s : ∀ (T : List Row) (fi : Int) (b : Int → Int) (r : Row), rpB fi b (T ++ [r]) = poR (jzS fi T) (rpB fi b T) r
  | [], _, _, _ => rfl
  | q :: t, fi, b, r => by
    rw [jzS_c]
    exact rpB_s t (1 - fi) (poR fi b q) r
theorem lgT_s : ∀ (T : List Row) (fi : Int) (b : Int → Int) (r : Row), lgT fi b T → r.length ≤ 4 → lgR (jzS fi T) (rpB fi b T) r → lgT fi b (T ++ [r])
  | [], _, _, _, _, h1, h2 => ⟨h1, h2, trivial⟩
  | q :: t, fi, b, r, h, h1, h2 => by
    rw [jzS_c] at h2
    exact ⟨h.1, h.2.1, lgT_s t (1 - fi) (poR fi b q) r h.2.2 h1 h2⟩
/-! the seats behind a game -/
theorem seN_at {se : Int → Int} {lv n k : Int} : seN se lv n k = se (if k = n - 1 then lv else if lv ≤ k ∧ k < n - 1 then k + 1 else k) := by
  unfold seN
  by_cases e : k = n - 1
  · rw [e, up_s, if_pos rfl]
  · rw [up_n _ _ e, if_neg e]
    unfold mu
    by_cases e2 : lv ≤ k ∧ k < n - 1
    · rw [if_pos e2, if_pos e2]
    · rw [if_neg e2, if_neg e2]
theorem py_at {f : Int → Int} {a c v p : Int} (h : a ≠ c) : py f a c v p = f p + (if p = a then -v else if p = c then v else 0) := by
  unfold py
  by_cases e : p = c
  · rw [e, up_s, up_n _ _ (by omega), if_neg (by omega), if_pos rfl]
  · rw [up_n _ _ e]
    by_cases e2 : p = a
    · rw [e2, up_s, if_pos rfl]
      omega
    · rw [up_n _ _ e2, if_neg e2, if_neg e]
      omega
theorem pyN_at {se f : Int → Int} {v N : Int} (hi : ∀ j k : Int, 0 ≤ j → j < N → 0 ≤ k → k < N → se j = se k → j = k) : ∀ n : Nat, (n : Int) < N → ∀ k : Int, 0 ≤ k → k < N → pyN se v f n (se k) = f (se k) + (if k = 0 then v * n else if k ≤ n then -v else 0)
  | 0, _, k, h0, h1 => by
    show f (se k) = _
    by_cases e : k = 0
    · rw [if_pos e]
      simp
    · rw [if_neg e, if_neg (by omega)]
      omega
  | n + 1, hn, k, h0, h1 => by
    have ih := pyN_at (v := v) (f := f) hi n (by omega) k h0 h1
    have h01 : se ((n + 1 : Nat) : Int) ≠ se 0 := fun q => by
      have := hi _ _ (by omega) hn (by omega) (by omega) q
      omega
    show py (pyN se v f n) (se ((n + 1 : Nat) : Int)) (se 0) v (se k) = _
    rw [py_at h01, ih]
    by_cases e : k = 0
    · subst e
      rw [if_pos rfl, if_pos rfl, if_neg (fun q : se 0 = se ((n + 1 : Nat) : Int) => h01 q.symm), if_pos rfl, show ((n + 1 : Nat) : Int) = (n : Int) + 1 by omega, Int.mul_add]
      omega
    · rw [if_neg e, if_neg e]
      by_cases e2 : k = ((n + 1 : Nat) : Int)
      · rw [if_neg (show ¬ k ≤ (n : Int) by omega), if_pos (show se k = se ((n + 1 : Nat) : Int) by rw [e2]), if_pos (show k ≤ ((n + 1 : Nat) : Int) by omega)]
        omega
      · rw [if_neg (fun q => e2 (hi _ _ h0 h1 (by omega) hn q)), if_neg (fun q => e (hi _ _ h0 h1 (by omega) (by omega) q))]
        by_cases e3 : k ≤ (n : Int)
        · rw [if_pos e3, if_pos (by omega)]
          omega
        · rw [if_neg e3, if_neg (by omega)]
          omega
theorem sz6_py {f : Int → Int} {a c v : Int} (ha : 0 ≤ a ∧ a < 6) (hc : 0 ≤ c ∧ c < 6) : sz (py f a c v) 6 = sz f 6 := by
  have key : ∀ (f : Int → Int) (k v : Int), 0 ≤ k ∧ k < 6 → sz (up f k v) 6 = sz f 6 - f k + v := fun f k v h => sm_up (f := f) h.1 (by have : (6 : Int).toNat = 6 := rfl; omega)
  unfold py
  rw [key _ _ _ hc, key _ _ _ ha]
  omega
theorem sz6_pyN {se f : Int → Int} {v : Int} {N : Int} (hN : N ≤ 6) (hs : ∀ k : Int, 0 ≤ k → k < N → 0 ≤ se k ∧ se k < N) (h0 : 0 < N) : ∀ n : Nat, (n : Int) < N → sz (pyN se v f n) 6 = sz f 6
  | 0, _ => rfl
  | n + 1, hn => by
    have h1 := hs ((n + 1 : Nat) : Int) (by omega) hn
    have h2 := hs 0 (by omega) h0
    show sz (py (pyN se v f n) _ _ v) 6 = _
    rw [sz6_py (by omega) (by omega)]
    exact sz6_pyN hN hs h0 n (by omega)
