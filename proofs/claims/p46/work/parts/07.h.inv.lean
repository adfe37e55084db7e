/-! THE RECORD: what stays of it -/
def jzP (k : Int) : Prop := k = 1 ∨ k = 2 ∨ k = 4 ∨ k = 8 ∨ k = 16 ∨ k = 32 ∨ k = 64
def jzH (ph mv tu hv fi : Int) (fd fn fr0 w42 w43 bs : Int → Int) (n : Int) : Prop :=
  (0 ≤ tu ∧ tu ≤ n) ∧ (0 ≤ hv ∧ hv < 65536) ∧ (0 ≤ fi ∧ fi ≤ 1) ∧ (∀ k, 0 ≤ k → k < tu → fn k = w42 k) ∧ (∀ k, 0 ≤ k → k < tu → fd k = w43 k) ∧ ∃ T : List Row, tu = (T.length : Int) ∧ (∀ k : Nat, k < T.length → fr0 k = rc (T.getD k [])) ∧ lgT fi (lyP hv) T ∧ rpB fi (lyP hv) T = bs ∧ (ph ≠ 45 → mv = jzS fi T)
section IGROUPS
variable {ph mv sk ho lk op va le ja cr p0 p1 tn tu hv fi al hi0 dg dl gl ll ra cnt ln gr j2 j6 j7 j8 j36 j49 j51 j52 n : Int}
variable {se ba fd fn fr0 fa fr fw fc fh qw qc qh bs bb w5 w11 w12 w18 w21 w22 w23 w24 w25 w40 w42 w43 w48 w53 : Int → Int} {fe w38 : Int → UInt64}
theorem jzH_play {q m k dn rk : Int} {r : Row} (h : jzH ph mv tu hv fi fd fn fr0 w42 w43 bs n) (hp : ph ≠ 45) (hl : lgR mv bs r) (h4 : r.length ≤ 4) (hr : rk = rc r) (hm : q ≠ 45 → m = 1 - mv) : jzH q m (tu + 1) hv fi (up fd tu dn) (up fn tu k) (up fr0 tu rk) (up w42 tu k) (up w43 tu dn) (poR mv bs r) (n + 1) := by
  obtain ⟨r1, r2, r3, r4, r5, T, t1, t2, t3, t4, t5⟩ := h
  have e5 := t5 hp
  refine ⟨by omega, r2, r3, fun j h0 h1 => ?_, fun j h0 h1 => ?_, T ++ [r], ?_, fun j hj => ?_, ?_, ?_, fun e => ?_⟩
  · by_cases e : j = tu
    · rw [e, up_s, up_s]
    · rw [up_n _ _ e, up_n _ _ e]
      exact r4 j h0 (by omega)
  · by_cases e : j = tu
    · rw [e, up_s, up_s]
    · rw [up_n _ _ e, up_n _ _ e]
      exact r5 j h0 (by omega)
  · rw [List.length_append, List.length_singleton]
    omega
  · rw [List.length_append, List.length_singleton] at hj
    by_cases e : (j : Int) = tu
    · have e2 : j = T.length := by omega
      rw [e, up_s, hr, e2, List.getD_eq_getElem?_getD, List.getElem?_append_right (Nat.le_refl _), Nat.sub_self]
      rfl
    · have e2 : j < T.length := by omega
      rw [up_n _ _ e, t2 j e2, List.getD_eq_getElem?_getD, List.getD_eq_getElem?_getD, List.getElem?_append_left e2]
  · refine lgT_s T fi (lyP hv) r t3 h4 ?_
    rw [t4, ← e5]
    exact hl
  · rw [rpB_s, t4, ← e5]
  · rw [jzS_s, hm e, e5]
end IGROUPS
