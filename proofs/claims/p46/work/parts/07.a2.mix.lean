/-! a call's cells put back by a mask: linear where the list is written out -/
def widx : Nat → List Bool → List Nat
  | _, [] => []
  | k, true :: ms => k :: widx (k + 1) ms
  | k, false :: ms => widx (k + 1) ms
def wmix : List Bool → va_W → va_W → va_W
  | [], ws, qs => ws ++ qs
  | true :: ms, _ :: ws, q :: qs => q :: wmix ms ws qs
  | false :: ms, k9 :: ws, qs => k9 :: wmix ms ws qs
  | true :: ms, ws, qs => wput ws (widx 0 (true :: ms)) qs
  | false :: ms, ws, qs => wput ws (widx 0 (false :: ms)) qs
theorem widx_succ : ∀ (ms : List Bool) (k : Nat), widx (k + 1) ms = (widx k ms).map (fun i => i + 1)
  | [], _ => rfl
  | true :: ms, k => congrArg (fun t => (k + 1) :: t) (widx_succ ms (k + 1))
  | false :: ms, k => widx_succ ms (k + 1)
theorem wput_nil (ws qs : va_W) : wput ws [] qs = ws ++ qs := by rw [wput]
theorem wput_cons (k9 : Nat × va_E) : ∀ (is : List Nat) (ws qs : va_W), wput (k9 :: ws) (is.map (fun i => i + 1)) qs = k9 :: wput ws is qs
  | [], ws, qs => by rw [List.map_nil, wput_nil, wput_nil, List.cons_append]
  | _ :: _, _, [] => rfl
  | i :: is, ws, q :: qs => wput_cons k9 is (ws.set i q) qs
theorem wput_mix : ∀ (ms : List Bool) (ws qs : va_W), wput ws (widx 0 ms) qs = wmix ms ws qs
  | [], ws, qs => wput_nil ws qs
  | true :: _, [], _ => rfl
  | true :: ms, k9 :: ws, [] => rfl
  | true :: ms, _ :: ws, q :: qs => by
    show wput (q :: ws) (widx 1 ms) qs = q :: wmix ms ws qs
    rw [widx_succ, wput_cons, wput_mix ms ws qs]
  | false :: _, [], _ => rfl
  | false :: ms, k9 :: ws, qs => by
    show wput (k9 :: ws) (widx 1 ms) qs = k9 :: wmix ms ws qs
    rw [widx_succ, wput_cons, wput_mix ms ws qs]
theorem wmixP {D : va_G} {cl : List vw_C} {ws qs : va_W} {is : List Nat} {H : Heap} (ms : List Bool) (hm : (widx 0 ms == is) = true) (h : va_P D cl (wput ws is qs) H) : va_P D cl (wmix ms ws qs) H := by
  rw [← eq_of_beq hm, wput_mix] at h
  exact h
theorem wmixD {A : Nat → Prop} {ws qs : va_W} {is : List Nat} (ms : List Bool) (hm : (widx 0 ms == is) = true) (h : va_D A (wput ws is qs)) : va_D A (wmix ms ws qs) := by
  rw [← eq_of_beq hm, wput_mix] at h
  exact h
