/-! BITS of numbers that are not negative -/
theorem zI_nI {z : Int} (h : 0 ≤ z) : zI z = nI z.toNat := by
  obtain ⟨n, rfl⟩ : ∃ n : Nat, z = n := ⟨z.toNat, by omega⟩
  rw [Int.toNat_natCast]
  exact (zI_nat n).symm
theorem zI_ofN (n : Nat) : nI n = zI (n : Int) := zI_nat n
theorem sh_l : ∀ n, n < 32 → ((nI n &&& 31).toBitVec.smod 32).toNat = n := by decide +kernel
theorem sh_u : ∀ n, n < 32 → (((nI n).toUInt32 &&& Int32.toUInt32 31).toBitVec % 32).toNat = n := by decide +kernel
theorem zI_ushr {z k : Int} (h : 0 ≤ z ∧ z < 4294967296) (hk : 0 ≤ k ∧ k < 32) : ((zI z).toUInt32 >>> ((zI k).toUInt32 &&& Int32.toUInt32 31)).toInt32 = zI (z / (2 ^ k.toNat : Nat)) := by
  rw [zI_nI h.1, zI_nI hk.1, pk_ushrN (by omega) _ k.toNat (sh_u _ (by omega)), zI_ofN]
  congr 1
  rw [Int.natCast_ediv, Int.toNat_of_nonneg h.1]
theorem zI_and {z : Int} (h : 0 ≤ z ∧ z < 4294967296) (k : Nat) (hm : (zI ((2 ^ k : Nat) - 1)).toBitVec.toNat = 2 ^ k - 1) : zI z &&& zI ((2 ^ k : Nat) - 1) = zI (z % (2 ^ k : Nat)) := by
  rw [zI_nI h.1, pk_andN (by omega) k hm, zI_ofN]
  congr 1
  rw [Int.natCast_emod, Int.toNat_of_nonneg h.1]
theorem zI_and255 {z : Int} (h : 0 ≤ z ∧ z < 4294967296) : zI z &&& zI 255 = zI (z % 256) := zI_and h 8 (by decide)
theorem zI_and7 {z : Int} (h : 0 ≤ z ∧ z < 4294967296) : zI z &&& zI 7 = zI (z % 8) := zI_and h 3 (by decide)
theorem zI_shl {z k : Int} (h : 0 ≤ z) (hk : 0 ≤ k ∧ k < 32) (hz : z * (2 ^ k.toNat : Nat) < 4294967296) : zI z <<< (zI k &&& 31) = zI (z * (2 ^ k.toNat : Nat)) := by
  have e : ((z.toNat * 2 ^ k.toNat : Nat) : Int) = z * (2 ^ k.toNat : Nat) := by rw [Int.natCast_mul, Int.toNat_of_nonneg h]
  rw [zI_nI h, zI_nI hk.1, pk_shlN _ k.toNat (sh_l _ (by omega)) (by omega), zI_ofN, e]
theorem nI_or (a b : Nat) : nI a ||| nI b = nI (a ||| b) := by
  apply Int32.toBitVec_inj.mp
  rw [Int32.toBitVec_or]
  apply BitVec.eq_of_toNat_eq
  show (BitVec.ofNat 32 a ||| BitVec.ofNat 32 b).toNat = (BitVec.ofNat 32 (a ||| b)).toNat
  rw [BitVec.toNat_or, BitVec.toNat_ofNat, BitVec.toNat_ofNat, BitVec.toNat_ofNat, Nat.or_mod_two_pow]
theorem zI_or {a b : Int} (k : Nat) (ha : 0 ≤ a ∧ a < (2 ^ k : Nat)) (hb : 0 ≤ b) : zI (b * (2 ^ k : Nat)) ||| zI a = zI (b * (2 ^ k : Nat) + a) := by
  obtain ⟨m, rfl⟩ : ∃ n : Nat, a = n := ⟨a.toNat, by omega⟩
  obtain ⟨n, rfl⟩ : ∃ n : Nat, b = n := ⟨b.toNat, by omega⟩
  rw [← Int.natCast_mul, ← Int.natCast_add, ← zI_ofN, ← zI_ofN, ← zI_ofN, nI_or, Nat.mul_comm, Nat.two_pow_add_eq_or_of_lt (by omega)]
theorem zI_or' {a b : Int} (k : Nat) (ha : 0 ≤ a ∧ a < (2 ^ k : Nat)) (hb : 0 ≤ b) : zI a ||| zI (b * (2 ^ k : Nat)) = zI (a + b * (2 ^ k : Nat)) := by
  rw [Int32.or_comm, zI_or k ha hb, Int.add_comm]
/-- by eights -/
def p8 (i : Int) : Int := if i = 0 then 1 else if i = 1 then 256 else if i = 2 then 65536 else 16777216
theorem zI_ushr8 {z i : Int} (h : 0 ≤ z ∧ z < 4294967296) (hi : 0 ≤ i ∧ i ≤ 3) : ((zI z).toUInt32 >>> ((zI (8 * i)).toUInt32 &&& Int32.toUInt32 31)).toInt32 = zI (z / p8 i) := by
  rcases (show i = 0 ∨ i = 1 ∨ i = 2 ∨ i = 3 by omega) with q | q | q | q <;> subst q <;> exact zI_ushr h (by omega)
theorem zI_shl8 {z i : Int} (h : 0 ≤ z ∧ z < 256) (hi : 0 ≤ i ∧ i ≤ 3) : zI z <<< (zI (8 * i) &&& 31) = zI (z * p8 i) := by
  rcases (show i = 0 ∨ i = 1 ∨ i = 2 ∨ i = 3 by omega) with q | q | q | q <;> subst q
  · exact zI_shl h.1 (by omega) (by show z * 1 < _; omega)
  · exact zI_shl h.1 (by omega) (by show z * 256 < _; omega)
  · exact zI_shl h.1 (by omega) (by show z * 65536 < _; omega)
  · exact zI_shl h.1 (by omega) (by show z * 16777216 < _; omega)
theorem zI_or8 {a b i : Int} (hi : 0 ≤ i ∧ i ≤ 3) (ha : 0 ≤ a ∧ a < p8 i) (hb : 0 ≤ b) : zI a ||| zI (b * p8 i) = zI (a + b * p8 i) := by
  rcases (show i = 0 ∨ i = 1 ∨ i = 2 ∨ i = 3 by omega) with q | q | q | q <;> subst q
  · exact zI_or' 0 ha hb
  · exact zI_or' 8 ha hb
  · exact zI_or' 16 ha hb
  · exact zI_or' 24 ha hb
theorem p8_pos (i : Int) : 0 < p8 i := by unfold p8; split <;> (try split) <;> (try split) <;> omega
/-! two longs compared -/
def cmZ (a b : Int) : Int := if b < a then 1 else if a = b then 0 else -1
theorem cmZ_cs (a b : Int) : (b < a ∧ cmZ a b = 1) ∨ (a = b ∧ cmZ a b = 0) ∨ (a < b ∧ cmZ a b = -1) := by
  unfold cmZ
  split
  · omega
  · split <;> omega
section ZLC
variable {p : Program} {l : Launch} {e : Env} {R : Room} {s : State} {m : MethodId} {args : Array Value} {below : List Frame} {meth : Method} {c : Code} {H : Heap} {locs : List Loc} {cells slots : Nat} {Q : State → Prop}
variable {cc : ByteArray} {nL : Nat} {Ts : List Cond} {own : String} {pc : Nat} {ls : Array Slot} {rest : List Value}
theorem z_lcmp (hF : wFx p m c cc nL s args Ts own) {a b : Int} (ha : -9223372036854775808 ≤ a ∧ a < 9223372036854775808) (hb : -9223372036854775808 ≤ b ∧ b < 9223372036854775808) (hd : decode cc pc = .ok (.lcmp, 1)) (k : W p l e R s m args below meth c H locs cells slots Q (F0 m (pc + 1) ls (.int (zI (cmZ a b)) :: rest))) : W p l e R s m args below meth c H locs cells slots Q (F0 m pc ls (.long (zL b) :: .long (zL a) :: rest)) := by
  refine W.lcmp hF.1 hF.2.1 hd ?_
  have e9 : lg_cmp (zL a) (zL b) = zI (cmZ a b) := by
    unfold lg_cmp cmZ
    by_cases q : b < a
    · rw [if_pos q, if_pos ((zL_lt hb ha).mpr q)]; rfl
    · rw [if_neg q, if_neg (fun h => q ((zL_lt hb ha).mp h))]
      by_cases q2 : a = b
      · rw [if_pos q2, if_pos ((zL_eq ha hb).mpr q2)]; rfl
      · rw [if_neg q2, if_neg (fun h => q2 ((zL_eq ha hb).mp h))]; rfl
  rw [e9]
  exact k
end ZLC
theorem zI_orN {a b : Int} (ha : 0 ≤ a) (hb : 0 ≤ b) : zI a ||| zI b = zI ((a.toNat ||| b.toNat : Nat) : Int) := by
  rw [zI_nI ha, zI_nI hb, nI_or, zI_ofN]
