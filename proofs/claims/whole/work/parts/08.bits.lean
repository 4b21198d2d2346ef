/-! ===== longs as numbers (the wb_ rows began as rows of kit/laws/BITS.to-paste) ===== -/
theorem wb_tb (n : Nat) : (lN n).toBitVec = BitVec.ofNat 64 n := rfl
theorem wb_inj {a b : Int64} (h : a.toBitVec = b.toBitVec) : a = b := Int64.toBitVec_inj.mp h
theorem wb_c : ∀ k, k < 64 → ((nI k).toInt64 &&& 63) = lN k := by decide +kernel
theorem wb_sm : ∀ k, k < 64 → (BitVec.ofNat 64 k).smod 64 = BitVec.ofNat 64 k := by decide +kernel
theorem wb_shl (n : Nat) {k : Nat} (hk : k < 64) : lN n <<< ((nI k).toInt64 &&& 63) = lN (n * 2 ^ k) := by
  rw [wb_c k hk]
  apply wb_inj
  rw [Int64.toBitVec_shiftLeft, wb_tb, wb_tb, wb_tb, wb_sm k hk]
  apply BitVec.eq_of_toNat_eq
  rw [BitVec.shiftLeft_eq', BitVec.toNat_shiftLeft, BitVec.toNat_ofNat, BitVec.toNat_ofNat, BitVec.toNat_ofNat, Nat.mod_eq_of_lt (show k < 2 ^ 64 by omega), Nat.shiftLeft_eq, Nat.mul_mod, Nat.mod_mod, ← Nat.mul_mod]
theorem wb_and {a b : Nat} (ha : a < 2 ^ 64) (hb : b < 2 ^ 64) : lN a &&& lN b = lN (a &&& b) := by
  apply wb_inj
  rw [Int64.toBitVec_and, wb_tb, wb_tb, wb_tb]
  apply BitVec.eq_of_toNat_eq
  rw [BitVec.toNat_and, BitVec.toNat_ofNat, BitVec.toNat_ofNat, BitVec.toNat_ofNat, Nat.mod_eq_of_lt ha, Nat.mod_eq_of_lt hb, Nat.mod_eq_of_lt (Nat.and_lt_two_pow _ hb)]
theorem wb_or {a b : Nat} (ha : a < 2 ^ 64) (hb : b < 2 ^ 64) : lN a ||| lN b = lN (a ||| b) := by
  apply wb_inj
  rw [Int64.toBitVec_or, wb_tb, wb_tb, wb_tb]
  apply BitVec.eq_of_toNat_eq
  rw [BitVec.toNat_or, BitVec.toNat_ofNat, BitVec.toNat_ofNat, BitVec.toNat_ofNat, Nat.mod_eq_of_lt ha, Nat.mod_eq_of_lt hb, Nat.mod_eq_of_lt (Nat.or_lt_two_pow ha hb)]
theorem wb_sshr {n k : Nat} (hn : n < 2 ^ 63) (hk : k < 64) : lN n >>> ((nI k).toInt64 &&& 63) = lN (n / 2 ^ k) := by
  rw [wb_c k hk]
  apply wb_inj
  rw [Int64.toBitVec_shiftRight, wb_tb, wb_tb, wb_tb, wb_sm k hk]
  have hm : (BitVec.ofNat 64 n).msb = false := by
    rw [BitVec.msb_eq_false_iff_two_mul_lt, BitVec.toNat_ofNat]
    omega
  have hkn : (BitVec.ofNat 64 k).toNat = k := by rw [BitVec.toNat_ofNat]; omega
  show (BitVec.ofNat 64 n).sshiftRight (BitVec.ofNat 64 k).toNat = _
  rw [hkn, BitVec.sshiftRight_eq_of_msb_false hm]
  apply BitVec.eq_of_toNat_eq
  rw [BitVec.toNat_ushiftRight, BitVec.toNat_ofNat, BitVec.toNat_ofNat, Nat.shiftRight_eq_div_pow]
  have h1 : n / 2 ^ k ≤ n := Nat.div_le_self _ _
  rw [Nat.mod_eq_of_lt (by omega), Nat.mod_eq_of_lt (by omega)]
/-- what lcmp says of two numbers -/
def cmpN (a b : Nat) : Int := if b < a then 1 else if a = b then 0 else -1
theorem cmpN_r (a b : Nat) : -2147483648 ≤ cmpN a b ∧ cmpN a b < 2147483648 := by
  unfold cmpN
  split
  · omega
  · split <;> omega
theorem cmpN_0 {a b : Nat} : cmpN a b = 0 ↔ a = b := by
  unfold cmpN
  split
  · omega
  · split <;> omega
theorem cmpN_e {a b : Nat} (ha : a < 2 ^ 63) (hb : b < 2 ^ 63) : lg_cmp (lN a) (lN b) = iI (cmpN a b) := by
  unfold lg_cmp cmpN
  by_cases h1 : b < a
  · rw [if_pos (show lN a > lN b from (pk_lLT hb ha).mpr h1), if_pos h1]; rfl
  · rw [if_neg (show ¬ lN a > lN b from fun q => h1 ((pk_lLT hb ha).mp q)), if_neg h1]
    by_cases h2 : a = b
    · rw [if_pos (by rw [h2]), if_pos h2]; rfl
    · rw [if_neg (fun q => h2 ((pk_lEQ ha hb).mp q)), if_neg h2]; rfl
theorem tb_and {m k : Nat} : m &&& 2 ^ k = 0 ↔ ¬ m.testBit k = true := by
  constructor
  · intro h hb
    have h2 := congrArg (fun x => x.testBit k) h
    simp [Nat.testBit_and, hb] at h2
  · intro h
    apply Nat.eq_of_testBit_eq
    intro i
    rw [Nat.testBit_and, Nat.testBit_two_pow, Nat.zero_testBit]
    by_cases e : k = i
    · subst e
      simp only [Bool.not_eq_true] at h
      rw [h]; rfl
    · simp [e]
theorem tb_div {m k : Nat} : (m / 2 ^ k) &&& 1 = 1 ↔ m.testBit k = true := by
  rw [Nat.testBit_eq_decide_div_mod_eq, decide_eq_true_eq, Nat.and_one_is_mod]
theorem tb_div0 {m k : Nat} : (m / 2 ^ k) &&& 1 = 0 ↔ ¬ m.testBit k = true := by
  rw [← tb_div, Nat.and_one_is_mod]
  omega
section KR3
variable {p : Program} {l : Launch} {e : Env} {R : Room} {s : State} {m : MethodId} {args : Array Value} {below : List Frame} {meth : Method} {c : Code} {H : Heap} {locs : List Loc} {cells slots : Nat} {Q : State → Prop}
variable {cc : ByteArray} {pc : Nat} {ls : Array Slot} {rest : List Value}
theorem r_lshl (hx : p.tables.exec = Jvm.exec) (hb : c.code = cc) {n : Nat} {z : Int} (hdg : decode cc pc = .ok (.lshl, 1)) (hz : 0 ≤ z ∧ z < 64)
    (k : W p l e R s m args below meth c H locs cells slots Q (F0 m (pc + 1) ls (.long (lN (n * 2 ^ z.toNat)) :: rest))) : W p l e R s m args below meth c H locs cells slots Q (F0 m pc ls (.int (iI z) :: .long (lN n) :: rest)) :=
  lv_lshl hx hb hdg (by rw [show iI z = nI z.toNat by rw [iI_nat, Int.toNat_of_nonneg hz.1]]; exact wb_shl n (by omega)) k
theorem r_lshl1 (hx : p.tables.exec = Jvm.exec) (hb : c.code = cc) {z : Int} (hdg : decode cc pc = .ok (.lshl, 1)) (hz : 0 ≤ z ∧ z < 64)
    (k : W p l e R s m args below meth c H locs cells slots Q (F0 m (pc + 1) ls (.long (lN (2 ^ z.toNat)) :: rest))) : W p l e R s m args below meth c H locs cells slots Q (F0 m pc ls (.int (iI z) :: .long (lN 1) :: rest)) :=
  r_lshl hx hb hdg hz (by rw [Nat.one_mul]; exact k)
theorem r_lshr (hx : p.tables.exec = Jvm.exec) (hb : c.code = cc) {n : Nat} {z : Int} (hdg : decode cc pc = .ok (.lshr, 1)) (hz : 0 ≤ z ∧ z < 64) (hn : n < 2 ^ 63)
    (k : W p l e R s m args below meth c H locs cells slots Q (F0 m (pc + 1) ls (.long (lN (n / 2 ^ z.toNat)) :: rest))) : W p l e R s m args below meth c H locs cells slots Q (F0 m pc ls (.int (iI z) :: .long (lN n) :: rest)) :=
  lv_lshr hx hb hdg (by rw [show iI z = nI z.toNat by rw [iI_nat, Int.toNat_of_nonneg hz.1]]; exact wb_sshr hn (by omega)) k
theorem r_land (hx : p.tables.exec = Jvm.exec) (hb : c.code = cc) {a b : Nat} (hdg : decode cc pc = .ok (.land, 1)) (ha : a < 2 ^ 64) (hb2 : b < 2 ^ 64)
    (k : W p l e R s m args below meth c H locs cells slots Q (F0 m (pc + 1) ls (.long (lN (a &&& b)) :: rest))) : W p l e R s m args below meth c H locs cells slots Q (F0 m pc ls (.long (lN b) :: .long (lN a) :: rest)) :=
  lv_land hx hb hdg (by rw [wb_and ha hb2]; exact k)
theorem r_lor (hx : p.tables.exec = Jvm.exec) (hb : c.code = cc) {a b : Nat} (hdg : decode cc pc = .ok (.lor, 1)) (ha : a < 2 ^ 64) (hb2 : b < 2 ^ 64)
    (k : W p l e R s m args below meth c H locs cells slots Q (F0 m (pc + 1) ls (.long (lN (a ||| b)) :: rest))) : W p l e R s m args below meth c H locs cells slots Q (F0 m pc ls (.long (lN b) :: .long (lN a) :: rest)) :=
  lv_lor hx hb hdg (by rw [wb_or ha hb2]; exact k)
theorem r_lcmp (hx : p.tables.exec = Jvm.exec) (hb : c.code = cc) {a b : Nat} (hdg : decode cc pc = .ok (.lcmp, 1)) (ha : a < 2 ^ 63) (hb2 : b < 2 ^ 63)
    (k : W p l e R s m args below meth c H locs cells slots Q (F0 m (pc + 1) ls (.int (iI (cmpN a b)) :: rest))) : W p l e R s m args below meth c H locs cells slots Q (F0 m pc ls (.long (lN b) :: .long (lN a) :: rest)) :=
  W.lcmp hx hb hdg (by rw [cmpN_e ha hb2]; exact k)
end KR3
