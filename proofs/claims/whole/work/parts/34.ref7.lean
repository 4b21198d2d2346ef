theorem wb_mul {a b : Nat} : lN a * lN b = lN (a * b) := by
  apply wb_inj
  rw [Int64.toBitVec_mul, wb_tb, wb_tb, wb_tb]
  apply BitVec.eq_of_toNat_eq
  rw [BitVec.toNat_mul, BitVec.toNat_ofNat, BitVec.toNat_ofNat, BitVec.toNat_ofNat, ← Nat.mul_mod]
theorem wb_sub {a b : Nat} (h : b ≤ a) (ha : a < 2 ^ 63) : lN a - lN b = lN (a - b) := by
  apply wb_inj
  rw [Int64.toBitVec_sub, wb_tb, wb_tb, wb_tb]
  apply BitVec.eq_of_toNat_eq
  rw [BitVec.toNat_sub, BitVec.toNat_ofNat, BitVec.toNat_ofNat, BitVec.toNat_ofNat]
  omega
theorem lN_val {n : Nat} (h : n < 2 ^ 63) : (lN n).toInt = (n : Int) := lg_ofNat_toInt h
theorem wb_div {a b : Nat} (ha : a < 2 ^ 63) (hb : b < 2 ^ 63) (h0 : 0 < b) : lN a / lN b = lN (a / b) := by
  apply Int64.toInt_inj.mp
  have h3 : a / b < 2 ^ 63 := Nat.lt_of_le_of_lt (Nat.div_le_self _ _) ha
  rw [lg_ldiv_nonneg (by rw [lN_val ha]; omega) (by rw [lN_val hb]; omega), lN_val ha, lN_val hb, lN_val h3, Int.natCast_ediv]
theorem wb_i2l {z : Int} (h : 0 ≤ z ∧ z < 2147483648) : (iI z).toInt64 = lN z.toNat := by
  apply Int64.toInt_inj.mp
  rw [Int32.toInt_toInt64, iI_toInt (by omega) (by omega), lN_val (by omega), Int.toNat_of_nonneg h.1]
theorem wb_l2i {n : Nat} (h : n < 2147483648) : (lN n).toInt32 = iI (n : Int) := by
  apply Int32.toInt_inj.mp
  rw [Int64.toInt_toInt32, lN_val (by omega), iI_toInt (by omega) (by omega)]
  exact Int.bmod_eq_of_le (by omega) (by omega)
section KR5
variable {p : Program} {l : Launch} {e : Env} {R : Room} {s : State} {m : MethodId} {args : Array Value} {below : List Frame} {meth : Method} {c : Code} {H : Heap} {locs : List Loc} {cells slots : Nat} {Q : State → Prop}
variable {cc : ByteArray} {pc : Nat} {ls : Array Slot} {rest : List Value}
theorem r_i2l (hx : p.tables.exec = Jvm.exec) (hb : c.code = cc) {z : Int} (hdg : decode cc pc = .ok (.i2l, 1)) (hz : 0 ≤ z ∧ z < 2147483648)
    (k : W p l e R s m args below meth c H locs cells slots Q (F0 m (pc + 1) ls (.long (lN z.toNat) :: rest))) : W p l e R s m args below meth c H locs cells slots Q (F0 m pc ls (.int (iI z) :: rest)) := lv_i2l hx hb hdg (wb_i2l hz) k
theorem r_l2i (hx : p.tables.exec = Jvm.exec) (hb : c.code = cc) {n : Nat} (hdg : decode cc pc = .ok (.l2i, 1)) (hz : n < 2147483648)
    (k : W p l e R s m args below meth c H locs cells slots Q (F0 m (pc + 1) ls (.int (iI (n : Int)) :: rest))) : W p l e R s m args below meth c H locs cells slots Q (F0 m pc ls (.long (lN n) :: rest)) := lv_l2i hx hb hdg (wb_l2i hz) k
theorem r_lmul (hx : p.tables.exec = Jvm.exec) (hb : c.code = cc) {a b : Nat} (hdg : decode cc pc = .ok (.lmul, 1))
    (k : W p l e R s m args below meth c H locs cells slots Q (F0 m (pc + 1) ls (.long (lN (a * b)) :: rest))) : W p l e R s m args below meth c H locs cells slots Q (F0 m pc ls (.long (lN b) :: .long (lN a) :: rest)) := lv_lmul hx hb hdg (by rw [wb_mul]; exact k)
theorem r_lsub (hx : p.tables.exec = Jvm.exec) (hb : c.code = cc) {a b : Nat} (hdg : decode cc pc = .ok (.lsub, 1)) (h : b ≤ a) (ha : a < 2 ^ 63)
    (k : W p l e R s m args below meth c H locs cells slots Q (F0 m (pc + 1) ls (.long (lN (a - b)) :: rest))) : W p l e R s m args below meth c H locs cells slots Q (F0 m pc ls (.long (lN b) :: .long (lN a) :: rest)) := lv_lsub hx hb hdg (by rw [wb_sub h ha]; exact k)
theorem r_ldiv (hx : p.tables.exec = Jvm.exec) (hb : c.code = cc) {a b : Nat} (hdg : decode cc pc = .ok (.ldiv, 1)) (ha : a < 2 ^ 63) (hb2 : b < 2 ^ 63) (h0 : 0 < b)
    (k : W p l e R s m args below meth c H locs cells slots Q (F0 m (pc + 1) ls (.long (lN (a / b)) :: rest))) : W p l e R s m args below meth c H locs cells slots Q (F0 m pc ls (.long (lN b) :: .long (lN a) :: rest)) :=
  lv_ldiv hx hb hdg (fun q => by have := congrArg Int64.toInt q; rw [lN_val hb2] at this; have e : (0 : Int64).toInt = 0 := rfl; omega) (by rw [wb_div ha hb2 h0]; exact k)
end KR5
theorem lstQ {σ : Tb} (hI : Inv σ) {w : Int} (hw : 0 ≤ w ∧ w < σ 0 2) : ∀ i : Nat, (i : Int) ≤ σ 0 0 → ∃ c, (0 ≤ c ∧ c ≤ σ 18 w) ∧ (∀ k, 0 ≤ k → k < c → PQ σ w k < i) ∧ (∀ k, c ≤ k → k < σ 18 w → (i : Int) ≤ PQ σ w k) ∧ Lst (PQ σ w) c (isOn σ w) i
  | 0, _ => by
    have h0 := IQ_0 hI hw
    exact ⟨0, by omega, fun k k1 k2 => by omega, fun k k1 k2 => (IQ_k hI hw ⟨k1, k2⟩).1.1, Lst_0⟩
  | i + 1, hi => by
    obtain ⟨c, c1, c2, c3, c4⟩ := lstQ hI hw i (by omega)
    by_cases q : isOn σ w (i : Int)
    · obtain ⟨_, k, k0, k1, k2⟩ := IQ_p hI hw (by omega) q
      have hck : c = k := by
        rcases (show k < c ∨ c = k ∨ c < k by omega) with y | y | y
        · have := c2 k k0 y; omega
        · exact y
        · have := IQ_lt hI hw (j := c) (k := k) ⟨c1.1, y, k1⟩
          have := c3 c (by omega) (by omega)
          omega
      subst hck
      refine ⟨c + 1, by omega, fun j j1 j2 => ?_, fun j j1 j2 => ?_, ?_⟩
      · rcases (show j < c ∨ j = c by omega) with y | y
        · have := c2 j j1 y; omega
        · rw [y]; omega
      · have := IQ_lt hI hw (j := c) (k := j) ⟨c1.1, by omega, j2⟩; omega
      · have := Lst_a (f' := PQ σ w) (by omega) c4 q (fun _ _ _ => rfl) k2
        rw [show ((i + 1 : Nat) : Int) = (i : Int) + 1 by omega]
        exact this
    · refine ⟨c, c1, fun j j1 j2 => by have := c2 j j1 j2; omega, fun j j1 j2 => ?_, ?_⟩
      · have h1 := c3 j j1 j2
        have hne : PQ σ w j ≠ (i : Int) := fun e => q (e ▸ (IQ_k hI hw (k := j) ⟨by omega, j2⟩).2)
        omega
      · rw [show ((i + 1 : Nat) : Int) = (i : Int) + 1 by omega]
        exact Lst_k (by omega) c4 q
theorem rnk_p {σ : Tb} (hI : Inv σ) {w : Int} (hw : 0 ≤ w ∧ w < σ 0 2) : rnkC σ w = sumI (fun p => cif (isOn σ w p) (σ 4 p) 0) (σ 0 0) := by
  have h0 := Inv_0 hI
  obtain ⟨c, c1, _, c3, c4⟩ := lstQ hI hw (σ 0 0).toNat (by omega)
  have e : ((σ 0 0).toNat : Int) = σ 0 0 := Int.toNat_of_nonneg h0.1.1
  rw [e] at c3 c4
  have hc : c = σ 18 w := by
    rcases (show c = σ 18 w ∨ c < σ 18 w by omega) with y | y
    · exact y
    · have h1 := c3 c (by omega) y
      have h2 := (IQ_k hI hw (k := c) ⟨c1.1, y⟩).1.2
      omega
  rw [← c4.2.2.2 (fun p => σ 4 p), hc]
  rfl
abbrev rmX9_ranks : Room := { frames := 1, cells := 0, slots := 0, locals := 22 }
set_option maxRecDepth 100000 in
set_option maxHeartbeats 4000000 in
theorem c_X9_ranks {l : Launch} {D : va_G} {G : Nat → ClassId} {ad : Nat → Nat} {σ τ : Tb} (hi : kInj 27 ad) {w : Int} (hI : Inv σ) (hw : 0 ≤ w ∧ w < σ 0 2) : Met l yX9_ranks wsX9_ranks rmX9_ranks (kPc D (tysG G) 27 ad (RE G ad σ τ) [.ref (ad 0), .int (iI w)]) (kQi D 27 ad (fun z E' => z = rnkC σ w ∧ E' = RE G ad σ τ)) 0 0 (kA 27 ad) := by
  refine k_met (cc := cX9_ranks) (maxL := 4) (ret := (some .int)) (by decide) (Nat.le_of_ble_eq_true rfl) ?_
  intro P0 e0 s m0 below meth c0 ls hx hb hr hlocks hml hown hts hK hP hS hl
  replace hl : lv_has ls 4 [(0, _), (1, _)] := hl
  replace hown : s.vm.findClass RX9 = some m0.cls := hown
  refine k_abs (fun Wg hWg => ?_)
  have h0 := Inv_0 hI
  refine r_const hx hb dX9_ranks_0 ?_
  refine lv_istore_n hx hb dX9_ranks_1 rfl hl (by decide) rfl (fun ls hl => ?_)
  replace hl : lv_has ls 4 [(0, _), (1, _), (2, _)] := lv_sub hl [1, 2, 0] rfl
  refine r_const hx hb dX9_ranks_2 ?_
  refine lv_istore_n hx hb dX9_ranks_3 rfl hl (by decide) rfl (fun ls hl => ?_)
  replace hl : lv_has ls 4 [(0, _), (1, _), (2, _), (3, _)] := lv_sub hl [1, 2, 3, 0] rfl
  have loop4 : ∀ (nn : Nat) (n i : Int) (H : Heap) (locs : List Loc) (ls : Array Slot), va_P D vwCl (kw 27 ad (RE G ad σ τ)) H → va_S (kA 27 ad) s.heap H locs → lv_has ls 4 [(0, .ref (ad 0)), (1, .int (iI w)), (2, .int (iI n)), (3, .int (iI i))] → ((0 ≤ i ∧ i ≤ σ 0 0) ∧ n = sumI (fun p => cif (isOn σ w p) (σ 4 p) 0) i) → (σ 0 0 - i).toNat < nn → Wg H locs (F0 m0 4 ls []) := by
    intro nn
    induction nn with
    | zero => intro n i H locs ls _ _ _ _ hn; omega
    | succ nn ih4 =>
      intro n i H locs ls hP hS hl hv4 hn4
      rw [hWg]
      obtain ⟨hv, hn⟩ := hv4
      refine lv_iload_n hx hb dX9_ranks_4 rfl (lv_at hl 3 rfl) ?_
      refine lv_aload_n hx hb dX9_ranks_5 rfl (lv_at hl 0 rfl) ?_
      refine r_get (C := RX9) (T := TX9) (N := 34) (ci := 9) hx hb hts hi_X9 hown hK hP 6 rfl (by decide) lk_X9_101 (fun _ h9 => h9) dX9_ranks_6 (by omega) RE_0 rfl ?_
      refine r_icmp_ge (tgt := 40) hx hb (by omega) (by omega) dX9_ranks_9 (by decide) (fun c9 => ?_) (fun c9 => ?_)
      · obtain rfl : i = σ 0 0 := by omega
        refine lv_iload_n hx hb dX9_ranks_40 rfl (lv_at hl 2 rfl) ?_
        exact k_iret hx hb hr hlocks hP hS dX9_ranks_41 ⟨by rw [hn, rnk_p hI hw], rfl⟩
      · refine lv_iload_n hx hb dX9_ranks_12 rfl (lv_at hl 2 rfl) ?_
        refine lv_aload_n hx hb dX9_ranks_13 rfl (lv_at hl 0 rfl) ?_
        refine lv_iload_n hx hb dX9_ranks_14 rfl (lv_at hl 1 rfl) ?_
        refine lv_iload_n hx hb dX9_ranks_15 rfl (lv_at hl 3 rfl) ?_
        refine k_calliV (nL := 4) (C := RX9) (T := TX9) (N := 34) (ci := 9) hx hb hml hown hts hK hP hS hl.1 (c_X9_isOn hi hI hw (by omega)) rfl (Nat.le_of_ble_eq_true rfl) rfl (cwV 2 hts (gV lm_X9_117 ti_X9_isOn tl_X9_isOn tn_X9 tc_X9_isOn) rfl rfl rfl (by decide +kernel) ⟨Nat.le_of_ble_eq_true rfl, Nat.le_of_ble_eq_true rfl⟩) rfl dX9_ranks_16 ⟨Nat.zero_le _, Nat.zero_le _⟩ (by omega) RE_0 (fun r16 E1 H locs hq hP hS => ?_)
        obtain ⟨rfl, rfl⟩ := hq
        refine r_ifB_eq (tgt := 31) hx hb dX9_ranks_19 (by decide) (fun c19 => ?_) (fun c19 => ?_)
        · refine r_const hx hb dX9_ranks_31 ?_
          refine r_add hx hb dX9_ranks_32 ?_
          refine lv_istore_n hx hb dX9_ranks_33 rfl hl (by decide) rfl (fun ls hl => ?_)
          replace hl : lv_has ls 4 [(0, _), (1, _), (2, _), (3, _)] := lv_sub hl [1, 2, 0, 3] rfl
          refine r_iinc hx hb dX9_ranks_34 hl (k := 3) rfl (by decide) (fun ls hl => ?_)
          replace hl : lv_has ls 4 [(0, _), (1, _), (2, _), (3, _)] := lv_sub hl [1, 2, 3, 0] rfl
          refine lv_goto (tgt := 4) hx hb dX9_ranks_37 (by decide) ?_
          rw [← hWg]
          exact ih4 _ (i + 1) _ _ _ hP hS hl ⟨by omega, by rw [sumI_s hv.1, cif_f c19, hn]⟩ (by omega)
        · refine lv_aload_n hx hb dX9_ranks_22 rfl (lv_at hl 0 rfl) ?_
          refine r_get (C := RX9) (T := TX9) (N := 34) (ci := 9) hx hb hts hi_X9 hown hK hP 3 rfl (by decide) lk_X9_19 (fun _ h9 => h9) dX9_ranks_23 (by omega) RE_0 rfl ?_
          refine lv_iload_n hx hb dX9_ranks_26 rfl (lv_at hl 3 rfl) ?_
          refine r_iald hx hb hK hP 0 rfl dX9_ranks_27 (by omega) rfl (by omega) (by omega) (tI_at (by omega)) ?_
          refine lv_goto (tgt := 32) hx hb dX9_ranks_28 (by decide) ?_
          refine r_add hx hb dX9_ranks_32 ?_
          refine lv_istore_n hx hb dX9_ranks_33 rfl hl (by decide) rfl (fun ls hl => ?_)
          replace hl : lv_has ls 4 [(0, _), (1, _), (2, _), (3, _)] := lv_sub hl [1, 2, 0, 3] rfl
          refine r_iinc hx hb dX9_ranks_34 hl (k := 3) rfl (by decide) (fun ls hl => ?_)
          replace hl : lv_has ls 4 [(0, _), (1, _), (2, _), (3, _)] := lv_sub hl [1, 2, 3, 0] rfl
          refine lv_goto (tgt := 4) hx hb dX9_ranks_37 (by decide) ?_
          rw [← hWg]
          exact ih4 _ (i + 1) _ _ _ hP hS hl ⟨by omega, by rw [sumI_s hv.1, cif_t c19, hn]⟩ (by omega)
  rw [← hWg]
  exact loop4 _ 0 0 _ _ _ hP hS hl ⟨by omega, sumI_0.symm⟩ (Nat.lt_succ_self _)
abbrev rmX9_cost : Room := { frames := 2, cells := 0, slots := 0, locals := 45 }
set_option maxRecDepth 100000 in
set_option maxHeartbeats 4000000 in
theorem c_X9_cost {l : Launch} {D : va_G} {G : Nat → ClassId} {ad : Nat → Nat} {σ τ : Tb} (hi : kInj 27 ad) {w : Int} (hI : Inv σ) (hw : 0 ≤ w ∧ w < σ 0 2) : Met l yX9_cost wsX9_cost rmX9_cost (kPc D (tysG G) 27 ad (RE G ad σ τ) [.ref (ad 0), .int (iI w)]) (kQi D 27 ad (fun z E' => z = cstC σ w ∧ E' = RE G ad σ τ)) 0 0 (kA 27 ad) := by
  refine k_met (cc := cX9_cost) (maxL := 2) (ret := (some .int)) (by decide) (Nat.le_of_ble_eq_true rfl) ?_
  intro P0 e0 s m0 below meth c0 ls hx hb hr hlocks hml hown hts hK hP hS hl
  replace hl : lv_has ls 2 [(0, _), (1, _)] := hl
  replace hown : s.vm.findClass RX9 = some m0.cls := hown
  refine k_abs (fun Wg hWg => ?_)
  have h0 := Inv_0 hI
  refine lv_aload_n hx hb dX9_cost_0 rfl (lv_at hl 0 rfl) ?_
  refine r_get (C := RX9) (T := TX9) (N := 34) (ci := 9) hx hb hts hi_X9 hown hK hP 16 rfl (by decide) lk_X9_50 (fun _ h9 => h9) dX9_cost_1 (by omega) RE_0 rfl ?_
  refine lv_iload_n hx hb dX9_cost_4 rfl (lv_at hl 1 rfl) ?_
  refine r_iald hx hb hK hP 0 rfl dX9_cost_5 (by omega) rfl (by omega) (by omega) (tI_at (by omega)) ?_
  refine lv_aload_n hx hb dX9_cost_6 rfl (lv_at hl 0 rfl) ?_
  refine r_get (C := RX9) (T := TX9) (N := 34) (ci := 9) hx hb hts hi_X9 hown hK hP 21 rfl (by decide) lk_X9_66 (fun _ h9 => h9) dX9_cost_7 (by omega) RE_0 rfl ?_
  refine lv_iload_n hx hb dX9_cost_10 rfl (lv_at hl 1 rfl) ?_
  refine r_iald hx hb hK hP 0 rfl dX9_cost_11 (by omega) rfl (by omega) (by omega) (tI_at (by omega)) ?_
  refine r_bipush hx hb dX9_cost_12 (by decide +kernel) ?_
  refine r_const hx hb dX9_cost_14 ?_
  refine lv_aload_n hx hb dX9_cost_15 rfl (lv_at hl 0 rfl) ?_
  refine r_get (C := RX9) (T := TX9) (N := 34) (ci := 9) hx hb hts hi_X9 hown hK hP 15 rfl (by decide) lk_X9_47 (fun _ h9 => h9) dX9_cost_16 (by omega) RE_0 rfl ?_
  refine lv_iload_n hx hb dX9_cost_19 rfl (lv_at hl 1 rfl) ?_
  refine r_iald hx hb hK hP 0 rfl dX9_cost_20 (by omega) rfl (by omega) (by omega) (tI_at (by omega)) ?_
  refine r_mul hx hb dX9_cost_21 ?_
  refine r_add hx hb dX9_cost_22 ?_
  refine r_mul hx hb dX9_cost_23 ?_
  refine r_bipush hx hb dX9_cost_24 (by decide +kernel) ?_
  refine lv_aload_n hx hb dX9_cost_26 rfl (lv_at hl 0 rfl) ?_
  refine lv_iload_n hx hb dX9_cost_27 rfl (lv_at hl 1 rfl) ?_
  refine k_calliV (nL := 2) (C := RX9) (T := TX9) (N := 34) (ci := 9) hx hb hml hown hts hK hP hS hl.1 (c_X9_ranks hi hI hw) rfl (Nat.le_of_ble_eq_true rfl) rfl (cwV 1 hts (gV lm_X9_202 ti_X9_ranks tl_X9_ranks tn_X9 tc_X9_ranks) rfl rfl rfl (by decide +kernel) ⟨Nat.le_of_ble_eq_true rfl, Nat.le_of_ble_eq_true rfl⟩) rfl dX9_cost_28 ⟨Nat.zero_le _, Nat.zero_le _⟩ (by omega) RE_0 (fun r28 E1 H locs hq hP hS => ?_)
  obtain ⟨rfl, rfl⟩ := hq
  refine r_mul hx hb dX9_cost_31 ?_
  refine r_add hx hb dX9_cost_32 ?_
  refine r_mul hx hb dX9_cost_33 ?_
  exact k_iret hx hb hr hlocks hP hS dX9_cost_34 ⟨rfl, rfl⟩
theorem nd3 {a b c : Int} (ha : 0 ≤ a) (hb : 0 ≤ b) (hc : 0 ≤ c) : ((a.toNat * b.toNat / c.toNat : Nat) : Int) = a * b / c := by
  rw [Int.natCast_ediv, Int.natCast_mul, Int.toNat_of_nonneg ha, Int.toNat_of_nonneg hb, Int.toNat_of_nonneg hc]
abbrev rmX9_pays : Room := { frames := 3, cells := 0, slots := 0, locals := 66 }
set_option maxRecDepth 100000 in
set_option maxHeartbeats 4000000 in
theorem c_X9_pays {l : Launch} {D : va_G} {G : Nat → ClassId} {ad : Nat → Nat} {σ τ : Tb} (hi : kInj 27 ad) {w : Int} (hI : Inv σ) (hR : RD σ τ) (hw : 0 ≤ w ∧ w < σ 0 2) : Met l yX9_pays wsX9_pays rmX9_pays (kPc D (tysG G) 27 ad (RE G ad σ τ) [.ref (ad 0), .int (iI w)]) (kQi D 27 ad (fun z E' => z = payC σ w ∧ E' = RE G ad σ τ)) 0 0 (kA 27 ad) := by
  refine k_met (cc := cX9_pays) (maxL := 9) (ret := (some .int)) (by decide) (Nat.le_of_ble_eq_true rfl) ?_
  intro P0 e0 s m0 below meth c0 ls hx hb hr hlocks hml hown hts hK hP hS hl
  replace hl : lv_has ls 9 [(0, _), (1, _)] := hl
  replace hown : s.vm.findClass RX9 = some m0.cls := hown
  refine k_abs (fun Wg hWg => ?_)
  have h0 := Inv_0 hI
  obtain ⟨hR2, hR3, hR4⟩ := hR
  have hj := IJ_r hI hw
  have hc := cst_r hI hw
  refine lv_aload_n hx hb dX9_pays_0 rfl (lv_at hl 0 rfl) ?_
  refine r_get (C := RX9) (T := TX9) (N := 34) (ci := 9) hx hb hts hi_X9 hown hK hP 26 rfl (by decide) lk_X9_81 (fun _ h9 => h9) dX9_pays_1 (by omega) RE_0 rfl ?_
  refine lv_iload_n hx hb dX9_pays_4 rfl (lv_at hl 1 rfl) ?_
  refine r_iald hx hb hK hP 0 rfl dX9_pays_5 (by omega) rfl (by omega) (by omega) (tD_at (by omega) (by omega)) ?_
  refine lv_istore_n hx hb dX9_pays_6 rfl hl (by decide) rfl (fun ls hl => ?_)
  replace hl : lv_has ls 9 [(0, _), (1, _), (2, _)] := lv_sub hl [1, 2, 0] rfl
  refine lv_iload_n hx hb dX9_pays_7 rfl (lv_at hl 2 rfl) ?_
  refine r_if_ge (tgt := 17) hx hb (by omega) dX9_pays_8 (by decide) (fun c8 => ?_) (fun c8 => ?_)
  · have hcj := cst_r hI (w := σ 23 w) (by omega)
    refine lv_aload_n hx hb dX9_pays_17 rfl (lv_at hl 0 rfl) ?_
    refine lv_iload_n hx hb dX9_pays_18 rfl (lv_at hl 1 rfl) ?_
    refine k_calliV (nL := 9) (C := RX9) (T := TX9) (N := 34) (ci := 9) hx hb hml hown hts hK hP hS hl.1 (c_X9_cost hi hI hw) rfl (Nat.le_of_ble_eq_true rfl) rfl (cwV 1 hts (gV lm_X9_205 ti_X9_cost tl_X9_cost tn_X9 tc_X9_cost) rfl rfl rfl (by decide +kernel) ⟨Nat.le_of_ble_eq_true rfl, Nat.le_of_ble_eq_true rfl⟩) rfl dX9_pays_19 ⟨Nat.zero_le _, Nat.zero_le _⟩ (by omega) RE_0 (fun r19 E1 H locs hq hP hS => ?_)
    obtain ⟨rfl, rfl⟩ := hq
    refine lv_istore_n hx hb dX9_pays_22 rfl hl (by decide) rfl (fun ls hl => ?_)
    replace hl : lv_has ls 9 [(0, _), (1, _), (2, _), (3, _)] := lv_sub hl [1, 2, 3, 0] rfl
    refine lv_aload_n hx hb dX9_pays_23 rfl (lv_at hl 0 rfl) ?_
    refine lv_iload_n hx hb dX9_pays_24 rfl (lv_at hl 2 rfl) ?_
    refine k_calliV (nL := 9) (C := RX9) (T := TX9) (N := 34) (ci := 9) hx hb hml hown hts hK hP hS hl.1 (c_X9_cost hi hI (w := σ 23 w) (by omega)) rfl (Nat.le_of_ble_eq_true rfl) rfl (cwV 1 hts (gV lm_X9_205 ti_X9_cost tl_X9_cost tn_X9 tc_X9_cost) rfl rfl rfl (by decide +kernel) ⟨Nat.le_of_ble_eq_true rfl, Nat.le_of_ble_eq_true rfl⟩) rfl dX9_pays_25 ⟨Nat.zero_le _, Nat.zero_le _⟩ (by omega) RE_0 (fun r25 E1 H locs hq hP hS => ?_)
    obtain ⟨rfl, rfl⟩ := hq
    refine lv_istore hx hb dX9_pays_28 hl (by decide) rfl (fun ls hl => ?_)
    replace hl : lv_has ls 9 [(0, _), (1, _), (2, _), (3, _), (4, _)] := lv_sub hl [1, 2, 3, 4, 0] rfl
    refine lv_iload_n hx hb dX9_pays_30 rfl (lv_at hl 3 rfl) ?_
    refine lv_iload hx hb dX9_pays_31 (lv_at hl 4 rfl) ?_
    have join53 : ∀ (L : Int) (H : Heap) (locs : List Loc) (ls : Array Slot), va_P D vwCl (kw 27 ad (RE G ad σ τ)) H → va_S (kA 27 ad) s.heap H locs → lv_has ls 9 [(0, .ref (ad 0)), (1, .int (iI w)), (2, .int (iI (σ 23 w))), (3, .int (iI (cstC σ w))), (4, .int (iI (cstC σ (σ 23 w))))] → (L = (if cstC σ w < cstC σ (σ 23 w) then cstC σ (σ 23 w) else cstC σ w) + (if cstC σ (σ 23 w) < cstC σ w then cstC σ (σ 23 w) else cstC σ w) / 4) → Wg H locs (F0 m0 53 ls [.long (lN L.toNat)]) := by
      intro L H locs ls hP hS hl hv53
      rw [hWg]
      have hL : 0 ≤ L ∧ L ≤ 9000 := by rw [hv53]; split <;> split <;> omega
      have hm1 : (cstC σ (σ 23 w)).toNat * L.toNat ≤ 7200 * 9000 := Nat.mul_le_mul (by omega) (by omega)
      have hm2 : (cstC σ w).toNat * L.toNat ≤ 7200 * 9000 := Nat.mul_le_mul (by omega) (by omega)
      have hdv : (cstC σ (σ 23 w)).toNat * L.toNat / (cstC σ w + cstC σ (σ 23 w)).toNat ≤ L.toNat := by
        refine Nat.div_le_of_le_mul ?_
        exact Nat.mul_le_mul_right _ (by omega)
      have hdv2 : (cstC σ w).toNat * L.toNat / (cstC σ w + cstC σ (σ 23 w)).toNat ≤ 7200 * 9000 := Nat.le_trans (Nat.div_le_self _ _) hm2
      have n1 := nd3 (a := cstC σ (σ 23 w)) (b := L) (c := cstC σ w + cstC σ (σ 23 w)) (by omega) (by omega) (by omega)
      have n2 := nd3 (a := cstC σ w) (b := L) (c := cstC σ w + cstC σ (σ 23 w)) (by omega) (by omega) (by omega)
      refine lv_lstore hx hb dX9_pays_53 hl (by decide) rfl (fun ls hl => ?_)
      replace hl : lv_has ls 9 [(0, _), (1, _), (2, _), (3, _), (4, _), (5, _)] := lv_sub hl [1, 2, 3, 4, 5, 0] rfl
      refine lv_iload hx hb dX9_pays_55 (lv_at hl 4 rfl) ?_
      refine r_i2l hx hb dX9_pays_57 (by omega) ?_
      refine lv_lload hx hb dX9_pays_58 (lv_at hl 5 rfl) ?_
      refine r_lmul hx hb dX9_pays_60 ?_
      refine lv_iload_n hx hb dX9_pays_61 rfl (lv_at hl 3 rfl) ?_
      refine lv_iload hx hb dX9_pays_62 (lv_at hl 4 rfl) ?_
      refine r_add hx hb dX9_pays_64 ?_
      refine r_i2l hx hb dX9_pays_65 (by omega) ?_
      refine r_ldiv hx hb dX9_pays_66 (by omega) (by omega) (by omega) ?_
      refine lv_lstore hx hb dX9_pays_67 hl (by decide) rfl (fun ls hl => ?_)
      replace hl : lv_has ls 9 [(0, _), (1, _), (2, _), (3, _), (4, _), (5, _), (7, _)] := lv_sub hl [1, 2, 3, 4, 5, 6, 0] rfl
      refine lv_iload_n hx hb dX9_pays_69 rfl (lv_at hl 1 rfl) ?_
      refine lv_iload_n hx hb dX9_pays_70 rfl (lv_at hl 2 rfl) ?_
      refine r_icmp_ge (tgt := 82) hx hb (by omega) (by omega) dX9_pays_71 (by decide) (fun c71 => ?_) (fun c71 => ?_)
      · refine lv_iload_n hx hb dX9_pays_82 rfl (lv_at hl 3 rfl) ?_
        refine r_i2l hx hb dX9_pays_83 (by omega) ?_
        refine lv_lload hx hb dX9_pays_84 (lv_at hl 5 rfl) ?_
        refine r_lmul hx hb dX9_pays_86 ?_
        refine lv_iload_n hx hb dX9_pays_87 rfl (lv_at hl 3 rfl) ?_
        refine lv_iload hx hb dX9_pays_88 (lv_at hl 4 rfl) ?_
        refine r_add hx hb dX9_pays_90 ?_
        refine r_i2l hx hb dX9_pays_91 (by omega) ?_
        refine r_ldiv hx hb dX9_pays_92 (by omega) (by omega) (by omega) ?_
        refine r_l2i hx hb dX9_pays_93 (by omega) ?_
        exact k_iret hx hb hr hlocks hP hS dX9_pays_94 ⟨by rw [n2, payC, cif_t (by omega), payF, cif_f (by omega), hv53], rfl⟩
      · refine lv_lload hx hb dX9_pays_74 (lv_at hl 5 rfl) ?_
        refine lv_lload hx hb dX9_pays_76 (lv_at hl 6 rfl) ?_
        refine r_lsub hx hb dX9_pays_78 hdv (by omega) ?_
        refine lv_goto (tgt := 93) hx hb dX9_pays_79 (by decide) ?_
        refine r_l2i hx hb dX9_pays_93 (Nat.lt_of_le_of_lt (Nat.sub_le _ _) (by omega)) ?_
        have n3 : ((L.toNat - (cstC σ (σ 23 w)).toNat * L.toNat / (cstC σ w + cstC σ (σ 23 w)).toNat : Nat) : Int) = L - cstC σ (σ 23 w) * L / (cstC σ w + cstC σ (σ 23 w)) := by
          rw [Int.ofNat_sub hdv, n1, Int.toNat_of_nonneg hL.1]
        exact k_iret hx hb hr hlocks hP hS dX9_pays_94 ⟨by rw [n3, payC, cif_t (by omega), payF, cif_t (by omega), hv53], rfl⟩
    refine r_icmp_le (tgt := 46) hx hb (by omega) (by omega) dX9_pays_33 (by decide) (fun c33 => ?_) (fun c33 => ?_)
    · refine lv_iload hx hb dX9_pays_46 (lv_at hl 4 rfl) ?_
      refine lv_iload_n hx hb dX9_pays_48 rfl (lv_at hl 3 rfl) ?_
      refine r_const hx hb dX9_pays_49 ?_
      refine r_div hx hb (by omega) (by omega) dX9_pays_50 ?_
      refine r_add hx hb dX9_pays_51 ?_
      refine r_i2l hx hb dX9_pays_52 (by omega) ?_
      rw [← hWg]
      exact join53 _ _ _ _ hP hS hl (by split <;> split <;> omega)
    · refine lv_iload_n hx hb dX9_pays_36 rfl (lv_at hl 3 rfl) ?_
      refine lv_iload hx hb dX9_pays_37 (lv_at hl 4 rfl) ?_
      refine r_const hx hb dX9_pays_39 ?_
      refine r_div hx hb (by omega) (by omega) dX9_pays_40 ?_
      refine r_add hx hb dX9_pays_41 ?_
      refine r_i2l hx hb dX9_pays_42 (by omega) ?_
      refine lv_goto (tgt := 53) hx hb dX9_pays_43 (by decide) ?_
      rw [← hWg]
      exact join53 _ _ _ _ hP hS hl (by split <;> split <;> omega)
  · refine lv_aload_n hx hb dX9_pays_11 rfl (lv_at hl 0 rfl) ?_
    refine lv_iload_n hx hb dX9_pays_12 rfl (lv_at hl 1 rfl) ?_
    refine k_calliV (nL := 9) (C := RX9) (T := TX9) (N := 34) (ci := 9) hx hb hml hown hts hK hP hS hl.1 (c_X9_cost hi hI hw) rfl (Nat.le_of_ble_eq_true rfl) rfl (cwV 1 hts (gV lm_X9_205 ti_X9_cost tl_X9_cost tn_X9 tc_X9_cost) rfl rfl rfl (by decide +kernel) ⟨Nat.le_of_ble_eq_true rfl, Nat.le_of_ble_eq_true rfl⟩) rfl dX9_pays_13 ⟨Nat.zero_le _, Nat.zero_le _⟩ (by omega) RE_0 (fun r13 E1 H locs hq hP hS => ?_)
    obtain ⟨rfl, rfl⟩ := hq
    exact k_iret hx hb hr hlocks hP hS dX9_pays_16 ⟨by rw [payC, cif_f (by omega)], rfl⟩
abbrev rmX9_delay : Room := { frames := 1, cells := 0, slots := 0, locals := 21 }
set_option maxRecDepth 100000 in
set_option maxHeartbeats 4000000 in
theorem c_X9_delay {l : Launch} {D : va_G} {G : Nat → ClassId} {ad : Nat → Nat} {σ τ : Tb} (hi : kInj 27 ad) {w : Int} (hI : Inv σ) (hR : RD σ τ) (hw : 0 ≤ w ∧ w < σ 0 2) : Met l yX9_delay wsX9_delay rmX9_delay (kPc D (tysG G) 27 ad (RE G ad σ τ) [.ref (ad 0), .int (iI w)]) (kQi D 27 ad (fun z E' => z = dlyC σ w ∧ E' = RE G ad σ τ)) 0 0 (kA 27 ad) := by
  refine k_met (cc := cX9_delay) (maxL := 2) (ret := (some .int)) (by decide) (Nat.le_of_ble_eq_true rfl) ?_
  intro P0 e0 s m0 below meth c0 ls hx hb hr hlocks hml hown hts hK hP hS hl
  replace hl : lv_has ls 2 [(0, _), (1, _)] := hl
  replace hown : s.vm.findClass RX9 = some m0.cls := hown
  refine k_abs (fun Wg hWg => ?_)
  have h0 := Inv_0 hI
  obtain ⟨hR2, hR3, hR4⟩ := hR
  obtain ⟨hN, _, _⟩ := Inv_w hI hw
  have hB := IN_b hI hw
  unfold IN at hN
  refine lv_aload_n hx hb dX9_delay_0 rfl (lv_at hl 0 rfl) ?_
  refine lv_iload_n hx hb dX9_delay_1 rfl (lv_at hl 1 rfl) ?_
  refine k_calliV (nL := 2) (C := RX9) (T := TX9) (N := 34) (ci := 9) hx hb hml hown hts hK hP hS hl.1 (c_X9_hasDays hi hI hw) rfl (Nat.le_of_ble_eq_true rfl) rfl (cwV 1 hts (gV lm_X9_121 ti_X9_hasDays tl_X9_hasDays tn_X9 tc_X9_hasDays) rfl rfl rfl (by decide +kernel) ⟨Nat.le_of_ble_eq_true rfl, Nat.le_of_ble_eq_true rfl⟩) rfl dX9_delay_2 ⟨Nat.zero_le _, Nat.zero_le _⟩ (by omega) RE_0 (fun r2 E1 H locs hq hP hS => ?_)
  obtain ⟨rfl, rfl⟩ := hq
  refine r_ifB_eq (tgt := 46) hx hb dX9_delay_5 (by decide) (fun c5 => ?_) (fun c5 => ?_)
  · unfold hasD at c5
    refine r_const hx hb dX9_delay_46 ?_
    exact k_iret hx hb hr hlocks hP hS dX9_delay_47 ⟨by rw [dlyC, cif_f (by omega)], rfl⟩
  · refine lv_aload_n hx hb dX9_delay_8 rfl (lv_at hl 0 rfl) ?_
    refine r_get (C := RX9) (T := TX9) (N := 34) (ci := 9) hx hb hts hi_X9 hown hK hP 23 rfl (by decide) lk_X9_72 (fun _ h9 => h9) dX9_delay_9 (by omega) RE_0 rfl ?_
    refine lv_iload_n hx hb dX9_delay_12 rfl (lv_at hl 1 rfl) ?_
    refine r_iald hx hb hK hP 0 rfl dX9_delay_13 (by omega) rfl (by omega) (by omega) (tD_at (by omega) (by omega)) ?_
    refine lv_aload_n hx hb dX9_delay_14 rfl (lv_at hl 0 rfl) ?_
    refine r_get (C := RX9) (T := TX9) (N := 34) (ci := 9) hx hb hts hi_X9 hown hK hP 18 rfl (by decide) lk_X9_56 (fun _ h9 => h9) dX9_delay_15 (by omega) RE_0 rfl ?_
    refine lv_iload_n hx hb dX9_delay_18 rfl (lv_at hl 1 rfl) ?_
    refine r_iald hx hb hK hP 0 rfl dX9_delay_19 (by omega) rfl (by omega) (by omega) (tI_at (by omega)) ?_
    refine r_icmp_le (tgt := 46) hx hb (by omega) (by omega) dX9_delay_20 (by decide) (fun c20 => ?_) (fun c20 => ?_)
    · refine r_const hx hb dX9_delay_46 ?_
      exact k_iret hx hb hr hlocks hP hS dX9_delay_47 ⟨by rw [dlyC, cif_f (by omega)], rfl⟩
    · refine lv_aload_n hx hb dX9_delay_23 rfl (lv_at hl 0 rfl) ?_
      refine r_get (C := RX9) (T := TX9) (N := 34) (ci := 9) hx hb hts hi_X9 hown hK hP 23 rfl (by decide) lk_X9_72 (fun _ h9 => h9) dX9_delay_24 (by omega) RE_0 rfl ?_
      refine lv_iload_n hx hb dX9_delay_27 rfl (lv_at hl 1 rfl) ?_
      refine r_iald hx hb hK hP 0 rfl dX9_delay_28 (by omega) rfl (by omega) (by omega) (tD_at (by omega) (by omega)) ?_
      refine lv_aload_n hx hb dX9_delay_29 rfl (lv_at hl 0 rfl) ?_
      refine r_get (C := RX9) (T := TX9) (N := 34) (ci := 9) hx hb hts hi_X9 hown hK hP 18 rfl (by decide) lk_X9_56 (fun _ h9 => h9) dX9_delay_30 (by omega) RE_0 rfl ?_
      refine lv_iload_n hx hb dX9_delay_33 rfl (lv_at hl 1 rfl) ?_
      refine r_iald hx hb hK hP 0 rfl dX9_delay_34 (by omega) rfl (by omega) (by omega) (tI_at (by omega)) ?_
      refine r_sub hx hb dX9_delay_35 ?_
      refine lv_aload_n hx hb dX9_delay_36 rfl (lv_at hl 0 rfl) ?_
      refine r_get (C := RX9) (T := TX9) (N := 34) (ci := 9) hx hb hts hi_X9 hown hK hP 15 rfl (by decide) lk_X9_47 (fun _ h9 => h9) dX9_delay_37 (by omega) RE_0 rfl ?_
      refine lv_iload_n hx hb dX9_delay_40 rfl (lv_at hl 1 rfl) ?_
      refine r_iald hx hb hK hP 0 rfl dX9_delay_41 (by omega) rfl (by omega) (by omega) (tI_at (by omega)) ?_
      refine r_mul hx hb dX9_delay_42 ?_
      refine lv_goto (tgt := 47) hx hb dX9_delay_43 (by decide) ?_
      exact k_iret hx hb hr hlocks hP hS dX9_delay_47 ⟨by rw [dlyC, cif_t (by omega)], rfl⟩
abbrev rmX9_about : Room := { frames := 4, cells := 0, slots := 0, locals := 94 }
set_option maxRecDepth 100000 in
set_option maxHeartbeats 4000000 in
theorem c_X9_about {l : Launch} {D : va_G} {G : Nat → ClassId} {ad : Nat → Nat} {σ τ : Tb} (hi : kInj 27 ad) {w q : Int} (hI : InvS σ) (hT : RT σ τ) (hw : (-2147483648 ≤ w ∧ w < 2147483648)) (hq0 : (-2147483648 ≤ q ∧ q < 2147483648)) : Met l yX9_about wsX9_about rmX9_about (kPc D (tysG G) 27 ad (RE G ad σ τ) [.ref (ad 0), .int (iI w), .int (iI q)]) (kQi D 27 ad (fun z E' => z = aAbout σ w q ∧ ∃ τ', E' = RE G ad σ τ' ∧ RT σ τ')) 0 0 (kA 27 ad) := by
  refine k_met (cc := cX9_about) (maxL := 3) (ret := (some .int)) (by decide) (Nat.le_of_ble_eq_true rfl) ?_
  intro P0 e0 s m0 below meth c0 ls hx hb hr hlocks hml hown hts hK hP hS hl
  replace hl : lv_has ls 3 [(0, _), (1, _), (2, _)] := hl
  replace hown : s.vm.findClass RX9 = some m0.cls := hown
  refine k_abs (fun Wg hWg => ?_)
  have h0 := Inv_0 hI.1
  obtain ⟨hR2, hR3, hR4⟩ := hT.1
  refine lv_aload_n hx hb dX9_about_0 rfl (lv_at hl 0 rfl) ?_
  refine lv_iload_n hx hb dX9_about_1 rfl (lv_at hl 1 rfl) ?_
  refine k_calliV (nL := 3) (C := RX9) (T := TX9) (N := 34) (ci := 9) hx hb hml hown hts hK hP hS hl.1 (c_X9_isWork hi hI.1 hw) rfl (Nat.le_of_ble_eq_true rfl) rfl (cwV 1 hts (gV lm_X9_114 ti_X9_isWork tl_X9_isWork tn_X9 tc_X9_isWork) rfl rfl rfl (by decide +kernel) ⟨Nat.le_of_ble_eq_true rfl, Nat.le_of_ble_eq_true rfl⟩) rfl dX9_about_2 ⟨Nat.zero_le _, Nat.zero_le _⟩ (by omega) RE_0 (fun r2 E1 H locs hq hP hS => ?_)
  obtain ⟨rfl, rfl⟩ := hq
  refine r_ifB_ne (tgt := 11) hx hb dX9_about_5 (by decide) (fun c5 => ?_) (fun c5 => ?_)
  · have c5' : 0 ≤ w ∧ w < σ 0 2 := c5
    refine lv_iload_n hx hb dX9_about_11 rfl (lv_at hl 2 rfl) ?_
    rcases (show (q < 0 ∨ 10 < q) ∨ q = 0 ∨ q = 1 ∨ q = 2 ∨ q = 3 ∨ q = 4 ∨ q = 5 ∨ q = 6 ∨ q = 7 ∨ q = 8 ∨ q = 9 ∨ q = 10 by omega) with h | rfl | rfl | rfl | rfl | rfl | rfl | rfl | rfl | rfl | rfl | rfl
    · refine r_tabOut (tgt := 158) hx hb dX9_about_12 (by omega) (by omega) (by decide) ?_
      refine r_bipush hx hb dX9_about_158 (by decide +kernel) ?_
      exact k_iret hx hb hr hlocks hP hS dX9_about_160 ⟨by rw [aAbout, cif_t c5, abt_x h], τ, rfl, hT⟩
    · refine r_tabIn (z := 0) (off := 60) (tgt := 72) hx hb dX9_about_12 (by omega) (by omega) (by omega) rfl (by decide) ?_
      refine lv_aload_n hx hb dX9_about_72 rfl (lv_at hl 0 rfl) ?_
      refine r_get (C := RX9) (T := TX9) (N := 34) (ci := 9) hx hb hts hi_X9 hown hK hP 22 rfl (by decide) lk_X9_69 (fun _ h9 => h9) dX9_about_73 (by omega) RE_0 rfl ?_
      refine lv_iload_n hx hb dX9_about_76 rfl (lv_at hl 1 rfl) ?_
      refine r_iald hx hb hK hP 0 rfl dX9_about_77 (by omega) rfl (by omega) (by omega) (tI_at (by omega)) ?_
      exact k_iret hx hb hr hlocks hP hS dX9_about_78 ⟨by rw [aAbout, cif_t c5, abt_0], τ, rfl, hT⟩
    · refine r_tabIn (z := 1) (off := 67) (tgt := 79) hx hb dX9_about_12 (by omega) (by omega) (by omega) rfl (by decide) ?_
      refine lv_aload_n hx hb dX9_about_79 rfl (lv_at hl 0 rfl) ?_
      refine r_get (C := RX9) (T := TX9) (N := 34) (ci := 9) hx hb hts hi_X9 hown hK hP 23 rfl (by decide) lk_X9_72 (fun _ h9 => h9) dX9_about_80 (by omega) RE_0 rfl ?_
      refine lv_iload_n hx hb dX9_about_83 rfl (lv_at hl 1 rfl) ?_
      refine r_iald hx hb hK hP 0 rfl dX9_about_84 (by omega) rfl (by omega) (by omega) (tD_at (by omega) (by omega)) ?_
      exact k_iret hx hb hr hlocks hP hS dX9_about_85 ⟨by rw [aAbout, cif_t c5, abt_1], τ, rfl, hT⟩
    · refine r_tabIn (z := 2) (off := 74) (tgt := 86) hx hb dX9_about_12 (by omega) (by omega) (by omega) rfl (by decide) ?_
      refine lv_aload_n hx hb dX9_about_86 rfl (lv_at hl 0 rfl) ?_
      refine r_get (C := RX9) (T := TX9) (N := 34) (ci := 9) hx hb hts hi_X9 hown hK hP 24 rfl (by decide) lk_X9_75 (fun _ h9 => h9) dX9_about_87 (by omega) RE_0 rfl ?_
      refine lv_iload_n hx hb dX9_about_90 rfl (lv_at hl 1 rfl) ?_
      refine r_iald hx hb hK hP 0 rfl dX9_about_91 (by omega) rfl (by omega) (by omega) (tD_at (by omega) (by omega)) ?_
      exact k_iret hx hb hr hlocks hP hS dX9_about_92 ⟨by rw [aAbout, cif_t c5, abt_2], τ, rfl, hT⟩
    · refine r_tabIn (z := 3) (off := 81) (tgt := 93) hx hb dX9_about_12 (by omega) (by omega) (by omega) rfl (by decide) ?_
      refine lv_aload_n hx hb dX9_about_93 rfl (lv_at hl 0 rfl) ?_
      refine r_get (C := RX9) (T := TX9) (N := 34) (ci := 9) hx hb hts hi_X9 hown hK hP 25 rfl (by decide) lk_X9_78 (fun _ h9 => h9) dX9_about_94 (by omega) RE_0 rfl ?_
      refine lv_iload_n hx hb dX9_about_97 rfl (lv_at hl 1 rfl) ?_
      refine r_iald hx hb hK hP 0 rfl dX9_about_98 (by omega) rfl (by omega) (by omega) (tI_at (by omega)) ?_
      exact k_iret hx hb hr hlocks hP hS dX9_about_99 ⟨by rw [aAbout, cif_t c5, abt_3], τ, rfl, hT⟩
    · refine r_tabIn (z := 4) (off := 88) (tgt := 100) hx hb dX9_about_12 (by omega) (by omega) (by omega) rfl (by decide) ?_
      refine lv_aload_n hx hb dX9_about_100 rfl (lv_at hl 0 rfl) ?_
      refine lv_iload_n hx hb dX9_about_101 rfl (lv_at hl 1 rfl) ?_
      refine k_calliV (nL := 3) (C := RX9) (T := TX9) (N := 34) (ci := 9) hx hb hml hown hts hK hP hS hl.1 (c_X9_cost hi hI.1 c5) rfl (Nat.le_of_ble_eq_true rfl) rfl (cwV 1 hts (gV lm_X9_205 ti_X9_cost tl_X9_cost tn_X9 tc_X9_cost) rfl rfl rfl (by decide +kernel) ⟨Nat.le_of_ble_eq_true rfl, Nat.le_of_ble_eq_true rfl⟩) rfl dX9_about_102 ⟨Nat.zero_le _, Nat.zero_le _⟩ (by omega) RE_0 (fun r102 E1 H locs hq hP hS => ?_)
      obtain ⟨rfl, rfl⟩ := hq
      exact k_iret hx hb hr hlocks hP hS dX9_about_105 ⟨by rw [aAbout, cif_t c5, abt_4], τ, rfl, hT⟩
    · refine r_tabIn (z := 5) (off := 94) (tgt := 106) hx hb dX9_about_12 (by omega) (by omega) (by omega) rfl (by decide) ?_
      refine lv_aload_n hx hb dX9_about_106 rfl (lv_at hl 0 rfl) ?_
      refine lv_iload_n hx hb dX9_about_107 rfl (lv_at hl 1 rfl) ?_
      refine k_calliV (nL := 3) (C := RX9) (T := TX9) (N := 34) (ci := 9) hx hb hml hown hts hK hP hS hl.1 (c_X9_pays hi hI.1 hT.1 c5) rfl (Nat.le_of_ble_eq_true rfl) rfl (cwV 1 hts (gV lm_X9_208 ti_X9_pays tl_X9_pays tn_X9 tc_X9_pays) rfl rfl rfl (by decide +kernel) ⟨Nat.le_of_ble_eq_true rfl, Nat.le_of_ble_eq_true rfl⟩) rfl dX9_about_108 ⟨Nat.zero_le _, Nat.zero_le _⟩ (by omega) RE_0 (fun r108 E1 H locs hq hP hS => ?_)
      obtain ⟨rfl, rfl⟩ := hq
      exact k_iret hx hb hr hlocks hP hS dX9_about_111 ⟨by rw [aAbout, cif_t c5, abt_5], τ, rfl, hT⟩
    · refine r_tabIn (z := 6) (off := 100) (tgt := 112) hx hb dX9_about_12 (by omega) (by omega) (by omega) rfl (by decide) ?_
      refine lv_aload_n hx hb dX9_about_112 rfl (lv_at hl 0 rfl) ?_
      refine r_get (C := RX9) (T := TX9) (N := 34) (ci := 9) hx hb hts hi_X9 hown hK hP 25 rfl (by decide) lk_X9_78 (fun _ h9 => h9) dX9_about_113 (by omega) RE_0 rfl ?_
      refine lv_iload_n hx hb dX9_about_116 rfl (lv_at hl 1 rfl) ?_
      refine r_iald hx hb hK hP 0 rfl dX9_about_117 (by omega) rfl (by omega) (by omega) (tI_at (by omega)) ?_
      refine r_bipush hx hb dX9_about_118 (by decide +kernel) ?_
      refine lv_aload_n hx hb dX9_about_120 rfl (lv_at hl 0 rfl) ?_
      refine lv_iload_n hx hb dX9_about_121 rfl (lv_at hl 1 rfl) ?_
      refine k_calliV (nL := 3) (C := RX9) (T := TX9) (N := 34) (ci := 9) hx hb hml hown hts hK hP hS hl.1 (c_X9_ranks hi hI.1 c5) rfl (Nat.le_of_ble_eq_true rfl) rfl (cwV 1 hts (gV lm_X9_202 ti_X9_ranks tl_X9_ranks tn_X9 tc_X9_ranks) rfl rfl rfl (by decide +kernel) ⟨Nat.le_of_ble_eq_true rfl, Nat.le_of_ble_eq_true rfl⟩) rfl dX9_about_122 ⟨Nat.zero_le _, Nat.zero_le _⟩ (by omega) RE_0 (fun r122 E1 H locs hq hP hS => ?_)
      obtain ⟨rfl, rfl⟩ := hq
      refine r_mul hx hb dX9_about_125 ?_
      refine r_bipush hx hb dX9_about_126 (by decide +kernel) ?_
      refine r_add hx hb dX9_about_128 ?_
      refine r_mul hx hb dX9_about_129 ?_
      exact k_iret hx hb hr hlocks hP hS dX9_about_130 ⟨by rw [aAbout, cif_t c5, abt_6], τ, rfl, hT⟩
    · refine r_tabIn (z := 7) (off := 119) (tgt := 131) hx hb dX9_about_12 (by omega) (by omega) (by omega) rfl (by decide) ?_
      refine lv_aload_n hx hb dX9_about_131 rfl (lv_at hl 0 rfl) ?_
      refine lv_iload_n hx hb dX9_about_132 rfl (lv_at hl 1 rfl) ?_
      refine k_calliV (nL := 3) (C := RX9) (T := TX9) (N := 34) (ci := 9) hx hb hml hown hts hK hP hS hl.1 (c_X9_delay hi hI.1 hT.1 c5) rfl (Nat.le_of_ble_eq_true rfl) rfl (cwV 1 hts (gV lm_X9_211 ti_X9_delay tl_X9_delay tn_X9 tc_X9_delay) rfl rfl rfl (by decide +kernel) ⟨Nat.le_of_ble_eq_true rfl, Nat.le_of_ble_eq_true rfl⟩) rfl dX9_about_133 ⟨Nat.zero_le _, Nat.zero_le _⟩ (by omega) RE_0 (fun r133 E1 H locs hq hP hS => ?_)
      obtain ⟨rfl, rfl⟩ := hq
      exact k_iret hx hb hr hlocks hP hS dX9_about_136 ⟨by rw [aAbout, cif_t c5, abt_7], τ, rfl, hT⟩
    · refine r_tabIn (z := 8) (off := 125) (tgt := 137) hx hb dX9_about_12 (by omega) (by omega) (by omega) rfl (by decide) ?_
      refine lv_aload_n hx hb dX9_about_137 rfl (lv_at hl 0 rfl) ?_
      refine r_get (C := RX9) (T := TX9) (N := 34) (ci := 9) hx hb hts hi_X9 hown hK hP 26 rfl (by decide) lk_X9_81 (fun _ h9 => h9) dX9_about_138 (by omega) RE_0 rfl ?_
      refine lv_iload_n hx hb dX9_about_141 rfl (lv_at hl 1 rfl) ?_
      refine r_iald hx hb hK hP 0 rfl dX9_about_142 (by omega) rfl (by omega) (by omega) (tD_at (by omega) (by omega)) ?_
      exact k_iret hx hb hr hlocks hP hS dX9_about_143 ⟨by rw [aAbout, cif_t c5, abt_8], τ, rfl, hT⟩
    · refine r_tabIn (z := 9) (off := 132) (tgt := 144) hx hb dX9_about_12 (by omega) (by omega) (by omega) rfl (by decide) ?_
      refine lv_aload_n hx hb dX9_about_144 rfl (lv_at hl 0 rfl) ?_
      refine r_get (C := RX9) (T := TX9) (N := 34) (ci := 9) hx hb hts hi_X9 hown hK hP 21 rfl (by decide) lk_X9_66 (fun _ h9 => h9) dX9_about_145 (by omega) RE_0 rfl ?_
      refine lv_iload_n hx hb dX9_about_148 rfl (lv_at hl 1 rfl) ?_
      refine r_iald hx hb hK hP 0 rfl dX9_about_149 (by omega) rfl (by omega) (by omega) (tI_at (by omega)) ?_
      exact k_iret hx hb hr hlocks hP hS dX9_about_150 ⟨by rw [aAbout, cif_t c5, abt_9], τ, rfl, hT⟩
    · refine r_tabIn (z := 10) (off := 139) (tgt := 151) hx hb dX9_about_12 (by omega) (by omega) (by omega) rfl (by decide) ?_
      refine lv_aload_n hx hb dX9_about_151 rfl (lv_at hl 0 rfl) ?_
      refine r_get (C := RX9) (T := TX9) (N := 34) (ci := 9) hx hb hts hi_X9 hown hK hP 27 rfl (by decide) lk_X9_84 (fun _ h9 => h9) dX9_about_152 (by omega) RE_0 rfl ?_
      refine lv_iload_n hx hb dX9_about_155 rfl (lv_at hl 1 rfl) ?_
      refine r_iald hx hb hK hP 0 rfl dX9_about_156 (by omega) rfl (by omega) (by omega) (tI_at (by omega)) ?_
      exact k_iret hx hb hr hlocks hP hS dX9_about_157 ⟨by rw [aAbout, cif_t c5, abt_10], τ, rfl, hT⟩
  · refine r_bipush hx hb dX9_about_8 (by decide +kernel) ?_
    exact k_iret hx hb hr hlocks hP hS dX9_about_10 ⟨by rw [aAbout, cif_f c5], τ, rfl, hT⟩
abbrev rmX9_lanes : Room := { frames := 4, cells := 0, slots := 0, locals := 99 }
set_option maxRecDepth 100000 in
set_option maxHeartbeats 4000000 in
theorem c_X9_lanes {l : Launch} {D : va_G} {G : Nat → ClassId} {ad : Nat → Nat} {σ τ : Tb} (hi : kInj 27 ad) {p d : Int} (hI : InvS σ) (hT : RT σ τ) (hp : (-2147483648 ≤ p ∧ p < 2147483648)) (hd : (-2147483648 ≤ d ∧ d < 2147483648)) : Met l yX9_lanes wsX9_lanes rmX9_lanes (kPc D (tysG G) 27 ad (RE G ad σ τ) [.ref (ad 0), .int (iI p), .int (iI d)]) (kQi D 27 ad (fun z E' => z = aLanes σ p d ∧ ∃ τ', E' = RE G ad σ τ' ∧ RT σ τ')) 0 0 (kA 27 ad) := by
  refine k_met (cc := cX9_lanes) (maxL := 3) (ret := (some .int)) (by decide) (Nat.le_of_ble_eq_true rfl) ?_
  intro P0 e0 s m0 below meth c0 ls hx hb hr hlocks hml hown hts hK hP hS hl
  replace hl : lv_has ls 3 [(0, _), (1, _), (2, _)] := hl
  replace hown : s.vm.findClass RX9 = some m0.cls := hown
  refine k_abs (fun Wg hWg => ?_)
  have h0 := Inv_0 hI.1
  refine lv_aload_n hx hb dX9_lanes_0 rfl (lv_at hl 0 rfl) ?_
  refine lv_iload_n hx hb dX9_lanes_1 rfl (lv_at hl 1 rfl) ?_
  refine k_calliV (nL := 3) (C := RX9) (T := TX9) (N := 34) (ci := 9) hx hb hml hown hts hK hP hS hl.1 (c_X9_isPiece hi hI.1 hp) rfl (Nat.le_of_ble_eq_true rfl) rfl (cwV 1 hts (gV lm_X9_110 ti_X9_isPiece tl_X9_isPiece tn_X9 tc_X9_isPiece) rfl rfl rfl (by decide +kernel) ⟨Nat.le_of_ble_eq_true rfl, Nat.le_of_ble_eq_true rfl⟩) rfl dX9_lanes_2 ⟨Nat.zero_le _, Nat.zero_le _⟩ (by omega) RE_0 (fun r2 E1 H locs hq hP hS => ?_)
  obtain ⟨rfl, rfl⟩ := hq
  refine r_ifB_eq (tgt := 31) hx hb dX9_lanes_5 (by decide) (fun c5 => ?_) (fun c5 => ?_)
  · refine r_const hx hb dX9_lanes_31 ?_
    exact k_iret hx hb hr hlocks hP hS dX9_lanes_32 ⟨by rw [aLanes, cif_f (fun z => c5 z.1)], τ, rfl, hT⟩
  · refine lv_iload_n hx hb dX9_lanes_8 rfl (lv_at hl 2 rfl) ?_
    refine r_const hx hb dX9_lanes_9 ?_
    refine r_sipush hx hb dX9_lanes_10 (by decide +kernel) ?_
    refine k_calliS (nL := 3) hx hb hml hown hts hK hP hS hl.1 (c_X9_within hi hd (by omega) (by omega)) rfl (Nat.le_of_ble_eq_true rfl) (va_cwS 3 hts (gS lm_X9_97 ts_X9_within tn_X9 tc_X9_within) rfl rfl rfl (by decide +kernel) ⟨Nat.le_of_ble_eq_true rfl, Nat.le_of_ble_eq_true rfl⟩) rfl dX9_lanes_13 ⟨Nat.zero_le _, Nat.zero_le _⟩ (fun r13 E1 H locs hq hP hS => ?_)
    obtain ⟨rfl, rfl⟩ := hq
    refine r_ifB_eq (tgt := 31) hx hb dX9_lanes_16 (by decide) (fun c16 => ?_) (fun c16 => ?_)
    · refine r_const hx hb dX9_lanes_31 ?_
      exact k_iret hx hb hr hlocks hP hS dX9_lanes_32 ⟨by rw [aLanes, cif_f (fun z => c16 z.2)], τ, rfl, hT⟩
    · refine lv_aload_n hx hb dX9_lanes_19 rfl (lv_at hl 0 rfl) ?_
      refine lv_iload_n hx hb dX9_lanes_20 rfl (lv_at hl 1 rfl) ?_
      refine r_const hx hb dX9_lanes_21 ?_
      refine r_const hx hb dX9_lanes_22 ?_
      refine r_const hx hb dX9_lanes_23 ?_
      refine lv_iload_n hx hb dX9_lanes_24 rfl (lv_at hl 2 rfl) ?_
      refine k_calliV (nL := 3) (C := RX9) (T := TX9) (N := 34) (ci := 9) hx hb hml hown hts hK hP hS hl.1 (by have q := c_X9_taken (l := l) (D := D) (G := G) (p := p) (w := -1) (d := -1) (day := d) (les := False) hi hI.1 hT.1 (by omega) (by omega) (by omega) (by omega); rw [bI_F] at q; exact q) rfl (Nat.le_of_ble_eq_true rfl) rfl (cwV 5 hts (gV lm_X9_132 ti_X9_taken tl_X9_taken tn_X9 tc_X9_taken) rfl rfl rfl (by decide +kernel) ⟨Nat.le_of_ble_eq_true rfl, Nat.le_of_ble_eq_true rfl⟩) rfl dX9_lanes_25 ⟨Nat.zero_le _, Nat.zero_le _⟩ (by omega) RE_0 (fun r25 E1 H locs hq hP hS => ?_)
      obtain ⟨rfl, rfl⟩ := hq
      refine lv_goto (tgt := 32) hx hb dX9_lanes_28 (by decide) ?_
      exact k_iret hx hb hr hlocks hP hS dX9_lanes_32 ⟨by rw [aLanes, cif_t ⟨c5, c16⟩, tkn_wo hI.1], τ, rfl, hT⟩
theorem shD_e {σ : Tb} (hI : Inv σ) {d : Int} : shM σ (-1) (-1) False d = shD σ d := by
  unfold shM shD
  rw [show (fun p => σ 3 p ≤ tkn σ p (-1) (-1) False d) = (fun p => σ 3 p ≤ tkC σ (cnts σ (-1) False) p d) from funext (fun p => by rw [tkn_wo hI])]
abbrev rmX9_way : Room := { frames := 5, cells := 0, slots := 0, locals := 126 }
set_option maxRecDepth 100000 in
set_option maxHeartbeats 4000000 in
theorem c_X9_way {l : Launch} {D : va_G} {G : Nat → ClassId} {ad : Nat → Nat} {σ τ : Tb} (hi : kInj 27 ad) {k d : Int} (hI : InvS σ) (hT : RT σ τ) (hk : (-2147483648 ≤ k ∧ k < 2147483648)) (hd : (-2147483648 ≤ d ∧ d < 2147483648)) : Met l yX9_way wsX9_way rmX9_way (kPc D (tysG G) 27 ad (RE G ad σ τ) [.ref (ad 0), .int (iI k), .int (iI d)]) (kQi D 27 ad (fun z E' => z = aWay σ k d ∧ ∃ τ', E' = RE G ad σ τ' ∧ RT σ τ')) 0 0 (kA 27 ad) := by
  refine k_met (cc := cX9_way) (maxL := 4) (ret := (some .int)) (by decide) (Nat.le_of_ble_eq_true rfl) ?_
  intro P0 e0 s m0 below meth c0 ls hx hb hr hlocks hml hown hts hK hP hS hl
  replace hl : lv_has ls 4 [(0, _), (1, _), (2, _)] := hl
  replace hown : s.vm.findClass RX9 = some m0.cls := hown
  refine k_abs (fun Wg hWg => ?_)
  have h0 := Inv_0 hI.1
  have join23 : ∀  (H : Heap) (locs : List Loc) (ls : Array Slot), va_P D vwCl (kw 27 ad (RE G ad σ τ)) H → va_S (kA 27 ad) s.heap H locs → lv_has ls 4 [(0, .ref (ad 0))] → (¬ ((0 ≤ k ∧ k < σ 0 1) ∧ (0 ≤ d ∧ d ≤ 399))) → Wg H locs (F0 m0 23 ls []) := by
    intro  H locs ls hP hS hl hv23
    rw [hWg]
    refine r_const hx hb dX9_way_23 ?_
    exact k_iret hx hb hr hlocks hP hS dX9_way_24 ⟨by rw [aWay, cif_f hv23], τ, rfl, hT⟩
  refine lv_iload_n hx hb dX9_way_0 rfl (lv_at hl 1 rfl) ?_
  refine r_if_lt (tgt := 23) hx hb (by omega) dX9_way_1 (by decide) (fun c1 => ?_) (fun c1 => ?_)
  · rw [← hWg]
    exact join23  _ _ _ hP hS (lv_sub hl [0] rfl) (fun q => by omega)
  · refine lv_iload_n hx hb dX9_way_4 rfl (lv_at hl 1 rfl) ?_
    refine lv_aload_n hx hb dX9_way_5 rfl (lv_at hl 0 rfl) ?_
    refine r_get (C := RX9) (T := TX9) (N := 34) (ci := 9) hx hb hts hi_X9 hown hK hP 10 rfl (by decide) lk_X9_104 (fun _ h9 => h9) dX9_way_6 (by omega) RE_0 rfl ?_
    refine r_icmp_ge (tgt := 23) hx hb (by omega) (by omega) dX9_way_9 (by decide) (fun c9 => ?_) (fun c9 => ?_)
    · rw [← hWg]
      exact join23  _ _ _ hP hS (lv_sub hl [0] rfl) (fun q => by omega)
    · refine lv_iload_n hx hb dX9_way_12 rfl (lv_at hl 2 rfl) ?_
      refine r_const hx hb dX9_way_13 ?_
      refine r_sipush hx hb dX9_way_14 (by decide +kernel) ?_
      refine k_calliS (nL := 4) hx hb hml hown hts hK hP hS hl.1 (c_X9_within hi hd (by omega) (by omega)) rfl (Nat.le_of_ble_eq_true rfl) (va_cwS 3 hts (gS lm_X9_97 ts_X9_within tn_X9 tc_X9_within) rfl rfl rfl (by decide +kernel) ⟨Nat.le_of_ble_eq_true rfl, Nat.le_of_ble_eq_true rfl⟩) rfl dX9_way_17 ⟨Nat.zero_le _, Nat.zero_le _⟩ (fun r17 E1 H locs hq hP hS => ?_)
      obtain ⟨rfl, rfl⟩ := hq
      refine r_ifB_ne (tgt := 25) hx hb dX9_way_20 (by decide) (fun c20 => ?_) (fun c20 => ?_)
      · have hir := Inv_r hI.1 (k := k) (by omega)
        unfold IR at hir
        have hSm := shM_r hI.1 (w := -1) (d := -1) (les := False) (day := d)
        have hdr := dst_r hI.1 (S := shM σ (-1) (-1) False d) (a := σ 7 k) (b := σ 8 k) (by omega) (by omega)
        refine lv_aload_n hx hb dX9_way_25 rfl (lv_at hl 0 rfl) ?_
        refine lv_aload_n hx hb dX9_way_26 rfl (lv_at hl 0 rfl) ?_
        refine r_get (C := RX9) (T := TX9) (N := 34) (ci := 9) hx hb hts hi_X9 hown hK hP 7 rfl (by decide) lk_X9_28 (fun _ h9 => h9) dX9_way_27 (by omega) RE_0 rfl ?_
        refine lv_iload_n hx hb dX9_way_30 rfl (lv_at hl 1 rfl) ?_
        refine r_iald hx hb hK hP 0 rfl dX9_way_31 (by omega) rfl (by omega) (by omega) (tI_at (by omega)) ?_
        refine lv_aload_n hx hb dX9_way_32 rfl (lv_at hl 0 rfl) ?_
        refine r_get (C := RX9) (T := TX9) (N := 34) (ci := 9) hx hb hts hi_X9 hown hK hP 8 rfl (by decide) lk_X9_31 (fun _ h9 => h9) dX9_way_33 (by omega) RE_0 rfl ?_
        refine lv_iload_n hx hb dX9_way_36 rfl (lv_at hl 1 rfl) ?_
        refine r_iald hx hb hK hP 0 rfl dX9_way_37 (by omega) rfl (by omega) (by omega) (tI_at (by omega)) ?_
        refine lv_aload_n hx hb dX9_way_38 rfl (lv_at hl 0 rfl) ?_
        refine r_const hx hb dX9_way_39 ?_
        refine r_const hx hb dX9_way_40 ?_
        refine r_const hx hb dX9_way_41 ?_
        refine lv_iload_n hx hb dX9_way_42 rfl (lv_at hl 2 rfl) ?_
        refine k_calllV (nL := 4) (C := RX9) (T := TX9) (N := 34) (ci := 9) hx hb hml hown hts hK hP hS hl.1 (by have q := c_X9_shutOn (l := l) (D := D) (G := G) (w := -1) (d := -1) (day := d) (les := False) hi hI.1 hT.1 (by omega) (by omega) (by omega); rw [bI_F] at q; exact q) rfl (Nat.le_of_ble_eq_true rfl) rfl (cwV 4 hts (gV lm_X9_146 ti_X9_shutOn tl_X9_shutOn tn_X9 tc_X9_shutOn) rfl rfl rfl (by decide +kernel) ⟨Nat.le_of_ble_eq_true rfl, Nat.le_of_ble_eq_true rfl⟩) rfl dX9_way_43 ⟨Nat.zero_le _, Nat.zero_le _⟩ (by omega) RE_0 (fun r43 E1 H locs hq hP hS => ?_)
        obtain ⟨rfl, rfl⟩ := hq
        refine k_calliV (nL := 4) (C := RX9) (T := TX9) (N := 34) (ci := 9) hx hb hml hown hts hK hP hS hl.1 (c_X9_minutesOf hi hI.1 (a := σ 7 k) (b := σ 8 k) (by omega) (by omega) hSm) rfl (Nat.le_of_ble_eq_true rfl) rfl (cwV 3 hts (gV lm_X9_150 ti_X9_minutesOf tl_X9_minutesOf tn_X9 tc_X9_minutesOf) rfl rfl rfl (by decide +kernel) ⟨Nat.le_of_ble_eq_true rfl, Nat.le_of_ble_eq_true rfl⟩) rfl dX9_way_46 ⟨Nat.zero_le _, Nat.zero_le _⟩ (by omega) RE_0 (fun r46 E1 H locs hq hP hS => ?_)
        obtain ⟨rfl, τ2, rfl, hF⟩ := hq
        refine lv_istore_n hx hb dX9_way_49 rfl hl (by decide) rfl (fun ls hl => ?_)
        replace hl : lv_has ls 4 [(0, _), (1, _), (2, _), (3, _)] := lv_sub hl [1, 2, 3, 0] rfl
        refine lv_iload_n hx hb dX9_way_50 rfl (lv_at hl 3 rfl) ?_
        refine r_ldc hx hb hown (hts _ lc_X9_136) (show (1000000 : Int32) = iI 1000000 by decide +kernel) dX9_way_51 ?_
        refine r_icmp_lt (tgt := 61) hx hb (by omega) (by omega) dX9_way_53 (by decide) (fun c53 => ?_) (fun c53 => ?_)
        · refine lv_iload_n hx hb dX9_way_61 rfl (lv_at hl 3 rfl) ?_
          exact k_iret hx hb hr hlocks hP hS dX9_way_62 ⟨by rw [aWay, cif_t ⟨by omega, c20⟩, fewC, ← shD_e hI.1, cif_t c53], τ2, rfl, RT_F hF hT⟩
        · refine r_bipush hx hb dX9_way_56 (by decide +kernel) ?_
          refine lv_goto (tgt := 62) hx hb dX9_way_58 (by decide) ?_
          exact k_iret hx hb hr hlocks hP hS dX9_way_62 ⟨by rw [aWay, cif_t ⟨by omega, c20⟩, fewC, ← shD_e hI.1, cif_f (by omega)], τ2, rfl, RT_F hF hT⟩
      · rw [← hWg]
        exact join23  _ _ _ hP hS (lv_sub hl [0] rfl) (fun q => c20 q.2)
abbrev rmX9_shut : Room := { frames := 5, cells := 0, slots := 0, locals := 126 }
set_option maxRecDepth 100000 in
set_option maxHeartbeats 4000000 in
theorem c_X9_shut {l : Launch} {D : va_G} {G : Nat → ClassId} {ad : Nat → Nat} {σ τ : Tb} (hi : kInj 27 ad) {d : Int} (hI : InvS σ) (hT : RT σ τ) (hd : (-2147483648 ≤ d ∧ d < 2147483648)) : Met l yX9_shut wsX9_shut rmX9_shut (kPc D (tysG G) 27 ad (RE G ad σ τ) [.ref (ad 0), .int (iI d)]) (kQi D 27 ad (fun z E' => z = aShut σ d ∧ ∃ τ', E' = RE G ad σ τ' ∧ RT σ τ')) 0 0 (kA 27 ad) := by
  refine k_met (cc := cX9_shut) (maxL := 4) (ret := (some .int)) (by decide) (Nat.le_of_ble_eq_true rfl) ?_
  intro P0 e0 s m0 below meth c0 ls hx hb hr hlocks hml hown hts hK hP hS hl
  replace hl : lv_has ls 4 [(0, _), (1, _)] := hl
  replace hown : s.vm.findClass RX9 = some m0.cls := hown
  refine k_abs (fun Wg hWg => ?_)
  have h0 := Inv_0 hI.1
  refine lv_iload_n hx hb dX9_shut_0 rfl (lv_at hl 1 rfl) ?_
  refine r_const hx hb dX9_shut_1 ?_
  refine r_sipush hx hb dX9_shut_2 (by decide +kernel) ?_
  refine k_calliS (nL := 4) hx hb hml hown hts hK hP hS hl.1 (c_X9_within hi hd (by omega) (by omega)) rfl (Nat.le_of_ble_eq_true rfl) (va_cwS 3 hts (gS lm_X9_97 ts_X9_within tn_X9 tc_X9_within) rfl rfl rfl (by decide +kernel) ⟨Nat.le_of_ble_eq_true rfl, Nat.le_of_ble_eq_true rfl⟩) rfl dX9_shut_5 ⟨Nat.zero_le _, Nat.zero_le _⟩ (fun r5 E1 H locs hq hP hS => ?_)
  obtain ⟨rfl, rfl⟩ := hq
  refine r_ifB_ne (tgt := 13) hx hb dX9_shut_8 (by decide) (fun c8 => ?_) (fun c8 => ?_)
  · have hSm := shM_r hI.1 (w := -1) (d := -1) (les := False) (day := d)
    refine r_const hx hb dX9_shut_13 ?_
    refine lv_istore_n hx hb dX9_shut_14 rfl hl (by decide) rfl (fun ls hl => ?_)
    replace hl : lv_has ls 4 [(0, _), (1, _), (2, _)] := lv_sub hl [1, 2, 0] rfl
    refine r_const hx hb dX9_shut_15 ?_
    refine lv_istore_n hx hb dX9_shut_16 rfl hl (by decide) rfl (fun ls hl => ?_)
    replace hl : lv_has ls 4 [(0, _), (1, _), (2, _), (3, _)] := lv_sub hl [1, 2, 3, 0] rfl
    have loop17 : ∀ (nn : Nat) (c i : Int) (τ1 : Tb) (H : Heap) (locs : List Loc) (ls : Array Slot), va_P D vwCl (kw 27 ad (RE G ad σ τ1)) H → va_S (kA 27 ad) s.heap H locs → lv_has ls 4 [(0, .ref (ad 0)), (1, .int (iI d)), (2, .int (iI c)), (3, .int (iI i))] → ((0 ≤ i ∧ i ≤ σ 0 1) ∧ c = sumI (fun k => bI (¬ dst σ (shD σ d) (σ 7 k) (σ 8 k) ≤ σ 9 k)) i ∧ RT σ τ1) → (σ 0 1 - i).toNat < nn → Wg H locs (F0 m0 17 ls []) := by
      intro nn
      induction nn with
      | zero => intro c i τ1 H locs ls _ _ _ _ hn; omega
      | succ nn ih17 =>
        intro c i τ1 H locs ls hP hS hl hv17 hn17
        rw [hWg]
        obtain ⟨hv, hc, hT1⟩ := hv17
        refine lv_iload_n hx hb dX9_shut_17 rfl (lv_at hl 3 rfl) ?_
        refine lv_aload_n hx hb dX9_shut_18 rfl (lv_at hl 0 rfl) ?_
        refine r_get (C := RX9) (T := TX9) (N := 34) (ci := 9) hx hb hts hi_X9 hown hK hP 10 rfl (by decide) lk_X9_104 (fun _ h9 => h9) dX9_shut_19 (by omega) RE_0 rfl ?_
        refine r_icmp_ge (tgt := 72) hx hb (by omega) (by omega) dX9_shut_22 (by decide) (fun c22 => ?_) (fun c22 => ?_)
        · obtain rfl : i = σ 0 1 := by omega
          refine lv_iload_n hx hb dX9_shut_72 rfl (lv_at hl 2 rfl) ?_
          exact k_iret hx hb hr hlocks hP hS dX9_shut_73 ⟨by rw [aShut, cif_t c8, hc], τ1, rfl, hT1⟩
        · have hir := Inv_r hI.1 (k := i) (by omega)
          unfold IR at hir
          have hdr := dst_r hI.1 (S := shM σ (-1) (-1) False d) (a := σ 7 i) (b := σ 8 i) (by omega) (by omega)
          refine lv_iload_n hx hb dX9_shut_25 rfl (lv_at hl 2 rfl) ?_
          refine lv_aload_n hx hb dX9_shut_26 rfl (lv_at hl 0 rfl) ?_
          refine lv_aload_n hx hb dX9_shut_27 rfl (lv_at hl 0 rfl) ?_
          refine r_get (C := RX9) (T := TX9) (N := 34) (ci := 9) hx hb hts hi_X9 hown hK hP 7 rfl (by decide) lk_X9_28 (fun _ h9 => h9) dX9_shut_28 (by omega) RE_0 rfl ?_
          refine lv_iload_n hx hb dX9_shut_31 rfl (lv_at hl 3 rfl) ?_
          refine r_iald hx hb hK hP 0 rfl dX9_shut_32 (by omega) rfl (by omega) (by omega) (tI_at (by omega)) ?_
          refine lv_aload_n hx hb dX9_shut_33 rfl (lv_at hl 0 rfl) ?_
          refine r_get (C := RX9) (T := TX9) (N := 34) (ci := 9) hx hb hts hi_X9 hown hK hP 8 rfl (by decide) lk_X9_31 (fun _ h9 => h9) dX9_shut_34 (by omega) RE_0 rfl ?_
          refine lv_iload_n hx hb dX9_shut_37 rfl (lv_at hl 3 rfl) ?_
          refine r_iald hx hb hK hP 0 rfl dX9_shut_38 (by omega) rfl (by omega) (by omega) (tI_at (by omega)) ?_
          refine lv_aload_n hx hb dX9_shut_39 rfl (lv_at hl 0 rfl) ?_
          refine r_const hx hb dX9_shut_40 ?_
          refine r_const hx hb dX9_shut_41 ?_
          refine r_const hx hb dX9_shut_42 ?_
          refine lv_iload_n hx hb dX9_shut_43 rfl (lv_at hl 1 rfl) ?_
          refine k_calllV (nL := 4) (C := RX9) (T := TX9) (N := 34) (ci := 9) hx hb hml hown hts hK hP hS hl.1 (by have q := c_X9_shutOn (l := l) (D := D) (G := G) (w := -1) (d := -1) (day := d) (les := False) hi hI.1 hT1.1 (by omega) (by omega) (by omega); rw [bI_F] at q; exact q) rfl (Nat.le_of_ble_eq_true rfl) rfl (cwV 4 hts (gV lm_X9_146 ti_X9_shutOn tl_X9_shutOn tn_X9 tc_X9_shutOn) rfl rfl rfl (by decide +kernel) ⟨Nat.le_of_ble_eq_true rfl, Nat.le_of_ble_eq_true rfl⟩) rfl dX9_shut_44 ⟨Nat.zero_le _, Nat.zero_le _⟩ (by omega) RE_0 (fun r44 E1 H locs hq hP hS => ?_)
          obtain ⟨rfl, rfl⟩ := hq
          refine k_calliV (nL := 4) (C := RX9) (T := TX9) (N := 34) (ci := 9) hx hb hml hown hts hK hP hS hl.1 (c_X9_minutesOf hi hI.1 (a := σ 7 i) (b := σ 8 i) (by omega) (by omega) hSm) rfl (Nat.le_of_ble_eq_true rfl) rfl (cwV 3 hts (gV lm_X9_150 ti_X9_minutesOf tl_X9_minutesOf tn_X9 tc_X9_minutesOf) rfl rfl rfl (by decide +kernel) ⟨Nat.le_of_ble_eq_true rfl, Nat.le_of_ble_eq_true rfl⟩) rfl dX9_shut_47 ⟨Nat.zero_le _, Nat.zero_le _⟩ (by omega) RE_0 (fun r47 E1 H locs hq hP hS => ?_)
          obtain ⟨rfl, τ2, rfl, hF⟩ := hq
          refine lv_aload_n hx hb dX9_shut_50 rfl (lv_at hl 0 rfl) ?_
          refine r_get (C := RX9) (T := TX9) (N := 34) (ci := 9) hx hb hts hi_X9 hown hK hP 9 rfl (by decide) lk_X9_34 (fun _ h9 => h9) dX9_shut_51 (by omega) RE_0 rfl ?_
          refine lv_iload_n hx hb dX9_shut_54 rfl (lv_at hl 3 rfl) ?_
          refine r_iald hx hb hK hP 0 rfl dX9_shut_55 (by omega) rfl (by omega) (by omega) (tI_at (by omega)) ?_
          refine r_icmp_le (tgt := 63) hx hb (by omega) (by omega) dX9_shut_56 (by decide) (fun c56 => ?_) (fun c56 => ?_)
          · refine r_const hx hb dX9_shut_63 ?_
            refine r_add hx hb dX9_shut_64 ?_
            refine lv_istore_n hx hb dX9_shut_65 rfl hl (by decide) rfl (fun ls hl => ?_)
            replace hl : lv_has ls 4 [(0, _), (1, _), (2, _), (3, _)] := lv_sub hl [1, 2, 0, 3] rfl
            refine r_iinc hx hb dX9_shut_66 hl (k := 3) rfl (by decide) (fun ls hl => ?_)
            replace hl : lv_has ls 4 [(0, _), (1, _), (2, _), (3, _)] := lv_sub hl [1, 2, 3, 0] rfl
            refine lv_goto (tgt := 17) hx hb dX9_shut_69 (by decide) ?_
            rw [← hWg]
            exact ih17 _ (i + 1) _ _ _ _ hP hS hl ⟨by omega, by rw [sumI_s hv.1, ← shD_e hI.1, bI_f (fun q => q (by omega)), hc, ← shD_e hI.1], RT_F hF hT1⟩ (by omega)
          · refine r_const hx hb dX9_shut_59 ?_
            refine lv_goto (tgt := 64) hx hb dX9_shut_60 (by decide) ?_
            refine r_add hx hb dX9_shut_64 ?_
            refine lv_istore_n hx hb dX9_shut_65 rfl hl (by decide) rfl (fun ls hl => ?_)
            replace hl : lv_has ls 4 [(0, _), (1, _), (2, _), (3, _)] := lv_sub hl [1, 2, 0, 3] rfl
            refine r_iinc hx hb dX9_shut_66 hl (k := 3) rfl (by decide) (fun ls hl => ?_)
            replace hl : lv_has ls 4 [(0, _), (1, _), (2, _), (3, _)] := lv_sub hl [1, 2, 3, 0] rfl
            refine lv_goto (tgt := 17) hx hb dX9_shut_69 (by decide) ?_
            rw [← hWg]
            exact ih17 _ (i + 1) _ _ _ _ hP hS hl ⟨by omega, by rw [sumI_s hv.1, ← shD_e hI.1, bI_t (by omega), hc, ← shD_e hI.1], RT_F hF hT1⟩ (by omega)
    rw [← hWg]
    exact loop17 _ 0 0 _ _ _ _ hP hS hl ⟨by omega, sumI_0.symm, hT⟩ (Nat.lt_succ_self _)
  · refine r_const hx hb dX9_shut_11 ?_
    exact k_iret hx hb hr hlocks hP hS dX9_shut_12 ⟨by rw [aShut, cif_f c8], τ, rfl, hT⟩
abbrev rmX9_price : Room := { frames := 2, cells := 0, slots := 0, locals := 42 }
set_option maxRecDepth 100000 in
set_option maxHeartbeats 4000000 in
theorem c_X9_price {l : Launch} {D : va_G} {G : Nat → ClassId} {ad : Nat → Nat} {σ τ : Tb} (hi : kInj 27 ad) (hI : InvS σ) (hT : RT σ τ) : Met l yX9_price wsX9_price rmX9_price (kPc D (tysG G) 27 ad (RE G ad σ τ) [.ref (ad 0)]) (kQi D 27 ad (fun z E' => z = aPrice σ ∧ ∃ τ', E' = RE G ad σ τ' ∧ RT σ τ')) 0 0 (kA 27 ad) := by
  refine k_met (cc := cX9_price) (maxL := 3) (ret := (some .int)) (by decide) (Nat.le_of_ble_eq_true rfl) ?_
  intro P0 e0 s m0 below meth c0 ls hx hb hr hlocks hml hown hts hK hP hS hl
  replace hl : lv_has ls 3 [(0, _)] := hl
  replace hown : s.vm.findClass RX9 = some m0.cls := hown
  refine k_abs (fun Wg hWg => ?_)
  have h0 := Inv_0 hI.1
  refine r_const hx hb dX9_price_0 ?_
  refine lv_istore_n hx hb dX9_price_1 rfl hl (by decide) rfl (fun ls hl => ?_)
  replace hl : lv_has ls 3 [(0, _), (1, _)] := lv_sub hl [1, 0] rfl
  refine r_const hx hb dX9_price_2 ?_
  refine lv_istore_n hx hb dX9_price_3 rfl hl (by decide) rfl (fun ls hl => ?_)
  replace hl : lv_has ls 3 [(0, _), (1, _), (2, _)] := lv_sub hl [1, 2, 0] rfl
  have loop4 : ∀ (nn : Nat) (c i : Int) (H : Heap) (locs : List Loc) (ls : Array Slot), va_P D vwCl (kw 27 ad (RE G ad σ τ)) H → va_S (kA 27 ad) s.heap H locs → lv_has ls 3 [(0, .ref (ad 0)), (1, .int (iI c)), (2, .int (iI i))] → ((0 ≤ i ∧ i ≤ σ 0 2) ∧ c = 500 * sumI (fun o => bI (σ 19 o = 0)) i + sumI (fun w => dlyC σ w) i) → (σ 0 2 - i).toNat < nn → Wg H locs (F0 m0 4 ls []) := by
    intro nn
    induction nn with
    | zero => intro c i H locs ls _ _ _ _ hn; omega
    | succ nn ih4 =>
      intro c i H locs ls hP hS hl hv4 hn4
      rw [hWg]
      obtain ⟨hv, hc⟩ := hv4
      refine lv_iload_n hx hb dX9_price_4 rfl (lv_at hl 2 rfl) ?_
      refine lv_aload_n hx hb dX9_price_5 rfl (lv_at hl 0 rfl) ?_
      refine r_get (C := RX9) (T := TX9) (N := 34) (ci := 9) hx hb hts hi_X9 hown hK hP 28 rfl (by decide) lk_X9_107 (fun _ h9 => h9) dX9_price_6 (by omega) RE_0 rfl ?_
      refine r_icmp_ge (tgt := 41) hx hb (by omega) (by omega) dX9_price_9 (by decide) (fun c9 => ?_) (fun c9 => ?_)
      · obtain rfl : i = σ 0 2 := by omega
        refine lv_iload_n hx hb dX9_price_41 rfl (lv_at hl 1 rfl) ?_
        exact k_iret hx hb hr hlocks hP hS dX9_price_42 ⟨by rw [aPrice, hc, cntS], τ, rfl, hT⟩
      · obtain ⟨hN, _, _⟩ := Inv_w hI.1 (w := i) (by omega)
        unfold IN at hN
        refine lv_iload_n hx hb dX9_price_12 rfl (lv_at hl 1 rfl) ?_
        refine lv_aload_n hx hb dX9_price_13 rfl (lv_at hl 0 rfl) ?_
        refine r_get (C := RX9) (T := TX9) (N := 34) (ci := 9) hx hb hts hi_X9 hown hK hP 22 rfl (by decide) lk_X9_69 (fun _ h9 => h9) dX9_price_14 (by omega) RE_0 rfl ?_
        refine lv_iload_n hx hb dX9_price_17 rfl (lv_at hl 2 rfl) ?_
        refine r_iald hx hb hK hP 0 rfl dX9_price_18 (by omega) rfl (by omega) (by omega) (tI_at (by omega)) ?_
        refine r_if_ne (tgt := 28) hx hb (by omega) dX9_price_19 (by decide) (fun c19 => ?_) (fun c19 => ?_)
        · refine lv_aload_n hx hb dX9_price_28 rfl (lv_at hl 0 rfl) ?_
          refine lv_iload_n hx hb dX9_price_29 rfl (lv_at hl 2 rfl) ?_
          refine k_calliV (nL := 3) (C := RX9) (T := TX9) (N := 34) (ci := 9) hx hb hml hown hts hK hP hS hl.1 (c_X9_delay hi hI.1 hT.1 (by omega)) rfl (Nat.le_of_ble_eq_true rfl) rfl (cwV 1 hts (gV lm_X9_211 ti_X9_delay tl_X9_delay tn_X9 tc_X9_delay) rfl rfl rfl (by decide +kernel) ⟨Nat.le_of_ble_eq_true rfl, Nat.le_of_ble_eq_true rfl⟩) rfl dX9_price_30 ⟨Nat.zero_le _, Nat.zero_le _⟩ (by omega) RE_0 (fun r30 E1 H locs hq hP hS => ?_)
          obtain ⟨rfl, rfl⟩ := hq
          refine r_add hx hb dX9_price_33 ?_
          refine lv_istore_n hx hb dX9_price_34 rfl hl (by decide) rfl (fun ls hl => ?_)
          replace hl : lv_has ls 3 [(0, _), (1, _), (2, _)] := lv_sub hl [1, 0, 2] rfl
          refine r_iinc hx hb dX9_price_35 hl (k := 2) rfl (by decide) (fun ls hl => ?_)
          replace hl : lv_has ls 3 [(0, _), (1, _), (2, _)] := lv_sub hl [1, 2, 0] rfl
          refine lv_goto (tgt := 4) hx hb dX9_price_38 (by decide) ?_
          rw [← hWg]
          exact ih4 _ (i + 1) _ _ _ hP hS hl ⟨by omega, by rw [sumI_s hv.1, sumI_s hv.1, bI_f c19, hc]; omega⟩ (by omega)
        · have e : dlyC σ i = 0 := by rw [dlyC, cif_f (by omega)]
          refine r_sipush hx hb dX9_price_22 (by decide +kernel) ?_
          refine lv_goto (tgt := 33) hx hb dX9_price_25 (by decide) ?_
          refine r_add hx hb dX9_price_33 ?_
          refine lv_istore_n hx hb dX9_price_34 rfl hl (by decide) rfl (fun ls hl => ?_)
          replace hl : lv_has ls 3 [(0, _), (1, _), (2, _)] := lv_sub hl [1, 0, 2] rfl
          refine r_iinc hx hb dX9_price_35 hl (k := 2) rfl (by decide) (fun ls hl => ?_)
          replace hl : lv_has ls 3 [(0, _), (1, _), (2, _)] := lv_sub hl [1, 2, 0] rfl
          refine lv_goto (tgt := 4) hx hb dX9_price_38 (by decide) ?_
          rw [← hWg]
          exact ih4 _ (i + 1) _ _ _ hP hS hl ⟨by omega, by rw [sumI_s hv.1, sumI_s hv.1, bI_t (by omega), e, hc]; omega⟩ (by omega)
  rw [← hWg]
  exact loop4 _ 0 0 _ _ _ hP hS hl ⟨by omega, by rw [sumI_0, sumI_0]; omega⟩ (Nat.lt_succ_self _)
abbrev rmX9_count : Room := { frames := 0, cells := 0, slots := 0, locals := 0 }
set_option maxRecDepth 100000 in
set_option maxHeartbeats 4000000 in
theorem c_X9_count {l : Launch} {D : va_G} {G : Nat → ClassId} {ad : Nat → Nat} {σ τ : Tb} (hi : kInj 27 ad) {q : Int} (hI : InvS σ) (hT : RT σ τ) (hq0 : (-2147483648 ≤ q ∧ q < 2147483648)) : Met l yX9_count wsX9_count rmX9_count (kPc D (tysG G) 27 ad (RE G ad σ τ) [.ref (ad 0), .int (iI q)]) (kQi D 27 ad (fun z E' => z = aCount σ q ∧ ∃ τ', E' = RE G ad σ τ' ∧ RT σ τ')) 0 0 (kA 27 ad) := by
  refine k_met (cc := cX9_count) (maxL := 4) (ret := (some .int)) (by decide) (Nat.le_of_ble_eq_true rfl) ?_
  intro P0 e0 s m0 below meth c0 ls hx hb hr hlocks hml hown hts hK hP hS hl
  replace hl : lv_has ls 4 [(0, _), (1, _)] := hl
  replace hown : s.vm.findClass RX9 = some m0.cls := hown
  refine k_abs (fun Wg hWg => ?_)
  have h0 := Inv_0 hI.1
  have join11 : ∀  (H : Heap) (locs : List Loc) (ls : Array Slot), va_P D vwCl (kw 27 ad (RE G ad σ τ)) H → va_S (kA 27 ad) s.heap H locs → lv_has ls 4 [(0, .ref (ad 0)), (1, .int (iI q))] → (q < 4 ∨ 8 < q) → Wg H locs (F0 m0 11 ls []) := by
    intro  H locs ls hP hS hl hv11
    rw [hWg]
    refine lv_iload_n hx hb dX9_count_11 rfl (lv_at hl 1 rfl) ?_
    refine r_if_ne (tgt := 22) hx hb (by omega) dX9_count_12 (by decide) (fun c12 => ?_) (fun c12 => ?_)
    · refine lv_iload_n hx hb dX9_count_22 rfl (lv_at hl 1 rfl) ?_
      refine r_const hx hb dX9_count_23 ?_
      refine r_icmp_ne (tgt := 34) hx hb (by omega) (by omega) dX9_count_24 (by decide) (fun c24 => ?_) (fun c24 => ?_)
      · refine lv_iload_n hx hb dX9_count_34 rfl (lv_at hl 1 rfl) ?_
        refine r_const hx hb dX9_count_35 ?_
        refine r_icmp_ne (tgt := 46) hx hb (by omega) (by omega) dX9_count_36 (by decide) (fun c36 => ?_) (fun c36 => ?_)
        · refine lv_iload_n hx hb dX9_count_46 rfl (lv_at hl 1 rfl) ?_
          refine r_const hx hb dX9_count_47 ?_
          refine r_icmp_ne (tgt := 58) hx hb (by omega) (by omega) dX9_count_48 (by decide) (fun c48 => ?_) (fun c48 => ?_)
          · refine r_const hx hb dX9_count_58 ?_
            exact k_iret hx hb hr hlocks hP hS dX9_count_59 ⟨by rw [aCount, cif_f (by omega), cif_f (by omega), cif_f (by omega), cif_f (by omega), cif_f (by omega)], τ, rfl, hT⟩
          · refine lv_aload_n hx hb dX9_count_51 rfl (lv_at hl 0 rfl) ?_
            refine r_get (C := RX9) (T := TX9) (N := 34) (ci := 9) hx hb hts hi_X9 hown hK hP 12 rfl (by decide) lk_X9_154 (fun _ h9 => h9) dX9_count_52 (by omega) RE_0 rfl ?_
            refine lv_goto (tgt := 59) hx hb dX9_count_55 (by decide) ?_
            exact k_iret hx hb hr hlocks hP hS dX9_count_59 ⟨by rw [aCount, cif_f (by omega), cif_f (by omega), cif_f (by omega), cif_t (by omega)], τ, rfl, hT⟩
        · refine lv_aload_n hx hb dX9_count_39 rfl (lv_at hl 0 rfl) ?_
          refine r_get (C := RX9) (T := TX9) (N := 34) (ci := 9) hx hb hts hi_X9 hown hK hP 28 rfl (by decide) lk_X9_107 (fun _ h9 => h9) dX9_count_40 (by omega) RE_0 rfl ?_
          refine lv_goto (tgt := 59) hx hb dX9_count_43 (by decide) ?_
          exact k_iret hx hb hr hlocks hP hS dX9_count_59 ⟨by rw [aCount, cif_f (by omega), cif_f (by omega), cif_t (by omega)], τ, rfl, hT⟩
      · refine lv_aload_n hx hb dX9_count_27 rfl (lv_at hl 0 rfl) ?_
        refine r_get (C := RX9) (T := TX9) (N := 34) (ci := 9) hx hb hts hi_X9 hown hK hP 10 rfl (by decide) lk_X9_104 (fun _ h9 => h9) dX9_count_28 (by omega) RE_0 rfl ?_
        refine lv_goto (tgt := 59) hx hb dX9_count_31 (by decide) ?_
        exact k_iret hx hb hr hlocks hP hS dX9_count_59 ⟨by rw [aCount, cif_f (by omega), cif_t (by omega)], τ, rfl, hT⟩
    · refine lv_aload_n hx hb dX9_count_15 rfl (lv_at hl 0 rfl) ?_
      refine r_get (C := RX9) (T := TX9) (N := 34) (ci := 9) hx hb hts hi_X9 hown hK hP 6 rfl (by decide) lk_X9_101 (fun _ h9 => h9) dX9_count_16 (by omega) RE_0 rfl ?_
      refine lv_goto (tgt := 59) hx hb dX9_count_19 (by decide) ?_
      exact k_iret hx hb hr hlocks hP hS dX9_count_59 ⟨by rw [aCount, cif_t (by omega)], τ, rfl, hT⟩
  refine lv_iload_n hx hb dX9_count_0 rfl (lv_at hl 1 rfl) ?_
  refine r_const hx hb dX9_count_1 ?_
  refine r_icmp_lt (tgt := 11) hx hb (by omega) (by omega) dX9_count_2 (by decide) (fun c2 => ?_) (fun c2 => ?_)
  · rw [← hWg]
    exact join11  _ _ _ hP hS hl (by omega)
  · refine lv_iload_n hx hb dX9_count_5 rfl (lv_at hl 1 rfl) ?_
    refine r_bipush hx hb dX9_count_6 (by decide +kernel) ?_
    refine r_icmp_le (tgt := 60) hx hb (by omega) (by omega) dX9_count_8 (by decide) (fun c8 => ?_) (fun c8 => ?_)
    · refine r_const hx hb dX9_count_60 ?_
      refine lv_istore_n hx hb dX9_count_61 rfl hl (by decide) rfl (fun ls hl => ?_)
      replace hl : lv_has ls 4 [(0, _), (1, _), (2, _)] := lv_sub hl [1, 2, 0] rfl
      refine r_const hx hb dX9_count_62 ?_
      refine lv_istore_n hx hb dX9_count_63 rfl hl (by decide) rfl (fun ls hl => ?_)
      replace hl : lv_has ls 4 [(0, _), (1, _), (2, _), (3, _)] := lv_sub hl [1, 2, 3, 0] rfl
      have loop64 : ∀ (nn : Nat) (c i : Int) (H : Heap) (locs : List Loc) (ls : Array Slot), va_P D vwCl (kw 27 ad (RE G ad σ τ)) H → va_S (kA 27 ad) s.heap H locs → lv_has ls 4 [(0, .ref (ad 0)), (1, .int (iI q)), (2, .int (iI c)), (3, .int (iI i))] → ((0 ≤ i ∧ i ≤ σ 0 2) ∧ c = sumI (fun o => bI (σ 19 o = q - 4)) i) → (σ 0 2 - i).toNat < nn → Wg H locs (F0 m0 64 ls []) := by
        intro nn
        induction nn with
        | zero => intro c i H locs ls _ _ _ _ hn; omega
        | succ nn ih64 =>
          intro c i H locs ls hP hS hl hv64 hn64
          rw [hWg]
          obtain ⟨hv, hc⟩ := hv64
          refine lv_iload_n hx hb dX9_count_64 rfl (lv_at hl 3 rfl) ?_
          refine lv_aload_n hx hb dX9_count_65 rfl (lv_at hl 0 rfl) ?_
          refine r_get (C := RX9) (T := TX9) (N := 34) (ci := 9) hx hb hts hi_X9 hown hK hP 28 rfl (by decide) lk_X9_107 (fun _ h9 => h9) dX9_count_66 (by omega) RE_0 rfl ?_
          refine r_icmp_ge (tgt := 98) hx hb (by omega) (by omega) dX9_count_69 (by decide) (fun c69 => ?_) (fun c69 => ?_)
          · obtain rfl : i = σ 0 2 := by omega
            refine lv_iload_n hx hb dX9_count_98 rfl (lv_at hl 2 rfl) ?_
            exact k_iret hx hb hr hlocks hP hS dX9_count_99 ⟨by rw [aCount, cif_f (by omega), cif_f (by omega), cif_f (by omega), cif_f (by omega), cif_t (by omega), hc, cntS], τ, rfl, hT⟩
          · obtain ⟨hN, _, _⟩ := Inv_w hI.1 (w := i) (by omega)
            unfold IN at hN
            refine lv_iload_n hx hb dX9_count_72 rfl (lv_at hl 2 rfl) ?_
            refine lv_aload_n hx hb dX9_count_73 rfl (lv_at hl 0 rfl) ?_
            refine r_get (C := RX9) (T := TX9) (N := 34) (ci := 9) hx hb hts hi_X9 hown hK hP 22 rfl (by decide) lk_X9_69 (fun _ h9 => h9) dX9_count_74 (by omega) RE_0 rfl ?_
            refine lv_iload_n hx hb dX9_count_77 rfl (lv_at hl 3 rfl) ?_
            refine r_iald hx hb hK hP 0 rfl dX9_count_78 (by omega) rfl (by omega) (by omega) (tI_at (by omega)) ?_
            refine lv_iload_n hx hb dX9_count_79 rfl (lv_at hl 1 rfl) ?_
            refine r_const hx hb dX9_count_80 ?_
            refine r_sub hx hb dX9_count_81 ?_
            refine r_icmp_ne (tgt := 89) hx hb (by omega) (by omega) dX9_count_82 (by decide) (fun c82 => ?_) (fun c82 => ?_)
            · refine r_const hx hb dX9_count_89 ?_
              refine r_add hx hb dX9_count_90 ?_
              refine lv_istore_n hx hb dX9_count_91 rfl hl (by decide) rfl (fun ls hl => ?_)
              replace hl : lv_has ls 4 [(0, _), (1, _), (2, _), (3, _)] := lv_sub hl [1, 2, 0, 3] rfl
              refine r_iinc hx hb dX9_count_92 hl (k := 3) rfl (by decide) (fun ls hl => ?_)
              replace hl : lv_has ls 4 [(0, _), (1, _), (2, _), (3, _)] := lv_sub hl [1, 2, 3, 0] rfl
              refine lv_goto (tgt := 64) hx hb dX9_count_95 (by decide) ?_
              rw [← hWg]
              exact ih64 _ (i + 1) _ _ _ hP hS hl ⟨by omega, by rw [sumI_s hv.1, bI_f c82, hc]⟩ (by omega)
            · refine r_const hx hb dX9_count_85 ?_
              refine lv_goto (tgt := 90) hx hb dX9_count_86 (by decide) ?_
              refine r_add hx hb dX9_count_90 ?_
              refine lv_istore_n hx hb dX9_count_91 rfl hl (by decide) rfl (fun ls hl => ?_)
              replace hl : lv_has ls 4 [(0, _), (1, _), (2, _), (3, _)] := lv_sub hl [1, 2, 0, 3] rfl
              refine r_iinc hx hb dX9_count_92 hl (k := 3) rfl (by decide) (fun ls hl => ?_)
              replace hl : lv_has ls 4 [(0, _), (1, _), (2, _), (3, _)] := lv_sub hl [1, 2, 3, 0] rfl
              refine lv_goto (tgt := 64) hx hb dX9_count_95 (by decide) ?_
              rw [← hWg]
              exact ih64 _ (i + 1) _ _ _ hP hS hl ⟨by omega, by rw [sumI_s hv.1, bI_t c82, hc]⟩ (by omega)
      rw [← hWg]
      exact loop64 _ 0 0 _ _ _ hP hS hl ⟨by omega, sumI_0.symm⟩ (Nat.lt_succ_self _)
    · rw [← hWg]
      exact join11  _ _ _ hP hS hl (by omega)

