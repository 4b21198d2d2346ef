theorem pmt_0 {σ : Tb} {w d i : Int} : pmt σ w d 0 i = σ 0 i := pmt_t (by decide) (by decide) (by decide)
theorem drp_0 {σ : Tb} {w i : Int} : drp σ w 0 i = σ 0 i := drp_t (by omega)
theorem itD_i {σ : Tb} {i : Int} (h : i ≠ 3) : ∀ n : Nat, itD σ n 0 i = σ 0 i
  | 0 => rfl
  | n + 1 => by
    show psN (itD σ n) (itD σ n 0 2) 0 i = _
    rw [psN_o (by omega) (by omega)]; exact itD_i h n
abbrev rmX9_permit : Room := { frames := 8, cells := 0, slots := 0, locals := 202 }
set_option maxRecDepth 100000 in
set_option maxHeartbeats 4000000 in
theorem c_X9_permit {l : Launch} {D : va_G} {G : Nat → ClassId} {ad : Nat → Nat} {σ τ : Tb} (hi : kInj 27 ad) {w d : Int} (hI : InvS σ) (hT : RT σ τ) (hw : (-2147483648 ≤ w ∧ w < 2147483648)) (hd : (-2147483648 ≤ d ∧ d < 2147483648)) : Met l yX9_permit wsX9_permit rmX9_permit (kPc D (tysG G) 27 ad (RE G ad σ τ) [.ref (ad 0), .int (iI w), .int (iI d)]) (kQi D 27 ad (fun z E' => z = aPermit σ w d ∧ ∃ τ', E' = RE G ad (sPermit σ w d) τ' ∧ RT (sPermit σ w d) τ')) 0 0 (kA 27 ad) := by
  refine k_met (cc := cX9_permit) (maxL := 4) (ret := (some .int)) (by decide) (Nat.le_of_ble_eq_true rfl) ?_
  intro P0 e0 s m0 below meth c0 ls hx hb hr hlocks hml hown hts hK hP hS hl
  replace hl : lv_has ls 4 [(0, _), (1, _), (2, _)] := hl
  replace hown : s.vm.findClass RX9 = some m0.cls := hown
  refine k_abs (fun Wg hWg => ?_)
  have h0 := Inv_0 hI.1
  have hrr := rfF_r (σ := σ) (w := w)
  have join19 : ∀  (H : Heap) (locs : List Loc) (ls : Array Slot), va_P D vwCl (kw 27 ad (RE G ad σ τ)) H → va_S (kA 27 ad) s.heap H locs → lv_has ls 4 [(0, .ref (ad 0))] → (¬ (lvW σ w ∧ (0 ≤ d ∧ d ≤ 399))) → Wg H locs (F0 m0 19 ls []) := by
    intro  H locs ls hP hS hl hv19
    rw [hWg]
    have e : rfs σ w d = -1 := by rw [rfs, cif_f hv19]
    have e2 : sPermit σ w d = σ := by rw [sPermit, e, cif_f (by decide)]
    refine r_const hx hb dX9_permit_19 ?_
    exact k_iret hx hb hr hlocks hP hS dX9_permit_20 ⟨by rw [aPermit, e, cif_f (by decide)], τ, by rw [e2], by rw [e2]; exact hT⟩
  refine lv_aload_n hx hb dX9_permit_0 rfl (lv_at hl 0 rfl) ?_
  refine lv_iload_n hx hb dX9_permit_1 rfl (lv_at hl 1 rfl) ?_
  refine k_calliV (nL := 4) (C := RX9) (T := TX9) (N := 34) (ci := 9) hx hb hml hown hts hK hP hS hl.1 (c_X9_isWork hi hI.1 hw) rfl (Nat.le_of_ble_eq_true rfl) rfl (cwV 1 hts (gV lm_X9_114 ti_X9_isWork tl_X9_isWork tn_X9 tc_X9_isWork) rfl rfl rfl (by decide +kernel) ⟨Nat.le_of_ble_eq_true rfl, Nat.le_of_ble_eq_true rfl⟩) rfl dX9_permit_2 ⟨Nat.zero_le _, Nat.zero_le _⟩ (by omega) RE_0 (fun r2 E1 H locs hq hP hS => ?_)
  obtain ⟨rfl, rfl⟩ := hq
  refine r_ifB_eq (tgt := 19) hx hb dX9_permit_5 (by decide) (fun c5 => ?_) (fun c5 => ?_)
  · rw [← hWg]
    exact join19  _ _ _ hP hS (lv_sub hl [0] rfl) (fun q => c5 q.1)
  · refine lv_iload_n hx hb dX9_permit_8 rfl (lv_at hl 2 rfl) ?_
    refine r_const hx hb dX9_permit_9 ?_
    refine r_sipush hx hb dX9_permit_10 (by decide +kernel) ?_
    refine k_calliS (nL := 4) hx hb hml hown hts hK hP hS hl.1 (c_X9_within hi hd (by omega) (by omega)) rfl (Nat.le_of_ble_eq_true rfl) (va_cwS 3 hts (gS lm_X9_97 ts_X9_within tn_X9 tc_X9_within) rfl rfl rfl (by decide +kernel) ⟨Nat.le_of_ble_eq_true rfl, Nat.le_of_ble_eq_true rfl⟩) rfl dX9_permit_13 ⟨Nat.zero_le _, Nat.zero_le _⟩ (fun r13 E1 H locs hq hP hS => ?_)
    obtain ⟨rfl, rfl⟩ := hq
    refine r_ifB_ne (tgt := 21) hx hb dX9_permit_16 (by decide) (fun c16 => ?_) (fun c16 => ?_)
    · have e : rfs σ w d = rfF σ w := by rw [rfs, cif_t ⟨c5, c16⟩]; rfl
      refine lv_aload_n hx hb dX9_permit_21 rfl (lv_at hl 0 rfl) ?_
      refine lv_iload_n hx hb dX9_permit_22 rfl (lv_at hl 1 rfl) ?_
      refine k_calliV (nL := 4) (C := RX9) (T := TX9) (N := 34) (ci := 9) hx hb hml hown hts hK hP hS hl.1 (c_X9_refusal hi hI.1 c5) rfl (Nat.le_of_ble_eq_true rfl) rfl (cwV 1 hts (gV lm_X9_183 ti_X9_refusal tl_X9_refusal tn_X9 tc_X9_refusal) rfl rfl rfl (by decide +kernel) ⟨Nat.le_of_ble_eq_true rfl, Nat.le_of_ble_eq_true rfl⟩) rfl dX9_permit_23 ⟨Nat.zero_le _, Nat.zero_le _⟩ (by omega) RE_0 (fun r23 E1 H locs hq hP hS => ?_)
      obtain ⟨rfl, rfl⟩ := hq
      refine r_if_eq (tgt := 32) hx hb (by omega) dX9_permit_26 (by decide) (fun c26 => ?_) (fun c26 => ?_)
      · have hru := rul1_r (σ := σ) (w := w) (d := d) (les := False)
        refine lv_aload_n hx hb dX9_permit_32 rfl (lv_at hl 0 rfl) ?_
        refine lv_iload_n hx hb dX9_permit_33 rfl (lv_at hl 1 rfl) ?_
        refine lv_iload_n hx hb dX9_permit_34 rfl (lv_at hl 2 rfl) ?_
        refine k_calliV (nL := 4) (C := RX9) (T := TX9) (N := 34) (ci := 9) hx hb hml hown hts hK hP hS hl.1 (c_X9_look hi hI.1 hT c5 c16) rfl (Nat.le_of_ble_eq_true rfl) rfl (cwV 2 hts (gV lm_X9_186 ti_X9_look tl_X9_look tn_X9 tc_X9_look) rfl rfl rfl (by decide +kernel) ⟨Nat.le_of_ble_eq_true rfl, Nat.le_of_ble_eq_true rfl⟩) rfl dX9_permit_35 ⟨Nat.zero_le _, Nat.zero_le _⟩ (by omega) RE_0 (fun r35 E1 H locs hq hP hS => ?_)
        obtain ⟨rfl, τ2, rfl, hT2⟩ := hq
        refine lv_istore_n hx hb dX9_permit_38 rfl hl (by decide) rfl (fun ls hl => ?_)
        replace hl : lv_has ls 4 [(0, _), (1, _), (2, _), (3, _)] := lv_sub hl [1, 2, 3, 0] rfl
        refine lv_iload_n hx hb dX9_permit_39 rfl (lv_at hl 3 rfl) ?_
        refine r_if_le (tgt := 48) hx hb (by omega) dX9_permit_40 (by decide) (fun c40 => ?_) (fun c40 => ?_)
        · have hz : rul1 σ w d False = 0 := by omega
          have hlk : lok σ w d = σ := by rw [lok, cif_t hz]
          rw [hlk] at hP hT2
          obtain ⟨hN, _, _⟩ := Inv_w hI.1 c5
          unfold IN at hN
          have hle := (rul2_le (rul1_le hz).2).1
          have e2 : sPermit σ w d = pmt σ w d := by rw [sPermit, e, cif_t c26, cif_t hz]
          refine lv_aload_n hx hb dX9_permit_48 rfl (lv_at hl 0 rfl) ?_
          refine lv_iload_n hx hb dX9_permit_49 rfl (lv_at hl 1 rfl) ?_
          refine lv_iload_n hx hb dX9_permit_50 rfl (lv_at hl 2 rfl) ?_
          refine k_callvV (nL := 4) (C := RX9) (T := TX9) (N := 34) (ci := 9) hx hb hml hown hts hK hP hS hl.1 (c_X9_put hi hT2.1 (by omega) c5 (by omega) (by omega) (by omega)) rfl (Nat.le_of_ble_eq_true rfl) rfl (cwV 2 hts (gV lm_X9_190 ti_X9_put tl_X9_put tn_X9 tc_X9_put) rfl rfl rfl (by decide +kernel) ⟨Nat.le_of_ble_eq_true rfl, Nat.le_of_ble_eq_true rfl⟩) rfl dX9_permit_51 ⟨Nat.zero_le _, Nat.zero_le _⟩ (by omega) RE_0 (fun E1 H locs hq hP hS => ?_)
          subst hq
          refine r_const hx hb dX9_permit_54 ?_
          exact k_iret hx hb hr hlocks hP hS dX9_permit_55 ⟨by rw [aPermit, e, cif_t c26, cif_t hz], τ2, by rw [e2], by rw [e2]; exact RT_c0 (fun _ => pmt_0) hT2⟩
        · have hz : ¬ rul1 σ w d False = 0 := by omega
          have e2 : sPermit σ w d = lok σ w d := by rw [sPermit, e, cif_t c26, cif_f hz]
          refine r_bipush hx hb dX9_permit_43 (by decide +kernel) ?_
          refine lv_iload_n hx hb dX9_permit_45 rfl (lv_at hl 3 rfl) ?_
          refine r_sub hx hb dX9_permit_46 ?_
          exact k_iret hx hb hr hlocks hP hS dX9_permit_47 ⟨by rw [aPermit, e, cif_t c26, cif_f hz], τ2, by rw [e2], by rw [e2]; exact hT2⟩
      · have e2 : sPermit σ w d = σ := by rw [sPermit, e, cif_f c26]
        refine r_bipush hx hb dX9_permit_29 (by decide +kernel) ?_
        exact k_iret hx hb hr hlocks hP hS dX9_permit_31 ⟨by rw [aPermit, e, cif_f c26]; omega, τ, by rw [e2], by rw [e2]; exact hT⟩
    · rw [← hWg]
      exact join19  _ _ _ hP hS (lv_sub hl [0] rfl) (fun q => c16 q.2)
abbrev rmX9_withdraw : Room := { frames := 1, cells := 0, slots := 0, locals := 21 }
set_option maxRecDepth 100000 in
set_option maxHeartbeats 4000000 in
theorem c_X9_withdraw {l : Launch} {D : va_G} {G : Nat → ClassId} {ad : Nat → Nat} {σ τ : Tb} (hi : kInj 27 ad) {w : Int} (hI : InvS σ) (hT : RT σ τ) (hw : (-2147483648 ≤ w ∧ w < 2147483648)) : Met l yX9_withdraw wsX9_withdraw rmX9_withdraw (kPc D (tysG G) 27 ad (RE G ad σ τ) [.ref (ad 0), .int (iI w)]) (kQi D 27 ad (fun z E' => z = aWdr σ w ∧ ∃ τ', E' = RE G ad (sWdr σ w) τ' ∧ RT (sWdr σ w) τ')) 0 0 (kA 27 ad) := by
  refine k_met (cc := cX9_withdraw) (maxL := 2) (ret := (some .int)) (by decide) (Nat.le_of_ble_eq_true rfl) ?_
  intro P0 e0 s m0 below meth c0 ls hx hb hr hlocks hml hown hts hK hP hS hl
  replace hl : lv_has ls 2 [(0, _), (1, _)] := hl
  replace hown : s.vm.findClass RX9 = some m0.cls := hown
  refine k_abs (fun Wg hWg => ?_)
  have h0 := Inv_0 hI.1
  refine lv_aload_n hx hb dX9_withdraw_0 rfl (lv_at hl 0 rfl) ?_
  refine lv_iload_n hx hb dX9_withdraw_1 rfl (lv_at hl 1 rfl) ?_
  refine k_calliV (nL := 2) (C := RX9) (T := TX9) (N := 34) (ci := 9) hx hb hml hown hts hK hP hS hl.1 (c_X9_isWork hi hI.1 hw) rfl (Nat.le_of_ble_eq_true rfl) rfl (cwV 1 hts (gV lm_X9_114 ti_X9_isWork tl_X9_isWork tn_X9 tc_X9_isWork) rfl rfl rfl (by decide +kernel) ⟨Nat.le_of_ble_eq_true rfl, Nat.le_of_ble_eq_true rfl⟩) rfl dX9_withdraw_2 ⟨Nat.zero_le _, Nat.zero_le _⟩ (by omega) RE_0 (fun r2 E1 H locs hq hP hS => ?_)
  obtain ⟨rfl, rfl⟩ := hq
  refine r_ifB_ne (tgt := 10) hx hb dX9_withdraw_5 (by decide) (fun c5 => ?_) (fun c5 => ?_)
  · have c5' : 0 ≤ w ∧ w < σ 0 2 := c5
    obtain ⟨hN, _, _⟩ := Inv_w hI.1 c5
    unfold IN at hN
    refine lv_aload_n hx hb dX9_withdraw_10 rfl (lv_at hl 0 rfl) ?_
    refine r_get (C := RX9) (T := TX9) (N := 34) (ci := 9) hx hb hts hi_X9 hown hK hP 22 rfl (by decide) lk_X9_69 (fun _ h9 => h9) dX9_withdraw_11 (by omega) RE_0 rfl ?_
    refine lv_iload_n hx hb dX9_withdraw_14 rfl (lv_at hl 1 rfl) ?_
    refine r_iald hx hb hK hP 0 rfl dX9_withdraw_15 (by omega) rfl (by omega) (by omega) (tI_at (by omega)) ?_
    refine r_const hx hb dX9_withdraw_16 ?_
    refine r_icmp_le (tgt := 23) hx hb (by omega) (by omega) dX9_withdraw_17 (by decide) (fun c17 => ?_) (fun c17 => ?_)
    · have e2 : sWdr σ w = drp σ w := by rw [sWdr, cif_t ⟨c5, by omega⟩]
      refine lv_aload_n hx hb dX9_withdraw_23 rfl (lv_at hl 0 rfl) ?_
      refine lv_iload_n hx hb dX9_withdraw_24 rfl (lv_at hl 1 rfl) ?_
      refine k_callvV (nL := 2) (C := RX9) (T := TX9) (N := 34) (ci := 9) hx hb hml hown hts hK hP hS hl.1 (c_X9_draw hi hI.1 hT.1 c5) rfl (Nat.le_of_ble_eq_true rfl) rfl (cwV 1 hts (gV lm_X9_194 ti_X9_draw tl_X9_draw tn_X9 tc_X9_draw) rfl rfl rfl (by decide +kernel) ⟨Nat.le_of_ble_eq_true rfl, Nat.le_of_ble_eq_true rfl⟩) rfl dX9_withdraw_25 ⟨Nat.zero_le _, Nat.zero_le _⟩ (by omega) RE_0 (fun E1 H locs hq hP hS => ?_)
      subst hq
      refine r_const hx hb dX9_withdraw_28 ?_
      exact k_iret hx hb hr hlocks hP hS dX9_withdraw_29 ⟨by rw [aWdr, cif_t c5, cif_t (by omega)], τ, by rw [e2], by rw [e2]; exact RT_c0 (fun _ => drp_0) hT⟩
    · have e2 : sWdr σ w = σ := by rw [sWdr, cif_f (fun q => by have := q.2; omega)]
      refine r_bipush hx hb dX9_withdraw_20 (by decide +kernel) ?_
      exact k_iret hx hb hr hlocks hP hS dX9_withdraw_22 ⟨by rw [aWdr, cif_t c5, cif_f (by omega)], τ, by rw [e2], by rw [e2]; exact hT⟩
  · have e2 : sWdr σ w = σ := by rw [sWdr, cif_f (fun q => c5 q.1)]
    refine r_const hx hb dX9_withdraw_8 ?_
    exact k_iret hx hb hr hlocks hP hS dX9_withdraw_9 ⟨by rw [aWdr, cif_f c5], τ, by rw [e2], by rw [e2]; exact hT⟩
abbrev rmX9_day : Room := { frames := 1, cells := 0, slots := 0, locals := 22 }
set_option maxRecDepth 100000 in
set_option maxHeartbeats 4000000 in
theorem c_X9_day {l : Launch} {D : va_G} {G : Nat → ClassId} {ad : Nat → Nat} {σ τ : Tb} (hi : kInj 27 ad) {n : Int} (hI : InvS σ) (hT : RT σ τ) (hn : (-2147483648 ≤ n ∧ n < 2147483648)) : Met l yX9_day wsX9_day rmX9_day (kPc D (tysG G) 27 ad (RE G ad σ τ) [.ref (ad 0), .int (iI n)]) (kQi D 27 ad (fun z E' => z = aDay σ n ∧ ∃ τ', E' = RE G ad (sDay σ n) τ' ∧ RT (sDay σ n) τ')) 0 0 (kA 27 ad) := by
  refine k_met (cc := cX9_day) (maxL := 4) (ret := (some .int)) (by decide) (Nat.le_of_ble_eq_true rfl) ?_
  intro P0 e0 s m0 below meth c0 ls hx hb hr hlocks hml hown hts hK hP hS hl
  replace hl : lv_has ls 4 [(0, _), (1, _)] := hl
  replace hown : s.vm.findClass RX9 = some m0.cls := hown
  refine k_abs (fun Wg hWg => ?_)
  have h0 := Inv_0 hI.1
  have join22 : ∀  (H : Heap) (locs : List Loc) (ls : Array Slot), va_P D vwCl (kw 27 ad (RE G ad σ τ)) H → va_S (kA 27 ad) s.heap H locs → lv_has ls 4 [(0, .ref (ad 0))] → (¬ vD σ n) → Wg H locs (F0 m0 22 ls []) := by
    intro  H locs ls hP hS hl hv22
    rw [hWg]
    refine r_const hx hb dX9_day_22 ?_
    exact k_iret hx hb hr hlocks hP hS dX9_day_23 ⟨by rw [aDay, cif_f hv22], τ, by rw [sDay, cif_f hv22], by rw [sDay, cif_f hv22]; exact hT⟩
  refine lv_iload_n hx hb dX9_day_0 rfl (lv_at hl 1 rfl) ?_
  refine r_const hx hb dX9_day_1 ?_
  refine r_bipush hx hb dX9_day_2 (by decide +kernel) ?_
  refine k_calliS (nL := 4) hx hb hml hown hts hK hP hS hl.1 (c_X9_within hi hn (by omega) (by omega)) rfl (Nat.le_of_ble_eq_true rfl) (va_cwS 3 hts (gS lm_X9_97 ts_X9_within tn_X9 tc_X9_within) rfl rfl rfl (by decide +kernel) ⟨Nat.le_of_ble_eq_true rfl, Nat.le_of_ble_eq_true rfl⟩) rfl dX9_day_4 ⟨Nat.zero_le _, Nat.zero_le _⟩ (fun r4 E1 H locs hq hP hS => ?_)
  obtain ⟨rfl, rfl⟩ := hq
  refine r_ifB_eq (tgt := 22) hx hb dX9_day_7 (by decide) (fun c7 => ?_) (fun c7 => ?_)
  · rw [← hWg]
    exact join22  _ _ _ hP hS (lv_sub hl [0] rfl) (fun q => c7 q.1)
  · refine lv_aload_n hx hb dX9_day_10 rfl (lv_at hl 0 rfl) ?_
    refine r_get (C := RX9) (T := TX9) (N := 34) (ci := 9) hx hb hts hi_X9 hown hK hP 12 rfl (by decide) lk_X9_154 (fun _ h9 => h9) dX9_day_11 (by omega) RE_0 rfl ?_
    refine lv_iload_n hx hb dX9_day_14 rfl (lv_at hl 1 rfl) ?_
    refine r_add hx hb dX9_day_15 ?_
    refine r_sipush hx hb dX9_day_16 (by decide +kernel) ?_
    refine r_icmp_le (tgt := 24) hx hb (by omega) (by omega) dX9_day_19 (by decide) (fun c19 => ?_) (fun c19 => ?_)
    · have hvd : vD σ n := ⟨c7, by omega⟩
      refine r_const hx hb dX9_day_24 ?_
      refine lv_istore_n hx hb dX9_day_25 rfl hl (by decide) rfl (fun ls hl => ?_)
      replace hl : lv_has ls 4 [(0, _), (1, _), (2, _)] := lv_sub hl [1, 2, 0] rfl
      have loop26 : ∀ (nn : Nat) (k : Int) (H : Heap) (locs : List Loc) (ls : Array Slot), va_P D vwCl (kw 27 ad (RE G ad (itD σ k.toNat) τ)) H → va_S (kA 27 ad) s.heap H locs → lv_has ls 4 [(0, .ref (ad 0)), (1, .int (iI n)), (2, .int (iI k))] → (0 ≤ k ∧ k ≤ n) → (n - k).toNat < nn → Wg H locs (F0 m0 26 ls []) := by
        intro nn
        induction nn with
        | zero => intro k H locs ls _ _ _ _ hn; omega
        | succ nn ih26 =>
          intro k H locs ls hP hS hl hv26 hn26
          rw [hWg]
          have hIk := InvS_itD hI k.toNat (by omega)
          obtain ⟨e2, e3⟩ := itD_0 (σ := σ) k.toNat
          obtain ⟨hR2, hR3, hR4⟩ := RD_c e2 hT.1
          refine lv_iload_n hx hb dX9_day_26 rfl (lv_at hl 2 rfl) ?_
          refine lv_iload_n hx hb dX9_day_27 rfl (lv_at hl 1 rfl) ?_
          refine r_icmp_ge (tgt := 128) hx hb (by omega) (by omega) dX9_day_28 (by decide) (fun c28 => ?_) (fun c28 => ?_)
          · obtain rfl : k = n := by omega
            have e : sDay σ k = itD σ k.toNat := by rw [sDay, cif_t hvd]
            refine lv_aload_n hx hb dX9_day_128 rfl (lv_at hl 0 rfl) ?_
            refine r_get (C := RX9) (T := TX9) (N := 34) (ci := 9) hx hb hts hi_X9 hown hK hP 12 rfl (by decide) lk_X9_154 (fun _ h9 => h9) dX9_day_129 (by omega) RE_0 rfl ?_
            rw [e3]
            exact k_iret hx hb hr hlocks hP hS dX9_day_132 ⟨by rw [aDay, cif_t hvd]; omega, τ, by rw [e], by rw [e]; exact RT_c e2 (itD_i (by decide) _) (itD_i (by decide) _) (itD_i (by decide) _) hT⟩
          · refine lv_aload_n hx hb dX9_day_31 rfl (lv_at hl 0 rfl) ?_
            refine lv_dup hx hb dX9_day_32 rfl ?_
            refine r_get (C := RX9) (T := TX9) (N := 34) (ci := 9) hx hb hts hi_X9 hown hK hP 12 rfl (by decide) lk_X9_154 (fun _ h9 => h9) dX9_day_33 (by omega) RE_0 rfl ?_
            refine r_const hx hb dX9_day_36 ?_
            refine r_add hx hb dX9_day_37 ?_
            refine r_put (C := RX9) (T := TX9) (N := 34) (ci := 9) hx hb hi hts hi_X9 tyX9 tyX9_ok nmX9 hown hK hP hS 12 rfl (by decide) lk_X9_154 (fun _ h9 => h9) rfl (ty := .int) (by decide +kernel) rfl rfl dX9_day_38 (by omega) RE_0 (Nat.le_of_ble_eq_true rfl) ru_today (fun H locs hP hS => ?_)
            rw [psN_0] at hP
            refine r_const hx hb dX9_day_41 ?_
            refine lv_istore_n hx hb dX9_day_42 rfl hl (by decide) rfl (fun ls hl => ?_)
            replace hl : lv_has ls 4 [(0, _), (1, _), (2, _), (3, _)] := lv_sub hl [1, 2, 3, 0] rfl
            have loop43 : ∀ (nn : Nat) (i : Int) (H : Heap) (locs : List Loc) (ls : Array Slot), va_P D vwCl (kw 27 ad (RE G ad (psN (itD σ k.toNat) i) τ)) H → va_S (kA 27 ad) s.heap H locs → lv_has ls 4 [(0, .ref (ad 0)), (1, .int (iI n)), (2, .int (iI k)), (3, .int (iI i))] → (0 ≤ i ∧ i ≤ σ 0 2) → (σ 0 2 - i).toNat < nn → Wg H locs (F0 m0 43 ls []) := by
              intro nn
              induction nn with
              | zero => intro i H locs ls _ _ _ _ hn; omega
              | succ nn ih43 =>
                intro i H locs ls hP hS hl hv43 hn43
                rw [hWg]
                have f02 : psN (itD σ k.toNat) i 0 2 = σ 0 2 := (psN_o (by decide) (by omega)).trans e2
                refine lv_iload_n hx hb dX9_day_43 rfl (lv_at hl 3 rfl) ?_
                refine lv_aload_n hx hb dX9_day_44 rfl (lv_at hl 0 rfl) ?_
                refine r_get (C := RX9) (T := TX9) (N := 34) (ci := 9) hx hb hts hi_X9 hown hK hP 28 rfl (by decide) lk_X9_107 (fun _ h9 => h9) dX9_day_45 (by omega) RE_0 rfl ?_
                rw [f02]
                refine r_icmp_ge (tgt := 122) hx hb (by omega) (by omega) dX9_day_48 (by decide) (fun c48 => ?_) (fun c48 => ?_)
                · obtain rfl : i = σ 0 2 := by omega
                  have e : psN (itD σ k.toNat) (σ 0 2) = itD σ (k + 1).toNat := by rw [itD_s hv26.1, e2]
                  rw [e] at hP
                  refine r_iinc hx hb dX9_day_122 hl (k := 2) rfl (by decide) (fun ls hl => ?_)
                  replace hl : lv_has ls 4 [(0, _), (1, _), (2, _), (3, _)] := lv_sub hl [1, 2, 0, 3] rfl
                  refine lv_goto (tgt := 26) hx hb dX9_day_125 (by decide) ?_
                  rw [← hWg]
                  exact ih26 (k + 1) _ _ _ hP hS (lv_sub hl [0, 1, 2] rfl) (by omega) (by omega)
                · obtain ⟨hN, _, _⟩ := Inv_w hIk.1 (w := i) (by omega)
                  have hB := IN_b hIk.1 (w := i) (by omega)
                  have h0k := Inv_0 hIk.1
                  unfold IN at hN
                  have f19 : psN (itD σ k.toNat) i 19 i = (itD σ k.toNat) 19 i := psN_o (by omega) (by omega)
                  have f20 : psN (itD σ k.toNat) i 20 i = (itD σ k.toNat) 20 i := psN_o (by omega) (by omega)
                  have f21 : psN (itD σ k.toNat) i 21 i = (itD σ k.toNat) 21 i := psN_o (by omega) (by omega)
                  have f03 : psN (itD σ k.toNat) i 0 3 = (itD σ k.toNat) 0 3 + 1 := psN_d
                  have join116 : ∀  (H : Heap) (locs : List Loc) (ls : Array Slot), va_P D vwCl (kw 27 ad (RE G ad (psN (itD σ k.toNat) (i + 1)) τ)) H → va_S (kA 27 ad) s.heap H locs → lv_has ls 4 [(0, .ref (ad 0)), (1, .int (iI n)), (2, .int (iI k)), (3, .int (iI i))] → (True) → Wg H locs (F0 m0 116 ls []) := by
                    intro  H locs ls hP hS hl hv116
                    rw [hWg]
                    refine r_iinc hx hb dX9_day_116 hl (k := 3) rfl (by decide) (fun ls hl => ?_)
                    replace hl : lv_has ls 4 [(0, _), (1, _), (2, _), (3, _)] := lv_sub hl [1, 2, 3, 0] rfl
                    refine lv_goto (tgt := 43) hx hb dX9_day_119 (by decide) ?_
                    rw [← hWg]
                    exact ih43 (i + 1) _ _ _ hP hS hl (by omega) (by omega)
                  have join86 : ∀  (H : Heap) (locs : List Loc) (ls : Array Slot), va_P D vwCl (kw 27 ad (RE G ad (psN (itD σ k.toNat) i) τ)) H → va_S (kA 27 ad) s.heap H locs → lv_has ls 4 [(0, .ref (ad 0)), (1, .int (iI n)), (2, .int (iI k)), (3, .int (iI i))] → (¬ ((itD σ k.toNat) 19 i = 2 ∧ (itD σ k.toNat) 21 i < (itD σ k.toNat) 0 3 + 1)) → Wg H locs (F0 m0 86 ls []) := by
                    intro  H locs ls hP hS hl hv86
                    rw [hWg]
                    refine lv_aload_n hx hb dX9_day_86 rfl (lv_at hl 0 rfl) ?_
                    refine r_get (C := RX9) (T := TX9) (N := 34) (ci := 9) hx hb hts hi_X9 hown hK hP 22 rfl (by decide) lk_X9_69 (fun _ h9 => h9) dX9_day_87 (by omega) RE_0 rfl ?_
                    refine lv_iload_n hx hb dX9_day_90 rfl (lv_at hl 3 rfl) ?_
                    refine r_iald hx hb hK hP 0 rfl dX9_day_91 (by omega) rfl (by omega) (by omega) (tI_at (by omega)) ?_
                    rw [f19]
                    refine r_const hx hb dX9_day_92 ?_
                    refine r_icmp_ne (tgt := 116) hx hb (by omega) (by omega) dX9_day_93 (by decide) (fun c93 => ?_) (fun c93 => ?_)
                    · rw [psN_k hv43.1 (by rw [psS, cif_f hv86, cif_f (fun q => c93 q.1)])] at hP
                      rw [← hWg]
                      exact join116  _ _ _ hP hS hl trivial
                    · refine lv_aload_n hx hb dX9_day_96 rfl (lv_at hl 0 rfl) ?_
                      refine r_get (C := RX9) (T := TX9) (N := 34) (ci := 9) hx hb hts hi_X9 hown hK hP 23 rfl (by decide) lk_X9_72 (fun _ h9 => h9) dX9_day_97 (by omega) RE_0 rfl ?_
                      refine lv_iload_n hx hb dX9_day_100 rfl (lv_at hl 3 rfl) ?_
                      refine r_iald hx hb hK hP 0 rfl dX9_day_101 (by omega) rfl (by omega) (by omega) (tD_at (by omega) (by omega)) ?_
                      rw [f20]
                      refine lv_aload_n hx hb dX9_day_102 rfl (lv_at hl 0 rfl) ?_
                      refine r_get (C := RX9) (T := TX9) (N := 34) (ci := 9) hx hb hts hi_X9 hown hK hP 12 rfl (by decide) lk_X9_154 (fun _ h9 => h9) dX9_day_103 (by omega) RE_0 rfl ?_
                      rw [f03]
                      refine r_icmp_ne (tgt := 116) hx hb (by omega) (by omega) dX9_day_106 (by decide) (fun c106 => ?_) (fun c106 => ?_)
                      · rw [psN_k hv43.1 (by rw [psS, cif_f hv86, cif_f (fun q => c106 q.2)])] at hP
                        rw [← hWg]
                        exact join116  _ _ _ hP hS hl trivial
                      · refine lv_aload_n hx hb dX9_day_109 rfl (lv_at hl 0 rfl) ?_
                        refine r_get (C := RX9) (T := TX9) (N := 34) (ci := 9) hx hb hts hi_X9 hown hK hP 22 rfl (by decide) lk_X9_69 (fun _ h9 => h9) dX9_day_110 (by omega) RE_0 rfl ?_
                        refine lv_iload_n hx hb dX9_day_113 rfl (lv_at hl 3 rfl) ?_
                        refine r_const hx hb dX9_day_114 ?_
                        refine r_iast hx hb hi hK hP hS 0 rfl dX9_day_115 (by omega) rfl (by omega) (by omega) (ru_state (by omega)) (fun H locs hP hS => ?_)
                        rw [psN_s hv43.1 (by rw [psS, cif_f hv86, cif_t ⟨c93, c106⟩])] at hP
                        rw [← hWg]
                        exact join116  _ _ _ hP hS hl trivial
                  refine lv_aload_n hx hb dX9_day_51 rfl (lv_at hl 0 rfl) ?_
                  refine r_get (C := RX9) (T := TX9) (N := 34) (ci := 9) hx hb hts hi_X9 hown hK hP 22 rfl (by decide) lk_X9_69 (fun _ h9 => h9) dX9_day_52 (by omega) RE_0 rfl ?_
                  refine lv_iload_n hx hb dX9_day_55 rfl (lv_at hl 3 rfl) ?_
                  refine r_iald hx hb hK hP 0 rfl dX9_day_56 (by omega) rfl (by omega) (by omega) (tI_at (by omega)) ?_
                  rw [f19]
                  refine r_const hx hb dX9_day_57 ?_
                  refine r_icmp_ne (tgt := 86) hx hb (by omega) (by omega) dX9_day_58 (by decide) (fun c58 => ?_) (fun c58 => ?_)
                  · rw [← hWg]
                    exact join86  _ _ _ hP hS hl (fun q => c58 q.1)
                  · refine lv_aload_n hx hb dX9_day_61 rfl (lv_at hl 0 rfl) ?_
                    refine r_get (C := RX9) (T := TX9) (N := 34) (ci := 9) hx hb hts hi_X9 hown hK hP 24 rfl (by decide) lk_X9_75 (fun _ h9 => h9) dX9_day_62 (by omega) RE_0 rfl ?_
                    refine lv_iload_n hx hb dX9_day_65 rfl (lv_at hl 3 rfl) ?_
                    refine r_iald hx hb hK hP 0 rfl dX9_day_66 (by omega) rfl (by omega) (by omega) (tD_at (by omega) (by omega)) ?_
                    rw [f21]
                    refine lv_aload_n hx hb dX9_day_67 rfl (lv_at hl 0 rfl) ?_
                    refine r_get (C := RX9) (T := TX9) (N := 34) (ci := 9) hx hb hts hi_X9 hown hK hP 12 rfl (by decide) lk_X9_154 (fun _ h9 => h9) dX9_day_68 (by omega) RE_0 rfl ?_
                    rw [f03]
                    refine r_const hx hb dX9_day_71 ?_
                    refine r_sub hx hb dX9_day_72 ?_
                    refine r_icmp_ne (tgt := 86) hx hb (by omega) (by omega) dX9_day_73 (by decide) (fun c73 => ?_) (fun c73 => ?_)
                    · rw [← hWg]
                      exact join86  _ _ _ hP hS hl (fun q => by omega)
                    · refine lv_aload_n hx hb dX9_day_76 rfl (lv_at hl 0 rfl) ?_
                      refine r_get (C := RX9) (T := TX9) (N := 34) (ci := 9) hx hb hts hi_X9 hown hK hP 22 rfl (by decide) lk_X9_69 (fun _ h9 => h9) dX9_day_77 (by omega) RE_0 rfl ?_
                      refine lv_iload_n hx hb dX9_day_80 rfl (lv_at hl 3 rfl) ?_
                      refine r_const hx hb dX9_day_81 ?_
                      refine r_iast hx hb hi hK hP hS 0 rfl dX9_day_82 (by omega) rfl (by omega) (by omega) (ru_state (by omega)) (fun H locs hP hS => ?_)
                      refine lv_goto (tgt := 116) hx hb dX9_day_83 (by decide) ?_
                      rw [psN_s hv43.1 (by rw [psS, cif_t ⟨c58, by omega⟩])] at hP
                      rw [← hWg]
                      exact join116  _ _ _ hP hS hl trivial
            rw [← hWg]
            exact loop43 _ 0 _ _ _ hP hS hl (by omega) (Nat.lt_succ_self _)
      rw [← hWg]
      exact loop26 _ 0 _ _ _ hP hS hl (by omega) (Nat.lt_succ_self _)
    · rw [← hWg]
      exact join22  _ _ _ hP hS (lv_sub hl [0] rfl) (fun q => by have := q.2; omega)

