/-! ===== BETTER ===== -/
def bkP (σ : Tb) (w o : Int) : Prop := o ≠ w ∧ σ 19 o = 1 ∧ rul3 σ o (σ 20 o) False ≠ 0
def okB (σ : Tb) (w d : Int) : Prop := rul1 σ w d False = 0 ∧ ∀ o, 0 ≤ o → o < σ 0 2 → ¬ bkP (plB σ w d) w o
def bkE (σ : Tb) (w d : Int) : Prop := ∃ o, (0 ≤ o ∧ o < σ 0 2) ∧ bkP (plB σ w d) w o
def betP (σ : Tb) (w d : Int) : Prop := (0 ≤ w ∧ w < σ 0 2) ∧ σ 19 w = 1 ∧ σ 16 w < σ 20 w ∧ (σ 0 3 ≤ d ∧ d < σ 20 w) ∧ okB σ w d
noncomputable def bet1 (σ : Tb) : Tb := cif (ex2 (betP σ)) (pmt σ (fstA (betP σ)) (fstB (betP σ))) σ
theorem bet1_t {σ : Tb} {w d : Int} (h : isFst (betP σ) w d) : bet1 σ = pmt σ w d := by
  obtain ⟨e1, e2⟩ := fst_of h
  unfold bet1
  rw [cif_t ⟨w, d, h.1⟩, e1, e2]
/-- the breaker is no work, -1, or once was one -/
def TI (τ : Tb) : Prop := -1 ≤ τ 2 4 ∧ τ 2 4 ≤ 60
theorem plB_back {σ : Tb} {w d : Int} (h21 : σ 21 w = lstF σ w (σ 20 w)) : up (up (plB σ w d) 20 w (σ 20 w)) 21 w (lstF (plB σ w d) w (σ 20 w)) = σ := by
  have e : lstF (plB σ w d) w (σ 20 w) = lstF σ w (σ 20 w) := by
    unfold lstF
    rw [plB_t (t := 14) (by decide) (by decide)]
  rw [e]
  unfold plB
  rw [up_sw (t := 21) (u := 20) (by decide), up_up, up_up, up_same (t := 20) rfl, up_same h21]
/-- a work's own day is nothing to its own rules -/
theorem rul3_pl {σ : Tb} {w x d : Int} {les : Prop} : rul3 (plB σ w x) w d les = rul3 σ w d les := by
  have hq : ∀ t, t ≠ 20 → t ≠ 21 → plB σ w x t = σ t := fun t a b => funext fun i => plB_t a b
  have e0 := hq 0 (by decide) (by decide)
  have e1 := hq 1 (by decide) (by decide)
  have e2 := hq 2 (by decide) (by decide)
  have e3 := hq 3 (by decide) (by decide)
  have e4 := hq 4 (by decide) (by decide)
  have e5 := hq 5 (by decide) (by decide)
  have e6 := hq 6 (by decide) (by decide)
  have e7 := hq 7 (by decide) (by decide)
  have e8 := hq 8 (by decide) (by decide)
  have e9 := hq 9 (by decide) (by decide)
  have e10 := hq 10 (by decide) (by decide)
  have e11 := hq 11 (by decide) (by decide)
  have e12 := hq 12 (by decide) (by decide)
  have e13 := hq 13 (by decide) (by decide)
  have e14 := hq 14 (by decide) (by decide)
  have e15 := hq 15 (by decide) (by decide)
  have e19 := hq 19 (by decide) (by decide)
  have e23 := hq 23 (by decide) (by decide)
  have eO : isOn (plB σ w x) = isOn σ := by funext v p; unfold isOn; rw [hq 17 (by decide) (by decide)]
  have eC : cnts (plB σ w x) w les = cnts σ w les := by funext o; simp only [cnts, hasD, e19]
  have eL : ∀ d, lsts (plB σ w x) w d les = lsts σ w d les := fun d => by
    funext day o
    unfold lsts
    rw [eC, e14]
    by_cases q : o = w
    · apply propext
      constructor
      · rintro (a | ⟨a, _⟩)
        · exact Or.inl a
        · exact absurd q a
      · rintro (a | ⟨a, _⟩)
        · exact Or.inl a
        · exact absurd q a
    · rw [plB_i q, plB_i q]
  have eT : ∀ p d day, tkn (plB σ w x) p w d les day = tkn σ p w d les day := fun p d day => by
    unfold tkn
    rw [e0]
    refine congrArg (fun f => sumI f (σ 0 2)) ?_
    funext o
    unfold tkF lss
    rw [eO, eL, e13, e23]
  have eS : ∀ d day, shM (plB σ w x) w d les day = shM σ w d les day := fun d day => by
    unfold shM
    rw [e0, e3]
    refine congrArg (fun f => msk f (σ 0 0).toNat) ?_
    funext p
    rw [eT]
  have eD : dst (plB σ w x) = dst σ := by
    have e : isDs (plB σ w x) = isDs σ := by funext S a f; simp only [isDs, e0, e1, e2, e5]
    funext S a b
    simp only [dst, e]
  have eB : ∀ p o, B6o (plB σ w x) w d les p o = B6o σ w d les p o := fun p o => by
    unfold B6o
    rw [eC, eO, e6, e12, e14, e19]
    by_cases q : o = w
    · apply propext
      constructor
      · rintro ⟨a, _⟩
        exact absurd q a.1
      · rintro ⟨a, _⟩
        exact absurd q a.1
    · rw [plB_i q, plB_i q]
  have b3 : B3 (plB σ w x) w d = B3 σ w d := by funext day p; simp only [B3, inW, inP, e0, e4, e10, e14, eO]
  have b4 : B4 (plB σ w x) w d les = B4 σ w d les := by funext day p; simp only [B4, inW, inP, e0, e3, e14, eO, eT]
  have b5 : B5 (plB σ w x) w d les = B5 σ w d les := by funext day p; simp only [B5, B5o, inW, inP, e0, e11, e14, e15, e23, eO, eL]
  have b6 : B6 (plB σ w x) w d les = B6 σ w d les := by funext day p; simp only [B6, inP, e0, eO, eB]
  have b7 : B7 (plB σ w x) w d les = B7 σ w d les := by funext day p; simp only [B7, inW, e0, e7, e8, e9, e14, eD, eS]
  unfold rul3
  rw [b3, b4, b5, b6, b7]
theorem rul1_pl {σ : Tb} {w x d : Int} {les : Prop} : rul1 (plB σ w x) w d les = rul1 σ w d les := by
  unfold rul1 rul2 ntc
  rw [rul3_pl, plB_t (t := 0) (by decide) (by decide), plB_t (t := 12) (by decide) (by decide), plB_t (t := 14) (by decide) (by decide)]
abbrev rmX4_breaksBeside : Room := { frames := 4, cells := 0, slots := 0, locals := 111 }
set_option maxRecDepth 100000 in
set_option maxHeartbeats 4000000 in
theorem c_X4_breaksBeside {l : Launch} {D : va_G} {G : Nat → ClassId} {ad : Nat → Nat} {σ τ : Tb} (hi : kInj 189 ad) {o w : Int} (hI : Inv σ) (hw : 0 ≤ w ∧ w < σ 0 2) (ho : (-2147483648 ≤ o ∧ o < 2147483648)) : Met l yX4_breaksBeside wsX4_breaksBeside rmX4_breaksBeside (kPc D (tysG G) 189 ad (CE G ad σ τ) [.ref (ad 5), .int (iI o), .ref (ad (69 + w.toNat))]) (kQi D 189 ad (fun z E' => z = bI ((0 ≤ o ∧ o < σ 0 2) ∧ bkP σ w o) ∧ ∃ τ', E' = CE G ad σ τ' ∧ τ' 2 4 = τ 2 4)) 0 0 (kA 189 ad) := by
  refine k_met (cc := cX4_breaksBeside) (maxL := 4) (ret := (some .boolean)) (by decide) (Nat.le_of_ble_eq_true rfl) ?_
  intro P0 e0 s m0 below meth c0 ls hx hb hr hlocks hml hown hts hK hP hS hl
  replace hl : lv_has ls 4 [(0, _), (1, _), (2, _)] := hl
  replace hown : s.vm.findClass RX4 = some m0.cls := hown
  refine k_abs (fun Wg hWg => ?_)
  have h0 := Inv_0 hI
  refine lv_aload_n hx hb dX4_breaksBeside_0 rfl (lv_at hl 0 rfl) ?_
  refine r_get (C := RX4) (T := TX4) (N := 3) (ci := 4) hx hb hts hi_X4 hown hK hP 0 rfl (by decide) lk_X4_15 (fun _ h9 => h9) dX4_breaksBeside_1 (by omega) CE_5 rfl ?_
  refine lv_iload_n hx hb dX4_breaksBeside_4 rfl (lv_at hl 1 rfl) ?_
  refine k_calliV (nL := 4) (C := RX5) (T := TX5) (N := 8) (ci := 5) hx hb hml hown hts hK hP hS hl.1 (c_X5_hasWork hi ho h0.2.2.1) rfl (Nat.le_of_ble_eq_true rfl) rfl (cwV 1 hts (gV lm_X4_88 ti_X5_hasWork tl_X5_hasWork tn_X5 tc_X5_hasWork) rfl rfl rfl (by decide +kernel) ⟨Nat.le_of_ble_eq_true rfl, Nat.le_of_ble_eq_true rfl⟩) rfl dX4_breaksBeside_5 ⟨Nat.zero_le _, Nat.zero_le _⟩ (by omega) CE_1 (fun r5 E1 H locs hq hP hS => ?_)
  obtain ⟨rfl, rfl⟩ := hq
  refine r_ifB_eq (tgt := 19) hx hb dX4_breaksBeside_8 (by decide) (fun c8 => ?_) (fun c8 => ?_)
  · refine r_const hx hb dX4_breaksBeside_19 ?_
    exact k_zret hx hb hr hlocks hP hS dX4_breaksBeside_20 (by omega) ⟨(bI_f (fun q => c8 q.1)).symm, τ, rfl, rfl⟩
  · obtain ⟨hN, _, _⟩ := Inv_w hI c8
    have hs := IN_s hI c8
    unfold IN at hN
    refine lv_iload_n hx hb dX4_breaksBeside_11 rfl (lv_at hl 1 rfl) ?_
    refine lv_aload_n hx hb dX4_breaksBeside_12 rfl (lv_at hl 2 rfl) ?_
    refine r_get (C := RX7) (T := TX7) (N := 16) (ci := 7) hx hb hts hi_X7 hown hK hP 0 rfl (by decide) lk_X4_92 (fun _ h9 => h9) dX4_breaksBeside_13 (by omega) (CE_w (by omega)) rfl ?_
    refine r_icmp_ne (tgt := 21) hx hb (by omega) (by omega) dX4_breaksBeside_16 (by decide) (fun c16 => ?_) (fun c16 => ?_)
    · refine lv_aload_n hx hb dX4_breaksBeside_21 rfl (lv_at hl 0 rfl) ?_
      refine r_get (C := RX4) (T := TX4) (N := 3) (ci := 4) hx hb hts hi_X4 hown hK hP 0 rfl (by decide) lk_X4_15 (fun _ h9 => h9) dX4_breaksBeside_22 (by omega) CE_5 rfl ?_
      refine r_get (C := RX5) (T := TX5) (N := 8) (ci := 5) hx hb hts hi_X5 hown hK hP 2 rfl (by decide) lk_X4_28 (fun _ h9 => h9) dX4_breaksBeside_25 (by omega) CE_1 rfl ?_
      refine lv_iload_n hx hb dX4_breaksBeside_28 rfl (lv_at hl 1 rfl) ?_
      refine r_aald hx hb hK hP 5 rfl dX4_breaksBeside_29 (by omega) rfl (by omega) (by omega) rfl ?_
      refine lv_astore_n hx hb dX4_breaksBeside_30 rfl hl (by decide) rfl (fun ls hl => ?_)
      replace hl : lv_has ls 4 [(0, _), (1, _), (2, _), (3, _)] := lv_sub hl [1, 2, 3, 0] rfl
      refine lv_aload_n hx hb dX4_breaksBeside_31 rfl (lv_at hl 3 rfl) ?_
      refine r_get (C := RX7) (T := TX7) (N := 16) (ci := 7) hx hb hts hi_X7 hown hK hP 10 rfl (by decide) lk_X4_32 (fun _ h9 => h9) dX4_breaksBeside_32 (by omega) (CE_w (by omega)) rfl ?_
      refine r_const hx hb dX4_breaksBeside_35 ?_
      refine r_icmp_eq (tgt := 41) hx hb (by omega) (by omega) dX4_breaksBeside_36 (by decide) (fun c36 => ?_) (fun c36 => ?_)
      · have hsx := hs.2.2.2.1 c36
        refine lv_aload_n hx hb dX4_breaksBeside_41 rfl (lv_at hl 0 rfl) ?_
        refine r_get (C := RX4) (T := TX4) (N := 3) (ci := 4) hx hb hts hi_X4 hown hK hP 1 rfl (by decide) lk_X4_19 (fun _ h9 => h9) dX4_breaksBeside_42 (by omega) CE_5 rfl ?_
        refine lv_aload_n hx hb dX4_breaksBeside_45 rfl (lv_at hl 3 rfl) ?_
        refine r_bipush hx hb dX4_breaksBeside_46 (by decide +kernel) ?_
        refine k_callvV (nL := 4) (C := RX3) (T := TX3) (N := 5) (ci := 3) hx hb hml hown hts hK hP hS hl.1 (c_X3_lookAt (les := False) hi hI c8 (Or.inl ⟨rfl, id⟩)) rfl (Nat.le_of_ble_eq_true rfl) rfl (cwV 2 hts (gV lm_X4_37 ti_X3_lookAt tl_X3_lookAt tn_X3 tc_X3_lookAt) rfl rfl rfl (by decide +kernel) ⟨Nat.le_of_ble_eq_true rfl, Nat.le_of_ble_eq_true rfl⟩) rfl dX4_breaksBeside_48 ⟨Nat.zero_le _, Nat.zero_le _⟩ (by omega) CE_4 (fun E1 H locs hq hP hS => ?_)
        obtain ⟨τ2, rfl, hG, hF1⟩ := hq
        refine lv_aload_n hx hb dX4_breaksBeside_51 rfl (lv_at hl 0 rfl) ?_
        refine r_get (C := RX4) (T := TX4) (N := 3) (ci := 4) hx hb hts hi_X4 hown hK hP 1 rfl (by decide) lk_X4_19 (fun _ h9 => h9) dX4_breaksBeside_52 (by omega) CE_5 rfl ?_
        refine lv_aload_n hx hb dX4_breaksBeside_55 rfl (lv_at hl 3 rfl) ?_
        refine lv_aload_n hx hb dX4_breaksBeside_56 rfl (lv_at hl 3 rfl) ?_
        refine r_get (C := RX7) (T := TX7) (N := 16) (ci := 7) hx hb hts hi_X7 hown hK hP 11 rfl (by decide) lk_X4_43 (fun _ h9 => h9) dX4_breaksBeside_57 (by omega) (CE_w (by omega)) rfl ?_
        refine r_const hx hb dX4_breaksBeside_60 ?_
        refine k_calliV (nL := 4) (C := RX3) (T := TX3) (N := 5) (ci := 3) hx hb hml hown hts hK hP hS hl.1 (c_X3_broken hi hI c8 (by omega) (by omega) (by omega) (by omega) hG) rfl (Nat.le_of_ble_eq_true rfl) rfl (cwV 3 hts (gV lm_X4_46 ti_X3_broken tl_X3_broken tn_X3 tc_X3_broken) rfl rfl rfl (by decide +kernel) ⟨Nat.le_of_ble_eq_true rfl, Nat.le_of_ble_eq_true rfl⟩) rfl dX4_breaksBeside_61 ⟨Nat.zero_le _, Nat.zero_le _⟩ (by omega) CE_4 (fun r61 E1 H locs hq hP hS => ?_)
        obtain ⟨hz, τ3, rfl, _, hF2⟩ := hq
        have hz2 : r61 = rul3 σ o (σ 20 o) False := by rw [hz, rulF, cif_f (by omega), cif_f (by omega)]
        have hrr := rul3_r (σ := σ) (w := o) (d := σ 20 o) (les := False)
        have hb5 : τ3 2 4 = τ 2 4 := by rw [hF2.2 4 (by decide) (by decide), hF1.2 4 (by decide)]
        refine r_if_eq (tgt := 71) hx hb (by omega) dX4_breaksBeside_64 (by decide) (fun c64 => ?_) (fun c64 => ?_)
        · refine r_const hx hb dX4_breaksBeside_71 ?_
          exact k_zret hx hb hr hlocks hP hS dX4_breaksBeside_72 (by omega) ⟨(bI_f (fun q => q.2.2.2 (by omega))).symm, τ3, rfl, hb5⟩
        · refine r_const hx hb dX4_breaksBeside_67 ?_
          refine lv_goto (tgt := 72) hx hb dX4_breaksBeside_68 (by decide) ?_
          exact k_zret hx hb hr hlocks hP hS dX4_breaksBeside_72 (by omega) ⟨(bI_t ⟨c8, c16, c36, by omega⟩).symm, τ3, rfl, hb5⟩
      · refine r_const hx hb dX4_breaksBeside_39 ?_
        exact k_zret hx hb hr hlocks hP hS dX4_breaksBeside_40 (by omega) ⟨(bI_f (fun q => c36 q.2.2.1)).symm, τ, rfl, rfl⟩
    · refine r_const hx hb dX4_breaksBeside_19 ?_
      exact k_zret hx hb hr hlocks hP hS dX4_breaksBeside_20 (by omega) ⟨(bI_f (fun q => q.2.1 c16)).symm, τ, rfl, rfl⟩
abbrev rmX4_keepsRules : Room := { frames := 4, cells := 0, slots := 0, locals := 111 }
set_option maxRecDepth 100000 in
set_option maxHeartbeats 4000000 in
theorem c_X4_keepsRules {l : Launch} {D : va_G} {G : Nat → ClassId} {ad : Nat → Nat} {σ τ : Tb} (hi : kInj 189 ad) {w d : Int} (hI : Inv σ) (hw : 0 ≤ w ∧ w < σ 0 2) (h12 : σ 12 w ≠ 2) (hd : 0 ≤ d ∧ d ≤ 399) : Met l yX4_keepsRules wsX4_keepsRules rmX4_keepsRules (kPc D (tysG G) 189 ad (CE G ad σ τ) [.ref (ad 5), .ref (ad (69 + w.toNat)), .int (iI d)]) (kQi D 189 ad (fun z E' => z = bI (rul1 σ w d False = 0) ∧ ∃ τ', E' = CE G ad σ τ' ∧ τ' 2 4 = τ 2 4)) 0 0 (kA 189 ad) := by
  refine k_met (cc := cX4_keepsRules) (maxL := 3) (ret := (some .boolean)) (by decide) (Nat.le_of_ble_eq_true rfl) ?_
  intro P0 e0 s m0 below meth c0 ls hx hb hr hlocks hml hown hts hK hP hS hl
  replace hl : lv_has ls 3 [(0, _), (1, _), (2, _)] := hl
  replace hown : s.vm.findClass RX4 = some m0.cls := hown
  refine k_abs (fun Wg hWg => ?_)
  have h0 := Inv_0 hI
  refine lv_aload_n hx hb dX4_keepsRules_0 rfl (lv_at hl 0 rfl) ?_
  refine r_get (C := RX4) (T := TX4) (N := 3) (ci := 4) hx hb hts hi_X4 hown hK hP 1 rfl (by decide) lk_X4_19 (fun _ h9 => h9) dX4_keepsRules_1 (by omega) CE_5 rfl ?_
  refine lv_aload_n hx hb dX4_keepsRules_4 rfl (lv_at hl 1 rfl) ?_
  refine r_bipush hx hb dX4_keepsRules_5 (by decide +kernel) ?_
  refine k_callvV (nL := 3) (C := RX3) (T := TX3) (N := 5) (ci := 3) hx hb hml hown hts hK hP hS hl.1 (c_X3_lookAt (les := False) hi hI hw (Or.inl ⟨rfl, id⟩)) rfl (Nat.le_of_ble_eq_true rfl) rfl (cwV 2 hts (gV lm_X4_37 ti_X3_lookAt tl_X3_lookAt tn_X3 tc_X3_lookAt) rfl rfl rfl (by decide +kernel) ⟨Nat.le_of_ble_eq_true rfl, Nat.le_of_ble_eq_true rfl⟩) rfl dX4_keepsRules_7 ⟨Nat.zero_le _, Nat.zero_le _⟩ (by omega) CE_4 (fun E1 H locs hq hP hS => ?_)
  obtain ⟨τ2, rfl, hG, hF1⟩ := hq
  refine lv_aload_n hx hb dX4_keepsRules_10 rfl (lv_at hl 0 rfl) ?_
  refine r_get (C := RX4) (T := TX4) (N := 3) (ci := 4) hx hb hts hi_X4 hown hK hP 1 rfl (by decide) lk_X4_19 (fun _ h9 => h9) dX4_keepsRules_11 (by omega) CE_5 rfl ?_
  refine lv_aload_n hx hb dX4_keepsRules_14 rfl (lv_at hl 1 rfl) ?_
  refine lv_iload_n hx hb dX4_keepsRules_15 rfl (lv_at hl 2 rfl) ?_
  refine r_const hx hb dX4_keepsRules_16 ?_
  refine k_calliV (nL := 3) (C := RX3) (T := TX3) (N := 5) (ci := 3) hx hb hml hown hts hK hP hS hl.1 (c_X3_broken hi hI hw (by omega) (by omega) (by omega) (by omega) hG) rfl (Nat.le_of_ble_eq_true rfl) rfl (cwV 3 hts (gV lm_X4_46 ti_X3_broken tl_X3_broken tn_X3 tc_X3_broken) rfl rfl rfl (by decide +kernel) ⟨Nat.le_of_ble_eq_true rfl, Nat.le_of_ble_eq_true rfl⟩) rfl dX4_keepsRules_17 ⟨Nat.zero_le _, Nat.zero_le _⟩ (by omega) CE_4 (fun r17 E1 H locs hq hP hS => ?_)
  obtain ⟨hz, τ3, rfl, _, hF2⟩ := hq
  have hz2 : r17 = rul1 σ w d False := by rw [hz, rulF, cif_t (by omega)]
  have hb5 : τ3 2 4 = τ 2 4 := by rw [hF2.2 4 (by decide) (by decide), hF1.2 4 (by decide)]
  have hrr := rul3_r (σ := σ) (w := w) (d := d) (les := False)
  have hrg : -2147483648 ≤ r17 ∧ r17 < 2147483648 := by
    rw [hz2, rul1, rul2]
    by_cases q : d < σ 0 3 + ntc σ w
    · rw [cif_t q]; omega
    · rw [cif_f q]
      by_cases q2 : 399 < d + σ 14 w - 1
      · rw [cif_t q2]; omega
      · rw [cif_f q2]; omega
  refine r_if_ne (tgt := 27) hx hb (by omega) dX4_keepsRules_20 (by decide) (fun c20 => ?_) (fun c20 => ?_)
  · refine r_const hx hb dX4_keepsRules_27 ?_
    exact k_zret hx hb hr hlocks hP hS dX4_keepsRules_28 (by omega) ⟨(bI_f (fun q => c20 (by rw [hz2]; exact q))).symm, τ3, rfl, hb5⟩
  · refine r_const hx hb dX4_keepsRules_23 ?_
    refine lv_goto (tgt := 28) hx hb dX4_keepsRules_24 (by decide) ?_
    exact k_zret hx hb hr hlocks hP hS dX4_keepsRules_28 (by omega) ⟨(bI_t (by omega)).symm, τ3, rfl, hb5⟩
abbrev rmX4_fits : Room := { frames := 5, cells := 0, slots := 0, locals := 134 }
set_option maxRecDepth 100000 in
set_option maxHeartbeats 4000000 in
theorem c_X4_fits {l : Launch} {D : va_G} {G : Nat → ClassId} {ad : Nat → Nat} {σ τ : Tb} (hi : kInj 189 ad) {w d : Int} (hI : Inv σ) (hw : 0 ≤ w ∧ w < σ 0 2) (h1 : σ 19 w = 1) (hd : σ 0 3 ≤ d ∧ d < σ 20 w) (hT : TI τ) : Met l yX4_fits wsX4_fits rmX4_fits (kPc D (tysG G) 189 ad (CE G ad σ τ) [.ref (ad 5), .ref (ad (69 + w.toNat)), .int (iI d)]) (kQi D 189 ad (fun z E' => z = bI (okB σ w d) ∧ ∃ τ', E' = CE G ad σ τ' ∧ TI τ')) 0 0 (kA 189 ad) := by
  refine k_met (cc := cX4_fits) (maxL := 6) (ret := (some .boolean)) (by decide) (Nat.le_of_ble_eq_true rfl) ?_
  intro P0 e0 s m0 below meth c0 ls hx hb hr hlocks hml hown hts hK hP hS hl
  replace hl : lv_has ls 6 [(0, _), (1, _), (2, _)] := hl
  replace hown : s.vm.findClass RX4 = some m0.cls := hown
  refine k_abs (fun Wg hWg => ?_)
  have h0 := Inv_0 hI
  obtain ⟨hN, _, _⟩ := Inv_w hI hw
  have hsx := (IN_s hI hw).2.2.2.1 h1
  unfold IN at hN
  unfold TI at hT
  have hI2 := plB_Inv (d := d) hI hw h1 hd.1 (by omega)
  have e02 : plB σ w d 0 2 = σ 0 2 := plB_t (by decide) (by decide)
  have e14 : plB σ w d 14 w = σ 14 w := plB_t (by decide) (by decide)
  have e12 : plB σ w d 12 w = σ 12 w := plB_t (by decide) (by decide)
  have hw2 : 0 ≤ w ∧ w < plB σ w d 0 2 := by rw [e02]; exact hw
  have hbk : plB σ w d = up (up σ 20 w d) 21 w (lstF σ w d) := rfl
  have hlf : lstF σ w (σ 20 w) = σ 21 w := by unfold lstF; split <;> omega
  refine lv_aload_n hx hb dX4_fits_0 rfl (lv_at hl 1 rfl) ?_
  refine r_get (C := RX7) (T := TX7) (N := 16) (ci := 7) hx hb hts hi_X7 hown hK hP 11 rfl (by decide) lk_X4_43 (fun _ h9 => h9) dX4_fits_1 (by omega) (CE_w (by omega)) rfl ?_
  refine lv_istore_n hx hb dX4_fits_4 rfl hl (by decide) rfl (fun ls hl => ?_)
  replace hl : lv_has ls 6 [(0, _), (1, _), (2, _), (3, _)] := lv_sub hl [1, 2, 3, 0] rfl
  refine lv_aload_n hx hb dX4_fits_5 rfl (lv_at hl 1 rfl) ?_
  refine lv_iload_n hx hb dX4_fits_6 rfl (lv_at hl 2 rfl) ?_
  refine k_callvV (nL := 6) (C := RX7) (T := TX7) (N := 16) (ci := 7) hx hb hml hown hts hK hP hS hl.1 (c_X7_placeAt hi (by omega) (by omega) (by omega)) rfl (Nat.le_of_ble_eq_true rfl) rfl (cwV 1 hts (gV lm_X4_54 ti_X7_placeAt tl_X7_placeAt tn_X7 tc_X7_placeAt) rfl rfl rfl (by decide +kernel) ⟨Nat.le_of_ble_eq_true rfl, Nat.le_of_ble_eq_true rfl⟩) rfl dX4_fits_7 ⟨Nat.zero_le _, Nat.zero_le _⟩ (by omega) (CE_w (by omega)) (fun E1 H locs hq hP hS => ?_)
  subst hq
  rw [← hbk] at hP
  refine lv_aload_n hx hb dX4_fits_10 rfl (lv_at hl 0 rfl) ?_
  refine lv_aload_n hx hb dX4_fits_11 rfl (lv_at hl 0 rfl) ?_
  refine r_get (C := RX4) (T := TX4) (N := 3) (ci := 4) hx hb hts hi_X4 hown hK hP 2 rfl (by decide) lk_X4_11 (fun _ h9 => h9) dX4_fits_12 (by omega) CE_5 rfl ?_
  refine lv_aload_n hx hb dX4_fits_15 rfl (lv_at hl 1 rfl) ?_
  refine k_calliV (nL := 6) (C := RX4) (T := TX4) (N := 3) (ci := 4) hx hb hml hown hts hK hP hS hl.1 (c_X4_breaksBeside hi hI2 hw2 (by omega)) rfl (Nat.le_of_ble_eq_true rfl) rfl (cwV 2 hts (gV lm_X4_81 ti_X4_breaksBeside tl_X4_breaksBeside tn_X4 tc_X4_breaksBeside) rfl rfl rfl (by decide +kernel) ⟨Nat.le_of_ble_eq_true rfl, Nat.le_of_ble_eq_true rfl⟩) rfl dX4_fits_16 ⟨Nat.zero_le _, Nat.zero_le _⟩ (by omega) CE_5 (fun r16 E1 H locs hq hP hS => ?_)
  obtain ⟨rfl, τ4, rfl, hb6⟩ := hq
  have join58 : ∀ (f : Int) (τ8 : Tb) (H : Heap) (locs : List Loc) (ls : Array Slot), va_P D vwCl (kw 189 ad (CE G ad (plB σ w d) τ8)) H → va_S (kA 189 ad) s.heap H locs → lv_has ls 6 [(0, .ref (ad 5)), (1, .ref (ad (69 + w.toNat))), (2, .int (iI d)), (3, .int (iI (σ 20 w)))] → (((f = 0 ∨ f = 1) ∧ (f = 0 → ¬ okB σ w d) ∧ (f = 1 → rul1 σ w d False = 0)) ∧ TI τ8) → Wg H locs (F0 m0 58 ls [.int (iI f)]) := by
    intro f τ8 H locs ls hP hS hl hv58
    rw [hWg]
    obtain ⟨⟨hvf, hvk, hvr⟩, hT8⟩ := hv58
    refine lv_istore hx hb dX4_fits_58 hl (by decide) rfl (fun ls hl => ?_)
    replace hl : lv_has ls 6 [(0, _), (1, _), (2, _), (3, _), (4, _)] := lv_sub hl [1, 2, 3, 4, 0] rfl
    refine r_const hx hb dX4_fits_60 ?_
    refine lv_istore hx hb dX4_fits_61 hl (by decide) rfl (fun ls hl => ?_)
    replace hl : lv_has ls 6 [(0, _), (1, _), (2, _), (3, _), (4, _), (5, _)] := lv_sub hl [1, 2, 3, 4, 5, 0] rfl
    have loop63 : ∀ (nn : Nat) (f i : Int) (τ5 : Tb) (H : Heap) (locs : List Loc) (ls : Array Slot), va_P D vwCl (kw 189 ad (CE G ad (plB σ w d) τ5)) H → va_S (kA 189 ad) s.heap H locs → lv_has ls 6 [(0, .ref (ad 5)), (1, .ref (ad (69 + w.toNat))), (2, .int (iI d)), (3, .int (iI (σ 20 w))), (4, .int (iI f)), (5, .int (iI i))] → (((0 ≤ i ∧ i ≤ σ 0 2) ∧ (f = 0 ∨ f = 1)) ∧ (f = 0 → ¬ okB σ w d) ∧ (f = 1 → rul1 σ w d False = 0) ∧ (f = 1 → ∀ o, 0 ≤ o → o < i → ¬ bkP (plB σ w d) w o) ∧ TI τ5) → (σ 0 2 - i).toNat < nn → Wg H locs (F0 m0 63 ls []) := by
      intro nn
      induction nn with
      | zero => intro f i τ5 H locs ls _ _ _ _ hn; omega
      | succ nn ih63 =>
        intro f i τ5 H locs ls hP hS hl hv63 hn63
        rw [hWg]
        obtain ⟨hv, hf0, hfr, hf1, hT5⟩ := hv63
        have join108 : ∀  (H : Heap) (locs : List Loc) (ls : Array Slot), va_P D vwCl (kw 189 ad (CE G ad (plB σ w d) τ5)) H → va_S (kA 189 ad) s.heap H locs → lv_has ls 6 [(0, .ref (ad 5)), (1, .ref (ad (69 + w.toNat))), (2, .int (iI d)), (3, .int (iI (σ 20 w))), (4, .int (iI f))] → ((f = 1 → ∀ o, 0 ≤ o → o < σ 0 2 → ¬ bkP (plB σ w d) w o)) → Wg H locs (F0 m0 108 ls []) := by
          intro  H locs ls hP hS hl hv108
          rw [hWg]
          refine lv_aload_n hx hb dX4_fits_108 rfl (lv_at hl 1 rfl) ?_
          refine lv_iload_n hx hb dX4_fits_109 rfl (lv_at hl 3 rfl) ?_
          refine k_callvV (nL := 6) (C := RX7) (T := TX7) (N := 16) (ci := 7) hx hb hml hown hts hK hP hS hl.1 (c_X7_placeAt hi (by omega) (by omega) (by omega)) rfl (Nat.le_of_ble_eq_true rfl) rfl (cwV 1 hts (gV lm_X4_54 ti_X7_placeAt tl_X7_placeAt tn_X7 tc_X7_placeAt) rfl rfl rfl (by decide +kernel) ⟨Nat.le_of_ble_eq_true rfl, Nat.le_of_ble_eq_true rfl⟩) rfl dX4_fits_110 ⟨Nat.zero_le _, Nat.zero_le _⟩ (by omega) (CE_w (by omega)) (fun E1 H locs hq hP hS => ?_)
          subst hq
          rw [plB_back hlf.symm] at hP
          refine lv_iload hx hb dX4_fits_113 (lv_at hl 4 rfl) ?_
          exact k_zret hx hb hr hlocks hP hS dX4_fits_115 (by omega) ⟨by rcases hv.2 with q | q; { rw [q, bI_f]; exact hf0 q }; { rw [q, bI_t]; exact ⟨hfr q, hv108 q⟩ }, τ5, rfl, hT5⟩
        refine lv_iload hx hb dX4_fits_63 (lv_at hl 5 rfl) ?_
        refine lv_aload_n hx hb dX4_fits_65 rfl (lv_at hl 0 rfl) ?_
        refine r_get (C := RX4) (T := TX4) (N := 3) (ci := 4) hx hb hts hi_X4 hown hK hP 0 rfl (by decide) lk_X4_15 (fun _ h9 => h9) dX4_fits_66 (by omega) CE_5 rfl ?_
        refine r_get (C := RX5) (T := TX5) (N := 8) (ci := 5) hx hb hts hi_X5 hown hK hP 6 rfl (by decide) lk_X4_23 (fun _ h9 => h9) dX4_fits_69 (by omega) CE_1 rfl ?_
        rw [e02]
        refine r_icmp_ge (tgt := 108) hx hb (by omega) (by omega) dX4_fits_72 (by decide) (fun c72 => ?_) (fun c72 => ?_)
        · rw [← hWg]
          exact join108  _ _ _ hP hS (lv_sub hl [0, 1, 2, 3, 4] rfl) (fun q o o1 o2 => hf1 q o o1 (by omega))
        · refine lv_iload hx hb dX4_fits_75 (lv_at hl 4 rfl) ?_
          refine r_if_eq (tgt := 108) hx hb (by omega) dX4_fits_77 (by decide) (fun c77 => ?_) (fun c77 => ?_)
          · rw [← hWg]
            exact join108  _ _ _ hP hS (lv_sub hl [0, 1, 2, 3, 4] rfl) (fun q => by omega)
          · unfold TI at hT5
            refine lv_aload_n hx hb dX4_fits_80 rfl (lv_at hl 0 rfl) ?_
            refine lv_iload hx hb dX4_fits_81 (lv_at hl 5 rfl) ?_
            refine lv_aload_n hx hb dX4_fits_83 rfl (lv_at hl 1 rfl) ?_
            refine k_calliV (nL := 6) (C := RX4) (T := TX4) (N := 3) (ci := 4) hx hb hml hown hts hK hP hS hl.1 (c_X4_breaksBeside (o := i) hi hI2 hw2 (by omega)) rfl (Nat.le_of_ble_eq_true rfl) rfl (cwV 2 hts (gV lm_X4_81 ti_X4_breaksBeside tl_X4_breaksBeside tn_X4 tc_X4_breaksBeside) rfl rfl rfl (by decide +kernel) ⟨Nat.le_of_ble_eq_true rfl, Nat.le_of_ble_eq_true rfl⟩) rfl dX4_fits_84 ⟨Nat.zero_le _, Nat.zero_le _⟩ (by omega) CE_5 (fun r84 E1 H locs hq hP hS => ?_)
            obtain ⟨rfl, τ6, rfl, hb7⟩ := hq
            rw [e02]
            have join102 : ∀ (f' : Int) (τ7 : Tb) (H : Heap) (locs : List Loc) (ls : Array Slot), va_P D vwCl (kw 189 ad (CE G ad (plB σ w d) τ7)) H → va_S (kA 189 ad) s.heap H locs → lv_has ls 6 [(0, .ref (ad 5)), (1, .ref (ad (69 + w.toNat))), (2, .int (iI d)), (3, .int (iI (σ 20 w))), (4, .int (iI f')), (5, .int (iI i))] → ((f' = 0 ∨ f' = 1) ∧ (f' = 0 → ¬ okB σ w d) ∧ (f' = 1 → rul1 σ w d False = 0) ∧ (f' = 1 → ∀ o, 0 ≤ o → o < i + 1 → ¬ bkP (plB σ w d) w o) ∧ TI τ7) → Wg H locs (F0 m0 102 ls []) := by
              intro f' τ7 H locs ls hP hS hl hv102
              rw [hWg]
              refine r_iinc hx hb dX4_fits_102 hl (k := 5) rfl (by decide) (fun ls hl => ?_)
              replace hl : lv_has ls 6 [(0, _), (1, _), (2, _), (3, _), (4, _), (5, _)] := lv_sub hl [1, 2, 3, 4, 5, 0] rfl
              refine lv_goto (tgt := 63) hx hb dX4_fits_105 (by decide) ?_
              rw [← hWg]
              exact ih63 f' (i + 1) _ _ _ _ hP hS hl ⟨by omega, hv102.2.1, hv102.2.2.1, hv102.2.2.2.1, hv102.2.2.2.2⟩ (by omega)
            refine r_ifB_ne (tgt := 93) hx hb dX4_fits_87 (by decide) (fun c87 => ?_) (fun c87 => ?_)
            · refine lv_aload_n hx hb dX4_fits_93 rfl (lv_at hl 0 rfl) ?_
              refine lv_iload hx hb dX4_fits_94 (lv_at hl 5 rfl) ?_
              refine r_put (C := RX4) (T := TX4) (N := 3) (ci := 4) hx hb hi hts hi_X4 tyX4 tyX4_ok nmX4 hown hK hP hS 2 rfl (by decide) lk_X4_11 (fun _ h9 => h9) rfl (ty := .int) (by decide +kernel) rfl rfl dX4_fits_96 (by omega) CE_5 (Nat.le_of_ble_eq_true rfl) cu_breaker (fun H locs hP hS => ?_)
              refine r_const hx hb dX4_fits_99 ?_
              refine lv_istore hx hb dX4_fits_100 hl (by decide) rfl (fun ls hl => ?_)
              replace hl : lv_has ls 6 [(0, _), (1, _), (2, _), (3, _), (4, _), (5, _)] := lv_sub hl [1, 2, 3, 4, 0, 5] rfl
              rw [← hWg]
              exact join102 0 _ _ _ _ hP hS hl ⟨by omega, fun _ z => z.2 i c87.1.1 c87.1.2 c87.2, fun q => by omega, fun q => by omega, by unfold TI; rw [up_self]; omega⟩
            · refine lv_goto (tgt := 102) hx hb dX4_fits_90 (by decide) ?_
              have hno : ∀ o, 0 ≤ o → o < i + 1 → ¬ bkP (plB σ w d) w o := by
                intro o o1 o2 q
                rcases (show o < i ∨ o = i by omega) with y | y
                · exact hf1 (by omega) o o1 y q
                · rw [y] at q; exact c87 ⟨by omega, q⟩
              rw [← hWg]
              exact join102 f _ _ _ _ hP hS hl ⟨by omega, hf0, hfr, fun _ => hno, by unfold TI; omega⟩
    rw [← hWg]
    exact loop63 _ f 0 _ _ _ _ hP hS hl ⟨by omega, hvk, hvr, fun _ o o1 o2 => by omega, hT8⟩ (Nat.lt_succ_self _)
  rw [e02]
  refine r_ifB_ne (tgt := 26) hx hb dX4_fits_19 (by decide) (fun c19 => ?_) (fun c19 => ?_)
  · refine r_const hx hb dX4_fits_26 ?_
    refine lv_istore hx hb dX4_fits_27 hl (by decide) rfl (fun ls hl => ?_)
    replace hl : lv_has ls 6 [(0, _), (1, _), (2, _), (3, _), (4, _)] := lv_sub hl [1, 2, 3, 4, 0] rfl
    refine lv_iload hx hb dX4_fits_29 (lv_at hl 4 rfl) ?_
    refine r_if_eq (tgt := 39) hx hb (by omega) dX4_fits_31 (by decide) (fun c31 => ?_) (fun c31 => ?_)
    · refine lv_iload hx hb dX4_fits_39 (lv_at hl 4 rfl) ?_
      refine r_if_eq (tgt := 57) hx hb (by omega) dX4_fits_41 (by decide) (fun c41 => ?_) (fun c41 => ?_)
      · refine r_const hx hb dX4_fits_57 ?_
        rw [← hWg]
        exact join58 0 _ _ _ _ hP hS (lv_sub hl [0, 1, 2, 3] rfl) ⟨⟨Or.inl rfl, fun _ z => z.2 _ c19.1.1 c19.1.2 c19.2, fun q => by omega⟩, by unfold TI; omega⟩
      · exfalso; omega
    · exfalso; omega
  · refine r_const hx hb dX4_fits_22 ?_
    refine lv_goto (tgt := 27) hx hb dX4_fits_23 (by decide) ?_
    refine lv_istore hx hb dX4_fits_27 hl (by decide) rfl (fun ls hl => ?_)
    replace hl : lv_has ls 6 [(0, _), (1, _), (2, _), (3, _), (4, _)] := lv_sub hl [1, 2, 3, 4, 0] rfl
    refine lv_iload hx hb dX4_fits_29 (lv_at hl 4 rfl) ?_
    refine r_if_eq (tgt := 39) hx hb (by omega) dX4_fits_31 (by decide) (fun c31 => ?_) (fun c31 => ?_)
    · exfalso; omega
    · refine lv_aload_n hx hb dX4_fits_34 rfl (lv_at hl 0 rfl) ?_
      refine r_const hx hb dX4_fits_35 ?_
      refine r_put (C := RX4) (T := TX4) (N := 3) (ci := 4) hx hb hi hts hi_X4 tyX4 tyX4_ok nmX4 hown hK hP hS 2 rfl (by decide) lk_X4_11 (fun _ h9 => h9) rfl (ty := .int) (by decide +kernel) rfl rfl dX4_fits_36 (by omega) CE_5 (Nat.le_of_ble_eq_true rfl) cu_breaker (fun H locs hP hS => ?_)
      refine lv_iload hx hb dX4_fits_39 (lv_at hl 4 rfl) ?_
      refine r_if_eq (tgt := 57) hx hb (by omega) dX4_fits_41 (by decide) (fun c41 => ?_) (fun c41 => ?_)
      · exfalso; omega
      · refine lv_aload_n hx hb dX4_fits_44 rfl (lv_at hl 0 rfl) ?_
        refine lv_aload_n hx hb dX4_fits_45 rfl (lv_at hl 1 rfl) ?_
        refine lv_iload_n hx hb dX4_fits_46 rfl (lv_at hl 2 rfl) ?_
        refine k_calliV (nL := 6) (C := RX4) (T := TX4) (N := 3) (ci := 4) hx hb hml hown hts hK hP hS hl.1 (c_X4_keepsRules hi hI2 hw2 (by rw [e12]; omega) (by omega)) rfl (Nat.le_of_ble_eq_true rfl) rfl (cwV 2 hts (gV lm_X4_85 ti_X4_keepsRules tl_X4_keepsRules tn_X4 tc_X4_keepsRules) rfl rfl rfl (by decide +kernel) ⟨Nat.le_of_ble_eq_true rfl, Nat.le_of_ble_eq_true rfl⟩) rfl dX4_fits_47 ⟨Nat.zero_le _, Nat.zero_le _⟩ (by omega) CE_5 (fun r47 E1 H locs hq hP hS => ?_)
        obtain ⟨rfl, τ9, rfl, hb9⟩ := hq
        rw [rul1_pl]
        refine r_ifB_eq (tgt := 57) hx hb dX4_fits_50 (by decide) (fun c50 => ?_) (fun c50 => ?_)
        · refine r_const hx hb dX4_fits_57 ?_
          rw [← hWg]
          exact join58 0 _ _ _ _ hP hS (lv_sub hl [0, 1, 2, 3] rfl) ⟨⟨Or.inl rfl, fun _ z => c50 z.1, fun q => by omega⟩, by unfold TI; rw [hb9, up_self]; omega⟩
        · refine r_const hx hb dX4_fits_53 ?_
          refine lv_goto (tgt := 58) hx hb dX4_fits_54 (by decide) ?_
          rw [← hWg]
          exact join58 1 _ _ _ _ hP hS (lv_sub hl [0, 1, 2, 3] rfl) ⟨⟨Or.inr rfl, fun q => by omega, fun _ => c50⟩, by unfold TI; rw [hb9, up_self]; omega⟩
abbrev rmX4_betterOne : Room := { frames := 6, cells := 0, slots := 0, locals := 159 }
set_option maxRecDepth 100000 in
set_option maxHeartbeats 4000000 in
theorem c_X4_betterOne {l : Launch} {D : va_G} {G : Nat → ClassId} {ad : Nat → Nat} {σ τ : Tb} (hi : kInj 189 ad) (hI : Inv σ) (hT : TI τ) : Met l yX4_betterOne wsX4_betterOne rmX4_betterOne (kPc D (tysG G) 189 ad (CE G ad σ τ) [.ref (ad 5)]) (kQi D 189 ad (fun z E' => z = bI (ex2 (betP σ)) ∧ ∃ τ', E' = CE G ad (bet1 σ) τ' ∧ TI τ')) 0 0 (kA 189 ad) := by
  refine k_met (cc := cX4_betterOne) (maxL := 4) (ret := (some .boolean)) (by decide) (Nat.le_of_ble_eq_true rfl) ?_
  intro P0 e0 s m0 below meth c0 ls hx hb hr hlocks hml hown hts hK hP hS hl
  replace hl : lv_has ls 4 [(0, _)] := hl
  replace hown : s.vm.findClass RX4 = some m0.cls := hown
  refine k_abs (fun Wg hWg => ?_)
  have h0 := Inv_0 hI
  refine r_const hx hb dX4_betterOne_0 ?_
  refine lv_istore_n hx hb dX4_betterOne_1 rfl hl (by decide) rfl (fun ls hl => ?_)
  replace hl : lv_has ls 4 [(0, _), (1, _)] := lv_sub hl [1, 0] rfl
  have loop2 : ∀ (nn : Nat) (i : Int) (τ1 : Tb) (H : Heap) (locs : List Loc) (ls : Array Slot), va_P D vwCl (kw 189 ad (CE G ad σ τ1)) H → va_S (kA 189 ad) s.heap H locs → lv_has ls 4 [(0, .ref (ad 5)), (1, .int (iI i))] → ((0 ≤ i ∧ i ≤ σ 0 2) ∧ (∀ w d, w < i → ¬ betP σ w d) ∧ TI τ1) → (σ 0 2 - i).toNat < nn → Wg H locs (F0 m0 2 ls []) := by
    intro nn
    induction nn with
    | zero => intro i τ1 H locs ls _ _ _ _ hn; omega
    | succ nn ih2 =>
      intro i τ1 H locs ls hP hS hl hv2 hn2
      rw [hWg]
      obtain ⟨hv, hno, hT1⟩ := hv2
      refine lv_iload_n hx hb dX4_betterOne_2 rfl (lv_at hl 1 rfl) ?_
      refine lv_aload_n hx hb dX4_betterOne_3 rfl (lv_at hl 0 rfl) ?_
      refine r_get (C := RX4) (T := TX4) (N := 3) (ci := 4) hx hb hts hi_X4 hown hK hP 0 rfl (by decide) lk_X4_15 (fun _ h9 => h9) dX4_betterOne_4 (by omega) CE_5 rfl ?_
      refine r_get (C := RX5) (T := TX5) (N := 8) (ci := 5) hx hb hts hi_X5 hown hK hP 6 rfl (by decide) lk_X4_23 (fun _ h9 => h9) dX4_betterOne_7 (by omega) CE_1 rfl ?_
      refine r_icmp_ge (tgt := 97) hx hb (by omega) (by omega) dX4_betterOne_10 (by decide) (fun c10 => ?_) (fun c10 => ?_)
      · have hn : ¬ ex2 (betP σ) := fun ⟨w, d, q⟩ => hno w d (by have := q.1; omega) q
        refine r_const hx hb dX4_betterOne_97 ?_
        exact k_zret hx hb hr hlocks hP hS dX4_betterOne_98 (by omega) ⟨(bI_f hn).symm, τ1, by rw [bet1, cif_f hn], hT1⟩
      · have hwi : 0 ≤ i ∧ i < σ 0 2 := by omega
        obtain ⟨hN, _, _⟩ := Inv_w hI hwi
        have hs := IN_s hI hwi
        have hB := IN_b hI hwi
        unfold IN at hN
        have join91 : ∀ (τ2 : Tb) (H : Heap) (locs : List Loc) (ls : Array Slot), va_P D vwCl (kw 189 ad (CE G ad σ τ2)) H → va_S (kA 189 ad) s.heap H locs → lv_has ls 4 [(0, .ref (ad 5)), (1, .int (iI i))] → ((∀ d, ¬ betP σ i d) ∧ TI τ2) → Wg H locs (F0 m0 91 ls []) := by
          intro τ2 H locs ls hP hS hl hv91
          rw [hWg]
          have hno3 : ∀ w d, w < i + 1 → ¬ betP σ w d := by
            intro w d q
            rcases (show w < i ∨ w = i by omega) with y | y
            · exact hno w d y
            · rw [y]; exact hv91.1 d
          refine r_iinc hx hb dX4_betterOne_91 hl (k := 1) rfl (by decide) (fun ls hl => ?_)
          replace hl : lv_has ls 4 [(0, _), (1, _)] := lv_sub hl [1, 0] rfl
          refine lv_goto (tgt := 2) hx hb dX4_betterOne_94 (by decide) ?_
          rw [← hWg]
          exact ih2 (i + 1) _ _ _ _ hP hS hl ⟨by omega, hno3, hv91.2⟩ (by omega)
        refine lv_aload_n hx hb dX4_betterOne_13 rfl (lv_at hl 0 rfl) ?_
        refine r_get (C := RX4) (T := TX4) (N := 3) (ci := 4) hx hb hts hi_X4 hown hK hP 0 rfl (by decide) lk_X4_15 (fun _ h9 => h9) dX4_betterOne_14 (by omega) CE_5 rfl ?_
        refine r_get (C := RX5) (T := TX5) (N := 8) (ci := 5) hx hb hts hi_X5 hown hK hP 2 rfl (by decide) lk_X4_28 (fun _ h9 => h9) dX4_betterOne_17 (by omega) CE_1 rfl ?_
        refine lv_iload_n hx hb dX4_betterOne_20 rfl (lv_at hl 1 rfl) ?_
        refine r_aald hx hb hK hP 5 rfl dX4_betterOne_21 (by omega) rfl (by omega) (by omega) rfl ?_
        refine lv_astore_n hx hb dX4_betterOne_22 rfl hl (by decide) rfl (fun ls hl => ?_)
        replace hl : lv_has ls 4 [(0, _), (1, _), (2, _)] := lv_sub hl [1, 2, 0] rfl
        refine lv_aload_n hx hb dX4_betterOne_23 rfl (lv_at hl 2 rfl) ?_
        refine r_get (C := RX7) (T := TX7) (N := 16) (ci := 7) hx hb hts hi_X7 hown hK hP 10 rfl (by decide) lk_X4_32 (fun _ h9 => h9) dX4_betterOne_24 (by omega) (CE_w (by omega)) rfl ?_
        refine r_const hx hb dX4_betterOne_27 ?_
        refine r_icmp_ne (tgt := 91) hx hb (by omega) (by omega) dX4_betterOne_28 (by decide) (fun c28 => ?_) (fun c28 => ?_)
        · rw [← hWg]
          exact join91 _ _ _ _ hP hS (lv_sub hl [0, 1] rfl) ⟨fun d q => c28 q.2.1, hT1⟩
        · have hsx := hs.2.2.2.1 c28
          refine lv_aload_n hx hb dX4_betterOne_31 rfl (lv_at hl 2 rfl) ?_
          refine k_calliV (nL := 4) (C := RX7) (T := TX7) (N := 16) (ci := 7) hx hb hml hown hts hK hP hS hl.1 (c_X7_delay hi (by omega) (by omega) (by omega)) rfl (Nat.le_of_ble_eq_true rfl) rfl (cwV 0 hts (gV lm_X4_64 ti_X7_delay tl_X7_delay tn_X7 tc_X7_delay) rfl rfl rfl (by decide +kernel) ⟨Nat.le_of_ble_eq_true rfl, Nat.le_of_ble_eq_true rfl⟩) rfl dX4_betterOne_32 ⟨Nat.zero_le _, Nat.zero_le _⟩ (by omega) (CE_w (by omega)) (fun r32 E1 H locs hq hP hS => ?_)
          obtain ⟨rfl, rfl⟩ := hq
          have hdl : (σ 16 i < σ 20 i ∧ (1 ≤ dlyC σ i ∧ dlyC σ i ≤ 1600)) ∨ (¬ σ 16 i < σ 20 i ∧ dlyC σ i = 0) := by
            unfold dlyC
            by_cases q : σ 16 i < σ 20 i
            · rw [cif_t q]
              left
              have a1 := mulb (a := σ 20 i - σ 16 i) (b := σ 13 i) (A := 399) (B := 4) (by omega) (by omega)
              have a2 := Int.mul_le_mul (show 1 ≤ σ 20 i - σ 16 i by omega) (show 1 ≤ σ 13 i by omega) (by omega) (by omega)
              omega
            · rw [cif_f q]
              exact Or.inr ⟨q, rfl⟩
          refine r_if_ne (tgt := 41) hx hb (by omega) dX4_betterOne_35 (by decide) (fun c35 => ?_) (fun c35 => ?_)
          · refine lv_aload_n hx hb dX4_betterOne_41 rfl (lv_at hl 0 rfl) ?_
            refine r_get (C := RX4) (T := TX4) (N := 3) (ci := 4) hx hb hts hi_X4 hown hK hP 0 rfl (by decide) lk_X4_15 (fun _ h9 => h9) dX4_betterOne_42 (by omega) CE_5 rfl ?_
            refine r_get (C := RX5) (T := TX5) (N := 8) (ci := 5) hx hb hts hi_X5 hown hK hP 7 rfl (by decide) lk_X4_68 (fun _ h9 => h9) dX4_betterOne_45 (by omega) CE_1 rfl ?_
            refine lv_aload_n hx hb dX4_betterOne_48 rfl (lv_at hl 2 rfl) ?_
            refine k_calliV (nL := 4) (C := RX7) (T := TX7) (N := 16) (ci := 7) hx hb hml hown hts hK hP hS hl.1 (c_X7_notice hi (by omega) (by omega)) rfl (Nat.le_of_ble_eq_true rfl) rfl (cwV 0 hts (gV lm_X4_71 ti_X7_notice tl_X7_notice tn_X7 tc_X7_notice) rfl rfl rfl (by decide +kernel) ⟨Nat.le_of_ble_eq_true rfl, Nat.le_of_ble_eq_true rfl⟩) rfl dX4_betterOne_49 ⟨Nat.zero_le _, Nat.zero_le _⟩ (by omega) (CE_w (by omega)) (fun r49 E1 H locs hq hP hS => ?_)
            obtain ⟨rfl, rfl⟩ := hq
            have hn : ntcC σ i = ntc σ i ∧ 0 ≤ ntc σ i ∧ ntc σ i ≤ 30 := by
              unfold ntcC ntc
              rcases (show σ 12 i = 0 ∨ σ 12 i = 1 ∨ σ 12 i = 3 by omega) with e | e | e
              · rw [cif_t e, cif_f (by omega), cif_f (by omega)]; omega
              · rw [cif_f (by omega), cif_t e, cif_t e]; omega
              · rw [cif_f (by omega), cif_f (by omega), cif_f (by omega), cif_t e]; omega
            rw [hn.1]
            refine r_add hx hb dX4_betterOne_52 ?_
            refine lv_istore_n hx hb dX4_betterOne_53 rfl hl (by decide) rfl (fun ls hl => ?_)
            replace hl : lv_has ls 4 [(0, _), (1, _), (2, _), (3, _)] := lv_sub hl [1, 2, 3, 0] rfl
            have loop54 : ∀ (nn : Nat) (d : Int) (τ2 : Tb) (H : Heap) (locs : List Loc) (ls : Array Slot), va_P D vwCl (kw 189 ad (CE G ad σ τ2)) H → va_S (kA 189 ad) s.heap H locs → lv_has ls 4 [(0, .ref (ad 5)), (1, .int (iI i)), (2, .ref (ad (69 + i.toNat))), (3, .int (iI d))] → ((σ 0 3 ≤ d ∧ d ≤ 500) ∧ (∀ x, x < d → ¬ betP σ i x) ∧ TI τ2) → (500 - d).toNat < nn → Wg H locs (F0 m0 54 ls []) := by
              intro nn
              induction nn with
              | zero => intro d τ2 H locs ls _ _ _ _ hn; omega
              | succ nn ih54 =>
                intro d τ2 H locs ls hP hS hl hv54 hn54
                rw [hWg]
                obtain ⟨hv2, hno2, hT2⟩ := hv54
                refine lv_iload_n hx hb dX4_betterOne_54 rfl (lv_at hl 3 rfl) ?_
                refine lv_aload_n hx hb dX4_betterOne_55 rfl (lv_at hl 2 rfl) ?_
                refine r_get (C := RX7) (T := TX7) (N := 16) (ci := 7) hx hb hts hi_X7 hown hK hP 11 rfl (by decide) lk_X4_43 (fun _ h9 => h9) dX4_betterOne_56 (by omega) (CE_w (by omega)) rfl ?_
                refine r_icmp_ge (tgt := 91) hx hb (by omega) (by omega) dX4_betterOne_59 (by decide) (fun c59 => ?_) (fun c59 => ?_)
                · rw [← hWg]
                  exact join91 _ _ _ _ hP hS (lv_sub hl [0, 1] rfl) ⟨fun x q => hno2 x (by have := q.2.2.2.1; omega) q, hT2⟩
                · refine lv_aload_n hx hb dX4_betterOne_62 rfl (lv_at hl 0 rfl) ?_
                  refine lv_aload_n hx hb dX4_betterOne_63 rfl (lv_at hl 2 rfl) ?_
                  refine lv_iload_n hx hb dX4_betterOne_64 rfl (lv_at hl 3 rfl) ?_
                  refine k_calliV (nL := 4) (C := RX4) (T := TX4) (N := 3) (ci := 4) hx hb hml hown hts hK hP hS hl.1 (c_X4_fits hi hI hwi c28 (by omega) hT2) rfl (Nat.le_of_ble_eq_true rfl) rfl (cwV 2 hts (gV lm_X4_74 ti_X4_fits tl_X4_fits tn_X4 tc_X4_fits) rfl rfl rfl (by decide +kernel) ⟨Nat.le_of_ble_eq_true rfl, Nat.le_of_ble_eq_true rfl⟩) rfl dX4_betterOne_65 ⟨Nat.zero_le _, Nat.zero_le _⟩ (by omega) CE_5 (fun r65 E1 H locs hq hP hS => ?_)
                  obtain ⟨rfl, τ3, rfl, hT3⟩ := hq
                  refine r_ifB_ne (tgt := 74) hx hb dX4_betterOne_68 (by decide) (fun c68 => ?_) (fun c68 => ?_)
                  · have hP2 : betP σ i d := ⟨hwi, c28, by omega, by omega, c68⟩
                    have hfst : isFst (betP σ) i d := by
                      refine fst_mk hP2 (fun a b q => ?_) (fun b q => ?_)
                      · apply Classical.byContradiction
                        intro y
                        exact hno a b (by omega) q
                      · apply Classical.byContradiction
                        intro y
                        exact hno2 b (by omega) q
                    refine lv_aload_n hx hb dX4_betterOne_74 rfl (lv_at hl 0 rfl) ?_
                    refine r_get (C := RX4) (T := TX4) (N := 3) (ci := 4) hx hb hts hi_X4 hown hK hP 0 rfl (by decide) lk_X4_15 (fun _ h9 => h9) dX4_betterOne_75 (by omega) CE_5 rfl ?_
                    refine lv_aload_n hx hb dX4_betterOne_78 rfl (lv_at hl 2 rfl) ?_
                    refine lv_iload_n hx hb dX4_betterOne_79 rfl (lv_at hl 3 rfl) ?_
                    refine k_callvV (nL := 4) (C := RX5) (T := TX5) (N := 8) (ci := 5) hx hb hml hown hts hK hP hS hl.1 (c_X5_permitFrom hi (by omega) (by omega) (by omega) (by omega)) rfl (Nat.le_of_ble_eq_true rfl) rfl (cwV 2 hts (gV lm_X4_78 ti_X5_permitFrom tl_X5_permitFrom tn_X5 tc_X5_permitFrom) rfl rfl rfl (by decide +kernel) ⟨Nat.le_of_ble_eq_true rfl, Nat.le_of_ble_eq_true rfl⟩) rfl dX4_betterOne_80 ⟨Nat.zero_le _, Nat.zero_le _⟩ (by omega) CE_1 (fun E1 H locs hq hP hS => ?_)
                    subst hq
                    refine r_const hx hb dX4_betterOne_83 ?_
                    exact k_zret hx hb hr hlocks hP hS dX4_betterOne_84 (by omega) ⟨(bI_t ⟨i, d, hP2⟩).symm, τ3, by rw [bet1_t hfst], hT3⟩
                  · have hno3 : ∀ x, x < d + 1 → ¬ betP σ i x := by
                      intro x q z
                      rcases (show x < d ∨ x = d by omega) with y | y
                      · exact hno2 x y z
                      · rw [y] at z; exact c68 z.2.2.2.2
                    refine lv_goto (tgt := 85) hx hb dX4_betterOne_71 (by decide) ?_
                    refine r_iinc hx hb dX4_betterOne_85 hl (k := 3) rfl (by decide) (fun ls hl => ?_)
                    replace hl : lv_has ls 4 [(0, _), (1, _), (2, _), (3, _)] := lv_sub hl [1, 2, 3, 0] rfl
                    refine lv_goto (tgt := 54) hx hb dX4_betterOne_88 (by decide) ?_
                    rw [← hWg]
                    exact ih54 (d + 1) _ _ _ _ hP hS hl ⟨by omega, hno3, hT3⟩ (by omega)
            rw [← hWg]
            exact loop54 _ _ _ _ _ _ hP hS hl ⟨by omega, fun x q z => by have := (rul1_le z.2.2.2.2.1).1; omega, hT1⟩ (Nat.lt_succ_self _)
          · refine lv_goto (tgt := 91) hx hb dX4_betterOne_38 (by decide) ?_
            rw [← hWg]
            exact join91 _ _ _ _ hP hS (lv_sub hl [0, 1] rfl) ⟨fun d q => by have := q.2.2.1; omega, hT1⟩
  rw [← hWg]
  exact loop2 _ 0 _ _ _ _ hP hS hl ⟨by omega, fun w d q z => by have := z.1; omega, hT⟩ (Nat.lt_succ_self _)

