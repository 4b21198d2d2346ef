theorem lok_t {σ : Tb} {w d v : Int} {t : Nat} (h : t ≠ 0) : lok σ w d t v = σ t v := by
  unfold lok
  by_cases q : rul1 σ w d False = 0
  · rw [cif_t q]
  · rw [cif_f q, up_t h, up_t h, up_t h]
theorem lok_0 {σ : Tb} {w d v : Int} (h : v < 4) : lok σ w d 0 v = σ 0 v := by
  unfold lok
  by_cases q : rul1 σ w d False = 0
  · rw [cif_t q]
  · rw [cif_f q, up_i (by omega), up_i (by omega), up_i (by omega)]
theorem cnts_c {σ σ' : Tb} {w : Int} {les : Prop} (h : ∀ v, σ' 19 v = σ 19 v) : cnts σ' w les = cnts σ w les := by
  funext o
  unfold cnts hasD
  rw [h]
theorem nrP_c {σ σ' : Tb} {C : Int → Prop} {M : Nat} (h : ∀ v, σ' 17 v = σ 17 v) : nrP σ' C M = nrP σ C M := by
  funext o
  unfold nrP
  rw [h]
theorem Gth_s {σ σ' τ : Tb} {C N : Int → Prop} (h : Gth σ τ C N) (h2 : σ' 0 2 = σ 0 2) : Gth σ' τ C N := by
  unfold Gth Cnt at h ⊢
  rw [h2]
  exact h
abbrev rmX8_refusalOf : Room := { frames := 2, cells := 0, slots := 0, locals := 42 }
set_option maxRecDepth 100000 in
set_option maxHeartbeats 4000000 in
theorem c_X8_refusalOf {l : Launch} {D : va_G} {G : Nat → ClassId} {ad : Nat → Nat} {σ τ : Tb} (hi : kInj 189 ad) {w d : Int} (hI : InvS σ) (hw : (-2147483648 ≤ w ∧ w < 2147483648)) (hd : (-2147483648 ≤ d ∧ d < 2147483648)) : Met l yX8_refusalOf wsX8_refusalOf rmX8_refusalOf (kPc D (tysG G) 189 ad (CE G ad σ τ) [.ref (ad 0), .int (iI w), .int (iI d)]) (kQi D 189 ad (fun z E' => z = rfs σ w d ∧ E' = CE G ad σ τ)) 0 0 (kA 189 ad) := by
  refine k_met (cc := cX8_refusalOf) (maxL := 4) (ret := (some .int)) (by decide) (Nat.le_of_ble_eq_true rfl) ?_
  intro P0 e0 s m0 below meth c0 ls hx hb hr hlocks hml hown hts hK hP hS hl
  replace hl : lv_has ls 4 [(0, _), (1, _), (2, _)] := hl
  replace hown : s.vm.findClass RX8 = some m0.cls := hown
  refine k_abs (fun Wg hWg => ?_)
  have h0 := Inv_0 hI.1
  refine lv_aload_n hx hb dX8_refusalOf_0 rfl (lv_at hl 0 rfl) ?_
  refine r_get (C := RX8) (T := TX8) (N := 8) (ci := 8) hx hb hts hi_X8 hown hK hP 0 rfl (by decide) lk_X8_10 (fun _ h9 => h9) dX8_refusalOf_1 (by omega) CE_0 rfl ?_
  refine lv_iload_n hx hb dX8_refusalOf_4 rfl (lv_at hl 1 rfl) ?_
  refine k_calliV (nL := 4) (C := RX5) (T := TX5) (N := 8) (ci := 5) hx hb hml hown hts hK hP hS hl.1 (c_X5_hasWork hi hw h0.2.2.1) rfl (Nat.le_of_ble_eq_true rfl) rfl (cwV 1 hts (gV lm_X8_143 ti_X5_hasWork tl_X5_hasWork tn_X5 tc_X5_hasWork) rfl rfl rfl (by decide +kernel) ⟨Nat.le_of_ble_eq_true rfl, Nat.le_of_ble_eq_true rfl⟩) rfl dX8_refusalOf_5 ⟨Nat.zero_le _, Nat.zero_le _⟩ (by omega) CE_1 (fun r5 E1 H locs hq hP hS => ?_)
  obtain ⟨rfl, rfl⟩ := hq
  refine r_ifB_eq (tgt := 18) hx hb dX8_refusalOf_8 (by decide) (fun c8 => ?_) (fun c8 => ?_)
  · refine r_const hx hb dX8_refusalOf_18 ?_
    exact k_iret hx hb hr hlocks hP hS dX8_refusalOf_19 ⟨by rw [rfs, cif_f (fun z => c8 z.1)], rfl⟩
  · refine lv_iload_n hx hb dX8_refusalOf_11 rfl (lv_at hl 2 rfl) ?_
    refine k_calliS (nL := 4) hx hb hml hown hts hK hP hS hl.1 (c_X8_isDay hi hd) rfl (Nat.le_of_ble_eq_true rfl) (va_cwS 1 hts (gS lm_X8_100 ts_X8_isDay tn_X8 tc_X8_isDay) rfl rfl rfl (by decide +kernel) ⟨Nat.le_of_ble_eq_true rfl, Nat.le_of_ble_eq_true rfl⟩) rfl dX8_refusalOf_12 ⟨Nat.zero_le _, Nat.zero_le _⟩ (fun r12 E1 H locs hq hP hS => ?_)
    obtain ⟨rfl, rfl⟩ := hq
    refine r_ifB_ne (tgt := 20) hx hb dX8_refusalOf_15 (by decide) (fun c15 => ?_) (fun c15 => ?_)
    · obtain ⟨hN, _, _⟩ := Inv_w hI.1 c8
      unfold IN at hN
      refine lv_aload_n hx hb dX8_refusalOf_20 rfl (lv_at hl 0 rfl) ?_
      refine r_get (C := RX8) (T := TX8) (N := 8) (ci := 8) hx hb hts hi_X8 hown hK hP 0 rfl (by decide) lk_X8_10 (fun _ h9 => h9) dX8_refusalOf_21 (by omega) CE_0 rfl ?_
      refine r_get (C := RX5) (T := TX5) (N := 8) (ci := 5) hx hb hts hi_X5 hown hK hP 2 rfl (by decide) lk_X8_114 (fun _ h9 => h9) dX8_refusalOf_24 (by omega) CE_1 rfl ?_
      refine lv_iload_n hx hb dX8_refusalOf_27 rfl (lv_at hl 1 rfl) ?_
      refine r_aald hx hb hK hP 5 rfl dX8_refusalOf_28 (by omega) rfl (by omega) (by omega) rfl ?_
      refine lv_astore_n hx hb dX8_refusalOf_29 rfl hl (by decide) rfl (fun ls hl => ?_)
      replace hl : lv_has ls 4 [(0, _), (1, _), (2, _), (3, _)] := lv_sub hl [1, 2, 3, 0] rfl
      refine lv_aload_n hx hb dX8_refusalOf_30 rfl (lv_at hl 3 rfl) ?_
      refine k_calliV (nL := 4) (C := RX7) (T := TX7) (N := 16) (ci := 7) hx hb hml hown hts hK hP hS hl.1 (c_X7_isOpen hi (by omega) (by omega)) rfl (Nat.le_of_ble_eq_true rfl) rfl (cwV 0 hts (gV lm_X8_184 ti_X7_isOpen tl_X7_isOpen tn_X7 tc_X7_isOpen) rfl rfl rfl (by decide +kernel) ⟨Nat.le_of_ble_eq_true rfl, Nat.le_of_ble_eq_true rfl⟩) rfl dX8_refusalOf_31 ⟨Nat.zero_le _, Nat.zero_le _⟩ (by omega) (CE_w (by omega)) (fun r31 E1 H locs hq hP hS => ?_)
      obtain ⟨rfl, rfl⟩ := hq
      refine r_ifB_eq (tgt := 49) hx hb dX8_refusalOf_34 (by decide) (fun c34 => ?_) (fun c34 => ?_)
      · refine r_bipush hx hb dX8_refusalOf_49 (by decide +kernel) ?_
        exact k_iret hx hb hr hlocks hP hS dX8_refusalOf_51 ⟨by rw [rfs, cif_t ⟨c8, c15⟩, cif_f (fun z => c34 z.1)], rfl⟩
      · refine lv_aload_n hx hb dX8_refusalOf_37 rfl (lv_at hl 3 rfl) ?_
        refine r_get (C := RX7) (T := TX7) (N := 16) (ci := 7) hx hb hts hi_X7 hown hK hP 5 rfl (by decide) lk_X8_123 (fun _ h9 => h9) dX8_refusalOf_38 (by omega) (CE_w (by omega)) rfl ?_
        refine r_const hx hb dX8_refusalOf_41 ?_
        refine r_icmp_eq (tgt := 49) hx hb (by omega) (by omega) dX8_refusalOf_42 (by decide) (fun c42 => ?_) (fun c42 => ?_)
        · refine r_bipush hx hb dX8_refusalOf_49 (by decide +kernel) ?_
          exact k_iret hx hb hr hlocks hP hS dX8_refusalOf_51 ⟨by rw [rfs, cif_t ⟨c8, c15⟩, cif_f (fun z => z.2 c42)], rfl⟩
        · refine r_const hx hb dX8_refusalOf_45 ?_
          refine lv_goto (tgt := 51) hx hb dX8_refusalOf_46 (by decide) ?_
          exact k_iret hx hb hr hlocks hP hS dX8_refusalOf_51 ⟨by rw [rfs, cif_t ⟨c8, c15⟩, cif_t ⟨c34, c42⟩], rfl⟩
    · refine r_const hx hb dX8_refusalOf_18 ?_
      exact k_iret hx hb hr hlocks hP hS dX8_refusalOf_19 ⟨by rw [rfs, cif_f (fun z => c15 z.2)], rfl⟩
def LK (σ τ : Tb) (w : Int) : Prop := Gth σ τ (cnts σ w False) (nrP σ (cnts σ w False) (σ 17 w).toNat)
theorem LK_lok {σ τ : Tb} {w d : Int} (h : LK σ τ w) : LK (lok σ w d) τ w := by
  unfold LK at h ⊢
  rw [cnts_c (σ := σ) (fun v => lok_t (by decide)), nrP_c (σ := σ) (fun v => lok_t (by decide)), lok_t (t := 17) (by decide)]
  exact Gth_s h (lok_0 (by decide))
abbrev rmX8_brokenFrom : Room := { frames := 4, cells := 0, slots := 0, locals := 111 }
set_option maxRecDepth 100000 in
set_option maxHeartbeats 4000000 in
theorem c_X8_brokenFrom {l : Launch} {D : va_G} {G : Nat → ClassId} {ad : Nat → Nat} {σ τ : Tb} (hi : kInj 189 ad) {w d : Int} (hI : InvS σ) (hT : TI τ) (hw : lvW σ w) (hd : 0 ≤ d ∧ d ≤ 399) (h12 : σ 12 w ≠ 2) : Met l yX8_brokenFrom wsX8_brokenFrom rmX8_brokenFrom (kPc D (tysG G) 189 ad (CE G ad σ τ) [.ref (ad 0), .ref (ad (69 + w.toNat)), .int (iI d)]) (kQi D 189 ad (fun z E' => z = rul1 σ w d False ∧ ∃ τ', E' = CE G ad (lok σ w d) τ' ∧ TI τ' ∧ LK (lok σ w d) τ' w)) 0 0 (kA 189 ad) := by
  refine k_met (cc := cX8_brokenFrom) (maxL := 4) (ret := (some .int)) (by decide) (Nat.le_of_ble_eq_true rfl) ?_
  intro P0 e0 s m0 below meth c0 ls hx hb hr hlocks hml hown hts hK hP hS hl
  replace hl : lv_has ls 4 [(0, _), (1, _), (2, _)] := hl
  replace hown : s.vm.findClass RX8 = some m0.cls := hown
  refine k_abs (fun Wg hWg => ?_)
  have h0 := Inv_0 hI.1
  have hw' : 0 ≤ w ∧ w < σ 0 2 := hw
  unfold TI at hT
  refine lv_aload_n hx hb dX8_brokenFrom_0 rfl (lv_at hl 0 rfl) ?_
  refine r_get (C := RX8) (T := TX8) (N := 8) (ci := 8) hx hb hts hi_X8 hown hK hP 3 rfl (by decide) lk_X8_37 (fun _ h9 => h9) dX8_brokenFrom_1 (by omega) CE_0 rfl ?_
  refine lv_aload_n hx hb dX8_brokenFrom_4 rfl (lv_at hl 1 rfl) ?_
  refine r_bipush hx hb dX8_brokenFrom_5 (by decide +kernel) ?_
  refine k_callvV (nL := 4) (C := RX3) (T := TX3) (N := 5) (ci := 3) hx hb hml hown hts hK hP hS hl.1 (c_X3_lookAt (les := False) hi hI.1 hw (Or.inl ⟨rfl, id⟩)) rfl (Nat.le_of_ble_eq_true rfl) rfl (cwV 2 hts (gV lm_X8_275 ti_X3_lookAt tl_X3_lookAt tn_X3 tc_X3_lookAt) rfl rfl rfl (by decide +kernel) ⟨Nat.le_of_ble_eq_true rfl, Nat.le_of_ble_eq_true rfl⟩) rfl dX8_brokenFrom_7 ⟨Nat.zero_le _, Nat.zero_le _⟩ (by omega) CE_4 (fun E1 H locs hq hP hS => ?_)
  obtain ⟨τ1, rfl, hG, hF1⟩ := hq
  refine lv_aload_n hx hb dX8_brokenFrom_10 rfl (lv_at hl 0 rfl) ?_
  refine r_get (C := RX8) (T := TX8) (N := 8) (ci := 8) hx hb hts hi_X8 hown hK hP 3 rfl (by decide) lk_X8_37 (fun _ h9 => h9) dX8_brokenFrom_11 (by omega) CE_0 rfl ?_
  refine lv_aload_n hx hb dX8_brokenFrom_14 rfl (lv_at hl 1 rfl) ?_
  refine lv_iload_n hx hb dX8_brokenFrom_15 rfl (lv_at hl 2 rfl) ?_
  refine r_const hx hb dX8_brokenFrom_16 ?_
  refine k_calliV (nL := 4) (C := RX3) (T := TX3) (N := 5) (ci := 3) hx hb hml hown hts hK hP hS hl.1 (c_X3_broken hi hI.1 hw (by omega) (by omega) (fun _ => h12) (by omega) hG) rfl (Nat.le_of_ble_eq_true rfl) rfl (cwV 3 hts (gV lm_X8_176 ti_X3_broken tl_X3_broken tn_X3 tc_X3_broken) rfl rfl rfl (by decide +kernel) ⟨Nat.le_of_ble_eq_true rfl, Nat.le_of_ble_eq_true rfl⟩) rfl dX8_brokenFrom_17 ⟨Nat.zero_le _, Nat.zero_le _⟩ (by omega) CE_4 (fun r17 E1 H locs hq hP hS => ?_)
  obtain ⟨hz, τ2, rfl, hxr, hF2⟩ := hq
  have hz2 : r17 = rul1 σ w d False := by rw [hz, rulF, cif_t (by omega)]
  have hru := rul1_r (σ := σ) (w := w) (d := d) (les := False)
  have hG2 := Gth_fr hG hF2
  have hT2 : TI τ2 := by unfold TI; rw [hF2.2 4 (by decide) (by decide), hF1.2 4 (by decide)]; exact hT
  refine lv_istore_n hx hb dX8_brokenFrom_20 rfl hl (by decide) rfl (fun ls hl => ?_)
  replace hl : lv_has ls 4 [(0, _), (1, _), (2, _), (3, _)] := lv_sub hl [1, 2, 3, 0] rfl
  refine lv_iload_n hx hb dX8_brokenFrom_21 rfl (lv_at hl 3 rfl) ?_
  refine r_if_eq (tgt := 52) hx hb (by omega) dX8_brokenFrom_22 (by decide) (fun c22 => ?_) (fun c22 => ?_)
  · have hlk : lok σ w d = σ := by rw [lok, cif_t (by omega)]
    refine lv_iload_n hx hb dX8_brokenFrom_52 rfl (lv_at hl 3 rfl) ?_
    exact k_iret hx hb hr hlocks hP hS dX8_brokenFrom_53 ⟨hz2, τ2, by rw [hlk], hT2, LK_lok hG2⟩
  · have hx2 := hxr c22
    rw [hz2] at hx2
    obtain ⟨e1, e2⟩ := wDP (by omega) hx2
    refine lv_aload_n hx hb dX8_brokenFrom_25 rfl (lv_at hl 0 rfl) ?_
    refine r_const hx hb dX8_brokenFrom_26 ?_
    refine r_put (C := RX8) (T := TX8) (N := 8) (ci := 8) hx hb hi hts hi_X8 tyX8 tyX8_ok nmX8 hown hK hP hS 5 rfl (by decide) lk_X8_166 (fun _ h9 => h9) rfl (ty := .boolean) (by decide +kernel) (by decide +kernel) (by decide +kernel) dX8_brokenFrom_27 (by omega) CE_0 (Nat.le_of_ble_eq_true rfl) cu_whyKnown (fun H locs hP hS => ?_)
    refine lv_aload_n hx hb dX8_brokenFrom_30 rfl (lv_at hl 0 rfl) ?_
    refine lv_aload_n hx hb dX8_brokenFrom_31 rfl (lv_at hl 0 rfl) ?_
    refine r_get (C := RX8) (T := TX8) (N := 8) (ci := 8) hx hb hts hi_X8 hown hK hP 3 rfl (by decide) lk_X8_37 (fun _ h9 => h9) dX8_brokenFrom_32 (by omega) CE_0 rfl ?_
    refine r_get (C := RX3) (T := TX3) (N := 5) (ci := 3) hx hb hts hi_X3 hown hK hP 3 rfl (by decide) lk_X8_278 (fun _ h9 => h9) dX8_brokenFrom_35 (by omega) CE_4 rfl ?_
    refine r_put (C := RX8) (T := TX8) (N := 8) (ci := 8) hx hb hi hts hi_X8 tyX8 tyX8_ok nmX8 hown hK hP hS 6 rfl (by decide) lk_X8_170 (fun _ h9 => h9) rfl (ty := .int) (by decide +kernel) rfl rfl dX8_brokenFrom_38 (by omega) CE_0 (Nat.le_of_ble_eq_true rfl) cu_whyDay (fun H locs hP hS => ?_)
    refine lv_aload_n hx hb dX8_brokenFrom_41 rfl (lv_at hl 0 rfl) ?_
    refine lv_aload_n hx hb dX8_brokenFrom_42 rfl (lv_at hl 0 rfl) ?_
    refine r_get (C := RX8) (T := TX8) (N := 8) (ci := 8) hx hb hts hi_X8 hown hK hP 3 rfl (by decide) lk_X8_37 (fun _ h9 => h9) dX8_brokenFrom_43 (by omega) CE_0 rfl ?_
    refine r_get (C := RX3) (T := TX3) (N := 5) (ci := 3) hx hb hts hi_X3 hown hK hP 4 rfl (by decide) lk_X8_281 (fun _ h9 => h9) dX8_brokenFrom_46 (by omega) CE_4 rfl ?_
    refine r_put (C := RX8) (T := TX8) (N := 8) (ci := 8) hx hb hi hts hi_X8 tyX8 tyX8_ok nmX8 hown hK hP hS 7 rfl (by decide) lk_X8_173 (fun _ h9 => h9) rfl (ty := .int) (by decide +kernel) rfl rfl dX8_brokenFrom_49 (by omega) CE_0 (Nat.le_of_ble_eq_true rfl) cu_whyPlace (fun H locs hP hS => ?_)
    refine lv_iload_n hx hb dX8_brokenFrom_52 rfl (lv_at hl 3 rfl) ?_
    exact k_iret hx hb hr hlocks hP hS dX8_brokenFrom_53 ⟨hz2, τ2, by rw [lok, cif_f (by omega), e1, e2], hT2, LK_lok hG2⟩
abbrev rmX8_may : Room := { frames := 5, cells := 0, slots := 0, locals := 134 }
set_option maxRecDepth 100000 in
set_option maxHeartbeats 4000000 in
theorem c_X8_may {l : Launch} {D : va_G} {G : Nat → ClassId} {ad : Nat → Nat} {σ τ : Tb} (hi : kInj 189 ad) {w d : Int} (hI : InvS σ) (hT : TI τ) (hw : (-2147483648 ≤ w ∧ w < 2147483648)) (hd : (-2147483648 ≤ d ∧ d < 2147483648)) : Met l yX8_may wsX8_may rmX8_may (kPc D (tysG G) 189 ad (CE G ad σ τ) [.ref (ad 0), .int (iI w), .int (iI d)]) (kQi D 189 ad (fun z E' => z = aMay σ w d ∧ ∃ τ', E' = CE G ad (sMay σ w d) τ' ∧ TI τ')) 0 0 (kA 189 ad) := by
  refine k_met (cc := cX8_may) (maxL := 4) (ret := (some .int)) (by decide) (Nat.le_of_ble_eq_true rfl) ?_
  intro P0 e0 s m0 below meth c0 ls hx hb hr hlocks hml hown hts hK hP hS hl
  replace hl : lv_has ls 4 [(0, _), (1, _), (2, _)] := hl
  replace hown : s.vm.findClass RX8 = some m0.cls := hown
  refine k_abs (fun Wg hWg => ?_)
  have h0 := Inv_0 hI.1
  have hrr := rfs_r (σ := σ) (w := w) (d := d)
  refine lv_aload_n hx hb dX8_may_0 rfl (lv_at hl 0 rfl) ?_
  refine lv_iload_n hx hb dX8_may_1 rfl (lv_at hl 1 rfl) ?_
  refine lv_iload_n hx hb dX8_may_2 rfl (lv_at hl 2 rfl) ?_
  refine k_calliV (nL := 4) (C := RX8) (T := TX8) (N := 8) (ci := 8) hx hb hml hown hts hK hP hS hl.1 (c_X8_refusalOf hi hI hw hd) rfl (Nat.le_of_ble_eq_true rfl) rfl (cwV 2 hts (gV lm_X8_158 ti_X8_refusalOf tl_X8_refusalOf tn_X8 tc_X8_refusalOf) rfl rfl rfl (by decide +kernel) ⟨Nat.le_of_ble_eq_true rfl, Nat.le_of_ble_eq_true rfl⟩) rfl dX8_may_3 ⟨Nat.zero_le _, Nat.zero_le _⟩ (by omega) CE_0 (fun r3 E1 H locs hq hP hS => ?_)
  obtain ⟨rfl, rfl⟩ := hq
  refine lv_istore_n hx hb dX8_may_6 rfl hl (by decide) rfl (fun ls hl => ?_)
  replace hl : lv_has ls 4 [(0, _), (1, _), (2, _), (3, _)] := lv_sub hl [1, 2, 3, 0] rfl
  refine lv_iload_n hx hb dX8_may_7 rfl (lv_at hl 3 rfl) ?_
  refine r_if_eq (tgt := 15) hx hb (by omega) dX8_may_8 (by decide) (fun c8 => ?_) (fun c8 => ?_)
  · obtain ⟨⟨a1, a2⟩, a3, a4⟩ := rfs_0.mp c8
    have a5 : 0 ≤ w ∧ w < σ 0 2 := a1
    refine lv_aload_n hx hb dX8_may_15 rfl (lv_at hl 0 rfl) ?_
    refine lv_aload_n hx hb dX8_may_16 rfl (lv_at hl 0 rfl) ?_
    refine r_get (C := RX8) (T := TX8) (N := 8) (ci := 8) hx hb hts hi_X8 hown hK hP 0 rfl (by decide) lk_X8_10 (fun _ h9 => h9) dX8_may_17 (by omega) CE_0 rfl ?_
    refine r_get (C := RX5) (T := TX5) (N := 8) (ci := 5) hx hb hts hi_X5 hown hK hP 2 rfl (by decide) lk_X8_114 (fun _ h9 => h9) dX8_may_20 (by omega) CE_1 rfl ?_
    refine lv_iload_n hx hb dX8_may_23 rfl (lv_at hl 1 rfl) ?_
    refine r_aald hx hb hK hP 5 rfl dX8_may_24 (by omega) rfl (by omega) (by omega) rfl ?_
    refine lv_iload_n hx hb dX8_may_25 rfl (lv_at hl 2 rfl) ?_
    refine k_calliV (nL := 4) (C := RX8) (T := TX8) (N := 8) (ci := 8) hx hb hml hown hts hK hP hS hl.1 (c_X8_brokenFrom hi hI hT a1 a2 a4) rfl (Nat.le_of_ble_eq_true rfl) rfl (cwV 2 hts (gV lm_X8_162 ti_X8_brokenFrom tl_X8_brokenFrom tn_X8 tc_X8_brokenFrom) rfl rfl rfl (by decide +kernel) ⟨Nat.le_of_ble_eq_true rfl, Nat.le_of_ble_eq_true rfl⟩) rfl dX8_may_26 ⟨Nat.zero_le _, Nat.zero_le _⟩ (by omega) CE_0 (fun r26 E1 H locs hq hP hS => ?_)
    obtain ⟨rfl, τ1, rfl, hT1, _⟩ := hq
    exact k_iret hx hb hr hlocks hP hS dX8_may_29 ⟨by rw [aMay, cif_t c8], τ1, by rw [sMay, cif_t c8], hT1⟩
  · refine lv_iload_n hx hb dX8_may_11 rfl (lv_at hl 3 rfl) ?_
    refine lv_goto (tgt := 29) hx hb dX8_may_12 (by decide) ?_
    exact k_iret hx hb hr hlocks hP hS dX8_may_29 ⟨by rw [aMay, cif_f c8], τ, by rw [sMay, cif_f c8], hT⟩
abbrev rmX8_why : Room := { frames := 1, cells := 0, slots := 0, locals := 22 }
set_option maxRecDepth 100000 in
set_option maxHeartbeats 4000000 in
theorem c_X8_why {l : Launch} {D : va_G} {G : Nat → ClassId} {ad : Nat → Nat} {σ τ : Tb} (hi : kInj 189 ad) {q : Int} (hI : InvS σ) (hT : TI τ) (hq0 : (-2147483648 ≤ q ∧ q < 2147483648)) : Met l yX8_why wsX8_why rmX8_why (kPc D (tysG G) 189 ad (CE G ad σ τ) [.ref (ad 0), .int (iI q)]) (kQi D 189 ad (fun z E' => z = aWhy σ q ∧ ∃ τ', E' = CE G ad σ τ' ∧ TI τ')) 0 0 (kA 189 ad) := by
  refine k_met (cc := cX8_why) (maxL := 2) (ret := (some .int)) (by decide) (Nat.le_of_ble_eq_true rfl) ?_
  intro P0 e0 s m0 below meth c0 ls hx hb hr hlocks hml hown hts hK hP hS hl
  replace hl : lv_has ls 2 [(0, _), (1, _)] := hl
  replace hown : s.vm.findClass RX8 = some m0.cls := hown
  refine k_abs (fun Wg hWg => ?_)
  have h0 := Inv_0 hI.1
  refine lv_aload_n hx hb dX8_why_0 rfl (lv_at hl 0 rfl) ?_
  refine r_get (C := RX8) (T := TX8) (N := 8) (ci := 8) hx hb hts hi_X8 hown hK hP 5 rfl (by decide) lk_X8_166 (fun _ h9 => h9) dX8_why_1 (by omega) CE_0 rfl ?_
  refine r_if_eq (tgt := 16) hx hb (by omega) dX8_why_4 (by decide) (fun c4 => ?_) (fun c4 => ?_)
  · refine r_const hx hb dX8_why_16 ?_
    exact k_iret hx hb hr hlocks hP hS dX8_why_17 ⟨by rw [aWhy, cif_f (by omega)], τ, rfl, hT⟩
  · refine lv_iload_n hx hb dX8_why_7 rfl (lv_at hl 1 rfl) ?_
    refine r_const hx hb dX8_why_8 ?_
    refine r_const hx hb dX8_why_9 ?_
    refine k_calliS (nL := 2) hx hb hml hown hts hK hP hS hl.1 (c_X8_within hi hq0 (by omega) (by omega)) rfl (Nat.le_of_ble_eq_true rfl) (va_cwS 3 hts (gS lm_X8_54 ts_X8_within tn_X8 tc_X8_within) rfl rfl rfl (by decide +kernel) ⟨Nat.le_of_ble_eq_true rfl, Nat.le_of_ble_eq_true rfl⟩) rfl dX8_why_10 ⟨Nat.zero_le _, Nat.zero_le _⟩ (fun r10 E1 H locs hq hP hS => ?_)
    obtain ⟨rfl, rfl⟩ := hq
    refine r_ifB_ne (tgt := 18) hx hb dX8_why_13 (by decide) (fun c13 => ?_) (fun c13 => ?_)
    · refine lv_iload_n hx hb dX8_why_18 rfl (lv_at hl 1 rfl) ?_
      refine r_if_ne (tgt := 29) hx hb (by omega) dX8_why_19 (by decide) (fun c19 => ?_) (fun c19 => ?_)
      · refine lv_aload_n hx hb dX8_why_29 rfl (lv_at hl 0 rfl) ?_
        refine r_get (C := RX8) (T := TX8) (N := 8) (ci := 8) hx hb hts hi_X8 hown hK hP 7 rfl (by decide) lk_X8_173 (fun _ h9 => h9) dX8_why_30 (by omega) CE_0 rfl ?_
        exact k_iret hx hb hr hlocks hP hS dX8_why_33 ⟨by rw [aWhy, cif_t (by omega), cif_f c19], τ, rfl, hT⟩
      · refine lv_aload_n hx hb dX8_why_22 rfl (lv_at hl 0 rfl) ?_
        refine r_get (C := RX8) (T := TX8) (N := 8) (ci := 8) hx hb hts hi_X8 hown hK hP 6 rfl (by decide) lk_X8_170 (fun _ h9 => h9) dX8_why_23 (by omega) CE_0 rfl ?_
        refine lv_goto (tgt := 33) hx hb dX8_why_26 (by decide) ?_
        exact k_iret hx hb hr hlocks hP hS dX8_why_33 ⟨by rw [aWhy, cif_t (by omega), cif_t c19], τ, rfl, hT⟩
    · refine r_const hx hb dX8_why_16 ?_
      exact k_iret hx hb hr hlocks hP hS dX8_why_17 ⟨by rw [aWhy, cif_f (by omega)], τ, rfl, hT⟩
abbrev rmX8_first : Room := { frames := 5, cells := 0, slots := 0, locals := 134 }
set_option maxRecDepth 100000 in
set_option maxHeartbeats 4000000 in
theorem c_X8_first {l : Launch} {D : va_G} {G : Nat → ClassId} {ad : Nat → Nat} {σ τ : Tb} (hi : kInj 189 ad) {w a n : Int} (hI : InvS σ) (hT : TI τ) (hw : (-2147483648 ≤ w ∧ w < 2147483648)) (ha : (-2147483648 ≤ a ∧ a < 2147483648)) (hn : (-2147483648 ≤ n ∧ n < 2147483648)) : Met l yX8_first wsX8_first rmX8_first (kPc D (tysG G) 189 ad (CE G ad σ τ) [.ref (ad 0), .int (iI w), .int (iI a), .int (iI n)]) (kQi D 189 ad (fun z E' => z = aFirst σ w a n ∧ ∃ τ', E' = CE G ad (sFirst σ w a n) τ' ∧ TI τ')) 0 0 (kA 189 ad) := by
  refine k_met (cc := cX8_first) (maxL := 7) (ret := (some .int)) (by decide) (Nat.le_of_ble_eq_true rfl) ?_
  intro P0 e0 s m0 below meth c0 ls hx hb hr hlocks hml hown hts hK hP hS hl
  replace hl : lv_has ls 7 [(0, _), (1, _), (2, _), (3, _)] := hl
  replace hown : s.vm.findClass RX8 = some m0.cls := hown
  refine k_abs (fun Wg hWg => ?_)
  have h0 := Inv_0 hI.1
  have hrr := rfs_r (σ := σ) (w := w) (d := a)
  refine lv_iload_n hx hb dX8_first_0 rfl (lv_at hl 3 rfl) ?_
  refine r_const hx hb dX8_first_1 ?_
  refine r_sipush hx hb dX8_first_2 (by decide +kernel) ?_
  refine k_calliS (nL := 7) hx hb hml hown hts hK hP hS hl.1 (c_X8_within hi hn (by omega) (by omega)) rfl (Nat.le_of_ble_eq_true rfl) (va_cwS 3 hts (gS lm_X8_54 ts_X8_within tn_X8 tc_X8_within) rfl rfl rfl (by decide +kernel) ⟨Nat.le_of_ble_eq_true rfl, Nat.le_of_ble_eq_true rfl⟩) rfl dX8_first_5 ⟨Nat.zero_le _, Nat.zero_le _⟩ (fun r5 E1 H locs hq hP hS => ?_)
  obtain ⟨rfl, rfl⟩ := hq
  refine r_ifB_ne (tgt := 13) hx hb dX8_first_8 (by decide) (fun c8 => ?_) (fun c8 => ?_)
  · refine lv_aload_n hx hb dX8_first_13 rfl (lv_at hl 0 rfl) ?_
    refine lv_iload_n hx hb dX8_first_14 rfl (lv_at hl 1 rfl) ?_
    refine lv_iload_n hx hb dX8_first_15 rfl (lv_at hl 2 rfl) ?_
    refine k_calliV (nL := 7) (C := RX8) (T := TX8) (N := 8) (ci := 8) hx hb hml hown hts hK hP hS hl.1 (c_X8_refusalOf hi hI hw ha) rfl (Nat.le_of_ble_eq_true rfl) rfl (cwV 2 hts (gV lm_X8_158 ti_X8_refusalOf tl_X8_refusalOf tn_X8 tc_X8_refusalOf) rfl rfl rfl (by decide +kernel) ⟨Nat.le_of_ble_eq_true rfl, Nat.le_of_ble_eq_true rfl⟩) rfl dX8_first_16 ⟨Nat.zero_le _, Nat.zero_le _⟩ (by omega) CE_0 (fun r16 E1 H locs hq hP hS => ?_)
    obtain ⟨rfl, rfl⟩ := hq
    refine lv_istore hx hb dX8_first_19 hl (by decide) rfl (fun ls hl => ?_)
    replace hl : lv_has ls 7 [(0, _), (1, _), (2, _), (3, _), (4, _)] := lv_sub hl [1, 2, 3, 4, 0] rfl
    refine lv_iload hx hb dX8_first_21 (lv_at hl 4 rfl) ?_
    refine r_if_eq (tgt := 29) hx hb (by omega) dX8_first_23 (by decide) (fun c23 => ?_) (fun c23 => ?_)
    · obtain ⟨⟨a1, a2⟩, a3, a4⟩ := rfs_0.mp c23
      have a5 : 0 ≤ w ∧ w < σ 0 2 := a1
      have hI2 := InvS_lok hI (w := w) (d := a)
      have hw2 : 0 ≤ w ∧ w < lok σ w a 0 2 := by rw [lok_0 (by decide)]; exact a1
      have hru := rul1_r (σ := σ) (w := w) (d := a) (les := False)
      refine lv_aload_n hx hb dX8_first_29 rfl (lv_at hl 0 rfl) ?_
      refine r_get (C := RX8) (T := TX8) (N := 8) (ci := 8) hx hb hts hi_X8 hown hK hP 0 rfl (by decide) lk_X8_10 (fun _ h9 => h9) dX8_first_30 (by omega) CE_0 rfl ?_
      refine r_get (C := RX5) (T := TX5) (N := 8) (ci := 5) hx hb hts hi_X5 hown hK hP 2 rfl (by decide) lk_X8_114 (fun _ h9 => h9) dX8_first_33 (by omega) CE_1 rfl ?_
      refine lv_iload_n hx hb dX8_first_36 rfl (lv_at hl 1 rfl) ?_
      refine r_aald hx hb hK hP 5 rfl dX8_first_37 (by omega) rfl (by omega) (by omega) rfl ?_
      refine lv_astore hx hb dX8_first_38 hl (by decide) rfl (fun ls hl => ?_)
      replace hl : lv_has ls 7 [(0, _), (1, _), (2, _), (3, _), (4, _), (5, _)] := lv_sub hl [1, 2, 3, 4, 5, 0] rfl
      refine lv_aload_n hx hb dX8_first_40 rfl (lv_at hl 0 rfl) ?_
      refine lv_aload hx hb dX8_first_41 (lv_at hl 5 rfl) ?_
      refine lv_iload_n hx hb dX8_first_43 rfl (lv_at hl 2 rfl) ?_
      refine k_calliV (nL := 7) (C := RX8) (T := TX8) (N := 8) (ci := 8) hx hb hml hown hts hK hP hS hl.1 (c_X8_brokenFrom hi hI hT a1 a2 a4) rfl (Nat.le_of_ble_eq_true rfl) rfl (cwV 2 hts (gV lm_X8_162 ti_X8_brokenFrom tl_X8_brokenFrom tn_X8 tc_X8_brokenFrom) rfl rfl rfl (by decide +kernel) ⟨Nat.le_of_ble_eq_true rfl, Nat.le_of_ble_eq_true rfl⟩) rfl dX8_first_44 ⟨Nat.zero_le _, Nat.zero_le _⟩ (by omega) CE_0 (fun r44 E1 H locs hq hP hS => ?_)
      obtain ⟨rfl, τ1, rfl, hT1, hG1⟩ := hq
      have hs : sFirst σ w a n = lok σ w a := by rw [sFirst, cif_t ⟨c8, c23⟩]
      have hA : aFirst σ w a n = frA σ w a n := by rw [aFirst, cif_t c8, cif_t c23]
      refine r_if_ne (tgt := 52) hx hb (by omega) dX8_first_47 (by decide) (fun c47 => ?_) (fun c47 => ?_)
      · refine lv_iload_n hx hb dX8_first_52 rfl (lv_at hl 2 rfl) ?_
        refine r_const hx hb dX8_first_53 ?_
        refine r_add hx hb dX8_first_54 ?_
        refine lv_istore hx hb dX8_first_55 hl (by decide) rfl (fun ls hl => ?_)
        replace hl : lv_has ls 7 [(0, _), (1, _), (2, _), (3, _), (4, _), (5, _), (6, _)] := lv_sub hl [1, 2, 3, 4, 5, 6, 0] rfl
        have loop57 : ∀ (nn : Nat) (d : Int) (τ2 : Tb) (H : Heap) (locs : List Loc) (ls : Array Slot), va_P D vwCl (kw 189 ad (CE G ad (lok σ w a) τ2)) H → va_S (kA 189 ad) s.heap H locs → lv_has ls 7 [(0, .ref (ad 0)), (1, .int (iI w)), (2, .int (iI a)), (3, .int (iI n)), (5, .ref (ad (69 + w.toNat))), (6, .int (iI d))] → ((a < d ∧ d ≤ 400) ∧ (∀ x, a < x → x < d → rul1 (lok σ w a) w x False ≠ 0) ∧ TI τ2 ∧ LK (lok σ w a) τ2 w) → (400 - d).toNat < nn → Wg H locs (F0 m0 57 ls []) := by
          intro nn
          induction nn with
          | zero => intro d τ2 H locs ls _ _ _ _ hn; omega
          | succ nn ih57 =>
            intro d τ2 H locs ls hP hS hl hv57 hn57
            rw [hWg]
            obtain ⟨hv, hno, hT2, hG2⟩ := hv57
            refine lv_iload hx hb dX8_first_57 (lv_at hl 5 rfl) ?_
            refine lv_iload_n hx hb dX8_first_59 rfl (lv_at hl 2 rfl) ?_
            refine lv_iload_n hx hb dX8_first_60 rfl (lv_at hl 3 rfl) ?_
            refine r_add hx hb dX8_first_61 ?_
            have join97 : ∀  (H : Heap) (locs : List Loc) (ls : Array Slot), va_P D vwCl (kw 189 ad (CE G ad (lok σ w a) τ2)) H → va_S (kA 189 ad) s.heap H locs → lv_has ls 7 [(0, .ref (ad 0))] → (∀ x, a < x → x < a + n → x ≤ 399 → rul1 (lok σ w a) w x False ≠ 0) → Wg H locs (F0 m0 97 ls []) := by
              intro  H locs ls hP hS hl hv97
              rw [hWg]
              refine r_bipush hx hb dX8_first_97 (by decide +kernel) ?_
              exact k_iret hx hb hr hlocks hP hS dX8_first_99 ⟨by rw [hA, frA_f c47 hv97], τ2, by rw [hs], hT2⟩
            refine r_icmp_ge (tgt := 97) hx hb (by omega) (by omega) dX8_first_62 (by decide) (fun c62 => ?_) (fun c62 => ?_)
            · rw [← hWg]
              exact join97  _ _ _ hP hS (lv_sub hl [0] rfl) (fun x x1 x2 x3 => hno x x1 (by omega))
            · refine lv_iload hx hb dX8_first_65 (lv_at hl 5 rfl) ?_
              refine r_sipush hx hb dX8_first_67 (by decide +kernel) ?_
              refine r_icmp_gt (tgt := 97) hx hb (by omega) (by omega) dX8_first_70 (by decide) (fun c70 => ?_) (fun c70 => ?_)
              · rw [← hWg]
                exact join97  _ _ _ hP hS (lv_sub hl [0] rfl) (fun x x1 x2 x3 => hno x x1 (by omega))
              · refine lv_aload_n hx hb dX8_first_73 rfl (lv_at hl 0 rfl) ?_
                refine r_get (C := RX8) (T := TX8) (N := 8) (ci := 8) hx hb hts hi_X8 hown hK hP 3 rfl (by decide) lk_X8_37 (fun _ h9 => h9) dX8_first_74 (by omega) CE_0 rfl ?_
                refine lv_aload hx hb dX8_first_77 (lv_at hl 4 rfl) ?_
                refine lv_iload hx hb dX8_first_79 (lv_at hl 5 rfl) ?_
                refine r_const hx hb dX8_first_81 ?_
                refine k_calliV (nL := 7) (C := RX3) (T := TX3) (N := 5) (ci := 3) hx hb hml hown hts hK hP hS hl.1 (c_X3_broken (les := False) hi hI2.1 hw2 (by omega) (by omega) (fun _ => by rw [lok_t (by decide)]; exact a4) (by omega) hG2) rfl (Nat.le_of_ble_eq_true rfl) rfl (cwV 3 hts (gV lm_X8_176 ti_X3_broken tl_X3_broken tn_X3 tc_X3_broken) rfl rfl rfl (by decide +kernel) ⟨Nat.le_of_ble_eq_true rfl, Nat.le_of_ble_eq_true rfl⟩) rfl dX8_first_82 ⟨Nat.zero_le _, Nat.zero_le _⟩ (by omega) CE_4 (fun r82 E1 H locs hq hP hS => ?_)
                obtain ⟨hz, τ3, rfl, _, hF3⟩ := hq
                have hz2 : r82 = rul1 (lok σ w a) w d False := by rw [hz, rulF, cif_t (by omega)]
                have hr2 := rul1_r (σ := lok σ w a) (w := w) (d := d) (les := False)
                have hT3 : TI τ3 := by unfold TI; rw [hF3.2 4 (by decide) (by decide)]; exact hT2
                have hG3 : LK (lok σ w a) τ3 w := Gth_fr hG2 hF3
                refine r_if_ne (tgt := 91) hx hb (by omega) dX8_first_85 (by decide) (fun c85 => ?_) (fun c85 => ?_)
                · have hno2 : ∀ x, a < x → x < d + 1 → rul1 (lok σ w a) w x False ≠ 0 := by
                    intro x x1 x2
                    rcases (show x < d ∨ x = d by omega) with y | y
                    · exact hno x x1 y
                    · rw [y]; omega
                  refine r_iinc hx hb dX8_first_91 hl (k := 5) rfl (by decide) (fun ls hl => ?_)
                  replace hl : lv_has ls 7 [(0, _), (1, _), (2, _), (3, _), (5, _), (6, _)] := lv_sub hl [1, 2, 3, 4, 5, 0] rfl
                  refine lv_goto (tgt := 57) hx hb dX8_first_94 (by decide) ?_
                  rw [← hWg]
                  exact ih57 (d + 1) _ _ _ _ hP hS hl ⟨by omega, hno2, hT3, hG3⟩ (by omega)
                · have hok : frOk (lok σ w a) w a n d := ⟨by omega, by omega, hno⟩
                  refine lv_iload hx hb dX8_first_88 (lv_at hl 5 rfl) ?_
                  exact k_iret hx hb hr hlocks hP hS dX8_first_90 ⟨by rw [hA, frA_t c47 hok], τ3, by rw [hs], hT3⟩
        rw [← hWg]
        exact loop57 _ _ _ _ _ _ hP hS (lv_sub hl [0, 1, 2, 3, 5, 6] rfl) ⟨by omega, fun x x1 x2 => by omega, hT1, hG1⟩ (Nat.lt_succ_self _)
      · refine lv_iload_n hx hb dX8_first_50 rfl (lv_at hl 2 rfl) ?_
        exact k_iret hx hb hr hlocks hP hS dX8_first_51 ⟨by rw [hA, frA, cif_t (by omega)], τ1, by rw [hs], hT1⟩
    · refine lv_iload hx hb dX8_first_26 (lv_at hl 4 rfl) ?_
      exact k_iret hx hb hr hlocks hP hS dX8_first_28 ⟨by rw [aFirst, cif_t c8, cif_f c23], τ, by rw [sFirst, cif_f (fun z => c23 z.2)], hT⟩
  · refine r_const hx hb dX8_first_11 ?_
    exact k_iret hx hb hr hlocks hP hS dX8_first_12 ⟨by rw [aFirst, cif_f c8], τ, by rw [sFirst, cif_f (fun z => c8 z.1)], hT⟩
abbrev rmX8_permit : Room := { frames := 5, cells := 0, slots := 0, locals := 134 }
set_option maxRecDepth 100000 in
set_option maxHeartbeats 4000000 in
theorem c_X8_permit {l : Launch} {D : va_G} {G : Nat → ClassId} {ad : Nat → Nat} {σ τ : Tb} (hi : kInj 189 ad) {w d : Int} (hI : InvS σ) (hT : TI τ) (hw : (-2147483648 ≤ w ∧ w < 2147483648)) (hd : (-2147483648 ≤ d ∧ d < 2147483648)) : Met l yX8_permit wsX8_permit rmX8_permit (kPc D (tysG G) 189 ad (CE G ad σ τ) [.ref (ad 0), .int (iI w), .int (iI d)]) (kQi D 189 ad (fun z E' => z = aPermit σ w d ∧ ∃ τ', E' = CE G ad (sPermit σ w d) τ' ∧ TI τ')) 0 0 (kA 189 ad) := by
  refine k_met (cc := cX8_permit) (maxL := 5) (ret := (some .int)) (by decide) (Nat.le_of_ble_eq_true rfl) ?_
  intro P0 e0 s m0 below meth c0 ls hx hb hr hlocks hml hown hts hK hP hS hl
  replace hl : lv_has ls 5 [(0, _), (1, _), (2, _)] := hl
  replace hown : s.vm.findClass RX8 = some m0.cls := hown
  refine k_abs (fun Wg hWg => ?_)
  have h0 := Inv_0 hI.1
  have hrr := rfs_r (σ := σ) (w := w) (d := d)
  have hru := rul1_r (σ := σ) (w := w) (d := d) (les := False)
  refine lv_aload_n hx hb dX8_permit_0 rfl (lv_at hl 0 rfl) ?_
  refine lv_iload_n hx hb dX8_permit_1 rfl (lv_at hl 1 rfl) ?_
  refine lv_iload_n hx hb dX8_permit_2 rfl (lv_at hl 2 rfl) ?_
  refine k_calliV (nL := 5) (C := RX8) (T := TX8) (N := 8) (ci := 8) hx hb hml hown hts hK hP hS hl.1 (c_X8_refusalOf hi hI hw hd) rfl (Nat.le_of_ble_eq_true rfl) rfl (cwV 2 hts (gV lm_X8_158 ti_X8_refusalOf tl_X8_refusalOf tn_X8 tc_X8_refusalOf) rfl rfl rfl (by decide +kernel) ⟨Nat.le_of_ble_eq_true rfl, Nat.le_of_ble_eq_true rfl⟩) rfl dX8_permit_3 ⟨Nat.zero_le _, Nat.zero_le _⟩ (by omega) CE_0 (fun r3 E1 H locs hq hP hS => ?_)
  obtain ⟨rfl, rfl⟩ := hq
  refine lv_istore_n hx hb dX8_permit_6 rfl hl (by decide) rfl (fun ls hl => ?_)
  replace hl : lv_has ls 5 [(0, _), (1, _), (2, _), (3, _)] := lv_sub hl [1, 2, 3, 0] rfl
  refine lv_iload_n hx hb dX8_permit_7 rfl (lv_at hl 3 rfl) ?_
  refine r_if_eq (tgt := 13) hx hb (by omega) dX8_permit_8 (by decide) (fun c8 => ?_) (fun c8 => ?_)
  · obtain ⟨⟨a1, a2⟩, a3, a4⟩ := rfs_0.mp c8
    have a5 : 0 ≤ w ∧ w < σ 0 2 := a1
    obtain ⟨hN, _, _⟩ := Inv_w hI.1 a1
    unfold IN at hN
    refine lv_aload_n hx hb dX8_permit_13 rfl (lv_at hl 0 rfl) ?_
    refine lv_aload_n hx hb dX8_permit_14 rfl (lv_at hl 0 rfl) ?_
    refine r_get (C := RX8) (T := TX8) (N := 8) (ci := 8) hx hb hts hi_X8 hown hK hP 0 rfl (by decide) lk_X8_10 (fun _ h9 => h9) dX8_permit_15 (by omega) CE_0 rfl ?_
    refine r_get (C := RX5) (T := TX5) (N := 8) (ci := 5) hx hb hts hi_X5 hown hK hP 2 rfl (by decide) lk_X8_114 (fun _ h9 => h9) dX8_permit_18 (by omega) CE_1 rfl ?_
    refine lv_iload_n hx hb dX8_permit_21 rfl (lv_at hl 1 rfl) ?_
    refine r_aald hx hb hK hP 5 rfl dX8_permit_22 (by omega) rfl (by omega) (by omega) rfl ?_
    refine lv_iload_n hx hb dX8_permit_23 rfl (lv_at hl 2 rfl) ?_
    refine k_calliV (nL := 5) (C := RX8) (T := TX8) (N := 8) (ci := 8) hx hb hml hown hts hK hP hS hl.1 (c_X8_brokenFrom hi hI hT a1 a2 a4) rfl (Nat.le_of_ble_eq_true rfl) rfl (cwV 2 hts (gV lm_X8_162 ti_X8_brokenFrom tl_X8_brokenFrom tn_X8 tc_X8_brokenFrom) rfl rfl rfl (by decide +kernel) ⟨Nat.le_of_ble_eq_true rfl, Nat.le_of_ble_eq_true rfl⟩) rfl dX8_permit_24 ⟨Nat.zero_le _, Nat.zero_le _⟩ (by omega) CE_0 (fun r24 E1 H locs hq hP hS => ?_)
    obtain ⟨rfl, τ1, rfl, hT1, _⟩ := hq
    refine lv_istore hx hb dX8_permit_27 hl (by decide) rfl (fun ls hl => ?_)
    replace hl : lv_has ls 5 [(0, _), (1, _), (2, _), (3, _), (4, _)] := lv_sub hl [1, 2, 3, 4, 0] rfl
    refine lv_iload hx hb dX8_permit_29 (lv_at hl 4 rfl) ?_
    refine r_if_eq (tgt := 40) hx hb (by omega) dX8_permit_31 (by decide) (fun c31 => ?_) (fun c31 => ?_)
    · have hlk : lok σ w d = σ := by rw [lok, cif_t c31]
      rw [hlk] at hP
      refine lv_aload_n hx hb dX8_permit_40 rfl (lv_at hl 0 rfl) ?_
      refine r_get (C := RX8) (T := TX8) (N := 8) (ci := 8) hx hb hts hi_X8 hown hK hP 0 rfl (by decide) lk_X8_10 (fun _ h9 => h9) dX8_permit_41 (by omega) CE_0 rfl ?_
      refine lv_aload_n hx hb dX8_permit_44 rfl (lv_at hl 0 rfl) ?_
      refine r_get (C := RX8) (T := TX8) (N := 8) (ci := 8) hx hb hts hi_X8 hown hK hP 0 rfl (by decide) lk_X8_10 (fun _ h9 => h9) dX8_permit_45 (by omega) CE_0 rfl ?_
      refine r_get (C := RX5) (T := TX5) (N := 8) (ci := 5) hx hb hts hi_X5 hown hK hP 2 rfl (by decide) lk_X8_114 (fun _ h9 => h9) dX8_permit_48 (by omega) CE_1 rfl ?_
      refine lv_iload_n hx hb dX8_permit_51 rfl (lv_at hl 1 rfl) ?_
      refine r_aald hx hb hK hP 5 rfl dX8_permit_52 (by omega) rfl (by omega) (by omega) rfl ?_
      refine lv_iload_n hx hb dX8_permit_53 rfl (lv_at hl 2 rfl) ?_
      refine k_callvV (nL := 5) (C := RX5) (T := TX5) (N := 8) (ci := 5) hx hb hml hown hts hK hP hS hl.1 (c_X5_permitFrom hi (by omega) (by omega) (by omega) (by omega)) rfl (Nat.le_of_ble_eq_true rfl) rfl (cwV 2 hts (gV lm_X8_180 ti_X5_permitFrom tl_X5_permitFrom tn_X5 tc_X5_permitFrom) rfl rfl rfl (by decide +kernel) ⟨Nat.le_of_ble_eq_true rfl, Nat.le_of_ble_eq_true rfl⟩) rfl dX8_permit_54 ⟨Nat.zero_le _, Nat.zero_le _⟩ (by omega) CE_1 (fun E1 H locs hq hP hS => ?_)
      subst hq
      refine r_const hx hb dX8_permit_57 ?_
      exact k_iret hx hb hr hlocks hP hS dX8_permit_58 ⟨by rw [aPermit, cif_t c8, cif_t c31], τ1, by rw [sPermit, cif_t c8, cif_t c31], hT1⟩
    · refine r_bipush hx hb dX8_permit_34 (by decide +kernel) ?_
      refine lv_iload hx hb dX8_permit_36 (lv_at hl 4 rfl) ?_
      refine r_sub hx hb dX8_permit_38 ?_
      exact k_iret hx hb hr hlocks hP hS dX8_permit_39 ⟨by rw [aPermit, cif_t c8, cif_f c31], τ1, by rw [sPermit, cif_t c8, cif_f c31], hT1⟩
  · refine lv_iload_n hx hb dX8_permit_11 rfl (lv_at hl 3 rfl) ?_
    exact k_iret hx hb hr hlocks hP hS dX8_permit_12 ⟨by rw [aPermit, cif_f c8], τ, by rw [sPermit, cif_f c8], hT⟩
abbrev rmX8_withdraw : Room := { frames := 2, cells := 0, slots := 0, locals := 42 }
set_option maxRecDepth 100000 in
set_option maxHeartbeats 4000000 in
theorem c_X8_withdraw {l : Launch} {D : va_G} {G : Nat → ClassId} {ad : Nat → Nat} {σ τ : Tb} (hi : kInj 189 ad) {w : Int} (hI : InvS σ) (hT : TI τ) (hw : (-2147483648 ≤ w ∧ w < 2147483648)) : Met l yX8_withdraw wsX8_withdraw rmX8_withdraw (kPc D (tysG G) 189 ad (CE G ad σ τ) [.ref (ad 0), .int (iI w)]) (kQi D 189 ad (fun z E' => z = aWdr σ w ∧ ∃ τ', E' = CE G ad (sWdr σ w) τ' ∧ TI τ')) 0 0 (kA 189 ad) := by
  refine k_met (cc := cX8_withdraw) (maxL := 2) (ret := (some .int)) (by decide) (Nat.le_of_ble_eq_true rfl) ?_
  intro P0 e0 s m0 below meth c0 ls hx hb hr hlocks hml hown hts hK hP hS hl
  replace hl : lv_has ls 2 [(0, _), (1, _)] := hl
  replace hown : s.vm.findClass RX8 = some m0.cls := hown
  refine k_abs (fun Wg hWg => ?_)
  have h0 := Inv_0 hI.1
  refine lv_aload_n hx hb dX8_withdraw_0 rfl (lv_at hl 0 rfl) ?_
  refine r_get (C := RX8) (T := TX8) (N := 8) (ci := 8) hx hb hts hi_X8 hown hK hP 0 rfl (by decide) lk_X8_10 (fun _ h9 => h9) dX8_withdraw_1 (by omega) CE_0 rfl ?_
  refine lv_iload_n hx hb dX8_withdraw_4 rfl (lv_at hl 1 rfl) ?_
  refine k_calliV (nL := 2) (C := RX5) (T := TX5) (N := 8) (ci := 5) hx hb hml hown hts hK hP hS hl.1 (c_X5_hasWork hi hw h0.2.2.1) rfl (Nat.le_of_ble_eq_true rfl) rfl (cwV 1 hts (gV lm_X8_143 ti_X5_hasWork tl_X5_hasWork tn_X5 tc_X5_hasWork) rfl rfl rfl (by decide +kernel) ⟨Nat.le_of_ble_eq_true rfl, Nat.le_of_ble_eq_true rfl⟩) rfl dX8_withdraw_5 ⟨Nat.zero_le _, Nat.zero_le _⟩ (by omega) CE_1 (fun r5 E1 H locs hq hP hS => ?_)
  obtain ⟨rfl, rfl⟩ := hq
  refine r_ifB_ne (tgt := 13) hx hb dX8_withdraw_8 (by decide) (fun c8 => ?_) (fun c8 => ?_)
  · obtain ⟨hN, _, _⟩ := Inv_w hI.1 c8
    have hJ := IJ_r hI.1 c8
    unfold IN at hN
    refine lv_aload_n hx hb dX8_withdraw_13 rfl (lv_at hl 0 rfl) ?_
    refine r_get (C := RX8) (T := TX8) (N := 8) (ci := 8) hx hb hts hi_X8 hown hK hP 0 rfl (by decide) lk_X8_10 (fun _ h9 => h9) dX8_withdraw_14 (by omega) CE_0 rfl ?_
    refine r_get (C := RX5) (T := TX5) (N := 8) (ci := 5) hx hb hts hi_X5 hown hK hP 2 rfl (by decide) lk_X8_114 (fun _ h9 => h9) dX8_withdraw_17 (by omega) CE_1 rfl ?_
    refine lv_iload_n hx hb dX8_withdraw_20 rfl (lv_at hl 1 rfl) ?_
    refine r_aald hx hb hK hP 5 rfl dX8_withdraw_21 (by omega) rfl (by omega) (by omega) rfl ?_
    refine k_calliV (nL := 2) (C := RX7) (T := TX7) (N := 16) (ci := 7) hx hb hml hown hts hK hP hS hl.1 (c_X7_isOpen hi (by omega) (by omega)) rfl (Nat.le_of_ble_eq_true rfl) rfl (cwV 0 hts (gV lm_X8_184 ti_X7_isOpen tl_X7_isOpen tn_X7 tc_X7_isOpen) rfl rfl rfl (by decide +kernel) ⟨Nat.le_of_ble_eq_true rfl, Nat.le_of_ble_eq_true rfl⟩) rfl dX8_withdraw_22 ⟨Nat.zero_le _, Nat.zero_le _⟩ (by omega) (CE_w (by omega)) (fun r22 E1 H locs hq hP hS => ?_)
    obtain ⟨rfl, rfl⟩ := hq
    refine r_ifB_ne (tgt := 31) hx hb dX8_withdraw_25 (by decide) (fun c25 => ?_) (fun c25 => ?_)
    · refine lv_aload_n hx hb dX8_withdraw_31 rfl (lv_at hl 0 rfl) ?_
      refine r_get (C := RX8) (T := TX8) (N := 8) (ci := 8) hx hb hts hi_X8 hown hK hP 0 rfl (by decide) lk_X8_10 (fun _ h9 => h9) dX8_withdraw_32 (by omega) CE_0 rfl ?_
      refine lv_aload_n hx hb dX8_withdraw_35 rfl (lv_at hl 0 rfl) ?_
      refine r_get (C := RX8) (T := TX8) (N := 8) (ci := 8) hx hb hts hi_X8 hown hK hP 0 rfl (by decide) lk_X8_10 (fun _ h9 => h9) dX8_withdraw_36 (by omega) CE_0 rfl ?_
      refine r_get (C := RX5) (T := TX5) (N := 8) (ci := 5) hx hb hts hi_X5 hown hK hP 2 rfl (by decide) lk_X8_114 (fun _ h9 => h9) dX8_withdraw_39 (by omega) CE_1 rfl ?_
      refine lv_iload_n hx hb dX8_withdraw_42 rfl (lv_at hl 1 rfl) ?_
      refine r_aald hx hb hK hP 5 rfl dX8_withdraw_43 (by omega) rfl (by omega) (by omega) rfl ?_
      refine k_callvV (nL := 2) (C := RX5) (T := TX5) (N := 8) (ci := 5) hx hb hml hown hts hK hP hS hl.1 (c_X5_drop hi (by omega) (by omega) (by omega)) rfl (Nat.le_of_ble_eq_true rfl) rfl (cwV 1 hts (gV lm_X8_188 ti_X5_drop tl_X5_drop tn_X5 tc_X5_drop) rfl rfl rfl (by decide +kernel) ⟨Nat.le_of_ble_eq_true rfl, Nat.le_of_ble_eq_true rfl⟩) rfl dX8_withdraw_44 ⟨Nat.zero_le _, Nat.zero_le _⟩ (by omega) CE_1 (fun E1 H locs hq hP hS => ?_)
      subst hq
      refine r_const hx hb dX8_withdraw_47 ?_
      exact k_iret hx hb hr hlocks hP hS dX8_withdraw_48 ⟨by rw [aWdr, lvW, cif_t c8, cif_t c25], τ, by rw [sWdr, cif_t ⟨c8, c25⟩], hT⟩
    · refine r_bipush hx hb dX8_withdraw_28 (by decide +kernel) ?_
      exact k_iret hx hb hr hlocks hP hS dX8_withdraw_30 ⟨by rw [aWdr, lvW, cif_t c8, cif_f c25], τ, by rw [sWdr, cif_f (fun z => c25 z.2)], hT⟩
  · refine r_const hx hb dX8_withdraw_11 ?_
    exact k_iret hx hb hr hlocks hP hS dX8_withdraw_12 ⟨by rw [aWdr, lvW, cif_f c8], τ, by rw [sWdr, cif_f (fun z => c8 z.1)], hT⟩
theorem itD_s {σ : Tb} {i : Int} (h : 0 ≤ i) : itD σ (i + 1).toNat = psN (itD σ i.toNat) (itD σ i.toNat 0 2) := by
  rw [show (i + 1).toNat = i.toNat + 1 by omega]
  rfl
abbrev rmX8_day : Room := { frames := 1, cells := 0, slots := 0, locals := 22 }
set_option maxRecDepth 100000 in
set_option maxHeartbeats 4000000 in
theorem c_X8_day {l : Launch} {D : va_G} {G : Nat → ClassId} {ad : Nat → Nat} {σ τ : Tb} (hi : kInj 189 ad) {n : Int} (hI : InvS σ) (hT : TI τ) (hn : (-2147483648 ≤ n ∧ n < 2147483648)) : Met l yX8_day wsX8_day rmX8_day (kPc D (tysG G) 189 ad (CE G ad σ τ) [.ref (ad 0), .int (iI n)]) (kQi D 189 ad (fun z E' => z = aDay σ n ∧ ∃ τ', E' = CE G ad (sDay σ n) τ' ∧ TI τ')) 0 0 (kA 189 ad) := by
  refine k_met (cc := cX8_day) (maxL := 3) (ret := (some .int)) (by decide) (Nat.le_of_ble_eq_true rfl) ?_
  intro P0 e0 s m0 below meth c0 ls hx hb hr hlocks hml hown hts hK hP hS hl
  replace hl : lv_has ls 3 [(0, _), (1, _)] := hl
  replace hown : s.vm.findClass RX8 = some m0.cls := hown
  refine k_abs (fun Wg hWg => ?_)
  have h0 := Inv_0 hI.1
  refine lv_iload_n hx hb dX8_day_0 rfl (lv_at hl 1 rfl) ?_
  refine r_const hx hb dX8_day_1 ?_
  refine r_bipush hx hb dX8_day_2 (by decide +kernel) ?_
  refine k_calliS (nL := 3) hx hb hml hown hts hK hP hS hl.1 (c_X8_within hi hn (by omega) (by omega)) rfl (Nat.le_of_ble_eq_true rfl) (va_cwS 3 hts (gS lm_X8_54 ts_X8_within tn_X8 tc_X8_within) rfl rfl rfl (by decide +kernel) ⟨Nat.le_of_ble_eq_true rfl, Nat.le_of_ble_eq_true rfl⟩) rfl dX8_day_4 ⟨Nat.zero_le _, Nat.zero_le _⟩ (fun r4 E1 H locs hq hP hS => ?_)
  obtain ⟨rfl, rfl⟩ := hq
  refine r_ifB_eq (tgt := 25) hx hb dX8_day_7 (by decide) (fun c7 => ?_) (fun c7 => ?_)
  · refine r_const hx hb dX8_day_25 ?_
    exact k_iret hx hb hr hlocks hP hS dX8_day_26 ⟨by rw [aDay, cif_f (fun z => c7 z.1)], τ, by rw [sDay, cif_f (fun z => c7 z.1)], hT⟩
  · refine lv_aload_n hx hb dX8_day_10 rfl (lv_at hl 0 rfl) ?_
    refine r_get (C := RX8) (T := TX8) (N := 8) (ci := 8) hx hb hts hi_X8 hown hK hP 0 rfl (by decide) lk_X8_10 (fun _ h9 => h9) dX8_day_11 (by omega) CE_0 rfl ?_
    refine r_get (C := RX5) (T := TX5) (N := 8) (ci := 5) hx hb hts hi_X5 hown hK hP 7 rfl (by decide) lk_X8_192 (fun _ h9 => h9) dX8_day_14 (by omega) CE_1 rfl ?_
    refine lv_iload_n hx hb dX8_day_17 rfl (lv_at hl 1 rfl) ?_
    refine r_add hx hb dX8_day_18 ?_
    refine r_sipush hx hb dX8_day_19 (by decide +kernel) ?_
    refine r_icmp_le (tgt := 27) hx hb (by omega) (by omega) dX8_day_22 (by decide) (fun c22 => ?_) (fun c22 => ?_)
    · have hv : vD σ n := ⟨c7, by omega⟩
      refine r_const hx hb dX8_day_27 ?_
      refine lv_istore_n hx hb dX8_day_28 rfl hl (by decide) rfl (fun ls hl => ?_)
      replace hl : lv_has ls 3 [(0, _), (1, _), (2, _)] := lv_sub hl [1, 2, 0] rfl
      have loop29 : ∀ (nn : Nat) (i : Int) (H : Heap) (locs : List Loc) (ls : Array Slot), va_P D vwCl (kw 189 ad (CE G ad (itD σ i.toNat) τ)) H → va_S (kA 189 ad) s.heap H locs → lv_has ls 3 [(0, .ref (ad 0)), (1, .int (iI n)), (2, .int (iI i))] → (0 ≤ i ∧ i ≤ n) → (n - i).toNat < nn → Wg H locs (F0 m0 29 ls []) := by
        intro nn
        induction nn with
        | zero => intro i H locs ls _ _ _ _ hn; omega
        | succ nn ih29 =>
          intro i H locs ls hP hS hl hv29 hn29
          rw [hWg]
          have hIi := InvS_itD hI i.toNat (by omega)
          obtain ⟨hi1, hi2⟩ := itD_0 (σ := σ) i.toNat
          refine lv_iload_n hx hb dX8_day_29 rfl (lv_at hl 2 rfl) ?_
          refine lv_iload_n hx hb dX8_day_30 rfl (lv_at hl 1 rfl) ?_
          refine r_icmp_ge (tgt := 47) hx hb (by omega) (by omega) dX8_day_31 (by decide) (fun c31 => ?_) (fun c31 => ?_)
          · obtain rfl : i = n := by omega
            refine lv_aload_n hx hb dX8_day_47 rfl (lv_at hl 0 rfl) ?_
            refine r_get (C := RX8) (T := TX8) (N := 8) (ci := 8) hx hb hts hi_X8 hown hK hP 0 rfl (by decide) lk_X8_10 (fun _ h9 => h9) dX8_day_48 (by omega) CE_0 rfl ?_
            refine r_get (C := RX5) (T := TX5) (N := 8) (ci := 5) hx hb hts hi_X5 hown hK hP 7 rfl (by decide) lk_X8_192 (fun _ h9 => h9) dX8_day_51 (by omega) CE_1 rfl ?_
            rw [hi2]
            exact k_iret hx hb hr hlocks hP hS dX8_day_54 ⟨by rw [aDay, cif_t hv]; omega, τ, by rw [sDay, cif_t hv], hT⟩
          · refine lv_aload_n hx hb dX8_day_34 rfl (lv_at hl 0 rfl) ?_
            refine r_get (C := RX8) (T := TX8) (N := 8) (ci := 8) hx hb hts hi_X8 hown hK hP 0 rfl (by decide) lk_X8_10 (fun _ h9 => h9) dX8_day_35 (by omega) CE_0 rfl ?_
            refine k_callvV (nL := 3) (C := RX5) (T := TX5) (N := 8) (ci := 5) hx hb hml hown hts hK hP hS hl.1 (c_X5_passDay hi hIi.1) rfl (Nat.le_of_ble_eq_true rfl) rfl (cwV 0 hts (gV lm_X8_195 ti_X5_passDay tl_X5_passDay tn_X5 tc_X5_passDay) rfl rfl rfl (by decide +kernel) ⟨Nat.le_of_ble_eq_true rfl, Nat.le_of_ble_eq_true rfl⟩) rfl dX8_day_38 ⟨Nat.zero_le _, Nat.zero_le _⟩ (by omega) CE_1 (fun E1 H locs hq hP hS => ?_)
            subst hq
            rw [← itD_s (by omega)] at hP
            refine r_iinc hx hb dX8_day_41 hl (k := 2) rfl (by decide) (fun ls hl => ?_)
            replace hl : lv_has ls 3 [(0, _), (1, _), (2, _)] := lv_sub hl [1, 2, 0] rfl
            refine lv_goto (tgt := 29) hx hb dX8_day_44 (by decide) ?_
            rw [← hWg]
            exact ih29 (i + 1) _ _ _ hP hS hl (by omega) (by omega)
      rw [← hWg]
      exact loop29 _ 0 _ _ _ hP hS hl (by omega) (Nat.lt_succ_self _)
    · refine r_const hx hb dX8_day_25 ?_
      exact k_iret hx hb hr hlocks hP hS dX8_day_26 ⟨by rw [aDay, cif_f (fun z => by have := z.2; omega)], τ, by rw [sDay, cif_f (fun z => by have := z.2; omega)], hT⟩
abbrev rmX8_over : Room := { frames := 6, cells := 0, slots := 0, locals := 156 }
set_option maxRecDepth 100000 in
set_option maxHeartbeats 4000000 in
theorem c_X8_over {l : Launch} {D : va_G} {G : Nat → ClassId} {ad : Nat → Nat} {σ τ : Tb} (hi : kInj 189 ad) {w n : Int} (hI : InvS σ) (hT : TI τ) (hw : (-2147483648 ≤ w ∧ w < 2147483648)) (hn : (-2147483648 ≤ n ∧ n < 2147483648)) : Met l yX8_over wsX8_over rmX8_over (kPc D (tysG G) 189 ad (CE G ad σ τ) [.ref (ad 0), .int (iI w), .int (iI n)]) (kQi D 189 ad (fun z E' => z = aOver σ w n ∧ ∃ τ', E' = CE G ad (sOver σ w n) τ' ∧ TI τ')) 0 0 (kA 189 ad) := by
  refine k_met (cc := cX8_over) (maxL := 5) (ret := (some .int)) (by decide) (Nat.le_of_ble_eq_true rfl) ?_
  intro P0 e0 s m0 below meth c0 ls hx hb hr hlocks hml hown hts hK hP hS hl
  replace hl : lv_has ls 5 [(0, _), (1, _), (2, _)] := hl
  replace hown : s.vm.findClass RX8 = some m0.cls := hown
  refine k_abs (fun Wg hWg => ?_)
  have h0 := Inv_0 hI.1
  have hbad : ¬ (lvW σ w ∧ (1 ≤ n ∧ n ≤ 30)) → (-1 : Int) = aOver σ w n ∧ ∃ τ', CE G ad σ τ = CE G ad (sOver σ w n) τ' ∧ TI τ' := fun q => ⟨by rw [aOver, cif_f q], τ, by rw [sOver, cif_f (fun z => q z.1)], hT⟩
  refine lv_aload_n hx hb dX8_over_0 rfl (lv_at hl 0 rfl) ?_
  refine r_get (C := RX8) (T := TX8) (N := 8) (ci := 8) hx hb hts hi_X8 hown hK hP 0 rfl (by decide) lk_X8_10 (fun _ h9 => h9) dX8_over_1 (by omega) CE_0 rfl ?_
  refine lv_iload_n hx hb dX8_over_4 rfl (lv_at hl 1 rfl) ?_
  refine k_calliV (nL := 5) (C := RX5) (T := TX5) (N := 8) (ci := 5) hx hb hml hown hts hK hP hS hl.1 (c_X5_hasWork hi hw h0.2.2.1) rfl (Nat.le_of_ble_eq_true rfl) rfl (cwV 1 hts (gV lm_X8_143 ti_X5_hasWork tl_X5_hasWork tn_X5 tc_X5_hasWork) rfl rfl rfl (by decide +kernel) ⟨Nat.le_of_ble_eq_true rfl, Nat.le_of_ble_eq_true rfl⟩) rfl dX8_over_5 ⟨Nat.zero_le _, Nat.zero_le _⟩ (by omega) CE_1 (fun r5 E1 H locs hq hP hS => ?_)
  obtain ⟨rfl, rfl⟩ := hq
  refine r_ifB_eq (tgt := 21) hx hb dX8_over_8 (by decide) (fun c8 => ?_) (fun c8 => ?_)
  · refine r_const hx hb dX8_over_21 ?_
    exact k_iret hx hb hr hlocks hP hS dX8_over_22 (hbad (fun q => c8 q.1))
  · refine lv_iload_n hx hb dX8_over_11 rfl (lv_at hl 2 rfl) ?_
    refine r_const hx hb dX8_over_12 ?_
    refine r_bipush hx hb dX8_over_13 (by decide +kernel) ?_
    refine k_calliS (nL := 5) hx hb hml hown hts hK hP hS hl.1 (c_X8_within hi hn (by omega) (by omega)) rfl (Nat.le_of_ble_eq_true rfl) (va_cwS 3 hts (gS lm_X8_54 ts_X8_within tn_X8 tc_X8_within) rfl rfl rfl (by decide +kernel) ⟨Nat.le_of_ble_eq_true rfl, Nat.le_of_ble_eq_true rfl⟩) rfl dX8_over_15 ⟨Nat.zero_le _, Nat.zero_le _⟩ (fun r15 E1 H locs hq hP hS => ?_)
    obtain ⟨rfl, rfl⟩ := hq
    refine r_ifB_ne (tgt := 23) hx hb dX8_over_18 (by decide) (fun c18 => ?_) (fun c18 => ?_)
    · obtain ⟨hN, _, _⟩ := Inv_w hI.1 c8
      have hB := IN_b hI.1 c8
      unfold IN at hN
      refine lv_aload_n hx hb dX8_over_23 rfl (lv_at hl 0 rfl) ?_
      refine r_get (C := RX8) (T := TX8) (N := 8) (ci := 8) hx hb hts hi_X8 hown hK hP 0 rfl (by decide) lk_X8_10 (fun _ h9 => h9) dX8_over_24 (by omega) CE_0 rfl ?_
      refine r_get (C := RX5) (T := TX5) (N := 8) (ci := 5) hx hb hts hi_X5 hown hK hP 2 rfl (by decide) lk_X8_114 (fun _ h9 => h9) dX8_over_27 (by omega) CE_1 rfl ?_
      refine lv_iload_n hx hb dX8_over_30 rfl (lv_at hl 1 rfl) ?_
      refine r_aald hx hb hK hP 5 rfl dX8_over_31 (by omega) rfl (by omega) (by omega) rfl ?_
      refine lv_astore_n hx hb dX8_over_32 rfl hl (by decide) rfl (fun ls hl => ?_)
      replace hl : lv_has ls 5 [(0, _), (1, _), (2, _), (3, _)] := lv_sub hl [1, 2, 3, 0] rfl
      refine lv_aload_n hx hb dX8_over_33 rfl (lv_at hl 3 rfl) ?_
      refine r_get (C := RX7) (T := TX7) (N := 16) (ci := 7) hx hb hts hi_X7 hown hK hP 10 rfl (by decide) lk_X8_149 (fun _ h9 => h9) dX8_over_34 (by omega) (CE_w (by omega)) rfl ?_
      refine r_const hx hb dX8_over_37 ?_
      refine r_icmp_eq (tgt := 44) hx hb (by omega) (by omega) dX8_over_38 (by decide) (fun c38 => ?_) (fun c38 => ?_)
      · have hIo := InvS_ovr hI c8 c38 c18
        refine r_sipush hx hb dX8_over_44 (by decide +kernel) ?_
        refine lv_aload_n hx hb dX8_over_47 rfl (lv_at hl 3 rfl) ?_
        refine r_get (C := RX7) (T := TX7) (N := 16) (ci := 7) hx hb hts hi_X7 hown hK hP 12 rfl (by decide) lk_X8_198 (fun _ h9 => h9) dX8_over_48 (by omega) (CE_w (by omega)) rfl ?_
        refine lv_iload_n hx hb dX8_over_51 rfl (lv_at hl 2 rfl) ?_
        refine r_add hx hb dX8_over_52 ?_
        refine r_mmin hx hb hml hl.1 hown hts mm_X8_201 (Nat.le_of_ble_eq_true rfl) (Nat.le_of_ble_eq_true rfl) ⟨Nat.zero_le _, Nat.zero_le _⟩ (by omega) (by omega) dX8_over_53 ?_
        have eo : (up (up σ 22 w (σ 22 w + ((if σ 21 w + n < 399 then σ 21 w + n else 399) - σ 21 w))) 21 w (if σ 21 w + n < 399 then σ 21 w + n else 399)) = ovr σ w n := rfl
        refine lv_istore hx hb dX8_over_56 hl (by decide) rfl (fun ls hl => ?_)
        replace hl : lv_has ls 5 [(0, _), (1, _), (2, _), (3, _), (4, _)] := lv_sub hl [1, 2, 3, 4, 0] rfl
        refine lv_aload_n hx hb dX8_over_58 rfl (lv_at hl 3 rfl) ?_
        refine lv_dup hx hb dX8_over_59 rfl ?_
        refine r_get (C := RX7) (T := TX7) (N := 16) (ci := 7) hx hb hts hi_X7 hown hK hP 13 rfl (by decide) lk_X8_206 (fun _ h9 => h9) dX8_over_60 (by omega) (CE_w (by omega)) rfl ?_
        refine lv_iload hx hb dX8_over_63 (lv_at hl 4 rfl) ?_
        refine lv_aload_n hx hb dX8_over_65 rfl (lv_at hl 3 rfl) ?_
        refine r_get (C := RX7) (T := TX7) (N := 16) (ci := 7) hx hb hts hi_X7 hown hK hP 12 rfl (by decide) lk_X8_198 (fun _ h9 => h9) dX8_over_66 (by omega) (CE_w (by omega)) rfl ?_
        refine r_sub hx hb dX8_over_69 ?_
        refine r_add hx hb dX8_over_70 ?_
        refine r_put (C := RX7) (T := TX7) (N := 16) (ci := 7) hx hb hi hts hi_X7 tyX7 tyX7_ok nmX7 hown hK hP hS 13 rfl (by decide) lk_X8_206 (fun _ h9 => h9) rfl (ty := .int) (by decide +kernel) rfl rfl dX8_over_71 (by omega) (CE_w (by omega)) (Nat.le_of_ble_eq_true rfl) (cu_w_over (by omega)) (fun H locs hP hS => ?_)
        refine lv_aload_n hx hb dX8_over_74 rfl (lv_at hl 3 rfl) ?_
        refine lv_iload hx hb dX8_over_75 (lv_at hl 4 rfl) ?_
        refine r_put (C := RX7) (T := TX7) (N := 16) (ci := 7) hx hb hi hts hi_X7 tyX7 tyX7_ok nmX7 hown hK hP hS 12 rfl (by decide) lk_X8_198 (fun _ h9 => h9) rfl (ty := .int) (by decide +kernel) rfl rfl dX8_over_77 (by omega) (CE_w (by omega)) (Nat.le_of_ble_eq_true rfl) (cu_w_last (by omega)) (fun H locs hP hS => ?_)
        refine lv_aload_n hx hb dX8_over_80 rfl (lv_at hl 0 rfl) ?_
        refine r_get (C := RX8) (T := TX8) (N := 8) (ci := 8) hx hb hts hi_X8 hown hK hP 4 rfl (by decide) lk_X8_46 (fun _ h9 => h9) dX8_over_81 (by omega) CE_0 rfl ?_
        rw [eo] at hP
        refine k_calliV (nL := 5) (C := RX4) (T := TX4) (N := 3) (ci := 4) hx hb hml hown hts hK hP hS hl.1 (c_X4_moveBroken hi hIo.1) rfl (Nat.le_of_ble_eq_true rfl) rfl (cwV 0 hts (gV lm_X8_209 ti_X4_moveBroken tl_X4_moveBroken tn_X4 tc_X4_moveBroken) rfl rfl rfl (by decide +kernel) ⟨Nat.le_of_ble_eq_true rfl, Nat.le_of_ble_eq_true rfl⟩) rfl dX8_over_84 ⟨Nat.zero_le _, Nat.zero_le _⟩ (by omega) CE_5 (fun r84 E1 H locs hq hP hS => ?_)
        obtain ⟨rfl, τ1, rfl, hb4⟩ := hq
        rw [ovr_02] at hP ⊢
        exact k_iret hx hb hr hlocks hP hS dX8_over_87 ⟨by rw [aOver, cif_t ⟨c8, c18⟩, cif_t c38], τ1, by rw [sOver, cif_t ⟨⟨c8, c18⟩, c38⟩], by unfold TI; rw [hb4]; exact hT⟩
      · refine r_bipush hx hb dX8_over_41 (by decide +kernel) ?_
        exact k_iret hx hb hr hlocks hP hS dX8_over_43 ⟨by rw [aOver, cif_t ⟨c8, c18⟩, cif_f c38], τ, by rw [sOver, cif_f (fun z => c38 z.2)], hT⟩
    · refine r_const hx hb dX8_over_21 ?_
      exact k_iret hx hb hr hlocks hP hS dX8_over_22 (hbad (fun q => c18 q.2))
abbrev rmX8_crash : Room := { frames := 6, cells := 0, slots := 0, locals := 156 }
set_option maxRecDepth 100000 in
set_option maxHeartbeats 4000000 in
theorem c_X8_crash {l : Launch} {D : va_G} {G : Nat → ClassId} {ad : Nat → Nat} {σ τ : Tb} (hi : kInj 189 ad) {w : Int} (hI : InvS σ) (hT : TI τ) (hw : (-2147483648 ≤ w ∧ w < 2147483648)) : Met l yX8_crash wsX8_crash rmX8_crash (kPc D (tysG G) 189 ad (CE G ad σ τ) [.ref (ad 0), .int (iI w)]) (kQi D 189 ad (fun z E' => z = aCrash σ w ∧ ∃ τ', E' = CE G ad (sCrash σ w) τ' ∧ TI τ')) 0 0 (kA 189 ad) := by
  refine k_met (cc := cX8_crash) (maxL := 3) (ret := (some .int)) (by decide) (Nat.le_of_ble_eq_true rfl) ?_
  intro P0 e0 s m0 below meth c0 ls hx hb hr hlocks hml hown hts hK hP hS hl
  replace hl : lv_has ls 3 [(0, _), (1, _)] := hl
  replace hown : s.vm.findClass RX8 = some m0.cls := hown
  refine k_abs (fun Wg hWg => ?_)
  have h0 := Inv_0 hI.1
  refine lv_aload_n hx hb dX8_crash_0 rfl (lv_at hl 0 rfl) ?_
  refine r_get (C := RX8) (T := TX8) (N := 8) (ci := 8) hx hb hts hi_X8 hown hK hP 0 rfl (by decide) lk_X8_10 (fun _ h9 => h9) dX8_crash_1 (by omega) CE_0 rfl ?_
  refine lv_iload_n hx hb dX8_crash_4 rfl (lv_at hl 1 rfl) ?_
  refine k_calliV (nL := 3) (C := RX5) (T := TX5) (N := 8) (ci := 5) hx hb hml hown hts hK hP hS hl.1 (c_X5_hasWork hi hw h0.2.2.1) rfl (Nat.le_of_ble_eq_true rfl) rfl (cwV 1 hts (gV lm_X8_143 ti_X5_hasWork tl_X5_hasWork tn_X5 tc_X5_hasWork) rfl rfl rfl (by decide +kernel) ⟨Nat.le_of_ble_eq_true rfl, Nat.le_of_ble_eq_true rfl⟩) rfl dX8_crash_5 ⟨Nat.zero_le _, Nat.zero_le _⟩ (by omega) CE_1 (fun r5 E1 H locs hq hP hS => ?_)
  obtain ⟨rfl, rfl⟩ := hq
  refine r_ifB_ne (tgt := 13) hx hb dX8_crash_8 (by decide) (fun c8 => ?_) (fun c8 => ?_)
  · obtain ⟨hN, _, _⟩ := Inv_w hI.1 c8
    unfold IN at hN
    have join38 : ∀  (H : Heap) (locs : List Loc) (ls : Array Slot), va_P D vwCl (kw 189 ad (CE G ad σ τ)) H → va_S (kA 189 ad) s.heap H locs → lv_has ls 3 [(0, .ref (ad 0)), (1, .int (iI w))] → (¬ (σ 12 w = 2 ∧ σ 19 w = 0)) → Wg H locs (F0 m0 38 ls []) := by
      intro  H locs ls hP hS hl hv38
      rw [hWg]
      refine r_bipush hx hb dX8_crash_38 (by decide +kernel) ?_
      exact k_iret hx hb hr hlocks hP hS dX8_crash_40 ⟨by rw [aCrash, lvW, cif_t c8, cif_f hv38], τ, by rw [sCrash, cif_f (fun z => hv38 z.2)], hT⟩
    refine lv_aload_n hx hb dX8_crash_13 rfl (lv_at hl 0 rfl) ?_
    refine r_get (C := RX8) (T := TX8) (N := 8) (ci := 8) hx hb hts hi_X8 hown hK hP 0 rfl (by decide) lk_X8_10 (fun _ h9 => h9) dX8_crash_14 (by omega) CE_0 rfl ?_
    refine r_get (C := RX5) (T := TX5) (N := 8) (ci := 5) hx hb hts hi_X5 hown hK hP 2 rfl (by decide) lk_X8_114 (fun _ h9 => h9) dX8_crash_17 (by omega) CE_1 rfl ?_
    refine lv_iload_n hx hb dX8_crash_20 rfl (lv_at hl 1 rfl) ?_
    refine r_aald hx hb hK hP 5 rfl dX8_crash_21 (by omega) rfl (by omega) (by omega) rfl ?_
    refine lv_astore_n hx hb dX8_crash_22 rfl hl (by decide) rfl (fun ls hl => ?_)
    replace hl : lv_has ls 3 [(0, _), (1, _), (2, _)] := lv_sub hl [1, 2, 0] rfl
    refine lv_aload_n hx hb dX8_crash_23 rfl (lv_at hl 2 rfl) ?_
    refine r_get (C := RX7) (T := TX7) (N := 16) (ci := 7) hx hb hts hi_X7 hown hK hP 5 rfl (by decide) lk_X8_123 (fun _ h9 => h9) dX8_crash_24 (by omega) (CE_w (by omega)) rfl ?_
    refine r_const hx hb dX8_crash_27 ?_
    refine r_icmp_ne (tgt := 38) hx hb (by omega) (by omega) dX8_crash_28 (by decide) (fun c28 => ?_) (fun c28 => ?_)
    · rw [← hWg]
      exact join38  _ _ _ hP hS (lv_sub hl [0, 1] rfl) (by omega)
    · refine lv_aload_n hx hb dX8_crash_31 rfl (lv_at hl 2 rfl) ?_
      refine r_get (C := RX7) (T := TX7) (N := 16) (ci := 7) hx hb hts hi_X7 hown hK hP 10 rfl (by decide) lk_X8_149 (fun _ h9 => h9) dX8_crash_32 (by omega) (CE_w (by omega)) rfl ?_
      refine r_if_eq (tgt := 41) hx hb (by omega) dX8_crash_35 (by decide) (fun c35 => ?_) (fun c35 => ?_)
      · have hIo := InvS_pmt hI c8 (d := σ 0 3) (by omega) (by omega) (by omega) (fun z => absurd rfl z) (fun z => absurd rfl z)
        refine lv_aload_n hx hb dX8_crash_41 rfl (lv_at hl 0 rfl) ?_
        refine r_get (C := RX8) (T := TX8) (N := 8) (ci := 8) hx hb hts hi_X8 hown hK hP 0 rfl (by decide) lk_X8_10 (fun _ h9 => h9) dX8_crash_42 (by omega) CE_0 rfl ?_
        refine lv_aload_n hx hb dX8_crash_45 rfl (lv_at hl 2 rfl) ?_
        refine lv_aload_n hx hb dX8_crash_46 rfl (lv_at hl 0 rfl) ?_
        refine r_get (C := RX8) (T := TX8) (N := 8) (ci := 8) hx hb hts hi_X8 hown hK hP 0 rfl (by decide) lk_X8_10 (fun _ h9 => h9) dX8_crash_47 (by omega) CE_0 rfl ?_
        refine r_get (C := RX5) (T := TX5) (N := 8) (ci := 5) hx hb hts hi_X5 hown hK hP 7 rfl (by decide) lk_X8_192 (fun _ h9 => h9) dX8_crash_50 (by omega) CE_1 rfl ?_
        refine k_callvV (nL := 3) (C := RX5) (T := TX5) (N := 8) (ci := 5) hx hb hml hown hts hK hP hS hl.1 (c_X5_permitFrom hi (by omega) (by omega) (by omega) (by omega)) rfl (Nat.le_of_ble_eq_true rfl) rfl (cwV 2 hts (gV lm_X8_180 ti_X5_permitFrom tl_X5_permitFrom tn_X5 tc_X5_permitFrom) rfl rfl rfl (by decide +kernel) ⟨Nat.le_of_ble_eq_true rfl, Nat.le_of_ble_eq_true rfl⟩) rfl dX8_crash_53 ⟨Nat.zero_le _, Nat.zero_le _⟩ (by omega) CE_1 (fun E1 H locs hq hP hS => ?_)
        subst hq
        refine lv_aload_n hx hb dX8_crash_56 rfl (lv_at hl 0 rfl) ?_
        refine r_get (C := RX8) (T := TX8) (N := 8) (ci := 8) hx hb hts hi_X8 hown hK hP 4 rfl (by decide) lk_X8_46 (fun _ h9 => h9) dX8_crash_57 (by omega) CE_0 rfl ?_
        refine k_calliV (nL := 3) (C := RX4) (T := TX4) (N := 3) (ci := 4) hx hb hml hown hts hK hP hS hl.1 (c_X4_moveBroken hi hIo.1) rfl (Nat.le_of_ble_eq_true rfl) rfl (cwV 0 hts (gV lm_X8_209 ti_X4_moveBroken tl_X4_moveBroken tn_X4 tc_X4_moveBroken) rfl rfl rfl (by decide +kernel) ⟨Nat.le_of_ble_eq_true rfl, Nat.le_of_ble_eq_true rfl⟩) rfl dX8_crash_60 ⟨Nat.zero_le _, Nat.zero_le _⟩ (by omega) CE_5 (fun r60 E1 H locs hq hP hS => ?_)
        obtain ⟨rfl, τ1, rfl, hb4⟩ := hq
        rw [pmt_t (t := 0) (by decide) (by decide) (by decide)] at hP ⊢
        exact k_iret hx hb hr hlocks hP hS dX8_crash_63 ⟨by rw [aCrash, lvW, cif_t c8, cif_t ⟨c28, c35⟩], τ1, by rw [sCrash, cif_t ⟨c8, c28, c35⟩], by unfold TI; rw [hb4]; exact hT⟩
      · rw [← hWg]
        exact join38  _ _ _ hP hS (lv_sub hl [0, 1] rfl) (by omega)
  · refine r_const hx hb dX8_crash_11 ?_
    exact k_iret hx hb hr hlocks hP hS dX8_crash_12 ⟨by rw [aCrash, lvW, cif_f c8], τ, by rw [sCrash, cif_f (fun z => c8 z.1)], hT⟩
abbrev rmX8_join : Room := { frames := 2, cells := 0, slots := 0, locals := 40 }
set_option maxRecDepth 100000 in
set_option maxHeartbeats 4000000 in
theorem c_X8_join {l : Launch} {D : va_G} {G : Nat → ClassId} {ad : Nat → Nat} {σ τ : Tb} (hi : kInj 189 ad) {a b : Int} (hI : InvS σ) (hT : TI τ) (ha : (-2147483648 ≤ a ∧ a < 2147483648)) (hb1 : (-2147483648 ≤ b ∧ b < 2147483648)) : Met l yX8_join wsX8_join rmX8_join (kPc D (tysG G) 189 ad (CE G ad σ τ) [.ref (ad 0), .int (iI a), .int (iI b)]) (kQi D 189 ad (fun z E' => z = aJoin σ a b ∧ ∃ τ', E' = CE G ad (sJoin σ a b) τ' ∧ TI τ')) 0 0 (kA 189 ad) := by
  refine k_met (cc := cX8_join) (maxL := 5) (ret := (some .int)) (by decide) (Nat.le_of_ble_eq_true rfl) ?_
  intro P0 e0 s m0 below meth c0 ls hx hb hr hlocks hml hown hts hK hP hS hl
  replace hl : lv_has ls 5 [(0, _), (1, _), (2, _)] := hl
  replace hown : s.vm.findClass RX8 = some m0.cls := hown
  refine k_abs (fun Wg hWg => ?_)
  have h0 := Inv_0 hI.1
  have hbad : ¬ (lvW σ a ∧ lvW σ b ∧ a ≠ b) → (-1 : Int) = aJoin σ a b ∧ ∃ τ', CE G ad σ τ = CE G ad (sJoin σ a b) τ' ∧ TI τ' := fun q => ⟨by rw [aJoin, cif_f q], τ, by rw [sJoin, cif_f (fun z => q z.1)], hT⟩
  refine lv_aload_n hx hb dX8_join_0 rfl (lv_at hl 0 rfl) ?_
  refine r_get (C := RX8) (T := TX8) (N := 8) (ci := 8) hx hb hts hi_X8 hown hK hP 0 rfl (by decide) lk_X8_10 (fun _ h9 => h9) dX8_join_1 (by omega) CE_0 rfl ?_
  refine lv_iload_n hx hb dX8_join_4 rfl (lv_at hl 1 rfl) ?_
  refine k_calliV (nL := 5) (C := RX5) (T := TX5) (N := 8) (ci := 5) hx hb hml hown hts hK hP hS hl.1 (c_X5_hasWork hi ha h0.2.2.1) rfl (Nat.le_of_ble_eq_true rfl) rfl (cwV 1 hts (gV lm_X8_143 ti_X5_hasWork tl_X5_hasWork tn_X5 tc_X5_hasWork) rfl rfl rfl (by decide +kernel) ⟨Nat.le_of_ble_eq_true rfl, Nat.le_of_ble_eq_true rfl⟩) rfl dX8_join_5 ⟨Nat.zero_le _, Nat.zero_le _⟩ (by omega) CE_1 (fun r5 E1 H locs hq hP hS => ?_)
  obtain ⟨rfl, rfl⟩ := hq
  refine r_ifB_eq (tgt := 27) hx hb dX8_join_8 (by decide) (fun c8 => ?_) (fun c8 => ?_)
  · refine r_const hx hb dX8_join_27 ?_
    exact k_iret hx hb hr hlocks hP hS dX8_join_28 (hbad (fun q => c8 q.1))
  · refine lv_aload_n hx hb dX8_join_11 rfl (lv_at hl 0 rfl) ?_
    refine r_get (C := RX8) (T := TX8) (N := 8) (ci := 8) hx hb hts hi_X8 hown hK hP 0 rfl (by decide) lk_X8_10 (fun _ h9 => h9) dX8_join_12 (by omega) CE_0 rfl ?_
    refine lv_iload_n hx hb dX8_join_15 rfl (lv_at hl 2 rfl) ?_
    refine k_calliV (nL := 5) (C := RX5) (T := TX5) (N := 8) (ci := 5) hx hb hml hown hts hK hP hS hl.1 (c_X5_hasWork hi hb1 h0.2.2.1) rfl (Nat.le_of_ble_eq_true rfl) rfl (cwV 1 hts (gV lm_X8_143 ti_X5_hasWork tl_X5_hasWork tn_X5 tc_X5_hasWork) rfl rfl rfl (by decide +kernel) ⟨Nat.le_of_ble_eq_true rfl, Nat.le_of_ble_eq_true rfl⟩) rfl dX8_join_16 ⟨Nat.zero_le _, Nat.zero_le _⟩ (by omega) CE_1 (fun r16 E1 H locs hq hP hS => ?_)
    obtain ⟨rfl, rfl⟩ := hq
    refine r_ifB_eq (tgt := 27) hx hb dX8_join_19 (by decide) (fun c19 => ?_) (fun c19 => ?_)
    · refine r_const hx hb dX8_join_27 ?_
      exact k_iret hx hb hr hlocks hP hS dX8_join_28 (hbad (fun q => c19 q.2.1))
    · refine lv_iload_n hx hb dX8_join_22 rfl (lv_at hl 1 rfl) ?_
      refine lv_iload_n hx hb dX8_join_23 rfl (lv_at hl 2 rfl) ?_
      refine r_icmp_ne (tgt := 29) hx hb (by omega) (by omega) dX8_join_24 (by decide) (fun c24 => ?_) (fun c24 => ?_)
      · obtain ⟨hN, ⟨ha1, _⟩, _⟩ := Inv_w hI.1 c8
        obtain ⟨hN2, ⟨hb2, _⟩, _⟩ := Inv_w hI.1 c19
        have hJ := IJ_r hI.1 c8
        have hJ2 := IJ_r hI.1 c19
        unfold IN at hN hN2
        have hst : ¬ jnO σ a b → (-3 : Int) = aJoin σ a b ∧ ∃ τ', CE G ad σ τ = CE G ad (sJoin σ a b) τ' ∧ TI τ' := fun q => ⟨by rw [aJoin, cif_t ⟨c8, c19, c24⟩, cif_f q], τ, by rw [sJoin, cif_f (fun z => q z.2)], hT⟩
        refine lv_aload_n hx hb dX8_join_29 rfl (lv_at hl 0 rfl) ?_
        refine r_get (C := RX8) (T := TX8) (N := 8) (ci := 8) hx hb hts hi_X8 hown hK hP 0 rfl (by decide) lk_X8_10 (fun _ h9 => h9) dX8_join_30 (by omega) CE_0 rfl ?_
        refine r_get (C := RX5) (T := TX5) (N := 8) (ci := 5) hx hb hts hi_X5 hown hK hP 2 rfl (by decide) lk_X8_114 (fun _ h9 => h9) dX8_join_33 (by omega) CE_1 rfl ?_
        refine lv_iload_n hx hb dX8_join_36 rfl (lv_at hl 1 rfl) ?_
        refine r_aald hx hb hK hP 5 rfl dX8_join_37 (by omega) rfl (by omega) (by omega) rfl ?_
        refine lv_astore_n hx hb dX8_join_38 rfl hl (by decide) rfl (fun ls hl => ?_)
        replace hl : lv_has ls 5 [(0, _), (1, _), (2, _), (3, _)] := lv_sub hl [1, 2, 3, 0] rfl
        refine lv_aload_n hx hb dX8_join_39 rfl (lv_at hl 0 rfl) ?_
        refine r_get (C := RX8) (T := TX8) (N := 8) (ci := 8) hx hb hts hi_X8 hown hK hP 0 rfl (by decide) lk_X8_10 (fun _ h9 => h9) dX8_join_40 (by omega) CE_0 rfl ?_
        refine r_get (C := RX5) (T := TX5) (N := 8) (ci := 5) hx hb hts hi_X5 hown hK hP 2 rfl (by decide) lk_X8_114 (fun _ h9 => h9) dX8_join_43 (by omega) CE_1 rfl ?_
        refine lv_iload_n hx hb dX8_join_46 rfl (lv_at hl 2 rfl) ?_
        refine r_aald hx hb hK hP 5 rfl dX8_join_47 (by omega) rfl (by omega) (by omega) rfl ?_
        refine lv_astore hx hb dX8_join_48 hl (by decide) rfl (fun ls hl => ?_)
        replace hl : lv_has ls 5 [(0, _), (1, _), (2, _), (3, _), (4, _)] := lv_sub hl [1, 2, 3, 4, 0] rfl
        refine lv_aload_n hx hb dX8_join_50 rfl (lv_at hl 3 rfl) ?_
        refine k_calliV (nL := 5) (C := RX7) (T := TX7) (N := 16) (ci := 7) hx hb hml hown hts hK hP hS hl.1 (c_X7_canBeJoined hi (by omega) (by omega) (by omega) (by omega)) rfl (Nat.le_of_ble_eq_true rfl) rfl (cwV 0 hts (gV lm_X8_213 ti_X7_canBeJoined tl_X7_canBeJoined tn_X7 tc_X7_canBeJoined) rfl rfl rfl (by decide +kernel) ⟨Nat.le_of_ble_eq_true rfl, Nat.le_of_ble_eq_true rfl⟩) rfl dX8_join_51 ⟨Nat.zero_le _, Nat.zero_le _⟩ (by omega) (CE_w (by omega)) (fun r51 E1 H locs hq hP hS => ?_)
        obtain ⟨rfl, rfl⟩ := hq
        refine r_ifB_eq (tgt := 65) hx hb dX8_join_54 (by decide) (fun c54 => ?_) (fun c54 => ?_)
        · refine r_bipush hx hb dX8_join_65 (by decide +kernel) ?_
          exact k_iret hx hb hr hlocks hP hS dX8_join_67 (hst (fun q => c54 q.1))
        · refine lv_aload hx hb dX8_join_57 (lv_at hl 4 rfl) ?_
          refine k_calliV (nL := 5) (C := RX7) (T := TX7) (N := 16) (ci := 7) hx hb hml hown hts hK hP hS hl.1 (c_X7_canBeJoined hi (by omega) (by omega) (by omega) (by omega)) rfl (Nat.le_of_ble_eq_true rfl) rfl (cwV 0 hts (gV lm_X8_213 ti_X7_canBeJoined tl_X7_canBeJoined tn_X7 tc_X7_canBeJoined) rfl rfl rfl (by decide +kernel) ⟨Nat.le_of_ble_eq_true rfl, Nat.le_of_ble_eq_true rfl⟩) rfl dX8_join_59 ⟨Nat.zero_le _, Nat.zero_le _⟩ (by omega) (CE_w (by omega)) (fun r59 E1 H locs hq hP hS => ?_)
          obtain ⟨rfl, rfl⟩ := hq
          refine r_ifB_ne (tgt := 68) hx hb dX8_join_62 (by decide) (fun c62 => ?_) (fun c62 => ?_)
          · have join105 : ∀  (H : Heap) (locs : List Loc) (ls : Array Slot), va_P D vwCl (kw 189 ad (CE G ad σ τ)) H → va_S (kA 189 ad) s.heap H locs → lv_has ls 5 [(0, .ref (ad 0))] → (¬ jnO σ a b) → Wg H locs (F0 m0 105 ls []) := by
              intro  H locs ls hP hS hl hv105
              rw [hWg]
              refine r_bipush hx hb dX8_join_105 (by decide +kernel) ?_
              exact k_iret hx hb hr hlocks hP hS dX8_join_107 (hst hv105)
            refine lv_aload_n hx hb dX8_join_68 rfl (lv_at hl 3 rfl) ?_
            refine r_get (C := RX7) (T := TX7) (N := 16) (ci := 7) hx hb hts hi_X7 hown hK hP 4 rfl (by decide) lk_X8_118 (fun _ h9 => h9) dX8_join_69 (by omega) (CE_w (by omega)) rfl ?_
            refine lv_aload hx hb dX8_join_72 (lv_at hl 4 rfl) ?_
            refine r_get (C := RX7) (T := TX7) (N := 16) (ci := 7) hx hb hts hi_X7 hown hK hP 4 rfl (by decide) lk_X8_118 (fun _ h9 => h9) dX8_join_74 (by omega) (CE_w (by omega)) rfl ?_
            refine r_icmp_eq (tgt := 105) hx hb (by omega) (by omega) dX8_join_77 (by decide) (fun c77 => ?_) (fun c77 => ?_)
            · rw [← hWg]
              exact join105  _ _ _ hP hS (lv_sub hl [0] rfl) (fun q => q.2.2.1 c77)
            · refine lv_aload_n hx hb dX8_join_80 rfl (lv_at hl 3 rfl) ?_
              refine r_get (C := RX7) (T := TX7) (N := 16) (ci := 7) hx hb hts hi_X7 hown hK hP 8 rfl (by decide) lk_X8_130 (fun _ h9 => h9) dX8_join_81 (by omega) (CE_w (by omega)) rfl ?_
              refine lv_aload hx hb dX8_join_84 (lv_at hl 4 rfl) ?_
              refine r_get (C := RX7) (T := TX7) (N := 16) (ci := 7) hx hb hts hi_X7 hown hK hP 8 rfl (by decide) lk_X8_130 (fun _ h9 => h9) dX8_join_86 (by omega) (CE_w (by omega)) rfl ?_
              refine r_icmp_eq (tgt := 105) hx hb (by omega) (by omega) dX8_join_89 (by decide) (fun c89 => ?_) (fun c89 => ?_)
              · rw [← hWg]
                exact join105  _ _ _ hP hS (lv_sub hl [0] rfl) (fun q => q.2.2.2.1 c89)
              · refine lv_aload_n hx hb dX8_join_92 rfl (lv_at hl 3 rfl) ?_
                refine r_get (C := RX7) (T := TX7) (N := 16) (ci := 7) hx hb hts hi_X7 hown hK hP 3 rfl (by decide) lk_X8_216 (fun _ h9 => h9) dX8_join_93 (by omega) (CE_w (by omega)) rfl ?_
                refine lv_aload hx hb dX8_join_96 (lv_at hl 4 rfl) ?_
                refine r_get (C := RX7) (T := TX7) (N := 16) (ci := 7) hx hb hts hi_X7 hown hK hP 3 rfl (by decide) lk_X8_216 (fun _ h9 => h9) dX8_join_98 (by omega) (CE_w (by omega)) rfl ?_
                refine r_lcmp hx hb dX8_join_101 (by omega) (by omega) ?_
                refine r_if_eq (tgt := 108) hx hb (cmpN_r _ _) dX8_join_102 (by decide) (fun c102 => ?_) (fun c102 => ?_)
                · have hm : σ 17 a = σ 17 b := by have := cmpN_0.mp c102; omega
                  refine lv_aload_n hx hb dX8_join_108 rfl (lv_at hl 3 rfl) ?_
                  refine lv_iload_n hx hb dX8_join_109 rfl (lv_at hl 2 rfl) ?_
                  refine r_put (C := RX7) (T := TX7) (N := 16) (ci := 7) hx hb hi hts hi_X7 tyX7 tyX7_ok nmX7 hown hK hP hS 14 rfl (by decide) lk_X8_152 (fun _ h9 => h9) rfl (ty := .int) (by decide +kernel) rfl rfl dX8_join_110 (by omega) (CE_w (by omega)) (Nat.le_of_ble_eq_true rfl) (cu_w_partner (by omega)) (fun H locs hP hS => ?_)
                  refine lv_aload hx hb dX8_join_113 (lv_at hl 4 rfl) ?_
                  refine lv_iload_n hx hb dX8_join_115 rfl (lv_at hl 1 rfl) ?_
                  refine r_put (C := RX7) (T := TX7) (N := 16) (ci := 7) hx hb hi hts hi_X7 tyX7 tyX7_ok nmX7 hown hK hP hS 14 rfl (by decide) lk_X8_152 (fun _ h9 => h9) rfl (ty := .int) (by decide +kernel) rfl rfl dX8_join_116 (by omega) (CE_w (by omega)) (Nat.le_of_ble_eq_true rfl) (cu_w_partner (by omega)) (fun H locs hP hS => ?_)
                  refine r_const hx hb dX8_join_119 ?_
                  exact k_iret hx hb hr hlocks hP hS dX8_join_120 ⟨by rw [aJoin, cif_t ⟨c8, c19, c24⟩, cif_t ⟨c54, c62, c77, c89, hm⟩], τ, by rw [sJoin, cif_t ⟨⟨c8, c19, c24⟩, c54, c62, c77, c89, hm⟩], hT⟩
                · rw [← hWg]
                  exact join105  _ _ _ hP hS (lv_sub hl [0] rfl) (fun q => c102 (cmpN_0.mpr (by rw [q.2.2.2.2])))
          · refine r_bipush hx hb dX8_join_65 (by decide +kernel) ?_
            exact k_iret hx hb hr hlocks hP hS dX8_join_67 (hst (fun q => c62 q.2.1))
      · refine r_const hx hb dX8_join_27 ?_
        exact k_iret hx hb hr hlocks hP hS dX8_join_28 (hbad (fun q => q.2.2 c24))

