theorem tQ_PQ {σ : Tb} {w k : Int} : tQ σ w k.toNat = iI (PQ σ w k) := rfl
theorem Inv_w {σ : Tb} (h : Inv σ) {w : Int} (hw : 0 ≤ w ∧ w < σ 0 2) : IN σ w ∧ IQ σ w ∧ IJ σ w := h.2.2.2.2.1 w hw.1 hw.2
theorem Inv_p {σ : Tb} (h : Inv σ) {p : Int} (hp : 0 ≤ p ∧ p < σ 0 0) : IP σ p := h.2.1 p hp.1 hp.2
theorem Inv_r {σ : Tb} (h : Inv σ) {k : Int} (hk : 0 ≤ k ∧ k < σ 0 1) : IR σ k := h.2.2.1 k hk.1 hk.2
theorem Inv_f {σ : Tb} (h : Inv σ) {d : Int} (hd : 0 ≤ d ∧ d < 400) : σ 10 d = 0 ∨ σ 10 d = 1 := h.2.2.2.1 d hd.1 hd.2
theorem Inv_0 {σ : Tb} (h : Inv σ) : (0 ≤ σ 0 0 ∧ σ 0 0 ≤ 40) ∧ (0 ≤ σ 0 1 ∧ σ 0 1 ≤ 8) ∧ (0 ≤ σ 0 2 ∧ σ 0 2 ≤ 60) ∧ (0 ≤ σ 0 3 ∧ σ 0 3 ≤ 399) ∧ (σ 0 4 = 0 ∨ σ 0 4 = 1) := h.1
/-- ranges of a work's begin and last -/
theorem IN_b {σ : Tb} (h : Inv σ) {w : Int} (hw : 0 ≤ w ∧ w < σ 0 2) : -1 ≤ σ 20 w ∧ σ 20 w ≤ 399 ∧ -1 ≤ σ 21 w ∧ σ 21 w ≤ 399 := by
  obtain ⟨⟨_, _, _, h4, _, _, h7, h8, h9, h10, h11, h12⟩, _⟩ := Inv_w h hw
  have h0 := Inv_0 h
  rcases (show σ 19 w = 0 ∨ σ 19 w = 1 ∨ σ 19 w = 2 ∨ σ 19 w = 3 ∨ σ 19 w = 4 by omega) with e | e | e | e | e
  · have := h8 e; omega
  · have := h10 e; omega
  · have := h11 e; omega
  · have := h12 e; omega
  · have := h9 e; omega
noncomputable def cntS (σ : Tb) (q : Int) : Int := sumI (fun o => bI (σ 19 o = q)) (σ 0 2)
noncomputable def rnkC (σ : Tb) (w : Int) : Int := sumI (fun k => σ 4 (PQ σ w k)) (σ 18 w)
noncomputable def cstC (σ : Tb) (w : Int) : Int := σ 14 w * (σ 18 w * (20 + 5 * σ 13 w) + 10 * rnkC σ w)
/-- a day that goes by, for the works below k -/
noncomputable def psS (σ : Tb) (o : Int) : Int := cif (σ 19 o = 2 ∧ σ 21 o < σ 0 3 + 1) 3 (cif (σ 19 o = 1 ∧ σ 20 o = σ 0 3 + 1) 2 (σ 19 o))
noncomputable def psN (σ : Tb) (k : Int) : Tb := fun t i => cif (t = 0 ∧ i = 3) (σ 0 3 + 1) (cif (t = 19 ∧ 0 ≤ i ∧ i < k) (psS σ i) (σ t i))
theorem psN_0 (σ : Tb) : up σ 0 3 (σ 0 3 + 1) = psN σ 0 := by
  funext t i
  unfold psN up
  by_cases h : t = 0 ∧ i = 3
  · rw [if_pos h, cif_t h]
  · rw [if_neg h, cif_f h, cif_f (by omega)]
theorem psN_s {σ : Tb} {k v : Int} (hk : 0 ≤ k) (hv : v = psS σ k) : up (psN σ k) 19 k v = psN σ (k + 1) := by
  funext t i
  unfold up
  by_cases h : t = 19 ∧ i = k
  · obtain ⟨rfl, rfl⟩ := h
    rw [if_pos ⟨rfl, rfl⟩]
    unfold psN
    rw [cif_f (by omega), cif_t (by omega), hv]
  · rw [if_neg h]
    unfold psN
    exact cif_c Iff.rfl (fun _ => rfl) (fun _ => cif_c (by omega) (fun _ => rfl) (fun _ => rfl))
theorem psN_k {σ : Tb} {k : Int} (hk : 0 ≤ k) (hv : σ 19 k = psS σ k) : psN σ k = psN σ (k + 1) := by
  funext t i
  unfold psN
  refine cif_c Iff.rfl (fun _ => rfl) (fun _ => ?_)
  by_cases h : t = 19 ∧ i = k
  · obtain ⟨rfl, rfl⟩ := h
    rw [cif_f (by omega), cif_t (by omega), hv]
  · exact cif_c (by omega) (fun _ => rfl) (fun _ => rfl)
theorem psN_o {σ : Tb} {k i : Int} {t : Nat} (h : ¬ (t = 0 ∧ i = 3)) (h2 : ¬ (t = 19 ∧ i < k)) : psN σ k t i = σ t i := by
  unfold psN
  rw [cif_f h, cif_f (by omega)]
theorem psN_d {σ : Tb} {k : Int} : psN σ k 0 3 = σ 0 3 + 1 := by
  unfold psN
  rw [cif_t ⟨rfl, rfl⟩]
noncomputable def drp (σ : Tb) (w : Int) : Tb := up (cif (0 ≤ σ 23 w ∧ σ 23 w < σ 0 2) (up (up (up (up σ 19 w 4) 20 w (-1)) 21 w (-1)) 23 (σ 23 w) (-1)) (up (up (up σ 19 w 4) 20 w (-1)) 21 w (-1))) 23 w (-1)
noncomputable def pmt (σ : Tb) (w d : Int) : Tb := up (up (up σ 20 w d) 21 w (lstF σ w d)) 19 w (cif (d = σ 0 3) 2 1)
noncomputable def bkA (σ : Tb) (p w : Int) : Int := sumI (fun o => bI (((σ 19 o = 2 ∨ σ 19 o = 3) ∧ isOn σ o p) ∧ (σ 20 o < σ 20 w ∨ (σ 20 o = σ 20 w ∧ o < w)))) (σ 0 2)
abbrev rmX8_within : Room := { frames := 0, cells := 0, slots := 0, locals := 0 }
set_option maxRecDepth 100000 in
set_option maxHeartbeats 4000000 in
theorem c_X8_within {l : Launch} {D : va_G} {G : Nat → ClassId} {ad : Nat → Nat} {σ τ : Tb} (hi : kInj 189 ad) {z a b : Int} (hz : (-2147483648 ≤ z ∧ z < 2147483648)) (ha : (-2147483648 ≤ a ∧ a < 2147483648)) (hb1 : (-2147483648 ≤ b ∧ b < 2147483648)) : Met l yX8_within wsX8_within rmX8_within (kPc D (tysG G) 189 ad (CE G ad σ τ) [.int (iI z), .int (iI a), .int (iI b)]) (kQi D 189 ad (fun r E' => r = bI (a ≤ z ∧ z ≤ b) ∧ E' = CE G ad σ τ)) 0 0 (kA 189 ad) := by
  refine k_met (cc := cX8_within) (maxL := 3) (ret := (some .boolean)) (by decide) (Nat.le_of_ble_eq_true rfl) ?_
  intro P0 e0 s m0 below meth c0 ls hx hb hr hlocks hml hown hts hK hP hS hl
  replace hl : lv_has ls 3 [(0, _), (1, _), (2, _)] := hl
  replace hown : s.vm.findClass RX8 = some m0.cls := hown
  refine k_abs (fun Wg hWg => ?_)
  refine lv_iload_n hx hb dX8_within_0 rfl (lv_at hl 0 rfl) ?_
  refine lv_iload_n hx hb dX8_within_1 rfl (lv_at hl 1 rfl) ?_
  refine r_icmp_lt (tgt := 14) hx hb (by omega) (by omega) dX8_within_2 (by decide) (fun c2 => ?_) (fun c2 => ?_)
  · refine r_const hx hb dX8_within_14 ?_
    exact k_zret hx hb hr hlocks hP hS dX8_within_15 (by omega) ⟨(bI_f (by omega)).symm, rfl⟩
  · refine lv_iload_n hx hb dX8_within_5 rfl (lv_at hl 0 rfl) ?_
    refine lv_iload_n hx hb dX8_within_6 rfl (lv_at hl 2 rfl) ?_
    refine r_icmp_gt (tgt := 14) hx hb (by omega) (by omega) dX8_within_7 (by decide) (fun c7 => ?_) (fun c7 => ?_)
    · refine r_const hx hb dX8_within_14 ?_
      exact k_zret hx hb hr hlocks hP hS dX8_within_15 (by omega) ⟨(bI_f (by omega)).symm, rfl⟩
    · refine r_const hx hb dX8_within_10 ?_
      refine lv_goto (tgt := 15) hx hb dX8_within_11 (by decide) ?_
      exact k_zret hx hb hr hlocks hP hS dX8_within_15 (by omega) ⟨(bI_t (by omega)).symm, rfl⟩
abbrev rmX8_isDay : Room := { frames := 1, cells := 0, slots := 0, locals := 22 }
set_option maxRecDepth 100000 in
set_option maxHeartbeats 4000000 in
theorem c_X8_isDay {l : Launch} {D : va_G} {G : Nat → ClassId} {ad : Nat → Nat} {σ τ : Tb} (hi : kInj 189 ad) {z : Int} (hz : (-2147483648 ≤ z ∧ z < 2147483648)) : Met l yX8_isDay wsX8_isDay rmX8_isDay (kPc D (tysG G) 189 ad (CE G ad σ τ) [.int (iI z)]) (kQi D 189 ad (fun r E' => r = bI (0 ≤ z ∧ z ≤ 399) ∧ E' = CE G ad σ τ)) 0 0 (kA 189 ad) := by
  refine k_met (cc := cX8_isDay) (maxL := 1) (ret := (some .boolean)) (by decide) (Nat.le_of_ble_eq_true rfl) ?_
  intro P0 e0 s m0 below meth c0 ls hx hb hr hlocks hml hown hts hK hP hS hl
  replace hl : lv_has ls 1 [(0, _)] := hl
  replace hown : s.vm.findClass RX8 = some m0.cls := hown
  refine k_abs (fun Wg hWg => ?_)
  refine lv_iload_n hx hb dX8_isDay_0 rfl (lv_at hl 0 rfl) ?_
  refine r_const hx hb dX8_isDay_1 ?_
  refine r_sipush hx hb dX8_isDay_2 (by decide +kernel) ?_
  refine k_calliS (nL := 1) hx hb hml hown hts hK hP hS hl.1 (c_X8_within hi hz (by omega) (by omega)) rfl (Nat.le_of_ble_eq_true rfl) (va_cwS 3 hts (gS lm_X8_54 ts_X8_within tn_X8 tc_X8_within) rfl rfl rfl (by decide +kernel) ⟨Nat.le_of_ble_eq_true rfl, Nat.le_of_ble_eq_true rfl⟩) rfl dX8_isDay_5 ⟨Nat.zero_le _, Nat.zero_le _⟩ (fun r5 E1 H locs hq hP hS => ?_)
  obtain ⟨rfl, rfl⟩ := hq
  exact k_zret hx hb hr hlocks hP hS dX8_isDay_8 (bI_01 _) ⟨rfl, rfl⟩
abbrev rmX8_areCrossings : Room := { frames := 1, cells := 0, slots := 0, locals := 22 }
set_option maxRecDepth 100000 in
set_option maxHeartbeats 4000000 in
theorem c_X8_areCrossings {l : Launch} {D : va_G} {G : Nat → ClassId} {ad : Nat → Nat} {σ τ : Tb} (hi : kInj 189 ad) {a b : Int} (ha : (-2147483648 ≤ a ∧ a < 2147483648)) (hb1 : (-2147483648 ≤ b ∧ b < 2147483648)) : Met l yX8_areCrossings wsX8_areCrossings rmX8_areCrossings (kPc D (tysG G) 189 ad (CE G ad σ τ) [.int (iI a), .int (iI b)]) (kQi D 189 ad (fun r E' => r = bI ((0 ≤ a ∧ a ≤ 19) ∧ (0 ≤ b ∧ b ≤ 19) ∧ a ≠ b) ∧ E' = CE G ad σ τ)) 0 0 (kA 189 ad) := by
  refine k_met (cc := cX8_areCrossings) (maxL := 2) (ret := (some .boolean)) (by decide) (Nat.le_of_ble_eq_true rfl) ?_
  intro P0 e0 s m0 below meth c0 ls hx hb hr hlocks hml hown hts hK hP hS hl
  replace hl : lv_has ls 2 [(0, _), (1, _)] := hl
  replace hown : s.vm.findClass RX8 = some m0.cls := hown
  refine k_abs (fun Wg hWg => ?_)
  refine lv_iload_n hx hb dX8_areCrossings_0 rfl (lv_at hl 0 rfl) ?_
  refine r_const hx hb dX8_areCrossings_1 ?_
  refine r_bipush hx hb dX8_areCrossings_2 (by decide +kernel) ?_
  refine k_calliS (nL := 2) hx hb hml hown hts hK hP hS hl.1 (c_X8_within hi ha (by omega) (by omega)) rfl (Nat.le_of_ble_eq_true rfl) (va_cwS 3 hts (gS lm_X8_54 ts_X8_within tn_X8 tc_X8_within) rfl rfl rfl (by decide +kernel) ⟨Nat.le_of_ble_eq_true rfl, Nat.le_of_ble_eq_true rfl⟩) rfl dX8_areCrossings_4 ⟨Nat.zero_le _, Nat.zero_le _⟩ (fun r4 E1 H locs hq hP hS => ?_)
  obtain ⟨rfl, rfl⟩ := hq
  refine r_ifB_eq (tgt := 29) hx hb dX8_areCrossings_7 (by decide) (fun c7 => ?_) (fun c7 => ?_)
  · refine r_const hx hb dX8_areCrossings_29 ?_
    exact k_zret hx hb hr hlocks hP hS dX8_areCrossings_30 (by omega) ⟨(bI_f (by omega)).symm, rfl⟩
  · refine lv_iload_n hx hb dX8_areCrossings_10 rfl (lv_at hl 1 rfl) ?_
    refine r_const hx hb dX8_areCrossings_11 ?_
    refine r_bipush hx hb dX8_areCrossings_12 (by decide +kernel) ?_
    refine k_calliS (nL := 2) hx hb hml hown hts hK hP hS hl.1 (c_X8_within hi hb1 (by omega) (by omega)) rfl (Nat.le_of_ble_eq_true rfl) (va_cwS 3 hts (gS lm_X8_54 ts_X8_within tn_X8 tc_X8_within) rfl rfl rfl (by decide +kernel) ⟨Nat.le_of_ble_eq_true rfl, Nat.le_of_ble_eq_true rfl⟩) rfl dX8_areCrossings_14 ⟨Nat.zero_le _, Nat.zero_le _⟩ (fun r14 E1 H locs hq hP hS => ?_)
    obtain ⟨rfl, rfl⟩ := hq
    refine r_ifB_eq (tgt := 29) hx hb dX8_areCrossings_17 (by decide) (fun c17 => ?_) (fun c17 => ?_)
    · refine r_const hx hb dX8_areCrossings_29 ?_
      exact k_zret hx hb hr hlocks hP hS dX8_areCrossings_30 (by omega) ⟨(bI_f (by omega)).symm, rfl⟩
    · refine lv_iload_n hx hb dX8_areCrossings_20 rfl (lv_at hl 0 rfl) ?_
      refine lv_iload_n hx hb dX8_areCrossings_21 rfl (lv_at hl 1 rfl) ?_
      refine r_icmp_eq (tgt := 29) hx hb (by omega) (by omega) dX8_areCrossings_22 (by decide) (fun c22 => ?_) (fun c22 => ?_)
      · refine r_const hx hb dX8_areCrossings_29 ?_
        exact k_zret hx hb hr hlocks hP hS dX8_areCrossings_30 (by omega) ⟨(bI_f (by omega)).symm, rfl⟩
      · refine r_const hx hb dX8_areCrossings_25 ?_
        refine lv_goto (tgt := 30) hx hb dX8_areCrossings_26 (by decide) ?_
        exact k_zret hx hb hr hlocks hP hS dX8_areCrossings_30 (by omega) ⟨(bI_t (by omega)).symm, rfl⟩
abbrev rmX5_hasPiece : Room := { frames := 0, cells := 0, slots := 0, locals := 0 }
set_option maxRecDepth 100000 in
set_option maxHeartbeats 4000000 in
theorem c_X5_hasPiece {l : Launch} {D : va_G} {G : Nat → ClassId} {ad : Nat → Nat} {σ τ : Tb} (hi : kInj 189 ad) {z : Int} (hz : (-2147483648 ≤ z ∧ z < 2147483648)) (hI : Inv σ) : Met l yX5_hasPiece wsX5_hasPiece rmX5_hasPiece (kPc D (tysG G) 189 ad (CE G ad σ τ) [.ref (ad 1), .int (iI z)]) (kQi D 189 ad (fun r E' => r = bI (0 ≤ z ∧ z < σ 0 0) ∧ E' = CE G ad σ τ)) 0 0 (kA 189 ad) := by
  refine k_met (cc := cX5_hasPiece) (maxL := 2) (ret := (some .boolean)) (by decide) (Nat.le_of_ble_eq_true rfl) ?_
  intro P0 e0 s m0 below meth c0 ls hx hb hr hlocks hml hown hts hK hP hS hl
  replace hl : lv_has ls 2 [(0, _), (1, _)] := hl
  replace hown : s.vm.findClass RX5 = some m0.cls := hown
  refine k_abs (fun Wg hWg => ?_)
  have h0 := Inv_0 hI
  refine lv_iload_n hx hb dX5_hasPiece_0 rfl (lv_at hl 1 rfl) ?_
  refine r_if_lt (tgt := 16) hx hb (by omega) dX5_hasPiece_1 (by decide) (fun c1 => ?_) (fun c1 => ?_)
  · refine r_const hx hb dX5_hasPiece_16 ?_
    exact k_zret hx hb hr hlocks hP hS dX5_hasPiece_17 (by omega) ⟨(bI_f (by omega)).symm, rfl⟩
  · refine lv_iload_n hx hb dX5_hasPiece_4 rfl (lv_at hl 1 rfl) ?_
    refine lv_aload_n hx hb dX5_hasPiece_5 rfl (lv_at hl 0 rfl) ?_
    refine r_get (C := RX5) (T := TX5) (N := 8) (ci := 5) hx hb hts hi_X5 hown hK hP 4 rfl (by decide) lk_X5_38 (fun _ h9 => h9) dX5_hasPiece_6 (by omega) CE_1 rfl ?_
    refine r_icmp_ge (tgt := 16) hx hb (by omega) (by omega) dX5_hasPiece_9 (by decide) (fun c9 => ?_) (fun c9 => ?_)
    · refine r_const hx hb dX5_hasPiece_16 ?_
      exact k_zret hx hb hr hlocks hP hS dX5_hasPiece_17 (by omega) ⟨(bI_f (by omega)).symm, rfl⟩
    · refine r_const hx hb dX5_hasPiece_12 ?_
      refine lv_goto (tgt := 17) hx hb dX5_hasPiece_13 (by decide) ?_
      exact k_zret hx hb hr hlocks hP hS dX5_hasPiece_17 (by omega) ⟨(bI_t (by omega)).symm, rfl⟩
abbrev rmX5_hasPair : Room := { frames := 0, cells := 0, slots := 0, locals := 0 }
set_option maxRecDepth 100000 in
set_option maxHeartbeats 4000000 in
theorem c_X5_hasPair {l : Launch} {D : va_G} {G : Nat → ClassId} {ad : Nat → Nat} {σ τ : Tb} (hi : kInj 189 ad) {z : Int} (hz : (-2147483648 ≤ z ∧ z < 2147483648)) (hI : Inv σ) : Met l yX5_hasPair wsX5_hasPair rmX5_hasPair (kPc D (tysG G) 189 ad (CE G ad σ τ) [.ref (ad 1), .int (iI z)]) (kQi D 189 ad (fun r E' => r = bI (0 ≤ z ∧ z < σ 0 1) ∧ E' = CE G ad σ τ)) 0 0 (kA 189 ad) := by
  refine k_met (cc := cX5_hasPair) (maxL := 2) (ret := (some .boolean)) (by decide) (Nat.le_of_ble_eq_true rfl) ?_
  intro P0 e0 s m0 below meth c0 ls hx hb hr hlocks hml hown hts hK hP hS hl
  replace hl : lv_has ls 2 [(0, _), (1, _)] := hl
  replace hown : s.vm.findClass RX5 = some m0.cls := hown
  refine k_abs (fun Wg hWg => ?_)
  have h0 := Inv_0 hI
  refine lv_iload_n hx hb dX5_hasPair_0 rfl (lv_at hl 1 rfl) ?_
  refine r_if_lt (tgt := 16) hx hb (by omega) dX5_hasPair_1 (by decide) (fun c1 => ?_) (fun c1 => ?_)
  · refine r_const hx hb dX5_hasPair_16 ?_
    exact k_zret hx hb hr hlocks hP hS dX5_hasPair_17 (by omega) ⟨(bI_f (by omega)).symm, rfl⟩
  · refine lv_iload_n hx hb dX5_hasPair_4 rfl (lv_at hl 1 rfl) ?_
    refine lv_aload_n hx hb dX5_hasPair_5 rfl (lv_at hl 0 rfl) ?_
    refine r_get (C := RX5) (T := TX5) (N := 8) (ci := 5) hx hb hts hi_X5 hown hK hP 5 rfl (by decide) lk_X5_42 (fun _ h9 => h9) dX5_hasPair_6 (by omega) CE_1 rfl ?_
    refine r_icmp_ge (tgt := 16) hx hb (by omega) (by omega) dX5_hasPair_9 (by decide) (fun c9 => ?_) (fun c9 => ?_)
    · refine r_const hx hb dX5_hasPair_16 ?_
      exact k_zret hx hb hr hlocks hP hS dX5_hasPair_17 (by omega) ⟨(bI_f (by omega)).symm, rfl⟩
    · refine r_const hx hb dX5_hasPair_12 ?_
      refine lv_goto (tgt := 17) hx hb dX5_hasPair_13 (by decide) ?_
      exact k_zret hx hb hr hlocks hP hS dX5_hasPair_17 (by omega) ⟨(bI_t (by omega)).symm, rfl⟩
abbrev rmX5_hasWork : Room := { frames := 0, cells := 0, slots := 0, locals := 0 }
set_option maxRecDepth 100000 in
set_option maxHeartbeats 4000000 in
theorem c_X5_hasWork {l : Launch} {D : va_G} {G : Nat → ClassId} {ad : Nat → Nat} {σ τ : Tb} (hi : kInj 189 ad) {z : Int} (hz : (-2147483648 ≤ z ∧ z < 2147483648)) (hn : 0 ≤ σ 0 2 ∧ σ 0 2 ≤ 60) : Met l yX5_hasWork wsX5_hasWork rmX5_hasWork (kPc D (tysG G) 189 ad (CE G ad σ τ) [.ref (ad 1), .int (iI z)]) (kQi D 189 ad (fun r E' => r = bI (0 ≤ z ∧ z < σ 0 2) ∧ E' = CE G ad σ τ)) 0 0 (kA 189 ad) := by
  refine k_met (cc := cX5_hasWork) (maxL := 2) (ret := (some .boolean)) (by decide) (Nat.le_of_ble_eq_true rfl) ?_
  intro P0 e0 s m0 below meth c0 ls hx hb hr hlocks hml hown hts hK hP hS hl
  replace hl : lv_has ls 2 [(0, _), (1, _)] := hl
  replace hown : s.vm.findClass RX5 = some m0.cls := hown
  refine k_abs (fun Wg hWg => ?_)
  refine lv_iload_n hx hb dX5_hasWork_0 rfl (lv_at hl 1 rfl) ?_
  refine r_if_lt (tgt := 16) hx hb (by omega) dX5_hasWork_1 (by decide) (fun c1 => ?_) (fun c1 => ?_)
  · refine r_const hx hb dX5_hasWork_16 ?_
    exact k_zret hx hb hr hlocks hP hS dX5_hasWork_17 (by omega) ⟨(bI_f (by omega)).symm, rfl⟩
  · refine lv_iload_n hx hb dX5_hasWork_4 rfl (lv_at hl 1 rfl) ?_
    refine lv_aload_n hx hb dX5_hasWork_5 rfl (lv_at hl 0 rfl) ?_
    refine r_get (C := RX5) (T := TX5) (N := 8) (ci := 5) hx hb hts hi_X5 hown hK hP 6 rfl (by decide) lk_X5_45 (fun _ h9 => h9) dX5_hasWork_6 (by omega) CE_1 rfl ?_
    refine r_icmp_ge (tgt := 16) hx hb (by omega) (by omega) dX5_hasWork_9 (by decide) (fun c9 => ?_) (fun c9 => ?_)
    · refine r_const hx hb dX5_hasWork_16 ?_
      exact k_zret hx hb hr hlocks hP hS dX5_hasWork_17 (by omega) ⟨(bI_f (by omega)).symm, rfl⟩
    · refine r_const hx hb dX5_hasWork_12 ?_
      refine lv_goto (tgt := 17) hx hb dX5_hasWork_13 (by decide) ?_
      exact k_zret hx hb hr hlocks hP hS dX5_hasWork_17 (by omega) ⟨(bI_t (by omega)).symm, rfl⟩
abbrev rmX5_worksIn : Room := { frames := 0, cells := 0, slots := 0, locals := 0 }
set_option maxRecDepth 100000 in
set_option maxHeartbeats 4000000 in
theorem c_X5_worksIn {l : Launch} {D : va_G} {G : Nat → ClassId} {ad : Nat → Nat} {σ τ : Tb} (hi : kInj 189 ad) {q : Int} (hq : (-2147483648 ≤ q ∧ q < 2147483648)) (hI : Inv σ) : Met l yX5_worksIn wsX5_worksIn rmX5_worksIn (kPc D (tysG G) 189 ad (CE G ad σ τ) [.ref (ad 1), .int (iI q)]) (kQi D 189 ad (fun r E' => r = cntS σ q ∧ E' = CE G ad σ τ)) 0 0 (kA 189 ad) := by
  refine k_met (cc := cX5_worksIn) (maxL := 4) (ret := (some .int)) (by decide) (Nat.le_of_ble_eq_true rfl) ?_
  intro P0 e0 s m0 below meth c0 ls hx hb hr hlocks hml hown hts hK hP hS hl
  replace hl : lv_has ls 4 [(0, _), (1, _)] := hl
  replace hown : s.vm.findClass RX5 = some m0.cls := hown
  refine k_abs (fun Wg hWg => ?_)
  have h0 := Inv_0 hI
  refine r_const hx hb dX5_worksIn_0 ?_
  refine lv_istore_n hx hb dX5_worksIn_1 rfl hl (by decide) rfl (fun ls hl => ?_)
  replace hl : lv_has ls 4 [(0, _), (1, _), (2, _)] := lv_sub hl [1, 2, 0] rfl
  refine r_const hx hb dX5_worksIn_2 ?_
  refine lv_istore_n hx hb dX5_worksIn_3 rfl hl (by decide) rfl (fun ls hl => ?_)
  replace hl : lv_has ls 4 [(0, _), (1, _), (2, _), (3, _)] := lv_sub hl [1, 2, 3, 0] rfl
  have loop4 : ∀ (n : Nat) (i c : Int) (H : Heap) (locs : List Loc) (ls : Array Slot), va_P D vwCl (kw 189 ad (CE G ad σ τ)) H → va_S (kA 189 ad) s.heap H locs → lv_has ls 4 [(0, .ref (ad 1)), (1, .int (iI q)), (2, .int (iI c)), (3, .int (iI i))] → ((0 ≤ i ∧ i ≤ σ 0 2) ∧ c = sumI (fun o => bI (σ 19 o = q)) i) → (σ 0 2 - i).toNat < n → Wg H locs (F0 m0 4 ls []) := by
    intro n
    induction n with
    | zero => intro i c H locs ls _ _ _ _ hn; omega
    | succ n ih4 =>
      intro i c H locs ls hP hS hl hv4 hn4
      rw [hWg]
      refine lv_iload_n hx hb dX5_worksIn_4 rfl (lv_at hl 3 rfl) ?_
      refine lv_aload_n hx hb dX5_worksIn_5 rfl (lv_at hl 0 rfl) ?_
      refine r_get (C := RX5) (T := TX5) (N := 8) (ci := 5) hx hb hts hi_X5 hown hK hP 6 rfl (by decide) lk_X5_45 (fun _ h9 => h9) dX5_worksIn_6 (by omega) CE_1 rfl ?_
      refine r_icmp_ge (tgt := 34) hx hb (by omega) (by omega) dX5_worksIn_9 (by decide) (fun c9 => ?_) (fun c9 => ?_)
      · refine lv_iload_n hx hb dX5_worksIn_34 rfl (lv_at hl 2 rfl) ?_
        exact k_iret hx hb hr hlocks hP hS dX5_worksIn_35 ⟨by rw [cntS, hv4.2, show i = σ 0 2 by omega], rfl⟩
      · obtain ⟨hN, _⟩ := Inv_w hI (w := i) (by omega)
        unfold IN at hN
        refine lv_aload_n hx hb dX5_worksIn_12 rfl (lv_at hl 0 rfl) ?_
        refine r_get (C := RX5) (T := TX5) (N := 8) (ci := 5) hx hb hts hi_X5 hown hK hP 2 rfl (by decide) lk_X5_25 (fun _ h9 => h9) dX5_worksIn_13 (by omega) CE_1 rfl ?_
        refine lv_iload_n hx hb dX5_worksIn_16 rfl (lv_at hl 3 rfl) ?_
        refine r_aald hx hb hK hP 5 rfl dX5_worksIn_17 (by omega) rfl (by omega) (by omega) rfl ?_
        refine r_get (C := RX7) (T := TX7) (N := 16) (ci := 7) hx hb hts hi_X7 hown hK hP 10 rfl (by decide) lk_X5_48 (fun _ h9 => h9) dX5_worksIn_18 (by omega) (CE_w (by omega)) rfl ?_
        refine lv_iload_n hx hb dX5_worksIn_21 rfl (lv_at hl 1 rfl) ?_
        refine r_icmp_ne (tgt := 28) hx hb (by omega) (by omega) dX5_worksIn_22 (by decide) (fun c22 => ?_) (fun c22 => ?_)
        · refine r_iinc hx hb dX5_worksIn_28 hl (k := 3) rfl (by decide) (fun ls hl => ?_)
          replace hl : lv_has ls 4 [(0, _), (1, _), (2, _), (3, _)] := lv_sub hl [1, 2, 3, 0] rfl
          refine lv_goto (tgt := 4) hx hb dX5_worksIn_31 (by decide) ?_
          rw [← hWg]
          exact ih4 (i + 1) c _ _ _ hP hS hl ⟨by omega, by rw [sumI_s (by omega), bI_f c22, hv4.2]; omega⟩ (by omega)
        · refine r_iinc hx hb dX5_worksIn_25 hl (k := 2) rfl (by decide) (fun ls hl => ?_)
          replace hl : lv_has ls 4 [(0, _), (1, _), (2, _), (3, _)] := lv_sub hl [1, 2, 0, 3] rfl
          refine r_iinc hx hb dX5_worksIn_28 hl (k := 3) rfl (by decide) (fun ls hl => ?_)
          replace hl : lv_has ls 4 [(0, _), (1, _), (2, _), (3, _)] := lv_sub hl [1, 2, 3, 0] rfl
          refine lv_goto (tgt := 4) hx hb dX5_worksIn_31 (by decide) ?_
          rw [← hWg]
          exact ih4 (i + 1) (c + 1) _ _ _ hP hS hl ⟨by omega, by rw [sumI_s (by omega), bI_t c22, hv4.2]⟩ (by omega)
  rw [← hWg]
  exact loop4 _ 0 0 _ _ _ hP hS hl ⟨by omega, sumI_0.symm⟩ (Nat.lt_succ_self _)
abbrev rmX5_permitFrom : Room := { frames := 3, cells := 0, slots := 0, locals := 63 }
set_option maxRecDepth 100000 in
set_option maxHeartbeats 4000000 in
theorem c_X5_permitFrom {l : Launch} {D : va_G} {G : Nat → ClassId} {ad : Nat → Nat} {σ τ : Tb} (hi : kInj 189 ad) {w d : Int} (hw : 0 ≤ w ∧ w < 60) (hd : -1000 ≤ d ∧ d < 1000) (hm : 0 ≤ σ 14 w ∧ σ 14 w ≤ 30) (ht : 0 ≤ σ 0 3 ∧ σ 0 3 ≤ 399) : Met l yX5_permitFrom wsX5_permitFrom rmX5_permitFrom (kPc D (tysG G) 189 ad (CE G ad σ τ) [.ref (ad 1), .ref (ad (69 + w.toNat)), .int (iI d)]) (kQv D 189 ad (fun E' => E' = CE G ad (pmt σ w d) τ)) 0 0 (kA 189 ad) := by
  refine k_met (cc := cX5_permitFrom) (maxL := 3) (ret := none) (by decide) (Nat.le_of_ble_eq_true rfl) ?_
  intro P0 e0 s m0 below meth c0 ls hx hb hr hlocks hml hown hts hK hP hS hl
  replace hl : lv_has ls 3 [(0, _), (1, _), (2, _)] := hl
  replace hown : s.vm.findClass RX5 = some m0.cls := hown
  refine k_abs (fun Wg hWg => ?_)
  refine lv_aload_n hx hb dX5_permitFrom_0 rfl (lv_at hl 1 rfl) ?_
  refine lv_iload_n hx hb dX5_permitFrom_1 rfl (lv_at hl 2 rfl) ?_
  refine k_callvV (nL := 3) (C := RX7) (T := TX7) (N := 16) (ci := 7) hx hb hml hown hts hK hP hS hl.1 (c_X7_placeAt hi hw hd hm) rfl (Nat.le_of_ble_eq_true rfl) rfl (cwV 1 hts (gV lm_X5_51 ti_X7_placeAt tl_X7_placeAt tn_X7 tc_X7_placeAt) rfl rfl rfl (by decide +kernel) ⟨Nat.le_of_ble_eq_true rfl, Nat.le_of_ble_eq_true rfl⟩) rfl dX5_permitFrom_2 ⟨Nat.zero_le _, Nat.zero_le _⟩ (by omega) (CE_w (by omega)) (fun E1 H locs hq hP hS => ?_)
  subst hq
  have e3 : up (up σ 20 w d) 21 w (lstF σ w d) 0 3 = σ 0 3 := by simp [up]
  refine lv_aload_n hx hb dX5_permitFrom_5 rfl (lv_at hl 1 rfl) ?_
  refine lv_iload_n hx hb dX5_permitFrom_6 rfl (lv_at hl 2 rfl) ?_
  refine lv_aload_n hx hb dX5_permitFrom_7 rfl (lv_at hl 0 rfl) ?_
  refine r_get (C := RX5) (T := TX5) (N := 8) (ci := 5) hx hb hts hi_X5 hown hK hP 7 rfl (by decide) lk_X5_54 (fun _ h9 => h9) dX5_permitFrom_8 (by omega) CE_1 rfl ?_
  refine r_icmp_ne (tgt := 18) hx hb (by omega) (by omega) dX5_permitFrom_11 (by decide) (fun c11 => ?_) (fun c11 => ?_)
  · refine r_const hx hb dX5_permitFrom_18 ?_
    refine r_put (C := RX7) (T := TX7) (N := 16) (ci := 7) hx hb hi hts hi_X7 tyX7 tyX7_ok nmX7 hown hK hP hS 10 rfl (by decide) lk_X5_48 (fun _ h9 => h9) rfl (ty := .int) (by decide +kernel) rfl rfl dX5_permitFrom_19 (by omega) (CE_w (by omega)) (Nat.le_of_ble_eq_true rfl) (cu_w_state (by omega)) (fun H locs hP hS => ?_)
    exact k_vret hx hb hr hlocks hP hS dX5_permitFrom_22 (by rw [pmt, cif_f (by simpa [up] using c11)])
  · refine r_const hx hb dX5_permitFrom_14 ?_
    refine lv_goto (tgt := 19) hx hb dX5_permitFrom_15 (by decide) ?_
    refine r_put (C := RX7) (T := TX7) (N := 16) (ci := 7) hx hb hi hts hi_X7 tyX7 tyX7_ok nmX7 hown hK hP hS 10 rfl (by decide) lk_X5_48 (fun _ h9 => h9) rfl (ty := .int) (by decide +kernel) rfl rfl dX5_permitFrom_19 (by omega) (CE_w (by omega)) (Nat.le_of_ble_eq_true rfl) (cu_w_state (by omega)) (fun H locs hP hS => ?_)
    exact k_vret hx hb hr hlocks hP hS dX5_permitFrom_22 (by rw [pmt, cif_t (by simpa [up] using c11)])
abbrev rmX5_drop : Room := { frames := 1, cells := 0, slots := 0, locals := 21 }
set_option maxRecDepth 100000 in
set_option maxHeartbeats 4000000 in
theorem c_X5_drop {l : Launch} {D : va_G} {G : Nat → ClassId} {ad : Nat → Nat} {σ τ : Tb} (hi : kInj 189 ad) {w : Int} (hw : 0 ≤ w ∧ w < 60) (hn : 0 ≤ σ 0 2 ∧ σ 0 2 ≤ 60) (hj : -1 ≤ σ 23 w ∧ σ 23 w < 60) : Met l yX5_drop wsX5_drop rmX5_drop (kPc D (tysG G) 189 ad (CE G ad σ τ) [.ref (ad 1), .ref (ad (69 + w.toNat))]) (kQv D 189 ad (fun E' => E' = CE G ad (drp σ w) τ)) 0 0 (kA 189 ad) := by
  refine k_met (cc := cX5_drop) (maxL := 2) (ret := none) (by decide) (Nat.le_of_ble_eq_true rfl) ?_
  intro P0 e0 s m0 below meth c0 ls hx hb hr hlocks hml hown hts hK hP hS hl
  replace hl : lv_has ls 2 [(0, _), (1, _)] := hl
  replace hown : s.vm.findClass RX5 = some m0.cls := hown
  refine k_abs (fun Wg hWg => ?_)
  refine lv_aload_n hx hb dX5_drop_0 rfl (lv_at hl 1 rfl) ?_
  refine r_const hx hb dX5_drop_1 ?_
  refine r_put (C := RX7) (T := TX7) (N := 16) (ci := 7) hx hb hi hts hi_X7 tyX7 tyX7_ok nmX7 hown hK hP hS 10 rfl (by decide) lk_X5_48 (fun _ h9 => h9) rfl (ty := .int) (by decide +kernel) rfl rfl dX5_drop_2 (by omega) (CE_w (by omega)) (Nat.le_of_ble_eq_true rfl) (cu_w_state (by omega)) (fun H locs hP hS => ?_)
  refine lv_aload_n hx hb dX5_drop_5 rfl (lv_at hl 1 rfl) ?_
  refine r_const hx hb dX5_drop_6 ?_
  refine r_put (C := RX7) (T := TX7) (N := 16) (ci := 7) hx hb hi hts hi_X7 tyX7 tyX7_ok nmX7 hown hK hP hS 11 rfl (by decide) lk_X5_57 (fun _ h9 => h9) rfl (ty := .int) (by decide +kernel) rfl rfl dX5_drop_7 (by omega) (CE_w (by omega)) (Nat.le_of_ble_eq_true rfl) (cu_w_begin (by omega)) (fun H locs hP hS => ?_)
  refine lv_aload_n hx hb dX5_drop_10 rfl (lv_at hl 1 rfl) ?_
  refine r_const hx hb dX5_drop_11 ?_
  refine r_put (C := RX7) (T := TX7) (N := 16) (ci := 7) hx hb hi hts hi_X7 tyX7 tyX7_ok nmX7 hown hK hP hS 12 rfl (by decide) lk_X5_60 (fun _ h9 => h9) rfl (ty := .int) (by decide +kernel) rfl rfl dX5_drop_12 (by omega) (CE_w (by omega)) (Nat.le_of_ble_eq_true rfl) (cu_w_last (by omega)) (fun H locs hP hS => ?_)
  refine lv_aload_n hx hb dX5_drop_15 rfl (lv_at hl 0 rfl) ?_
  refine lv_aload_n hx hb dX5_drop_16 rfl (lv_at hl 1 rfl) ?_
  refine r_get (C := RX7) (T := TX7) (N := 16) (ci := 7) hx hb hts hi_X7 hown hK hP 14 rfl (by decide) lk_X5_63 (fun _ h9 => h9) dX5_drop_17 (by omega) (CE_w (by omega)) rfl ?_
  refine k_calliV (nL := 2) (C := RX5) (T := TX5) (N := 8) (ci := 5) hx hb hml hown hts hK hP hS hl.1 (c_X5_hasWork hi (by simp [up]; omega) (by simpa [up] using hn)) rfl (Nat.le_of_ble_eq_true rfl) rfl (cwV 1 hts (gV lm_X5_66 ti_X5_hasWork tl_X5_hasWork tn_X5 tc_X5_hasWork) rfl rfl rfl (by decide +kernel) ⟨Nat.le_of_ble_eq_true rfl, Nat.le_of_ble_eq_true rfl⟩) rfl dX5_drop_20 ⟨Nat.zero_le _, Nat.zero_le _⟩ (by omega) CE_1 (fun r20 E1 H locs hq hP hS => ?_)
  obtain ⟨rfl, rfl⟩ := hq
  refine r_ifB_eq (tgt := 39) hx hb dX5_drop_23 (by decide) (fun c23 => ?_) (fun c23 => ?_)
  · refine lv_aload_n hx hb dX5_drop_39 rfl (lv_at hl 1 rfl) ?_
    refine r_const hx hb dX5_drop_40 ?_
    refine r_put (C := RX7) (T := TX7) (N := 16) (ci := 7) hx hb hi hts hi_X7 tyX7 tyX7_ok nmX7 hown hK hP hS 14 rfl (by decide) lk_X5_63 (fun _ h9 => h9) rfl (ty := .int) (by decide +kernel) rfl rfl dX5_drop_41 (by omega) (CE_w (by omega)) (Nat.le_of_ble_eq_true rfl) (cu_w_partner (by omega)) (fun H locs hP hS => ?_)
    exact k_vret hx hb hr hlocks hP hS dX5_drop_44 (by rw [drp, cif_f (by simpa [up] using c23)])
  · have e2 : up (up (up σ 19 w 4) 20 w (-1)) 21 w (-1) 0 2 = σ 0 2 := by simp [up]
    have e23 : up (up (up σ 19 w 4) 20 w (-1)) 21 w (-1) 23 w = σ 23 w := by simp [up]
    refine lv_aload_n hx hb dX5_drop_26 rfl (lv_at hl 0 rfl) ?_
    refine r_get (C := RX5) (T := TX5) (N := 8) (ci := 5) hx hb hts hi_X5 hown hK hP 2 rfl (by decide) lk_X5_25 (fun _ h9 => h9) dX5_drop_27 (by omega) CE_1 rfl ?_
    refine lv_aload_n hx hb dX5_drop_30 rfl (lv_at hl 1 rfl) ?_
    refine r_get (C := RX7) (T := TX7) (N := 16) (ci := 7) hx hb hts hi_X7 hown hK hP 14 rfl (by decide) lk_X5_63 (fun _ h9 => h9) dX5_drop_31 (by omega) (CE_w (by omega)) rfl ?_
    refine r_aald hx hb hK hP 5 rfl dX5_drop_34 (by omega) rfl (by omega) (by omega) rfl ?_
    refine r_const hx hb dX5_drop_35 ?_
    refine r_put (C := RX7) (T := TX7) (N := 16) (ci := 7) hx hb hi hts hi_X7 tyX7 tyX7_ok nmX7 hown hK hP hS 14 rfl (by decide) lk_X5_63 (fun _ h9 => h9) rfl (ty := .int) (by decide +kernel) rfl rfl dX5_drop_36 (by omega) (CE_w (by omega)) (Nat.le_of_ble_eq_true rfl) (cu_w_partner (by omega)) (fun H locs hP hS => ?_)
    refine lv_aload_n hx hb dX5_drop_39 rfl (lv_at hl 1 rfl) ?_
    refine r_const hx hb dX5_drop_40 ?_
    refine r_put (C := RX7) (T := TX7) (N := 16) (ci := 7) hx hb hi hts hi_X7 tyX7 tyX7_ok nmX7 hown hK hP hS 14 rfl (by decide) lk_X5_63 (fun _ h9 => h9) rfl (ty := .int) (by decide +kernel) rfl rfl dX5_drop_41 (by omega) (CE_w (by omega)) (Nat.le_of_ble_eq_true rfl) (cu_w_partner (by omega)) (fun H locs hP hS => ?_)
    exact k_vret hx hb hr hlocks hP hS dX5_drop_44 (by rw [drp, cif_t (by simpa [up] using c23)]; simp [up])
abbrev rmX5_passDay : Room := { frames := 0, cells := 0, slots := 0, locals := 0 }
set_option maxRecDepth 100000 in
set_option maxHeartbeats 4000000 in
theorem c_X5_passDay {l : Launch} {D : va_G} {G : Nat → ClassId} {ad : Nat → Nat} {σ τ : Tb} (hi : kInj 189 ad) (hI : Inv σ) : Met l yX5_passDay wsX5_passDay rmX5_passDay (kPc D (tysG G) 189 ad (CE G ad σ τ) [.ref (ad 1)]) (kQv D 189 ad (fun E' => E' = CE G ad (psN σ (σ 0 2)) τ)) 0 0 (kA 189 ad) := by
  refine k_met (cc := cX5_passDay) (maxL := 3) (ret := none) (by decide) (Nat.le_of_ble_eq_true rfl) ?_
  intro P0 e0 s m0 below meth c0 ls hx hb hr hlocks hml hown hts hK hP hS hl
  replace hl : lv_has ls 3 [(0, _)] := hl
  replace hown : s.vm.findClass RX5 = some m0.cls := hown
  refine k_abs (fun Wg hWg => ?_)
  have h0 := Inv_0 hI
  refine lv_aload_n hx hb dX5_passDay_0 rfl (lv_at hl 0 rfl) ?_
  refine lv_dup hx hb dX5_passDay_1 rfl ?_
  refine r_get (C := RX5) (T := TX5) (N := 8) (ci := 5) hx hb hts hi_X5 hown hK hP 7 rfl (by decide) lk_X5_54 (fun _ h9 => h9) dX5_passDay_2 (by omega) CE_1 rfl ?_
  refine r_const hx hb dX5_passDay_5 ?_
  refine r_add hx hb dX5_passDay_6 ?_
  refine r_put (C := RX5) (T := TX5) (N := 8) (ci := 5) hx hb hi hts hi_X5 tyX5 tyX5_ok nmX5 hown hK hP hS 7 rfl (by decide) lk_X5_54 (fun _ h9 => h9) rfl (ty := .int) (by decide +kernel) rfl rfl dX5_passDay_7 (by omega) CE_1 (Nat.le_of_ble_eq_true rfl) cu_today (fun H locs hP hS => ?_)
  refine r_const hx hb dX5_passDay_10 ?_
  refine lv_istore_n hx hb dX5_passDay_11 rfl hl (by decide) rfl (fun ls hl => ?_)
  replace hl : lv_has ls 3 [(0, _), (1, _)] := lv_sub hl [1, 0] rfl
  have loop12 : ∀ (n : Nat) (i : Int) (H : Heap) (locs : List Loc) (ls : Array Slot), va_P D vwCl (kw 189 ad (CE G ad (psN σ i) τ)) H → va_S (kA 189 ad) s.heap H locs → lv_has ls 3 [(0, .ref (ad 1)), (1, .int (iI i))] → (0 ≤ i ∧ i ≤ σ 0 2) → (σ 0 2 - i).toNat < n → Wg H locs (F0 m0 12 ls []) := by
    intro n
    induction n with
    | zero => intro i H locs ls _ _ _ _ hn; omega
    | succ n ih12 =>
      intro i H locs ls hP hS hl hv12 hn12
      rw [hWg]
      have e2 : psN σ i 0 2 = σ 0 2 := psN_o (by omega) (by omega)
      refine lv_iload_n hx hb dX5_passDay_12 rfl (lv_at hl 1 rfl) ?_
      refine lv_aload_n hx hb dX5_passDay_13 rfl (lv_at hl 0 rfl) ?_
      refine r_get (C := RX5) (T := TX5) (N := 8) (ci := 5) hx hb hts hi_X5 hown hK hP 6 rfl (by decide) lk_X5_45 (fun _ h9 => h9) dX5_passDay_14 (by omega) CE_1 rfl ?_
      refine r_icmp_ge (tgt := 81) hx hb (by omega) (by omega) dX5_passDay_17 (by decide) (fun c17 => ?_) (fun c17 => ?_)
      · exact k_vret hx hb hr hlocks hP hS dX5_passDay_81 (by rw [show i = σ 0 2 by omega])
      · rw [e2] at c17
        obtain ⟨hN, _⟩ := Inv_w hI (w := i) (by omega)
        have hB := IN_b hI (w := i) (by omega)
        unfold IN at hN
        have e19 : psN σ i 19 i = σ 19 i := psN_o (by omega) (by omega)
        have e20 : psN σ i 20 i = σ 20 i := psN_o (by omega) (by omega)
        have e21 : psN σ i 21 i = σ 21 i := psN_o (by omega) (by omega)
        have e3 : psN σ i 0 3 = σ 0 3 + 1 := psN_d
        have join75 : ∀  (H : Heap) (locs : List Loc) (ls : Array Slot), va_P D vwCl (kw 189 ad (CE G ad (psN σ (i + 1)) τ)) H → va_S (kA 189 ad) s.heap H locs → lv_has ls 3 [(0, .ref (ad 1)), (1, .int (iI i))] → (True) → Wg H locs (F0 m0 75 ls []) := by
          intro  H locs ls hP hS hl hv75
          rw [hWg]
          refine r_iinc hx hb dX5_passDay_75 hl (k := 1) rfl (by decide) (fun ls hl => ?_)
          replace hl : lv_has ls 3 [(0, _), (1, _)] := lv_sub hl [1, 0] rfl
          refine lv_goto (tgt := 12) hx hb dX5_passDay_78 (by decide) ?_
          rw [← hWg]
          exact ih12 (i + 1) _ _ _ hP hS hl (by omega) (by omega)
        have join51 : ∀  (H : Heap) (locs : List Loc) (ls : Array Slot), va_P D vwCl (kw 189 ad (CE G ad (psN σ i) τ)) H → va_S (kA 189 ad) s.heap H locs → lv_has ls 3 [(0, .ref (ad 1)), (1, .int (iI i)), (2, .ref (ad (69 + i.toNat)))] → (¬ (σ 19 i = 2 ∧ σ 21 i < σ 0 3 + 1)) → Wg H locs (F0 m0 51 ls []) := by
          intro  H locs ls hP hS hl hv51
          rw [hWg]
          refine lv_aload_n hx hb dX5_passDay_51 rfl (lv_at hl 2 rfl) ?_
          refine r_get (C := RX7) (T := TX7) (N := 16) (ci := 7) hx hb hts hi_X7 hown hK hP 10 rfl (by decide) lk_X5_48 (fun _ h9 => h9) dX5_passDay_52 (by omega) (CE_w (by omega)) rfl ?_
          refine r_const hx hb dX5_passDay_55 ?_
          refine r_icmp_ne (tgt := 75) hx hb (by omega) (by omega) dX5_passDay_56 (by decide) (fun c56 => ?_) (fun c56 => ?_)
          · rw [psN_k (by omega) (by rw [psS, cif_f hv51, cif_f (by omega)])] at hP
            rw [← hWg]
            exact join75  _ _ _ hP hS (lv_sub hl [0, 1] rfl) trivial
          · refine lv_aload_n hx hb dX5_passDay_59 rfl (lv_at hl 2 rfl) ?_
            refine r_get (C := RX7) (T := TX7) (N := 16) (ci := 7) hx hb hts hi_X7 hown hK hP 11 rfl (by decide) lk_X5_57 (fun _ h9 => h9) dX5_passDay_60 (by omega) (CE_w (by omega)) rfl ?_
            refine lv_aload_n hx hb dX5_passDay_63 rfl (lv_at hl 0 rfl) ?_
            refine r_get (C := RX5) (T := TX5) (N := 8) (ci := 5) hx hb hts hi_X5 hown hK hP 7 rfl (by decide) lk_X5_54 (fun _ h9 => h9) dX5_passDay_64 (by omega) CE_1 rfl ?_
            refine r_icmp_ne (tgt := 75) hx hb (by omega) (by omega) dX5_passDay_67 (by decide) (fun c67 => ?_) (fun c67 => ?_)
            · rw [psN_k (by omega) (by rw [psS, cif_f hv51, cif_f (by omega)])] at hP
              rw [← hWg]
              exact join75  _ _ _ hP hS (lv_sub hl [0, 1] rfl) trivial
            · refine lv_aload_n hx hb dX5_passDay_70 rfl (lv_at hl 2 rfl) ?_
              refine r_const hx hb dX5_passDay_71 ?_
              refine r_put (C := RX7) (T := TX7) (N := 16) (ci := 7) hx hb hi hts hi_X7 tyX7 tyX7_ok nmX7 hown hK hP hS 10 rfl (by decide) lk_X5_48 (fun _ h9 => h9) rfl (ty := .int) (by decide +kernel) rfl rfl dX5_passDay_72 (by omega) (CE_w (by omega)) (Nat.le_of_ble_eq_true rfl) (cu_w_state (by omega)) (fun H locs hP hS => ?_)
              rw [psN_s (by omega) (by rw [psS, cif_f hv51, cif_t (by omega)])] at hP
              rw [← hWg]
              exact join75  _ _ _ hP hS (lv_sub hl [0, 1] rfl) trivial
        refine lv_aload_n hx hb dX5_passDay_20 rfl (lv_at hl 0 rfl) ?_
        refine r_get (C := RX5) (T := TX5) (N := 8) (ci := 5) hx hb hts hi_X5 hown hK hP 2 rfl (by decide) lk_X5_25 (fun _ h9 => h9) dX5_passDay_21 (by omega) CE_1 rfl ?_
        refine lv_iload_n hx hb dX5_passDay_24 rfl (lv_at hl 1 rfl) ?_
        refine r_aald hx hb hK hP 5 rfl dX5_passDay_25 (by omega) rfl (by omega) (by omega) rfl ?_
        refine lv_astore_n hx hb dX5_passDay_26 rfl hl (by decide) rfl (fun ls hl => ?_)
        replace hl : lv_has ls 3 [(0, _), (1, _), (2, _)] := lv_sub hl [1, 2, 0] rfl
        refine lv_aload_n hx hb dX5_passDay_27 rfl (lv_at hl 2 rfl) ?_
        refine r_get (C := RX7) (T := TX7) (N := 16) (ci := 7) hx hb hts hi_X7 hown hK hP 10 rfl (by decide) lk_X5_48 (fun _ h9 => h9) dX5_passDay_28 (by omega) (CE_w (by omega)) rfl ?_
        refine r_const hx hb dX5_passDay_31 ?_
        refine r_icmp_ne (tgt := 51) hx hb (by omega) (by omega) dX5_passDay_32 (by decide) (fun c32 => ?_) (fun c32 => ?_)
        · rw [← hWg]
          exact join51  _ _ _ hP hS hl (by omega)
        · refine lv_aload_n hx hb dX5_passDay_35 rfl (lv_at hl 2 rfl) ?_
          refine r_get (C := RX7) (T := TX7) (N := 16) (ci := 7) hx hb hts hi_X7 hown hK hP 12 rfl (by decide) lk_X5_60 (fun _ h9 => h9) dX5_passDay_36 (by omega) (CE_w (by omega)) rfl ?_
          refine lv_aload_n hx hb dX5_passDay_39 rfl (lv_at hl 0 rfl) ?_
          refine r_get (C := RX5) (T := TX5) (N := 8) (ci := 5) hx hb hts hi_X5 hown hK hP 7 rfl (by decide) lk_X5_54 (fun _ h9 => h9) dX5_passDay_40 (by omega) CE_1 rfl ?_
          refine r_icmp_ge (tgt := 51) hx hb (by omega) (by omega) dX5_passDay_43 (by decide) (fun c43 => ?_) (fun c43 => ?_)
          · rw [← hWg]
            exact join51  _ _ _ hP hS hl (by omega)
          · refine lv_aload_n hx hb dX5_passDay_46 rfl (lv_at hl 2 rfl) ?_
            refine r_const hx hb dX5_passDay_47 ?_
            refine r_put (C := RX7) (T := TX7) (N := 16) (ci := 7) hx hb hi hts hi_X7 tyX7 tyX7_ok nmX7 hown hK hP hS 10 rfl (by decide) lk_X5_48 (fun _ h9 => h9) rfl (ty := .int) (by decide +kernel) rfl rfl dX5_passDay_48 (by omega) (CE_w (by omega)) (Nat.le_of_ble_eq_true rfl) (cu_w_state (by omega)) (fun H locs hP hS => ?_)
            rw [psN_s (by omega) (by rw [psS, cif_t (by omega)])] at hP
            have e19 : psN σ (i + 1) 19 i = 3 := by rw [← psN_s (v := 3) (by omega) (by rw [psS, cif_t (by omega)])]; simp [up]
            refine lv_aload_n hx hb dX5_passDay_51 rfl (lv_at hl 2 rfl) ?_
            refine r_get (C := RX7) (T := TX7) (N := 16) (ci := 7) hx hb hts hi_X7 hown hK hP 10 rfl (by decide) lk_X5_48 (fun _ h9 => h9) dX5_passDay_52 (by omega) (CE_w (by omega)) rfl ?_
            refine r_const hx hb dX5_passDay_55 ?_
            refine r_icmp_ne (tgt := 75) hx hb (by omega) (by omega) dX5_passDay_56 (by decide) (fun c56 => ?_) (fun c56 => ?_)
            · rw [← hWg]
              exact join75  _ _ _ hP hS (lv_sub hl [0, 1] rfl) trivial
            · omega
  have hP : va_P D vwCl (kw 189 ad (CE G ad (psN σ 0) τ)) H := by rw [← psN_0]; exact hP
  rw [← hWg]
  exact loop12 _ 0 _ _ _ hP hS hl (by omega) (Nat.lt_succ_self _)
abbrev rmX5_ranks : Room := { frames := 0, cells := 0, slots := 0, locals := 0 }
set_option maxRecDepth 100000 in
set_option maxHeartbeats 4000000 in
theorem c_X5_ranks {l : Launch} {D : va_G} {G : Nat → ClassId} {ad : Nat → Nat} {σ τ : Tb} (hi : kInj 189 ad) {w : Int} (hI : Inv σ) (hw : 0 ≤ w ∧ w < σ 0 2) : Met l yX5_ranks wsX5_ranks rmX5_ranks (kPc D (tysG G) 189 ad (CE G ad σ τ) [.ref (ad 1), .ref (ad (69 + w.toNat))]) (kQi D 189 ad (fun r E' => r = rnkC σ w ∧ E' = CE G ad σ τ)) 0 0 (kA 189 ad) := by
  refine k_met (cc := cX5_ranks) (maxL := 4) (ret := (some .int)) (by decide) (Nat.le_of_ble_eq_true rfl) ?_
  intro P0 e0 s m0 below meth c0 ls hx hb hr hlocks hml hown hts hK hP hS hl
  replace hl : lv_has ls 4 [(0, _), (1, _)] := hl
  replace hown : s.vm.findClass RX5 = some m0.cls := hown
  refine k_abs (fun Wg hWg => ?_)
  have h0 := Inv_0 hI
  obtain ⟨_, ⟨hq1, hq2, hq3, _⟩, _⟩ := Inv_w hI hw
  refine r_const hx hb dX5_ranks_0 ?_
  refine lv_istore_n hx hb dX5_ranks_1 rfl hl (by decide) rfl (fun ls hl => ?_)
  replace hl : lv_has ls 4 [(0, _), (1, _), (2, _)] := lv_sub hl [1, 2, 0] rfl
  refine r_const hx hb dX5_ranks_2 ?_
  refine lv_istore_n hx hb dX5_ranks_3 rfl hl (by decide) rfl (fun ls hl => ?_)
  replace hl : lv_has ls 4 [(0, _), (1, _), (2, _), (3, _)] := lv_sub hl [1, 2, 3, 0] rfl
  have loop4 : ∀ (n : Nat) (i c : Int) (H : Heap) (locs : List Loc) (ls : Array Slot), va_P D vwCl (kw 189 ad (CE G ad σ τ)) H → va_S (kA 189 ad) s.heap H locs → lv_has ls 4 [(0, .ref (ad 1)), (1, .ref (ad (69 + w.toNat))), (2, .int (iI c)), (3, .int (iI i))] → ((0 ≤ i ∧ i ≤ σ 18 w) ∧ c = sumI (fun k => σ 4 (PQ σ w k)) i) → (σ 18 w - i).toNat < n → Wg H locs (F0 m0 4 ls []) := by
    intro n
    induction n with
    | zero => intro i c H locs ls _ _ _ _ hn; omega
    | succ n ih4 =>
      intro i c H locs ls hP hS hl hv4 hn4
      rw [hWg]
      refine lv_iload_n hx hb dX5_ranks_4 rfl (lv_at hl 3 rfl) ?_
      refine lv_aload_n hx hb dX5_ranks_5 rfl (lv_at hl 1 rfl) ?_
      refine r_get (C := RX7) (T := TX7) (N := 16) (ci := 7) hx hb hts hi_X7 hown hK hP 2 rfl (by decide) lk_X5_70 (fun _ h9 => h9) dX5_ranks_6 (by omega) (CE_w (by omega)) rfl ?_
      refine r_icmp_ge (tgt := 35) hx hb (by omega) (by omega) dX5_ranks_9 (by decide) (fun c9 => ?_) (fun c9 => ?_)
      · refine lv_iload_n hx hb dX5_ranks_35 rfl (lv_at hl 2 rfl) ?_
        exact k_iret hx hb hr hlocks hP hS dX5_ranks_36 ⟨by rw [rnkC, hv4.2, show i = σ 18 w by omega], rfl⟩
      · have hp := (hq3 i (by omega) (by omega)).1
        refine lv_iload_n hx hb dX5_ranks_12 rfl (lv_at hl 2 rfl) ?_
        refine lv_aload_n hx hb dX5_ranks_13 rfl (lv_at hl 0 rfl) ?_
        refine r_get (C := RX5) (T := TX5) (N := 8) (ci := 5) hx hb hts hi_X5 hown hK hP 0 rfl (by decide) lk_X5_11 (fun _ h9 => h9) dX5_ranks_14 (by omega) CE_1 rfl ?_
        refine lv_aload_n hx hb dX5_ranks_17 rfl (lv_at hl 1 rfl) ?_
        refine r_get (C := RX7) (T := TX7) (N := 16) (ci := 7) hx hb hts hi_X7 hown hK hP 1 rfl (by decide) lk_X5_73 (fun _ h9 => h9) dX5_ranks_18 (by omega) (CE_w (by omega)) rfl ?_
        refine lv_iload_n hx hb dX5_ranks_21 rfl (lv_at hl 3 rfl) ?_
        refine r_iald hx hb hK hP 0 rfl dX5_ranks_22 (by omega) (CE_q (by omega)) (by omega) (by omega) tQ_PQ ?_
        refine r_aald hx hb hK hP 4 rfl dX5_ranks_23 (by omega) rfl (by omega) (by omega) rfl ?_
        refine r_get (C := RX2) (T := TX2) (N := 6) (ci := 2) hx hb hts hi_X2 hown hK hP 3 rfl (by decide) lk_X5_76 (fun _ h9 => h9) dX5_ranks_24 (by omega) (CE_p (by omega)) rfl ?_
        refine r_add hx hb dX5_ranks_27 ?_
        refine lv_istore_n hx hb dX5_ranks_28 rfl hl (by decide) rfl (fun ls hl => ?_)
        replace hl : lv_has ls 4 [(0, _), (1, _), (2, _), (3, _)] := lv_sub hl [1, 2, 0, 3] rfl
        refine r_iinc hx hb dX5_ranks_29 hl (k := 3) rfl (by decide) (fun ls hl => ?_)
        replace hl : lv_has ls 4 [(0, _), (1, _), (2, _), (3, _)] := lv_sub hl [1, 2, 3, 0] rfl
        refine lv_goto (tgt := 4) hx hb dX5_ranks_32 (by decide) ?_
        rw [← hWg]
        exact ih4 (i + 1) _ _ _ _ hP hS hl ⟨by omega, by rw [sumI_s (by omega), hv4.2]⟩ (by omega)
  rw [← hWg]
  exact loop4 _ 0 0 _ _ _ hP hS hl ⟨by omega, sumI_0.symm⟩ (Nat.lt_succ_self _)
abbrev rmX5_costAlone : Room := { frames := 1, cells := 0, slots := 0, locals := 23 }
set_option maxRecDepth 100000 in
set_option maxHeartbeats 4000000 in
theorem c_X5_costAlone {l : Launch} {D : va_G} {G : Nat → ClassId} {ad : Nat → Nat} {σ τ : Tb} (hi : kInj 189 ad) {w : Int} (hI : Inv σ) (hw : 0 ≤ w ∧ w < σ 0 2) : Met l yX5_costAlone wsX5_costAlone rmX5_costAlone (kPc D (tysG G) 189 ad (CE G ad σ τ) [.ref (ad 1), .ref (ad (69 + w.toNat))]) (kQi D 189 ad (fun r E' => r = cstC σ w ∧ E' = CE G ad σ τ)) 0 0 (kA 189 ad) := by
  refine k_met (cc := cX5_costAlone) (maxL := 2) (ret := (some .int)) (by decide) (Nat.le_of_ble_eq_true rfl) ?_
  intro P0 e0 s m0 below meth c0 ls hx hb hr hlocks hml hown hts hK hP hS hl
  replace hl : lv_has ls 2 [(0, _), (1, _)] := hl
  replace hown : s.vm.findClass RX5 = some m0.cls := hown
  refine k_abs (fun Wg hWg => ?_)
  have h0 := Inv_0 hI
  refine lv_aload_n hx hb dX5_costAlone_0 rfl (lv_at hl 1 rfl) ?_
  refine r_get (C := RX7) (T := TX7) (N := 16) (ci := 7) hx hb hts hi_X7 hown hK hP 7 rfl (by decide) lk_X5_79 (fun _ h9 => h9) dX5_costAlone_1 (by omega) (CE_w (by omega)) rfl ?_
  refine lv_aload_n hx hb dX5_costAlone_4 rfl (lv_at hl 1 rfl) ?_
  refine r_get (C := RX7) (T := TX7) (N := 16) (ci := 7) hx hb hts hi_X7 hown hK hP 2 rfl (by decide) lk_X5_70 (fun _ h9 => h9) dX5_costAlone_5 (by omega) (CE_w (by omega)) rfl ?_
  refine r_bipush hx hb dX5_costAlone_8 (by decide +kernel) ?_
  refine r_const hx hb dX5_costAlone_10 ?_
  refine lv_aload_n hx hb dX5_costAlone_11 rfl (lv_at hl 1 rfl) ?_
  refine r_get (C := RX7) (T := TX7) (N := 16) (ci := 7) hx hb hts hi_X7 hown hK hP 6 rfl (by decide) lk_X5_82 (fun _ h9 => h9) dX5_costAlone_12 (by omega) (CE_w (by omega)) rfl ?_
  refine r_mul hx hb dX5_costAlone_15 ?_
  refine r_add hx hb dX5_costAlone_16 ?_
  refine r_mul hx hb dX5_costAlone_17 ?_
  refine r_bipush hx hb dX5_costAlone_18 (by decide +kernel) ?_
  refine lv_aload_n hx hb dX5_costAlone_20 rfl (lv_at hl 0 rfl) ?_
  refine lv_aload_n hx hb dX5_costAlone_21 rfl (lv_at hl 1 rfl) ?_
  refine k_calliV (nL := 2) (C := RX5) (T := TX5) (N := 8) (ci := 5) hx hb hml hown hts hK hP hS hl.1 (c_X5_ranks hi hI hw) rfl (Nat.le_of_ble_eq_true rfl) rfl (cwV 1 hts (gV lm_X5_85 ti_X5_ranks tl_X5_ranks tn_X5 tc_X5_ranks) rfl rfl rfl (by decide +kernel) ⟨Nat.le_of_ble_eq_true rfl, Nat.le_of_ble_eq_true rfl⟩) rfl dX5_costAlone_22 ⟨Nat.zero_le _, Nat.zero_le _⟩ (by omega) CE_1 (fun r22 E1 H locs hq hP hS => ?_)
  obtain ⟨rfl, rfl⟩ := hq
  refine r_mul hx hb dX5_costAlone_25 ?_
  refine r_add hx hb dX5_costAlone_26 ?_
  refine r_mul hx hb dX5_costAlone_27 ?_
  exact k_iret hx hb hr hlocks hP hS dX5_costAlone_28 ⟨rfl, rfl⟩
abbrev rmX5_fine : Room := { frames := 1, cells := 0, slots := 0, locals := 23 }
set_option maxRecDepth 100000 in
set_option maxHeartbeats 4000000 in
theorem c_X5_fine {l : Launch} {D : va_G} {G : Nat → ClassId} {ad : Nat → Nat} {σ τ : Tb} (hi : kInj 189 ad) {w : Int} (hI : Inv σ) (hw : 0 ≤ w ∧ w < σ 0 2) : Met l yX5_fine wsX5_fine rmX5_fine (kPc D (tysG G) 189 ad (CE G ad σ τ) [.ref (ad 1), .ref (ad (69 + w.toNat))]) (kQi D 189 ad (fun r E' => r = σ 22 w * (10 * rnkC σ w + 10) ∧ E' = CE G ad σ τ)) 0 0 (kA 189 ad) := by
  refine k_met (cc := cX5_fine) (maxL := 2) (ret := (some .int)) (by decide) (Nat.le_of_ble_eq_true rfl) ?_
  intro P0 e0 s m0 below meth c0 ls hx hb hr hlocks hml hown hts hK hP hS hl
  replace hl : lv_has ls 2 [(0, _), (1, _)] := hl
  replace hown : s.vm.findClass RX5 = some m0.cls := hown
  refine k_abs (fun Wg hWg => ?_)
  have h0 := Inv_0 hI
  refine lv_aload_n hx hb dX5_fine_0 rfl (lv_at hl 1 rfl) ?_
  refine r_get (C := RX7) (T := TX7) (N := 16) (ci := 7) hx hb hts hi_X7 hown hK hP 13 rfl (by decide) lk_X5_89 (fun _ h9 => h9) dX5_fine_1 (by omega) (CE_w (by omega)) rfl ?_
  refine r_bipush hx hb dX5_fine_4 (by decide +kernel) ?_
  refine lv_aload_n hx hb dX5_fine_6 rfl (lv_at hl 0 rfl) ?_
  refine lv_aload_n hx hb dX5_fine_7 rfl (lv_at hl 1 rfl) ?_
  refine k_calliV (nL := 2) (C := RX5) (T := TX5) (N := 8) (ci := 5) hx hb hml hown hts hK hP hS hl.1 (c_X5_ranks hi hI hw) rfl (Nat.le_of_ble_eq_true rfl) rfl (cwV 1 hts (gV lm_X5_85 ti_X5_ranks tl_X5_ranks tn_X5 tc_X5_ranks) rfl rfl rfl (by decide +kernel) ⟨Nat.le_of_ble_eq_true rfl, Nat.le_of_ble_eq_true rfl⟩) rfl dX5_fine_8 ⟨Nat.zero_le _, Nat.zero_le _⟩ (by omega) CE_1 (fun r8 E1 H locs hq hP hS => ?_)
  obtain ⟨rfl, rfl⟩ := hq
  refine r_mul hx hb dX5_fine_11 ?_
  refine r_bipush hx hb dX5_fine_12 (by decide +kernel) ?_
  refine r_add hx hb dX5_fine_14 ?_
  refine r_mul hx hb dX5_fine_15 ?_
  exact k_iret hx hb hr hlocks hP hS dX5_fine_16 ⟨rfl, rfl⟩
abbrev rmX5_bookedAhead : Room := { frames := 2, cells := 0, slots := 0, locals := 42 }
set_option maxRecDepth 100000 in
set_option maxHeartbeats 4000000 in
theorem c_X5_bookedAhead {l : Launch} {D : va_G} {G : Nat → ClassId} {ad : Nat → Nat} {σ τ : Tb} (hi : kInj 189 ad) {p w : Int} (hI : Inv σ) (hp : 0 ≤ p ∧ p < 40) (hw : 0 ≤ w ∧ w < σ 0 2) : Met l yX5_bookedAhead wsX5_bookedAhead rmX5_bookedAhead (kPc D (tysG G) 189 ad (CE G ad σ τ) [.ref (ad 1), .int (iI p), .ref (ad (69 + w.toNat))]) (kQi D 189 ad (fun r E' => r = bkA σ p w ∧ E' = CE G ad σ τ)) 0 0 (kA 189 ad) := by
  refine k_met (cc := cX5_bookedAhead) (maxL := 6) (ret := (some .int)) (by decide) (Nat.le_of_ble_eq_true rfl) ?_
  intro P0 e0 s m0 below meth c0 ls hx hb hr hlocks hml hown hts hK hP hS hl
  replace hl : lv_has ls 6 [(0, _), (1, _), (2, _)] := hl
  replace hown : s.vm.findClass RX5 = some m0.cls := hown
  refine k_abs (fun Wg hWg => ?_)
  have h0 := Inv_0 hI
  have hBw := IN_b hI hw
  refine r_const hx hb dX5_bookedAhead_0 ?_
  refine lv_istore_n hx hb dX5_bookedAhead_1 rfl hl (by decide) rfl (fun ls hl => ?_)
  replace hl : lv_has ls 6 [(0, _), (1, _), (2, _), (3, _)] := lv_sub hl [1, 2, 3, 0] rfl
  refine r_const hx hb dX5_bookedAhead_2 ?_
  refine lv_istore hx hb dX5_bookedAhead_3 hl (by decide) rfl (fun ls hl => ?_)
  replace hl : lv_has ls 6 [(0, _), (1, _), (2, _), (3, _), (4, _)] := lv_sub hl [1, 2, 3, 4, 0] rfl
  have loop5 : ∀ (n : Nat) (i c : Int) (H : Heap) (locs : List Loc) (ls : Array Slot), va_P D vwCl (kw 189 ad (CE G ad σ τ)) H → va_S (kA 189 ad) s.heap H locs → lv_has ls 6 [(0, .ref (ad 1)), (1, .int (iI p)), (2, .ref (ad (69 + w.toNat))), (3, .int (iI c)), (4, .int (iI i))] → ((0 ≤ i ∧ i ≤ σ 0 2) ∧ c = sumI (fun o => bI (((σ 19 o = 2 ∨ σ 19 o = 3) ∧ isOn σ o p) ∧ (σ 20 o < σ 20 w ∨ (σ 20 o = σ 20 w ∧ o < w)))) i) → (σ 0 2 - i).toNat < n → Wg H locs (F0 m0 5 ls []) := by
    intro n
    induction n with
    | zero => intro i c H locs ls _ _ _ _ hn; omega
    | succ n ih5 =>
      intro i c H locs ls hP hS hl hv5 hn5
      rw [hWg]
      refine lv_iload hx hb dX5_bookedAhead_5 (lv_at hl 4 rfl) ?_
      refine lv_aload_n hx hb dX5_bookedAhead_7 rfl (lv_at hl 0 rfl) ?_
      refine r_get (C := RX5) (T := TX5) (N := 8) (ci := 5) hx hb hts hi_X5 hown hK hP 6 rfl (by decide) lk_X5_45 (fun _ h9 => h9) dX5_bookedAhead_8 (by omega) CE_1 rfl ?_
      refine r_icmp_ge (tgt := 77) hx hb (by omega) (by omega) dX5_bookedAhead_11 (by decide) (fun c11 => ?_) (fun c11 => ?_)
      · refine lv_iload_n hx hb dX5_bookedAhead_77 rfl (lv_at hl 3 rfl) ?_
        exact k_iret hx hb hr hlocks hP hS dX5_bookedAhead_78 ⟨by rw [bkA, hv5.2, show i = σ 0 2 by omega], rfl⟩
      · obtain ⟨hN, hQ, _⟩ := Inv_w hI (w := i) (by omega)
        have hB := IN_b hI (w := i) (by omega)
        unfold IN at hN
        unfold IQ at hQ
        have join71 : ∀ (c' : Int) (H : Heap) (locs : List Loc) (ls : Array Slot), va_P D vwCl (kw 189 ad (CE G ad σ τ)) H → va_S (kA 189 ad) s.heap H locs → lv_has ls 6 [(0, .ref (ad 1)), (1, .int (iI p)), (2, .ref (ad (69 + w.toNat))), (3, .int (iI c')), (4, .int (iI i))] → (c' = sumI (fun o => bI (((σ 19 o = 2 ∨ σ 19 o = 3) ∧ isOn σ o p) ∧ (σ 20 o < σ 20 w ∨ (σ 20 o = σ 20 w ∧ o < w)))) (i + 1)) → Wg H locs (F0 m0 71 ls []) := by
          intro c' H locs ls hP hS hl hv71
          rw [hWg]
          refine r_iinc hx hb dX5_bookedAhead_71 hl (k := 4) rfl (by decide) (fun ls hl => ?_)
          replace hl : lv_has ls 6 [(0, _), (1, _), (2, _), (3, _), (4, _)] := lv_sub hl [1, 2, 3, 4, 0] rfl
          refine lv_goto (tgt := 5) hx hb dX5_bookedAhead_74 (by decide) ?_
          rw [← hWg]
          exact ih5 (i + 1) c' _ _ _ hP hS hl ⟨by omega, hv71⟩ (by omega)
        refine lv_aload_n hx hb dX5_bookedAhead_14 rfl (lv_at hl 0 rfl) ?_
        refine r_get (C := RX5) (T := TX5) (N := 8) (ci := 5) hx hb hts hi_X5 hown hK hP 2 rfl (by decide) lk_X5_25 (fun _ h9 => h9) dX5_bookedAhead_15 (by omega) CE_1 rfl ?_
        refine lv_iload hx hb dX5_bookedAhead_18 (lv_at hl 4 rfl) ?_
        refine r_aald hx hb hK hP 5 rfl dX5_bookedAhead_20 (by omega) rfl (by omega) (by omega) rfl ?_
        refine lv_astore hx hb dX5_bookedAhead_21 hl (by decide) rfl (fun ls hl => ?_)
        replace hl : lv_has ls 6 [(0, _), (1, _), (2, _), (3, _), (4, _), (5, _)] := lv_sub hl [1, 2, 3, 4, 5, 0] rfl
        refine lv_aload hx hb dX5_bookedAhead_23 (lv_at hl 5 rfl) ?_
        refine lv_iload_n hx hb dX5_bookedAhead_25 rfl (lv_at hl 1 rfl) ?_
        refine k_calliV (nL := 6) (C := RX7) (T := TX7) (N := 16) (ci := 7) hx hb hml hown hts hK hP hS hl.1 (c_X7_isBookedOn hi (by omega) hp hQ.1 (by omega)) rfl (Nat.le_of_ble_eq_true rfl) rfl (cwV 1 hts (gV lm_X5_107 ti_X7_isBookedOn tl_X7_isBookedOn tn_X7 tc_X7_isBookedOn) rfl rfl rfl (by decide +kernel) ⟨Nat.le_of_ble_eq_true rfl, Nat.le_of_ble_eq_true rfl⟩) rfl dX5_bookedAhead_26 ⟨Nat.zero_le _, Nat.zero_le _⟩ (by omega) (CE_w (by omega)) (fun r26 E1 H locs hq hP hS => ?_)
        obtain ⟨rfl, rfl⟩ := hq
        refine r_ifB_ne (tgt := 35) hx hb dX5_bookedAhead_29 (by decide) (fun c29 => ?_) (fun c29 => ?_)
        · refine lv_aload hx hb dX5_bookedAhead_35 (lv_at hl 5 rfl) ?_
          refine r_get (C := RX7) (T := TX7) (N := 16) (ci := 7) hx hb hts hi_X7 hown hK hP 11 rfl (by decide) lk_X5_57 (fun _ h9 => h9) dX5_bookedAhead_37 (by omega) (CE_w (by omega)) rfl ?_
          refine lv_aload_n hx hb dX5_bookedAhead_40 rfl (lv_at hl 2 rfl) ?_
          refine r_get (C := RX7) (T := TX7) (N := 16) (ci := 7) hx hb hts hi_X7 hown hK hP 11 rfl (by decide) lk_X5_57 (fun _ h9 => h9) dX5_bookedAhead_41 (by omega) (CE_w (by omega)) rfl ?_
          refine r_icmp_lt (tgt := 68) hx hb (by omega) (by omega) dX5_bookedAhead_44 (by decide) (fun c44 => ?_) (fun c44 => ?_)
          · refine r_iinc hx hb dX5_bookedAhead_68 hl (k := 3) rfl (by decide) (fun ls hl => ?_)
            replace hl : lv_has ls 6 [(0, _), (1, _), (2, _), (3, _), (4, _), (5, _)] := lv_sub hl [1, 2, 3, 0, 4, 5] rfl
            rw [← hWg]
            exact join71 _ _ _ _ hP hS (lv_sub hl [0, 1, 2, 3, 4] rfl) (by rw [sumI_s (by omega), bI_t ⟨c29, by omega⟩, hv5.2])
          · refine lv_aload hx hb dX5_bookedAhead_47 (lv_at hl 5 rfl) ?_
            refine r_get (C := RX7) (T := TX7) (N := 16) (ci := 7) hx hb hts hi_X7 hown hK hP 11 rfl (by decide) lk_X5_57 (fun _ h9 => h9) dX5_bookedAhead_49 (by omega) (CE_w (by omega)) rfl ?_
            refine lv_aload_n hx hb dX5_bookedAhead_52 rfl (lv_at hl 2 rfl) ?_
            refine r_get (C := RX7) (T := TX7) (N := 16) (ci := 7) hx hb hts hi_X7 hown hK hP 11 rfl (by decide) lk_X5_57 (fun _ h9 => h9) dX5_bookedAhead_53 (by omega) (CE_w (by omega)) rfl ?_
            refine r_icmp_ne (tgt := 71) hx hb (by omega) (by omega) dX5_bookedAhead_56 (by decide) (fun c56 => ?_) (fun c56 => ?_)
            · rw [← hWg]
              exact join71 _ _ _ _ hP hS (lv_sub hl [0, 1, 2, 3, 4] rfl) (by rw [sumI_s (by omega), bI_f (by omega), hv5.2]; omega)
            · refine lv_iload hx hb dX5_bookedAhead_59 (lv_at hl 4 rfl) ?_
              refine lv_aload_n hx hb dX5_bookedAhead_61 rfl (lv_at hl 2 rfl) ?_
              refine r_get (C := RX7) (T := TX7) (N := 16) (ci := 7) hx hb hts hi_X7 hown hK hP 0 rfl (by decide) lk_X5_104 (fun _ h9 => h9) dX5_bookedAhead_62 (by omega) (CE_w (by omega)) rfl ?_
              refine r_icmp_ge (tgt := 71) hx hb (by omega) (by omega) dX5_bookedAhead_65 (by decide) (fun c65 => ?_) (fun c65 => ?_)
              · rw [← hWg]
                exact join71 _ _ _ _ hP hS (lv_sub hl [0, 1, 2, 3, 4] rfl) (by rw [sumI_s (by omega), bI_f (by omega), hv5.2]; omega)
              · refine r_iinc hx hb dX5_bookedAhead_68 hl (k := 3) rfl (by decide) (fun ls hl => ?_)
                replace hl : lv_has ls 6 [(0, _), (1, _), (2, _), (3, _), (4, _), (5, _)] := lv_sub hl [1, 2, 3, 0, 4, 5] rfl
                rw [← hWg]
                exact join71 _ _ _ _ hP hS (lv_sub hl [0, 1, 2, 3, 4] rfl) (by rw [sumI_s (by omega), bI_t ⟨c29, by omega⟩, hv5.2])
        · refine lv_goto (tgt := 71) hx hb dX5_bookedAhead_32 (by decide) ?_
          rw [← hWg]
          exact join71 _ _ _ _ hP hS (lv_sub hl [0, 1, 2, 3, 4] rfl) (by rw [sumI_s (by omega), bI_f (fun q => c29 q.1), hv5.2]; omega)
  rw [← hWg]
  exact loop5 _ 0 0 _ _ _ hP hS hl ⟨by omega, sumI_0.symm⟩ (Nat.lt_succ_self _)

