/-! ===== the reference: its own words ===== -/
def RD (σ τ : Tb) : Prop := τ 0 2 = σ 0 2 ∧ τ 0 3 = σ 0 2 ∧ τ 0 4 = σ 0 2
def FrR (τ τ' : Tb) : Prop := (∀ i, 2 ≤ i → τ' 0 i = τ 0 i) ∧ ∀ i, τ' 1 i = τ 1 i
theorem FrR_rf {τ : Tb} : FrR τ τ := ⟨fun _ _ => rfl, fun _ => rfl⟩
theorem FrR_tr {a b c : Tb} (h : FrR a b) (h2 : FrR b c) : FrR a c := ⟨fun i q => (h2.1 i q).trans (h.1 i q), fun i => (h2.2 i).trans (h.2 i)⟩
theorem FrR_D {σ τ τ' : Tb} (h : FrR τ τ') (hR : RD σ τ) : RD σ τ' := ⟨(h.1 2 (by decide)).trans hR.1, (h.1 3 (by decide)).trans hR.2.1, (h.1 4 (by decide)).trans hR.2.2⟩
theorem tkn_r {σ : Tb} (h : Inv σ) {p w d : Int} {les : Prop} {day : Int} : 0 ≤ tkn σ p w d les day ∧ tkn σ p w d les day ≤ 240 := by
  have h0 := Inv_0 h
  have := sumI_b (f := tkF σ p w d les day) (n := σ 0 2) (M := 4) (by omega) (fun o o1 o2 => by
    obtain ⟨hN, _, _⟩ := Inv_w h (w := o) ⟨o1, o2⟩
    unfold IN at hN
    unfold tkF
    by_cases q : isOn σ o p ∧ lsts σ w d les day o
    · rw [cif_t q]
      by_cases q2 : lss σ p w d les day o
      · rw [cif_t q2]; omega
      · rw [cif_f q2]; omega
    · rw [cif_f q]; omega)
  unfold tkn
  omega
abbrev rmX9_within : Room := { frames := 0, cells := 0, slots := 0, locals := 0 }
set_option maxRecDepth 100000 in
set_option maxHeartbeats 4000000 in
theorem c_X9_within {l : Launch} {D : va_G} {G : Nat → ClassId} {ad : Nat → Nat} {σ τ : Tb} (hi : kInj 27 ad) {z a b : Int} (hz : (-2147483648 ≤ z ∧ z < 2147483648)) (ha : (-2147483648 ≤ a ∧ a < 2147483648)) (hb1 : (-2147483648 ≤ b ∧ b < 2147483648)) : Met l yX9_within wsX9_within rmX9_within (kPc D (tysG G) 27 ad (RE G ad σ τ) [.int (iI z), .int (iI a), .int (iI b)]) (kQi D 27 ad (fun r E' => r = bI (a ≤ z ∧ z ≤ b) ∧ E' = RE G ad σ τ)) 0 0 (kA 27 ad) := by
  refine k_met (cc := cX9_within) (maxL := 3) (ret := (some .boolean)) (by decide) (Nat.le_of_ble_eq_true rfl) ?_
  intro P0 e0 s m0 below meth c0 ls hx hb hr hlocks hml hown hts hK hP hS hl
  replace hl : lv_has ls 3 [(0, _), (1, _), (2, _)] := hl
  replace hown : s.vm.findClass RX9 = some m0.cls := hown
  refine k_abs (fun Wg hWg => ?_)
  refine lv_iload_n hx hb dX9_within_0 rfl (lv_at hl 0 rfl) ?_
  refine lv_iload_n hx hb dX9_within_1 rfl (lv_at hl 1 rfl) ?_
  refine r_icmp_lt (tgt := 14) hx hb (by omega) (by omega) dX9_within_2 (by decide) (fun c2 => ?_) (fun c2 => ?_)
  · refine r_const hx hb dX9_within_14 ?_
    exact k_zret hx hb hr hlocks hP hS dX9_within_15 (by omega) ⟨(bI_f (by omega)).symm, rfl⟩
  · refine lv_iload_n hx hb dX9_within_5 rfl (lv_at hl 0 rfl) ?_
    refine lv_iload_n hx hb dX9_within_6 rfl (lv_at hl 2 rfl) ?_
    refine r_icmp_gt (tgt := 14) hx hb (by omega) (by omega) dX9_within_7 (by decide) (fun c7 => ?_) (fun c7 => ?_)
    · refine r_const hx hb dX9_within_14 ?_
      exact k_zret hx hb hr hlocks hP hS dX9_within_15 (by omega) ⟨(bI_f (by omega)).symm, rfl⟩
    · refine r_const hx hb dX9_within_10 ?_
      refine lv_goto (tgt := 15) hx hb dX9_within_11 (by decide) ?_
      exact k_zret hx hb hr hlocks hP hS dX9_within_15 (by omega) ⟨(bI_t (by omega)).symm, rfl⟩
abbrev rmX9_isPiece : Room := { frames := 0, cells := 0, slots := 0, locals := 0 }
set_option maxRecDepth 100000 in
set_option maxHeartbeats 4000000 in
theorem c_X9_isPiece {l : Launch} {D : va_G} {G : Nat → ClassId} {ad : Nat → Nat} {σ τ : Tb} (hi : kInj 27 ad) {z : Int} (hI : Inv σ) (hz : (-2147483648 ≤ z ∧ z < 2147483648)) : Met l yX9_isPiece wsX9_isPiece rmX9_isPiece (kPc D (tysG G) 27 ad (RE G ad σ τ) [.ref (ad 0), .int (iI z)]) (kQi D 27 ad (fun r E' => r = bI (0 ≤ z ∧ z < σ 0 0) ∧ E' = RE G ad σ τ)) 0 0 (kA 27 ad) := by
  refine k_met (cc := cX9_isPiece) (maxL := 2) (ret := (some .boolean)) (by decide) (Nat.le_of_ble_eq_true rfl) ?_
  intro P0 e0 s m0 below meth c0 ls hx hb hr hlocks hml hown hts hK hP hS hl
  replace hl : lv_has ls 2 [(0, _), (1, _)] := hl
  replace hown : s.vm.findClass RX9 = some m0.cls := hown
  refine k_abs (fun Wg hWg => ?_)
  have h0 := Inv_0 hI
  refine lv_iload_n hx hb dX9_isPiece_0 rfl (lv_at hl 1 rfl) ?_
  refine r_if_lt (tgt := 16) hx hb (by omega) dX9_isPiece_1 (by decide) (fun c1 => ?_) (fun c1 => ?_)
  · refine r_const hx hb dX9_isPiece_16 ?_
    exact k_zret hx hb hr hlocks hP hS dX9_isPiece_17 (by omega) ⟨(bI_f (by omega)).symm, rfl⟩
  · refine lv_iload_n hx hb dX9_isPiece_4 rfl (lv_at hl 1 rfl) ?_
    refine lv_aload_n hx hb dX9_isPiece_5 rfl (lv_at hl 0 rfl) ?_
    refine r_get (C := RX9) (T := TX9) (N := 34) (ci := 9) hx hb hts hi_X9 hown hK hP 6 rfl (by decide) lk_X9_101 (fun _ h9 => h9) dX9_isPiece_6 (by omega) RE_0 rfl ?_
    refine r_icmp_ge (tgt := 16) hx hb (by omega) (by omega) dX9_isPiece_9 (by decide) (fun c9 => ?_) (fun c9 => ?_)
    · refine r_const hx hb dX9_isPiece_16 ?_
      exact k_zret hx hb hr hlocks hP hS dX9_isPiece_17 (by omega) ⟨(bI_f (by omega)).symm, rfl⟩
    · refine r_const hx hb dX9_isPiece_12 ?_
      refine lv_goto (tgt := 17) hx hb dX9_isPiece_13 (by decide) ?_
      exact k_zret hx hb hr hlocks hP hS dX9_isPiece_17 (by omega) ⟨(bI_t (by omega)).symm, rfl⟩
abbrev rmX9_isWork : Room := { frames := 0, cells := 0, slots := 0, locals := 0 }
set_option maxRecDepth 100000 in
set_option maxHeartbeats 4000000 in
theorem c_X9_isWork {l : Launch} {D : va_G} {G : Nat → ClassId} {ad : Nat → Nat} {σ τ : Tb} (hi : kInj 27 ad) {z : Int} (hI : Inv σ) (hz : (-2147483648 ≤ z ∧ z < 2147483648)) : Met l yX9_isWork wsX9_isWork rmX9_isWork (kPc D (tysG G) 27 ad (RE G ad σ τ) [.ref (ad 0), .int (iI z)]) (kQi D 27 ad (fun r E' => r = bI (lvW σ z) ∧ E' = RE G ad σ τ)) 0 0 (kA 27 ad) := by
  refine k_met (cc := cX9_isWork) (maxL := 2) (ret := (some .boolean)) (by decide) (Nat.le_of_ble_eq_true rfl) ?_
  intro P0 e0 s m0 below meth c0 ls hx hb hr hlocks hml hown hts hK hP hS hl
  replace hl : lv_has ls 2 [(0, _), (1, _)] := hl
  replace hown : s.vm.findClass RX9 = some m0.cls := hown
  refine k_abs (fun Wg hWg => ?_)
  have h0 := Inv_0 hI
  refine lv_iload_n hx hb dX9_isWork_0 rfl (lv_at hl 1 rfl) ?_
  refine r_if_lt (tgt := 16) hx hb (by omega) dX9_isWork_1 (by decide) (fun c1 => ?_) (fun c1 => ?_)
  · refine r_const hx hb dX9_isWork_16 ?_
    exact k_zret hx hb hr hlocks hP hS dX9_isWork_17 (by omega) ⟨(bI_f (by unfold lvW; omega)).symm, rfl⟩
  · refine lv_iload_n hx hb dX9_isWork_4 rfl (lv_at hl 1 rfl) ?_
    refine lv_aload_n hx hb dX9_isWork_5 rfl (lv_at hl 0 rfl) ?_
    refine r_get (C := RX9) (T := TX9) (N := 34) (ci := 9) hx hb hts hi_X9 hown hK hP 28 rfl (by decide) lk_X9_107 (fun _ h9 => h9) dX9_isWork_6 (by omega) RE_0 rfl ?_
    refine r_icmp_ge (tgt := 16) hx hb (by omega) (by omega) dX9_isWork_9 (by decide) (fun c9 => ?_) (fun c9 => ?_)
    · refine r_const hx hb dX9_isWork_16 ?_
      exact k_zret hx hb hr hlocks hP hS dX9_isWork_17 (by omega) ⟨(bI_f (by unfold lvW; omega)).symm, rfl⟩
    · refine r_const hx hb dX9_isWork_12 ?_
      refine lv_goto (tgt := 17) hx hb dX9_isWork_13 (by decide) ?_
      exact k_zret hx hb hr hlocks hP hS dX9_isWork_17 (by omega) ⟨(bI_t (by unfold lvW; omega)).symm, rfl⟩
abbrev rmX9_isOn : Room := { frames := 0, cells := 0, slots := 0, locals := 0 }
set_option maxRecDepth 100000 in
set_option maxHeartbeats 4000000 in
theorem c_X9_isOn {l : Launch} {D : va_G} {G : Nat → ClassId} {ad : Nat → Nat} {σ τ : Tb} (hi : kInj 27 ad) {w p : Int} (hI : Inv σ) (hw : 0 ≤ w ∧ w < σ 0 2) (hp : 0 ≤ p ∧ p < 40) : Met l yX9_isOn wsX9_isOn rmX9_isOn (kPc D (tysG G) 27 ad (RE G ad σ τ) [.ref (ad 0), .int (iI w), .int (iI p)]) (kQi D 27 ad (fun z E' => z = bI (isOn σ w p) ∧ E' = RE G ad σ τ)) 0 0 (kA 27 ad) := by
  refine k_met (cc := cX9_isOn) (maxL := 3) (ret := (some .boolean)) (by decide) (Nat.le_of_ble_eq_true rfl) ?_
  intro P0 e0 s m0 below meth c0 ls hx hb hr hlocks hml hown hts hK hP hS hl
  replace hl : lv_has ls 3 [(0, _), (1, _), (2, _)] := hl
  replace hown : s.vm.findClass RX9 = some m0.cls := hown
  refine k_abs (fun Wg hWg => ?_)
  have h0 := Inv_0 hI
  obtain ⟨_, hm, _⟩ := IQ_0 hI hw
  have h1 : (σ 17 w).toNat < 2 ^ 63 := by omega
  have h2 : (σ 17 w).toNat / 2 ^ p.toNat < 2 ^ 63 := Nat.lt_of_le_of_lt (Nat.div_le_self _ _) h1
  have h3 : (σ 17 w).toNat / 2 ^ p.toNat &&& 1 < 2 ^ 63 := Nat.lt_of_le_of_lt Nat.and_le_left h2
  refine lv_aload_n hx hb dX9_isOn_0 rfl (lv_at hl 0 rfl) ?_
  refine r_get (C := RX9) (T := TX9) (N := 34) (ci := 9) hx hb hts hi_X9 hown hK hP 19 rfl (by decide) lk_X9_59 (fun _ h9 => h9) dX9_isOn_1 (by omega) RE_0 rfl ?_
  refine lv_iload_n hx hb dX9_isOn_4 rfl (lv_at hl 1 rfl) ?_
  refine r_lald hx hb hK hP 1 rfl dX9_isOn_5 (by omega) rfl (by omega) (by omega) (tL_at (by omega)) ?_
  refine lv_iload_n hx hb dX9_isOn_6 rfl (lv_at hl 2 rfl) ?_
  refine r_lshr hx hb dX9_isOn_7 (by omega) h1 ?_
  refine r_lconst1 hx hb dX9_isOn_8 ?_
  refine r_land hx hb dX9_isOn_9 (Nat.lt_trans h2 (by decide)) (by decide) ?_
  refine r_lconst1 hx hb dX9_isOn_10 ?_
  refine r_lcmp hx hb dX9_isOn_11 h3 (by decide) ?_
  refine r_if_ne (tgt := 19) hx hb (cmpN_r _ _) dX9_isOn_12 (by decide) (fun c12 => ?_) (fun c12 => ?_)
  · refine r_const hx hb dX9_isOn_19 ?_
    exact k_zret hx hb hr hlocks hP hS dX9_isOn_20 (by omega) ⟨(bI_f (fun q => c12 (cmpN_0.mpr (tb_div.mpr q)))).symm, rfl⟩
  · refine r_const hx hb dX9_isOn_15 ?_
    refine lv_goto (tgt := 20) hx hb dX9_isOn_16 (by decide) ?_
    exact k_zret hx hb hr hlocks hP hS dX9_isOn_20 (by omega) ⟨(bI_t (tb_div.mp (cmpN_0.mp c12))).symm, rfl⟩
abbrev rmX9_hasDays : Room := { frames := 0, cells := 0, slots := 0, locals := 0 }
set_option maxRecDepth 100000 in
set_option maxHeartbeats 4000000 in
theorem c_X9_hasDays {l : Launch} {D : va_G} {G : Nat → ClassId} {ad : Nat → Nat} {σ τ : Tb} (hi : kInj 27 ad) {o : Int} (hI : Inv σ) (ho : 0 ≤ o ∧ o < σ 0 2) : Met l yX9_hasDays wsX9_hasDays rmX9_hasDays (kPc D (tysG G) 27 ad (RE G ad σ τ) [.ref (ad 0), .int (iI o)]) (kQi D 27 ad (fun z E' => z = bI (hasD σ o) ∧ E' = RE G ad σ τ)) 0 0 (kA 27 ad) := by
  refine k_met (cc := cX9_hasDays) (maxL := 2) (ret := (some .boolean)) (by decide) (Nat.le_of_ble_eq_true rfl) ?_
  intro P0 e0 s m0 below meth c0 ls hx hb hr hlocks hml hown hts hK hP hS hl
  replace hl : lv_has ls 2 [(0, _), (1, _)] := hl
  replace hown : s.vm.findClass RX9 = some m0.cls := hown
  refine k_abs (fun Wg hWg => ?_)
  have h0 := Inv_0 hI
  obtain ⟨hN, _, _⟩ := Inv_w hI ho
  unfold IN at hN
  refine lv_aload_n hx hb dX9_hasDays_0 rfl (lv_at hl 0 rfl) ?_
  refine r_get (C := RX9) (T := TX9) (N := 34) (ci := 9) hx hb hts hi_X9 hown hK hP 22 rfl (by decide) lk_X9_69 (fun _ h9 => h9) dX9_hasDays_1 (by omega) RE_0 rfl ?_
  refine lv_iload_n hx hb dX9_hasDays_4 rfl (lv_at hl 1 rfl) ?_
  refine r_iald hx hb hK hP 0 rfl dX9_hasDays_5 (by omega) rfl (by omega) (by omega) (tI_at (by omega)) ?_
  refine r_const hx hb dX9_hasDays_6 ?_
  refine r_icmp_lt (tgt := 24) hx hb (by omega) (by omega) dX9_hasDays_7 (by decide) (fun c7 => ?_) (fun c7 => ?_)
  · refine r_const hx hb dX9_hasDays_24 ?_
    exact k_zret hx hb hr hlocks hP hS dX9_hasDays_25 (by omega) ⟨(bI_f (by unfold hasD; omega)).symm, rfl⟩
  · refine lv_aload_n hx hb dX9_hasDays_10 rfl (lv_at hl 0 rfl) ?_
    refine r_get (C := RX9) (T := TX9) (N := 34) (ci := 9) hx hb hts hi_X9 hown hK hP 22 rfl (by decide) lk_X9_69 (fun _ h9 => h9) dX9_hasDays_11 (by omega) RE_0 rfl ?_
    refine lv_iload_n hx hb dX9_hasDays_14 rfl (lv_at hl 1 rfl) ?_
    refine r_iald hx hb hK hP 0 rfl dX9_hasDays_15 (by omega) rfl (by omega) (by omega) (tI_at (by omega)) ?_
    refine r_const hx hb dX9_hasDays_16 ?_
    refine r_icmp_gt (tgt := 24) hx hb (by omega) (by omega) dX9_hasDays_17 (by decide) (fun c17 => ?_) (fun c17 => ?_)
    · refine r_const hx hb dX9_hasDays_24 ?_
      exact k_zret hx hb hr hlocks hP hS dX9_hasDays_25 (by omega) ⟨(bI_f (by unfold hasD; omega)).symm, rfl⟩
    · refine r_const hx hb dX9_hasDays_20 ?_
      refine lv_goto (tgt := 25) hx hb dX9_hasDays_21 (by decide) ?_
      exact k_zret hx hb hr hlocks hP hS dX9_hasDays_25 (by omega) ⟨(bI_t (by unfold hasD; omega)).symm, rfl⟩
abbrev rmX9_counts : Room := { frames := 1, cells := 0, slots := 0, locals := 21 }
set_option maxRecDepth 100000 in
set_option maxHeartbeats 4000000 in
theorem c_X9_counts {l : Launch} {D : va_G} {G : Nat → ClassId} {ad : Nat → Nat} {σ τ : Tb} (hi : kInj 27 ad) {o w : Int} {les : Prop} (hI : Inv σ) (ho : 0 ≤ o ∧ o < σ 0 2) (hw0 : (-2147483648 ≤ w ∧ w < 2147483648)) : Met l yX9_counts wsX9_counts rmX9_counts (kPc D (tysG G) 27 ad (RE G ad σ τ) [.ref (ad 0), .int (iI o), .int (iI w), .int (iI (bI les))]) (kQi D 27 ad (fun z E' => z = bI (cnts σ w les o) ∧ E' = RE G ad σ τ)) 0 0 (kA 27 ad) := by
  refine k_met (cc := cX9_counts) (maxL := 4) (ret := (some .boolean)) (by decide) (Nat.le_of_ble_eq_true rfl) ?_
  intro P0 e0 s m0 below meth c0 ls hx hb hr hlocks hml hown hts hK hP hS hl
  replace hl : lv_has ls 4 [(0, _), (1, _), (2, _), (3, _)] := hl
  replace hown : s.vm.findClass RX9 = some m0.cls := hown
  refine k_abs (fun Wg hWg => ?_)
  have h0 := Inv_0 hI
  obtain ⟨hN, _, _⟩ := Inv_w hI ho
  unfold IN at hN
  refine lv_iload_n hx hb dX9_counts_0 rfl (lv_at hl 1 rfl) ?_
  refine lv_iload_n hx hb dX9_counts_1 rfl (lv_at hl 2 rfl) ?_
  refine r_icmp_eq (tgt := 36) hx hb (by omega) (by omega) dX9_counts_2 (by decide) (fun c2 => ?_) (fun c2 => ?_)
  · refine r_const hx hb dX9_counts_36 ?_
    exact k_zret hx hb hr hlocks hP hS dX9_counts_37 (by omega) ⟨(bI_f (fun q => q.1 c2)).symm, rfl⟩
  · refine lv_aload_n hx hb dX9_counts_5 rfl (lv_at hl 0 rfl) ?_
    refine lv_iload_n hx hb dX9_counts_6 rfl (lv_at hl 1 rfl) ?_
    refine k_calliV (nL := 4) (C := RX9) (T := TX9) (N := 34) (ci := 9) hx hb hml hown hts hK hP hS hl.1 (c_X9_hasDays hi hI ho) rfl (Nat.le_of_ble_eq_true rfl) rfl (cwV 1 hts (gV lm_X9_121 ti_X9_hasDays tl_X9_hasDays tn_X9 tc_X9_hasDays) rfl rfl rfl (by decide +kernel) ⟨Nat.le_of_ble_eq_true rfl, Nat.le_of_ble_eq_true rfl⟩) rfl dX9_counts_7 ⟨Nat.zero_le _, Nat.zero_le _⟩ (by omega) RE_0 (fun r7 E1 H locs hq hP hS => ?_)
    obtain ⟨rfl, rfl⟩ := hq
    refine r_ifB_eq (tgt := 36) hx hb dX9_counts_10 (by decide) (fun c10 => ?_) (fun c10 => ?_)
    · refine r_const hx hb dX9_counts_36 ?_
      exact k_zret hx hb hr hlocks hP hS dX9_counts_37 (by omega) ⟨(bI_f (fun q => c10 q.2.1)).symm, rfl⟩
    · refine lv_iload_n hx hb dX9_counts_13 rfl (lv_at hl 3 rfl) ?_
      refine r_ifB_eq (tgt := 32) hx hb dX9_counts_14 (by decide) (fun c14 => ?_) (fun c14 => ?_)
      · refine r_const hx hb dX9_counts_32 ?_
        refine lv_goto (tgt := 37) hx hb dX9_counts_33 (by decide) ?_
        exact k_zret hx hb hr hlocks hP hS dX9_counts_37 (by omega) ⟨(bI_t ⟨c2, c10, fun q => absurd q c14⟩).symm, rfl⟩
      · refine lv_aload_n hx hb dX9_counts_17 rfl (lv_at hl 0 rfl) ?_
        refine r_get (C := RX9) (T := TX9) (N := 34) (ci := 9) hx hb hts hi_X9 hown hK hP 22 rfl (by decide) lk_X9_69 (fun _ h9 => h9) dX9_counts_18 (by omega) RE_0 rfl ?_
        refine lv_iload_n hx hb dX9_counts_21 rfl (lv_at hl 1 rfl) ?_
        refine r_iald hx hb hK hP 0 rfl dX9_counts_22 (by omega) rfl (by omega) (by omega) (tI_at (by omega)) ?_
        refine r_const hx hb dX9_counts_23 ?_
        refine r_icmp_ne (tgt := 32) hx hb (by omega) (by omega) dX9_counts_24 (by decide) (fun c24 => ?_) (fun c24 => ?_)
        · refine r_const hx hb dX9_counts_32 ?_
          refine lv_goto (tgt := 37) hx hb dX9_counts_33 (by decide) ?_
          exact k_zret hx hb hr hlocks hP hS dX9_counts_37 (by omega) ⟨(bI_t ⟨c2, c10, fun _ => Or.inl (by omega)⟩).symm, rfl⟩
        · refine lv_iload_n hx hb dX9_counts_27 rfl (lv_at hl 1 rfl) ?_
          refine lv_iload_n hx hb dX9_counts_28 rfl (lv_at hl 2 rfl) ?_
          refine r_icmp_ge (tgt := 36) hx hb (by omega) (by omega) dX9_counts_29 (by decide) (fun c29 => ?_) (fun c29 => ?_)
          · refine r_const hx hb dX9_counts_36 ?_
            exact k_zret hx hb hr hlocks hP hS dX9_counts_37 (by omega) ⟨(bI_f (fun q => by have := q.2.2 c14; omega)).symm, rfl⟩
          · refine r_const hx hb dX9_counts_32 ?_
            refine lv_goto (tgt := 37) hx hb dX9_counts_33 (by decide) ?_
            exact k_zret hx hb hr hlocks hP hS dX9_counts_37 (by omega) ⟨(bI_t ⟨c2, c10, fun _ => Or.inr (by omega)⟩).symm, rfl⟩
abbrev rmX9_lasts : Room := { frames := 2, cells := 0, slots := 0, locals := 44 }
set_option maxRecDepth 100000 in
set_option maxHeartbeats 4000000 in
theorem c_X9_lasts {l : Launch} {D : va_G} {G : Nat → ClassId} {ad : Nat → Nat} {σ τ : Tb} (hi : kInj 27 ad) {o w d day : Int} {les : Prop} (hI : Inv σ) (hR : RD σ τ) (ho : 0 ≤ o ∧ o < σ 0 2) (hw0 : -1 ≤ w ∧ w < σ 0 2) (hd : -1 ≤ d ∧ d ≤ 1000) (hy : -1000 ≤ day ∧ day ≤ 1000) : Met l yX9_lasts wsX9_lasts rmX9_lasts (kPc D (tysG G) 27 ad (RE G ad σ τ) [.ref (ad 0), .int (iI o), .int (iI w), .int (iI d), .int (iI (bI les)), .int (iI day)]) (kQi D 27 ad (fun z E' => z = bI (lsts σ w d les day o) ∧ E' = RE G ad σ τ)) 0 0 (kA 27 ad) := by
  refine k_met (cc := cX9_lasts) (maxL := 6) (ret := (some .boolean)) (by decide) (Nat.le_of_ble_eq_true rfl) ?_
  intro P0 e0 s m0 below meth c0 ls hx hb hr hlocks hml hown hts hK hP hS hl
  replace hl : lv_has ls 6 [(0, _), (1, _), (2, _), (3, _), (4, _), (5, _)] := hl
  replace hown : s.vm.findClass RX9 = some m0.cls := hown
  refine k_abs (fun Wg hWg => ?_)
  have h0 := Inv_0 hI
  obtain ⟨hR2, hR3, hR4⟩ := hR
  obtain ⟨hN, _, _⟩ := Inv_w hI ho
  have hB := IN_b hI ho
  unfold IN at hN
  refine lv_iload_n hx hb dX9_lasts_0 rfl (lv_at hl 1 rfl) ?_
  refine lv_iload_n hx hb dX9_lasts_1 rfl (lv_at hl 2 rfl) ?_
  refine r_icmp_ne (tgt := 34) hx hb (by omega) (by omega) dX9_lasts_2 (by decide) (fun c2 => ?_) (fun c2 => ?_)
  · refine lv_aload_n hx hb dX9_lasts_34 rfl (lv_at hl 0 rfl) ?_
    refine lv_iload_n hx hb dX9_lasts_35 rfl (lv_at hl 1 rfl) ?_
    refine lv_iload_n hx hb dX9_lasts_36 rfl (lv_at hl 2 rfl) ?_
    refine lv_iload hx hb dX9_lasts_37 (lv_at hl 4 rfl) ?_
    refine k_calliV (nL := 6) (C := RX9) (T := TX9) (N := 34) (ci := 9) hx hb hml hown hts hK hP hS hl.1 (c_X9_counts hi hI ho (by omega)) rfl (Nat.le_of_ble_eq_true rfl) rfl (cwV 3 hts (gV lm_X9_124 ti_X9_counts tl_X9_counts tn_X9 tc_X9_counts) rfl rfl rfl (by decide +kernel) ⟨Nat.le_of_ble_eq_true rfl, Nat.le_of_ble_eq_true rfl⟩) rfl dX9_lasts_39 ⟨Nat.zero_le _, Nat.zero_le _⟩ (by omega) RE_0 (fun r39 E1 H locs hq hP hS => ?_)
    obtain ⟨rfl, rfl⟩ := hq
    refine r_ifB_eq (tgt := 71) hx hb dX9_lasts_42 (by decide) (fun c42 => ?_) (fun c42 => ?_)
    · refine r_const hx hb dX9_lasts_71 ?_
      exact k_zret hx hb hr hlocks hP hS dX9_lasts_72 (by omega) ⟨(bI_f (fun q => c42 ((lsts_o c2).mp q).1)).symm, rfl⟩
    · refine lv_iload hx hb dX9_lasts_45 (lv_at hl 5 rfl) ?_
      refine lv_aload_n hx hb dX9_lasts_47 rfl (lv_at hl 0 rfl) ?_
      refine r_get (C := RX9) (T := TX9) (N := 34) (ci := 9) hx hb hts hi_X9 hown hK hP 23 rfl (by decide) lk_X9_72 (fun _ h9 => h9) dX9_lasts_48 (by omega) RE_0 rfl ?_
      refine lv_iload_n hx hb dX9_lasts_51 rfl (lv_at hl 1 rfl) ?_
      refine r_iald hx hb hK hP 0 rfl dX9_lasts_52 (by omega) rfl (by omega) (by omega) (tD_at (by omega) (by omega)) ?_
      refine r_icmp_lt (tgt := 71) hx hb (by omega) (by omega) dX9_lasts_53 (by decide) (fun c53 => ?_) (fun c53 => ?_)
      · refine r_const hx hb dX9_lasts_71 ?_
        exact k_zret hx hb hr hlocks hP hS dX9_lasts_72 (by omega) ⟨(bI_f (fun q => by have := ((lsts_o c2).mp q).2; omega)).symm, rfl⟩
      · refine lv_iload hx hb dX9_lasts_56 (lv_at hl 5 rfl) ?_
        refine lv_aload_n hx hb dX9_lasts_58 rfl (lv_at hl 0 rfl) ?_
        refine r_get (C := RX9) (T := TX9) (N := 34) (ci := 9) hx hb hts hi_X9 hown hK hP 24 rfl (by decide) lk_X9_75 (fun _ h9 => h9) dX9_lasts_59 (by omega) RE_0 rfl ?_
        refine lv_iload_n hx hb dX9_lasts_62 rfl (lv_at hl 1 rfl) ?_
        refine r_iald hx hb hK hP 0 rfl dX9_lasts_63 (by omega) rfl (by omega) (by omega) (tD_at (by omega) (by omega)) ?_
        refine r_icmp_gt (tgt := 71) hx hb (by omega) (by omega) dX9_lasts_64 (by decide) (fun c64 => ?_) (fun c64 => ?_)
        · refine r_const hx hb dX9_lasts_71 ?_
          exact k_zret hx hb hr hlocks hP hS dX9_lasts_72 (by omega) ⟨(bI_f (fun q => by have := ((lsts_o c2).mp q).2; omega)).symm, rfl⟩
        · refine r_const hx hb dX9_lasts_67 ?_
          refine lv_goto (tgt := 72) hx hb dX9_lasts_68 (by decide) ?_
          exact k_zret hx hb hr hlocks hP hS dX9_lasts_72 (by omega) ⟨(bI_t ((lsts_o c2).mpr ⟨c42, by omega⟩)).symm, rfl⟩
  · obtain rfl : o = w := by omega
    refine lv_iload_n hx hb dX9_lasts_5 rfl (lv_at hl 3 rfl) ?_
    refine r_if_lt (tgt := 32) hx hb (by omega) dX9_lasts_6 (by decide) (fun c6 => ?_) (fun c6 => ?_)
    · refine r_const hx hb dX9_lasts_32 ?_
      exact k_zret hx hb hr hlocks hP hS dX9_lasts_33 (by omega) ⟨(bI_f (by rintro (q | q) <;> omega)).symm, rfl⟩
    · refine lv_iload hx hb dX9_lasts_9 (lv_at hl 5 rfl) ?_
      refine lv_iload_n hx hb dX9_lasts_11 rfl (lv_at hl 3 rfl) ?_
      refine r_icmp_lt (tgt := 32) hx hb (by omega) (by omega) dX9_lasts_12 (by decide) (fun c12 => ?_) (fun c12 => ?_)
      · refine r_const hx hb dX9_lasts_32 ?_
        exact k_zret hx hb hr hlocks hP hS dX9_lasts_33 (by omega) ⟨(bI_f (by rintro (q | q) <;> omega)).symm, rfl⟩
      · refine lv_iload hx hb dX9_lasts_15 (lv_at hl 5 rfl) ?_
        refine lv_iload_n hx hb dX9_lasts_17 rfl (lv_at hl 3 rfl) ?_
        refine lv_aload_n hx hb dX9_lasts_18 rfl (lv_at hl 0 rfl) ?_
        refine r_get (C := RX9) (T := TX9) (N := 34) (ci := 9) hx hb hts hi_X9 hown hK hP 16 rfl (by decide) lk_X9_50 (fun _ h9 => h9) dX9_lasts_19 (by omega) RE_0 rfl ?_
        refine lv_iload_n hx hb dX9_lasts_22 rfl (lv_at hl 2 rfl) ?_
        refine r_iald hx hb hK hP 0 rfl dX9_lasts_23 (by omega) rfl (by omega) (by omega) (tI_at (by omega)) ?_
        refine r_add hx hb dX9_lasts_24 ?_
        refine r_icmp_ge (tgt := 32) hx hb (by omega) (by omega) dX9_lasts_25 (by decide) (fun c25 => ?_) (fun c25 => ?_)
        · refine r_const hx hb dX9_lasts_32 ?_
          exact k_zret hx hb hr hlocks hP hS dX9_lasts_33 (by omega) ⟨(bI_f (by rintro (q | q) <;> omega)).symm, rfl⟩
        · refine r_const hx hb dX9_lasts_28 ?_
          refine lv_goto (tgt := 33) hx hb dX9_lasts_29 (by decide) ?_
          exact k_zret hx hb hr hlocks hP hS dX9_lasts_33 (by omega) ⟨(bI_t (Or.inl (by omega))).symm, rfl⟩
abbrev rmX9_taken : Room := { frames := 3, cells := 0, slots := 0, locals := 69 }
set_option maxRecDepth 100000 in
set_option maxHeartbeats 4000000 in
theorem c_X9_taken {l : Launch} {D : va_G} {G : Nat → ClassId} {ad : Nat → Nat} {σ τ : Tb} (hi : kInj 27 ad) {p w d day : Int} {les : Prop} (hI : Inv σ) (hR : RD σ τ) (hp : 0 ≤ p ∧ p < 40) (hw0 : -1 ≤ w ∧ w < σ 0 2) (hd : -1 ≤ d ∧ d ≤ 1000) (hy : -1000 ≤ day ∧ day ≤ 1000) : Met l yX9_taken wsX9_taken rmX9_taken (kPc D (tysG G) 27 ad (RE G ad σ τ) [.ref (ad 0), .int (iI p), .int (iI w), .int (iI d), .int (iI (bI les)), .int (iI day)]) (kQi D 27 ad (fun z E' => z = tkn σ p w d les day ∧ E' = RE G ad σ τ)) 0 0 (kA 27 ad) := by
  refine k_met (cc := cX9_taken) (maxL := 11) (ret := (some .int)) (by decide) (Nat.le_of_ble_eq_true rfl) ?_
  intro P0 e0 s m0 below meth c0 ls hx hb hr hlocks hml hown hts hK hP hS hl
  replace hl : lv_has ls 11 [(0, _), (1, _), (2, _), (3, _), (4, _), (5, _)] := hl
  replace hown : s.vm.findClass RX9 = some m0.cls := hown
  refine k_abs (fun Wg hWg => ?_)
  have h0 := Inv_0 hI
  have hR0 := hR
  obtain ⟨hR2, hR3, hR4⟩ := hR
  refine r_const hx hb dX9_taken_0 ?_
  refine lv_istore hx hb dX9_taken_1 hl (by decide) rfl (fun ls hl => ?_)
  replace hl : lv_has ls 11 [(0, _), (1, _), (2, _), (3, _), (4, _), (5, _), (6, _)] := lv_sub hl [1, 2, 3, 4, 5, 6, 0] rfl
  refine r_const hx hb dX9_taken_3 ?_
  refine lv_istore hx hb dX9_taken_4 hl (by decide) rfl (fun ls hl => ?_)
  replace hl : lv_has ls 11 [(0, _), (1, _), (2, _), (3, _), (4, _), (5, _), (6, _), (7, _)] := lv_sub hl [1, 2, 3, 4, 5, 6, 7, 0] rfl
  have loop6 : ∀ (nn : Nat) (o n : Int) (H : Heap) (locs : List Loc) (ls : Array Slot), va_P D vwCl (kw 27 ad (RE G ad σ τ)) H → va_S (kA 27 ad) s.heap H locs → lv_has ls 11 [(0, .ref (ad 0)), (1, .int (iI p)), (2, .int (iI w)), (3, .int (iI d)), (4, .int (iI (bI les))), (5, .int (iI day)), (6, .int (iI n)), (7, .int (iI o))] → ((0 ≤ o ∧ o ≤ σ 0 2) ∧ n = sumI (tkF σ p w d les day) o) → (σ 0 2 - o).toNat < nn → Wg H locs (F0 m0 6 ls []) := by
    intro nn
    induction nn with
    | zero => intro o n H locs ls _ _ _ _ hn; omega
    | succ nn ih6 =>
      intro o n H locs ls hP hS hl hv6 hn6
      rw [hWg]
      obtain ⟨hv, hn⟩ := hv6
      refine lv_iload hx hb dX9_taken_6 (lv_at hl 7 rfl) ?_
      refine lv_aload_n hx hb dX9_taken_8 rfl (lv_at hl 0 rfl) ?_
      refine r_get (C := RX9) (T := TX9) (N := 34) (ci := 9) hx hb hts hi_X9 hown hK hP 28 rfl (by decide) lk_X9_107 (fun _ h9 => h9) dX9_taken_9 (by omega) RE_0 rfl ?_
      refine r_icmp_ge (tgt := 166) hx hb (by omega) (by omega) dX9_taken_12 (by decide) (fun c12 => ?_) (fun c12 => ?_)
      · obtain rfl : o = σ 0 2 := by omega
        refine lv_iload hx hb dX9_taken_166 (lv_at hl 6 rfl) ?_
        exact k_iret hx hb hr hlocks hP hS dX9_taken_168 ⟨hn, rfl⟩
      · have ho : 0 ≤ o ∧ o < σ 0 2 := by omega
        obtain ⟨hN, _, hJ⟩ := Inv_w hI ho
        have hj := IJ_r hI ho
        unfold IN at hN
        have join160 : ∀ (x : Int) (H : Heap) (locs : List Loc) (ls : Array Slot), va_P D vwCl (kw 27 ad (RE G ad σ τ)) H → va_S (kA 27 ad) s.heap H locs → lv_has ls 11 [(0, .ref (ad 0)), (1, .int (iI p)), (2, .int (iI w)), (3, .int (iI d)), (4, .int (iI (bI les))), (5, .int (iI day)), (6, .int (iI x)), (7, .int (iI o))] → (x = sumI (tkF σ p w d les day) (o + 1)) → Wg H locs (F0 m0 160 ls []) := by
          intro x H locs ls hP hS hl hv160
          rw [hWg]
          refine r_iinc hx hb dX9_taken_160 hl (k := 7) rfl (by decide) (fun ls hl => ?_)
          replace hl : lv_has ls 11 [(0, _), (1, _), (2, _), (3, _), (4, _), (5, _), (6, _), (7, _)] := lv_sub hl [1, 2, 3, 4, 5, 6, 7, 0] rfl
          refine lv_goto (tgt := 6) hx hb dX9_taken_163 (by decide) ?_
          rw [← hWg]
          exact ih6 (o + 1) x _ _ _ hP hS hl ⟨by omega, hv160⟩ (by omega)
        refine lv_aload_n hx hb dX9_taken_15 rfl (lv_at hl 0 rfl) ?_
        refine lv_iload hx hb dX9_taken_16 (lv_at hl 7 rfl) ?_
        refine lv_iload_n hx hb dX9_taken_18 rfl (lv_at hl 1 rfl) ?_
        refine k_calliV (nL := 11) (C := RX9) (T := TX9) (N := 34) (ci := 9) hx hb hml hown hts hK hP hS hl.1 (c_X9_isOn hi hI ho hp) rfl (Nat.le_of_ble_eq_true rfl) rfl (cwV 2 hts (gV lm_X9_117 ti_X9_isOn tl_X9_isOn tn_X9 tc_X9_isOn) rfl rfl rfl (by decide +kernel) ⟨Nat.le_of_ble_eq_true rfl, Nat.le_of_ble_eq_true rfl⟩) rfl dX9_taken_19 ⟨Nat.zero_le _, Nat.zero_le _⟩ (by omega) RE_0 (fun r19 E1 H locs hq hP hS => ?_)
        obtain ⟨rfl, rfl⟩ := hq
        refine r_ifB_eq (tgt := 160) hx hb dX9_taken_22 (by decide) (fun c22 => ?_) (fun c22 => ?_)
        · rw [← hWg]
          exact join160 n _ _ _ hP hS hl (by rw [sumI_s hv.1, tkF_off c22, hn]; omega)
        · refine lv_aload_n hx hb dX9_taken_25 rfl (lv_at hl 0 rfl) ?_
          refine lv_iload hx hb dX9_taken_26 (lv_at hl 7 rfl) ?_
          refine lv_iload_n hx hb dX9_taken_28 rfl (lv_at hl 2 rfl) ?_
          refine lv_iload_n hx hb dX9_taken_29 rfl (lv_at hl 3 rfl) ?_
          refine lv_iload hx hb dX9_taken_30 (lv_at hl 4 rfl) ?_
          refine lv_iload hx hb dX9_taken_32 (lv_at hl 5 rfl) ?_
          refine k_calliV (nL := 11) (C := RX9) (T := TX9) (N := 34) (ci := 9) hx hb hml hown hts hK hP hS hl.1 (c_X9_lasts hi hI hR0 ho hw0 hd hy) rfl (Nat.le_of_ble_eq_true rfl) rfl (cwV 5 hts (gV lm_X9_128 ti_X9_lasts tl_X9_lasts tn_X9 tc_X9_lasts) rfl rfl rfl (by decide +kernel) ⟨Nat.le_of_ble_eq_true rfl, Nat.le_of_ble_eq_true rfl⟩) rfl dX9_taken_34 ⟨Nat.zero_le _, Nat.zero_le _⟩ (by omega) RE_0 (fun r34 E1 H locs hq hP hS => ?_)
          obtain ⟨rfl, rfl⟩ := hq
          refine r_ifB_eq (tgt := 160) hx hb dX9_taken_37 (by decide) (fun c37 => ?_) (fun c37 => ?_)
          · rw [← hWg]
            exact join160 n _ _ _ hP hS hl (by rw [sumI_s hv.1, hn, tkF, cif_f (fun q => c37 q.2)]; omega)
          · have join136 : ∀  (H : Heap) (locs : List Loc) (ls : Array Slot), va_P D vwCl (kw 27 ad (RE G ad σ τ)) H → va_S (kA 27 ad) s.heap H locs → lv_has ls 11 [(0, .ref (ad 0)), (1, .int (iI p)), (2, .int (iI w)), (3, .int (iI d)), (4, .int (iI (bI les))), (5, .int (iI day)), (6, .int (iI n)), (7, .int (iI o))] → (¬ lss σ p w d les day o) → Wg H locs (F0 m0 136 ls []) := by
              intro  H locs ls hP hS hl hv136
              rw [hWg]
              refine r_const hx hb dX9_taken_136 ?_
              refine lv_istore hx hb dX9_taken_137 hl (by decide) rfl (fun ls hl => ?_)
              replace hl : lv_has ls 11 [(0, _), (1, _), (2, _), (3, _), (4, _), (5, _), (6, _), (7, _), (10, _)] := lv_sub hl [1, 2, 3, 4, 5, 6, 7, 8, 0] rfl
              refine lv_iload hx hb dX9_taken_139 (lv_at hl 6 rfl) ?_
              refine lv_iload hx hb dX9_taken_141 (lv_at hl 8 rfl) ?_
              refine r_if_eq (tgt := 150) hx hb (by omega) dX9_taken_143 (by decide) (fun c143 => ?_) (fun c143 => ?_)
              · refine lv_aload_n hx hb dX9_taken_150 rfl (lv_at hl 0 rfl) ?_
                refine r_get (C := RX9) (T := TX9) (N := 34) (ci := 9) hx hb hts hi_X9 hown hK hP 15 rfl (by decide) lk_X9_47 (fun _ h9 => h9) dX9_taken_151 (by omega) RE_0 rfl ?_
                refine lv_iload hx hb dX9_taken_154 (lv_at hl 7 rfl) ?_
                refine r_iald hx hb hK hP 0 rfl dX9_taken_156 (by omega) rfl (by omega) (by omega) (tI_at (by omega)) ?_
                refine r_add hx hb dX9_taken_157 ?_
                refine lv_istore hx hb dX9_taken_158 hl (by decide) rfl (fun ls hl => ?_)
                replace hl : lv_has ls 11 [(0, _), (1, _), (2, _), (3, _), (4, _), (5, _), (6, _), (7, _), (10, _)] := lv_sub hl [1, 2, 3, 4, 5, 6, 0, 7, 8] rfl
                rw [← hWg]
                exact join160 (n + σ 13 o) _ _ _ hP hS (lv_sub hl [0, 1, 2, 3, 4, 5, 6, 7] rfl) (by rw [sumI_s hv.1, hn, tkF, cif_t ⟨c22, c37⟩, cif_f hv136])
              · omega
            have join83 : ∀  (H : Heap) (locs : List Loc) (ls : Array Slot), va_P D vwCl (kw 27 ad (RE G ad σ τ)) H → va_S (kA 27 ad) s.heap H locs → lv_has ls 11 [(0, .ref (ad 0)), (1, .int (iI p)), (2, .int (iI w)), (3, .int (iI d)), (4, .int (iI (bI les))), (5, .int (iI day)), (6, .int (iI n)), (7, .int (iI o))] → (¬ lss σ p w d les day o) → Wg H locs (F0 m0 83 ls []) := by
              intro  H locs ls hP hS hl hv83
              rw [hWg]
              refine r_const hx hb dX9_taken_83 ?_
              refine lv_istore hx hb dX9_taken_84 hl (by decide) rfl (fun ls hl => ?_)
              replace hl : lv_has ls 11 [(0, _), (1, _), (2, _), (3, _), (4, _), (5, _), (6, _), (7, _), (9, _)] := lv_sub hl [1, 2, 3, 4, 5, 6, 7, 8, 0] rfl
              refine lv_iload hx hb dX9_taken_86 (lv_at hl 8 rfl) ?_
              refine r_if_eq (tgt := 136) hx hb (by omega) dX9_taken_88 (by decide) (fun c88 => ?_) (fun c88 => ?_)
              · rw [← hWg]
                exact join136  _ _ _ hP hS (lv_sub hl [0, 1, 2, 3, 4, 5, 6, 7] rfl) hv83
              · omega
            refine lv_aload_n hx hb dX9_taken_40 rfl (lv_at hl 0 rfl) ?_
            refine r_get (C := RX9) (T := TX9) (N := 34) (ci := 9) hx hb hts hi_X9 hown hK hP 26 rfl (by decide) lk_X9_81 (fun _ h9 => h9) dX9_taken_41 (by omega) RE_0 rfl ?_
            refine lv_iload hx hb dX9_taken_44 (lv_at hl 7 rfl) ?_
            refine r_iald hx hb hK hP 0 rfl dX9_taken_46 (by omega) rfl (by omega) (by omega) (tD_at (by omega) (by omega)) ?_
            refine lv_istore hx hb dX9_taken_47 hl (by decide) rfl (fun ls hl => ?_)
            replace hl : lv_has ls 11 [(0, _), (1, _), (2, _), (3, _), (4, _), (5, _), (6, _), (7, _), (8, _)] := lv_sub hl [1, 2, 3, 4, 5, 6, 7, 8, 0] rfl
            refine lv_iload hx hb dX9_taken_49 (lv_at hl 8 rfl) ?_
            refine r_if_lt (tgt := 83) hx hb (by omega) dX9_taken_51 (by decide) (fun c51 => ?_) (fun c51 => ?_)
            · rw [← hWg]
              exact join83  _ _ _ hP hS (lv_sub hl [0, 1, 2, 3, 4, 5, 6, 7] rfl) (fun q => by have := q.1; omega)
            · obtain ⟨hNj, _, _⟩ := Inv_w hI (w := σ 23 o) (by omega)
              unfold IN at hNj
              refine lv_aload_n hx hb dX9_taken_54 rfl (lv_at hl 0 rfl) ?_
              refine lv_iload hx hb dX9_taken_55 (lv_at hl 8 rfl) ?_
              refine lv_iload_n hx hb dX9_taken_57 rfl (lv_at hl 1 rfl) ?_
              refine k_calliV (nL := 11) (C := RX9) (T := TX9) (N := 34) (ci := 9) hx hb hml hown hts hK hP hS hl.1 (c_X9_isOn hi hI (w := σ 23 o) (by omega) hp) rfl (Nat.le_of_ble_eq_true rfl) rfl (cwV 2 hts (gV lm_X9_117 ti_X9_isOn tl_X9_isOn tn_X9 tc_X9_isOn) rfl rfl rfl (by decide +kernel) ⟨Nat.le_of_ble_eq_true rfl, Nat.le_of_ble_eq_true rfl⟩) rfl dX9_taken_58 ⟨Nat.zero_le _, Nat.zero_le _⟩ (by omega) RE_0 (fun r58 E1 H locs hq hP hS => ?_)
              obtain ⟨rfl, rfl⟩ := hq
              refine r_ifB_eq (tgt := 83) hx hb dX9_taken_61 (by decide) (fun c61 => ?_) (fun c61 => ?_)
              · rw [← hWg]
                exact join83  _ _ _ hP hS (lv_sub hl [0, 1, 2, 3, 4, 5, 6, 7] rfl) (fun q => c61 q.2.1)
              · refine lv_aload_n hx hb dX9_taken_64 rfl (lv_at hl 0 rfl) ?_
                refine lv_iload hx hb dX9_taken_65 (lv_at hl 8 rfl) ?_
                refine lv_iload_n hx hb dX9_taken_67 rfl (lv_at hl 2 rfl) ?_
                refine lv_iload_n hx hb dX9_taken_68 rfl (lv_at hl 3 rfl) ?_
                refine lv_iload hx hb dX9_taken_69 (lv_at hl 4 rfl) ?_
                refine lv_iload hx hb dX9_taken_71 (lv_at hl 5 rfl) ?_
                refine k_calliV (nL := 11) (C := RX9) (T := TX9) (N := 34) (ci := 9) hx hb hml hown hts hK hP hS hl.1 (c_X9_lasts hi hI hR0 (o := σ 23 o) (by omega) hw0 hd hy) rfl (Nat.le_of_ble_eq_true rfl) rfl (cwV 5 hts (gV lm_X9_128 ti_X9_lasts tl_X9_lasts tn_X9 tc_X9_lasts) rfl rfl rfl (by decide +kernel) ⟨Nat.le_of_ble_eq_true rfl, Nat.le_of_ble_eq_true rfl⟩) rfl dX9_taken_73 ⟨Nat.zero_le _, Nat.zero_le _⟩ (by omega) RE_0 (fun r73 E1 H locs hq hP hS => ?_)
                obtain ⟨rfl, rfl⟩ := hq
                refine r_ifB_eq (tgt := 83) hx hb dX9_taken_76 (by decide) (fun c76 => ?_) (fun c76 => ?_)
                · rw [← hWg]
                  exact join83  _ _ _ hP hS (lv_sub hl [0, 1, 2, 3, 4, 5, 6, 7] rfl) (fun q => c76 q.2.2.1)
                · refine r_const hx hb dX9_taken_79 ?_
                  refine lv_goto (tgt := 84) hx hb dX9_taken_80 (by decide) ?_
                  refine lv_istore hx hb dX9_taken_84 hl (by decide) rfl (fun ls hl => ?_)
                  replace hl : lv_has ls 11 [(0, _), (1, _), (2, _), (3, _), (4, _), (5, _), (6, _), (7, _), (8, _), (9, _)] := lv_sub hl [1, 2, 3, 4, 5, 6, 7, 8, 9, 0] rfl
                  refine lv_iload hx hb dX9_taken_86 (lv_at hl 9 rfl) ?_
                  refine r_if_eq (tgt := 136) hx hb (by omega) dX9_taken_88 (by decide) (fun c88 => ?_) (fun c88 => ?_)
                  · omega
                  · refine lv_aload_n hx hb dX9_taken_91 rfl (lv_at hl 0 rfl) ?_
                    refine r_get (C := RX9) (T := TX9) (N := 34) (ci := 9) hx hb hts hi_X9 hown hK hP 15 rfl (by decide) lk_X9_47 (fun _ h9 => h9) dX9_taken_92 (by omega) RE_0 rfl ?_
                    refine lv_iload hx hb dX9_taken_95 (lv_at hl 8 rfl) ?_
                    refine r_iald hx hb hK hP 0 rfl dX9_taken_97 (by omega) rfl (by omega) (by omega) (tI_at (by omega)) ?_
                    refine lv_aload_n hx hb dX9_taken_98 rfl (lv_at hl 0 rfl) ?_
                    refine r_get (C := RX9) (T := TX9) (N := 34) (ci := 9) hx hb hts hi_X9 hown hK hP 15 rfl (by decide) lk_X9_47 (fun _ h9 => h9) dX9_taken_99 (by omega) RE_0 rfl ?_
                    refine lv_iload hx hb dX9_taken_102 (lv_at hl 7 rfl) ?_
                    refine r_iald hx hb hK hP 0 rfl dX9_taken_104 (by omega) rfl (by omega) (by omega) (tI_at (by omega)) ?_
                    refine r_icmp_gt (tgt := 132) hx hb (by omega) (by omega) dX9_taken_105 (by decide) (fun c105 => ?_) (fun c105 => ?_)
                    · refine r_const hx hb dX9_taken_132 ?_
                      refine lv_goto (tgt := 137) hx hb dX9_taken_133 (by decide) ?_
                      refine lv_istore hx hb dX9_taken_137 hl (by decide) rfl (fun ls hl => ?_)
                      replace hl : lv_has ls 11 [(0, _), (1, _), (2, _), (3, _), (4, _), (5, _), (6, _), (7, _), (8, _), (9, _), (10, _)] := lv_sub hl [1, 2, 3, 4, 5, 6, 7, 8, 9, 10, 0] rfl
                      refine lv_iload hx hb dX9_taken_139 (lv_at hl 6 rfl) ?_
                      refine lv_iload hx hb dX9_taken_141 (lv_at hl 10 rfl) ?_
                      refine r_if_eq (tgt := 150) hx hb (by omega) dX9_taken_143 (by decide) (fun c143 => ?_) (fun c143 => ?_)
                      · omega
                      · refine r_const hx hb dX9_taken_146 ?_
                        refine lv_goto (tgt := 157) hx hb dX9_taken_147 (by decide) ?_
                        refine r_add hx hb dX9_taken_157 ?_
                        refine lv_istore hx hb dX9_taken_158 hl (by decide) rfl (fun ls hl => ?_)
                        replace hl : lv_has ls 11 [(0, _), (1, _), (2, _), (3, _), (4, _), (5, _), (6, _), (7, _), (8, _), (9, _), (10, _)] := lv_sub hl [1, 2, 3, 4, 5, 6, 0, 7, 8, 9, 10] rfl
                        rw [← hWg]
                        exact join160 (n + 0) _ _ _ hP hS (lv_sub hl [0, 1, 2, 3, 4, 5, 6, 7] rfl) (by rw [sumI_s hv.1, hn, tkF, cif_t ⟨c22, c37⟩, cif_t ⟨by omega, c61, c76, by omega⟩])
                    · refine lv_aload_n hx hb dX9_taken_108 rfl (lv_at hl 0 rfl) ?_
                      refine r_get (C := RX9) (T := TX9) (N := 34) (ci := 9) hx hb hts hi_X9 hown hK hP 15 rfl (by decide) lk_X9_47 (fun _ h9 => h9) dX9_taken_109 (by omega) RE_0 rfl ?_
                      refine lv_iload hx hb dX9_taken_112 (lv_at hl 8 rfl) ?_
                      refine r_iald hx hb hK hP 0 rfl dX9_taken_114 (by omega) rfl (by omega) (by omega) (tI_at (by omega)) ?_
                      refine lv_aload_n hx hb dX9_taken_115 rfl (lv_at hl 0 rfl) ?_
                      refine r_get (C := RX9) (T := TX9) (N := 34) (ci := 9) hx hb hts hi_X9 hown hK hP 15 rfl (by decide) lk_X9_47 (fun _ h9 => h9) dX9_taken_116 (by omega) RE_0 rfl ?_
                      refine lv_iload hx hb dX9_taken_119 (lv_at hl 7 rfl) ?_
                      refine r_iald hx hb hK hP 0 rfl dX9_taken_121 (by omega) rfl (by omega) (by omega) (tI_at (by omega)) ?_
                      refine r_icmp_ne (tgt := 136) hx hb (by omega) (by omega) dX9_taken_122 (by decide) (fun c122 => ?_) (fun c122 => ?_)
                      · rw [← hWg]
                        exact join136  _ _ _ hP hS (lv_sub hl [0, 1, 2, 3, 4, 5, 6, 7] rfl) (fun q => by have := q.2.2.2; omega)
                      · refine lv_iload hx hb dX9_taken_125 (lv_at hl 8 rfl) ?_
                        refine lv_iload hx hb dX9_taken_127 (lv_at hl 7 rfl) ?_
                        refine r_icmp_ge (tgt := 136) hx hb (by omega) (by omega) dX9_taken_129 (by decide) (fun c129 => ?_) (fun c129 => ?_)
                        · rw [← hWg]
                          exact join136  _ _ _ hP hS (lv_sub hl [0, 1, 2, 3, 4, 5, 6, 7] rfl) (fun q => by have := q.2.2.2; omega)
                        · refine r_const hx hb dX9_taken_132 ?_
                          refine lv_goto (tgt := 137) hx hb dX9_taken_133 (by decide) ?_
                          refine lv_istore hx hb dX9_taken_137 hl (by decide) rfl (fun ls hl => ?_)
                          replace hl : lv_has ls 11 [(0, _), (1, _), (2, _), (3, _), (4, _), (5, _), (6, _), (7, _), (8, _), (9, _), (10, _)] := lv_sub hl [1, 2, 3, 4, 5, 6, 7, 8, 9, 10, 0] rfl
                          refine lv_iload hx hb dX9_taken_139 (lv_at hl 6 rfl) ?_
                          refine lv_iload hx hb dX9_taken_141 (lv_at hl 10 rfl) ?_
                          refine r_if_eq (tgt := 150) hx hb (by omega) dX9_taken_143 (by decide) (fun c143 => ?_) (fun c143 => ?_)
                          · omega
                          · refine r_const hx hb dX9_taken_146 ?_
                            refine lv_goto (tgt := 157) hx hb dX9_taken_147 (by decide) ?_
                            refine r_add hx hb dX9_taken_157 ?_
                            refine lv_istore hx hb dX9_taken_158 hl (by decide) rfl (fun ls hl => ?_)
                            replace hl : lv_has ls 11 [(0, _), (1, _), (2, _), (3, _), (4, _), (5, _), (6, _), (7, _), (8, _), (9, _), (10, _)] := lv_sub hl [1, 2, 3, 4, 5, 6, 0, 7, 8, 9, 10] rfl
                            rw [← hWg]
                            exact join160 (n + 0) _ _ _ hP hS (lv_sub hl [0, 1, 2, 3, 4, 5, 6, 7] rfl) (by rw [sumI_s hv.1, hn, tkF, cif_t ⟨c22, c37⟩, cif_t ⟨by omega, c61, c76, by omega⟩])
  rw [← hWg]
  exact loop6 _ 0 0 _ _ _ hP hS hl ⟨by omega, sumI_0.symm⟩ (Nat.lt_succ_self _)
abbrev rmX9_shutOn : Room := { frames := 4, cells := 0, slots := 0, locals := 99 }
set_option maxRecDepth 100000 in
set_option maxHeartbeats 4000000 in
theorem c_X9_shutOn {l : Launch} {D : va_G} {G : Nat → ClassId} {ad : Nat → Nat} {σ τ : Tb} (hi : kInj 27 ad) {w d day : Int} {les : Prop} (hI : Inv σ) (hR : RD σ τ) (hw0 : -1 ≤ w ∧ w < σ 0 2) (hd : -1 ≤ d ∧ d ≤ 1000) (hy : -1000 ≤ day ∧ day ≤ 1000) : Met l yX9_shutOn wsX9_shutOn rmX9_shutOn (kPc D (tysG G) 27 ad (RE G ad σ τ) [.ref (ad 0), .int (iI w), .int (iI d), .int (iI (bI les)), .int (iI day)]) (kQl D 27 ad (fun z E' => z = shM σ w d les day ∧ E' = RE G ad σ τ)) 0 0 (kA 27 ad) := by
  refine k_met (cc := cX9_shutOn) (maxL := 8) (ret := (some .long)) (by decide) (Nat.le_of_ble_eq_true rfl) ?_
  intro P0 e0 s m0 below meth c0 ls hx hb hr hlocks hml hown hts hK hP hS hl
  replace hl : lv_has ls 8 [(0, _), (1, _), (2, _), (3, _), (4, _)] := hl
  replace hown : s.vm.findClass RX9 = some m0.cls := hown
  refine k_abs (fun Wg hWg => ?_)
  have h0 := Inv_0 hI
  refine r_lconst0 hx hb dX9_shutOn_0 ?_
  refine lv_lstore hx hb dX9_shutOn_1 hl (by decide) rfl (fun ls hl => ?_)
  replace hl : lv_has ls 8 [(0, _), (1, _), (2, _), (3, _), (4, _), (5, _)] := lv_sub hl [1, 2, 3, 4, 5, 0] rfl
  refine r_const hx hb dX9_shutOn_3 ?_
  refine lv_istore hx hb dX9_shutOn_4 hl (by decide) rfl (fun ls hl => ?_)
  replace hl : lv_has ls 8 [(0, _), (1, _), (2, _), (3, _), (4, _), (5, _), (7, _)] := lv_sub hl [1, 2, 3, 4, 5, 6, 0] rfl
  have loop6 : ∀ (nn : Nat) (i : Int) (H : Heap) (locs : List Loc) (ls : Array Slot), va_P D vwCl (kw 27 ad (RE G ad σ τ)) H → va_S (kA 27 ad) s.heap H locs → lv_has ls 8 [(0, .ref (ad 0)), (1, .int (iI w)), (2, .int (iI d)), (3, .int (iI (bI les))), (4, .int (iI day)), (5, .long (lN (msk (fun p => σ 3 p ≤ tkn σ p w d les day) i.toNat))), (7, .int (iI i))] → (0 ≤ i ∧ i ≤ σ 0 0) → (σ 0 0 - i).toNat < nn → Wg H locs (F0 m0 6 ls []) := by
    intro nn
    induction nn with
    | zero => intro i H locs ls _ _ _ _ hn; omega
    | succ nn ih6 =>
      intro i H locs ls hP hS hl hv6 hn6
      rw [hWg]
      refine lv_iload hx hb dX9_shutOn_6 (lv_at hl 6 rfl) ?_
      refine lv_aload_n hx hb dX9_shutOn_8 rfl (lv_at hl 0 rfl) ?_
      refine r_get (C := RX9) (T := TX9) (N := 34) (ci := 9) hx hb hts hi_X9 hown hK hP 6 rfl (by decide) lk_X9_101 (fun _ h9 => h9) dX9_shutOn_9 (by omega) RE_0 rfl ?_
      refine r_icmp_ge (tgt := 55) hx hb (by omega) (by omega) dX9_shutOn_12 (by decide) (fun c12 => ?_) (fun c12 => ?_)
      · obtain rfl : i = σ 0 0 := by omega
        refine lv_lload hx hb dX9_shutOn_55 (lv_at hl 5 rfl) ?_
        exact k_lret hx hb hr hlocks hP hS dX9_shutOn_57 ⟨rfl, rfl⟩
      · have hp := Inv_p hI (p := i) (by omega)
        unfold IP at hp
        have ht := tkn_r hI (p := i) (w := w) (d := d) (les := les) (day := day)
        have hm := msk_40 (P := fun p => σ 3 p ≤ tkn σ p w d les day) (i := i) (by omega)
        have h2 : 2 ^ i.toNat < 2 ^ 63 := Nat.pow_lt_pow_right (by decide) (by omega)
        refine lv_lload hx hb dX9_shutOn_15 (lv_at hl 5 rfl) ?_
        refine lv_aload_n hx hb dX9_shutOn_17 rfl (lv_at hl 0 rfl) ?_
        refine lv_iload hx hb dX9_shutOn_18 (lv_at hl 6 rfl) ?_
        refine lv_iload_n hx hb dX9_shutOn_20 rfl (lv_at hl 1 rfl) ?_
        refine lv_iload_n hx hb dX9_shutOn_21 rfl (lv_at hl 2 rfl) ?_
        refine lv_iload_n hx hb dX9_shutOn_22 rfl (lv_at hl 3 rfl) ?_
        refine lv_iload hx hb dX9_shutOn_23 (lv_at hl 4 rfl) ?_
        refine k_calliV (nL := 8) (C := RX9) (T := TX9) (N := 34) (ci := 9) hx hb hml hown hts hK hP hS hl.1 (c_X9_taken hi hI hR (p := i) (by omega) hw0 hd hy) rfl (Nat.le_of_ble_eq_true rfl) rfl (cwV 5 hts (gV lm_X9_132 ti_X9_taken tl_X9_taken tn_X9 tc_X9_taken) rfl rfl rfl (by decide +kernel) ⟨Nat.le_of_ble_eq_true rfl, Nat.le_of_ble_eq_true rfl⟩) rfl dX9_shutOn_25 ⟨Nat.zero_le _, Nat.zero_le _⟩ (by omega) RE_0 (fun r25 E1 H locs hq hP hS => ?_)
        obtain ⟨rfl, rfl⟩ := hq
        refine lv_aload_n hx hb dX9_shutOn_28 rfl (lv_at hl 0 rfl) ?_
        refine r_get (C := RX9) (T := TX9) (N := 34) (ci := 9) hx hb hts hi_X9 hown hK hP 2 rfl (by decide) lk_X9_16 (fun _ h9 => h9) dX9_shutOn_29 (by omega) RE_0 rfl ?_
        refine lv_iload hx hb dX9_shutOn_32 (lv_at hl 6 rfl) ?_
        refine r_iald hx hb hK hP 0 rfl dX9_shutOn_34 (by omega) rfl (by omega) (by omega) (tI_at (by omega)) ?_
        refine r_icmp_lt (tgt := 45) hx hb (by omega) (by omega) dX9_shutOn_35 (by decide) (fun c35 => ?_) (fun c35 => ?_)
        · refine r_lconst0 hx hb dX9_shutOn_45 ?_
          refine r_lor hx hb dX9_shutOn_46 (by omega) (by omega) ?_
          rw [Nat.or_zero]
          rw [show msk (fun p => σ 3 p ≤ tkn σ p w d les day) i.toNat = msk (fun p => σ 3 p ≤ tkn σ p w d les day) (i + 1).toNat by rw [msk_s (by omega), cif_f (by omega), Nat.or_zero]] at hl ⊢
          refine lv_lstore hx hb dX9_shutOn_47 hl (by decide) rfl (fun ls hl => ?_)
          replace hl : lv_has ls 8 [(0, _), (1, _), (2, _), (3, _), (4, _), (5, _), (7, _)] := lv_sub hl [1, 2, 3, 4, 5, 0, 6] rfl
          refine r_iinc hx hb dX9_shutOn_49 hl (k := 6) rfl (by decide) (fun ls hl => ?_)
          replace hl : lv_has ls 8 [(0, _), (1, _), (2, _), (3, _), (4, _), (5, _), (7, _)] := lv_sub hl [1, 2, 3, 4, 5, 6, 0] rfl
          refine lv_goto (tgt := 6) hx hb dX9_shutOn_52 (by decide) ?_
          rw [← hWg]
          exact ih6 (i + 1) _ _ _ hP hS hl (by omega) (by omega)
        · refine r_lconst1 hx hb dX9_shutOn_38 ?_
          refine lv_iload hx hb dX9_shutOn_39 (lv_at hl 6 rfl) ?_
          refine r_lshl1 hx hb dX9_shutOn_41 (by omega) ?_
          refine lv_goto (tgt := 46) hx hb dX9_shutOn_42 (by decide) ?_
          refine r_lor hx hb dX9_shutOn_46 (by omega) (by omega) ?_
          rw [show msk (fun p => σ 3 p ≤ tkn σ p w d les day) i.toNat ||| 2 ^ i.toNat = msk (fun p => σ 3 p ≤ tkn σ p w d les day) (i + 1).toNat by rw [msk_s (by omega), cif_t (by omega)]]
          refine lv_lstore hx hb dX9_shutOn_47 hl (by decide) rfl (fun ls hl => ?_)
          replace hl : lv_has ls 8 [(0, _), (1, _), (2, _), (3, _), (4, _), (5, _), (7, _)] := lv_sub hl [1, 2, 3, 4, 5, 0, 6] rfl
          refine r_iinc hx hb dX9_shutOn_49 hl (k := 6) rfl (by decide) (fun ls hl => ?_)
          replace hl : lv_has ls 8 [(0, _), (1, _), (2, _), (3, _), (4, _), (5, _), (7, _)] := lv_sub hl [1, 2, 3, 4, 5, 6, 0] rfl
          refine lv_goto (tgt := 6) hx hb dX9_shutOn_52 (by decide) ?_
          rw [← hWg]
          exact ih6 (i + 1) _ _ _ hP hS hl (by omega) (by omega)
  rw [← hWg]
  exact loop6 _ 0 _ _ _ hP hS hl (by omega) (Nat.lt_succ_self _)
abbrev rmX9_broken : Room := { frames := 0, cells := 0, slots := 0, locals := 0 }
set_option maxRecDepth 100000 in
set_option maxHeartbeats 4000000 in
theorem c_X9_broken {l : Launch} {D : va_G} {G : Nat → ClassId} {ad : Nat → Nat} {σ τ : Tb} (hi : kInj 27 ad) {a b : Int} : Met l yX9_broken wsX9_broken rmX9_broken (kPc D (tysG G) 27 ad (RE G ad σ τ) [.ref (ad 0), .int (iI a), .int (iI b)]) (kQi D 27 ad (fun z E' => z = 1 ∧ E' = RE G ad σ (up (up τ 0 0 a) 0 1 b))) 0 0 (kA 27 ad) := by
  refine k_met (cc := cX9_broken) (maxL := 3) (ret := (some .boolean)) (by decide) (Nat.le_of_ble_eq_true rfl) ?_
  intro P0 e0 s m0 below meth c0 ls hx hb hr hlocks hml hown hts hK hP hS hl
  replace hl : lv_has ls 3 [(0, _), (1, _), (2, _)] := hl
  replace hown : s.vm.findClass RX9 = some m0.cls := hown
  refine k_abs (fun Wg hWg => ?_)
  refine lv_aload_n hx hb dX9_broken_0 rfl (lv_at hl 0 rfl) ?_
  refine lv_iload_n hx hb dX9_broken_1 rfl (lv_at hl 1 rfl) ?_
  refine r_put (C := RX9) (T := TX9) (N := 34) (ci := 9) hx hb hi hts hi_X9 tyX9 tyX9_ok nmX9 hown hK hP hS 29 rfl (by decide) lk_X9_137 (fun _ h9 => h9) rfl (ty := .int) (by decide +kernel) rfl rfl dX9_broken_2 (by omega) RE_0 (Nat.le_of_ble_eq_true rfl) ru_brokenDay (fun H locs hP hS => ?_)
  refine lv_aload_n hx hb dX9_broken_5 rfl (lv_at hl 0 rfl) ?_
  refine lv_iload_n hx hb dX9_broken_6 rfl (lv_at hl 2 rfl) ?_
  refine r_put (C := RX9) (T := TX9) (N := 34) (ci := 9) hx hb hi hts hi_X9 tyX9 tyX9_ok nmX9 hown hK hP hS 30 rfl (by decide) lk_X9_140 (fun _ h9 => h9) rfl (ty := .int) (by decide +kernel) rfl rfl dX9_broken_7 (by omega) RE_0 (Nat.le_of_ble_eq_true rfl) ru_brokenAt (fun H locs hP hS => ?_)
  refine r_const hx hb dX9_broken_10 ?_
  exact k_zret hx hb hr hlocks hP hS dX9_broken_11 (by omega) ⟨rfl, rfl⟩
theorem brk_2 {τ : Tb} {a b : Int} : up (up τ 0 0 a) 0 1 b 0 0 = a ∧ up (up τ 0 0 a) 0 1 b 0 1 = b := ⟨by rw [up_i (by decide), up_self], up_self _ _ _ _⟩
theorem brk_F {τ τ' : Tb} {a b : Int} (h : FrR τ τ') : FrR τ (up (up τ' 0 0 a) 0 1 b) := ⟨fun i q => by rw [up_i (by omega), up_i (by omega)]; exact h.1 i q, fun i => by rw [up_t (by decide), up_t (by decide)]; exact h.2 i⟩
abbrev rmX9_notice : Room := { frames := 0, cells := 0, slots := 0, locals := 0 }
set_option maxRecDepth 100000 in
set_option maxHeartbeats 4000000 in
theorem c_X9_notice {l : Launch} {D : va_G} {G : Nat → ClassId} {ad : Nat → Nat} {σ τ : Tb} (hi : kInj 27 ad) {w : Int} (hI : Inv σ) (hw : 0 ≤ w ∧ w < σ 0 2) : Met l yX9_notice wsX9_notice rmX9_notice (kPc D (tysG G) 27 ad (RE G ad σ τ) [.ref (ad 0), .int (iI w)]) (kQi D 27 ad (fun z E' => z = ntc σ w ∧ E' = RE G ad σ τ)) 0 0 (kA 27 ad) := by
  refine k_met (cc := cX9_notice) (maxL := 2) (ret := (some .int)) (by decide) (Nat.le_of_ble_eq_true rfl) ?_
  intro P0 e0 s m0 below meth c0 ls hx hb hr hlocks hml hown hts hK hP hS hl
  replace hl : lv_has ls 2 [(0, _), (1, _)] := hl
  replace hown : s.vm.findClass RX9 = some m0.cls := hown
  refine k_abs (fun Wg hWg => ?_)
  have h0 := Inv_0 hI
  obtain ⟨hN, _, _⟩ := Inv_w hI hw
  unfold IN at hN
  refine lv_aload_n hx hb dX9_notice_0 rfl (lv_at hl 0 rfl) ?_
  refine r_get (C := RX9) (T := TX9) (N := 34) (ci := 9) hx hb hts hi_X9 hown hK hP 14 rfl (by decide) lk_X9_44 (fun _ h9 => h9) dX9_notice_1 (by omega) RE_0 rfl ?_
  refine lv_iload_n hx hb dX9_notice_4 rfl (lv_at hl 1 rfl) ?_
  refine r_iald hx hb hK hP 0 rfl dX9_notice_5 (by omega) rfl (by omega) (by omega) (tI_at (by omega)) ?_
  refine r_const hx hb dX9_notice_6 ?_
  refine r_icmp_ne (tgt := 15) hx hb (by omega) (by omega) dX9_notice_7 (by decide) (fun c7 => ?_) (fun c7 => ?_)
  · refine lv_aload_n hx hb dX9_notice_15 rfl (lv_at hl 0 rfl) ?_
    refine r_get (C := RX9) (T := TX9) (N := 34) (ci := 9) hx hb hts hi_X9 hown hK hP 14 rfl (by decide) lk_X9_44 (fun _ h9 => h9) dX9_notice_16 (by omega) RE_0 rfl ?_
    refine lv_iload_n hx hb dX9_notice_19 rfl (lv_at hl 1 rfl) ?_
    refine r_iald hx hb hK hP 0 rfl dX9_notice_20 (by omega) rfl (by omega) (by omega) (tI_at (by omega)) ?_
    refine r_const hx hb dX9_notice_21 ?_
    refine r_icmp_ne (tgt := 29) hx hb (by omega) (by omega) dX9_notice_22 (by decide) (fun c22 => ?_) (fun c22 => ?_)
    · refine r_const hx hb dX9_notice_29 ?_
      exact k_iret hx hb hr hlocks hP hS dX9_notice_30 ⟨by rw [ntc, cif_f (by omega), cif_f (by omega)], rfl⟩
    · refine r_const hx hb dX9_notice_25 ?_
      refine lv_goto (tgt := 30) hx hb dX9_notice_26 (by decide) ?_
      exact k_iret hx hb hr hlocks hP hS dX9_notice_30 ⟨by rw [ntc, cif_f (by omega), cif_t (by omega)], rfl⟩
  · refine r_bipush hx hb dX9_notice_10 (by decide +kernel) ?_
    refine lv_goto (tgt := 30) hx hb dX9_notice_12 (by decide) ?_
    exact k_iret hx hb hr hlocks hP hS dX9_notice_30 ⟨by rw [ntc, cif_t (by omega)], rfl⟩
theorem low_n {σ : Tb} (hI : Inv σ) {w p : Int} (hw : 0 ≤ w ∧ w < σ 0 2) (hp : 0 ≤ p) (ho : isOn σ w p) : σ 25 w ≤ p := by
  obtain ⟨_, k, k0, k1, k2⟩ := IQ_p hI hw hp ho
  have e : PQ σ w 0 = σ 25 w := rfl
  rcases (show k = 0 ∨ 0 < k by omega) with q | q
  · rw [q] at k2; omega
  · have := IQ_lt hI hw (j := 0) (k := k) ⟨by omega, q, k1⟩
    omega
theorem low_t {σ : Tb} (hI : Inv σ) {w : Int} (hw : 0 ≤ w ∧ w < σ 0 2) : isOn σ w (σ 25 w) := (IQ_k hI hw (k := 0) ⟨by omega, by have := IQ_0 hI hw; omega⟩).2
abbrev rmX9_lowest : Room := { frames := 1, cells := 0, slots := 0, locals := 22 }
set_option maxRecDepth 100000 in
set_option maxHeartbeats 4000000 in
theorem c_X9_lowest {l : Launch} {D : va_G} {G : Nat → ClassId} {ad : Nat → Nat} {σ τ : Tb} (hi : kInj 27 ad) {w : Int} (hI : Inv σ) (hw : 0 ≤ w ∧ w < σ 0 2) : Met l yX9_lowest wsX9_lowest rmX9_lowest (kPc D (tysG G) 27 ad (RE G ad σ τ) [.ref (ad 0), .int (iI w)]) (kQi D 27 ad (fun z E' => z = σ 25 w ∧ E' = RE G ad σ τ)) 0 0 (kA 27 ad) := by
  refine k_met (cc := cX9_lowest) (maxL := 3) (ret := (some .int)) (by decide) (Nat.le_of_ble_eq_true rfl) ?_
  intro P0 e0 s m0 below meth c0 ls hx hb hr hlocks hml hown hts hK hP hS hl
  replace hl : lv_has ls 3 [(0, _), (1, _)] := hl
  replace hown : s.vm.findClass RX9 = some m0.cls := hown
  refine k_abs (fun Wg hWg => ?_)
  have h0 := Inv_0 hI
  obtain ⟨_, _, hq0⟩ := IQ_0 hI hw
  refine r_const hx hb dX9_lowest_0 ?_
  refine lv_istore_n hx hb dX9_lowest_1 rfl hl (by decide) rfl (fun ls hl => ?_)
  replace hl : lv_has ls 3 [(0, _), (1, _), (2, _)] := lv_sub hl [1, 2, 0] rfl
  have loop2 : ∀ (nn : Nat) (i : Int) (H : Heap) (locs : List Loc) (ls : Array Slot), va_P D vwCl (kw 27 ad (RE G ad σ τ)) H → va_S (kA 27 ad) s.heap H locs → lv_has ls 3 [(0, .ref (ad 0)), (1, .int (iI w)), (2, .int (iI i))] → (0 ≤ i ∧ i ≤ σ 25 w) → (σ 25 w - i).toNat < nn → Wg H locs (F0 m0 2 ls []) := by
    intro nn
    induction nn with
    | zero => intro i H locs ls _ _ _ _ hn; omega
    | succ nn ih2 =>
      intro i H locs ls hP hS hl hv2 hn2
      rw [hWg]
      refine lv_aload_n hx hb dX9_lowest_2 rfl (lv_at hl 0 rfl) ?_
      refine lv_iload_n hx hb dX9_lowest_3 rfl (lv_at hl 1 rfl) ?_
      refine lv_iload_n hx hb dX9_lowest_4 rfl (lv_at hl 2 rfl) ?_
      refine k_calliV (nL := 3) (C := RX9) (T := TX9) (N := 34) (ci := 9) hx hb hml hown hts hK hP hS hl.1 (c_X9_isOn hi hI hw (by omega)) rfl (Nat.le_of_ble_eq_true rfl) rfl (cwV 2 hts (gV lm_X9_117 ti_X9_isOn tl_X9_isOn tn_X9 tc_X9_isOn) rfl rfl rfl (by decide +kernel) ⟨Nat.le_of_ble_eq_true rfl, Nat.le_of_ble_eq_true rfl⟩) rfl dX9_lowest_5 ⟨Nat.zero_le _, Nat.zero_le _⟩ (by omega) RE_0 (fun r5 E1 H locs hq hP hS => ?_)
      obtain ⟨rfl, rfl⟩ := hq
      refine r_ifB_ne (tgt := 17) hx hb dX9_lowest_8 (by decide) (fun c8 => ?_) (fun c8 => ?_)
      · have := low_n hI hw hv2.1 c8
        obtain rfl : i = σ 25 w := by omega
        refine lv_iload_n hx hb dX9_lowest_17 rfl (lv_at hl 2 rfl) ?_
        exact k_iret hx hb hr hlocks hP hS dX9_lowest_18 ⟨rfl, rfl⟩
      · have hne : i ≠ σ 25 w := fun q => c8 (q ▸ low_t hI hw)
        refine r_iinc hx hb dX9_lowest_11 hl (k := 2) rfl (by decide) (fun ls hl => ?_)
        replace hl : lv_has ls 3 [(0, _), (1, _), (2, _)] := lv_sub hl [1, 2, 0] rfl
        refine lv_goto (tgt := 2) hx hb dX9_lowest_14 (by decide) ?_
        rw [← hWg]
        exact ih2 (i + 1) _ _ _ hP hS hl (by omega) (by omega)
  rw [← hWg]
  exact loop2 _ 0 _ _ _ hP hS hl (by omega) (Nat.lt_succ_self _)
noncomputable def rfF (σ : Tb) (w : Int) : Int := cif ((σ 19 w = 0 ∨ σ 19 w = 1) ∧ σ 12 w ≠ 2) 0 (-3)
abbrev rmX9_refusal : Room := { frames := 0, cells := 0, slots := 0, locals := 0 }
set_option maxRecDepth 100000 in
set_option maxHeartbeats 4000000 in
theorem c_X9_refusal {l : Launch} {D : va_G} {G : Nat → ClassId} {ad : Nat → Nat} {σ τ : Tb} (hi : kInj 27 ad) {w : Int} (hI : Inv σ) (hw : 0 ≤ w ∧ w < σ 0 2) : Met l yX9_refusal wsX9_refusal rmX9_refusal (kPc D (tysG G) 27 ad (RE G ad σ τ) [.ref (ad 0), .int (iI w)]) (kQi D 27 ad (fun z E' => z = rfF σ w ∧ E' = RE G ad σ τ)) 0 0 (kA 27 ad) := by
  refine k_met (cc := cX9_refusal) (maxL := 2) (ret := (some .int)) (by decide) (Nat.le_of_ble_eq_true rfl) ?_
  intro P0 e0 s m0 below meth c0 ls hx hb hr hlocks hml hown hts hK hP hS hl
  replace hl : lv_has ls 2 [(0, _), (1, _)] := hl
  replace hown : s.vm.findClass RX9 = some m0.cls := hown
  refine k_abs (fun Wg hWg => ?_)
  have h0 := Inv_0 hI
  obtain ⟨hN, _, _⟩ := Inv_w hI hw
  unfold IN at hN
  refine lv_aload_n hx hb dX9_refusal_0 rfl (lv_at hl 0 rfl) ?_
  refine r_get (C := RX9) (T := TX9) (N := 34) (ci := 9) hx hb hts hi_X9 hown hK hP 22 rfl (by decide) lk_X9_69 (fun _ h9 => h9) dX9_refusal_1 (by omega) RE_0 rfl ?_
  refine lv_iload_n hx hb dX9_refusal_4 rfl (lv_at hl 1 rfl) ?_
  refine r_iald hx hb hK hP 0 rfl dX9_refusal_5 (by omega) rfl (by omega) (by omega) (tI_at (by omega)) ?_
  refine r_const hx hb dX9_refusal_6 ?_
  refine r_icmp_gt (tgt := 20) hx hb (by omega) (by omega) dX9_refusal_7 (by decide) (fun c7 => ?_) (fun c7 => ?_)
  · refine r_bipush hx hb dX9_refusal_20 (by decide +kernel) ?_
    refine lv_goto (tgt := 26) hx hb dX9_refusal_22 (by decide) ?_
    exact k_iret hx hb hr hlocks hP hS dX9_refusal_26 ⟨by rw [rfF, cif_f (by omega)], rfl⟩
  · refine lv_aload_n hx hb dX9_refusal_10 rfl (lv_at hl 0 rfl) ?_
    refine r_get (C := RX9) (T := TX9) (N := 34) (ci := 9) hx hb hts hi_X9 hown hK hP 14 rfl (by decide) lk_X9_44 (fun _ h9 => h9) dX9_refusal_11 (by omega) RE_0 rfl ?_
    refine lv_iload_n hx hb dX9_refusal_14 rfl (lv_at hl 1 rfl) ?_
    refine r_iald hx hb hK hP 0 rfl dX9_refusal_15 (by omega) rfl (by omega) (by omega) (tI_at (by omega)) ?_
    refine r_const hx hb dX9_refusal_16 ?_
    refine r_icmp_ne (tgt := 25) hx hb (by omega) (by omega) dX9_refusal_17 (by decide) (fun c17 => ?_) (fun c17 => ?_)
    · refine r_const hx hb dX9_refusal_25 ?_
      exact k_iret hx hb hr hlocks hP hS dX9_refusal_26 ⟨by rw [rfF, cif_t (by omega)], rfl⟩
    · refine r_bipush hx hb dX9_refusal_20 (by decide +kernel) ?_
      refine lv_goto (tgt := 26) hx hb dX9_refusal_22 (by decide) ?_
      exact k_iret hx hb hr hlocks hP hS dX9_refusal_26 ⟨by rw [rfF, cif_f (by omega)], rfl⟩

