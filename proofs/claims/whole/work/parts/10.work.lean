noncomputable def lstF (σ : Tb) (w d : Int) : Int := if d + σ 14 w - 1 < 399 then d + σ 14 w - 1 else 399
noncomputable def ntcC (σ : Tb) (w : Int) : Int := cif (σ 12 w = 0) 3 (cif (σ 12 w = 1) 30 0)
noncomputable def dlyC (σ : Tb) (w : Int) : Int := cif (σ 16 w < σ 20 w) ((σ 20 w - σ 16 w) * σ 13 w) 0
abbrev rmX7_uses : Room := { frames := 0, cells := 0, slots := 0, locals := 0 }
set_option maxRecDepth 100000 in
set_option maxHeartbeats 4000000 in
theorem c_X7_uses {l : Launch} {D : va_G} {G : Nat → ClassId} {ad : Nat → Nat} {σ τ : Tb} (hi : kInj 189 ad) {w p : Int} (hw : 0 ≤ w ∧ w < 60) (hp : 0 ≤ p ∧ p < 40) (hm : 0 ≤ σ 17 w ∧ σ 17 w < 1099511627776) : Met l yX7_uses wsX7_uses rmX7_uses (kPc D (tysG G) 189 ad (CE G ad σ τ) [.ref (ad (69 + w.toNat)), .int (iI p)]) (kQi D 189 ad (fun z E' => z = bI (isOn σ w p) ∧ E' = CE G ad σ τ)) 0 0 (kA 189 ad) := by
  refine k_met (cc := cX7_uses) (maxL := 2) (ret := (some .boolean)) (by decide) (Nat.le_of_ble_eq_true rfl) ?_
  intro P0 e0 s m0 below meth c0 ls hx hb hr hlocks hml hown hts hK hP hS hl
  replace hl : lv_has ls 2 [(0, _), (1, _)] := hl
  replace hown : s.vm.findClass RX7 = some m0.cls := hown
  refine k_abs (fun Wg hWg => ?_)
  have h1 : (σ 17 w).toNat < 2 ^ 63 := by omega
  have h2 : 2 ^ p.toNat < 2 ^ 63 := Nat.pow_lt_pow_right (by decide) (by omega)
  refine lv_aload_n hx hb dX7_uses_0 rfl (lv_at hl 0 rfl) ?_
  refine r_get (C := RX7) (T := TX7) (N := 16) (ci := 7) hx hb hts hi_X7 hown hK hP 3 rfl (by decide) lk_X7_31 (fun _ h9 => h9) dX7_uses_1 (by omega) (CE_w (by omega)) rfl ?_
  refine r_lconst1 hx hb dX7_uses_4 ?_
  refine lv_iload_n hx hb dX7_uses_5 rfl (lv_at hl 1 rfl) ?_
  refine r_lshl1 hx hb dX7_uses_6 (by omega) ?_
  refine r_land hx hb dX7_uses_7 (by omega) (by omega) ?_
  refine r_lconst0 hx hb dX7_uses_8 ?_
  refine r_lcmp hx hb dX7_uses_9 (Nat.lt_of_le_of_lt Nat.and_le_left h1) (by decide) ?_
  refine r_if_eq (tgt := 17) hx hb (cmpN_r _ _) dX7_uses_10 (by decide) (fun c10 => ?_) (fun c10 => ?_)
  · refine r_const hx hb dX7_uses_17 ?_
    exact k_zret hx hb hr hlocks hP hS dX7_uses_18 (by omega) ⟨(bI_f (tb_and.mp (cmpN_0.mp c10))).symm, rfl⟩
  · refine r_const hx hb dX7_uses_13 ?_
    refine lv_goto (tgt := 18) hx hb dX7_uses_14 (by decide) ?_
    exact k_zret hx hb hr hlocks hP hS dX7_uses_18 (by omega) ⟨(bI_t (Classical.not_not.mp (fun q => c10 (cmpN_0.mpr (tb_and.mpr q))))).symm, rfl⟩
abbrev rmX7_isOpen : Room := { frames := 0, cells := 0, slots := 0, locals := 0 }
set_option maxRecDepth 100000 in
set_option maxHeartbeats 4000000 in
theorem c_X7_isOpen {l : Launch} {D : va_G} {G : Nat → ClassId} {ad : Nat → Nat} {σ τ : Tb} (hi : kInj 189 ad) {w : Int} (hw : 0 ≤ w ∧ w < 60) (hm : 0 ≤ σ 19 w ∧ σ 19 w ≤ 4) : Met l yX7_isOpen wsX7_isOpen rmX7_isOpen (kPc D (tysG G) 189 ad (CE G ad σ τ) [.ref (ad (69 + w.toNat))]) (kQi D 189 ad (fun z E' => z = bI (σ 19 w = 0 ∨ σ 19 w = 1) ∧ E' = CE G ad σ τ)) 0 0 (kA 189 ad) := by
  refine k_met (cc := cX7_isOpen) (maxL := 1) (ret := (some .boolean)) (by decide) (Nat.le_of_ble_eq_true rfl) ?_
  intro P0 e0 s m0 below meth c0 ls hx hb hr hlocks hml hown hts hK hP hS hl
  replace hl : lv_has ls 1 [(0, _)] := hl
  replace hown : s.vm.findClass RX7 = some m0.cls := hown
  refine k_abs (fun Wg hWg => ?_)
  refine lv_aload_n hx hb dX7_isOpen_0 rfl (lv_at hl 0 rfl) ?_
  refine r_get (C := RX7) (T := TX7) (N := 16) (ci := 7) hx hb hts hi_X7 hown hK hP 10 rfl (by decide) lk_X7_35 (fun _ h9 => h9) dX7_isOpen_1 (by omega) (CE_w (by omega)) rfl ?_
  refine r_if_eq (tgt := 15) hx hb (by omega) dX7_isOpen_4 (by decide) (fun c4 => ?_) (fun c4 => ?_)
  · refine r_const hx hb dX7_isOpen_15 ?_
    refine lv_goto (tgt := 20) hx hb dX7_isOpen_16 (by decide) ?_
    exact k_zret hx hb hr hlocks hP hS dX7_isOpen_20 (by omega) ⟨(bI_t (by omega)).symm, rfl⟩
  · refine lv_aload_n hx hb dX7_isOpen_7 rfl (lv_at hl 0 rfl) ?_
    refine r_get (C := RX7) (T := TX7) (N := 16) (ci := 7) hx hb hts hi_X7 hown hK hP 10 rfl (by decide) lk_X7_35 (fun _ h9 => h9) dX7_isOpen_8 (by omega) (CE_w (by omega)) rfl ?_
    refine r_const hx hb dX7_isOpen_11 ?_
    refine r_icmp_ne (tgt := 19) hx hb (by omega) (by omega) dX7_isOpen_12 (by decide) (fun c12 => ?_) (fun c12 => ?_)
    · refine r_const hx hb dX7_isOpen_19 ?_
      exact k_zret hx hb hr hlocks hP hS dX7_isOpen_20 (by omega) ⟨(bI_f (by omega)).symm, rfl⟩
    · refine r_const hx hb dX7_isOpen_15 ?_
      refine lv_goto (tgt := 20) hx hb dX7_isOpen_16 (by decide) ?_
      exact k_zret hx hb hr hlocks hP hS dX7_isOpen_20 (by omega) ⟨(bI_t (by omega)).symm, rfl⟩
abbrev rmX7_stands : Room := { frames := 0, cells := 0, slots := 0, locals := 0 }
set_option maxRecDepth 100000 in
set_option maxHeartbeats 4000000 in
theorem c_X7_stands {l : Launch} {D : va_G} {G : Nat → ClassId} {ad : Nat → Nat} {σ τ : Tb} (hi : kInj 189 ad) {w : Int} (hw : 0 ≤ w ∧ w < 60) (hm : 0 ≤ σ 19 w ∧ σ 19 w ≤ 4) : Met l yX7_stands wsX7_stands rmX7_stands (kPc D (tysG G) 189 ad (CE G ad σ τ) [.ref (ad (69 + w.toNat))]) (kQi D 189 ad (fun z E' => z = bI (hasD σ w) ∧ E' = CE G ad σ τ)) 0 0 (kA 189 ad) := by
  refine k_met (cc := cX7_stands) (maxL := 1) (ret := (some .boolean)) (by decide) (Nat.le_of_ble_eq_true rfl) ?_
  intro P0 e0 s m0 below meth c0 ls hx hb hr hlocks hml hown hts hK hP hS hl
  replace hl : lv_has ls 1 [(0, _)] := hl
  replace hown : s.vm.findClass RX7 = some m0.cls := hown
  refine k_abs (fun Wg hWg => ?_)
  refine lv_aload_n hx hb dX7_stands_0 rfl (lv_at hl 0 rfl) ?_
  refine r_get (C := RX7) (T := TX7) (N := 16) (ci := 7) hx hb hts hi_X7 hown hK hP 10 rfl (by decide) lk_X7_35 (fun _ h9 => h9) dX7_stands_1 (by omega) (CE_w (by omega)) rfl ?_
  refine r_const hx hb dX7_stands_4 ?_
  refine r_icmp_eq (tgt := 24) hx hb (by omega) (by omega) dX7_stands_5 (by decide) (fun c5 => ?_) (fun c5 => ?_)
  · refine r_const hx hb dX7_stands_24 ?_
    refine lv_goto (tgt := 29) hx hb dX7_stands_25 (by decide) ?_
    exact k_zret hx hb hr hlocks hP hS dX7_stands_29 (by omega) ⟨(bI_t (by unfold hasD; omega)).symm, rfl⟩
  · refine lv_aload_n hx hb dX7_stands_8 rfl (lv_at hl 0 rfl) ?_
    refine r_get (C := RX7) (T := TX7) (N := 16) (ci := 7) hx hb hts hi_X7 hown hK hP 10 rfl (by decide) lk_X7_35 (fun _ h9 => h9) dX7_stands_9 (by omega) (CE_w (by omega)) rfl ?_
    refine r_const hx hb dX7_stands_12 ?_
    refine r_icmp_eq (tgt := 24) hx hb (by omega) (by omega) dX7_stands_13 (by decide) (fun c13 => ?_) (fun c13 => ?_)
    · refine r_const hx hb dX7_stands_24 ?_
      refine lv_goto (tgt := 29) hx hb dX7_stands_25 (by decide) ?_
      exact k_zret hx hb hr hlocks hP hS dX7_stands_29 (by omega) ⟨(bI_t (by unfold hasD; omega)).symm, rfl⟩
    · refine lv_aload_n hx hb dX7_stands_16 rfl (lv_at hl 0 rfl) ?_
      refine r_get (C := RX7) (T := TX7) (N := 16) (ci := 7) hx hb hts hi_X7 hown hK hP 10 rfl (by decide) lk_X7_35 (fun _ h9 => h9) dX7_stands_17 (by omega) (CE_w (by omega)) rfl ?_
      refine r_const hx hb dX7_stands_20 ?_
      refine r_icmp_ne (tgt := 28) hx hb (by omega) (by omega) dX7_stands_21 (by decide) (fun c21 => ?_) (fun c21 => ?_)
      · refine r_const hx hb dX7_stands_28 ?_
        exact k_zret hx hb hr hlocks hP hS dX7_stands_29 (by omega) ⟨(bI_f (by unfold hasD; omega)).symm, rfl⟩
      · refine r_const hx hb dX7_stands_24 ?_
        refine lv_goto (tgt := 29) hx hb dX7_stands_25 (by decide) ?_
        exact k_zret hx hb hr hlocks hP hS dX7_stands_29 (by omega) ⟨(bI_t (by unfold hasD; omega)).symm, rfl⟩
abbrev rmX7_canBeJoined : Room := { frames := 1, cells := 0, slots := 0, locals := 20 }
set_option maxRecDepth 100000 in
set_option maxHeartbeats 4000000 in
theorem c_X7_canBeJoined {l : Launch} {D : va_G} {G : Nat → ClassId} {ad : Nat → Nat} {σ τ : Tb} (hi : kInj 189 ad) {w : Int} (hw : 0 ≤ w ∧ w < 60) (hm : 0 ≤ σ 19 w ∧ σ 19 w ≤ 4) (hs : 0 ≤ σ 12 w ∧ σ 12 w ≤ 3) (hj : -1 ≤ σ 23 w ∧ σ 23 w < 60) : Met l yX7_canBeJoined wsX7_canBeJoined rmX7_canBeJoined (kPc D (tysG G) 189 ad (CE G ad σ τ) [.ref (ad (69 + w.toNat))]) (kQi D 189 ad (fun z E' => z = bI (σ 12 w = 1 ∧ (σ 19 w = 0 ∨ σ 19 w = 1) ∧ σ 23 w < 0) ∧ E' = CE G ad σ τ)) 0 0 (kA 189 ad) := by
  refine k_met (cc := cX7_canBeJoined) (maxL := 1) (ret := (some .boolean)) (by decide) (Nat.le_of_ble_eq_true rfl) ?_
  intro P0 e0 s m0 below meth c0 ls hx hb hr hlocks hml hown hts hK hP hS hl
  replace hl : lv_has ls 1 [(0, _)] := hl
  replace hown : s.vm.findClass RX7 = some m0.cls := hown
  refine k_abs (fun Wg hWg => ?_)
  refine lv_aload_n hx hb dX7_canBeJoined_0 rfl (lv_at hl 0 rfl) ?_
  refine r_get (C := RX7) (T := TX7) (N := 16) (ci := 7) hx hb hts hi_X7 hown hK hP 5 rfl (by decide) lk_X7_38 (fun _ h9 => h9) dX7_canBeJoined_1 (by omega) (CE_w (by omega)) rfl ?_
  refine r_const hx hb dX7_canBeJoined_4 ?_
  refine r_icmp_ne (tgt := 26) hx hb (by omega) (by omega) dX7_canBeJoined_5 (by decide) (fun c5 => ?_) (fun c5 => ?_)
  · refine r_const hx hb dX7_canBeJoined_26 ?_
    exact k_zret hx hb hr hlocks hP hS dX7_canBeJoined_27 (by omega) ⟨(bI_f (by omega)).symm, rfl⟩
  · refine lv_aload_n hx hb dX7_canBeJoined_8 rfl (lv_at hl 0 rfl) ?_
    refine k_calliV (nL := 1) (C := RX7) (T := TX7) (N := 16) (ci := 7) hx hb hml hown hts hK hP hS hl.1 (c_X7_isOpen hi hw hm) rfl (Nat.le_of_ble_eq_true rfl) rfl (cwV 0 hts (gV lm_X7_41 ti_X7_isOpen tl_X7_isOpen tn_X7 tc_X7_isOpen) rfl rfl rfl (by decide +kernel) ⟨Nat.le_of_ble_eq_true rfl, Nat.le_of_ble_eq_true rfl⟩) rfl dX7_canBeJoined_9 ⟨Nat.zero_le _, Nat.zero_le _⟩ (by omega) (CE_w (by omega)) (fun r9 E1 H locs hq hP hS => ?_)
    obtain ⟨rfl, rfl⟩ := hq
    refine r_ifB_eq (tgt := 26) hx hb dX7_canBeJoined_12 (by decide) (fun c12 => ?_) (fun c12 => ?_)
    · refine r_const hx hb dX7_canBeJoined_26 ?_
      exact k_zret hx hb hr hlocks hP hS dX7_canBeJoined_27 (by omega) ⟨(bI_f (by omega)).symm, rfl⟩
    · refine lv_aload_n hx hb dX7_canBeJoined_15 rfl (lv_at hl 0 rfl) ?_
      refine r_get (C := RX7) (T := TX7) (N := 16) (ci := 7) hx hb hts hi_X7 hown hK hP 14 rfl (by decide) lk_X7_25 (fun _ h9 => h9) dX7_canBeJoined_16 (by omega) (CE_w (by omega)) rfl ?_
      refine r_if_ge (tgt := 26) hx hb (by omega) dX7_canBeJoined_19 (by decide) (fun c19 => ?_) (fun c19 => ?_)
      · refine r_const hx hb dX7_canBeJoined_26 ?_
        exact k_zret hx hb hr hlocks hP hS dX7_canBeJoined_27 (by omega) ⟨(bI_f (by omega)).symm, rfl⟩
      · refine r_const hx hb dX7_canBeJoined_22 ?_
        refine lv_goto (tgt := 27) hx hb dX7_canBeJoined_23 (by decide) ?_
        exact k_zret hx hb hr hlocks hP hS dX7_canBeJoined_27 (by omega) ⟨(bI_t (by omega)).symm, rfl⟩
abbrev rmX7_isBookedOn : Room := { frames := 1, cells := 0, slots := 0, locals := 21 }
set_option maxRecDepth 100000 in
set_option maxHeartbeats 4000000 in
theorem c_X7_isBookedOn {l : Launch} {D : va_G} {G : Nat → ClassId} {ad : Nat → Nat} {σ τ : Tb} (hi : kInj 189 ad) {w p : Int} (hw : 0 ≤ w ∧ w < 60) (hp : 0 ≤ p ∧ p < 40) (hm : 0 ≤ σ 17 w ∧ σ 17 w < 1099511627776) (hs : 0 ≤ σ 19 w ∧ σ 19 w ≤ 4) : Met l yX7_isBookedOn wsX7_isBookedOn rmX7_isBookedOn (kPc D (tysG G) 189 ad (CE G ad σ τ) [.ref (ad (69 + w.toNat)), .int (iI p)]) (kQi D 189 ad (fun z E' => z = bI ((σ 19 w = 2 ∨ σ 19 w = 3) ∧ isOn σ w p) ∧ E' = CE G ad σ τ)) 0 0 (kA 189 ad) := by
  refine k_met (cc := cX7_isBookedOn) (maxL := 2) (ret := (some .boolean)) (by decide) (Nat.le_of_ble_eq_true rfl) ?_
  intro P0 e0 s m0 below meth c0 ls hx hb hr hlocks hml hown hts hK hP hS hl
  replace hl : lv_has ls 2 [(0, _), (1, _)] := hl
  replace hown : s.vm.findClass RX7 = some m0.cls := hown
  refine k_abs (fun Wg hWg => ?_)
  have join16 : ∀  (H : Heap) (locs : List Loc) (ls : Array Slot), va_P D vwCl (kw 189 ad (CE G ad σ τ)) H → va_S (kA 189 ad) s.heap H locs → lv_has ls 2 [(0, .ref (ad (69 + w.toNat))), (1, .int (iI p))] → (σ 19 w = 2 ∨ σ 19 w = 3) → Wg H locs (F0 m0 16 ls []) := by
    intro  H locs ls hP hS hl hv16
    rw [hWg]
    refine lv_aload_n hx hb dX7_isBookedOn_16 rfl (lv_at hl 0 rfl) ?_
    refine lv_iload_n hx hb dX7_isBookedOn_17 rfl (lv_at hl 1 rfl) ?_
    refine k_calliV (nL := 2) (C := RX7) (T := TX7) (N := 16) (ci := 7) hx hb hml hown hts hK hP hS hl.1 (c_X7_uses hi hw hp hm) rfl (Nat.le_of_ble_eq_true rfl) rfl (cwV 1 hts (gV lm_X7_45 ti_X7_uses tl_X7_uses tn_X7 tc_X7_uses) rfl rfl rfl (by decide +kernel) ⟨Nat.le_of_ble_eq_true rfl, Nat.le_of_ble_eq_true rfl⟩) rfl dX7_isBookedOn_18 ⟨Nat.zero_le _, Nat.zero_le _⟩ (by omega) (CE_w (by omega)) (fun r18 E1 H locs hq hP hS => ?_)
    obtain ⟨rfl, rfl⟩ := hq
    refine r_ifB_eq (tgt := 28) hx hb dX7_isBookedOn_21 (by decide) (fun c21 => ?_) (fun c21 => ?_)
    · refine r_const hx hb dX7_isBookedOn_28 ?_
      exact k_zret hx hb hr hlocks hP hS dX7_isBookedOn_29 (by omega) ⟨(bI_f (fun q => c21 q.2)).symm, rfl⟩
    · refine r_const hx hb dX7_isBookedOn_24 ?_
      refine lv_goto (tgt := 29) hx hb dX7_isBookedOn_25 (by decide) ?_
      exact k_zret hx hb hr hlocks hP hS dX7_isBookedOn_29 (by omega) ⟨(bI_t ⟨hv16, c21⟩).symm, rfl⟩
  refine lv_aload_n hx hb dX7_isBookedOn_0 rfl (lv_at hl 0 rfl) ?_
  refine r_get (C := RX7) (T := TX7) (N := 16) (ci := 7) hx hb hts hi_X7 hown hK hP 10 rfl (by decide) lk_X7_35 (fun _ h9 => h9) dX7_isBookedOn_1 (by omega) (CE_w (by omega)) rfl ?_
  refine r_const hx hb dX7_isBookedOn_4 ?_
  refine r_icmp_eq (tgt := 16) hx hb (by omega) (by omega) dX7_isBookedOn_5 (by decide) (fun c5 => ?_) (fun c5 => ?_)
  · rw [← hWg]
    exact join16  _ _ _ hP hS hl (by omega)
  · refine lv_aload_n hx hb dX7_isBookedOn_8 rfl (lv_at hl 0 rfl) ?_
    refine r_get (C := RX7) (T := TX7) (N := 16) (ci := 7) hx hb hts hi_X7 hown hK hP 10 rfl (by decide) lk_X7_35 (fun _ h9 => h9) dX7_isBookedOn_9 (by omega) (CE_w (by omega)) rfl ?_
    refine r_const hx hb dX7_isBookedOn_12 ?_
    refine r_icmp_ne (tgt := 28) hx hb (by omega) (by omega) dX7_isBookedOn_13 (by decide) (fun c13 => ?_) (fun c13 => ?_)
    · refine r_const hx hb dX7_isBookedOn_28 ?_
      exact k_zret hx hb hr hlocks hP hS dX7_isBookedOn_29 (by omega) ⟨(bI_f (by omega)).symm, rfl⟩
    · rw [← hWg]
      exact join16  _ _ _ hP hS hl (by omega)
abbrev rmX7_lastFrom : Room := { frames := 1, cells := 0, slots := 0, locals := 21 }
set_option maxRecDepth 100000 in
set_option maxHeartbeats 4000000 in
theorem c_X7_lastFrom {l : Launch} {D : va_G} {G : Nat → ClassId} {ad : Nat → Nat} {σ τ : Tb} (hi : kInj 189 ad) {w d : Int} (hw : 0 ≤ w ∧ w < 60) (hd : -1000 ≤ d ∧ d < 1000) (hm : 0 ≤ σ 14 w ∧ σ 14 w ≤ 30) : Met l yX7_lastFrom wsX7_lastFrom rmX7_lastFrom (kPc D (tysG G) 189 ad (CE G ad σ τ) [.ref (ad (69 + w.toNat)), .int (iI d)]) (kQi D 189 ad (fun z E' => z = lstF σ w d ∧ E' = CE G ad σ τ)) 0 0 (kA 189 ad) := by
  refine k_met (cc := cX7_lastFrom) (maxL := 2) (ret := (some .int)) (by decide) (Nat.le_of_ble_eq_true rfl) ?_
  intro P0 e0 s m0 below meth c0 ls hx hb hr hlocks hml hown hts hK hP hS hl
  replace hl : lv_has ls 2 [(0, _), (1, _)] := hl
  replace hown : s.vm.findClass RX7 = some m0.cls := hown
  refine k_abs (fun Wg hWg => ?_)
  refine r_sipush hx hb dX7_lastFrom_0 (by decide +kernel) ?_
  refine lv_iload_n hx hb dX7_lastFrom_3 rfl (lv_at hl 1 rfl) ?_
  refine lv_aload_n hx hb dX7_lastFrom_4 rfl (lv_at hl 0 rfl) ?_
  refine r_get (C := RX7) (T := TX7) (N := 16) (ci := 7) hx hb hts hi_X7 hown hK hP 7 rfl (by decide) lk_X7_49 (fun _ h9 => h9) dX7_lastFrom_5 (by omega) (CE_w (by omega)) rfl ?_
  refine r_add hx hb dX7_lastFrom_8 ?_
  refine r_const hx hb dX7_lastFrom_9 ?_
  refine r_sub hx hb dX7_lastFrom_10 ?_
  refine r_mmin hx hb hml hl.1 hown hts mm_X7_52 (Nat.le_of_ble_eq_true rfl) (Nat.le_of_ble_eq_true rfl) ⟨Nat.zero_le _, Nat.zero_le _⟩ (by omega) (by omega) dX7_lastFrom_11 ?_
  exact k_iret hx hb hr hlocks hP hS dX7_lastFrom_14 ⟨rfl, rfl⟩
abbrev rmX7_placeAt : Room := { frames := 2, cells := 0, slots := 0, locals := 42 }
set_option maxRecDepth 100000 in
set_option maxHeartbeats 4000000 in
theorem c_X7_placeAt {l : Launch} {D : va_G} {G : Nat → ClassId} {ad : Nat → Nat} {σ τ : Tb} (hi : kInj 189 ad) {w d : Int} (hw : 0 ≤ w ∧ w < 60) (hd : -1000 ≤ d ∧ d < 1000) (hm : 0 ≤ σ 14 w ∧ σ 14 w ≤ 30) : Met l yX7_placeAt wsX7_placeAt rmX7_placeAt (kPc D (tysG G) 189 ad (CE G ad σ τ) [.ref (ad (69 + w.toNat)), .int (iI d)]) (kQv D 189 ad (fun E' => E' = CE G ad (up (up σ 20 w d) 21 w (lstF σ w d)) τ)) 0 0 (kA 189 ad) := by
  refine k_met (cc := cX7_placeAt) (maxL := 2) (ret := none) (by decide) (Nat.le_of_ble_eq_true rfl) ?_
  intro P0 e0 s m0 below meth c0 ls hx hb hr hlocks hml hown hts hK hP hS hl
  replace hl : lv_has ls 2 [(0, _), (1, _)] := hl
  replace hown : s.vm.findClass RX7 = some m0.cls := hown
  refine k_abs (fun Wg hWg => ?_)
  refine lv_aload_n hx hb dX7_placeAt_0 rfl (lv_at hl 0 rfl) ?_
  refine lv_iload_n hx hb dX7_placeAt_1 rfl (lv_at hl 1 rfl) ?_
  refine r_put (C := RX7) (T := TX7) (N := 16) (ci := 7) hx hb hi hts hi_X7 tyX7 tyX7_ok nmX7 hown hK hP hS 11 rfl (by decide) lk_X7_19 (fun _ h9 => h9) rfl (ty := .int) (by decide +kernel) rfl rfl dX7_placeAt_2 (by omega) (CE_w (by omega)) (Nat.le_of_ble_eq_true rfl) (cu_w_begin (by omega)) (fun H locs hP hS => ?_)
  refine lv_aload_n hx hb dX7_placeAt_5 rfl (lv_at hl 0 rfl) ?_
  refine lv_aload_n hx hb dX7_placeAt_6 rfl (lv_at hl 0 rfl) ?_
  refine lv_iload_n hx hb dX7_placeAt_7 rfl (lv_at hl 1 rfl) ?_
  refine k_calliV (nL := 2) (C := RX7) (T := TX7) (N := 16) (ci := 7) hx hb hml hown hts hK hP hS hl.1 (c_X7_lastFrom hi hw hd (by simpa [up] using hm)) rfl (Nat.le_of_ble_eq_true rfl) rfl (cwV 1 hts (gV lm_X7_58 ti_X7_lastFrom tl_X7_lastFrom tn_X7 tc_X7_lastFrom) rfl rfl rfl (by decide +kernel) ⟨Nat.le_of_ble_eq_true rfl, Nat.le_of_ble_eq_true rfl⟩) rfl dX7_placeAt_8 ⟨Nat.zero_le _, Nat.zero_le _⟩ (by omega) (CE_w (by omega)) (fun r8 E1 H locs hq hP hS => ?_)
  obtain ⟨rfl, rfl⟩ := hq
  refine r_put (C := RX7) (T := TX7) (N := 16) (ci := 7) hx hb hi hts hi_X7 tyX7 tyX7_ok nmX7 hown hK hP hS 12 rfl (by decide) lk_X7_22 (fun _ h9 => h9) rfl (ty := .int) (by decide +kernel) rfl rfl dX7_placeAt_11 (by omega) (CE_w (by omega)) (Nat.le_of_ble_eq_true rfl) (cu_w_last (by omega)) (fun H locs hP hS => ?_)
  exact k_vret hx hb hr hlocks hP hS dX7_placeAt_14 (by simp [lstF, up])
abbrev rmX7_notice : Room := { frames := 0, cells := 0, slots := 0, locals := 0 }
set_option maxRecDepth 100000 in
set_option maxHeartbeats 4000000 in
theorem c_X7_notice {l : Launch} {D : va_G} {G : Nat → ClassId} {ad : Nat → Nat} {σ τ : Tb} (hi : kInj 189 ad) {w : Int} (hw : 0 ≤ w ∧ w < 60) (hs : 0 ≤ σ 12 w ∧ σ 12 w ≤ 3) : Met l yX7_notice wsX7_notice rmX7_notice (kPc D (tysG G) 189 ad (CE G ad σ τ) [.ref (ad (69 + w.toNat))]) (kQi D 189 ad (fun z E' => z = ntcC σ w ∧ E' = CE G ad σ τ)) 0 0 (kA 189 ad) := by
  refine k_met (cc := cX7_notice) (maxL := 1) (ret := (some .int)) (by decide) (Nat.le_of_ble_eq_true rfl) ?_
  intro P0 e0 s m0 below meth c0 ls hx hb hr hlocks hml hown hts hK hP hS hl
  replace hl : lv_has ls 1 [(0, _)] := hl
  replace hown : s.vm.findClass RX7 = some m0.cls := hown
  refine k_abs (fun Wg hWg => ?_)
  refine lv_aload_n hx hb dX7_notice_0 rfl (lv_at hl 0 rfl) ?_
  refine r_get (C := RX7) (T := TX7) (N := 16) (ci := 7) hx hb hts hi_X7 hown hK hP 5 rfl (by decide) lk_X7_38 (fun _ h9 => h9) dX7_notice_1 (by omega) (CE_w (by omega)) rfl ?_
  refine r_if_ne (tgt := 11) hx hb (by omega) dX7_notice_4 (by decide) (fun c4 => ?_) (fun c4 => ?_)
  · refine lv_aload_n hx hb dX7_notice_11 rfl (lv_at hl 0 rfl) ?_
    refine r_get (C := RX7) (T := TX7) (N := 16) (ci := 7) hx hb hts hi_X7 hown hK hP 5 rfl (by decide) lk_X7_38 (fun _ h9 => h9) dX7_notice_12 (by omega) (CE_w (by omega)) rfl ?_
    refine r_const hx hb dX7_notice_15 ?_
    refine r_icmp_ne (tgt := 24) hx hb (by omega) (by omega) dX7_notice_16 (by decide) (fun c16 => ?_) (fun c16 => ?_)
    · refine r_const hx hb dX7_notice_24 ?_
      exact k_iret hx hb hr hlocks hP hS dX7_notice_25 ⟨by rw [ntcC, cif_f c4, cif_f c16], rfl⟩
    · refine r_bipush hx hb dX7_notice_19 (by decide +kernel) ?_
      refine lv_goto (tgt := 25) hx hb dX7_notice_21 (by decide) ?_
      exact k_iret hx hb hr hlocks hP hS dX7_notice_25 ⟨by rw [ntcC, cif_f c4, cif_t c16], rfl⟩
  · refine r_const hx hb dX7_notice_7 ?_
    refine lv_goto (tgt := 25) hx hb dX7_notice_8 (by decide) ?_
    exact k_iret hx hb hr hlocks hP hS dX7_notice_25 ⟨by rw [ntcC, cif_t c4], rfl⟩
abbrev rmX7_delay : Room := { frames := 0, cells := 0, slots := 0, locals := 0 }
set_option maxRecDepth 100000 in
set_option maxHeartbeats 4000000 in
theorem c_X7_delay {l : Launch} {D : va_G} {G : Nat → ClassId} {ad : Nat → Nat} {σ τ : Tb} (hi : kInj 189 ad) {w : Int} (hw : 0 ≤ w ∧ w < 60) (hb1 : -1000 ≤ σ 20 w ∧ σ 20 w ≤ 1000) (hb2 : -1000 ≤ σ 16 w ∧ σ 16 w ≤ 1000) : Met l yX7_delay wsX7_delay rmX7_delay (kPc D (tysG G) 189 ad (CE G ad σ τ) [.ref (ad (69 + w.toNat))]) (kQi D 189 ad (fun z E' => z = dlyC σ w ∧ E' = CE G ad σ τ)) 0 0 (kA 189 ad) := by
  refine k_met (cc := cX7_delay) (maxL := 1) (ret := (some .int)) (by decide) (Nat.le_of_ble_eq_true rfl) ?_
  intro P0 e0 s m0 below meth c0 ls hx hb hr hlocks hml hown hts hK hP hS hl
  replace hl : lv_has ls 1 [(0, _)] := hl
  replace hown : s.vm.findClass RX7 = some m0.cls := hown
  refine k_abs (fun Wg hWg => ?_)
  refine lv_aload_n hx hb dX7_delay_0 rfl (lv_at hl 0 rfl) ?_
  refine r_get (C := RX7) (T := TX7) (N := 16) (ci := 7) hx hb hts hi_X7 hown hK hP 11 rfl (by decide) lk_X7_19 (fun _ h9 => h9) dX7_delay_1 (by omega) (CE_w (by omega)) rfl ?_
  refine lv_aload_n hx hb dX7_delay_4 rfl (lv_at hl 0 rfl) ?_
  refine r_get (C := RX7) (T := TX7) (N := 16) (ci := 7) hx hb hts hi_X7 hown hK hP 9 rfl (by decide) lk_X7_62 (fun _ h9 => h9) dX7_delay_5 (by omega) (CE_w (by omega)) rfl ?_
  refine r_icmp_le (tgt := 28) hx hb (by omega) (by omega) dX7_delay_8 (by decide) (fun c8 => ?_) (fun c8 => ?_)
  · refine r_const hx hb dX7_delay_28 ?_
    exact k_iret hx hb hr hlocks hP hS dX7_delay_29 ⟨by rw [dlyC, cif_f (by omega)], rfl⟩
  · refine lv_aload_n hx hb dX7_delay_11 rfl (lv_at hl 0 rfl) ?_
    refine r_get (C := RX7) (T := TX7) (N := 16) (ci := 7) hx hb hts hi_X7 hown hK hP 11 rfl (by decide) lk_X7_19 (fun _ h9 => h9) dX7_delay_12 (by omega) (CE_w (by omega)) rfl ?_
    refine lv_aload_n hx hb dX7_delay_15 rfl (lv_at hl 0 rfl) ?_
    refine r_get (C := RX7) (T := TX7) (N := 16) (ci := 7) hx hb hts hi_X7 hown hK hP 9 rfl (by decide) lk_X7_62 (fun _ h9 => h9) dX7_delay_16 (by omega) (CE_w (by omega)) rfl ?_
    refine r_sub hx hb dX7_delay_19 ?_
    refine lv_aload_n hx hb dX7_delay_20 rfl (lv_at hl 0 rfl) ?_
    refine r_get (C := RX7) (T := TX7) (N := 16) (ci := 7) hx hb hts hi_X7 hown hK hP 6 rfl (by decide) lk_X7_65 (fun _ h9 => h9) dX7_delay_21 (by omega) (CE_w (by omega)) rfl ?_
    refine r_mul hx hb dX7_delay_24 ?_
    refine lv_goto (tgt := 29) hx hb dX7_delay_25 (by decide) ?_
    exact k_iret hx hb hr hlocks hP hS dX7_delay_29 ⟨by rw [dlyC, cif_t (by omega)], rfl⟩

