/-! ===== the system's rules ===== -/
theorem IQ_0 {σ : Tb} (h : Inv σ) {w : Int} (hw : 0 ≤ w ∧ w < σ 0 2) : (1 ≤ σ 18 w ∧ σ 18 w ≤ 4) ∧ (0 ≤ σ 17 w ∧ σ 17 w < 1099511627776) ∧ (0 ≤ σ 25 w ∧ σ 25 w < σ 0 0) := by
  obtain ⟨_, ⟨h1, h2, h3, _⟩, _⟩ := Inv_w h hw
  have := (h3 0 (by omega) (by omega)).1
  have e : PQ σ w 0 = σ 25 w := rfl
  rw [e] at this
  exact ⟨h2, h1, this⟩
theorem IQ_k {σ : Tb} (h : Inv σ) {w k : Int} (hw : 0 ≤ w ∧ w < σ 0 2) (hk : 0 ≤ k ∧ k < σ 18 w) : (0 ≤ PQ σ w k ∧ PQ σ w k < σ 0 0) ∧ isOn σ w (PQ σ w k) := by
  obtain ⟨_, ⟨h1, h2, h3, _⟩, _⟩ := Inv_w h hw
  exact h3 k hk.1 hk.2
theorem IQ_lt {σ : Tb} (h : Inv σ) {w j k : Int} (hw : 0 ≤ w ∧ w < σ 0 2) (hk : 0 ≤ j ∧ j < k ∧ k < σ 18 w) : PQ σ w j < PQ σ w k := by
  obtain ⟨_, ⟨h1, h2, h3, h4, _⟩, _⟩ := Inv_w h hw
  exact h4 j k hk.1 hk.2.1 hk.2.2
theorem IQ_p {σ : Tb} (h : Inv σ) {w p : Int} (hw : 0 ≤ w ∧ w < σ 0 2) (hp : 0 ≤ p) (ho : isOn σ w p) : (0 ≤ p ∧ p < σ 0 0) ∧ ∃ k, 0 ≤ k ∧ k < σ 18 w ∧ PQ σ w k = p := by
  obtain ⟨k, k1, k2, k3⟩ := (IQ_on h hw hp).mpr ho
  have := (IQ_k h hw ⟨k1, k2⟩).1
  exact ⟨by omega, k, k1, k2, k3⟩
abbrev rmX3_found : Room := { frames := 0, cells := 0, slots := 0, locals := 0 }
set_option maxRecDepth 100000 in
set_option maxHeartbeats 4000000 in
theorem c_X3_found {l : Launch} {D : va_G} {G : Nat → ClassId} {ad : Nat → Nat} {σ τ : Tb} (hi : kInj 189 ad) {a b : Int} : Met l yX3_found wsX3_found rmX3_found (kPc D (tysG G) 189 ad (CE G ad σ τ) [.ref (ad 4), .int (iI a), .int (iI b)]) (kQi D 189 ad (fun z E' => z = 1 ∧ E' = CE G ad σ (up (up τ 2 2 a) 2 3 b))) 0 0 (kA 189 ad) := by
  refine k_met (cc := cX3_found) (maxL := 3) (ret := (some .boolean)) (by decide) (Nat.le_of_ble_eq_true rfl) ?_
  intro P0 e0 s m0 below meth c0 ls hx hb hr hlocks hml hown hts hK hP hS hl
  replace hl : lv_has ls 3 [(0, _), (1, _), (2, _)] := hl
  replace hown : s.vm.findClass RX3 = some m0.cls := hown
  refine k_abs (fun Wg hWg => ?_)
  refine lv_aload_n hx hb dX3_found_0 rfl (lv_at hl 0 rfl) ?_
  refine lv_iload_n hx hb dX3_found_1 rfl (lv_at hl 1 rfl) ?_
  refine r_put (C := RX3) (T := TX3) (N := 5) (ci := 3) hx hb hi hts hi_X3 tyX3 tyX3_ok nmX3 hown hK hP hS 3 rfl (by decide) lk_X3_70 (fun _ h9 => h9) rfl (ty := .int) (by decide +kernel) rfl rfl dX3_found_2 (by omega) CE_4 (Nat.le_of_ble_eq_true rfl) cu_foundDay (fun H locs hP hS => ?_)
  refine lv_aload_n hx hb dX3_found_5 rfl (lv_at hl 0 rfl) ?_
  refine lv_iload_n hx hb dX3_found_6 rfl (lv_at hl 2 rfl) ?_
  refine r_put (C := RX3) (T := TX3) (N := 5) (ci := 3) hx hb hi hts hi_X3 tyX3 tyX3_ok nmX3 hown hK hP hS 4 rfl (by decide) lk_X3_73 (fun _ h9 => h9) rfl (ty := .int) (by decide +kernel) rfl rfl dX3_found_7 (by omega) CE_4 (Nat.le_of_ble_eq_true rfl) cu_foundPlace (fun H locs hP hS => ?_)
  refine r_const hx hb dX3_found_10 ?_
  exact k_zret hx hb hr hlocks hP hS dX3_found_11 (by omega) ⟨rfl, rfl⟩
theorem fnd_2 {τ : Tb} {a b : Int} : up (up τ 2 2 a) 2 3 b 2 2 = a ∧ up (up τ 2 2 a) 2 3 b 2 3 = b := ⟨by rw [up_i (by decide), up_self], up_self _ _ _ _⟩
theorem fnd_F {τ τ' : Tb} {a b : Int} (h : FrF τ τ') : FrF τ (up (up τ' 2 2 a) 2 3 b) := ⟨fun t i q => by rw [up_t q, up_t q]; exact h.1 t i q, fun i q1 q2 => by rw [up_i q2, up_i q1]; exact h.2 i q1 q2⟩
abbrev rmX3_isLateNotice : Room := { frames := 1, cells := 0, slots := 0, locals := 22 }
set_option maxRecDepth 100000 in
set_option maxHeartbeats 4000000 in
theorem c_X3_isLateNotice {l : Launch} {D : va_G} {G : Nat → ClassId} {ad : Nat → Nat} {σ τ : Tb} (hi : kInj 189 ad) {w d : Int} (hI : Inv σ) (hw : 0 ≤ w ∧ w < σ 0 2) (hd : 0 ≤ d ∧ d ≤ 399) (hs : σ 12 w ≠ 2) : Met l yX3_isLateNotice wsX3_isLateNotice rmX3_isLateNotice (kPc D (tysG G) 189 ad (CE G ad σ τ) [.ref (ad 4), .ref (ad (69 + w.toNat)), .int (iI d)]) (kQi D 189 ad (fun z E' => z = bI (d < σ 0 3 + ntc σ w) ∧ ∃ τ', E' = CE G ad σ τ' ∧ (d < σ 0 3 + ntc σ w → τ' 2 2 = d ∧ τ' 2 3 = σ 25 w) ∧ FrF τ τ')) 0 0 (kA 189 ad) := by
  refine k_met (cc := cX3_isLateNotice) (maxL := 3) (ret := (some .boolean)) (by decide) (Nat.le_of_ble_eq_true rfl) ?_
  intro P0 e0 s m0 below meth c0 ls hx hb hr hlocks hml hown hts hK hP hS hl
  replace hl : lv_has ls 3 [(0, _), (1, _), (2, _)] := hl
  replace hown : s.vm.findClass RX3 = some m0.cls := hown
  refine k_abs (fun Wg hWg => ?_)
  have h0 := Inv_0 hI
  obtain ⟨hN, _, _⟩ := Inv_w hI hw
  have hq0 := IQ_0 hI hw
  unfold IN at hN
  have hn : ntcC σ w = ntc σ w ∧ 0 ≤ ntc σ w ∧ ntc σ w ≤ 30 := by
    unfold ntcC ntc
    rcases (show σ 12 w = 0 ∨ σ 12 w = 1 ∨ σ 12 w = 3 by omega) with e | e | e
    · rw [cif_t e, cif_f (by omega), cif_f (by omega)]; omega
    · rw [cif_f (by omega), cif_t e, cif_t e]; omega
    · rw [cif_f (by omega), cif_f (by omega), cif_f (by omega), cif_t e]; omega
  refine lv_iload_n hx hb dX3_isLateNotice_0 rfl (lv_at hl 2 rfl) ?_
  refine lv_aload_n hx hb dX3_isLateNotice_1 rfl (lv_at hl 0 rfl) ?_
  refine r_get (C := RX3) (T := TX3) (N := 5) (ci := 3) hx hb hts hi_X3 hown hK hP 0 rfl (by decide) lk_X3_9 (fun _ h9 => h9) dX3_isLateNotice_2 (by omega) CE_4 rfl ?_
  refine r_get (C := RX5) (T := TX5) (N := 8) (ci := 5) hx hb hts hi_X5 hown hK hP 7 rfl (by decide) lk_X3_76 (fun _ h9 => h9) dX3_isLateNotice_5 (by omega) CE_1 rfl ?_
  refine lv_aload_n hx hb dX3_isLateNotice_8 rfl (lv_at hl 1 rfl) ?_
  refine k_calliV (nL := 3) (C := RX7) (T := TX7) (N := 16) (ci := 7) hx hb hml hown hts hK hP hS hl.1 (c_X7_notice hi (by omega) (by omega)) rfl (Nat.le_of_ble_eq_true rfl) rfl (cwV 0 hts (gV lm_X3_81 ti_X7_notice tl_X7_notice tn_X7 tc_X7_notice) rfl rfl rfl (by decide +kernel) ⟨Nat.le_of_ble_eq_true rfl, Nat.le_of_ble_eq_true rfl⟩) rfl dX3_isLateNotice_9 ⟨Nat.zero_le _, Nat.zero_le _⟩ (by omega) (CE_w (by omega)) (fun r9 E1 H locs hq hP hS => ?_)
  obtain ⟨rfl, rfl⟩ := hq
  rw [hn.1]
  refine r_add hx hb dX3_isLateNotice_12 ?_
  refine r_icmp_ge (tgt := 34) hx hb (by omega) (by omega) dX3_isLateNotice_13 (by decide) (fun c13 => ?_) (fun c13 => ?_)
  · refine r_const hx hb dX3_isLateNotice_34 ?_
    exact k_zret hx hb hr hlocks hP hS dX3_isLateNotice_35 (by omega) ⟨(bI_f (by omega)).symm, τ, rfl, fun q => by omega, FrF_rf⟩
  · refine lv_aload_n hx hb dX3_isLateNotice_16 rfl (lv_at hl 0 rfl) ?_
    refine lv_iload_n hx hb dX3_isLateNotice_17 rfl (lv_at hl 2 rfl) ?_
    refine lv_aload_n hx hb dX3_isLateNotice_18 rfl (lv_at hl 1 rfl) ?_
    refine r_get (C := RX7) (T := TX7) (N := 16) (ci := 7) hx hb hts hi_X7 hown hK hP 1 rfl (by decide) lk_X3_85 (fun _ h9 => h9) dX3_isLateNotice_19 (by omega) (CE_w (by omega)) rfl ?_
    refine r_const hx hb dX3_isLateNotice_22 ?_
    refine r_iald hx hb hK hP 0 rfl dX3_isLateNotice_23 (by omega) (CE_q (by omega)) (by omega) (by omega) tQ_PQ ?_
    refine k_calliV (nL := 3) (C := RX3) (T := TX3) (N := 5) (ci := 3) hx hb hml hown hts hK hP hS hl.1 (c_X3_found hi) rfl (Nat.le_of_ble_eq_true rfl) rfl (cwV 2 hts (gV lm_X3_89 ti_X3_found tl_X3_found tn_X3 tc_X3_found) rfl rfl rfl (by decide +kernel) ⟨Nat.le_of_ble_eq_true rfl, Nat.le_of_ble_eq_true rfl⟩) rfl dX3_isLateNotice_24 ⟨Nat.zero_le _, Nat.zero_le _⟩ (by omega) CE_4 (fun r24 E1 H locs hq hP hS => ?_)
    obtain ⟨rfl, rfl⟩ := hq
    refine r_if_eq (tgt := 34) hx hb (by omega) dX3_isLateNotice_27 (by decide) (fun c27 => ?_) (fun c27 => ?_)
    · omega
    · refine r_const hx hb dX3_isLateNotice_30 ?_
      refine lv_goto (tgt := 35) hx hb dX3_isLateNotice_31 (by decide) ?_
      exact k_zret hx hb hr hlocks hP hS dX3_isLateNotice_35 (by omega) ⟨(bI_t (by omega)).symm, _, rfl, fun q => fnd_2, fnd_F FrF_rf⟩
abbrev rmX3_isPastEnd : Room := { frames := 1, cells := 0, slots := 0, locals := 22 }
set_option maxRecDepth 100000 in
set_option maxHeartbeats 4000000 in
theorem c_X3_isPastEnd {l : Launch} {D : va_G} {G : Nat → ClassId} {ad : Nat → Nat} {σ τ : Tb} (hi : kInj 189 ad) {w d : Int} (hI : Inv σ) (hw : 0 ≤ w ∧ w < σ 0 2) (hd : 0 ≤ d ∧ d ≤ 399) : Met l yX3_isPastEnd wsX3_isPastEnd rmX3_isPastEnd (kPc D (tysG G) 189 ad (CE G ad σ τ) [.ref (ad 4), .ref (ad (69 + w.toNat)), .int (iI d)]) (kQi D 189 ad (fun z E' => z = bI (399 < d + σ 14 w - 1) ∧ ∃ τ', E' = CE G ad σ τ' ∧ (399 < d + σ 14 w - 1 → τ' 2 2 = 400 ∧ τ' 2 3 = σ 25 w) ∧ FrF τ τ')) 0 0 (kA 189 ad) := by
  refine k_met (cc := cX3_isPastEnd) (maxL := 3) (ret := (some .boolean)) (by decide) (Nat.le_of_ble_eq_true rfl) ?_
  intro P0 e0 s m0 below meth c0 ls hx hb hr hlocks hml hown hts hK hP hS hl
  replace hl : lv_has ls 3 [(0, _), (1, _), (2, _)] := hl
  replace hown : s.vm.findClass RX3 = some m0.cls := hown
  refine k_abs (fun Wg hWg => ?_)
  have h0 := Inv_0 hI
  obtain ⟨hN, _, _⟩ := Inv_w hI hw
  have hq0 := IQ_0 hI hw
  unfold IN at hN
  refine lv_iload_n hx hb dX3_isPastEnd_0 rfl (lv_at hl 2 rfl) ?_
  refine lv_aload_n hx hb dX3_isPastEnd_1 rfl (lv_at hl 1 rfl) ?_
  refine r_get (C := RX7) (T := TX7) (N := 16) (ci := 7) hx hb hts hi_X7 hown hK hP 7 rfl (by decide) lk_X3_93 (fun _ h9 => h9) dX3_isPastEnd_2 (by omega) (CE_w (by omega)) rfl ?_
  refine r_add hx hb dX3_isPastEnd_5 ?_
  refine r_const hx hb dX3_isPastEnd_6 ?_
  refine r_sub hx hb dX3_isPastEnd_7 ?_
  refine r_sipush hx hb dX3_isPastEnd_8 (by decide +kernel) ?_
  refine r_icmp_le (tgt := 34) hx hb (by omega) (by omega) dX3_isPastEnd_11 (by decide) (fun c11 => ?_) (fun c11 => ?_)
  · refine r_const hx hb dX3_isPastEnd_34 ?_
    exact k_zret hx hb hr hlocks hP hS dX3_isPastEnd_35 (by omega) ⟨(bI_f (by omega)).symm, τ, rfl, fun q => by omega, FrF_rf⟩
  · refine lv_aload_n hx hb dX3_isPastEnd_14 rfl (lv_at hl 0 rfl) ?_
    refine r_sipush hx hb dX3_isPastEnd_15 (by decide +kernel) ?_
    refine lv_aload_n hx hb dX3_isPastEnd_18 rfl (lv_at hl 1 rfl) ?_
    refine r_get (C := RX7) (T := TX7) (N := 16) (ci := 7) hx hb hts hi_X7 hown hK hP 1 rfl (by decide) lk_X3_85 (fun _ h9 => h9) dX3_isPastEnd_19 (by omega) (CE_w (by omega)) rfl ?_
    refine r_const hx hb dX3_isPastEnd_22 ?_
    refine r_iald hx hb hK hP 0 rfl dX3_isPastEnd_23 (by omega) (CE_q (by omega)) (by omega) (by omega) tQ_PQ ?_
    refine k_calliV (nL := 3) (C := RX3) (T := TX3) (N := 5) (ci := 3) hx hb hml hown hts hK hP hS hl.1 (c_X3_found hi) rfl (Nat.le_of_ble_eq_true rfl) rfl (cwV 2 hts (gV lm_X3_89 ti_X3_found tl_X3_found tn_X3 tc_X3_found) rfl rfl rfl (by decide +kernel) ⟨Nat.le_of_ble_eq_true rfl, Nat.le_of_ble_eq_true rfl⟩) rfl dX3_isPastEnd_24 ⟨Nat.zero_le _, Nat.zero_le _⟩ (by omega) CE_4 (fun r24 E1 H locs hq hP hS => ?_)
    obtain ⟨rfl, rfl⟩ := hq
    refine r_if_eq (tgt := 34) hx hb (by omega) dX3_isPastEnd_27 (by decide) (fun c27 => ?_) (fun c27 => ?_)
    · omega
    · refine r_const hx hb dX3_isPastEnd_30 ?_
      refine lv_goto (tgt := 35) hx hb dX3_isPastEnd_31 (by decide) ?_
      exact k_zret hx hb hr hlocks hP hS dX3_isPastEnd_35 (by omega) ⟨(bI_t (by omega)).symm, _, rfl, fun q => fnd_2, fnd_F FrF_rf⟩
abbrev rmX3_isOnFeast : Room := { frames := 1, cells := 0, slots := 0, locals := 22 }
set_option maxRecDepth 100000 in
set_option maxHeartbeats 4000000 in
theorem c_X3_isOnFeast {l : Launch} {D : va_G} {G : Nat → ClassId} {ad : Nat → Nat} {σ τ : Tb} (hi : kInj 189 ad) {w d e : Int} (hI : Inv σ) (hw : 0 ≤ w ∧ w < σ 0 2) (hd : 0 ≤ d) (he : e = d + σ 14 w - 1) (he2 : e ≤ 399) : Met l yX3_isOnFeast wsX3_isOnFeast rmX3_isOnFeast (kPc D (tysG G) 189 ad (CE G ad σ τ) [.ref (ad 4), .ref (ad (69 + w.toNat)), .int (iI d), .int (iI e)]) (kQi D 189 ad (fun z E' => z = bI (ex2 (B3 σ w d)) ∧ ∃ τ', E' = CE G ad σ τ' ∧ (ex2 (B3 σ w d) → isFst (B3 σ w d) (τ' 2 2) (τ' 2 3)) ∧ FrF τ τ')) 0 0 (kA 189 ad) := by
  refine k_met (cc := cX3_isOnFeast) (maxL := 6) (ret := (some .boolean)) (by decide) (Nat.le_of_ble_eq_true rfl) ?_
  intro P0 e0 s m0 below meth c0 ls hx hb hr hlocks hml hown hts hK hP hS hl
  replace hl : lv_has ls 6 [(0, _), (1, _), (2, _), (3, _)] := hl
  replace hown : s.vm.findClass RX3 = some m0.cls := hown
  refine k_abs (fun Wg hWg => ?_)
  have h0 := Inv_0 hI
  obtain ⟨hN, _, _⟩ := Inv_w hI hw
  have hq0 := IQ_0 hI hw
  unfold IN at hN
  refine lv_iload_n hx hb dX3_isOnFeast_0 rfl (lv_at hl 2 rfl) ?_
  refine lv_istore hx hb dX3_isOnFeast_1 hl (by decide) rfl (fun ls hl => ?_)
  replace hl : lv_has ls 6 [(0, _), (1, _), (2, _), (3, _), (4, _)] := lv_sub hl [1, 2, 3, 4, 0] rfl
  have loop3 : ∀ (n : Nat) (t : Int) (H : Heap) (locs : List Loc) (ls : Array Slot), va_P D vwCl (kw 189 ad (CE G ad σ τ)) H → va_S (kA 189 ad) s.heap H locs → lv_has ls 6 [(0, .ref (ad 4)), (1, .ref (ad (69 + w.toNat))), (2, .int (iI d)), (3, .int (iI e)), (4, .int (iI t))] → ((d ≤ t ∧ t ≤ e + 1) ∧ (∀ t' p, t' < t → ¬ B3 σ w d t' p)) → (e + 1 - t).toNat < n → Wg H locs (F0 m0 3 ls []) := by
    intro n
    induction n with
    | zero => intro t H locs ls _ _ _ _ hn; omega
    | succ n ih3 =>
      intro t H locs ls hP hS hl hv3 hn3
      rw [hWg]
      obtain ⟨hv, hno⟩ := hv3
      refine lv_iload hx hb dX3_isOnFeast_3 (lv_at hl 4 rfl) ?_
      refine lv_iload_n hx hb dX3_isOnFeast_5 rfl (lv_at hl 3 rfl) ?_
      refine r_icmp_gt (tgt := 85) hx hb (by omega) (by omega) dX3_isOnFeast_6 (by decide) (fun c6 => ?_) (fun c6 => ?_)
      · have hn2 : ¬ ex2 (B3 σ w d) := fun ⟨a, b, q⟩ => hno a b (by have := q.1; unfold inW at this; omega) q
        refine r_const hx hb dX3_isOnFeast_85 ?_
        exact k_zret hx hb hr hlocks hP hS dX3_isOnFeast_86 (by omega) ⟨(bI_f hn2).symm, τ, rfl, fun q => absurd q hn2, FrF_rf⟩
      · have hf := Inv_f hI (d := t) (by omega)
        refine lv_aload_n hx hb dX3_isOnFeast_9 rfl (lv_at hl 0 rfl) ?_
        refine r_get (C := RX3) (T := TX3) (N := 5) (ci := 3) hx hb hts hi_X3 hown hK hP 0 rfl (by decide) lk_X3_9 (fun _ h9 => h9) dX3_isOnFeast_10 (by omega) CE_4 rfl ?_
        refine r_get (C := RX5) (T := TX5) (N := 8) (ci := 5) hx hb hts hi_X5 hown hK hP 3 rfl (by decide) lk_X3_96 (fun _ h9 => h9) dX3_isOnFeast_13 (by omega) CE_1 rfl ?_
        refine lv_iload hx hb dX3_isOnFeast_16 (lv_at hl 4 rfl) ?_
        refine r_zald hx hb hK hP 2 rfl dX3_isOnFeast_18 (by omega) rfl (by omega) (by omega) (tI_at (by omega)) ?_
        refine r_if_ne (tgt := 25) hx hb (by omega) dX3_isOnFeast_19 (by decide) (fun c19 => ?_) (fun c19 => ?_)
        · refine r_const hx hb dX3_isOnFeast_25 ?_
          refine lv_istore hx hb dX3_isOnFeast_26 hl (by decide) rfl (fun ls hl => ?_)
          replace hl : lv_has ls 6 [(0, _), (1, _), (2, _), (3, _), (4, _), (5, _)] := lv_sub hl [1, 2, 3, 4, 5, 0] rfl
          have loop28 : ∀ (n : Nat) (k : Int) (H : Heap) (locs : List Loc) (ls : Array Slot), va_P D vwCl (kw 189 ad (CE G ad σ τ)) H → va_S (kA 189 ad) s.heap H locs → lv_has ls 6 [(0, .ref (ad 4)), (1, .ref (ad (69 + w.toNat))), (2, .int (iI d)), (3, .int (iI e)), (4, .int (iI t)), (5, .int (iI k))] → ((0 ≤ k ∧ k ≤ σ 18 w) ∧ (∀ j, 0 ≤ j → j < k → ¬ B3 σ w d t (PQ σ w j))) → (σ 18 w - k).toNat < n → Wg H locs (F0 m0 28 ls []) := by
            intro n
            induction n with
            | zero => intro k H locs ls _ _ _ _ hn; omega
            | succ n ih28 =>
              intro k H locs ls hP hS hl hv28 hn28
              rw [hWg]
              obtain ⟨hv2, hno2⟩ := hv28
              refine lv_iload hx hb dX3_isOnFeast_28 (lv_at hl 5 rfl) ?_
              refine lv_aload_n hx hb dX3_isOnFeast_30 rfl (lv_at hl 1 rfl) ?_
              refine r_get (C := RX7) (T := TX7) (N := 16) (ci := 7) hx hb hts hi_X7 hown hK hP 2 rfl (by decide) lk_X3_100 (fun _ h9 => h9) dX3_isOnFeast_31 (by omega) (CE_w (by omega)) rfl ?_
              refine r_icmp_ge (tgt := 79) hx hb (by omega) (by omega) dX3_isOnFeast_34 (by decide) (fun c34 => ?_) (fun c34 => ?_)
              · have hno3 : ∀ t' p, t' < t + 1 → ¬ B3 σ w d t' p := by
                  intro t' p q1 q2
                  rcases (show t' < t ∨ t' = t by omega) with y | y
                  · exact hno t' p y q2
                  · rw [y] at q2
                    obtain ⟨_, j, j1, j2, j3⟩ := IQ_p hI hw q2.2.1.1 q2.2.2.1
                    exact hno2 j j1 (by omega) (by rw [j3]; exact q2)
                refine r_iinc hx hb dX3_isOnFeast_79 hl (k := 4) rfl (by decide) (fun ls hl => ?_)
                replace hl : lv_has ls 6 [(0, _), (1, _), (2, _), (3, _), (4, _), (5, _)] := lv_sub hl [1, 2, 3, 4, 0, 5] rfl
                refine lv_goto (tgt := 3) hx hb dX3_isOnFeast_82 (by decide) ?_
                rw [← hWg]
                exact ih3 (t + 1) _ _ _ hP hS (lv_sub hl [0, 1, 2, 3, 4] rfl) ⟨by omega, hno3⟩ (by omega)
              · obtain ⟨hp, hon⟩ := IQ_k hI hw (k := k) (by omega)
                have hip := Inv_p hI hp
                unfold IP at hip
                refine lv_aload_n hx hb dX3_isOnFeast_37 rfl (lv_at hl 0 rfl) ?_
                refine r_get (C := RX3) (T := TX3) (N := 5) (ci := 3) hx hb hts hi_X3 hown hK hP 0 rfl (by decide) lk_X3_9 (fun _ h9 => h9) dX3_isOnFeast_38 (by omega) CE_4 rfl ?_
                refine r_get (C := RX5) (T := TX5) (N := 8) (ci := 5) hx hb hts hi_X5 hown hK hP 0 rfl (by decide) lk_X3_103 (fun _ h9 => h9) dX3_isOnFeast_41 (by omega) CE_1 rfl ?_
                refine lv_aload_n hx hb dX3_isOnFeast_44 rfl (lv_at hl 1 rfl) ?_
                refine r_get (C := RX7) (T := TX7) (N := 16) (ci := 7) hx hb hts hi_X7 hown hK hP 1 rfl (by decide) lk_X3_85 (fun _ h9 => h9) dX3_isOnFeast_45 (by omega) (CE_w (by omega)) rfl ?_
                refine lv_iload hx hb dX3_isOnFeast_48 (lv_at hl 5 rfl) ?_
                refine r_iald hx hb hK hP 0 rfl dX3_isOnFeast_50 (by omega) (CE_q (by omega)) (by omega) (by omega) tQ_PQ ?_
                refine r_aald hx hb hK hP 4 rfl dX3_isOnFeast_51 (by omega) rfl (by omega) (by omega) rfl ?_
                refine r_get (C := RX2) (T := TX2) (N := 6) (ci := 2) hx hb hts hi_X2 hown hK hP 3 rfl (by decide) lk_X3_106 (fun _ h9 => h9) dX3_isOnFeast_52 (by omega) (CE_p (by omega)) rfl ?_
                refine r_const hx hb dX3_isOnFeast_55 ?_
                refine r_icmp_ne (tgt := 73) hx hb (by omega) (by omega) dX3_isOnFeast_56 (by decide) (fun c56 => ?_) (fun c56 => ?_)
                · have hno3 : ∀ j, 0 ≤ j → j < k + 1 → ¬ B3 σ w d t (PQ σ w j) := by
                    intro j j1 j2 q
                    rcases (show j < k ∨ j = k by omega) with y | y
                    · exact hno2 j j1 y q
                    · rw [y] at q; exact c56 q.2.2.2.2
                  refine r_iinc hx hb dX3_isOnFeast_73 hl (k := 5) rfl (by decide) (fun ls hl => ?_)
                  replace hl : lv_has ls 6 [(0, _), (1, _), (2, _), (3, _), (4, _), (5, _)] := lv_sub hl [1, 2, 3, 4, 5, 0] rfl
                  refine lv_goto (tgt := 28) hx hb dX3_isOnFeast_76 (by decide) ?_
                  rw [← hWg]
                  exact ih28 (k + 1) _ _ _ hP hS hl ⟨by omega, hno3⟩ (by omega)
                · have hB : B3 σ w d t (PQ σ w k) := ⟨⟨by omega, by omega⟩, hp, hon, by omega, c56⟩
                  have hF : isFst (B3 σ w d) t (PQ σ w k) := by
                    refine fst_mk hB (fun t' p q => ?_) (fun p q => ?_)
                    · apply Classical.byContradiction
                      intro y
                      exact hno t' p (by omega) q
                    · obtain ⟨_, j, j1, j2, j3⟩ := IQ_p hI hw q.2.1.1 q.2.2.1
                      rcases (show j < k ∨ j = k ∨ k < j by omega) with y | y | y
                      · exact absurd (by rw [j3]; exact q) (hno2 j j1 y)
                      · rw [← j3, y]; omega
                      · have := IQ_lt hI hw (j := k) (k := j) (by omega); omega
                  refine lv_aload_n hx hb dX3_isOnFeast_59 rfl (lv_at hl 0 rfl) ?_
                  refine lv_iload hx hb dX3_isOnFeast_60 (lv_at hl 4 rfl) ?_
                  refine lv_aload_n hx hb dX3_isOnFeast_62 rfl (lv_at hl 1 rfl) ?_
                  refine r_get (C := RX7) (T := TX7) (N := 16) (ci := 7) hx hb hts hi_X7 hown hK hP 1 rfl (by decide) lk_X3_85 (fun _ h9 => h9) dX3_isOnFeast_63 (by omega) (CE_w (by omega)) rfl ?_
                  refine lv_iload hx hb dX3_isOnFeast_66 (lv_at hl 5 rfl) ?_
                  refine r_iald hx hb hK hP 0 rfl dX3_isOnFeast_68 (by omega) (CE_q (by omega)) (by omega) (by omega) tQ_PQ ?_
                  refine k_calliV (nL := 6) (C := RX3) (T := TX3) (N := 5) (ci := 3) hx hb hml hown hts hK hP hS hl.1 (c_X3_found hi) rfl (Nat.le_of_ble_eq_true rfl) rfl (cwV 2 hts (gV lm_X3_89 ti_X3_found tl_X3_found tn_X3 tc_X3_found) rfl rfl rfl (by decide +kernel) ⟨Nat.le_of_ble_eq_true rfl, Nat.le_of_ble_eq_true rfl⟩) rfl dX3_isOnFeast_69 ⟨Nat.zero_le _, Nat.zero_le _⟩ (by omega) CE_4 (fun r69 E1 H locs hq hP hS => ?_)
                  obtain ⟨rfl, rfl⟩ := hq
                  exact k_zret hx hb hr hlocks hP hS dX3_isOnFeast_72 (by omega) ⟨(bI_t ⟨t, _, hB⟩).symm, _, rfl, fun q => by rw [fnd_2.1, fnd_2.2]; exact hF, fnd_F FrF_rf⟩
          rw [← hWg]
          exact loop28 _ 0 _ _ _ hP hS hl ⟨by omega, fun j j1 j2 => by omega⟩ (Nat.lt_succ_self _)
        · have hno3 : ∀ t' p, t' < t + 1 → ¬ B3 σ w d t' p := by
            intro t' p q1 q2
            rcases (show t' < t ∨ t' = t by omega) with y | y
            · exact hno t' p y q2
            · rw [y] at q2; have := q2.2.2.2.1; omega
          refine lv_goto (tgt := 79) hx hb dX3_isOnFeast_22 (by decide) ?_
          refine r_iinc hx hb dX3_isOnFeast_79 hl (k := 4) rfl (by decide) (fun ls hl => ?_)
          replace hl : lv_has ls 6 [(0, _), (1, _), (2, _), (3, _), (4, _)] := lv_sub hl [1, 2, 3, 4, 0] rfl
          refine lv_goto (tgt := 3) hx hb dX3_isOnFeast_82 (by decide) ?_
          rw [← hWg]
          exact ih3 (t + 1) _ _ _ hP hS hl ⟨by omega, hno3⟩ (by omega)
  rw [← hWg]
  exact loop3 _ d _ _ _ hP hS hl ⟨by omega, fun t' p q1 q2 => by have := q2.1; unfold inW at this; omega⟩ (Nat.lt_succ_self _)
abbrev rmX3_lacksLanes : Room := { frames := 1, cells := 0, slots := 0, locals := 22 }
set_option maxRecDepth 100000 in
set_option maxHeartbeats 4000000 in
theorem c_X3_lacksLanes {l : Launch} {D : va_G} {G : Nat → ClassId} {ad : Nat → Nat} {σ τ : Tb} (hi : kInj 189 ad) {w d e : Int} {les : Prop} (hI : Inv σ) (hw : 0 ≤ w ∧ w < σ 0 2) (hd : 0 ≤ d) (he : e = d + σ 14 w - 1) (he2 : e ≤ 399) (hB0 : SB σ τ (cnts σ w les) w d e) : Met l yX3_lacksLanes wsX3_lacksLanes rmX3_lacksLanes (kPc D (tysG G) 189 ad (CE G ad σ τ) [.ref (ad 4), .ref (ad (69 + w.toNat)), .int (iI d), .int (iI e)]) (kQi D 189 ad (fun z E' => z = bI (ex2 (B4 σ w d les)) ∧ ∃ τ', E' = CE G ad σ τ' ∧ (ex2 (B4 σ w d les) → isFst (B4 σ w d les) (τ' 2 2) (τ' 2 3)) ∧ FrF τ τ')) 0 0 (kA 189 ad) := by
  refine k_met (cc := cX3_lacksLanes) (maxL := 7) (ret := (some .boolean)) (by decide) (Nat.le_of_ble_eq_true rfl) ?_
  intro P0 e0 s m0 below meth c0 ls hx hb hr hlocks hml hown hts hK hP hS hl
  replace hl : lv_has ls 7 [(0, _), (1, _), (2, _), (3, _)] := hl
  replace hown : s.vm.findClass RX3 = some m0.cls := hown
  refine k_abs (fun Wg hWg => ?_)
  have h0 := Inv_0 hI
  obtain ⟨hN, _, _⟩ := Inv_w hI hw
  have hq0 := IQ_0 hI hw
  unfold IN at hN
  refine lv_iload_n hx hb dX3_lacksLanes_0 rfl (lv_at hl 2 rfl) ?_
  refine lv_istore hx hb dX3_lacksLanes_1 hl (by decide) rfl (fun ls hl => ?_)
  replace hl : lv_has ls 7 [(0, _), (1, _), (2, _), (3, _), (4, _)] := lv_sub hl [1, 2, 3, 4, 0] rfl
  have loop3 : ∀ (n : Nat) (t : Int) (H : Heap) (locs : List Loc) (ls : Array Slot), va_P D vwCl (kw 189 ad (CE G ad σ τ)) H → va_S (kA 189 ad) s.heap H locs → lv_has ls 7 [(0, .ref (ad 4)), (1, .ref (ad (69 + w.toNat))), (2, .int (iI d)), (3, .int (iI e)), (4, .int (iI t))] → ((d ≤ t ∧ t ≤ e + 1) ∧ (∀ t' p, t' < t → ¬ B4 σ w d les t' p)) → (e + 1 - t).toNat < n → Wg H locs (F0 m0 3 ls []) := by
    intro n
    induction n with
    | zero => intro t H locs ls _ _ _ _ hn; omega
    | succ n ih3 =>
      intro t H locs ls hP hS hl hv3 hn3
      rw [hWg]
      obtain ⟨hv, hno⟩ := hv3
      refine lv_iload hx hb dX3_lacksLanes_3 (lv_at hl 4 rfl) ?_
      refine lv_iload_n hx hb dX3_lacksLanes_5 rfl (lv_at hl 3 rfl) ?_
      refine r_icmp_gt (tgt := 96) hx hb (by omega) (by omega) dX3_lacksLanes_6 (by decide) (fun c6 => ?_) (fun c6 => ?_)
      · have hn2 : ¬ ex2 (B4 σ w d les) := fun ⟨a, b, q⟩ => hno a b (by have := q.1; unfold inW at this; omega) q
        refine r_const hx hb dX3_lacksLanes_96 ?_
        exact k_zret hx hb hr hlocks hP hS dX3_lacksLanes_97 (by omega) ⟨(bI_f hn2).symm, τ, rfl, fun q => absurd q hn2, FrF_rf⟩
      · refine r_const hx hb dX3_lacksLanes_9 ?_
        refine lv_istore hx hb dX3_lacksLanes_10 hl (by decide) rfl (fun ls hl => ?_)
        replace hl : lv_has ls 7 [(0, _), (1, _), (2, _), (3, _), (4, _), (5, _)] := lv_sub hl [1, 2, 3, 4, 5, 0] rfl
        have loop12 : ∀ (n : Nat) (k : Int) (H : Heap) (locs : List Loc) (ls : Array Slot), va_P D vwCl (kw 189 ad (CE G ad σ τ)) H → va_S (kA 189 ad) s.heap H locs → lv_has ls 7 [(0, .ref (ad 4)), (1, .ref (ad (69 + w.toNat))), (2, .int (iI d)), (3, .int (iI e)), (4, .int (iI t)), (5, .int (iI k))] → ((0 ≤ k ∧ k ≤ σ 18 w) ∧ (∀ j, 0 ≤ j → j < k → ¬ B4 σ w d les t (PQ σ w j))) → (σ 18 w - k).toNat < n → Wg H locs (F0 m0 12 ls []) := by
          intro n
          induction n with
          | zero => intro k H locs ls _ _ _ _ hn; omega
          | succ n ih12 =>
            intro k H locs ls hP hS hl hv12 hn12
            rw [hWg]
            obtain ⟨hv2, hno2⟩ := hv12
            refine lv_iload hx hb dX3_lacksLanes_12 (lv_at hl 5 rfl) ?_
            refine lv_aload_n hx hb dX3_lacksLanes_14 rfl (lv_at hl 1 rfl) ?_
            refine r_get (C := RX7) (T := TX7) (N := 16) (ci := 7) hx hb hts hi_X7 hown hK hP 2 rfl (by decide) lk_X3_100 (fun _ h9 => h9) dX3_lacksLanes_15 (by omega) (CE_w (by omega)) rfl ?_
            refine r_icmp_ge (tgt := 90) hx hb (by omega) (by omega) dX3_lacksLanes_18 (by decide) (fun c18 => ?_) (fun c18 => ?_)
            · have hno3 : ∀ t' p, t' < t + 1 → ¬ B4 σ w d les t' p := by
                intro t' p q1 q2
                rcases (show t' < t ∨ t' = t by omega) with y | y
                · exact hno t' p y q2
                · rw [y] at q2
                  obtain ⟨_, j, j1, j2, j3⟩ := IQ_p hI hw q2.2.1.1 q2.2.2.1
                  exact hno2 j j1 (by omega) (by rw [j3]; exact q2)
              refine r_iinc hx hb dX3_lacksLanes_90 hl (k := 4) rfl (by decide) (fun ls hl => ?_)
              replace hl : lv_has ls 7 [(0, _), (1, _), (2, _), (3, _), (4, _), (5, _)] := lv_sub hl [1, 2, 3, 4, 0, 5] rfl
              refine lv_goto (tgt := 3) hx hb dX3_lacksLanes_93 (by decide) ?_
              rw [← hWg]
              exact ih3 (t + 1) _ _ _ hP hS (lv_sub hl [0, 1, 2, 3, 4] rfl) ⟨by omega, hno3⟩ (by omega)
            · obtain ⟨hp, hon⟩ := IQ_k hI hw (k := k) (by omega)
              have hip := Inv_p hI hp
              unfold IP at hip
              have hr1 := tkC_r (C := cnts σ w les) hI (p := PQ σ w k) (day := t)
              have hr2 := lnA_r (C := cnts σ w les) hI (day := t) hw
              have htk := tkn_wi hI (p := PQ σ w k) (d := d) (les := les) (day := t) hw (by omega)
              rw [cif_t hon] at htk
              refine lv_aload_n hx hb dX3_lacksLanes_21 rfl (lv_at hl 0 rfl) ?_
              refine r_get (C := RX3) (T := TX3) (N := 5) (ci := 3) hx hb hts hi_X3 hown hK hP 1 rfl (by decide) lk_X3_15 (fun _ h9 => h9) dX3_lacksLanes_22 (by omega) CE_4 rfl ?_
              refine r_get (C := RX0) (T := TX0) (N := 9) (ci := 0) hx hb hts hi_X0 hown hK hP 7 rfl (by decide) lk_X3_111 (fun _ h9 => h9) dX3_lacksLanes_25 (by omega) CE_2 rfl ?_
              refine lv_iload hx hb dX3_lacksLanes_28 (lv_at hl 5 rfl) ?_
              refine r_aaldA hx hb hK hP 6 rfl dX3_lacksLanes_30 (by omega) rfl (by omega) (by omega) rfl ?_
              refine lv_iload hx hb dX3_lacksLanes_31 (lv_at hl 4 rfl) ?_
              refine r_iald hx hb hK hP 0 rfl dX3_lacksLanes_33 (by omega) (CE_b (by omega)) (by omega) (by omega) (tI_at (by omega)) ?_
              rw [(hB0.2 k t (by omega) (by omega) (by omega) (by omega))]
              refine lv_aload_n hx hb dX3_lacksLanes_34 rfl (lv_at hl 0 rfl) ?_
              refine r_get (C := RX3) (T := TX3) (N := 5) (ci := 3) hx hb hts hi_X3 hown hK hP 1 rfl (by decide) lk_X3_15 (fun _ h9 => h9) dX3_lacksLanes_35 (by omega) CE_4 rfl ?_
              refine r_get (C := RX0) (T := TX0) (N := 9) (ci := 0) hx hb hts hi_X0 hown hK hP 8 rfl (by decide) lk_X3_115 (fun _ h9 => h9) dX3_lacksLanes_38 (by omega) CE_2 rfl ?_
              refine lv_iload hx hb dX3_lacksLanes_41 (lv_at hl 4 rfl) ?_
              refine r_iald hx hb hK hP 0 rfl dX3_lacksLanes_43 (by omega) rfl (by omega) (by omega) (tI_at (by omega)) ?_
              rw [(hB0.1 t (by omega) (by omega))]
              refine r_add hx hb dX3_lacksLanes_44 ?_
              refine lv_istore hx hb dX3_lacksLanes_45 hl (by decide) rfl (fun ls hl => ?_)
              replace hl : lv_has ls 7 [(0, _), (1, _), (2, _), (3, _), (4, _), (5, _), (6, _)] := lv_sub hl [1, 2, 3, 4, 5, 6, 0] rfl
              refine lv_iload hx hb dX3_lacksLanes_47 (lv_at hl 6 rfl) ?_
              refine lv_aload_n hx hb dX3_lacksLanes_49 rfl (lv_at hl 0 rfl) ?_
              refine r_get (C := RX3) (T := TX3) (N := 5) (ci := 3) hx hb hts hi_X3 hown hK hP 0 rfl (by decide) lk_X3_9 (fun _ h9 => h9) dX3_lacksLanes_50 (by omega) CE_4 rfl ?_
              refine r_get (C := RX5) (T := TX5) (N := 8) (ci := 5) hx hb hts hi_X5 hown hK hP 0 rfl (by decide) lk_X3_103 (fun _ h9 => h9) dX3_lacksLanes_53 (by omega) CE_1 rfl ?_
              refine lv_aload_n hx hb dX3_lacksLanes_56 rfl (lv_at hl 1 rfl) ?_
              refine r_get (C := RX7) (T := TX7) (N := 16) (ci := 7) hx hb hts hi_X7 hown hK hP 1 rfl (by decide) lk_X3_85 (fun _ h9 => h9) dX3_lacksLanes_57 (by omega) (CE_w (by omega)) rfl ?_
              refine lv_iload hx hb dX3_lacksLanes_60 (lv_at hl 5 rfl) ?_
              refine r_iald hx hb hK hP 0 rfl dX3_lacksLanes_62 (by omega) (CE_q (by omega)) (by omega) (by omega) tQ_PQ ?_
              refine r_aald hx hb hK hP 4 rfl dX3_lacksLanes_63 (by omega) rfl (by omega) (by omega) rfl ?_
              refine r_get (C := RX2) (T := TX2) (N := 6) (ci := 2) hx hb hts hi_X2 hown hK hP 2 rfl (by decide) lk_X3_118 (fun _ h9 => h9) dX3_lacksLanes_64 (by omega) (CE_p (by omega)) rfl ?_
              refine r_icmp_le (tgt := 84) hx hb (by omega) (by omega) dX3_lacksLanes_67 (by decide) (fun c67 => ?_) (fun c67 => ?_)
              · have hno3 : ∀ j, 0 ≤ j → j < k + 1 → ¬ B4 σ w d les t (PQ σ w j) := by
                  intro j j1 j2 q
                  rcases (show j < k ∨ j = k by omega) with y | y
                  · exact hno2 j j1 y q
                  · rw [y] at q; have := q.2.2.2; omega
                refine r_iinc hx hb dX3_lacksLanes_84 hl (k := 5) rfl (by decide) (fun ls hl => ?_)
                replace hl : lv_has ls 7 [(0, _), (1, _), (2, _), (3, _), (4, _), (5, _), (6, _)] := lv_sub hl [1, 2, 3, 4, 5, 0, 6] rfl
                refine lv_goto (tgt := 12) hx hb dX3_lacksLanes_87 (by decide) ?_
                rw [← hWg]
                exact ih12 (k + 1) _ _ _ hP hS (lv_sub hl [0, 1, 2, 3, 4, 5] rfl) ⟨by omega, hno3⟩ (by omega)
              · have hB : B4 σ w d les t (PQ σ w k) := ⟨⟨by omega, by omega⟩, hp, hon, by omega⟩
                have hF : isFst (B4 σ w d les) t (PQ σ w k) := by
                  refine fst_mk hB (fun t' p q => ?_) (fun p q => ?_)
                  · apply Classical.byContradiction
                    intro y
                    exact hno t' p (by omega) q
                  · obtain ⟨_, j, j1, j2, j3⟩ := IQ_p hI hw q.2.1.1 q.2.2.1
                    rcases (show j < k ∨ j = k ∨ k < j by omega) with y | y | y
                    · exact absurd (by rw [j3]; exact q) (hno2 j j1 y)
                    · rw [← j3, y]; omega
                    · have := IQ_lt hI hw (j := k) (k := j) (by omega); omega
                refine lv_aload_n hx hb dX3_lacksLanes_70 rfl (lv_at hl 0 rfl) ?_
                refine lv_iload hx hb dX3_lacksLanes_71 (lv_at hl 4 rfl) ?_
                refine lv_aload_n hx hb dX3_lacksLanes_73 rfl (lv_at hl 1 rfl) ?_
                refine r_get (C := RX7) (T := TX7) (N := 16) (ci := 7) hx hb hts hi_X7 hown hK hP 1 rfl (by decide) lk_X3_85 (fun _ h9 => h9) dX3_lacksLanes_74 (by omega) (CE_w (by omega)) rfl ?_
                refine lv_iload hx hb dX3_lacksLanes_77 (lv_at hl 5 rfl) ?_
                refine r_iald hx hb hK hP 0 rfl dX3_lacksLanes_79 (by omega) (CE_q (by omega)) (by omega) (by omega) tQ_PQ ?_
                refine k_calliV (nL := 7) (C := RX3) (T := TX3) (N := 5) (ci := 3) hx hb hml hown hts hK hP hS hl.1 (c_X3_found hi) rfl (Nat.le_of_ble_eq_true rfl) rfl (cwV 2 hts (gV lm_X3_89 ti_X3_found tl_X3_found tn_X3 tc_X3_found) rfl rfl rfl (by decide +kernel) ⟨Nat.le_of_ble_eq_true rfl, Nat.le_of_ble_eq_true rfl⟩) rfl dX3_lacksLanes_80 ⟨Nat.zero_le _, Nat.zero_le _⟩ (by omega) CE_4 (fun r80 E1 H locs hq hP hS => ?_)
                obtain ⟨rfl, rfl⟩ := hq
                exact k_zret hx hb hr hlocks hP hS dX3_lacksLanes_83 (by omega) ⟨(bI_t ⟨t, _, hB⟩).symm, _, rfl, fun q => by rw [fnd_2.1, fnd_2.2]; exact hF, fnd_F FrF_rf⟩
        rw [← hWg]
        exact loop12 _ 0 _ _ _ hP hS hl ⟨by omega, fun j j1 j2 => by omega⟩ (Nat.lt_succ_self _)
  rw [← hWg]
  exact loop3 _ d _ _ _ hP hS hl ⟨by omega, fun t' p q1 q2 => by have := q2.1; unfold inW at this; omega⟩ (Nat.lt_succ_self _)
def lsSh (σ : Tb) (w o z : Int) : Prop := ((0 ≤ z ∧ z < σ 0 0) ∧ isOn σ w z ∧ isOn σ o z ∧ ∀ p, 0 ≤ p → isOn σ w p → isOn σ o p → z ≤ p) ∨ (z = 40 ∧ ∀ p, 0 ≤ p → isOn σ w p → isOn σ o p → False)
abbrev rmX3_leastShared : Room := { frames := 1, cells := 0, slots := 0, locals := 21 }
set_option maxRecDepth 100000 in
set_option maxHeartbeats 4000000 in
theorem c_X3_leastShared {l : Launch} {D : va_G} {G : Nat → ClassId} {ad : Nat → Nat} {σ τ : Tb} (hi : kInj 189 ad) {w o : Int} (hI : Inv σ) (hw : 0 ≤ w ∧ w < σ 0 2) (ho : 0 ≤ o ∧ o < σ 0 2) : Met l yX3_leastShared wsX3_leastShared rmX3_leastShared (kPc D (tysG G) 189 ad (CE G ad σ τ) [.ref (ad (69 + w.toNat)), .ref (ad (69 + o.toNat))]) (kQi D 189 ad (fun z E' => lsSh σ w o z ∧ E' = CE G ad σ τ)) 0 0 (kA 189 ad) := by
  refine k_met (cc := cX3_leastShared) (maxL := 3) (ret := (some .int)) (by decide) (Nat.le_of_ble_eq_true rfl) ?_
  intro P0 e0 s m0 below meth c0 ls hx hb hr hlocks hml hown hts hK hP hS hl
  replace hl : lv_has ls 3 [(0, _), (1, _)] := hl
  replace hown : s.vm.findClass RX3 = some m0.cls := hown
  refine k_abs (fun Wg hWg => ?_)
  have h0 := Inv_0 hI
  have hq0 := IQ_0 hI hw
  have hqo := IQ_0 hI ho
  refine r_const hx hb dX3_leastShared_0 ?_
  refine lv_istore_n hx hb dX3_leastShared_1 rfl hl (by decide) rfl (fun ls hl => ?_)
  replace hl : lv_has ls 3 [(0, _), (1, _), (2, _)] := lv_sub hl [1, 2, 0] rfl
  have loop2 : ∀ (n : Nat) (k : Int) (H : Heap) (locs : List Loc) (ls : Array Slot), va_P D vwCl (kw 189 ad (CE G ad σ τ)) H → va_S (kA 189 ad) s.heap H locs → lv_has ls 3 [(0, .ref (ad (69 + w.toNat))), (1, .ref (ad (69 + o.toNat))), (2, .int (iI k))] → ((0 ≤ k ∧ k ≤ σ 18 w) ∧ (∀ j, 0 ≤ j → j < k → ¬ isOn σ o (PQ σ w j))) → (σ 18 w - k).toNat < n → Wg H locs (F0 m0 2 ls []) := by
    intro n
    induction n with
    | zero => intro k H locs ls _ _ _ _ hn; omega
    | succ n ih2 =>
      intro k H locs ls hP hS hl hv2 hn2
      rw [hWg]
      obtain ⟨hv, hno⟩ := hv2
      refine lv_iload_n hx hb dX3_leastShared_2 rfl (lv_at hl 2 rfl) ?_
      refine lv_aload_n hx hb dX3_leastShared_3 rfl (lv_at hl 0 rfl) ?_
      refine r_get (C := RX7) (T := TX7) (N := 16) (ci := 7) hx hb hts hi_X7 hown hK hP 2 rfl (by decide) lk_X3_100 (fun _ h9 => h9) dX3_leastShared_4 (by omega) (CE_w (by omega)) rfl ?_
      refine r_icmp_ge (tgt := 36) hx hb (by omega) (by omega) dX3_leastShared_7 (by decide) (fun c7 => ?_) (fun c7 => ?_)
      · have hno3 : ∀ p, 0 ≤ p → isOn σ w p → isOn σ o p → False := by
          intro p p1 p2 p3
          obtain ⟨_, j, j1, j2, j3⟩ := IQ_p hI hw p1 p2
          exact hno j j1 (by omega) (by rw [j3]; exact p3)
        refine r_bipush hx hb dX3_leastShared_36 (by decide +kernel) ?_
        exact k_iret hx hb hr hlocks hP hS dX3_leastShared_38 ⟨Or.inr ⟨rfl, hno3⟩, rfl⟩
      · obtain ⟨hp, hon⟩ := IQ_k hI hw (k := k) (by omega)
        refine lv_aload_n hx hb dX3_leastShared_10 rfl (lv_at hl 1 rfl) ?_
        refine lv_aload_n hx hb dX3_leastShared_11 rfl (lv_at hl 0 rfl) ?_
        refine r_get (C := RX7) (T := TX7) (N := 16) (ci := 7) hx hb hts hi_X7 hown hK hP 1 rfl (by decide) lk_X3_85 (fun _ h9 => h9) dX3_leastShared_12 (by omega) (CE_w (by omega)) rfl ?_
        refine lv_iload_n hx hb dX3_leastShared_15 rfl (lv_at hl 2 rfl) ?_
        refine r_iald hx hb hK hP 0 rfl dX3_leastShared_16 (by omega) (CE_q (by omega)) (by omega) (by omega) tQ_PQ ?_
        refine k_calliV (nL := 3) (C := RX7) (T := TX7) (N := 16) (ci := 7) hx hb hml hown hts hK hP hS hl.1 (c_X7_uses hi (by omega) (by omega) hqo.2.1) rfl (Nat.le_of_ble_eq_true rfl) rfl (cwV 1 hts (gV lm_X3_159 ti_X7_uses tl_X7_uses tn_X7 tc_X7_uses) rfl rfl rfl (by decide +kernel) ⟨Nat.le_of_ble_eq_true rfl, Nat.le_of_ble_eq_true rfl⟩) rfl dX3_leastShared_17 ⟨Nat.zero_le _, Nat.zero_le _⟩ (by omega) (CE_w (by omega)) (fun r17 E1 H locs hq hP hS => ?_)
        obtain ⟨rfl, rfl⟩ := hq
        refine r_ifB_eq (tgt := 30) hx hb dX3_leastShared_20 (by decide) (fun c20 => ?_) (fun c20 => ?_)
        · have hno3 : ∀ j, 0 ≤ j → j < k + 1 → ¬ isOn σ o (PQ σ w j) := by
            intro j j1 j2
            rcases (show j < k ∨ j = k by omega) with y | y
            · exact hno j j1 y
            · rw [y]; exact c20
          refine r_iinc hx hb dX3_leastShared_30 hl (k := 2) rfl (by decide) (fun ls hl => ?_)
          replace hl : lv_has ls 3 [(0, _), (1, _), (2, _)] := lv_sub hl [1, 2, 0] rfl
          refine lv_goto (tgt := 2) hx hb dX3_leastShared_33 (by decide) ?_
          rw [← hWg]
          exact ih2 (k + 1) _ _ _ hP hS hl ⟨by omega, hno3⟩ (by omega)
        · have hle : ∀ p, 0 ≤ p → isOn σ w p → isOn σ o p → PQ σ w k ≤ p := by
            intro p p1 p2 p3
            obtain ⟨_, j, j1, j2, j3⟩ := IQ_p hI hw p1 p2
            rcases (show j < k ∨ j = k ∨ k < j by omega) with y | y | y
            · exact absurd (by rw [j3]; exact p3) (hno j j1 y)
            · rw [← j3, y]; omega
            · have := IQ_lt hI hw (j := k) (k := j) (by omega); omega
          refine lv_aload_n hx hb dX3_leastShared_23 rfl (lv_at hl 0 rfl) ?_
          refine r_get (C := RX7) (T := TX7) (N := 16) (ci := 7) hx hb hts hi_X7 hown hK hP 1 rfl (by decide) lk_X3_85 (fun _ h9 => h9) dX3_leastShared_24 (by omega) (CE_w (by omega)) rfl ?_
          refine lv_iload_n hx hb dX3_leastShared_27 rfl (lv_at hl 2 rfl) ?_
          refine r_iald hx hb hK hP 0 rfl dX3_leastShared_28 (by omega) (CE_q (by omega)) (by omega) (by omega) tQ_PQ ?_
          exact k_iret hx hb hr hlocks hP hS dX3_leastShared_29 ⟨Or.inl ⟨hp, hon, c20, hle⟩, rfl⟩
  rw [← hWg]
  exact loop2 _ 0 _ _ _ hP hS hl ⟨by omega, fun j j1 j2 => by omega⟩ (Nat.lt_succ_self _)
def q5 (σ : Tb) (w o : Int) : Prop := σ 11 o ≠ σ 11 w ∧ σ 15 o = σ 15 w ∧ σ 23 o ≠ w
def S5 (σ : Tb) (w d e : Int) (f : Int → Int) (n day p : Int) : Prop := (d ≤ day ∧ day ≤ e) ∧ 0 ≤ p ∧ isOn σ w p ∧ ∃ k, 0 ≤ k ∧ k < n ∧ q5 σ w (f k) ∧ isOn σ (f k) p ∧ σ 20 (f k) ≤ day ∧ day ≤ σ 21 (f k)
theorem S5_B {σ : Tb} (hI : Inv σ) {w d e : Int} {les : Prop} (hw : 0 ≤ w ∧ w < σ 0 2) (he : e = d + σ 14 w - 1) {f : Int → Int} {n : Int} (hL : Lst f n (nrP σ (cnts σ w les) (σ 17 w).toNat) (σ 0 2)) (day p : Int) : S5 σ w d e f n day p ↔ B5 σ w d les day p := by
  constructor
  · rintro ⟨h1, h2, h3, k, k1, k2, k3, k4, k5, k6⟩
    obtain ⟨hf, hn⟩ := hL.2.1 k k1 k2
    have hne : f k ≠ w := hn.1.1
    refine ⟨⟨by omega, by omega⟩, (IQ_p hI hw h2 h3).1, h3, f k, hf.1, hf.2, hne, k4, k3.1, k3.2.1, fun q => ?_, (lsts_o hne).mpr ⟨hn.1, k5, k6⟩⟩
    have := IJ_j hI hw (by omega)
    rw [q] at this
    exact k3.2.2 this.2.2.1
  · rintro ⟨h1, h2, h3, o, o1, o2, o3, o4, o5, o6, o7, o8⟩
    obtain ⟨a1, a2⟩ := (lsts_o o3).mp o8
    obtain ⟨k, k1, k2, k3⟩ := hL.2.2.1 o o1 o2 (nrP_on.mpr ⟨a1, p, h2.1, o4, h3⟩)
    unfold inW at h1
    refine ⟨by omega, h2.1, h3, k, k1, k2, ?_⟩
    rw [k3]
    refine ⟨⟨o5, o6, fun q => ?_⟩, o4, a2⟩
    have := IJ_j hI ⟨o1, o2⟩ (by omega)
    rw [q] at this
    exact o7 this.2.2.1
abbrev rmX3_meetsDepth : Room := { frames := 2, cells := 0, slots := 0, locals := 43 }
set_option maxRecDepth 100000 in
set_option maxHeartbeats 4000000 in
theorem c_X3_meetsDepth {l : Launch} {D : va_G} {G : Nat → ClassId} {ad : Nat → Nat} {σ τ : Tb} (hi : kInj 189 ad) {w d e : Int} {les : Prop} (hI : Inv σ) (hw : 0 ≤ w ∧ w < σ 0 2) (hd : 0 ≤ d) (he : e = d + σ 14 w - 1) (he2 : e ≤ 399) (hG : Gth σ τ (cnts σ w les) (nrP σ (cnts σ w les) (σ 17 w).toNat)) : Met l yX3_meetsDepth wsX3_meetsDepth rmX3_meetsDepth (kPc D (tysG G) 189 ad (CE G ad σ τ) [.ref (ad 4), .ref (ad (69 + w.toNat)), .int (iI d), .int (iI e)]) (kQi D 189 ad (fun z E' => z = bI (ex2 (B5 σ w d les)) ∧ ∃ τ', E' = CE G ad σ τ' ∧ (ex2 (B5 σ w d les) → isFst (B5 σ w d les) (τ' 2 2) (τ' 2 3)) ∧ FrF τ τ')) 0 0 (kA 189 ad) := by
  refine k_met (cc := cX3_meetsDepth) (maxL := 10) (ret := (some .boolean)) (by decide) (Nat.le_of_ble_eq_true rfl) ?_
  intro P0 e0 s m0 below meth c0 ls hx hb hr hlocks hml hown hts hK hP hS hl
  replace hl : lv_has ls 10 [(0, _), (1, _), (2, _), (3, _)] := hl
  replace hown : s.vm.findClass RX3 = some m0.cls := hown
  refine k_abs (fun Wg hWg => ?_)
  have h0 := Inv_0 hI
  obtain ⟨hN, _, _⟩ := Inv_w hI hw
  have hq0 := IQ_0 hI hw
  unfold IN at hN
  have hL := hG.2.2
  have hL1 := hL.1
  refine r_sipush hx hb dX3_meetsDepth_0 (by decide +kernel) ?_
  refine lv_istore hx hb dX3_meetsDepth_3 hl (by decide) rfl (fun ls hl => ?_)
  replace hl : lv_has ls 10 [(0, _), (1, _), (2, _), (3, _), (4, _)] := lv_sub hl [1, 2, 3, 4, 0] rfl
  refine r_bipush hx hb dX3_meetsDepth_5 (by decide +kernel) ?_
  refine lv_istore hx hb dX3_meetsDepth_7 hl (by decide) rfl (fun ls hl => ?_)
  replace hl : lv_has ls 10 [(0, _), (1, _), (2, _), (3, _), (4, _), (5, _)] := lv_sub hl [1, 2, 3, 4, 5, 0] rfl
  refine r_const hx hb dX3_meetsDepth_9 ?_
  refine lv_istore hx hb dX3_meetsDepth_10 hl (by decide) rfl (fun ls hl => ?_)
  replace hl : lv_has ls 10 [(0, _), (1, _), (2, _), (3, _), (4, _), (5, _), (6, _)] := lv_sub hl [1, 2, 3, 4, 5, 6, 0] rfl
  have loop12 : ∀ (n : Nat) (i fd lp : Int) (H : Heap) (locs : List Loc) (ls : Array Slot), va_P D vwCl (kw 189 ad (CE G ad σ τ)) H → va_S (kA 189 ad) s.heap H locs → lv_has ls 10 [(0, .ref (ad 4)), (1, .ref (ad (69 + w.toNat))), (2, .int (iI d)), (3, .int (iI e)), (4, .int (iI fd)), (5, .int (iI lp)), (6, .int (iI i))] → ((0 ≤ i ∧ i ≤ τ 2 1) ∧ (0 ≤ fd ∧ fd ≤ 400) ∧ (0 ≤ lp ∧ lp ≤ 40) ∧ ((fd = 400 ∧ ∀ a b, ¬ S5 σ w d e (τ 3) i a b) ∨ (fd < 400 ∧ isFst (S5 σ w d e (τ 3) i) fd lp))) → (τ 2 1 - i).toNat < n → Wg H locs (F0 m0 12 ls []) := by
    intro n
    induction n with
    | zero => intro i fd lp H locs ls _ _ _ _ hn; omega
    | succ n ih12 =>
      intro i fd lp H locs ls hP hS hl hv12 hn12
      rw [hWg]
      obtain ⟨hv, hfd, hlp, hS5⟩ := hv12
      refine lv_iload hx hb dX3_meetsDepth_12 (lv_at hl 6 rfl) ?_
      refine lv_aload_n hx hb dX3_meetsDepth_14 rfl (lv_at hl 0 rfl) ?_
      refine r_get (C := RX3) (T := TX3) (N := 5) (ci := 3) hx hb hts hi_X3 hown hK hP 1 rfl (by decide) lk_X3_15 (fun _ h9 => h9) dX3_meetsDepth_15 (by omega) CE_4 rfl ?_
      refine r_get (C := RX0) (T := TX0) (N := 9) (ci := 0) hx hb hts hi_X0 hown hK hP 5 rfl (by decide) lk_X3_121 (fun _ h9 => h9) dX3_meetsDepth_18 (by omega) CE_2 rfl ?_
      refine r_icmp_ge (tgt := 154) hx hb (by omega) (by omega) dX3_meetsDepth_21 (by decide) (fun c21 => ?_) (fun c21 => ?_)
      · obtain rfl : i = τ 2 1 := by omega
        refine lv_iload hx hb dX3_meetsDepth_154 (lv_at hl 4 rfl) ?_
        refine r_sipush hx hb dX3_meetsDepth_156 (by decide +kernel) ?_
        refine r_icmp_ge (tgt := 177) hx hb (by omega) (by omega) dX3_meetsDepth_159 (by decide) (fun c159 => ?_) (fun c159 => ?_)
        · have hn2 : ¬ ex2 (B5 σ w d les) := by
            rintro ⟨a, b, q⟩
            rcases hS5 with z | z
            · exact z.2 a b ((S5_B hI hw he hL a b).mpr q)
            · omega
          refine r_const hx hb dX3_meetsDepth_177 ?_
          exact k_zret hx hb hr hlocks hP hS dX3_meetsDepth_178 (by omega) ⟨(bI_f hn2).symm, τ, rfl, fun q => absurd q hn2, FrF_rf⟩
        · have hF : isFst (B5 σ w d les) fd lp := by
            rcases hS5 with z | z
            · omega
            · exact isFst_c (S5_B hI hw he hL) z.2
          refine lv_aload_n hx hb dX3_meetsDepth_162 rfl (lv_at hl 0 rfl) ?_
          refine lv_iload hx hb dX3_meetsDepth_163 (lv_at hl 4 rfl) ?_
          refine lv_iload hx hb dX3_meetsDepth_165 (lv_at hl 5 rfl) ?_
          refine k_calliV (nL := 10) (C := RX3) (T := TX3) (N := 5) (ci := 3) hx hb hml hown hts hK hP hS hl.1 (c_X3_found hi) rfl (Nat.le_of_ble_eq_true rfl) rfl (cwV 2 hts (gV lm_X3_89 ti_X3_found tl_X3_found tn_X3 tc_X3_found) rfl rfl rfl (by decide +kernel) ⟨Nat.le_of_ble_eq_true rfl, Nat.le_of_ble_eq_true rfl⟩) rfl dX3_meetsDepth_167 ⟨Nat.zero_le _, Nat.zero_le _⟩ (by omega) CE_4 (fun r167 E1 H locs hq hP hS => ?_)
          obtain ⟨rfl, rfl⟩ := hq
          refine r_if_eq (tgt := 177) hx hb (by omega) dX3_meetsDepth_170 (by decide) (fun c170 => ?_) (fun c170 => ?_)
          · omega
          · refine r_const hx hb dX3_meetsDepth_173 ?_
            refine lv_goto (tgt := 178) hx hb dX3_meetsDepth_174 (by decide) ?_
            exact k_zret hx hb hr hlocks hP hS dX3_meetsDepth_178 (by omega) ⟨(bI_t ⟨fd, lp, hF.1⟩).symm, _, rfl, fun q => by rw [fnd_2.1, fnd_2.2]; exact hF, fnd_F FrF_rf⟩
      · obtain ⟨hm, hnr⟩ := hL.2.1 i (by omega) (by omega)
        obtain ⟨hNo, _, _⟩ := Inv_w hI hm
        have hBo := IN_b hI hm
        have hJo := IJ_r hI hm
        unfold IN at hNo
        have join148 : ∀ (fd' lp' : Int) (H : Heap) (locs : List Loc) (ls : Array Slot), va_P D vwCl (kw 189 ad (CE G ad σ τ)) H → va_S (kA 189 ad) s.heap H locs → lv_has ls 10 [(0, .ref (ad 4)), (1, .ref (ad (69 + w.toNat))), (2, .int (iI d)), (3, .int (iI e)), (4, .int (iI fd')), (5, .int (iI lp')), (6, .int (iI i))] → ((0 ≤ fd' ∧ fd' ≤ 400) ∧ (0 ≤ lp' ∧ lp' ≤ 40) ∧ ((fd' = 400 ∧ ∀ a b, ¬ S5 σ w d e (τ 3) (i + 1) a b) ∨ (fd' < 400 ∧ isFst (S5 σ w d e (τ 3) (i + 1)) fd' lp'))) → Wg H locs (F0 m0 148 ls []) := by
          intro fd' lp' H locs ls hP hS hl hv148
          rw [hWg]
          refine r_iinc hx hb dX3_meetsDepth_148 hl (k := 6) rfl (by decide) (fun ls hl => ?_)
          replace hl : lv_has ls 10 [(0, _), (1, _), (2, _), (3, _), (4, _), (5, _), (6, _)] := lv_sub hl [1, 2, 3, 4, 5, 6, 0] rfl
          refine lv_goto (tgt := 12) hx hb dX3_meetsDepth_151 (by decide) ?_
          rw [← hWg]
          exact ih12 (i + 1) fd' lp' _ _ _ hP hS hl ⟨by omega, hv148⟩ (by omega)
        have hsame : (∀ a b, (d ≤ a ∧ a ≤ e) → 0 ≤ b → isOn σ w b → q5 σ w (τ 3 i) → isOn σ (τ 3 i) b → σ 20 (τ 3 i) ≤ a → a ≤ σ 21 (τ 3 i) → False) → ((fd = 400 ∧ ∀ a b, ¬ S5 σ w d e (τ 3) (i + 1) a b) ∨ (fd < 400 ∧ isFst (S5 σ w d e (τ 3) (i + 1)) fd lp)) := by
          intro hno
          have e1 : ∀ a b, S5 σ w d e (τ 3) i a b ↔ S5 σ w d e (τ 3) (i + 1) a b := by
            intro a b
            constructor
            · rintro ⟨h1, h2, h3, k, k1, k2, k3⟩
              exact ⟨h1, h2, h3, k, k1, by omega, k3⟩
            · rintro ⟨h1, h2, h3, k, k1, k2, k3, k4, k5, k6⟩
              rcases (show k < i ∨ k = i by omega) with y | y
              · exact ⟨h1, h2, h3, k, k1, y, k3, k4, k5, k6⟩
              · rw [y] at k3 k4 k5 k6
                exact absurd (hno a b h1 h2 h3 k3 k4 k5 k6) id
          rcases hS5 with z | z
          · exact Or.inl ⟨z.1, fun a b q => z.2 a b ((e1 a b).mpr q)⟩
          · exact Or.inr ⟨z.1, isFst_c e1 z.2⟩
        refine lv_aload_n hx hb dX3_meetsDepth_24 rfl (lv_at hl 0 rfl) ?_
        refine r_get (C := RX3) (T := TX3) (N := 5) (ci := 3) hx hb hts hi_X3 hown hK hP 0 rfl (by decide) lk_X3_9 (fun _ h9 => h9) dX3_meetsDepth_25 (by omega) CE_4 rfl ?_
        refine r_get (C := RX5) (T := TX5) (N := 8) (ci := 5) hx hb hts hi_X5 hown hK hP 2 rfl (by decide) lk_X3_124 (fun _ h9 => h9) dX3_meetsDepth_28 (by omega) CE_1 rfl ?_
        refine lv_aload_n hx hb dX3_meetsDepth_31 rfl (lv_at hl 0 rfl) ?_
        refine r_get (C := RX3) (T := TX3) (N := 5) (ci := 3) hx hb hts hi_X3 hown hK hP 1 rfl (by decide) lk_X3_15 (fun _ h9 => h9) dX3_meetsDepth_32 (by omega) CE_4 rfl ?_
        refine r_get (C := RX0) (T := TX0) (N := 9) (ci := 0) hx hb hts hi_X0 hown hK hP 4 rfl (by decide) lk_X3_128 (fun _ h9 => h9) dX3_meetsDepth_35 (by omega) CE_2 rfl ?_
        refine lv_iload hx hb dX3_meetsDepth_38 (lv_at hl 6 rfl) ?_
        refine r_iald hx hb hK hP 0 rfl dX3_meetsDepth_40 (by omega) rfl (by omega) (by omega) (tI_at (by omega)) ?_
        refine r_aald hx hb hK hP 5 rfl dX3_meetsDepth_41 (by omega) rfl (by omega) (by omega) rfl ?_
        refine lv_astore hx hb dX3_meetsDepth_42 hl (by decide) rfl (fun ls hl => ?_)
        replace hl : lv_has ls 10 [(0, _), (1, _), (2, _), (3, _), (4, _), (5, _), (6, _), (7, _)] := lv_sub hl [1, 2, 3, 4, 5, 6, 7, 0] rfl
        refine lv_aload hx hb dX3_meetsDepth_44 (lv_at hl 7 rfl) ?_
        refine r_get (C := RX7) (T := TX7) (N := 16) (ci := 7) hx hb hts hi_X7 hown hK hP 4 rfl (by decide) lk_X3_131 (fun _ h9 => h9) dX3_meetsDepth_46 (by omega) (CE_w (by omega)) rfl ?_
        refine lv_aload_n hx hb dX3_meetsDepth_49 rfl (lv_at hl 1 rfl) ?_
        refine r_get (C := RX7) (T := TX7) (N := 16) (ci := 7) hx hb hts hi_X7 hown hK hP 4 rfl (by decide) lk_X3_131 (fun _ h9 => h9) dX3_meetsDepth_50 (by omega) (CE_w (by omega)) rfl ?_
        refine r_icmp_eq (tgt := 148) hx hb (by omega) (by omega) dX3_meetsDepth_53 (by decide) (fun c53 => ?_) (fun c53 => ?_)
        · rw [← hWg]
          exact join148 fd lp _ _ _ hP hS (lv_sub hl [0, 1, 2, 3, 4, 5, 6] rfl) ⟨hfd, hlp, hsame (fun a b _ _ _ q _ _ _ => q.1 c53)⟩
        · refine lv_aload hx hb dX3_meetsDepth_56 (lv_at hl 7 rfl) ?_
          refine r_get (C := RX7) (T := TX7) (N := 16) (ci := 7) hx hb hts hi_X7 hown hK hP 8 rfl (by decide) lk_X3_134 (fun _ h9 => h9) dX3_meetsDepth_58 (by omega) (CE_w (by omega)) rfl ?_
          refine lv_aload_n hx hb dX3_meetsDepth_61 rfl (lv_at hl 1 rfl) ?_
          refine r_get (C := RX7) (T := TX7) (N := 16) (ci := 7) hx hb hts hi_X7 hown hK hP 8 rfl (by decide) lk_X3_134 (fun _ h9 => h9) dX3_meetsDepth_62 (by omega) (CE_w (by omega)) rfl ?_
          refine r_icmp_ne (tgt := 148) hx hb (by omega) (by omega) dX3_meetsDepth_65 (by decide) (fun c65 => ?_) (fun c65 => ?_)
          · rw [← hWg]
            exact join148 fd lp _ _ _ hP hS (lv_sub hl [0, 1, 2, 3, 4, 5, 6] rfl) ⟨hfd, hlp, hsame (fun a b _ _ _ q _ _ _ => c65 q.2.1)⟩
          · refine lv_aload hx hb dX3_meetsDepth_68 (lv_at hl 7 rfl) ?_
            refine r_get (C := RX7) (T := TX7) (N := 16) (ci := 7) hx hb hts hi_X7 hown hK hP 14 rfl (by decide) lk_X3_137 (fun _ h9 => h9) dX3_meetsDepth_70 (by omega) (CE_w (by omega)) rfl ?_
            refine lv_aload_n hx hb dX3_meetsDepth_73 rfl (lv_at hl 1 rfl) ?_
            refine r_get (C := RX7) (T := TX7) (N := 16) (ci := 7) hx hb hts hi_X7 hown hK hP 0 rfl (by decide) lk_X3_23 (fun _ h9 => h9) dX3_meetsDepth_74 (by omega) (CE_w (by omega)) rfl ?_
            refine r_icmp_ne (tgt := 83) hx hb (by omega) (by omega) dX3_meetsDepth_77 (by decide) (fun c77 => ?_) (fun c77 => ?_)
            · refine lv_iload_n hx hb dX3_meetsDepth_83 rfl (lv_at hl 2 rfl) ?_
              refine lv_aload hx hb dX3_meetsDepth_84 (lv_at hl 7 rfl) ?_
              refine r_get (C := RX7) (T := TX7) (N := 16) (ci := 7) hx hb hts hi_X7 hown hK hP 11 rfl (by decide) lk_X3_140 (fun _ h9 => h9) dX3_meetsDepth_86 (by omega) (CE_w (by omega)) rfl ?_
              refine r_mmax hx hb hml hl.1 hown hts mm_X3_143 (Nat.le_of_ble_eq_true rfl) (Nat.le_of_ble_eq_true rfl) ⟨Nat.zero_le _, Nat.zero_le _⟩ (by omega) (by omega) dX3_meetsDepth_89 ?_
              obtain ⟨a, ha⟩ : ∃ a, a = (if d < σ 20 (τ 3 i) then σ 20 (τ 3 i) else d) := ⟨_, rfl⟩
              rw [← ha]
              have ha2 : d ≤ a ∧ σ 20 (τ 3 i) ≤ a ∧ a ≤ 400 ∧ (a = d ∨ a = σ 20 (τ 3 i)) := by rw [ha]; split <;> omega
              refine lv_istore hx hb dX3_meetsDepth_92 hl (by decide) rfl (fun ls hl => ?_)
              replace hl : lv_has ls 10 [(0, _), (1, _), (2, _), (3, _), (4, _), (5, _), (6, _), (7, _), (8, _)] := lv_sub hl [1, 2, 3, 4, 5, 6, 7, 8, 0] rfl
              refine lv_iload hx hb dX3_meetsDepth_94 (lv_at hl 8 rfl) ?_
              refine lv_iload_n hx hb dX3_meetsDepth_96 rfl (lv_at hl 3 rfl) ?_
              refine lv_aload hx hb dX3_meetsDepth_97 (lv_at hl 7 rfl) ?_
              refine r_get (C := RX7) (T := TX7) (N := 16) (ci := 7) hx hb hts hi_X7 hown hK hP 12 rfl (by decide) lk_X3_149 (fun _ h9 => h9) dX3_meetsDepth_99 (by omega) (CE_w (by omega)) rfl ?_
              refine r_mmin hx hb hml hl.1 hown hts mm_X3_152 (Nat.le_of_ble_eq_true rfl) (Nat.le_of_ble_eq_true rfl) ⟨Nat.zero_le _, Nat.zero_le _⟩ (by omega) (by omega) dX3_meetsDepth_102 ?_
              obtain ⟨u, hu⟩ : ∃ u, u = (if σ 21 (τ 3 i) < e then σ 21 (τ 3 i) else e) := ⟨_, rfl⟩
              rw [← hu]
              have hu2 : u ≤ e ∧ u ≤ σ 21 (τ 3 i) ∧ (u = e ∨ u = σ 21 (τ 3 i)) := by rw [hu]; split <;> omega
              refine r_icmp_gt (tgt := 148) hx hb (by omega) (by omega) dX3_meetsDepth_105 (by decide) (fun c105 => ?_) (fun c105 => ?_)
              · rw [← hWg]
                exact join148 fd lp _ _ _ hP hS (lv_sub hl [0, 1, 2, 3, 4, 5, 6] rfl) ⟨hfd, hlp, hsame (fun x y q1 _ _ _ _ q2 q3 => by omega)⟩
              · refine lv_iload hx hb dX3_meetsDepth_108 (lv_at hl 8 rfl) ?_
                refine lv_iload hx hb dX3_meetsDepth_110 (lv_at hl 4 rfl) ?_
                refine r_icmp_le (tgt := 118) hx hb (by omega) (by omega) dX3_meetsDepth_112 (by decide) (fun c112 => ?_) (fun c112 => ?_)
                · refine lv_aload_n hx hb dX3_meetsDepth_118 rfl (lv_at hl 1 rfl) ?_
                  refine lv_aload hx hb dX3_meetsDepth_119 (lv_at hl 7 rfl) ?_
                  refine k_calliS (nL := 10) hx hb hml hown hts hK hP hS hl.1 (c_X3_leastShared hi hI hw hm) rfl (Nat.le_of_ble_eq_true rfl) (va_cwS 2 hts (gS lm_X3_155 ts_X3_leastShared tn_X3 tc_X3_leastShared) rfl rfl rfl (by decide +kernel) ⟨Nat.le_of_ble_eq_true rfl, Nat.le_of_ble_eq_true rfl⟩) rfl dX3_meetsDepth_121 ⟨Nat.zero_le _, Nat.zero_le _⟩ (fun r121 E1 H locs hq hP hS => ?_)
                  obtain ⟨hls, rfl⟩ := hq
                  have hls2 : (0 ≤ r121 ∧ r121 < σ 0 0) ∧ isOn σ w r121 ∧ isOn σ (τ 3 i) r121 ∧ ∀ p, 0 ≤ p → isOn σ w p → isOn σ (τ 3 i) p → r121 ≤ p := by
                    rcases hls with z | z
                    · exact z
                    · obtain ⟨_, p, p1, p2, p3⟩ := nrP_on.mp hnr
                      exact absurd (z.2 p p1 p3 p2) id
                  obtain ⟨g1, g2, g3, g4⟩ := hls2
                  have hnew : S5 σ w d e (τ 3) (i + 1) a r121 := ⟨by omega, g1.1, g2, i, by omega, by omega, ⟨c53, c65, c77⟩, g3, by omega, by omega⟩
                  have hold : ∀ x y, S5 σ w d e (τ 3) (i + 1) x y → S5 σ w d e (τ 3) i x y ∨ (a ≤ x ∧ r121 ≤ y) := by
                    rintro x y ⟨h1, h2, h3, k, k1, k2, k3, k4, k5, k6⟩
                    rcases (show k < i ∨ k = i by omega) with q | q
                    · exact Or.inl ⟨h1, h2, h3, k, k1, q, k3, k4, k5, k6⟩
                    · rw [q] at k4 k5 k6
                      exact Or.inr ⟨by omega, g4 y h2 h3 k4⟩
                  have hmono : ∀ x y, S5 σ w d e (τ 3) i x y → S5 σ w d e (τ 3) (i + 1) x y := by
                    rintro x y ⟨h1, h2, h3, k, k1, k2, k3⟩
                    exact ⟨h1, h2, h3, k, k1, by omega, k3⟩
                  have hF1 : a < fd ∨ (a = fd ∧ r121 < lp) → isFst (S5 σ w d e (τ 3) (i + 1)) a r121 := by
                    intro hc
                    refine ⟨hnew, fun x y q => ?_⟩
                    rcases hold x y q with z | z
                    · rcases hS5 with s | s
                      · exact absurd z (s.2 x y)
                      · have := s.2.2 x y z
                        omega
                    · omega
                  have hF2 : a = fd → ¬ r121 < lp → isFst (S5 σ w d e (τ 3) (i + 1)) a lp := by
                    intro hc hc2
                    rcases hS5 with s | s
                    · omega
                    · rw [hc]
                      refine ⟨hmono _ _ s.2.1, fun x y q => ?_⟩
                      rcases hold x y q with z | z
                      · exact s.2.2 x y z
                      · omega
                  refine lv_istore hx hb dX3_meetsDepth_124 hl (by decide) rfl (fun ls hl => ?_)
                  replace hl : lv_has ls 10 [(0, _), (1, _), (2, _), (3, _), (4, _), (5, _), (6, _), (7, _), (8, _), (9, _)] := lv_sub hl [1, 2, 3, 4, 5, 6, 7, 8, 9, 0] rfl
                  refine lv_iload hx hb dX3_meetsDepth_126 (lv_at hl 8 rfl) ?_
                  refine lv_iload hx hb dX3_meetsDepth_128 (lv_at hl 4 rfl) ?_
                  refine r_icmp_lt (tgt := 140) hx hb (by omega) (by omega) dX3_meetsDepth_130 (by decide) (fun c130 => ?_) (fun c130 => ?_)
                  · refine lv_iload hx hb dX3_meetsDepth_140 (lv_at hl 9 rfl) ?_
                    refine lv_istore hx hb dX3_meetsDepth_142 hl (by decide) rfl (fun ls hl => ?_)
                    replace hl : lv_has ls 10 [(0, _), (1, _), (2, _), (3, _), (4, _), (5, _), (6, _), (7, _), (8, _), (9, _)] := lv_sub hl [1, 2, 3, 4, 5, 0, 6, 7, 8, 9] rfl
                    refine lv_iload hx hb dX3_meetsDepth_144 (lv_at hl 8 rfl) ?_
                    refine lv_istore hx hb dX3_meetsDepth_146 hl (by decide) rfl (fun ls hl => ?_)
                    replace hl : lv_has ls 10 [(0, _), (1, _), (2, _), (3, _), (4, _), (5, _), (6, _), (7, _), (8, _), (9, _)] := lv_sub hl [1, 2, 3, 4, 0, 5, 6, 7, 8, 9] rfl
                    rw [← hWg]
                    exact join148 a r121 _ _ _ hP hS (lv_sub hl [0, 1, 2, 3, 4, 5, 6] rfl) ⟨by omega, by omega, Or.inr ⟨by omega, hF1 (by omega)⟩⟩
                  · refine lv_iload hx hb dX3_meetsDepth_133 (lv_at hl 9 rfl) ?_
                    refine lv_iload hx hb dX3_meetsDepth_135 (lv_at hl 5 rfl) ?_
                    refine r_icmp_ge (tgt := 144) hx hb (by omega) (by omega) dX3_meetsDepth_137 (by decide) (fun c137 => ?_) (fun c137 => ?_)
                    · refine lv_iload hx hb dX3_meetsDepth_144 (lv_at hl 8 rfl) ?_
                      refine lv_istore hx hb dX3_meetsDepth_146 hl (by decide) rfl (fun ls hl => ?_)
                      replace hl : lv_has ls 10 [(0, _), (1, _), (2, _), (3, _), (4, _), (5, _), (6, _), (7, _), (8, _), (9, _)] := lv_sub hl [1, 2, 3, 4, 0, 5, 6, 7, 8, 9] rfl
                      rw [← hWg]
                      exact join148 a lp _ _ _ hP hS (lv_sub hl [0, 1, 2, 3, 4, 5, 6] rfl) ⟨by omega, by omega, Or.inr ⟨by omega, hF2 (by omega) (by omega)⟩⟩
                    · refine lv_iload hx hb dX3_meetsDepth_140 (lv_at hl 9 rfl) ?_
                      refine lv_istore hx hb dX3_meetsDepth_142 hl (by decide) rfl (fun ls hl => ?_)
                      replace hl : lv_has ls 10 [(0, _), (1, _), (2, _), (3, _), (4, _), (5, _), (6, _), (7, _), (8, _), (9, _)] := lv_sub hl [1, 2, 3, 4, 5, 0, 6, 7, 8, 9] rfl
                      refine lv_iload hx hb dX3_meetsDepth_144 (lv_at hl 8 rfl) ?_
                      refine lv_istore hx hb dX3_meetsDepth_146 hl (by decide) rfl (fun ls hl => ?_)
                      replace hl : lv_has ls 10 [(0, _), (1, _), (2, _), (3, _), (4, _), (5, _), (6, _), (7, _), (8, _), (9, _)] := lv_sub hl [1, 2, 3, 4, 0, 5, 6, 7, 8, 9] rfl
                      rw [← hWg]
                      exact join148 a r121 _ _ _ hP hS (lv_sub hl [0, 1, 2, 3, 4, 5, 6] rfl) ⟨by omega, by omega, Or.inr ⟨by omega, hF1 (by omega)⟩⟩
                · have hkeep : (fd = 400 ∧ ∀ a b, ¬ S5 σ w d e (τ 3) (i + 1) a b) ∨ (fd < 400 ∧ isFst (S5 σ w d e (τ 3) (i + 1)) fd lp) := by
                    rcases hS5 with s | s
                    · omega
                    · refine Or.inr ⟨s.1, ?_, fun x y q => ?_⟩
                      · obtain ⟨h1, h2, h3, k, k1, k2, k3⟩ := s.2.1
                        exact ⟨h1, h2, h3, k, k1, by omega, k3⟩
                      · obtain ⟨h1, h2, h3, k, k1, k2, k3, k4, k5, k6⟩ := q
                        rcases (show k < i ∨ k = i by omega) with z | z
                        · exact s.2.2 x y ⟨h1, h2, h3, k, k1, z, k3, k4, k5, k6⟩
                        · rw [z] at k5; omega
                  refine lv_goto (tgt := 148) hx hb dX3_meetsDepth_115 (by decide) ?_
                  rw [← hWg]
                  exact join148 fd lp _ _ _ hP hS (lv_sub hl [0, 1, 2, 3, 4, 5, 6] rfl) ⟨hfd, hlp, hkeep⟩
            · refine lv_goto (tgt := 148) hx hb dX3_meetsDepth_80 (by decide) ?_
              rw [← hWg]
              exact join148 fd lp _ _ _ hP hS (lv_sub hl [0, 1, 2, 3, 4, 5, 6] rfl) ⟨hfd, hlp, hsame (fun a b _ _ _ q _ _ _ => q.2.2 c77)⟩
  rw [← hWg]
  exact loop12 _ 0 400 40 _ _ _ hP hS hl ⟨by omega, by omega, by omega, Or.inl ⟨rfl, fun a b q => by obtain ⟨_, _, _, k, k1, k2, _⟩ := q; omega⟩⟩ (Nat.lt_succ_self _)

