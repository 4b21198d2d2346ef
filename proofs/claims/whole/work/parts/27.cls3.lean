theorem abt_0 {σ : Tb} {w : Int} : abt σ w 0 = σ 19 w := by
  unfold abt
  rw [cif_t rfl]
theorem abt_1 {σ : Tb} {w : Int} : abt σ w 1 = σ 20 w := by
  unfold abt
  rw [cif_f (by decide), cif_t rfl]
theorem abt_2 {σ : Tb} {w : Int} : abt σ w 2 = σ 21 w := by
  unfold abt
  rw [cif_f (by decide), cif_f (by decide), cif_t rfl]
theorem abt_3 {σ : Tb} {w : Int} : abt σ w 3 = σ 22 w := by
  unfold abt
  rw [cif_f (by decide), cif_f (by decide), cif_f (by decide), cif_t rfl]
theorem abt_4 {σ : Tb} {w : Int} : abt σ w 4 = cstC σ w := by
  unfold abt
  rw [cif_f (by decide), cif_f (by decide), cif_f (by decide), cif_f (by decide), cif_t rfl]
theorem abt_5 {σ : Tb} {w : Int} : abt σ w 5 = payC σ w := by
  unfold abt
  rw [cif_f (by decide), cif_f (by decide), cif_f (by decide), cif_f (by decide), cif_f (by decide), cif_t rfl]
theorem abt_6 {σ : Tb} {w : Int} : abt σ w 6 = σ 22 w * (10 * rnkC σ w + 10) := by
  unfold abt
  rw [cif_f (by decide), cif_f (by decide), cif_f (by decide), cif_f (by decide), cif_f (by decide), cif_f (by decide), cif_t rfl]
theorem abt_7 {σ : Tb} {w : Int} : abt σ w 7 = dlyC σ w := by
  unfold abt
  rw [cif_f (by decide), cif_f (by decide), cif_f (by decide), cif_f (by decide), cif_f (by decide), cif_f (by decide), cif_f (by decide), cif_t rfl]
theorem abt_8 {σ : Tb} {w : Int} : abt σ w 8 = σ 23 w := by
  unfold abt
  rw [cif_f (by decide), cif_f (by decide), cif_f (by decide), cif_f (by decide), cif_f (by decide), cif_f (by decide), cif_f (by decide), cif_f (by decide), cif_t rfl]
theorem abt_9 {σ : Tb} {w : Int} : abt σ w 9 = σ 18 w := by
  unfold abt
  rw [cif_f (by decide), cif_f (by decide), cif_f (by decide), cif_f (by decide), cif_f (by decide), cif_f (by decide), cif_f (by decide), cif_f (by decide), cif_f (by decide), cif_t rfl]
theorem abt_10 {σ : Tb} {w : Int} : abt σ w 10 = σ 24 w := by
  unfold abt
  rw [cif_f (by decide), cif_f (by decide), cif_f (by decide), cif_f (by decide), cif_f (by decide), cif_f (by decide), cif_f (by decide), cif_f (by decide), cif_f (by decide), cif_f (by decide), cif_t rfl]
theorem abt_x {σ : Tb} {w q : Int} (h : q < 0 ∨ 10 < q) : abt σ w q = -5 := by
  unfold abt
  rw [cif_f (by omega), cif_f (by omega), cif_f (by omega), cif_f (by omega), cif_f (by omega), cif_f (by omega), cif_f (by omega), cif_f (by omega), cif_f (by omega), cif_f (by omega), cif_f (by omega)]
abbrev rmX8_about : Room := { frames := 3, cells := 0, slots := 0, locals := 69 }
set_option maxRecDepth 100000 in
set_option maxHeartbeats 4000000 in
theorem c_X8_about {l : Launch} {D : va_G} {G : Nat → ClassId} {ad : Nat → Nat} {σ τ : Tb} (hi : kInj 189 ad) {w q : Int} (hI : InvS σ) (hT : TI τ) (hw : (-2147483648 ≤ w ∧ w < 2147483648)) (hq0 : (-2147483648 ≤ q ∧ q < 2147483648)) : Met l yX8_about wsX8_about rmX8_about (kPc D (tysG G) 189 ad (CE G ad σ τ) [.ref (ad 0), .int (iI w), .int (iI q)]) (kQi D 189 ad (fun z E' => z = aAbout σ w q ∧ ∃ τ', E' = CE G ad σ τ' ∧ TI τ')) 0 0 (kA 189 ad) := by
  refine k_met (cc := cX8_about) (maxL := 4) (ret := (some .int)) (by decide) (Nat.le_of_ble_eq_true rfl) ?_
  intro P0 e0 s m0 below meth c0 ls hx hb hr hlocks hml hown hts hK hP hS hl
  replace hl : lv_has ls 4 [(0, _), (1, _), (2, _)] := hl
  replace hown : s.vm.findClass RX8 = some m0.cls := hown
  refine k_abs (fun Wg hWg => ?_)
  have h0 := Inv_0 hI.1
  refine lv_aload_n hx hb dX8_about_0 rfl (lv_at hl 0 rfl) ?_
  refine r_get (C := RX8) (T := TX8) (N := 8) (ci := 8) hx hb hts hi_X8 hown hK hP 0 rfl (by decide) lk_X8_10 (fun _ h9 => h9) dX8_about_1 (by omega) CE_0 rfl ?_
  refine lv_iload_n hx hb dX8_about_4 rfl (lv_at hl 1 rfl) ?_
  refine k_calliV (nL := 4) (C := RX5) (T := TX5) (N := 8) (ci := 5) hx hb hml hown hts hK hP hS hl.1 (c_X5_hasWork hi hw h0.2.2.1) rfl (Nat.le_of_ble_eq_true rfl) rfl (cwV 1 hts (gV lm_X8_143 ti_X5_hasWork tl_X5_hasWork tn_X5 tc_X5_hasWork) rfl rfl rfl (by decide +kernel) ⟨Nat.le_of_ble_eq_true rfl, Nat.le_of_ble_eq_true rfl⟩) rfl dX8_about_5 ⟨Nat.zero_le _, Nat.zero_le _⟩ (by omega) CE_1 (fun r5 E1 H locs hq hP hS => ?_)
  obtain ⟨rfl, rfl⟩ := hq
  refine r_ifB_ne (tgt := 14) hx hb dX8_about_8 (by decide) (fun c8 => ?_) (fun c8 => ?_)
  · obtain ⟨hN, _, _⟩ := Inv_w hI.1 c8
    have hB := IN_b hI.1 c8
    unfold IN at hN
    refine lv_aload_n hx hb dX8_about_14 rfl (lv_at hl 0 rfl) ?_
    refine r_get (C := RX8) (T := TX8) (N := 8) (ci := 8) hx hb hts hi_X8 hown hK hP 0 rfl (by decide) lk_X8_10 (fun _ h9 => h9) dX8_about_15 (by omega) CE_0 rfl ?_
    refine r_get (C := RX5) (T := TX5) (N := 8) (ci := 5) hx hb hts hi_X5 hown hK hP 2 rfl (by decide) lk_X8_114 (fun _ h9 => h9) dX8_about_18 (by omega) CE_1 rfl ?_
    refine lv_iload_n hx hb dX8_about_21 rfl (lv_at hl 1 rfl) ?_
    refine r_aald hx hb hK hP 5 rfl dX8_about_22 (by omega) rfl (by omega) (by omega) rfl ?_
    refine lv_astore_n hx hb dX8_about_23 rfl hl (by decide) rfl (fun ls hl => ?_)
    replace hl : lv_has ls 4 [(0, _), (1, _), (2, _), (3, _)] := lv_sub hl [1, 2, 3, 0] rfl
    refine lv_iload_n hx hb dX8_about_24 rfl (lv_at hl 2 rfl) ?_
    rcases (show (q < 0 ∨ 10 < q) ∨ q = 0 ∨ q = 1 ∨ q = 2 ∨ q = 3 ∨ q = 4 ∨ q = 5 ∨ q = 6 ∨ q = 7 ∨ q = 8 ∨ q = 9 ∨ q = 10 by omega) with h | rfl | rfl | rfl | rfl | rfl | rfl | rfl | rfl | rfl | rfl | rfl
    · refine r_tabOut (tgt := 151) hx hb dX8_about_25 (by omega) (by omega) (by decide) ?_
      refine r_bipush hx hb dX8_about_151 (by decide +kernel) ?_
      exact k_iret hx hb hr hlocks hP hS dX8_about_153 ⟨by rw [aAbout, lvW, cif_t c8, abt_x h], τ, rfl, hT⟩
    · refine r_tabIn (z := 0) (off := 59) (tgt := 84) hx hb dX8_about_25 (by omega) (by omega) (by omega) rfl (by decide) ?_
      refine lv_aload_n hx hb dX8_about_84 rfl (lv_at hl 3 rfl) ?_
      refine r_get (C := RX7) (T := TX7) (N := 16) (ci := 7) hx hb hts hi_X7 hown hK hP 10 rfl (by decide) lk_X8_149 (fun _ h9 => h9) dX8_about_85 (by omega) (CE_w (by omega)) rfl ?_
      exact k_iret hx hb hr hlocks hP hS dX8_about_88 ⟨by rw [aAbout, lvW, cif_t c8, abt_0], τ, rfl, hT⟩
    · refine r_tabIn (z := 1) (off := 64) (tgt := 89) hx hb dX8_about_25 (by omega) (by omega) (by omega) rfl (by decide) ?_
      refine lv_aload_n hx hb dX8_about_89 rfl (lv_at hl 3 rfl) ?_
      refine r_get (C := RX7) (T := TX7) (N := 16) (ci := 7) hx hb hts hi_X7 hown hK hP 11 rfl (by decide) lk_X8_220 (fun _ h9 => h9) dX8_about_90 (by omega) (CE_w (by omega)) rfl ?_
      exact k_iret hx hb hr hlocks hP hS dX8_about_93 ⟨by rw [aAbout, lvW, cif_t c8, abt_1], τ, rfl, hT⟩
    · refine r_tabIn (z := 2) (off := 69) (tgt := 94) hx hb dX8_about_25 (by omega) (by omega) (by omega) rfl (by decide) ?_
      refine lv_aload_n hx hb dX8_about_94 rfl (lv_at hl 3 rfl) ?_
      refine r_get (C := RX7) (T := TX7) (N := 16) (ci := 7) hx hb hts hi_X7 hown hK hP 12 rfl (by decide) lk_X8_198 (fun _ h9 => h9) dX8_about_95 (by omega) (CE_w (by omega)) rfl ?_
      exact k_iret hx hb hr hlocks hP hS dX8_about_98 ⟨by rw [aAbout, lvW, cif_t c8, abt_2], τ, rfl, hT⟩
    · refine r_tabIn (z := 3) (off := 74) (tgt := 99) hx hb dX8_about_25 (by omega) (by omega) (by omega) rfl (by decide) ?_
      refine lv_aload_n hx hb dX8_about_99 rfl (lv_at hl 3 rfl) ?_
      refine r_get (C := RX7) (T := TX7) (N := 16) (ci := 7) hx hb hts hi_X7 hown hK hP 13 rfl (by decide) lk_X8_206 (fun _ h9 => h9) dX8_about_100 (by omega) (CE_w (by omega)) rfl ?_
      exact k_iret hx hb hr hlocks hP hS dX8_about_103 ⟨by rw [aAbout, lvW, cif_t c8, abt_3], τ, rfl, hT⟩
    · refine r_tabIn (z := 4) (off := 79) (tgt := 104) hx hb dX8_about_25 (by omega) (by omega) (by omega) rfl (by decide) ?_
      refine lv_aload_n hx hb dX8_about_104 rfl (lv_at hl 0 rfl) ?_
      refine r_get (C := RX8) (T := TX8) (N := 8) (ci := 8) hx hb hts hi_X8 hown hK hP 0 rfl (by decide) lk_X8_10 (fun _ h9 => h9) dX8_about_105 (by omega) CE_0 rfl ?_
      refine lv_aload_n hx hb dX8_about_108 rfl (lv_at hl 3 rfl) ?_
      refine k_calliV (nL := 4) (C := RX5) (T := TX5) (N := 8) (ci := 5) hx hb hml hown hts hK hP hS hl.1 (c_X5_costAlone hi hI.1 c8) rfl (Nat.le_of_ble_eq_true rfl) rfl (cwV 1 hts (gV lm_X8_223 ti_X5_costAlone tl_X5_costAlone tn_X5 tc_X5_costAlone) rfl rfl rfl (by decide +kernel) ⟨Nat.le_of_ble_eq_true rfl, Nat.le_of_ble_eq_true rfl⟩) rfl dX8_about_109 ⟨Nat.zero_le _, Nat.zero_le _⟩ (by omega) CE_1 (fun r109 E1 H locs hq hP hS => ?_)
      obtain ⟨rfl, rfl⟩ := hq
      exact k_iret hx hb hr hlocks hP hS dX8_about_112 ⟨by rw [aAbout, lvW, cif_t c8, abt_4], τ, rfl, hT⟩
    · refine r_tabIn (z := 5) (off := 88) (tgt := 113) hx hb dX8_about_25 (by omega) (by omega) (by omega) rfl (by decide) ?_
      refine lv_aload_n hx hb dX8_about_113 rfl (lv_at hl 0 rfl) ?_
      refine r_get (C := RX8) (T := TX8) (N := 8) (ci := 8) hx hb hts hi_X8 hown hK hP 0 rfl (by decide) lk_X8_10 (fun _ h9 => h9) dX8_about_114 (by omega) CE_0 rfl ?_
      refine lv_aload_n hx hb dX8_about_117 rfl (lv_at hl 3 rfl) ?_
      refine k_calliV (nL := 4) (C := RX5) (T := TX5) (N := 8) (ci := 5) hx hb hml hown hts hK hP hS hl.1 (c_X5_pays hi hI.1 c8) rfl (Nat.le_of_ble_eq_true rfl) rfl (cwV 1 hts (gV lm_X8_227 ti_X5_pays tl_X5_pays tn_X5 tc_X5_pays) rfl rfl rfl (by decide +kernel) ⟨Nat.le_of_ble_eq_true rfl, Nat.le_of_ble_eq_true rfl⟩) rfl dX8_about_118 ⟨Nat.zero_le _, Nat.zero_le _⟩ (by omega) CE_1 (fun r118 E1 H locs hq hP hS => ?_)
      obtain ⟨rfl, rfl⟩ := hq
      exact k_iret hx hb hr hlocks hP hS dX8_about_121 ⟨by rw [aAbout, lvW, cif_t c8, abt_5], τ, rfl, hT⟩
    · refine r_tabIn (z := 6) (off := 97) (tgt := 122) hx hb dX8_about_25 (by omega) (by omega) (by omega) rfl (by decide) ?_
      refine lv_aload_n hx hb dX8_about_122 rfl (lv_at hl 0 rfl) ?_
      refine r_get (C := RX8) (T := TX8) (N := 8) (ci := 8) hx hb hts hi_X8 hown hK hP 0 rfl (by decide) lk_X8_10 (fun _ h9 => h9) dX8_about_123 (by omega) CE_0 rfl ?_
      refine lv_aload_n hx hb dX8_about_126 rfl (lv_at hl 3 rfl) ?_
      refine k_calliV (nL := 4) (C := RX5) (T := TX5) (N := 8) (ci := 5) hx hb hml hown hts hK hP hS hl.1 (c_X5_fine hi hI.1 c8) rfl (Nat.le_of_ble_eq_true rfl) rfl (cwV 1 hts (gV lm_X8_230 ti_X5_fine tl_X5_fine tn_X5 tc_X5_fine) rfl rfl rfl (by decide +kernel) ⟨Nat.le_of_ble_eq_true rfl, Nat.le_of_ble_eq_true rfl⟩) rfl dX8_about_127 ⟨Nat.zero_le _, Nat.zero_le _⟩ (by omega) CE_1 (fun r127 E1 H locs hq hP hS => ?_)
      obtain ⟨rfl, rfl⟩ := hq
      exact k_iret hx hb hr hlocks hP hS dX8_about_130 ⟨by rw [aAbout, lvW, cif_t c8, abt_6], τ, rfl, hT⟩
    · refine r_tabIn (z := 7) (off := 106) (tgt := 131) hx hb dX8_about_25 (by omega) (by omega) (by omega) rfl (by decide) ?_
      refine lv_aload_n hx hb dX8_about_131 rfl (lv_at hl 3 rfl) ?_
      refine k_calliV (nL := 4) (C := RX7) (T := TX7) (N := 16) (ci := 7) hx hb hml hown hts hK hP hS hl.1 (c_X7_delay hi (by omega) (by omega) (by omega)) rfl (Nat.le_of_ble_eq_true rfl) rfl (cwV 0 hts (gV lm_X8_233 ti_X7_delay tl_X7_delay tn_X7 tc_X7_delay) rfl rfl rfl (by decide +kernel) ⟨Nat.le_of_ble_eq_true rfl, Nat.le_of_ble_eq_true rfl⟩) rfl dX8_about_132 ⟨Nat.zero_le _, Nat.zero_le _⟩ (by omega) (CE_w (by omega)) (fun r132 E1 H locs hq hP hS => ?_)
      obtain ⟨rfl, rfl⟩ := hq
      exact k_iret hx hb hr hlocks hP hS dX8_about_135 ⟨by rw [aAbout, lvW, cif_t c8, abt_7], τ, rfl, hT⟩
    · refine r_tabIn (z := 8) (off := 111) (tgt := 136) hx hb dX8_about_25 (by omega) (by omega) (by omega) rfl (by decide) ?_
      refine lv_aload_n hx hb dX8_about_136 rfl (lv_at hl 3 rfl) ?_
      refine r_get (C := RX7) (T := TX7) (N := 16) (ci := 7) hx hb hts hi_X7 hown hK hP 14 rfl (by decide) lk_X8_152 (fun _ h9 => h9) dX8_about_137 (by omega) (CE_w (by omega)) rfl ?_
      exact k_iret hx hb hr hlocks hP hS dX8_about_140 ⟨by rw [aAbout, lvW, cif_t c8, abt_8], τ, rfl, hT⟩
    · refine r_tabIn (z := 9) (off := 116) (tgt := 141) hx hb dX8_about_25 (by omega) (by omega) (by omega) rfl (by decide) ?_
      refine lv_aload_n hx hb dX8_about_141 rfl (lv_at hl 3 rfl) ?_
      refine r_get (C := RX7) (T := TX7) (N := 16) (ci := 7) hx hb hts hi_X7 hown hK hP 2 rfl (by decide) lk_X8_155 (fun _ h9 => h9) dX8_about_142 (by omega) (CE_w (by omega)) rfl ?_
      exact k_iret hx hb hr hlocks hP hS dX8_about_145 ⟨by rw [aAbout, lvW, cif_t c8, abt_9], τ, rfl, hT⟩
    · refine r_tabIn (z := 10) (off := 121) (tgt := 146) hx hb dX8_about_25 (by omega) (by omega) (by omega) rfl (by decide) ?_
      refine lv_aload_n hx hb dX8_about_146 rfl (lv_at hl 3 rfl) ?_
      refine r_get (C := RX7) (T := TX7) (N := 16) (ci := 7) hx hb hts hi_X7 hown hK hP 15 rfl (by decide) lk_X8_236 (fun _ h9 => h9) dX8_about_147 (by omega) (CE_w (by omega)) rfl ?_
      exact k_iret hx hb hr hlocks hP hS dX8_about_150 ⟨by rw [aAbout, lvW, cif_t c8, abt_10], τ, rfl, hT⟩
  · refine r_bipush hx hb dX8_about_11 (by decide +kernel) ?_
    exact k_iret hx hb hr hlocks hP hS dX8_about_13 ⟨by rw [aAbout, lvW, cif_f c8], τ, rfl, hT⟩
abbrev rmX8_lanes : Room := { frames := 3, cells := 0, slots := 0, locals := 66 }
set_option maxRecDepth 100000 in
set_option maxHeartbeats 4000000 in
theorem c_X8_lanes {l : Launch} {D : va_G} {G : Nat → ClassId} {ad : Nat → Nat} {σ τ : Tb} (hi : kInj 189 ad) {p d : Int} (hI : InvS σ) (hT : TI τ) (hp : (-2147483648 ≤ p ∧ p < 2147483648)) (hd : (-2147483648 ≤ d ∧ d < 2147483648)) : Met l yX8_lanes wsX8_lanes rmX8_lanes (kPc D (tysG G) 189 ad (CE G ad σ τ) [.ref (ad 0), .int (iI p), .int (iI d)]) (kQi D 189 ad (fun z E' => z = aLanes σ p d ∧ ∃ τ', E' = CE G ad σ τ' ∧ TI τ')) 0 0 (kA 189 ad) := by
  refine k_met (cc := cX8_lanes) (maxL := 3) (ret := (some .int)) (by decide) (Nat.le_of_ble_eq_true rfl) ?_
  intro P0 e0 s m0 below meth c0 ls hx hb hr hlocks hml hown hts hK hP hS hl
  replace hl : lv_has ls 3 [(0, _), (1, _), (2, _)] := hl
  replace hown : s.vm.findClass RX8 = some m0.cls := hown
  refine k_abs (fun Wg hWg => ?_)
  have h0 := Inv_0 hI.1
  have hT0 := hT
  unfold TI at hT
  refine lv_aload_n hx hb dX8_lanes_0 rfl (lv_at hl 0 rfl) ?_
  refine r_get (C := RX8) (T := TX8) (N := 8) (ci := 8) hx hb hts hi_X8 hown hK hP 0 rfl (by decide) lk_X8_10 (fun _ h9 => h9) dX8_lanes_1 (by omega) CE_0 rfl ?_
  refine lv_iload_n hx hb dX8_lanes_4 rfl (lv_at hl 1 rfl) ?_
  refine k_calliV (nL := 3) (C := RX5) (T := TX5) (N := 8) (ci := 5) hx hb hml hown hts hK hP hS hl.1 (c_X5_hasPiece hi hp hI.1) rfl (Nat.le_of_ble_eq_true rfl) rfl (cwV 1 hts (gV lm_X8_108 ti_X5_hasPiece tl_X5_hasPiece tn_X5 tc_X5_hasPiece) rfl rfl rfl (by decide +kernel) ⟨Nat.le_of_ble_eq_true rfl, Nat.le_of_ble_eq_true rfl⟩) rfl dX8_lanes_5 ⟨Nat.zero_le _, Nat.zero_le _⟩ (by omega) CE_1 (fun r5 E1 H locs hq hP hS => ?_)
  obtain ⟨rfl, rfl⟩ := hq
  refine r_ifB_eq (tgt := 18) hx hb dX8_lanes_8 (by decide) (fun c8 => ?_) (fun c8 => ?_)
  · refine r_const hx hb dX8_lanes_18 ?_
    exact k_iret hx hb hr hlocks hP hS dX8_lanes_19 ⟨by rw [aLanes, cif_f (fun z => c8 z.1)], τ, rfl, hT0⟩
  · refine lv_iload_n hx hb dX8_lanes_11 rfl (lv_at hl 2 rfl) ?_
    refine k_calliS (nL := 3) hx hb hml hown hts hK hP hS hl.1 (c_X8_isDay hi hd) rfl (Nat.le_of_ble_eq_true rfl) (va_cwS 1 hts (gS lm_X8_100 ts_X8_isDay tn_X8 tc_X8_isDay) rfl rfl rfl (by decide +kernel) ⟨Nat.le_of_ble_eq_true rfl, Nat.le_of_ble_eq_true rfl⟩) rfl dX8_lanes_12 ⟨Nat.zero_le _, Nat.zero_le _⟩ (fun r12 E1 H locs hq hP hS => ?_)
    obtain ⟨rfl, rfl⟩ := hq
    refine r_ifB_ne (tgt := 20) hx hb dX8_lanes_15 (by decide) (fun c15 => ?_) (fun c15 => ?_)
    · refine lv_aload_n hx hb dX8_lanes_20 rfl (lv_at hl 0 rfl) ?_
      refine r_get (C := RX8) (T := TX8) (N := 8) (ci := 8) hx hb hts hi_X8 hown hK hP 1 rfl (by decide) lk_X8_21 (fun _ h9 => h9) dX8_lanes_21 (by omega) CE_0 rfl ?_
      refine k_callvV (nL := 3) (C := RX0) (T := TX0) (N := 9) (ci := 0) hx hb hml hown hts hK hP hS hl.1 (c_X0_gatherAll hi hI.1) rfl (Nat.le_of_ble_eq_true rfl) rfl (cwV 0 hts (gV lm_X8_239 ti_X0_gatherAll tl_X0_gatherAll tn_X0 tc_X0_gatherAll) rfl rfl rfl (by decide +kernel) ⟨Nat.le_of_ble_eq_true rfl, Nat.le_of_ble_eq_true rfl⟩) rfl dX8_lanes_24 ⟨Nat.zero_le _, Nat.zero_le _⟩ (by omega) CE_2 (fun E1 H locs hq hP hS => ?_)
      obtain ⟨τ1, rfl, hG, hF1⟩ := hq
      refine lv_aload_n hx hb dX8_lanes_27 rfl (lv_at hl 0 rfl) ?_
      refine r_get (C := RX8) (T := TX8) (N := 8) (ci := 8) hx hb hts hi_X8 hown hK hP 1 rfl (by decide) lk_X8_21 (fun _ h9 => h9) dX8_lanes_28 (by omega) CE_0 rfl ?_
      refine lv_iload_n hx hb dX8_lanes_31 rfl (lv_at hl 2 rfl) ?_
      refine k_calllV (nL := 3) (C := RX0) (T := TX0) (N := 9) (ci := 0) hx hb hml hown hts hK hP hS hl.1 (c_X0_survey hi hI.1 hd hG.1 hG.2.1) rfl (Nat.le_of_ble_eq_true rfl) rfl (cwV 1 hts (gV lm_X8_242 ti_X0_survey tl_X0_survey tn_X0 tc_X0_survey) rfl rfl rfl (by decide +kernel) ⟨Nat.le_of_ble_eq_true rfl, Nat.le_of_ble_eq_true rfl⟩) rfl dX8_lanes_32 ⟨Nat.zero_le _, Nat.zero_le _⟩ (by omega) CE_2 (fun r32 E1 H locs hq hP hS => ?_)
      obtain ⟨τ2, rfl, _, hTk, hF2⟩ := hq
      have hT2 : TI τ2 := by unfold TI; rw [hF2 2 4 (by decide), hF1.2 4 (by decide)]; exact hT
      refine lv_pop2_2 hx hb dX8_lanes_35 rfl ?_
      refine lv_aload_n hx hb dX8_lanes_36 rfl (lv_at hl 0 rfl) ?_
      refine r_get (C := RX8) (T := TX8) (N := 8) (ci := 8) hx hb hts hi_X8 hown hK hP 1 rfl (by decide) lk_X8_21 (fun _ h9 => h9) dX8_lanes_37 (by omega) CE_0 rfl ?_
      refine r_get (C := RX0) (T := TX0) (N := 9) (ci := 0) hx hb hts hi_X0 hown hK hP 6 rfl (by decide) lk_X8_246 (fun _ h9 => h9) dX8_lanes_40 (by omega) CE_2 rfl ?_
      refine lv_iload_n hx hb dX8_lanes_43 rfl (lv_at hl 1 rfl) ?_
      refine r_iald hx hb hK hP 0 rfl dX8_lanes_44 (by omega) rfl (by omega) (by omega) (tI_at (by omega)) ?_
      rw [(hTk p (by omega) (by omega))]
      exact k_iret hx hb hr hlocks hP hS dX8_lanes_45 ⟨by rw [aLanes, cif_t ⟨c8, c15⟩], τ2, rfl, hT2⟩
    · refine r_const hx hb dX8_lanes_18 ?_
      exact k_iret hx hb hr hlocks hP hS dX8_lanes_19 ⟨by rw [aLanes, cif_f (fun z => c15 z.2)], τ, rfl, hT0⟩
abbrev rmX8_way : Room := { frames := 3, cells := 0, slots := 0, locals := 66 }
set_option maxRecDepth 100000 in
set_option maxHeartbeats 4000000 in
theorem c_X8_way {l : Launch} {D : va_G} {G : Nat → ClassId} {ad : Nat → Nat} {σ τ : Tb} (hi : kInj 189 ad) {k d : Int} (hI : InvS σ) (hT : TI τ) (hk : (-2147483648 ≤ k ∧ k < 2147483648)) (hd : (-2147483648 ≤ d ∧ d < 2147483648)) : Met l yX8_way wsX8_way rmX8_way (kPc D (tysG G) 189 ad (CE G ad σ τ) [.ref (ad 0), .int (iI k), .int (iI d)]) (kQi D 189 ad (fun z E' => z = aWay σ k d ∧ ∃ τ', E' = CE G ad σ τ' ∧ TI τ')) 0 0 (kA 189 ad) := by
  refine k_met (cc := cX8_way) (maxL := 3) (ret := (some .int)) (by decide) (Nat.le_of_ble_eq_true rfl) ?_
  intro P0 e0 s m0 below meth c0 ls hx hb hr hlocks hml hown hts hK hP hS hl
  replace hl : lv_has ls 3 [(0, _), (1, _), (2, _)] := hl
  replace hown : s.vm.findClass RX8 = some m0.cls := hown
  refine k_abs (fun Wg hWg => ?_)
  have h0 := Inv_0 hI.1
  have hT0 := hT
  unfold TI at hT
  refine lv_aload_n hx hb dX8_way_0 rfl (lv_at hl 0 rfl) ?_
  refine r_get (C := RX8) (T := TX8) (N := 8) (ci := 8) hx hb hts hi_X8 hown hK hP 0 rfl (by decide) lk_X8_10 (fun _ h9 => h9) dX8_way_1 (by omega) CE_0 rfl ?_
  refine lv_iload_n hx hb dX8_way_4 rfl (lv_at hl 1 rfl) ?_
  refine k_calliV (nL := 3) (C := RX5) (T := TX5) (N := 8) (ci := 5) hx hb hml hown hts hK hP hS hl.1 (c_X5_hasPair hi hk hI.1) rfl (Nat.le_of_ble_eq_true rfl) rfl (cwV 1 hts (gV lm_X8_250 ti_X5_hasPair tl_X5_hasPair tn_X5 tc_X5_hasPair) rfl rfl rfl (by decide +kernel) ⟨Nat.le_of_ble_eq_true rfl, Nat.le_of_ble_eq_true rfl⟩) rfl dX8_way_5 ⟨Nat.zero_le _, Nat.zero_le _⟩ (by omega) CE_1 (fun r5 E1 H locs hq hP hS => ?_)
  obtain ⟨rfl, rfl⟩ := hq
  refine r_ifB_eq (tgt := 18) hx hb dX8_way_8 (by decide) (fun c8 => ?_) (fun c8 => ?_)
  · refine r_const hx hb dX8_way_18 ?_
    exact k_iret hx hb hr hlocks hP hS dX8_way_19 ⟨by rw [aWay, cif_f (fun z => c8 z.1)], τ, rfl, hT0⟩
  · refine lv_iload_n hx hb dX8_way_11 rfl (lv_at hl 2 rfl) ?_
    refine k_calliS (nL := 3) hx hb hml hown hts hK hP hS hl.1 (c_X8_isDay hi hd) rfl (Nat.le_of_ble_eq_true rfl) (va_cwS 1 hts (gS lm_X8_100 ts_X8_isDay tn_X8 tc_X8_isDay) rfl rfl rfl (by decide +kernel) ⟨Nat.le_of_ble_eq_true rfl, Nat.le_of_ble_eq_true rfl⟩) rfl dX8_way_12 ⟨Nat.zero_le _, Nat.zero_le _⟩ (fun r12 E1 H locs hq hP hS => ?_)
    obtain ⟨rfl, rfl⟩ := hq
    refine r_ifB_ne (tgt := 20) hx hb dX8_way_15 (by decide) (fun c15 => ?_) (fun c15 => ?_)
    · refine lv_aload_n hx hb dX8_way_20 rfl (lv_at hl 0 rfl) ?_
      refine r_get (C := RX8) (T := TX8) (N := 8) (ci := 8) hx hb hts hi_X8 hown hK hP 1 rfl (by decide) lk_X8_21 (fun _ h9 => h9) dX8_way_21 (by omega) CE_0 rfl ?_
      refine k_callvV (nL := 3) (C := RX0) (T := TX0) (N := 9) (ci := 0) hx hb hml hown hts hK hP hS hl.1 (c_X0_gatherAll hi hI.1) rfl (Nat.le_of_ble_eq_true rfl) rfl (cwV 0 hts (gV lm_X8_239 ti_X0_gatherAll tl_X0_gatherAll tn_X0 tc_X0_gatherAll) rfl rfl rfl (by decide +kernel) ⟨Nat.le_of_ble_eq_true rfl, Nat.le_of_ble_eq_true rfl⟩) rfl dX8_way_24 ⟨Nat.zero_le _, Nat.zero_le _⟩ (by omega) CE_2 (fun E1 H locs hq hP hS => ?_)
      obtain ⟨τ1, rfl, hG, hF1⟩ := hq
      refine lv_aload_n hx hb dX8_way_27 rfl (lv_at hl 0 rfl) ?_
      refine r_get (C := RX8) (T := TX8) (N := 8) (ci := 8) hx hb hts hi_X8 hown hK hP 2 rfl (by decide) lk_X8_28 (fun _ h9 => h9) dX8_way_28 (by omega) CE_0 rfl ?_
      refine lv_aload_n hx hb dX8_way_31 rfl (lv_at hl 0 rfl) ?_
      refine r_get (C := RX8) (T := TX8) (N := 8) (ci := 8) hx hb hts hi_X8 hown hK hP 0 rfl (by decide) lk_X8_10 (fun _ h9 => h9) dX8_way_32 (by omega) CE_0 rfl ?_
      refine r_get (C := RX5) (T := TX5) (N := 8) (ci := 5) hx hb hts hi_X5 hown hK hP 1 rfl (by decide) lk_X8_89 (fun _ h9 => h9) dX8_way_35 (by omega) CE_1 rfl ?_
      refine lv_iload_n hx hb dX8_way_38 rfl (lv_at hl 1 rfl) ?_
      refine r_aald hx hb hK hP 3 rfl dX8_way_39 (by omega) rfl (by omega) (by omega) rfl ?_
      refine lv_aload_n hx hb dX8_way_40 rfl (lv_at hl 0 rfl) ?_
      refine r_get (C := RX8) (T := TX8) (N := 8) (ci := 8) hx hb hts hi_X8 hown hK hP 1 rfl (by decide) lk_X8_21 (fun _ h9 => h9) dX8_way_41 (by omega) CE_0 rfl ?_
      refine lv_iload_n hx hb dX8_way_44 rfl (lv_at hl 2 rfl) ?_
      refine k_calllV (nL := 3) (C := RX0) (T := TX0) (N := 9) (ci := 0) hx hb hml hown hts hK hP hS hl.1 (c_X0_survey hi hI.1 hd hG.1 hG.2.1) rfl (Nat.le_of_ble_eq_true rfl) rfl (cwV 1 hts (gV lm_X8_242 ti_X0_survey tl_X0_survey tn_X0 tc_X0_survey) rfl rfl rfl (by decide +kernel) ⟨Nat.le_of_ble_eq_true rfl, Nat.le_of_ble_eq_true rfl⟩) rfl dX8_way_45 ⟨Nat.zero_le _, Nat.zero_le _⟩ (by omega) CE_2 (fun r45 E1 H locs hq hP hS => ?_)
      obtain ⟨τ2, rfl, rfl, hTk, hF2⟩ := hq
      have hm := msk_40 (P := fun p => σ 3 p ≤ tkC σ (cnts σ (-1) False) p d) (i := σ 0 0) (by omega)
      refine k_calliV (nL := 3) (C := RX6) (T := TX6) (N := 2) (ci := 6) hx hb hml hown hts hK hP hS hl.1 (c_X6_fewest (k := k) hi hI.1 c8 hm) rfl (Nat.le_of_ble_eq_true rfl) rfl (cwV 2 hts (gV lm_X8_253 ti_X6_fewest tl_X6_fewest tn_X6 tc_X6_fewest) rfl rfl rfl (by decide +kernel) ⟨Nat.le_of_ble_eq_true rfl, Nat.le_of_ble_eq_true rfl⟩) rfl dX8_way_48 ⟨Nat.zero_le _, Nat.zero_le _⟩ (by omega) CE_3 (fun r48 E1 H locs hq hP hS => ?_)
      obtain ⟨rfl, τ3, rfl, hF3⟩ := hq
      have hT2 : TI τ3 := by unfold TI; rw [hF3 2 4 (by decide), hF2 2 4 (by decide), hF1.2 4 (by decide)]; exact hT
      exact k_iret hx hb hr hlocks hP hS dX8_way_51 ⟨by rw [aWay, cif_t ⟨c8, c15⟩]; rfl, τ3, rfl, hT2⟩
    · refine r_const hx hb dX8_way_18 ?_
      exact k_iret hx hb hr hlocks hP hS dX8_way_19 ⟨by rw [aWay, cif_f (fun z => c15 z.2)], τ, rfl, hT0⟩
abbrev rmX8_shut : Room := { frames := 3, cells := 0, slots := 0, locals := 66 }
set_option maxRecDepth 100000 in
set_option maxHeartbeats 4000000 in
theorem c_X8_shut {l : Launch} {D : va_G} {G : Nat → ClassId} {ad : Nat → Nat} {σ τ : Tb} (hi : kInj 189 ad) {d : Int} (hI : InvS σ) (hT : TI τ) (hd : (-2147483648 ≤ d ∧ d < 2147483648)) : Met l yX8_shut wsX8_shut rmX8_shut (kPc D (tysG G) 189 ad (CE G ad σ τ) [.ref (ad 0), .int (iI d)]) (kQi D 189 ad (fun z E' => z = aShut σ d ∧ ∃ τ', E' = CE G ad σ τ' ∧ TI τ')) 0 0 (kA 189 ad) := by
  refine k_met (cc := cX8_shut) (maxL := 6) (ret := (some .int)) (by decide) (Nat.le_of_ble_eq_true rfl) ?_
  intro P0 e0 s m0 below meth c0 ls hx hb hr hlocks hml hown hts hK hP hS hl
  replace hl : lv_has ls 6 [(0, _), (1, _)] := hl
  replace hown : s.vm.findClass RX8 = some m0.cls := hown
  refine k_abs (fun Wg hWg => ?_)
  have h0 := Inv_0 hI.1
  have hT0 := hT
  unfold TI at hT
  refine lv_iload_n hx hb dX8_shut_0 rfl (lv_at hl 1 rfl) ?_
  refine k_calliS (nL := 6) hx hb hml hown hts hK hP hS hl.1 (c_X8_isDay hi hd) rfl (Nat.le_of_ble_eq_true rfl) (va_cwS 1 hts (gS lm_X8_100 ts_X8_isDay tn_X8 tc_X8_isDay) rfl rfl rfl (by decide +kernel) ⟨Nat.le_of_ble_eq_true rfl, Nat.le_of_ble_eq_true rfl⟩) rfl dX8_shut_1 ⟨Nat.zero_le _, Nat.zero_le _⟩ (fun r1 E1 H locs hq hP hS => ?_)
  obtain ⟨rfl, rfl⟩ := hq
  refine r_ifB_ne (tgt := 9) hx hb dX8_shut_4 (by decide) (fun c4 => ?_) (fun c4 => ?_)
  · refine lv_aload_n hx hb dX8_shut_9 rfl (lv_at hl 0 rfl) ?_
    refine r_get (C := RX8) (T := TX8) (N := 8) (ci := 8) hx hb hts hi_X8 hown hK hP 1 rfl (by decide) lk_X8_21 (fun _ h9 => h9) dX8_shut_10 (by omega) CE_0 rfl ?_
    refine k_callvV (nL := 6) (C := RX0) (T := TX0) (N := 9) (ci := 0) hx hb hml hown hts hK hP hS hl.1 (c_X0_gatherAll hi hI.1) rfl (Nat.le_of_ble_eq_true rfl) rfl (cwV 0 hts (gV lm_X8_239 ti_X0_gatherAll tl_X0_gatherAll tn_X0 tc_X0_gatherAll) rfl rfl rfl (by decide +kernel) ⟨Nat.le_of_ble_eq_true rfl, Nat.le_of_ble_eq_true rfl⟩) rfl dX8_shut_13 ⟨Nat.zero_le _, Nat.zero_le _⟩ (by omega) CE_2 (fun E1 H locs hq hP hS => ?_)
    obtain ⟨τ1, rfl, hG, hF1⟩ := hq
    refine lv_aload_n hx hb dX8_shut_16 rfl (lv_at hl 0 rfl) ?_
    refine r_get (C := RX8) (T := TX8) (N := 8) (ci := 8) hx hb hts hi_X8 hown hK hP 1 rfl (by decide) lk_X8_21 (fun _ h9 => h9) dX8_shut_17 (by omega) CE_0 rfl ?_
    refine lv_iload_n hx hb dX8_shut_20 rfl (lv_at hl 1 rfl) ?_
    refine k_calllV (nL := 6) (C := RX0) (T := TX0) (N := 9) (ci := 0) hx hb hml hown hts hK hP hS hl.1 (c_X0_survey hi hI.1 hd hG.1 hG.2.1) rfl (Nat.le_of_ble_eq_true rfl) rfl (cwV 1 hts (gV lm_X8_242 ti_X0_survey tl_X0_survey tn_X0 tc_X0_survey) rfl rfl rfl (by decide +kernel) ⟨Nat.le_of_ble_eq_true rfl, Nat.le_of_ble_eq_true rfl⟩) rfl dX8_shut_21 ⟨Nat.zero_le _, Nat.zero_le _⟩ (by omega) CE_2 (fun r21 E1 H locs hq hP hS => ?_)
    obtain ⟨τ2, rfl, rfl, hTk, hF2⟩ := hq
    have hm := msk_40 (P := fun p => σ 3 p ≤ tkC σ (cnts σ (-1) False) p d) (i := σ 0 0) (by omega)
    have hT2 : TI τ2 := by unfold TI; rw [hF2 2 4 (by decide), hF1.2 4 (by decide)]; exact hT
    rw [show msk (fun p => σ 3 p ≤ tkC σ (cnts σ (-1) False) p d) (σ 0 0).toNat = shD σ d from rfl] at hm ⊢
    refine lv_lstore_n hx hb dX8_shut_24 rfl hl (by decide) rfl (fun ls hl => ?_)
    replace hl : lv_has ls 6 [(0, _), (1, _), (2, _)] := lv_sub hl [1, 2, 0] rfl
    refine r_const hx hb dX8_shut_25 ?_
    refine lv_istore hx hb dX8_shut_26 hl (by decide) rfl (fun ls hl => ?_)
    replace hl : lv_has ls 6 [(0, _), (1, _), (2, _), (4, _)] := lv_sub hl [1, 2, 3, 0] rfl
    refine r_const hx hb dX8_shut_28 ?_
    refine lv_istore hx hb dX8_shut_29 hl (by decide) rfl (fun ls hl => ?_)
    replace hl : lv_has ls 6 [(0, _), (1, _), (2, _), (4, _), (5, _)] := lv_sub hl [1, 2, 3, 4, 0] rfl
    have loop31 : ∀ (nn : Nat) (i c : Int) (τ3 : Tb) (H : Heap) (locs : List Loc) (ls : Array Slot), va_P D vwCl (kw 189 ad (CE G ad σ τ3)) H → va_S (kA 189 ad) s.heap H locs → lv_has ls 6 [(0, .ref (ad 0)), (1, .int (iI d)), (2, .long (lN (shD σ d))), (4, .int (iI c)), (5, .int (iI i))] → ((0 ≤ i ∧ i ≤ σ 0 1) ∧ c = sumI (fun k => bI (¬ dst σ (shD σ d) (σ 7 k) (σ 8 k) ≤ σ 9 k)) i ∧ TI τ3) → (σ 0 1 - i).toNat < nn → Wg H locs (F0 m0 31 ls []) := by
      intro nn
      induction nn with
      | zero => intro i c τ3 H locs ls _ _ _ _ hn; omega
      | succ nn ih31 =>
        intro i c τ3 H locs ls hP hS hl hv31 hn31
        rw [hWg]
        obtain ⟨hv, hc, hT3⟩ := hv31
        refine lv_iload hx hb dX8_shut_31 (lv_at hl 4 rfl) ?_
        refine lv_aload_n hx hb dX8_shut_33 rfl (lv_at hl 0 rfl) ?_
        refine r_get (C := RX8) (T := TX8) (N := 8) (ci := 8) hx hb hts hi_X8 hown hK hP 0 rfl (by decide) lk_X8_10 (fun _ h9 => h9) dX8_shut_34 (by omega) CE_0 rfl ?_
        refine r_get (C := RX5) (T := TX5) (N := 8) (ci := 5) hx hb hts hi_X5 hown hK hP 5 rfl (by decide) lk_X8_86 (fun _ h9 => h9) dX8_shut_37 (by omega) CE_1 rfl ?_
        refine r_icmp_ge (tgt := 73) hx hb (by omega) (by omega) dX8_shut_40 (by decide) (fun c40 => ?_) (fun c40 => ?_)
        · obtain rfl : i = σ 0 1 := by omega
          refine lv_iload hx hb dX8_shut_73 (lv_at hl 3 rfl) ?_
          exact k_iret hx hb hr hlocks hP hS dX8_shut_75 ⟨by rw [aShut, cif_t c4, hc], τ3, rfl, hT3⟩
        · refine lv_aload_n hx hb dX8_shut_43 rfl (lv_at hl 0 rfl) ?_
          refine r_get (C := RX8) (T := TX8) (N := 8) (ci := 8) hx hb hts hi_X8 hown hK hP 2 rfl (by decide) lk_X8_28 (fun _ h9 => h9) dX8_shut_44 (by omega) CE_0 rfl ?_
          refine lv_aload_n hx hb dX8_shut_47 rfl (lv_at hl 0 rfl) ?_
          refine r_get (C := RX8) (T := TX8) (N := 8) (ci := 8) hx hb hts hi_X8 hown hK hP 0 rfl (by decide) lk_X8_10 (fun _ h9 => h9) dX8_shut_48 (by omega) CE_0 rfl ?_
          refine r_get (C := RX5) (T := TX5) (N := 8) (ci := 5) hx hb hts hi_X5 hown hK hP 1 rfl (by decide) lk_X8_89 (fun _ h9 => h9) dX8_shut_51 (by omega) CE_1 rfl ?_
          refine lv_iload hx hb dX8_shut_54 (lv_at hl 4 rfl) ?_
          refine r_aald hx hb hK hP 3 rfl dX8_shut_56 (by omega) rfl (by omega) (by omega) rfl ?_
          refine lv_lload_n hx hb dX8_shut_57 rfl (lv_at hl 2 rfl) ?_
          refine k_calliV (nL := 6) (C := RX6) (T := TX6) (N := 2) (ci := 6) hx hb hml hown hts hK hP hS hl.1 (c_X6_isOpen (k := i) hi hI.1 (by omega) hm) rfl (Nat.le_of_ble_eq_true rfl) rfl (cwV 2 hts (gV lm_X8_257 ti_X6_isOpen tl_X6_isOpen tn_X6 tc_X6_isOpen) rfl rfl rfl (by decide +kernel) ⟨Nat.le_of_ble_eq_true rfl, Nat.le_of_ble_eq_true rfl⟩) rfl dX8_shut_58 ⟨Nat.zero_le _, Nat.zero_le _⟩ (by omega) CE_3 (fun r58 E1 H locs hq hP hS => ?_)
          obtain ⟨rfl, τ4, rfl, hF4⟩ := hq
          have hT4 : TI τ4 := by unfold TI; rw [hF4 2 4 (by decide)]; exact hT3
          refine r_ifB_ne (tgt := 67) hx hb dX8_shut_61 (by decide) (fun c61 => ?_) (fun c61 => ?_)
          · refine r_iinc hx hb dX8_shut_67 hl (k := 4) rfl (by decide) (fun ls hl => ?_)
            replace hl : lv_has ls 6 [(0, _), (1, _), (2, _), (4, _), (5, _)] := lv_sub hl [1, 2, 3, 4, 0] rfl
            refine lv_goto (tgt := 31) hx hb dX8_shut_70 (by decide) ?_
            rw [← hWg]
            exact ih31 (i + 1) c _ _ _ _ hP hS hl ⟨by omega, by rw [sumI_s (by omega), bI_f (fun z => z c61), hc]; omega, hT4⟩ (by omega)
          · refine r_iinc hx hb dX8_shut_64 hl (k := 3) rfl (by decide) (fun ls hl => ?_)
            replace hl : lv_has ls 6 [(0, _), (1, _), (2, _), (4, _), (5, _)] := lv_sub hl [1, 2, 3, 0, 4] rfl
            refine r_iinc hx hb dX8_shut_67 hl (k := 4) rfl (by decide) (fun ls hl => ?_)
            replace hl : lv_has ls 6 [(0, _), (1, _), (2, _), (4, _), (5, _)] := lv_sub hl [1, 2, 3, 4, 0] rfl
            refine lv_goto (tgt := 31) hx hb dX8_shut_70 (by decide) ?_
            rw [← hWg]
            exact ih31 (i + 1) (c + 1) _ _ _ _ hP hS hl ⟨by omega, by rw [sumI_s (by omega), bI_t c61, hc], hT4⟩ (by omega)
    rw [← hWg]
    exact loop31 _ 0 0 _ _ _ _ hP hS hl ⟨by omega, sumI_0.symm, hT2⟩ (Nat.lt_succ_self _)
  · refine r_const hx hb dX8_shut_7 ?_
    exact k_iret hx hb hr hlocks hP hS dX8_shut_8 ⟨by rw [aShut, cif_f c4], τ, rfl, hT0⟩
abbrev rmX8_price : Room := { frames := 1, cells := 0, slots := 0, locals := 23 }
set_option maxRecDepth 100000 in
set_option maxHeartbeats 4000000 in
theorem c_X8_price {l : Launch} {D : va_G} {G : Nat → ClassId} {ad : Nat → Nat} {σ τ : Tb} (hi : kInj 189 ad) (hI : InvS σ) (hT : TI τ) : Met l yX8_price wsX8_price rmX8_price (kPc D (tysG G) 189 ad (CE G ad σ τ) [.ref (ad 0)]) (kQi D 189 ad (fun z E' => z = aPrice σ ∧ ∃ τ', E' = CE G ad σ τ' ∧ TI τ')) 0 0 (kA 189 ad) := by
  refine k_met (cc := cX8_price) (maxL := 3) (ret := (some .int)) (by decide) (Nat.le_of_ble_eq_true rfl) ?_
  intro P0 e0 s m0 below meth c0 ls hx hb hr hlocks hml hown hts hK hP hS hl
  replace hl : lv_has ls 3 [(0, _)] := hl
  replace hown : s.vm.findClass RX8 = some m0.cls := hown
  refine k_abs (fun Wg hWg => ?_)
  have h0 := Inv_0 hI.1
  refine r_sipush hx hb dX8_price_0 (by decide +kernel) ?_
  refine lv_aload_n hx hb dX8_price_3 rfl (lv_at hl 0 rfl) ?_
  refine r_get (C := RX8) (T := TX8) (N := 8) (ci := 8) hx hb hts hi_X8 hown hK hP 0 rfl (by decide) lk_X8_10 (fun _ h9 => h9) dX8_price_4 (by omega) CE_0 rfl ?_
  refine r_const hx hb dX8_price_7 ?_
  refine k_calliV (nL := 3) (C := RX5) (T := TX5) (N := 8) (ci := 5) hx hb hml hown hts hK hP hS hl.1 (c_X5_worksIn hi (by omega) hI.1) rfl (Nat.le_of_ble_eq_true rfl) rfl (cwV 1 hts (gV lm_X8_260 ti_X5_worksIn tl_X5_worksIn tn_X5 tc_X5_worksIn) rfl rfl rfl (by decide +kernel) ⟨Nat.le_of_ble_eq_true rfl, Nat.le_of_ble_eq_true rfl⟩) rfl dX8_price_8 ⟨Nat.zero_le _, Nat.zero_le _⟩ (by omega) CE_1 (fun r8 E1 H locs hq hP hS => ?_)
  obtain ⟨rfl, rfl⟩ := hq
  refine r_mul hx hb dX8_price_11 ?_
  refine lv_istore_n hx hb dX8_price_12 rfl hl (by decide) rfl (fun ls hl => ?_)
  replace hl : lv_has ls 3 [(0, _), (1, _)] := lv_sub hl [1, 0] rfl
  refine r_const hx hb dX8_price_13 ?_
  refine lv_istore_n hx hb dX8_price_14 rfl hl (by decide) rfl (fun ls hl => ?_)
  replace hl : lv_has ls 3 [(0, _), (1, _), (2, _)] := lv_sub hl [1, 2, 0] rfl
  have loop15 : ∀ (nn : Nat) (i c : Int) (H : Heap) (locs : List Loc) (ls : Array Slot), va_P D vwCl (kw 189 ad (CE G ad σ τ)) H → va_S (kA 189 ad) s.heap H locs → lv_has ls 3 [(0, .ref (ad 0)), (1, .int (iI c)), (2, .int (iI i))] → ((0 ≤ i ∧ i ≤ σ 0 2) ∧ c = 500 * cntS σ 0 + sumI (fun w => dlyC σ w) i) → (σ 0 2 - i).toNat < nn → Wg H locs (F0 m0 15 ls []) := by
    intro nn
    induction nn with
    | zero => intro i c H locs ls _ _ _ _ hn; omega
    | succ nn ih15 =>
      intro i c H locs ls hP hS hl hv15 hn15
      rw [hWg]
      obtain ⟨hv, hc⟩ := hv15
      refine lv_iload_n hx hb dX8_price_15 rfl (lv_at hl 2 rfl) ?_
      refine lv_aload_n hx hb dX8_price_16 rfl (lv_at hl 0 rfl) ?_
      refine r_get (C := RX8) (T := TX8) (N := 8) (ci := 8) hx hb hts hi_X8 hown hK hP 0 rfl (by decide) lk_X8_10 (fun _ h9 => h9) dX8_price_17 (by omega) CE_0 rfl ?_
      refine r_get (C := RX5) (T := TX5) (N := 8) (ci := 5) hx hb hts hi_X5 hown hK hP 6 rfl (by decide) lk_X8_111 (fun _ h9 => h9) dX8_price_20 (by omega) CE_1 rfl ?_
      refine r_icmp_ge (tgt := 47) hx hb (by omega) (by omega) dX8_price_23 (by decide) (fun c23 => ?_) (fun c23 => ?_)
      · obtain rfl : i = σ 0 2 := by omega
        refine lv_iload_n hx hb dX8_price_47 rfl (lv_at hl 1 rfl) ?_
        exact k_iret hx hb hr hlocks hP hS dX8_price_48 ⟨by rw [aPrice, hc], τ, rfl, hT⟩
      · obtain ⟨hN, _, _⟩ := Inv_w hI.1 (w := i) (by omega)
        have hB := IN_b hI.1 (w := i) (by omega)
        unfold IN at hN
        refine lv_iload_n hx hb dX8_price_26 rfl (lv_at hl 1 rfl) ?_
        refine lv_aload_n hx hb dX8_price_27 rfl (lv_at hl 0 rfl) ?_
        refine r_get (C := RX8) (T := TX8) (N := 8) (ci := 8) hx hb hts hi_X8 hown hK hP 0 rfl (by decide) lk_X8_10 (fun _ h9 => h9) dX8_price_28 (by omega) CE_0 rfl ?_
        refine r_get (C := RX5) (T := TX5) (N := 8) (ci := 5) hx hb hts hi_X5 hown hK hP 2 rfl (by decide) lk_X8_114 (fun _ h9 => h9) dX8_price_31 (by omega) CE_1 rfl ?_
        refine lv_iload_n hx hb dX8_price_34 rfl (lv_at hl 2 rfl) ?_
        refine r_aald hx hb hK hP 5 rfl dX8_price_35 (by omega) rfl (by omega) (by omega) rfl ?_
        refine k_calliV (nL := 3) (C := RX7) (T := TX7) (N := 16) (ci := 7) hx hb hml hown hts hK hP hS hl.1 (c_X7_delay hi (by omega) (by omega) (by omega)) rfl (Nat.le_of_ble_eq_true rfl) rfl (cwV 0 hts (gV lm_X8_233 ti_X7_delay tl_X7_delay tn_X7 tc_X7_delay) rfl rfl rfl (by decide +kernel) ⟨Nat.le_of_ble_eq_true rfl, Nat.le_of_ble_eq_true rfl⟩) rfl dX8_price_36 ⟨Nat.zero_le _, Nat.zero_le _⟩ (by omega) (CE_w (by omega)) (fun r36 E1 H locs hq hP hS => ?_)
        obtain ⟨rfl, rfl⟩ := hq
        refine r_add hx hb dX8_price_39 ?_
        refine lv_istore_n hx hb dX8_price_40 rfl hl (by decide) rfl (fun ls hl => ?_)
        replace hl : lv_has ls 3 [(0, _), (1, _), (2, _)] := lv_sub hl [1, 0, 2] rfl
        refine r_iinc hx hb dX8_price_41 hl (k := 2) rfl (by decide) (fun ls hl => ?_)
        replace hl : lv_has ls 3 [(0, _), (1, _), (2, _)] := lv_sub hl [1, 2, 0] rfl
        refine lv_goto (tgt := 15) hx hb dX8_price_44 (by decide) ?_
        rw [← hWg]
        exact ih15 (i + 1) _ _ _ _ hP hS hl ⟨by omega, by rw [sumI_s (by omega), hc]; omega⟩ (by omega)
  rw [← hWg]
  exact loop15 _ 0 _ _ _ _ hP hS hl ⟨by omega, by rw [sumI_0]; omega⟩ (Nat.lt_succ_self _)
theorem itB_s {σ : Tb} {i : Int} (h : 0 ≤ i) : itB σ (i + 1).toNat = bet1 (itB σ i.toNat) := by
  rw [show (i + 1).toNat = i.toNat + 1 by omega]
  rfl
abbrev rmX8_better : Room := { frames := 7, cells := 0, slots := 0, locals := 182 }
set_option maxRecDepth 100000 in
set_option maxHeartbeats 4000000 in
theorem c_X8_better {l : Launch} {D : va_G} {G : Nat → ClassId} {ad : Nat → Nat} {σ τ : Tb} (hi : kInj 189 ad) (hI : InvS σ) (hT : TI τ) : Met l yX8_better wsX8_better rmX8_better (kPc D (tysG G) 189 ad (CE G ad σ τ) [.ref (ad 0)]) (kQi D 189 ad (fun z E' => z = (btN σ : Int) ∧ ∃ τ', E' = CE G ad (itB σ (btN σ)) τ' ∧ TI τ')) 0 0 (kA 189 ad) := by
  refine k_met (cc := cX8_better) (maxL := 2) (ret := (some .int)) (by decide) (Nat.le_of_ble_eq_true rfl) ?_
  intro P0 e0 s m0 below meth c0 ls hx hb hr hlocks hml hown hts hK hP hS hl
  replace hl : lv_has ls 2 [(0, _)] := hl
  replace hown : s.vm.findClass RX8 = some m0.cls := hown
  refine k_abs (fun Wg hWg => ?_)
  have h0 := Inv_0 hI.1
  obtain ⟨N, hN, hN2⟩ := btE_ex hI
  have hbN := btN_of hN
  refine r_const hx hb dX8_better_0 ?_
  refine lv_istore_n hx hb dX8_better_1 rfl hl (by decide) rfl (fun ls hl => ?_)
  replace hl : lv_has ls 2 [(0, _), (1, _)] := lv_sub hl [1, 0] rfl
  have loop2 : ∀ (nn : Nat) (i : Int) (τ1 : Tb) (H : Heap) (locs : List Loc) (ls : Array Slot), va_P D vwCl (kw 189 ad (CE G ad (itB σ i.toNat) τ1)) H → va_S (kA 189 ad) s.heap H locs → lv_has ls 2 [(0, .ref (ad 0)), (1, .int (iI i))] → ((0 ≤ i ∧ i ≤ (N : Int)) ∧ TI τ1) → ((N : Int) - i).toNat < nn → Wg H locs (F0 m0 2 ls []) := by
    intro nn
    induction nn with
    | zero => intro i τ1 H locs ls _ _ _ _ hn; omega
    | succ nn ih2 =>
      intro i τ1 H locs ls hP hS hl hv2 hn2
      rw [hWg]
      obtain ⟨hv, hT1⟩ := hv2
      have hIi := InvS_itB hI i.toNat
      refine lv_iload_n hx hb dX8_better_2 rfl (lv_at hl 1 rfl) ?_
      refine r_ldcw hx hb hown (hts _ lc_X8_264) (show (1000000 : Int32) = iI 1000000 by decide +kernel) dX8_better_3 ?_
      refine r_icmp_ge (tgt := 25) hx hb (by omega) (by omega) dX8_better_6 (by decide) (fun c6 => ?_) (fun c6 => ?_)
      · omega
      · refine lv_aload_n hx hb dX8_better_9 rfl (lv_at hl 0 rfl) ?_
        refine r_get (C := RX8) (T := TX8) (N := 8) (ci := 8) hx hb hts hi_X8 hown hK hP 4 rfl (by decide) lk_X8_46 (fun _ h9 => h9) dX8_better_10 (by omega) CE_0 rfl ?_
        refine k_calliV (nL := 2) (C := RX4) (T := TX4) (N := 3) (ci := 4) hx hb hml hown hts hK hP hS hl.1 (c_X4_betterOne hi hIi.1 hT1) rfl (Nat.le_of_ble_eq_true rfl) rfl (cwV 0 hts (gV lm_X8_265 ti_X4_betterOne tl_X4_betterOne tn_X4 tc_X4_betterOne) rfl rfl rfl (by decide +kernel) ⟨Nat.le_of_ble_eq_true rfl, Nat.le_of_ble_eq_true rfl⟩) rfl dX8_better_13 ⟨Nat.zero_le _, Nat.zero_le _⟩ (by omega) CE_5 (fun r13 E1 H locs hq hP hS => ?_)
        obtain ⟨rfl, τ2, rfl, hT2⟩ := hq
        refine r_ifB_eq (tgt := 25) hx hb dX8_better_16 (by decide) (fun c16 => ?_) (fun c16 => ?_)
        · have hiN : i = (N : Int) := by
            rcases (show i = (N : Int) ∨ i.toNat < N by omega) with z | z
            · exact z
            · exact absurd (hN.2 _ z) c16
          have hb1 : bet1 (itB σ i.toNat) = itB σ i.toNat := by rw [bet1, cif_f c16]
          rw [hb1] at hP
          refine lv_iload_n hx hb dX8_better_25 rfl (lv_at hl 1 rfl) ?_
          exact k_iret hx hb hr hlocks hP hS dX8_better_26 ⟨by rw [hbN, hiN], τ2, by rw [hbN, hiN, Int.toNat_natCast], hT2⟩
        · have hlt : i < (N : Int) := by
            rcases (show i = (N : Int) ∨ i < (N : Int) by omega) with z | z
            · rw [z, Int.toNat_natCast] at c16; exact absurd c16 hN.1
            · exact z
          rw [← itB_s (by omega)] at hP
          refine r_iinc hx hb dX8_better_19 hl (k := 1) rfl (by decide) (fun ls hl => ?_)
          replace hl : lv_has ls 2 [(0, _), (1, _)] := lv_sub hl [1, 0] rfl
          refine lv_goto (tgt := 2) hx hb dX8_better_22 (by decide) ?_
          rw [← hWg]
          exact ih2 (i + 1) _ _ _ _ hP hS hl ⟨by omega, hT2⟩ (by omega)
  rw [← hWg]
  exact loop2 _ 0 _ _ _ _ hP hS hl ⟨by omega, hT⟩ (Nat.lt_succ_self _)
theorem bkA_lt {σ : Tb} {p v w : Int} (hv : 0 ≤ v ∧ v < σ 0 2) (hb : (σ 19 v = 2 ∨ σ 19 v = 3) ∧ isOn σ v p) (h : σ 20 v < σ 20 w ∨ (σ 20 v = σ 20 w ∧ v < w)) : bkA σ p v + 1 ≤ bkA σ p w := by
  unfold bkA
  refine sumI_lt hv (fun o o1 o2 => ?_) ?_
  · by_cases q : ((σ 19 o = 2 ∨ σ 19 o = 3) ∧ isOn σ o p) ∧ (σ 20 o < σ 20 v ∨ (σ 20 o = σ 20 v ∧ o < v))
    · rw [bI_t q, bI_t ⟨q.1, by omega⟩]; omega
    · rw [bI_f q]
      rcases bI_01 (((σ 19 o = 2 ∨ σ 19 o = 3) ∧ isOn σ o p) ∧ (σ 20 o < σ 20 w ∨ (σ 20 o = σ 20 w ∧ o < w))) with z | z <;> rw [z] <;> omega
  · have e1 : bI (((σ 19 v = 2 ∨ σ 19 v = 3) ∧ isOn σ v p) ∧ (σ 20 v < σ 20 v ∨ (σ 20 v = σ 20 v ∧ v < v))) = 0 := bI_f (fun z => by omega)
    have e2 : bI (((σ 19 v = 2 ∨ σ 19 v = 3) ∧ isOn σ v p) ∧ (σ 20 v < σ 20 w ∨ (σ 20 v = σ 20 w ∧ v < w))) = 1 := bI_t ⟨hb, h⟩
    show bI _ + 1 ≤ bI _
    rw [e1, e2]; omega
theorem bkOk_eq {σ : Tb} {p i v w : Int} (h : bkOk σ p i v) (h' : bkOk σ p i w) : v = w := by
  obtain ⟨a1, a2, a3⟩ := h
  obtain ⟨b1, b2, b3⟩ := h'
  rcases (show v = w ∨ (σ 20 v < σ 20 w ∨ (σ 20 v = σ 20 w ∧ v < w)) ∨ (σ 20 w < σ 20 v ∨ (σ 20 w = σ 20 v ∧ w < v)) by omega) with e | e | e
  · exact e
  · have := bkA_lt a1 a2 e; omega
  · have := bkA_lt b1 b2 e; omega
theorem aBook_t {σ : Tb} {p i w : Int} (hp : (0 ≤ p ∧ p < σ 0 0) ∧ 0 ≤ i) (h : bkOk σ p i w) : aBook σ p i = w := by
  unfold aBook
  rw [cif_t hp, cif_t ⟨w, h⟩]
  exact bkOk_eq (Classical.epsilon_spec (p := bkOk σ p i) ⟨w, h⟩) h
abbrev rmX8_book : Room := { frames := 3, cells := 0, slots := 0, locals := 67 }
set_option maxRecDepth 100000 in
set_option maxHeartbeats 4000000 in
theorem c_X8_book {l : Launch} {D : va_G} {G : Nat → ClassId} {ad : Nat → Nat} {σ τ : Tb} (hi : kInj 189 ad) {p i : Int} (hI : InvS σ) (hT : TI τ) (hp : (-2147483648 ≤ p ∧ p < 2147483648)) (hi0 : (-2147483648 ≤ i ∧ i < 2147483648)) : Met l yX8_book wsX8_book rmX8_book (kPc D (tysG G) 189 ad (CE G ad σ τ) [.ref (ad 0), .int (iI p), .int (iI i)]) (kQi D 189 ad (fun z E' => z = aBook σ p i ∧ ∃ τ', E' = CE G ad σ τ' ∧ TI τ')) 0 0 (kA 189 ad) := by
  refine k_met (cc := cX8_book) (maxL := 4) (ret := (some .int)) (by decide) (Nat.le_of_ble_eq_true rfl) ?_
  intro P0 e0 s m0 below meth c0 ls hx hb hr hlocks hml hown hts hK hP hS hl
  replace hl : lv_has ls 4 [(0, _), (1, _), (2, _)] := hl
  replace hown : s.vm.findClass RX8 = some m0.cls := hown
  refine k_abs (fun Wg hWg => ?_)
  have h0 := Inv_0 hI.1
  refine lv_aload_n hx hb dX8_book_0 rfl (lv_at hl 0 rfl) ?_
  refine r_get (C := RX8) (T := TX8) (N := 8) (ci := 8) hx hb hts hi_X8 hown hK hP 0 rfl (by decide) lk_X8_10 (fun _ h9 => h9) dX8_book_1 (by omega) CE_0 rfl ?_
  refine lv_iload_n hx hb dX8_book_4 rfl (lv_at hl 1 rfl) ?_
  refine k_calliV (nL := 4) (C := RX5) (T := TX5) (N := 8) (ci := 5) hx hb hml hown hts hK hP hS hl.1 (c_X5_hasPiece hi hp hI.1) rfl (Nat.le_of_ble_eq_true rfl) rfl (cwV 1 hts (gV lm_X8_108 ti_X5_hasPiece tl_X5_hasPiece tn_X5 tc_X5_hasPiece) rfl rfl rfl (by decide +kernel) ⟨Nat.le_of_ble_eq_true rfl, Nat.le_of_ble_eq_true rfl⟩) rfl dX8_book_5 ⟨Nat.zero_le _, Nat.zero_le _⟩ (by omega) CE_1 (fun r5 E1 H locs hq hP hS => ?_)
  obtain ⟨rfl, rfl⟩ := hq
  refine r_ifB_eq (tgt := 15) hx hb dX8_book_8 (by decide) (fun c8 => ?_) (fun c8 => ?_)
  · refine r_const hx hb dX8_book_15 ?_
    exact k_iret hx hb hr hlocks hP hS dX8_book_16 ⟨by rw [aBook, cif_f (fun z => c8 z.1)], τ, rfl, hT⟩
  · refine lv_iload_n hx hb dX8_book_11 rfl (lv_at hl 2 rfl) ?_
    refine r_if_ge (tgt := 17) hx hb (by omega) dX8_book_12 (by decide) (fun c12 => ?_) (fun c12 => ?_)
    · refine r_const hx hb dX8_book_17 ?_
      refine lv_istore_n hx hb dX8_book_18 rfl hl (by decide) rfl (fun ls hl => ?_)
      replace hl : lv_has ls 4 [(0, _), (1, _), (2, _), (3, _)] := lv_sub hl [1, 2, 3, 0] rfl
      have loop19 : ∀ (nn : Nat) (w : Int) (H : Heap) (locs : List Loc) (ls : Array Slot), va_P D vwCl (kw 189 ad (CE G ad σ τ)) H → va_S (kA 189 ad) s.heap H locs → lv_has ls 4 [(0, .ref (ad 0)), (1, .int (iI p)), (2, .int (iI i)), (3, .int (iI w))] → ((0 ≤ w ∧ w ≤ σ 0 2) ∧ (∀ v, 0 ≤ v → v < w → ¬ bkOk σ p i v)) → (σ 0 2 - w).toNat < nn → Wg H locs (F0 m0 19 ls []) := by
        intro nn
        induction nn with
        | zero => intro w H locs ls _ _ _ _ hn; omega
        | succ nn ih19 =>
          intro w H locs ls hP hS hl hv19 hn19
          rw [hWg]
          obtain ⟨hv, hno⟩ := hv19
          refine lv_iload_n hx hb dX8_book_19 rfl (lv_at hl 3 rfl) ?_
          refine lv_aload_n hx hb dX8_book_20 rfl (lv_at hl 0 rfl) ?_
          refine r_get (C := RX8) (T := TX8) (N := 8) (ci := 8) hx hb hts hi_X8 hown hK hP 0 rfl (by decide) lk_X8_10 (fun _ h9 => h9) dX8_book_21 (by omega) CE_0 rfl ?_
          refine r_get (C := RX5) (T := TX5) (N := 8) (ci := 5) hx hb hts hi_X5 hown hK hP 6 rfl (by decide) lk_X8_111 (fun _ h9 => h9) dX8_book_24 (by omega) CE_1 rfl ?_
          refine r_icmp_ge (tgt := 75) hx hb (by omega) (by omega) dX8_book_27 (by decide) (fun c27 => ?_) (fun c27 => ?_)
          · have hne : ¬ ∃ w, bkOk σ p i w := fun ⟨v, z⟩ => hno v z.1.1 (by have := z.1.2; omega) z
            refine r_const hx hb dX8_book_75 ?_
            exact k_iret hx hb hr hlocks hP hS dX8_book_76 ⟨by rw [aBook, cif_t ⟨c8, c12⟩, cif_f hne], τ, rfl, hT⟩
          · obtain ⟨hN, ⟨hq1, _⟩, _⟩ := Inv_w hI.1 (w := w) (by omega)
            unfold IN at hN
            have hbr : 0 ≤ bkA σ p w ∧ bkA σ p w ≤ 60 := by
              have := sumI_b (f := fun o => bI (((σ 19 o = 2 ∨ σ 19 o = 3) ∧ isOn σ o p) ∧ (σ 20 o < σ 20 w ∨ (σ 20 o = σ 20 w ∧ o < w)))) (n := σ 0 2) (M := 1) (by omega) (fun o _ _ => by have := bI_01 (((σ 19 o = 2 ∨ σ 19 o = 3) ∧ isOn σ o p) ∧ (σ 20 o < σ 20 w ∨ (σ 20 o = σ 20 w ∧ o < w))); show 0 ≤ bI _ ∧ bI _ ≤ 1; omega)
              unfold bkA
              omega
            have join69 : ∀  (H : Heap) (locs : List Loc) (ls : Array Slot), va_P D vwCl (kw 189 ad (CE G ad σ τ)) H → va_S (kA 189 ad) s.heap H locs → lv_has ls 4 [(0, .ref (ad 0)), (1, .int (iI p)), (2, .int (iI i)), (3, .int (iI w))] → (¬ bkOk σ p i w) → Wg H locs (F0 m0 69 ls []) := by
              intro  H locs ls hP hS hl hv69
              rw [hWg]
              have hno2 : ∀ v, 0 ≤ v → v < w + 1 → ¬ bkOk σ p i v := by
                intro v v1 v2
                rcases (show v < w ∨ v = w by omega) with y | y
                · exact hno v v1 y
                · rw [y]; exact hv69
              refine r_iinc hx hb dX8_book_69 hl (k := 3) rfl (by decide) (fun ls hl => ?_)
              replace hl : lv_has ls 4 [(0, _), (1, _), (2, _), (3, _)] := lv_sub hl [1, 2, 3, 0] rfl
              refine lv_goto (tgt := 19) hx hb dX8_book_72 (by decide) ?_
              rw [← hWg]
              exact ih19 (w + 1) _ _ _ hP hS hl ⟨by omega, hno2⟩ (by omega)
            refine lv_aload_n hx hb dX8_book_30 rfl (lv_at hl 0 rfl) ?_
            refine r_get (C := RX8) (T := TX8) (N := 8) (ci := 8) hx hb hts hi_X8 hown hK hP 0 rfl (by decide) lk_X8_10 (fun _ h9 => h9) dX8_book_31 (by omega) CE_0 rfl ?_
            refine r_get (C := RX5) (T := TX5) (N := 8) (ci := 5) hx hb hts hi_X5 hown hK hP 2 rfl (by decide) lk_X8_114 (fun _ h9 => h9) dX8_book_34 (by omega) CE_1 rfl ?_
            refine lv_iload_n hx hb dX8_book_37 rfl (lv_at hl 3 rfl) ?_
            refine r_aald hx hb hK hP 5 rfl dX8_book_38 (by omega) rfl (by omega) (by omega) rfl ?_
            refine lv_iload_n hx hb dX8_book_39 rfl (lv_at hl 1 rfl) ?_
            refine k_calliV (nL := 4) (C := RX7) (T := TX7) (N := 16) (ci := 7) hx hb hml hown hts hK hP hS hl.1 (c_X7_isBookedOn hi (by omega) (by omega) hq1 (by omega)) rfl (Nat.le_of_ble_eq_true rfl) rfl (cwV 1 hts (gV lm_X8_268 ti_X7_isBookedOn tl_X7_isBookedOn tn_X7 tc_X7_isBookedOn) rfl rfl rfl (by decide +kernel) ⟨Nat.le_of_ble_eq_true rfl, Nat.le_of_ble_eq_true rfl⟩) rfl dX8_book_40 ⟨Nat.zero_le _, Nat.zero_le _⟩ (by omega) (CE_w (by omega)) (fun r40 E1 H locs hq hP hS => ?_)
            obtain ⟨rfl, rfl⟩ := hq
            refine r_ifB_eq (tgt := 69) hx hb dX8_book_43 (by decide) (fun c43 => ?_) (fun c43 => ?_)
            · rw [← hWg]
              exact join69  _ _ _ hP hS hl (fun z => c43 z.2.1)
            · refine lv_aload_n hx hb dX8_book_46 rfl (lv_at hl 0 rfl) ?_
              refine r_get (C := RX8) (T := TX8) (N := 8) (ci := 8) hx hb hts hi_X8 hown hK hP 0 rfl (by decide) lk_X8_10 (fun _ h9 => h9) dX8_book_47 (by omega) CE_0 rfl ?_
              refine lv_iload_n hx hb dX8_book_50 rfl (lv_at hl 1 rfl) ?_
              refine lv_aload_n hx hb dX8_book_51 rfl (lv_at hl 0 rfl) ?_
              refine r_get (C := RX8) (T := TX8) (N := 8) (ci := 8) hx hb hts hi_X8 hown hK hP 0 rfl (by decide) lk_X8_10 (fun _ h9 => h9) dX8_book_52 (by omega) CE_0 rfl ?_
              refine r_get (C := RX5) (T := TX5) (N := 8) (ci := 5) hx hb hts hi_X5 hown hK hP 2 rfl (by decide) lk_X8_114 (fun _ h9 => h9) dX8_book_55 (by omega) CE_1 rfl ?_
              refine lv_iload_n hx hb dX8_book_58 rfl (lv_at hl 3 rfl) ?_
              refine r_aald hx hb hK hP 5 rfl dX8_book_59 (by omega) rfl (by omega) (by omega) rfl ?_
              refine k_calliV (nL := 4) (C := RX5) (T := TX5) (N := 8) (ci := 5) hx hb hml hown hts hK hP hS hl.1 (c_X5_bookedAhead hi hI.1 (by omega) (by omega)) rfl (Nat.le_of_ble_eq_true rfl) rfl (cwV 2 hts (gV lm_X8_271 ti_X5_bookedAhead tl_X5_bookedAhead tn_X5 tc_X5_bookedAhead) rfl rfl rfl (by decide +kernel) ⟨Nat.le_of_ble_eq_true rfl, Nat.le_of_ble_eq_true rfl⟩) rfl dX8_book_60 ⟨Nat.zero_le _, Nat.zero_le _⟩ (by omega) CE_1 (fun r60 E1 H locs hq hP hS => ?_)
              obtain ⟨rfl, rfl⟩ := hq
              refine lv_iload_n hx hb dX8_book_63 rfl (lv_at hl 2 rfl) ?_
              refine r_icmp_ne (tgt := 69) hx hb (by omega) (by omega) dX8_book_64 (by decide) (fun c64 => ?_) (fun c64 => ?_)
              · rw [← hWg]
                exact join69  _ _ _ hP hS hl (fun z => c64 z.2.2)
              · refine lv_iload_n hx hb dX8_book_67 rfl (lv_at hl 3 rfl) ?_
                exact k_iret hx hb hr hlocks hP hS dX8_book_68 ⟨(aBook_t ⟨c8, c12⟩ ⟨by unfold lvW; omega, c43, c64⟩).symm, τ, rfl, hT⟩
      rw [← hWg]
      exact loop19 _ 0 _ _ _ hP hS hl ⟨by omega, fun v v1 v2 => by omega⟩ (Nat.lt_succ_self _)
    · refine r_const hx hb dX8_book_15 ?_
      exact k_iret hx hb hr hlocks hP hS dX8_book_16 ⟨by rw [aBook, cif_f (fun z => c12 z.2)], τ, rfl, hT⟩
abbrev rmX8_count : Room := { frames := 1, cells := 0, slots := 0, locals := 23 }
set_option maxRecDepth 100000 in
set_option maxHeartbeats 4000000 in
theorem c_X8_count {l : Launch} {D : va_G} {G : Nat → ClassId} {ad : Nat → Nat} {σ τ : Tb} (hi : kInj 189 ad) {q : Int} (hI : InvS σ) (hT : TI τ) (hq0 : (-2147483648 ≤ q ∧ q < 2147483648)) : Met l yX8_count wsX8_count rmX8_count (kPc D (tysG G) 189 ad (CE G ad σ τ) [.ref (ad 0), .int (iI q)]) (kQi D 189 ad (fun z E' => z = aCount σ q ∧ ∃ τ', E' = CE G ad σ τ' ∧ TI τ')) 0 0 (kA 189 ad) := by
  refine k_met (cc := cX8_count) (maxL := 2) (ret := (some .int)) (by decide) (Nat.le_of_ble_eq_true rfl) ?_
  intro P0 e0 s m0 below meth c0 ls hx hb hr hlocks hml hown hts hK hP hS hl
  replace hl : lv_has ls 2 [(0, _), (1, _)] := hl
  replace hown : s.vm.findClass RX8 = some m0.cls := hown
  refine k_abs (fun Wg hWg => ?_)
  have h0 := Inv_0 hI.1
  refine lv_iload_n hx hb dX8_count_0 rfl (lv_at hl 1 rfl) ?_
  rcases (show (q < 0 ∨ 3 < q) ∨ q = 0 ∨ q = 1 ∨ q = 2 ∨ q = 3 by omega) with h | rfl | rfl | rfl | rfl
  · refine r_tabOut (tgt := 64) hx hb dX8_count_1 (by omega) (by omega) (by decide) ?_
    refine lv_iload_n hx hb dX8_count_64 rfl (lv_at hl 1 rfl) ?_
    refine r_const hx hb dX8_count_65 ?_
    refine r_bipush hx hb dX8_count_66 (by decide +kernel) ?_
    refine k_calliS (nL := 2) hx hb hml hown hts hK hP hS hl.1 (c_X8_within hi hq0 (by omega) (by omega)) rfl (Nat.le_of_ble_eq_true rfl) (va_cwS 3 hts (gS lm_X8_54 ts_X8_within tn_X8 tc_X8_within) rfl rfl rfl (by decide +kernel) ⟨Nat.le_of_ble_eq_true rfl, Nat.le_of_ble_eq_true rfl⟩) rfl dX8_count_68 ⟨Nat.zero_le _, Nat.zero_le _⟩ (fun r68 E1 H locs hq hP hS => ?_)
    obtain ⟨rfl, rfl⟩ := hq
    refine r_ifB_eq (tgt := 87) hx hb dX8_count_71 (by decide) (fun c71 => ?_) (fun c71 => ?_)
    · refine r_const hx hb dX8_count_87 ?_
      exact k_iret hx hb hr hlocks hP hS dX8_count_88 ⟨by rw [aCount, cif_f (by omega), cif_f (by omega), cif_f (by omega), cif_f (by omega), cif_f c71], τ, rfl, hT⟩
    · refine lv_aload_n hx hb dX8_count_74 rfl (lv_at hl 0 rfl) ?_
      refine r_get (C := RX8) (T := TX8) (N := 8) (ci := 8) hx hb hts hi_X8 hown hK hP 0 rfl (by decide) lk_X8_10 (fun _ h9 => h9) dX8_count_75 (by omega) CE_0 rfl ?_
      refine lv_iload_n hx hb dX8_count_78 rfl (lv_at hl 1 rfl) ?_
      refine r_const hx hb dX8_count_79 ?_
      refine r_sub hx hb dX8_count_80 ?_
      refine k_calliV (nL := 2) (C := RX5) (T := TX5) (N := 8) (ci := 5) hx hb hml hown hts hK hP hS hl.1 (c_X5_worksIn hi (by omega) hI.1) rfl (Nat.le_of_ble_eq_true rfl) rfl (cwV 1 hts (gV lm_X8_260 ti_X5_worksIn tl_X5_worksIn tn_X5 tc_X5_worksIn) rfl rfl rfl (by decide +kernel) ⟨Nat.le_of_ble_eq_true rfl, Nat.le_of_ble_eq_true rfl⟩) rfl dX8_count_81 ⟨Nat.zero_le _, Nat.zero_le _⟩ (by omega) CE_1 (fun r81 E1 H locs hq hP hS => ?_)
      obtain ⟨rfl, rfl⟩ := hq
      refine lv_goto (tgt := 88) hx hb dX8_count_84 (by decide) ?_
      exact k_iret hx hb hr hlocks hP hS dX8_count_88 ⟨by rw [aCount, cif_f (by omega), cif_f (by omega), cif_f (by omega), cif_f (by omega), cif_t c71], τ, rfl, hT⟩
  · refine r_tabIn (z := 0) (off := 31) (tgt := 32) hx hb dX8_count_1 (by omega) (by omega) (by omega) rfl (by decide) ?_
    refine lv_aload_n hx hb dX8_count_32 rfl (lv_at hl 0 rfl) ?_
    refine r_get (C := RX8) (T := TX8) (N := 8) (ci := 8) hx hb hts hi_X8 hown hK hP 0 rfl (by decide) lk_X8_10 (fun _ h9 => h9) dX8_count_33 (by omega) CE_0 rfl ?_
    refine r_get (C := RX5) (T := TX5) (N := 8) (ci := 5) hx hb hts hi_X5 hown hK hP 4 rfl (by decide) lk_X8_58 (fun _ h9 => h9) dX8_count_36 (by omega) CE_1 rfl ?_
    exact k_iret hx hb hr hlocks hP hS dX8_count_39 ⟨by rw [aCount, cif_t rfl], τ, rfl, hT⟩
  · refine r_tabIn (z := 1) (off := 39) (tgt := 40) hx hb dX8_count_1 (by omega) (by omega) (by omega) rfl (by decide) ?_
    refine lv_aload_n hx hb dX8_count_40 rfl (lv_at hl 0 rfl) ?_
    refine r_get (C := RX8) (T := TX8) (N := 8) (ci := 8) hx hb hts hi_X8 hown hK hP 0 rfl (by decide) lk_X8_10 (fun _ h9 => h9) dX8_count_41 (by omega) CE_0 rfl ?_
    refine r_get (C := RX5) (T := TX5) (N := 8) (ci := 5) hx hb hts hi_X5 hown hK hP 5 rfl (by decide) lk_X8_86 (fun _ h9 => h9) dX8_count_44 (by omega) CE_1 rfl ?_
    exact k_iret hx hb hr hlocks hP hS dX8_count_47 ⟨by rw [aCount, cif_f (by decide), cif_t rfl], τ, rfl, hT⟩
  · refine r_tabIn (z := 2) (off := 47) (tgt := 48) hx hb dX8_count_1 (by omega) (by omega) (by omega) rfl (by decide) ?_
    refine lv_aload_n hx hb dX8_count_48 rfl (lv_at hl 0 rfl) ?_
    refine r_get (C := RX8) (T := TX8) (N := 8) (ci := 8) hx hb hts hi_X8 hown hK hP 0 rfl (by decide) lk_X8_10 (fun _ h9 => h9) dX8_count_49 (by omega) CE_0 rfl ?_
    refine r_get (C := RX5) (T := TX5) (N := 8) (ci := 5) hx hb hts hi_X5 hown hK hP 6 rfl (by decide) lk_X8_111 (fun _ h9 => h9) dX8_count_52 (by omega) CE_1 rfl ?_
    exact k_iret hx hb hr hlocks hP hS dX8_count_55 ⟨by rw [aCount, cif_f (by decide), cif_f (by decide), cif_t rfl], τ, rfl, hT⟩
  · refine r_tabIn (z := 3) (off := 55) (tgt := 56) hx hb dX8_count_1 (by omega) (by omega) (by omega) rfl (by decide) ?_
    refine lv_aload_n hx hb dX8_count_56 rfl (lv_at hl 0 rfl) ?_
    refine r_get (C := RX8) (T := TX8) (N := 8) (ci := 8) hx hb hts hi_X8 hown hK hP 0 rfl (by decide) lk_X8_10 (fun _ h9 => h9) dX8_count_57 (by omega) CE_0 rfl ?_
    refine r_get (C := RX5) (T := TX5) (N := 8) (ci := 5) hx hb hts hi_X5 hown hK hP 7 rfl (by decide) lk_X8_192 (fun _ h9 => h9) dX8_count_60 (by omega) CE_1 rfl ?_
    exact k_iret hx hb hr hlocks hP hS dX8_count_63 ⟨by rw [aCount, cif_f (by decide), cif_f (by decide), cif_f (by decide), cif_t rfl], τ, rfl, hT⟩

