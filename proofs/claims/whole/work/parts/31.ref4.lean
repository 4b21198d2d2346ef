theorem bI_F : bI False = 0 := bI_f not_false
theorem bI_T : bI True = 1 := bI_t trivial
theorem RE_s {G : Nat → ClassId} {ad : Nat → Nat} {σ σ' τ : Tb} (h : ∀ t i, t < 25 → (t = 0 → i < 4) → σ' t i = σ t i) : RE G ad σ' τ = RE G ad σ τ := by
  have eI : ∀ t, t ≠ 0 → t < 25 → tI σ' t = tI σ t := fun t h1 h2 => by funext j; show iI _ = iI _; rw [h t _ h2 (fun q => absurd q h1)]
  have eL : tL σ' 17 = tL σ 17 := by funext j; show lN _ = lN _; rw [h 17 _ (by decide) (fun q => absurd q (by decide))]
  have eD : ∀ t n, t ≠ 0 → t < 25 → tD σ' t n = tD σ t n := fun t n h1 h2 => by
    funext j
    show iI (if (j : Int) < n then σ' t j else 0) = iI (if (j : Int) < n then σ t j else 0)
    rw [h t _ h2 (fun q => absurd q h1)]
  have e0 : ∀ i, i < 4 → σ' 0 i = σ 0 i := fun i q => h 0 i (by decide) (fun _ => q)
  funext k
  by_cases hk : k < 27
  · rcases (show k = 0 ∨ k = 1 ∨ k = 2 ∨ k = 3 ∨ k = 4 ∨ k = 5 ∨ k = 6 ∨ k = 7 ∨ k = 8 ∨ k = 9 ∨ k = 10 ∨ k = 11 ∨ k = 12 ∨ k = 13 ∨ k = 14 ∨ k = 15 ∨ k = 16 ∨ k = 17 ∨ k = 18 ∨ k = 19 ∨ k = 20 ∨ k = 21 ∨ k = 22 ∨ k = 23 ∨ k = 24 ∨ k = 25 ∨ k = 26 by omega) with rfl | rfl | rfl | rfl | rfl | rfl | rfl | rfl | rfl | rfl | rfl | rfl | rfl | rfl | rfl | rfl | rfl | rfl | rfl | rfl | rfl | rfl | rfl | rfl | rfl | rfl | rfl <;> first | rfl | (simp only [RE]; rw [eI _ (by decide) (by decide)]; done) | (simp only [RE]; rw [eL]; done) | (simp only [RE]; rw [eD _ _ (by decide) (by decide)]; done) | (simp only [RE]; rw [FM, FM, e0 0 (by decide), e0 1 (by decide), e0 2 (by decide), e0 3 (by decide)])
  · obtain ⟨j, rfl⟩ : ∃ j, k = j + 27 := ⟨k - 27, by omega⟩
    rfl
theorem RE_lok {G : Nat → ClassId} {ad : Nat → Nat} {σ τ : Tb} {w d : Int} : RE G ad (lok σ w d) τ = RE G ad σ τ := RE_s (fun t i h1 h2 => by
  by_cases q : t = 0
  · rw [q]; exact lok_0 (h2 q)
  · exact lok_t q)
/-- what the reference's own tables say, between two calls -/
def RT (σ τ : Tb) : Prop := RD σ τ ∧ τ 0 5 = cif (σ 0 4 = 1) (σ 0 5) (-1) ∧ τ 0 6 = cif (σ 0 4 = 1) (σ 0 6) (-1)
theorem RT_F {σ τ τ' : Tb} (h : FrR τ τ') (hR : RT σ τ) : RT σ τ' := ⟨FrR_D h hR.1, (h.1 5 (by decide)).trans hR.2.1, (h.1 6 (by decide)).trans hR.2.2⟩
theorem RD_c {σ σ' τ : Tb} (h : σ' 0 2 = σ 0 2) (hR : RD σ τ) : RD σ' τ := by unfold RD at hR ⊢; rw [h]; exact hR
theorem RT_c {σ σ' τ : Tb} (h : σ' 0 2 = σ 0 2) (h4 : σ' 0 4 = σ 0 4) (h5 : σ' 0 5 = σ 0 5) (h6 : σ' 0 6 = σ 0 6) (hR : RT σ τ) : RT σ' τ := ⟨RD_c h hR.1, by rw [h4, h5]; exact hR.2.1, by rw [h4, h6]; exact hR.2.2⟩
theorem RT_c0 {σ σ' τ : Tb} (h : ∀ i, σ' 0 i = σ 0 i) (hR : RT σ τ) : RT σ' τ := RT_c (h _) (h _) (h _) (h _) hR
noncomputable def ruF (σ : Tb) (w d : Int) (les : Prop) (f : Int) : Int := cif (f ≤ 1) (rul1 σ w d les) (rul2 σ w d les)
abbrev rmX9_rule : Room := { frames := 6, cells := 0, slots := 0, locals := 155 }
set_option maxRecDepth 100000 in
set_option maxHeartbeats 4000000 in
theorem c_X9_rule {l : Launch} {D : va_G} {G : Nat → ClassId} {ad : Nat → Nat} {σ τ : Tb} (hi : kInj 27 ad) {w d f : Int} {les : Prop} (hI : Inv σ) (hR : RD σ τ) (hw : 0 ≤ w ∧ w < σ 0 2) (hd : 0 ≤ d ∧ d ≤ 399) (hf : 1 ≤ f ∧ f ≤ 3) : Met l yX9_rule wsX9_rule rmX9_rule (kPc D (tysG G) 27 ad (RE G ad σ τ) [.ref (ad 0), .int (iI w), .int (iI d), .int (iI f), .int (iI (bI les))]) (kQi D 27 ad (fun z E' => z = ruF σ w d les f ∧ ∃ τ', E' = RE G ad σ τ' ∧ (z ≠ 0 → rAt σ w d les z (τ' 0 0) (τ' 0 1)) ∧ FrR τ τ')) 0 0 (kA 27 ad) := by
  refine k_met (cc := cX9_rule) (maxL := 5) (ret := (some .int)) (by decide) (Nat.le_of_ble_eq_true rfl) ?_
  intro P0 e0 s m0 below meth c0 ls hx hb hr hlocks hml hown hts hK hP hS hl
  replace hl : lv_has ls 5 [(0, _), (1, _), (2, _), (3, _), (4, _)] := hl
  replace hown : s.vm.findClass RX9 = some m0.cls := hown
  refine k_abs (fun Wg hWg => ?_)
  have h0 := Inv_0 hI
  obtain ⟨hN, _, _⟩ := Inv_w hI hw
  have hnt := ntc_r (σ := σ) (w := w)
  unfold IN at hN
  have join38 : ∀  (H : Heap) (locs : List Loc) (ls : Array Slot), va_P D vwCl (kw 27 ad (RE G ad σ τ)) H → va_S (kA 27 ad) s.heap H locs → lv_has ls 5 [(0, .ref (ad 0)), (1, .int (iI w)), (2, .int (iI d)), (3, .int (iI f)), (4, .int (iI (bI les)))] → (ruF σ w d les f = rul2 σ w d les) → Wg H locs (F0 m0 38 ls []) := by
    intro  H locs ls hP hS hl hv38
    rw [hWg]
    refine lv_iload_n hx hb dX9_rule_38 rfl (lv_at hl 2 rfl) ?_
    refine lv_aload_n hx hb dX9_rule_39 rfl (lv_at hl 0 rfl) ?_
    refine r_get (C := RX9) (T := TX9) (N := 34) (ci := 9) hx hb hts hi_X9 hown hK hP 16 rfl (by decide) lk_X9_50 (fun _ h9 => h9) dX9_rule_40 (by omega) RE_0 rfl ?_
    refine lv_iload_n hx hb dX9_rule_43 rfl (lv_at hl 1 rfl) ?_
    refine r_iald hx hb hK hP 0 rfl dX9_rule_44 (by omega) rfl (by omega) (by omega) (tI_at (by omega)) ?_
    refine r_add hx hb dX9_rule_45 ?_
    refine r_const hx hb dX9_rule_46 ?_
    refine r_sub hx hb dX9_rule_47 ?_
    refine r_sipush hx hb dX9_rule_48 (by decide +kernel) ?_
    refine r_icmp_le (tgt := 75) hx hb (by omega) (by omega) dX9_rule_51 (by decide) (fun c51 => ?_) (fun c51 => ?_)
    · have he2 : rul2 σ w d les = rul3 σ w d les := by rw [rul2, cif_f (by omega)]
      refine lv_aload_n hx hb dX9_rule_75 rfl (lv_at hl 0 rfl) ?_
      refine lv_iload_n hx hb dX9_rule_76 rfl (lv_at hl 1 rfl) ?_
      refine lv_iload_n hx hb dX9_rule_77 rfl (lv_at hl 2 rfl) ?_
      refine k_calliV (nL := 5) (C := RX9) (T := TX9) (N := 34) (ci := 9) hx hb hml hown hts hK hP hS hl.1 (c_X9_breaksFeast hi hI hw hd.1 (by omega)) rfl (Nat.le_of_ble_eq_true rfl) rfl (cwV 2 hts (gV lm_X9_164 ti_X9_breaksFeast tl_X9_breaksFeast tn_X9 tc_X9_breaksFeast) rfl rfl rfl (by decide +kernel) ⟨Nat.le_of_ble_eq_true rfl, Nat.le_of_ble_eq_true rfl⟩) rfl dX9_rule_78 ⟨Nat.zero_le _, Nat.zero_le _⟩ (by omega) RE_0 (fun r78 E1 H locs hq hP hS => ?_)
      obtain ⟨rfl, τ3, rfl, h3, hF3⟩ := hq
      refine r_ifB_eq (tgt := 88) hx hb dX9_rule_81 (by decide) (fun c81 => ?_) (fun c81 => ?_)
      · refine lv_aload_n hx hb dX9_rule_88 rfl (lv_at hl 0 rfl) ?_
        refine lv_iload_n hx hb dX9_rule_89 rfl (lv_at hl 1 rfl) ?_
        refine lv_iload_n hx hb dX9_rule_90 rfl (lv_at hl 2 rfl) ?_
        refine lv_iload hx hb dX9_rule_91 (lv_at hl 4 rfl) ?_
        refine k_calliV (nL := 5) (C := RX9) (T := TX9) (N := 34) (ci := 9) hx hb hml hown hts hK hP hS hl.1 (c_X9_breaksLanes hi hI (FrR_D hF3 hR) hw hd.1 (by omega)) rfl (Nat.le_of_ble_eq_true rfl) rfl (cwV 3 hts (gV lm_X9_167 ti_X9_breaksLanes tl_X9_breaksLanes tn_X9 tc_X9_breaksLanes) rfl rfl rfl (by decide +kernel) ⟨Nat.le_of_ble_eq_true rfl, Nat.le_of_ble_eq_true rfl⟩) rfl dX9_rule_93 ⟨Nat.zero_le _, Nat.zero_le _⟩ (by omega) RE_0 (fun r93 E1 H locs hq hP hS => ?_)
        obtain ⟨rfl, τ4, rfl, h4, hF4⟩ := hq
        have hF4' := FrR_tr hF3 hF4
        refine r_ifB_eq (tgt := 103) hx hb dX9_rule_96 (by decide) (fun c96 => ?_) (fun c96 => ?_)
        · refine lv_aload_n hx hb dX9_rule_103 rfl (lv_at hl 0 rfl) ?_
          refine lv_iload_n hx hb dX9_rule_104 rfl (lv_at hl 1 rfl) ?_
          refine lv_iload_n hx hb dX9_rule_105 rfl (lv_at hl 2 rfl) ?_
          refine lv_iload hx hb dX9_rule_106 (lv_at hl 4 rfl) ?_
          refine k_calliV (nL := 5) (C := RX9) (T := TX9) (N := 34) (ci := 9) hx hb hml hown hts hK hP hS hl.1 (c_X9_breaksDepth hi hI (FrR_D hF4' hR) hw hd.1 (by omega)) rfl (Nat.le_of_ble_eq_true rfl) rfl (cwV 3 hts (gV lm_X9_170 ti_X9_breaksDepth tl_X9_breaksDepth tn_X9 tc_X9_breaksDepth) rfl rfl rfl (by decide +kernel) ⟨Nat.le_of_ble_eq_true rfl, Nat.le_of_ble_eq_true rfl⟩) rfl dX9_rule_108 ⟨Nat.zero_le _, Nat.zero_le _⟩ (by omega) RE_0 (fun r108 E1 H locs hq hP hS => ?_)
          obtain ⟨rfl, τ5, rfl, h5, hF5⟩ := hq
          have hF5' := FrR_tr hF4' hF5
          refine r_ifB_eq (tgt := 118) hx hb dX9_rule_111 (by decide) (fun c111 => ?_) (fun c111 => ?_)
          · refine lv_aload_n hx hb dX9_rule_118 rfl (lv_at hl 0 rfl) ?_
            refine lv_iload_n hx hb dX9_rule_119 rfl (lv_at hl 1 rfl) ?_
            refine lv_iload_n hx hb dX9_rule_120 rfl (lv_at hl 2 rfl) ?_
            refine lv_iload hx hb dX9_rule_121 (lv_at hl 4 rfl) ?_
            refine k_calliV (nL := 5) (C := RX9) (T := TX9) (N := 34) (ci := 9) hx hb hml hown hts hK hP hS hl.1 (c_X9_breaksRest hi hI (FrR_D hF5' hR) hw hd.1 (by omega)) rfl (Nat.le_of_ble_eq_true rfl) rfl (cwV 3 hts (gV lm_X9_173 ti_X9_breaksRest tl_X9_breaksRest tn_X9 tc_X9_breaksRest) rfl rfl rfl (by decide +kernel) ⟨Nat.le_of_ble_eq_true rfl, Nat.le_of_ble_eq_true rfl⟩) rfl dX9_rule_123 ⟨Nat.zero_le _, Nat.zero_le _⟩ (by omega) RE_0 (fun r123 E1 H locs hq hP hS => ?_)
            obtain ⟨rfl, τ6, rfl, h6, hF6⟩ := hq
            have hF6' := FrR_tr hF5' hF6
            refine r_ifB_eq (tgt := 134) hx hb dX9_rule_126 (by decide) (fun c126 => ?_) (fun c126 => ?_)
            · refine lv_aload_n hx hb dX9_rule_134 rfl (lv_at hl 0 rfl) ?_
              refine lv_iload_n hx hb dX9_rule_135 rfl (lv_at hl 1 rfl) ?_
              refine lv_iload_n hx hb dX9_rule_136 rfl (lv_at hl 2 rfl) ?_
              refine lv_iload hx hb dX9_rule_137 (lv_at hl 4 rfl) ?_
              refine k_calliV (nL := 5) (C := RX9) (T := TX9) (N := 34) (ci := 9) hx hb hml hown hts hK hP hS hl.1 (c_X9_breaksWays hi hI (FrR_D hF6' hR) hw hd.1 (by omega)) rfl (Nat.le_of_ble_eq_true rfl) rfl (cwV 3 hts (gV lm_X9_176 ti_X9_breaksWays tl_X9_breaksWays tn_X9 tc_X9_breaksWays) rfl rfl rfl (by decide +kernel) ⟨Nat.le_of_ble_eq_true rfl, Nat.le_of_ble_eq_true rfl⟩) rfl dX9_rule_139 ⟨Nat.zero_le _, Nat.zero_le _⟩ (by omega) RE_0 (fun r139 E1 H locs hq hP hS => ?_)
              obtain ⟨rfl, τ7, rfl, h7, hF7⟩ := hq
              have hF7' := FrR_tr hF6' hF7
              refine r_ifB_eq (tgt := 150) hx hb dX9_rule_142 (by decide) (fun c142 => ?_) (fun c142 => ?_)
              · refine r_const hx hb dX9_rule_150 ?_
                exact k_iret hx hb hr hlocks hP hS dX9_rule_151 ⟨by rw [hv38, he2, rul3, cif_f c81, cif_f c96, cif_f c111, cif_f c126, cif_f c142], τ7, rfl, fun q => absurd rfl q, hF7'⟩
              · refine r_bipush hx hb dX9_rule_145 (by decide +kernel) ?_
                refine lv_goto (tgt := 151) hx hb dX9_rule_147 (by decide) ?_
                exact k_iret hx hb hr hlocks hP hS dX9_rule_151 ⟨by rw [hv38, he2, rul3, cif_f c81, cif_f c96, cif_f c111, cif_f c126, cif_t c142], τ7, rfl, fun _ => rAt_0 (fun q => absurd q (by decide)) (fun q => absurd q (by decide)) (fun q => absurd q (by decide)) (fun q => absurd q (by decide)) (fun q => absurd q (by decide)) (fun q => absurd q (by decide)) (fun _ => h7 c142), hF7'⟩
            · refine r_bipush hx hb dX9_rule_129 (by decide +kernel) ?_
              refine lv_goto (tgt := 151) hx hb dX9_rule_131 (by decide) ?_
              exact k_iret hx hb hr hlocks hP hS dX9_rule_151 ⟨by rw [hv38, he2, rul3, cif_f c81, cif_f c96, cif_f c111, cif_t c126], τ6, rfl, fun _ => rAt_0 (fun q => absurd q (by decide)) (fun q => absurd q (by decide)) (fun q => absurd q (by decide)) (fun q => absurd q (by decide)) (fun q => absurd q (by decide)) (fun _ => h6 c126) (fun q => absurd q (by decide)), hF6'⟩
          · refine r_const hx hb dX9_rule_114 ?_
            refine lv_goto (tgt := 151) hx hb dX9_rule_115 (by decide) ?_
            exact k_iret hx hb hr hlocks hP hS dX9_rule_151 ⟨by rw [hv38, he2, rul3, cif_f c81, cif_f c96, cif_t c111], τ5, rfl, fun _ => rAt_0 (fun q => absurd q (by decide)) (fun q => absurd q (by decide)) (fun q => absurd q (by decide)) (fun q => absurd q (by decide)) (fun _ => h5 c111) (fun q => absurd q (by decide)) (fun q => absurd q (by decide)), hF5'⟩
        · refine r_const hx hb dX9_rule_99 ?_
          refine lv_goto (tgt := 151) hx hb dX9_rule_100 (by decide) ?_
          exact k_iret hx hb hr hlocks hP hS dX9_rule_151 ⟨by rw [hv38, he2, rul3, cif_f c81, cif_t c96], τ4, rfl, fun _ => rAt_0 (fun q => absurd q (by decide)) (fun q => absurd q (by decide)) (fun q => absurd q (by decide)) (fun _ => h4 c96) (fun q => absurd q (by decide)) (fun q => absurd q (by decide)) (fun q => absurd q (by decide)), hF4'⟩
      · refine r_const hx hb dX9_rule_84 ?_
        refine lv_goto (tgt := 151) hx hb dX9_rule_85 (by decide) ?_
        exact k_iret hx hb hr hlocks hP hS dX9_rule_151 ⟨by rw [hv38, he2, rul3, cif_t c81], τ3, rfl, fun _ => rAt_0 (fun q => absurd q (by decide)) (fun q => absurd q (by decide)) (fun _ => h3 c81) (fun q => absurd q (by decide)) (fun q => absurd q (by decide)) (fun q => absurd q (by decide)) (fun q => absurd q (by decide)), hF3⟩
    · refine lv_aload_n hx hb dX9_rule_54 rfl (lv_at hl 0 rfl) ?_
      refine r_sipush hx hb dX9_rule_55 (by decide +kernel) ?_
      refine lv_aload_n hx hb dX9_rule_58 rfl (lv_at hl 0 rfl) ?_
      refine lv_iload_n hx hb dX9_rule_59 rfl (lv_at hl 1 rfl) ?_
      refine k_calliV (nL := 5) (C := RX9) (T := TX9) (N := 34) (ci := 9) hx hb hml hown hts hK hP hS hl.1 (c_X9_lowest hi hI hw) rfl (Nat.le_of_ble_eq_true rfl) rfl (cwV 1 hts (gV lm_X9_161 ti_X9_lowest tl_X9_lowest tn_X9 tc_X9_lowest) rfl rfl rfl (by decide +kernel) ⟨Nat.le_of_ble_eq_true rfl, Nat.le_of_ble_eq_true rfl⟩) rfl dX9_rule_60 ⟨Nat.zero_le _, Nat.zero_le _⟩ (by omega) RE_0 (fun r60 E1 H locs hq hP hS => ?_)
      obtain ⟨rfl, rfl⟩ := hq
      refine k_calliV (nL := 5) (C := RX9) (T := TX9) (N := 34) (ci := 9) hx hb hml hown hts hK hP hS hl.1 (c_X9_broken hi) rfl (Nat.le_of_ble_eq_true rfl) rfl (cwV 2 hts (gV lm_X9_143 ti_X9_broken tl_X9_broken tn_X9 tc_X9_broken) rfl rfl rfl (by decide +kernel) ⟨Nat.le_of_ble_eq_true rfl, Nat.le_of_ble_eq_true rfl⟩) rfl dX9_rule_63 ⟨Nat.zero_le _, Nat.zero_le _⟩ (by omega) RE_0 (fun r63 E1 H locs hq hP hS => ?_)
      obtain ⟨rfl, rfl⟩ := hq
      refine r_if_eq (tgt := 73) hx hb (by omega) dX9_rule_66 (by decide) (fun c66 => ?_) (fun c66 => ?_)
      · omega
      · refine r_const hx hb dX9_rule_69 ?_
        refine lv_goto (tgt := 74) hx hb dX9_rule_70 (by decide) ?_
        exact k_iret hx hb hr hlocks hP hS dX9_rule_74 ⟨by rw [hv38, rul2, cif_t (by omega)], _, rfl, fun _ => rAt_0 (fun q => absurd q (by decide)) (fun _ => by rw [brk_2.1, brk_2.2]; exact ⟨rfl, rfl⟩) (fun q => absurd q (by decide)) (fun q => absurd q (by decide)) (fun q => absurd q (by decide)) (fun q => absurd q (by decide)) (fun q => absurd q (by decide)), brk_F FrR_rf⟩
  refine lv_iload_n hx hb dX9_rule_0 rfl (lv_at hl 3 rfl) ?_
  refine r_const hx hb dX9_rule_1 ?_
  refine r_icmp_gt (tgt := 38) hx hb (by omega) (by omega) dX9_rule_2 (by decide) (fun c2 => ?_) (fun c2 => ?_)
  · rw [← hWg]
    exact join38  _ _ _ hP hS hl (by rw [ruF, cif_f (by omega)])
  · refine lv_iload_n hx hb dX9_rule_5 rfl (lv_at hl 2 rfl) ?_
    refine lv_aload_n hx hb dX9_rule_6 rfl (lv_at hl 0 rfl) ?_
    refine r_get (C := RX9) (T := TX9) (N := 34) (ci := 9) hx hb hts hi_X9 hown hK hP 12 rfl (by decide) lk_X9_154 (fun _ h9 => h9) dX9_rule_7 (by omega) RE_0 rfl ?_
    refine lv_aload_n hx hb dX9_rule_10 rfl (lv_at hl 0 rfl) ?_
    refine lv_iload_n hx hb dX9_rule_11 rfl (lv_at hl 1 rfl) ?_
    refine k_calliV (nL := 5) (C := RX9) (T := TX9) (N := 34) (ci := 9) hx hb hml hown hts hK hP hS hl.1 (c_X9_notice hi hI hw) rfl (Nat.le_of_ble_eq_true rfl) rfl (cwV 1 hts (gV lm_X9_157 ti_X9_notice tl_X9_notice tn_X9 tc_X9_notice) rfl rfl rfl (by decide +kernel) ⟨Nat.le_of_ble_eq_true rfl, Nat.le_of_ble_eq_true rfl⟩) rfl dX9_rule_12 ⟨Nat.zero_le _, Nat.zero_le _⟩ (by omega) RE_0 (fun r12 E1 H locs hq hP hS => ?_)
    obtain ⟨rfl, rfl⟩ := hq
    refine r_add hx hb dX9_rule_15 ?_
    refine r_icmp_ge (tgt := 38) hx hb (by omega) (by omega) dX9_rule_16 (by decide) (fun c16 => ?_) (fun c16 => ?_)
    · rw [← hWg]
      exact join38  _ _ _ hP hS hl (by rw [ruF, cif_t (by omega), rul1, cif_f (by omega)])
    · refine lv_aload_n hx hb dX9_rule_19 rfl (lv_at hl 0 rfl) ?_
      refine lv_iload_n hx hb dX9_rule_20 rfl (lv_at hl 2 rfl) ?_
      refine lv_aload_n hx hb dX9_rule_21 rfl (lv_at hl 0 rfl) ?_
      refine lv_iload_n hx hb dX9_rule_22 rfl (lv_at hl 1 rfl) ?_
      refine k_calliV (nL := 5) (C := RX9) (T := TX9) (N := 34) (ci := 9) hx hb hml hown hts hK hP hS hl.1 (c_X9_lowest hi hI hw) rfl (Nat.le_of_ble_eq_true rfl) rfl (cwV 1 hts (gV lm_X9_161 ti_X9_lowest tl_X9_lowest tn_X9 tc_X9_lowest) rfl rfl rfl (by decide +kernel) ⟨Nat.le_of_ble_eq_true rfl, Nat.le_of_ble_eq_true rfl⟩) rfl dX9_rule_23 ⟨Nat.zero_le _, Nat.zero_le _⟩ (by omega) RE_0 (fun r23 E1 H locs hq hP hS => ?_)
      obtain ⟨rfl, rfl⟩ := hq
      refine k_calliV (nL := 5) (C := RX9) (T := TX9) (N := 34) (ci := 9) hx hb hml hown hts hK hP hS hl.1 (c_X9_broken hi) rfl (Nat.le_of_ble_eq_true rfl) rfl (cwV 2 hts (gV lm_X9_143 ti_X9_broken tl_X9_broken tn_X9 tc_X9_broken) rfl rfl rfl (by decide +kernel) ⟨Nat.le_of_ble_eq_true rfl, Nat.le_of_ble_eq_true rfl⟩) rfl dX9_rule_26 ⟨Nat.zero_le _, Nat.zero_le _⟩ (by omega) RE_0 (fun r26 E1 H locs hq hP hS => ?_)
      obtain ⟨rfl, rfl⟩ := hq
      refine r_if_eq (tgt := 36) hx hb (by omega) dX9_rule_29 (by decide) (fun c29 => ?_) (fun c29 => ?_)
      · omega
      · refine r_const hx hb dX9_rule_32 ?_
        refine lv_goto (tgt := 37) hx hb dX9_rule_33 (by decide) ?_
        exact k_iret hx hb hr hlocks hP hS dX9_rule_37 ⟨by rw [ruF, cif_t (by omega), rul1, cif_t (by omega)], _, rfl, fun _ => rAt_0 (fun _ => by rw [brk_2.1, brk_2.2]; exact ⟨rfl, rfl⟩) (fun q => absurd q (by decide)) (fun q => absurd q (by decide)) (fun q => absurd q (by decide)) (fun q => absurd q (by decide)) (fun q => absurd q (by decide)) (fun q => absurd q (by decide)), brk_F FrR_rf⟩
abbrev rmX9_look : Room := { frames := 7, cells := 0, slots := 0, locals := 179 }
set_option maxRecDepth 100000 in
set_option maxHeartbeats 4000000 in
theorem c_X9_look {l : Launch} {D : va_G} {G : Nat → ClassId} {ad : Nat → Nat} {σ τ : Tb} (hi : kInj 27 ad) {w d : Int} (hI : Inv σ) (hR : RT σ τ) (hw : 0 ≤ w ∧ w < σ 0 2) (hd : 0 ≤ d ∧ d ≤ 399) : Met l yX9_look wsX9_look rmX9_look (kPc D (tysG G) 27 ad (RE G ad σ τ) [.ref (ad 0), .int (iI w), .int (iI d)]) (kQi D 27 ad (fun z E' => z = rul1 σ w d False ∧ ∃ τ', E' = RE G ad (lok σ w d) τ' ∧ RT (lok σ w d) τ')) 0 0 (kA 27 ad) := by
  refine k_met (cc := cX9_look) (maxL := 4) (ret := (some .int)) (by decide) (Nat.le_of_ble_eq_true rfl) ?_
  intro P0 e0 s m0 below meth c0 ls hx hb hr hlocks hml hown hts hK hP hS hl
  replace hl : lv_has ls 4 [(0, _), (1, _), (2, _)] := hl
  replace hown : s.vm.findClass RX9 = some m0.cls := hown
  refine k_abs (fun Wg hWg => ?_)
  have hrr := rul1_r (σ := σ) (w := w) (d := d) (les := False)
  refine lv_aload_n hx hb dX9_look_0 rfl (lv_at hl 0 rfl) ?_
  refine lv_iload_n hx hb dX9_look_1 rfl (lv_at hl 1 rfl) ?_
  refine lv_iload_n hx hb dX9_look_2 rfl (lv_at hl 2 rfl) ?_
  refine r_const hx hb dX9_look_3 ?_
  refine r_const hx hb dX9_look_4 ?_
  refine k_calliV (nL := 4) (C := RX9) (T := TX9) (N := 34) (ci := 9) hx hb hml hown hts hK hP hS hl.1 (by have q := c_X9_rule (l := l) (D := D) (G := G) (f := 1) (les := False) hi hI hR.1 hw hd (by omega); rw [bI_F] at q; exact q) rfl (Nat.le_of_ble_eq_true rfl) rfl (cwV 4 hts (gV lm_X9_179 ti_X9_rule tl_X9_rule tn_X9 tc_X9_rule) rfl rfl rfl (by decide +kernel) ⟨Nat.le_of_ble_eq_true rfl, Nat.le_of_ble_eq_true rfl⟩) rfl dX9_look_5 ⟨Nat.zero_le _, Nat.zero_le _⟩ (by omega) RE_0 (fun r5 E1 H locs hq hP hS => ?_)
  obtain ⟨hz, τ2, rfl, hA, hF⟩ := hq
  have hz2 : r5 = rul1 σ w d False := by rw [hz, ruF, cif_t (by omega)]
  refine lv_istore_n hx hb dX9_look_8 rfl hl (by decide) rfl (fun ls hl => ?_)
  replace hl : lv_has ls 4 [(0, _), (1, _), (2, _), (3, _)] := lv_sub hl [1, 2, 3, 0] rfl
  refine lv_iload_n hx hb dX9_look_9 rfl (lv_at hl 3 rfl) ?_
  refine r_if_le (tgt := 29) hx hb (by omega) dX9_look_10 (by decide) (fun c10 => ?_) (fun c10 => ?_)
  · have e : lok σ w d = σ := by rw [lok, cif_t (by omega)]
    refine lv_iload_n hx hb dX9_look_29 rfl (lv_at hl 3 rfl) ?_
    exact k_iret hx hb hr hlocks hP hS dX9_look_30 ⟨hz2, τ2, by rw [e], by rw [e]; exact RT_F hF hR⟩
  · have hA2 := hA (by omega)
    rw [hz2] at hA2
    obtain ⟨hD1, hD2⟩ := wDP (by omega) hA2
    have e : lok σ w d = up (up (up σ 0 4 1) 0 5 (τ2 0 0)) 0 6 (τ2 0 1) := by rw [lok, cif_f (by omega), hD1, hD2]
    have e01 : up τ2 0 5 (τ2 0 0) 0 1 = τ2 0 1 := up_i (by decide)
    have hRF := RT_F hF hR
    refine lv_aload_n hx hb dX9_look_13 rfl (lv_at hl 0 rfl) ?_
    refine lv_aload_n hx hb dX9_look_14 rfl (lv_at hl 0 rfl) ?_
    refine r_get (C := RX9) (T := TX9) (N := 34) (ci := 9) hx hb hts hi_X9 hown hK hP 29 rfl (by decide) lk_X9_137 (fun _ h9 => h9) dX9_look_15 (by omega) RE_0 rfl ?_
    refine r_put (C := RX9) (T := TX9) (N := 34) (ci := 9) hx hb hi hts hi_X9 tyX9 tyX9_ok nmX9 hown hK hP hS 31 rfl (by decide) lk_X9_87 (fun _ h9 => h9) rfl (ty := .int) (by decide +kernel) rfl rfl dX9_look_18 (by omega) RE_0 (Nat.le_of_ble_eq_true rfl) ru_toldDay (fun H locs hP hS => ?_)
    refine lv_aload_n hx hb dX9_look_21 rfl (lv_at hl 0 rfl) ?_
    refine lv_aload_n hx hb dX9_look_22 rfl (lv_at hl 0 rfl) ?_
    refine r_get (C := RX9) (T := TX9) (N := 34) (ci := 9) hx hb hts hi_X9 hown hK hP 30 rfl (by decide) lk_X9_140 (fun _ h9 => h9) dX9_look_23 (by omega) RE_0 rfl ?_
    rw [e01]
    refine r_put (C := RX9) (T := TX9) (N := 34) (ci := 9) hx hb hi hts hi_X9 tyX9 tyX9_ok nmX9 hown hK hP hS 32 rfl (by decide) lk_X9_91 (fun _ h9 => h9) rfl (ty := .int) (by decide +kernel) rfl rfl dX9_look_26 (by omega) RE_0 (Nat.le_of_ble_eq_true rfl) ru_toldAt (fun H locs hP hS => ?_)
    refine lv_iload_n hx hb dX9_look_29 rfl (lv_at hl 3 rfl) ?_
    have hRT : RT (lok σ w d) (up (up τ2 0 5 (τ2 0 0)) 0 6 (τ2 0 1)) := by
      rw [e]
      refine ⟨⟨?_, ?_, ?_⟩, ?_, ?_⟩
      · simp [up]; exact hRF.1.1
      · simp [up]; exact hRF.1.2.1
      · simp [up]; exact hRF.1.2.2
      · rw [cif_t (by simp [up])]; simp [up]
      · rw [cif_t (by simp [up])]; simp [up]
    exact k_iret hx hb hr hlocks hP hS dX9_look_30 ⟨hz2, _, RE_lok.symm, hRT⟩
theorem rfF_r {σ : Tb} {w : Int} : rfF σ w = 0 ∨ rfF σ w = -3 := by
  unfold rfF
  by_cases q : (σ 19 w = 0 ∨ σ 19 w = 1) ∧ σ 12 w ≠ 2
  · rw [cif_t q]; omega
  · rw [cif_f q]; omega
abbrev rmX9_may : Room := { frames := 8, cells := 0, slots := 0, locals := 202 }
set_option maxRecDepth 100000 in
set_option maxHeartbeats 4000000 in
theorem c_X9_may {l : Launch} {D : va_G} {G : Nat → ClassId} {ad : Nat → Nat} {σ τ : Tb} (hi : kInj 27 ad) {w d : Int} (hI : InvS σ) (hT : RT σ τ) (hw : (-2147483648 ≤ w ∧ w < 2147483648)) (hd : (-2147483648 ≤ d ∧ d < 2147483648)) : Met l yX9_may wsX9_may rmX9_may (kPc D (tysG G) 27 ad (RE G ad σ τ) [.ref (ad 0), .int (iI w), .int (iI d)]) (kQi D 27 ad (fun z E' => z = aMay σ w d ∧ ∃ τ', E' = RE G ad (sMay σ w d) τ' ∧ RT (sMay σ w d) τ')) 0 0 (kA 27 ad) := by
  refine k_met (cc := cX9_may) (maxL := 3) (ret := (some .int)) (by decide) (Nat.le_of_ble_eq_true rfl) ?_
  intro P0 e0 s m0 below meth c0 ls hx hb hr hlocks hml hown hts hK hP hS hl
  replace hl : lv_has ls 3 [(0, _), (1, _), (2, _)] := hl
  replace hown : s.vm.findClass RX9 = some m0.cls := hown
  refine k_abs (fun Wg hWg => ?_)
  have hrr := rfF_r (σ := σ) (w := w)
  have join19 : ∀  (H : Heap) (locs : List Loc) (ls : Array Slot), va_P D vwCl (kw 27 ad (RE G ad σ τ)) H → va_S (kA 27 ad) s.heap H locs → lv_has ls 3 [(0, .ref (ad 0))] → (¬ (lvW σ w ∧ (0 ≤ d ∧ d ≤ 399))) → Wg H locs (F0 m0 19 ls []) := by
    intro  H locs ls hP hS hl hv19
    rw [hWg]
    have e : rfs σ w d = -1 := by rw [rfs, cif_f hv19]
    have e2 : sMay σ w d = σ := by rw [sMay, e, cif_f (by decide)]
    refine r_const hx hb dX9_may_19 ?_
    exact k_iret hx hb hr hlocks hP hS dX9_may_20 ⟨by rw [aMay, e, cif_f (by decide)], τ, by rw [e2], by rw [e2]; exact hT⟩
  refine lv_aload_n hx hb dX9_may_0 rfl (lv_at hl 0 rfl) ?_
  refine lv_iload_n hx hb dX9_may_1 rfl (lv_at hl 1 rfl) ?_
  refine k_calliV (nL := 3) (C := RX9) (T := TX9) (N := 34) (ci := 9) hx hb hml hown hts hK hP hS hl.1 (c_X9_isWork hi hI.1 hw) rfl (Nat.le_of_ble_eq_true rfl) rfl (cwV 1 hts (gV lm_X9_114 ti_X9_isWork tl_X9_isWork tn_X9 tc_X9_isWork) rfl rfl rfl (by decide +kernel) ⟨Nat.le_of_ble_eq_true rfl, Nat.le_of_ble_eq_true rfl⟩) rfl dX9_may_2 ⟨Nat.zero_le _, Nat.zero_le _⟩ (by omega) RE_0 (fun r2 E1 H locs hq hP hS => ?_)
  obtain ⟨rfl, rfl⟩ := hq
  refine r_ifB_eq (tgt := 19) hx hb dX9_may_5 (by decide) (fun c5 => ?_) (fun c5 => ?_)
  · rw [← hWg]
    exact join19  _ _ _ hP hS (lv_sub hl [0] rfl) (fun q => c5 q.1)
  · refine lv_iload_n hx hb dX9_may_8 rfl (lv_at hl 2 rfl) ?_
    refine r_const hx hb dX9_may_9 ?_
    refine r_sipush hx hb dX9_may_10 (by decide +kernel) ?_
    refine k_calliS (nL := 3) hx hb hml hown hts hK hP hS hl.1 (c_X9_within hi hd (by omega) (by omega)) rfl (Nat.le_of_ble_eq_true rfl) (va_cwS 3 hts (gS lm_X9_97 ts_X9_within tn_X9 tc_X9_within) rfl rfl rfl (by decide +kernel) ⟨Nat.le_of_ble_eq_true rfl, Nat.le_of_ble_eq_true rfl⟩) rfl dX9_may_13 ⟨Nat.zero_le _, Nat.zero_le _⟩ (fun r13 E1 H locs hq hP hS => ?_)
    obtain ⟨rfl, rfl⟩ := hq
    refine r_ifB_ne (tgt := 21) hx hb dX9_may_16 (by decide) (fun c16 => ?_) (fun c16 => ?_)
    · have e : rfs σ w d = rfF σ w := by rw [rfs, cif_t ⟨c5, c16⟩]; rfl
      refine lv_aload_n hx hb dX9_may_21 rfl (lv_at hl 0 rfl) ?_
      refine lv_iload_n hx hb dX9_may_22 rfl (lv_at hl 1 rfl) ?_
      refine k_calliV (nL := 3) (C := RX9) (T := TX9) (N := 34) (ci := 9) hx hb hml hown hts hK hP hS hl.1 (c_X9_refusal hi hI.1 c5) rfl (Nat.le_of_ble_eq_true rfl) rfl (cwV 1 hts (gV lm_X9_183 ti_X9_refusal tl_X9_refusal tn_X9 tc_X9_refusal) rfl rfl rfl (by decide +kernel) ⟨Nat.le_of_ble_eq_true rfl, Nat.le_of_ble_eq_true rfl⟩) rfl dX9_may_23 ⟨Nat.zero_le _, Nat.zero_le _⟩ (by omega) RE_0 (fun r23 E1 H locs hq hP hS => ?_)
      obtain ⟨rfl, rfl⟩ := hq
      refine r_if_eq (tgt := 34) hx hb (by omega) dX9_may_26 (by decide) (fun c26 => ?_) (fun c26 => ?_)
      · have e2 : sMay σ w d = lok σ w d := by rw [sMay, e, cif_t c26]
        refine lv_aload_n hx hb dX9_may_34 rfl (lv_at hl 0 rfl) ?_
        refine lv_iload_n hx hb dX9_may_35 rfl (lv_at hl 1 rfl) ?_
        refine lv_iload_n hx hb dX9_may_36 rfl (lv_at hl 2 rfl) ?_
        refine k_calliV (nL := 3) (C := RX9) (T := TX9) (N := 34) (ci := 9) hx hb hml hown hts hK hP hS hl.1 (c_X9_look hi hI.1 hT c5 c16) rfl (Nat.le_of_ble_eq_true rfl) rfl (cwV 2 hts (gV lm_X9_186 ti_X9_look tl_X9_look tn_X9 tc_X9_look) rfl rfl rfl (by decide +kernel) ⟨Nat.le_of_ble_eq_true rfl, Nat.le_of_ble_eq_true rfl⟩) rfl dX9_may_37 ⟨Nat.zero_le _, Nat.zero_le _⟩ (by omega) RE_0 (fun r37 E1 H locs hq hP hS => ?_)
        obtain ⟨rfl, τ2, rfl, hT2⟩ := hq
        exact k_iret hx hb hr hlocks hP hS dX9_may_40 ⟨by rw [aMay, e, cif_t c26], τ2, by rw [e2], by rw [e2]; exact hT2⟩
      · have e2 : sMay σ w d = σ := by rw [sMay, e, cif_f c26]
        refine r_bipush hx hb dX9_may_29 (by decide +kernel) ?_
        refine lv_goto (tgt := 40) hx hb dX9_may_31 (by decide) ?_
        exact k_iret hx hb hr hlocks hP hS dX9_may_40 ⟨by rw [aMay, e, cif_f c26]; omega, τ, by rw [e2], by rw [e2]; exact hT⟩
    · rw [← hWg]
      exact join19  _ _ _ hP hS (lv_sub hl [0] rfl) (fun q => c16 q.2)
abbrev rmX9_why : Room := { frames := 0, cells := 0, slots := 0, locals := 0 }
set_option maxRecDepth 100000 in
set_option maxHeartbeats 4000000 in
theorem c_X9_why {l : Launch} {D : va_G} {G : Nat → ClassId} {ad : Nat → Nat} {σ τ : Tb} (hi : kInj 27 ad) {q : Int} (hI : InvS σ) (hT : RT σ τ) (hq0 : (-2147483648 ≤ q ∧ q < 2147483648)) : Met l yX9_why wsX9_why rmX9_why (kPc D (tysG G) 27 ad (RE G ad σ τ) [.ref (ad 0), .int (iI q)]) (kQi D 27 ad (fun z E' => z = aWhy σ q ∧ ∃ τ', E' = RE G ad σ τ' ∧ RT σ τ')) 0 0 (kA 27 ad) := by
  refine k_met (cc := cX9_why) (maxL := 2) (ret := (some .int)) (by decide) (Nat.le_of_ble_eq_true rfl) ?_
  intro P0 e0 s m0 below meth c0 ls hx hb hr hlocks hml hown hts hK hP hS hl
  replace hl : lv_has ls 2 [(0, _), (1, _)] := hl
  replace hown : s.vm.findClass RX9 = some m0.cls := hown
  refine k_abs (fun Wg hWg => ?_)
  have hT5 := hT.2.1
  have hT6 := hT.2.2
  have e5 : q = 0 → τ 0 5 = aWhy σ q := by
    intro z
    rw [hT5, aWhy]
    by_cases h : σ 0 4 = 1
    · rw [cif_t h, cif_t ⟨h, by omega⟩, cif_t z]
    · rw [cif_f h, cif_f (fun y => h y.1)]
  have e6 : q = 1 → τ 0 6 = aWhy σ q := by
    intro z
    rw [hT6, aWhy]
    by_cases h : σ 0 4 = 1
    · rw [cif_t h, cif_t ⟨h, by omega⟩, cif_f (by omega)]
    · rw [cif_f h, cif_f (fun y => h y.1)]
  refine lv_iload_n hx hb dX9_why_0 rfl (lv_at hl 1 rfl) ?_
  refine r_if_ne (tgt := 11) hx hb (by omega) dX9_why_1 (by decide) (fun c1 => ?_) (fun c1 => ?_)
  · refine lv_iload_n hx hb dX9_why_11 rfl (lv_at hl 1 rfl) ?_
    refine r_const hx hb dX9_why_12 ?_
    refine r_icmp_ne (tgt := 23) hx hb (by omega) (by omega) dX9_why_13 (by decide) (fun c13 => ?_) (fun c13 => ?_)
    · refine r_const hx hb dX9_why_23 ?_
      exact k_iret hx hb hr hlocks hP hS dX9_why_24 ⟨by rw [aWhy, cif_f (by omega)], τ, rfl, hT⟩
    · refine lv_aload_n hx hb dX9_why_16 rfl (lv_at hl 0 rfl) ?_
      refine r_get (C := RX9) (T := TX9) (N := 34) (ci := 9) hx hb hts hi_X9 hown hK hP 32 rfl (by decide) lk_X9_91 (fun _ h9 => h9) dX9_why_17 (by omega) RE_0 rfl ?_
      refine lv_goto (tgt := 24) hx hb dX9_why_20 (by decide) ?_
      exact k_iret hx hb hr hlocks hP hS dX9_why_24 ⟨e6 (by omega), τ, rfl, hT⟩
  · refine lv_aload_n hx hb dX9_why_4 rfl (lv_at hl 0 rfl) ?_
    refine r_get (C := RX9) (T := TX9) (N := 34) (ci := 9) hx hb hts hi_X9 hown hK hP 31 rfl (by decide) lk_X9_87 (fun _ h9 => h9) dX9_why_5 (by omega) RE_0 rfl ?_
    refine lv_goto (tgt := 24) hx hb dX9_why_8 (by decide) ?_
    exact k_iret hx hb hr hlocks hP hS dX9_why_24 ⟨e5 (by omega), τ, rfl, hT⟩
abbrev rmX9_first : Room := { frames := 8, cells := 0, slots := 0, locals := 202 }
set_option maxRecDepth 100000 in
set_option maxHeartbeats 4000000 in
theorem c_X9_first {l : Launch} {D : va_G} {G : Nat → ClassId} {ad : Nat → Nat} {σ τ : Tb} (hi : kInj 27 ad) {w a n : Int} (hI : InvS σ) (hT : RT σ τ) (hw : (-2147483648 ≤ w ∧ w < 2147483648)) (ha : (-2147483648 ≤ a ∧ a < 2147483648)) (hn : (-2147483648 ≤ n ∧ n < 2147483648)) : Met l yX9_first wsX9_first rmX9_first (kPc D (tysG G) 27 ad (RE G ad σ τ) [.ref (ad 0), .int (iI w), .int (iI a), .int (iI n)]) (kQi D 27 ad (fun z E' => z = aFirst σ w a n ∧ ∃ τ', E' = RE G ad (sFirst σ w a n) τ' ∧ RT (sFirst σ w a n) τ')) 0 0 (kA 27 ad) := by
  refine k_met (cc := cX9_first) (maxL := 5) (ret := (some .int)) (by decide) (Nat.le_of_ble_eq_true rfl) ?_
  intro P0 e0 s m0 below meth c0 ls hx hb hr hlocks hml hown hts hK hP hS hl
  replace hl : lv_has ls 5 [(0, _), (1, _), (2, _), (3, _)] := hl
  replace hown : s.vm.findClass RX9 = some m0.cls := hown
  refine k_abs (fun Wg hWg => ?_)
  have hrr := rfF_r (σ := σ) (w := w)
  have join30 : ∀  (H : Heap) (locs : List Loc) (ls : Array Slot), va_P D vwCl (kw 27 ad (RE G ad σ τ)) H → va_S (kA 27 ad) s.heap H locs → lv_has ls 5 [(0, .ref (ad 0))] → (¬ ((lvW σ w ∧ (0 ≤ a ∧ a ≤ 399)) ∧ (1 ≤ n ∧ n ≤ 200))) → Wg H locs (F0 m0 30 ls []) := by
    intro  H locs ls hP hS hl hv30
    rw [hWg]
    have e : aFirst σ w a n = -1 ∧ sFirst σ w a n = σ := by
      by_cases q : 1 ≤ n ∧ n ≤ 200
      · have e : rfs σ w a = -1 := by rw [rfs, cif_f (fun y => hv30 ⟨y, q⟩)]
        rw [aFirst, cif_t q, e, cif_f (by decide), sFirst, cif_f (fun y => by rw [e] at y; exact absurd y.2 (by decide))]
        exact ⟨rfl, rfl⟩
      · rw [aFirst, cif_f q, sFirst, cif_f (fun y => q y.1)]
        exact ⟨rfl, rfl⟩
    refine r_const hx hb dX9_first_30 ?_
    exact k_iret hx hb hr hlocks hP hS dX9_first_31 ⟨e.1.symm, τ, by rw [e.2], by rw [e.2]; exact hT⟩
  refine lv_aload_n hx hb dX9_first_0 rfl (lv_at hl 0 rfl) ?_
  refine lv_iload_n hx hb dX9_first_1 rfl (lv_at hl 1 rfl) ?_
  refine k_calliV (nL := 5) (C := RX9) (T := TX9) (N := 34) (ci := 9) hx hb hml hown hts hK hP hS hl.1 (c_X9_isWork hi hI.1 hw) rfl (Nat.le_of_ble_eq_true rfl) rfl (cwV 1 hts (gV lm_X9_114 ti_X9_isWork tl_X9_isWork tn_X9 tc_X9_isWork) rfl rfl rfl (by decide +kernel) ⟨Nat.le_of_ble_eq_true rfl, Nat.le_of_ble_eq_true rfl⟩) rfl dX9_first_2 ⟨Nat.zero_le _, Nat.zero_le _⟩ (by omega) RE_0 (fun r2 E1 H locs hq hP hS => ?_)
  obtain ⟨rfl, rfl⟩ := hq
  refine r_ifB_eq (tgt := 30) hx hb dX9_first_5 (by decide) (fun c5 => ?_) (fun c5 => ?_)
  · rw [← hWg]
    exact join30  _ _ _ hP hS (lv_sub hl [0] rfl) (fun q => c5 q.1.1)
  · refine lv_iload_n hx hb dX9_first_8 rfl (lv_at hl 2 rfl) ?_
    refine r_const hx hb dX9_first_9 ?_
    refine r_sipush hx hb dX9_first_10 (by decide +kernel) ?_
    refine k_calliS (nL := 5) hx hb hml hown hts hK hP hS hl.1 (c_X9_within hi ha (by omega) (by omega)) rfl (Nat.le_of_ble_eq_true rfl) (va_cwS 3 hts (gS lm_X9_97 ts_X9_within tn_X9 tc_X9_within) rfl rfl rfl (by decide +kernel) ⟨Nat.le_of_ble_eq_true rfl, Nat.le_of_ble_eq_true rfl⟩) rfl dX9_first_13 ⟨Nat.zero_le _, Nat.zero_le _⟩ (fun r13 E1 H locs hq hP hS => ?_)
    obtain ⟨rfl, rfl⟩ := hq
    refine r_ifB_eq (tgt := 30) hx hb dX9_first_16 (by decide) (fun c16 => ?_) (fun c16 => ?_)
    · rw [← hWg]
      exact join30  _ _ _ hP hS (lv_sub hl [0] rfl) (fun q => c16 q.1.2)
    · refine lv_iload_n hx hb dX9_first_19 rfl (lv_at hl 3 rfl) ?_
      refine r_const hx hb dX9_first_20 ?_
      refine r_sipush hx hb dX9_first_21 (by decide +kernel) ?_
      refine k_calliS (nL := 5) hx hb hml hown hts hK hP hS hl.1 (c_X9_within hi hn (by omega) (by omega)) rfl (Nat.le_of_ble_eq_true rfl) (va_cwS 3 hts (gS lm_X9_97 ts_X9_within tn_X9 tc_X9_within) rfl rfl rfl (by decide +kernel) ⟨Nat.le_of_ble_eq_true rfl, Nat.le_of_ble_eq_true rfl⟩) rfl dX9_first_24 ⟨Nat.zero_le _, Nat.zero_le _⟩ (fun r24 E1 H locs hq hP hS => ?_)
      obtain ⟨rfl, rfl⟩ := hq
      refine r_ifB_ne (tgt := 32) hx hb dX9_first_27 (by decide) (fun c27 => ?_) (fun c27 => ?_)
      · have e : rfs σ w a = rfF σ w := by rw [rfs, cif_t ⟨c5, c16⟩]; rfl
        refine lv_aload_n hx hb dX9_first_32 rfl (lv_at hl 0 rfl) ?_
        refine lv_iload_n hx hb dX9_first_33 rfl (lv_at hl 1 rfl) ?_
        refine k_calliV (nL := 5) (C := RX9) (T := TX9) (N := 34) (ci := 9) hx hb hml hown hts hK hP hS hl.1 (c_X9_refusal hi hI.1 c5) rfl (Nat.le_of_ble_eq_true rfl) rfl (cwV 1 hts (gV lm_X9_183 ti_X9_refusal tl_X9_refusal tn_X9 tc_X9_refusal) rfl rfl rfl (by decide +kernel) ⟨Nat.le_of_ble_eq_true rfl, Nat.le_of_ble_eq_true rfl⟩) rfl dX9_first_34 ⟨Nat.zero_le _, Nat.zero_le _⟩ (by omega) RE_0 (fun r34 E1 H locs hq hP hS => ?_)
        obtain ⟨rfl, rfl⟩ := hq
        refine r_if_eq (tgt := 43) hx hb (by omega) dX9_first_37 (by decide) (fun c37 => ?_) (fun c37 => ?_)
        · have hs : sFirst σ w a n = lok σ w a := by rw [sFirst, cif_t ⟨c27, by rw [e]; exact c37⟩]
          have hA : aFirst σ w a n = frA σ w a n := by rw [aFirst, cif_t c27, e, cif_t c37]
          have hru := rul1_r (σ := σ) (w := w) (d := a) (les := False)
          have hI2 := InvS_lok hI (w := w) (d := a)
          have hw2 : 0 ≤ w ∧ w < lok σ w a 0 2 := by rw [lok_0 (by decide)]; exact c5
          refine lv_aload_n hx hb dX9_first_43 rfl (lv_at hl 0 rfl) ?_
          refine lv_iload_n hx hb dX9_first_44 rfl (lv_at hl 1 rfl) ?_
          refine lv_iload_n hx hb dX9_first_45 rfl (lv_at hl 2 rfl) ?_
          refine k_calliV (nL := 5) (C := RX9) (T := TX9) (N := 34) (ci := 9) hx hb hml hown hts hK hP hS hl.1 (c_X9_look hi hI.1 hT c5 c16) rfl (Nat.le_of_ble_eq_true rfl) rfl (cwV 2 hts (gV lm_X9_186 ti_X9_look tl_X9_look tn_X9 tc_X9_look) rfl rfl rfl (by decide +kernel) ⟨Nat.le_of_ble_eq_true rfl, Nat.le_of_ble_eq_true rfl⟩) rfl dX9_first_46 ⟨Nat.zero_le _, Nat.zero_le _⟩ (by omega) RE_0 (fun r46 E1 H locs hq hP hS => ?_)
          obtain ⟨rfl, τ1, rfl, hT1⟩ := hq
          refine r_if_ne (tgt := 54) hx hb (by omega) dX9_first_49 (by decide) (fun c49 => ?_) (fun c49 => ?_)
          · refine lv_iload_n hx hb dX9_first_54 rfl (lv_at hl 2 rfl) ?_
            refine r_const hx hb dX9_first_55 ?_
            refine r_add hx hb dX9_first_56 ?_
            refine lv_istore hx hb dX9_first_57 hl (by decide) rfl (fun ls hl => ?_)
            replace hl : lv_has ls 5 [(0, _), (1, _), (2, _), (3, _), (4, _)] := lv_sub hl [1, 2, 3, 4, 0] rfl
            have loop59 : ∀ (nn : Nat) (d : Int) (τ2 : Tb) (H : Heap) (locs : List Loc) (ls : Array Slot), va_P D vwCl (kw 27 ad (RE G ad (lok σ w a) τ2)) H → va_S (kA 27 ad) s.heap H locs → lv_has ls 5 [(0, .ref (ad 0)), (1, .int (iI w)), (2, .int (iI a)), (3, .int (iI n)), (4, .int (iI d))] → ((a < d ∧ d ≤ 400) ∧ (∀ x, a < x → x < d → rul1 (lok σ w a) w x False ≠ 0) ∧ RT (lok σ w a) τ2) → (400 - d).toNat < nn → Wg H locs (F0 m0 59 ls []) := by
              intro nn
              induction nn with
              | zero => intro d τ2 H locs ls _ _ _ _ hn; omega
              | succ nn ih59 =>
                intro d τ2 H locs ls hP hS hl hv59 hn59
                rw [hWg]
                obtain ⟨hv, hno, hT2⟩ := hv59
                have join96 : ∀  (H : Heap) (locs : List Loc) (ls : Array Slot), va_P D vwCl (kw 27 ad (RE G ad (lok σ w a) τ2)) H → va_S (kA 27 ad) s.heap H locs → lv_has ls 5 [(0, .ref (ad 0))] → (∀ x, a < x → x < a + n → x ≤ 399 → rul1 (lok σ w a) w x False ≠ 0) → Wg H locs (F0 m0 96 ls []) := by
                  intro  H locs ls hP hS hl hv96
                  rw [hWg]
                  refine r_bipush hx hb dX9_first_96 (by decide +kernel) ?_
                  exact k_iret hx hb hr hlocks hP hS dX9_first_98 ⟨by rw [hA, frA_f c49 hv96], τ2, by rw [hs], by rw [hs]; exact hT2⟩
                refine lv_iload hx hb dX9_first_59 (lv_at hl 4 rfl) ?_
                refine lv_iload_n hx hb dX9_first_61 rfl (lv_at hl 2 rfl) ?_
                refine lv_iload_n hx hb dX9_first_62 rfl (lv_at hl 3 rfl) ?_
                refine r_add hx hb dX9_first_63 ?_
                refine r_icmp_ge (tgt := 96) hx hb (by omega) (by omega) dX9_first_64 (by decide) (fun c64 => ?_) (fun c64 => ?_)
                · rw [← hWg]
                  exact join96  _ _ _ hP hS (lv_sub hl [0] rfl) (fun x x1 x2 x3 => hno x x1 (by omega))
                · refine lv_iload hx hb dX9_first_67 (lv_at hl 4 rfl) ?_
                  refine r_sipush hx hb dX9_first_69 (by decide +kernel) ?_
                  refine r_icmp_gt (tgt := 96) hx hb (by omega) (by omega) dX9_first_72 (by decide) (fun c72 => ?_) (fun c72 => ?_)
                  · rw [← hWg]
                    exact join96  _ _ _ hP hS (lv_sub hl [0] rfl) (fun x x1 x2 x3 => hno x x1 (by omega))
                  · have hr2 := rul1_r (σ := lok σ w a) (w := w) (d := d) (les := False)
                    refine lv_aload_n hx hb dX9_first_75 rfl (lv_at hl 0 rfl) ?_
                    refine lv_iload_n hx hb dX9_first_76 rfl (lv_at hl 1 rfl) ?_
                    refine lv_iload hx hb dX9_first_77 (lv_at hl 4 rfl) ?_
                    refine r_const hx hb dX9_first_79 ?_
                    refine r_const hx hb dX9_first_80 ?_
                    refine k_calliV (nL := 5) (C := RX9) (T := TX9) (N := 34) (ci := 9) hx hb hml hown hts hK hP hS hl.1 (by have q := c_X9_rule (l := l) (D := D) (G := G) (d := d) (f := 1) (les := False) hi hI2.1 hT2.1 hw2 (by omega) (by omega); rw [bI_F] at q; exact q) rfl (Nat.le_of_ble_eq_true rfl) rfl (cwV 4 hts (gV lm_X9_179 ti_X9_rule tl_X9_rule tn_X9 tc_X9_rule) rfl rfl rfl (by decide +kernel) ⟨Nat.le_of_ble_eq_true rfl, Nat.le_of_ble_eq_true rfl⟩) rfl dX9_first_81 ⟨Nat.zero_le _, Nat.zero_le _⟩ (by omega) RE_0 (fun r81 E1 H locs hq hP hS => ?_)
                    obtain ⟨hz, τ3, rfl, _, hF3⟩ := hq
                    have hz2 : r81 = rul1 (lok σ w a) w d False := by rw [hz, ruF, cif_t (by omega)]
                    refine r_if_ne (tgt := 90) hx hb (by omega) dX9_first_84 (by decide) (fun c84 => ?_) (fun c84 => ?_)
                    · have hno2 : ∀ x, a < x → x < d + 1 → rul1 (lok σ w a) w x False ≠ 0 := by
                        intro x x1 x2
                        rcases (show x < d ∨ x = d by omega) with y | y
                        · exact hno x x1 y
                        · rw [y]; omega
                      refine r_iinc hx hb dX9_first_90 hl (k := 4) rfl (by decide) (fun ls hl => ?_)
                      replace hl : lv_has ls 5 [(0, _), (1, _), (2, _), (3, _), (4, _)] := lv_sub hl [1, 2, 3, 4, 0] rfl
                      refine lv_goto (tgt := 59) hx hb dX9_first_93 (by decide) ?_
                      rw [← hWg]
                      exact ih59 (d + 1) _ _ _ _ hP hS hl ⟨by omega, hno2, RT_F hF3 hT2⟩ (by omega)
                    · have hok : frOk (lok σ w a) w a n d := ⟨by omega, by omega, hno⟩
                      refine lv_iload hx hb dX9_first_87 (lv_at hl 4 rfl) ?_
                      exact k_iret hx hb hr hlocks hP hS dX9_first_89 ⟨by rw [hA, frA_t c49 hok], τ3, by rw [hs], by rw [hs]; exact RT_F hF3 hT2⟩
            rw [← hWg]
            exact loop59 _ _ _ _ _ _ hP hS hl ⟨by omega, fun x x1 x2 => by omega, hT1⟩ (Nat.lt_succ_self _)
          · refine lv_iload_n hx hb dX9_first_52 rfl (lv_at hl 2 rfl) ?_
            exact k_iret hx hb hr hlocks hP hS dX9_first_53 ⟨by rw [hA, frA, cif_t (by omega)], τ1, by rw [hs], by rw [hs]; exact hT1⟩
        · have e2 : sFirst σ w a n = σ := by rw [sFirst, cif_f (fun y => by rw [e] at y; exact c37 y.2)]
          refine r_bipush hx hb dX9_first_40 (by decide +kernel) ?_
          exact k_iret hx hb hr hlocks hP hS dX9_first_42 ⟨by rw [aFirst, cif_t c27, e, cif_f c37]; omega, τ, by rw [e2], by rw [e2]; exact hT⟩
      · rw [← hWg]
        exact join30  _ _ _ hP hS (lv_sub hl [0] rfl) (fun q => c27 q.2)
abbrev rmX9_put : Room := { frames := 0, cells := 0, slots := 0, locals := 0 }
set_option maxRecDepth 100000 in
set_option maxHeartbeats 4000000 in
theorem c_X9_put {l : Launch} {D : va_G} {G : Nat → ClassId} {ad : Nat → Nat} {σ τ : Tb} (hi : kInj 27 ad) {w d : Int} (hR : RD σ τ) (hn : σ 0 2 ≤ 60) (hw : 0 ≤ w ∧ w < σ 0 2) (hd : 0 ≤ d ∧ d + σ 14 w - 1 ≤ 399) (h14 : 1 ≤ σ 14 w ∧ σ 14 w ≤ 30) (h3 : 0 ≤ σ 0 3 ∧ σ 0 3 ≤ 399) : Met l yX9_put wsX9_put rmX9_put (kPc D (tysG G) 27 ad (RE G ad σ τ) [.ref (ad 0), .int (iI w), .int (iI d)]) (kQv D 27 ad (fun E' => E' = RE G ad (pmt σ w d) τ)) 0 0 (kA 27 ad) := by
  refine k_met (cc := cX9_put) (maxL := 3) (ret := none) (by decide) (Nat.le_of_ble_eq_true rfl) ?_
  intro P0 e0 s m0 below meth c0 ls hx hb hr hlocks hml hown hts hK hP hS hl
  replace hl : lv_has ls 3 [(0, _), (1, _), (2, _)] := hl
  replace hown : s.vm.findClass RX9 = some m0.cls := hown
  refine k_abs (fun Wg hWg => ?_)
  obtain ⟨hR2, hR3, hR4⟩ := hR
  have e14 : up σ 20 w d 14 w = σ 14 w := up_t (by decide)
  have e3 : up (up σ 20 w d) 21 w (d + σ 14 w - 1) 0 3 = σ 0 3 := by rw [up_t (by decide), up_t (by decide)]
  have el : lstF σ w d = d + σ 14 w - 1 := by unfold lstF; split <;> omega
  refine lv_aload_n hx hb dX9_put_0 rfl (lv_at hl 0 rfl) ?_
  refine r_get (C := RX9) (T := TX9) (N := 34) (ci := 9) hx hb hts hi_X9 hown hK hP 23 rfl (by decide) lk_X9_72 (fun _ h9 => h9) dX9_put_1 (by omega) RE_0 rfl ?_
  refine lv_iload_n hx hb dX9_put_4 rfl (lv_at hl 1 rfl) ?_
  refine lv_iload_n hx hb dX9_put_5 rfl (lv_at hl 2 rfl) ?_
  refine r_iast hx hb hi hK hP hS 0 rfl dX9_put_6 (by omega) rfl (by omega) (by omega) (ru_begins (by omega) (by omega)) (fun H locs hP hS => ?_)
  refine lv_aload_n hx hb dX9_put_7 rfl (lv_at hl 0 rfl) ?_
  refine r_get (C := RX9) (T := TX9) (N := 34) (ci := 9) hx hb hts hi_X9 hown hK hP 24 rfl (by decide) lk_X9_75 (fun _ h9 => h9) dX9_put_8 (by omega) RE_0 rfl ?_
  refine lv_iload_n hx hb dX9_put_11 rfl (lv_at hl 1 rfl) ?_
  refine lv_iload_n hx hb dX9_put_12 rfl (lv_at hl 2 rfl) ?_
  refine lv_aload_n hx hb dX9_put_13 rfl (lv_at hl 0 rfl) ?_
  refine r_get (C := RX9) (T := TX9) (N := 34) (ci := 9) hx hb hts hi_X9 hown hK hP 16 rfl (by decide) lk_X9_50 (fun _ h9 => h9) dX9_put_14 (by omega) RE_0 rfl ?_
  refine lv_iload_n hx hb dX9_put_17 rfl (lv_at hl 1 rfl) ?_
  refine r_iald hx hb hK hP 0 rfl dX9_put_18 (by omega) rfl (by omega) (by omega) (tI_at (by omega)) ?_
  rw [e14]
  refine r_add hx hb dX9_put_19 ?_
  refine r_const hx hb dX9_put_20 ?_
  refine r_sub hx hb dX9_put_21 ?_
  refine r_iast hx hb hi hK hP hS 0 rfl dX9_put_22 (by omega) rfl (by omega) (by omega) (ru_ends (by omega) (by omega)) (fun H locs hP hS => ?_)
  refine lv_aload_n hx hb dX9_put_23 rfl (lv_at hl 0 rfl) ?_
  refine r_get (C := RX9) (T := TX9) (N := 34) (ci := 9) hx hb hts hi_X9 hown hK hP 22 rfl (by decide) lk_X9_69 (fun _ h9 => h9) dX9_put_24 (by omega) RE_0 rfl ?_
  refine lv_iload_n hx hb dX9_put_27 rfl (lv_at hl 1 rfl) ?_
  refine lv_iload_n hx hb dX9_put_28 rfl (lv_at hl 2 rfl) ?_
  refine lv_aload_n hx hb dX9_put_29 rfl (lv_at hl 0 rfl) ?_
  refine r_get (C := RX9) (T := TX9) (N := 34) (ci := 9) hx hb hts hi_X9 hown hK hP 12 rfl (by decide) lk_X9_154 (fun _ h9 => h9) dX9_put_30 (by omega) RE_0 rfl ?_
  rw [e3]
  refine r_icmp_ne (tgt := 40) hx hb (by omega) (by omega) dX9_put_33 (by decide) (fun c33 => ?_) (fun c33 => ?_)
  · refine r_const hx hb dX9_put_40 ?_
    refine r_iast hx hb hi hK hP hS 0 rfl dX9_put_41 (by omega) rfl (by omega) (by omega) (ru_state (by omega)) (fun H locs hP hS => ?_)
    exact k_vret hx hb hr hlocks hP hS dX9_put_42 (by rw [pmt, el, cif_f (by omega)])
  · refine r_const hx hb dX9_put_36 ?_
    refine lv_goto (tgt := 41) hx hb dX9_put_37 (by decide) ?_
    refine r_iast hx hb hi hK hP hS 0 rfl dX9_put_41 (by omega) rfl (by omega) (by omega) (ru_state (by omega)) (fun H locs hP hS => ?_)
    exact k_vret hx hb hr hlocks hP hS dX9_put_42 (by rw [pmt, el, cif_t (by omega)])
abbrev rmX9_draw : Room := { frames := 0, cells := 0, slots := 0, locals := 0 }
set_option maxRecDepth 100000 in
set_option maxHeartbeats 4000000 in
theorem c_X9_draw {l : Launch} {D : va_G} {G : Nat → ClassId} {ad : Nat → Nat} {σ τ : Tb} (hi : kInj 27 ad) {w : Int} (hI : Inv σ) (hR : RD σ τ) (hw : 0 ≤ w ∧ w < σ 0 2) : Met l yX9_draw wsX9_draw rmX9_draw (kPc D (tysG G) 27 ad (RE G ad σ τ) [.ref (ad 0), .int (iI w)]) (kQv D 27 ad (fun E' => E' = RE G ad (drp σ w) τ)) 0 0 (kA 27 ad) := by
  refine k_met (cc := cX9_draw) (maxL := 2) (ret := none) (by decide) (Nat.le_of_ble_eq_true rfl) ?_
  intro P0 e0 s m0 below meth c0 ls hx hb hr hlocks hml hown hts hK hP hS hl
  replace hl : lv_has ls 2 [(0, _), (1, _)] := hl
  replace hown : s.vm.findClass RX9 = some m0.cls := hown
  refine k_abs (fun Wg hWg => ?_)
  have h0 := Inv_0 hI
  obtain ⟨hR2, hR3, hR4⟩ := hR
  have hj := IJ_r hI hw
  have e23 : up (up (up σ 19 w 4) 20 w (-1)) 21 w (-1) 23 w = σ 23 w := by rw [up_t (by decide), up_t (by decide), up_t (by decide)]
  refine lv_aload_n hx hb dX9_draw_0 rfl (lv_at hl 0 rfl) ?_
  refine r_get (C := RX9) (T := TX9) (N := 34) (ci := 9) hx hb hts hi_X9 hown hK hP 22 rfl (by decide) lk_X9_69 (fun _ h9 => h9) dX9_draw_1 (by omega) RE_0 rfl ?_
  refine lv_iload_n hx hb dX9_draw_4 rfl (lv_at hl 1 rfl) ?_
  refine r_const hx hb dX9_draw_5 ?_
  refine r_iast hx hb hi hK hP hS 0 rfl dX9_draw_6 (by omega) rfl (by omega) (by omega) (ru_state (by omega)) (fun H locs hP hS => ?_)
  refine lv_aload_n hx hb dX9_draw_7 rfl (lv_at hl 0 rfl) ?_
  refine r_get (C := RX9) (T := TX9) (N := 34) (ci := 9) hx hb hts hi_X9 hown hK hP 23 rfl (by decide) lk_X9_72 (fun _ h9 => h9) dX9_draw_8 (by omega) RE_0 rfl ?_
  refine lv_iload_n hx hb dX9_draw_11 rfl (lv_at hl 1 rfl) ?_
  refine r_const hx hb dX9_draw_12 ?_
  refine r_iast hx hb hi hK hP hS 0 rfl dX9_draw_13 (by omega) rfl (by omega) (by omega) (ru_begins (by omega) (by omega)) (fun H locs hP hS => ?_)
  refine lv_aload_n hx hb dX9_draw_14 rfl (lv_at hl 0 rfl) ?_
  refine r_get (C := RX9) (T := TX9) (N := 34) (ci := 9) hx hb hts hi_X9 hown hK hP 24 rfl (by decide) lk_X9_75 (fun _ h9 => h9) dX9_draw_15 (by omega) RE_0 rfl ?_
  refine lv_iload_n hx hb dX9_draw_18 rfl (lv_at hl 1 rfl) ?_
  refine r_const hx hb dX9_draw_19 ?_
  refine r_iast hx hb hi hK hP hS 0 rfl dX9_draw_20 (by omega) rfl (by omega) (by omega) (ru_ends (by omega) (by omega)) (fun H locs hP hS => ?_)
  refine lv_aload_n hx hb dX9_draw_21 rfl (lv_at hl 0 rfl) ?_
  refine r_get (C := RX9) (T := TX9) (N := 34) (ci := 9) hx hb hts hi_X9 hown hK hP 26 rfl (by decide) lk_X9_81 (fun _ h9 => h9) dX9_draw_22 (by omega) RE_0 rfl ?_
  refine lv_iload_n hx hb dX9_draw_25 rfl (lv_at hl 1 rfl) ?_
  refine r_iald hx hb hK hP 0 rfl dX9_draw_26 (by omega) rfl (by omega) (by omega) (tD_at (by omega) (by omega)) ?_
  rw [e23]
  refine r_if_lt (tgt := 49) hx hb (by omega) dX9_draw_27 (by decide) (fun c27 => ?_) (fun c27 => ?_)
  · have e : σ 23 w = -1 := by omega
    have e2 : drp σ w = up (up (up σ 19 w 4) 20 w (-1)) 21 w (-1) := by
      rw [drp_r hI hw, cif_f (by omega)]
      exact up_same (by rw [e23, e])
    exact k_vret hx hb hr hlocks hP hS dX9_draw_49 (by rw [e2])
  · have e2 : drp σ w = up (up (up (up (up σ 19 w 4) 20 w (-1)) 21 w (-1)) 23 (σ 23 w) (-1)) 23 w (-1) := by rw [drp_r hI hw, cif_t (by omega)]
    refine lv_aload_n hx hb dX9_draw_30 rfl (lv_at hl 0 rfl) ?_
    refine r_get (C := RX9) (T := TX9) (N := 34) (ci := 9) hx hb hts hi_X9 hown hK hP 26 rfl (by decide) lk_X9_81 (fun _ h9 => h9) dX9_draw_31 (by omega) RE_0 rfl ?_
    refine lv_aload_n hx hb dX9_draw_34 rfl (lv_at hl 0 rfl) ?_
    refine r_get (C := RX9) (T := TX9) (N := 34) (ci := 9) hx hb hts hi_X9 hown hK hP 26 rfl (by decide) lk_X9_81 (fun _ h9 => h9) dX9_draw_35 (by omega) RE_0 rfl ?_
    refine lv_iload_n hx hb dX9_draw_38 rfl (lv_at hl 1 rfl) ?_
    refine r_iald hx hb hK hP 0 rfl dX9_draw_39 (by omega) rfl (by omega) (by omega) (tD_at (by omega) (by omega)) ?_
    rw [e23]
    refine r_const hx hb dX9_draw_40 ?_
    refine r_iast hx hb hi hK hP hS 0 rfl dX9_draw_41 (by omega) rfl (by omega) (by omega) (ru_joined (by omega) (by omega)) (fun H locs hP hS => ?_)
    refine lv_aload_n hx hb dX9_draw_42 rfl (lv_at hl 0 rfl) ?_
    refine r_get (C := RX9) (T := TX9) (N := 34) (ci := 9) hx hb hts hi_X9 hown hK hP 26 rfl (by decide) lk_X9_81 (fun _ h9 => h9) dX9_draw_43 (by omega) RE_0 rfl ?_
    refine lv_iload_n hx hb dX9_draw_46 rfl (lv_at hl 1 rfl) ?_
    refine r_const hx hb dX9_draw_47 ?_
    refine r_iast hx hb hi hK hP hS 0 rfl dX9_draw_48 (by omega) rfl (by omega) (by omega) (ru_joined (by omega) (by omega)) (fun H locs hP hS => ?_)
    exact k_vret hx hb hr hlocks hP hS dX9_draw_49 (by rw [e2])

