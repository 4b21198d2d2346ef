abbrev rmX9_moveAll : Room := { frames := 7, cells := 0, slots := 0, locals := 179 }
set_option maxRecDepth 100000 in
set_option maxHeartbeats 4000000 in
theorem c_X9_moveAll {l : Launch} {D : va_G} {G : Nat → ClassId} {ad : Nat → Nat} {σ τ : Tb} (hi : kInj 27 ad) (hI : InvS σ) (hT : RT σ τ) : Met l yX9_moveAll wsX9_moveAll rmX9_moveAll (kPc D (tysG G) 27 ad (RE G ad σ τ) [.ref (ad 0)]) (kQi D 27 ad (fun z E' => z = mvC σ (σ 0 2).toNat ∧ ∃ τ', E' = RE G ad (mvN σ (σ 0 2).toNat) τ' ∧ RT (mvN σ (σ 0 2).toNat) τ')) 0 0 (kA 27 ad) := by
  refine k_met (cc := cX9_moveAll) (maxL := 4) (ret := (some .int)) (by decide) (Nat.le_of_ble_eq_true rfl) ?_
  intro P0 e0 s m0 below meth c0 ls hx hb hr hlocks hml hown hts hK hP hS hl
  replace hl : lv_has ls 4 [(0, _)] := hl
  replace hown : s.vm.findClass RX9 = some m0.cls := hown
  refine k_abs (fun Wg hWg => ?_)
  have h0 := Inv_0 hI.1
  refine r_const hx hb dX9_moveAll_0 ?_
  refine lv_istore_n hx hb dX9_moveAll_1 rfl hl (by decide) rfl (fun ls hl => ?_)
  replace hl : lv_has ls 4 [(0, _), (1, _)] := lv_sub hl [1, 0] rfl
  refine r_const hx hb dX9_moveAll_2 ?_
  refine lv_istore_n hx hb dX9_moveAll_3 rfl hl (by decide) rfl (fun ls hl => ?_)
  replace hl : lv_has ls 4 [(0, _), (1, _), (2, _)] := lv_sub hl [1, 2, 0] rfl
  have loop4 : ∀ (nn : Nat) (i : Int) (τ1 : Tb) (H : Heap) (locs : List Loc) (ls : Array Slot), va_P D vwCl (kw 27 ad (RE G ad (mvN σ i.toNat) τ1)) H → va_S (kA 27 ad) s.heap H locs → lv_has ls 4 [(0, .ref (ad 0)), (1, .int (iI (mvC σ i.toNat))), (2, .int (iI i))] → ((0 ≤ i ∧ i ≤ σ 0 2) ∧ RT (mvN σ i.toNat) τ1) → (σ 0 2 - i).toNat < nn → Wg H locs (F0 m0 4 ls []) := by
    intro nn
    induction nn with
    | zero => intro i τ1 H locs ls _ _ _ _ hn; omega
    | succ nn ih4 =>
      intro i τ1 H locs ls hP hS hl hv4 hn4
      rw [hWg]
      obtain ⟨hv, hT1⟩ := hv4
      have e02 : (mvN σ i.toNat) 0 2 = σ 0 2 := mvN_02 _
      have hI2 := InvS_mvN hI i.toNat (by omega)
      obtain ⟨es1, es2⟩ := mvN_s (σ := σ) hv.1
      obtain ⟨hR2, hR3, hR4⟩ := hT1.1
      refine lv_iload_n hx hb dX9_moveAll_4 rfl (lv_at hl 2 rfl) ?_
      refine lv_aload_n hx hb dX9_moveAll_5 rfl (lv_at hl 0 rfl) ?_
      refine r_get (C := RX9) (T := TX9) (N := 34) (ci := 9) hx hb hts hi_X9 hown hK hP 28 rfl (by decide) lk_X9_107 (fun _ h9 => h9) dX9_moveAll_6 (by omega) RE_0 rfl ?_
      rw [e02]
      refine r_icmp_ge (tgt := 111) hx hb (by omega) (by omega) dX9_moveAll_9 (by decide) (fun c9 => ?_) (fun c9 => ?_)
      · obtain rfl : i = σ 0 2 := by omega
        refine lv_iload_n hx hb dX9_moveAll_111 rfl (lv_at hl 1 rfl) ?_
        exact k_iret hx hb hr hlocks hP hS dX9_moveAll_112 ⟨rfl, τ1, rfl, hT1⟩
      · have hwi : 0 ≤ i ∧ i < (mvN σ i.toNat) 0 2 := by rw [e02]; omega
        obtain ⟨hN, _, _⟩ := Inv_w hI2.1 hwi
        have hs := IN_s hI2.1 hwi
        have h02 := Inv_0 hI2.1
        unfold IN at hN
        have hskip : ¬ mvB (mvN σ i.toNat) i → mvN σ (i + 1).toNat = (mvN σ i.toNat) ∧ mvC σ (i + 1).toNat = mvC σ i.toNat := fun q => ⟨by rw [es1, cif_f q], by rw [es2, bI_f q]; omega⟩
        have join105 : ∀ (τ2 : Tb) (H : Heap) (locs : List Loc) (ls : Array Slot), va_P D vwCl (kw 27 ad (RE G ad (mvN σ (i + 1).toNat) τ2)) H → va_S (kA 27 ad) s.heap H locs → lv_has ls 4 [(0, .ref (ad 0)), (1, .int (iI (mvC σ (i + 1).toNat))), (2, .int (iI i))] → (RT (mvN σ (i + 1).toNat) τ2) → Wg H locs (F0 m0 105 ls []) := by
          intro τ2 H locs ls hP hS hl hv105
          rw [hWg]
          refine r_iinc hx hb dX9_moveAll_105 hl (k := 2) rfl (by decide) (fun ls hl => ?_)
          replace hl : lv_has ls 4 [(0, _), (1, _), (2, _)] := lv_sub hl [1, 2, 0] rfl
          refine lv_goto (tgt := 4) hx hb dX9_moveAll_108 (by decide) ?_
          rw [← hWg]
          exact ih4 (i + 1) _ _ _ _ hP hS hl ⟨by omega, hv105⟩ (by omega)
        refine lv_aload_n hx hb dX9_moveAll_12 rfl (lv_at hl 0 rfl) ?_
        refine r_get (C := RX9) (T := TX9) (N := 34) (ci := 9) hx hb hts hi_X9 hown hK hP 22 rfl (by decide) lk_X9_69 (fun _ h9 => h9) dX9_moveAll_13 (by omega) RE_0 rfl ?_
        refine lv_iload_n hx hb dX9_moveAll_16 rfl (lv_at hl 2 rfl) ?_
        refine r_iald hx hb hK hP 0 rfl dX9_moveAll_17 (by omega) rfl (by omega) (by omega) (tI_at (by omega)) ?_
        refine r_const hx hb dX9_moveAll_18 ?_
        refine r_icmp_ne (tgt := 105) hx hb (by omega) (by omega) dX9_moveAll_19 (by decide) (fun c19 => ?_) (fun c19 => ?_)
        · obtain ⟨k1, k2⟩ := hskip (fun q => c19 q.1)
          rw [← k1] at hP hT1
          rw [← k2] at hl
          rw [← hWg]
          exact join105 _ _ _ _ hP hS hl hT1
        · have hsx := hs.2.2.2.1 c19
          refine lv_aload_n hx hb dX9_moveAll_22 rfl (lv_at hl 0 rfl) ?_
          refine lv_iload_n hx hb dX9_moveAll_23 rfl (lv_at hl 2 rfl) ?_
          refine lv_aload_n hx hb dX9_moveAll_24 rfl (lv_at hl 0 rfl) ?_
          refine r_get (C := RX9) (T := TX9) (N := 34) (ci := 9) hx hb hts hi_X9 hown hK hP 23 rfl (by decide) lk_X9_72 (fun _ h9 => h9) dX9_moveAll_25 (by omega) RE_0 rfl ?_
          refine lv_iload_n hx hb dX9_moveAll_28 rfl (lv_at hl 2 rfl) ?_
          refine r_iald hx hb hK hP 0 rfl dX9_moveAll_29 (by omega) rfl (by omega) (by omega) (tD_at (by omega) (by omega)) ?_
          refine r_const hx hb dX9_moveAll_30 ?_
          refine r_const hx hb dX9_moveAll_31 ?_
          refine k_calliV (nL := 4) (C := RX9) (T := TX9) (N := 34) (ci := 9) hx hb hml hown hts hK hP hS hl.1 (by have q := c_X9_rule (l := l) (D := D) (G := G) (d := (mvN σ i.toNat) 20 i) (f := 3) (les := True) hi hI2.1 hT1.1 hwi (by omega) (by omega); rw [bI_T] at q; exact q) rfl (Nat.le_of_ble_eq_true rfl) rfl (cwV 4 hts (gV lm_X9_179 ti_X9_rule tl_X9_rule tn_X9 tc_X9_rule) rfl rfl rfl (by decide +kernel) ⟨Nat.le_of_ble_eq_true rfl, Nat.le_of_ble_eq_true rfl⟩) rfl dX9_moveAll_32 ⟨Nat.zero_le _, Nat.zero_le _⟩ (by omega) RE_0 (fun r32 E1 H locs hq hP hS => ?_)
          obtain ⟨hz, τ3, rfl, _, hF3⟩ := hq
          have hz2 : r32 = rul3 (mvN σ i.toNat) i ((mvN σ i.toNat) 20 i) True := by rw [hz, ruF, cif_f (by omega), rul2, cif_f (by omega)]
          have hrr := rul3_r (σ := (mvN σ i.toNat)) (w := i) (d := (mvN σ i.toNat) 20 i) (les := True)
          have hT3 := RT_F hF3 hT1
          refine r_if_le (tgt := 105) hx hb (by omega) dX9_moveAll_35 (by decide) (fun c35 => ?_) (fun c35 => ?_)
          · obtain ⟨k1, k2⟩ := hskip (fun q => q.2 (by omega))
            rw [← k1] at hP hT3
            rw [← k2] at hl
            rw [← hWg]
            exact join105 _ _ _ _ hP hS hl hT3
          · have hyes : mvB (mvN σ i.toNat) i := ⟨c19, by omega⟩
            have e1 : mvN σ (i + 1).toNat = mvW (mvN σ i.toNat) i := by rw [es1, cif_t hyes]
            have e2 : mvC σ (i + 1).toNat = mvC σ i.toNat + 1 := by rw [es2, bI_t hyes]
            obtain ⟨hS2, hS3, hS4⟩ := hT3.1
            have join71 : ∀ (d : Int) (τ4 : Tb) (H : Heap) (locs : List Loc) (ls : Array Slot), va_P D vwCl (kw 27 ad (RE G ad (mvN σ i.toNat) τ4)) H → va_S (kA 27 ad) s.heap H locs → lv_has ls 4 [(0, .ref (ad 0)), (1, .int (iI (mvC σ i.toNat))), (2, .int (iI i)), (3, .int (iI d))] → (((mvN σ i.toNat) 20 i < d ∧ d ≤ 400) ∧ (∀ x, (mvN σ i.toNat) 20 i ≤ x → x < d → rul2 (mvN σ i.toNat) i x True ≠ 0) ∧ RT (mvN σ i.toNat) τ4 ∧ (d ≤ 399 → rul2 (mvN σ i.toNat) i d True = 0)) → Wg H locs (F0 m0 71 ls []) := by
              intro d τ4 H locs ls hP hS hl hv71
              rw [hWg]
              obtain ⟨hv7, hno, hT4, hok⟩ := hv71
              obtain ⟨hU2, hU3, hU4⟩ := hT4.1
              refine r_iinc hx hb dX9_moveAll_71 hl (k := 1) rfl (by decide) (fun ls hl => ?_)
              replace hl : lv_has ls 4 [(0, _), (1, _), (2, _), (3, _)] := lv_sub hl [1, 0, 2, 3] rfl
              refine lv_iload_n hx hb dX9_moveAll_74 rfl (lv_at hl 3 rfl) ?_
              refine r_sipush hx hb dX9_moveAll_75 (by decide +kernel) ?_
              refine r_icmp_le (tgt := 89) hx hb (by omega) (by omega) dX9_moveAll_78 (by decide) (fun c78 => ?_) (fun c78 => ?_)
              · have hok2 : fdOk (mvN σ i.toNat) i ((mvN σ i.toNat) 20 i) d := ⟨by omega, hok c78, hno⟩
                have hle := (rul2_le (hok c78)).1
                have e3 : pmt (mvN σ i.toNat) i d = plB (mvN σ i.toNat) i d := by
                  rw [pmt_e, cif_f (by omega)]
                  exact up_same (by rw [plB_t (by decide) (by decide)]; exact c19)
                have e24 : plB (mvN σ i.toNat) i d 24 i = (mvN σ i.toNat) 24 i := plB_t (by decide) (by decide)
                refine lv_aload_n hx hb dX9_moveAll_89 rfl (lv_at hl 0 rfl) ?_
                refine lv_iload_n hx hb dX9_moveAll_90 rfl (lv_at hl 2 rfl) ?_
                refine lv_iload_n hx hb dX9_moveAll_91 rfl (lv_at hl 3 rfl) ?_
                refine k_callvV (nL := 4) (C := RX9) (T := TX9) (N := 34) (ci := 9) hx hb hml hown hts hK hP hS hl.1 (c_X9_put hi hT4.1 (by omega) hwi (by omega) (by omega) (by omega)) rfl (Nat.le_of_ble_eq_true rfl) rfl (cwV 2 hts (gV lm_X9_190 ti_X9_put tl_X9_put tn_X9 tc_X9_put) rfl rfl rfl (by decide +kernel) ⟨Nat.le_of_ble_eq_true rfl, Nat.le_of_ble_eq_true rfl⟩) rfl dX9_moveAll_92 ⟨Nat.zero_le _, Nat.zero_le _⟩ (by omega) RE_0 (fun E1 H locs hq hP hS => ?_)
                subst hq
                rw [e3] at hP
                refine lv_aload_n hx hb dX9_moveAll_95 rfl (lv_at hl 0 rfl) ?_
                refine r_get (C := RX9) (T := TX9) (N := 34) (ci := 9) hx hb hts hi_X9 hown hK hP 27 rfl (by decide) lk_X9_84 (fun _ h9 => h9) dX9_moveAll_96 (by omega) RE_0 rfl ?_
                refine lv_iload_n hx hb dX9_moveAll_99 rfl (lv_at hl 2 rfl) ?_
                refine lv_dup2_11 hx hb dX9_moveAll_100 rfl rfl ?_
                refine r_iald hx hb hK hP 0 rfl dX9_moveAll_101 (by omega) rfl (by omega) (by omega) (tI_at (by omega)) ?_
                rw [e24]
                refine r_const hx hb dX9_moveAll_102 ?_
                refine r_add hx hb dX9_moveAll_103 ?_
                refine r_iast hx hb hi hK hP hS 0 rfl dX9_moveAll_104 (by omega) rfl (by omega) (by omega) (ru_moved (by omega)) (fun H locs hP hS => ?_)
                have e4 : up (plB (mvN σ i.toNat) i d) 24 i ((mvN σ i.toNat) 24 i + 1) = mvN σ (i + 1).toNat := by rw [e1, mvW_t hok2]; rfl
                have hT5 : RT (mvN σ (i + 1).toNat) τ4 := by
                  rw [e1]; exact RT_c0 (fun _ => mvW_02) hT4
                rw [e4] at hP
                rw [← e2] at hl
                rw [← hWg]
                exact join105 _ _ _ _ hP hS (lv_sub hl [0, 1, 2] rfl) hT5
              · refine lv_aload_n hx hb dX9_moveAll_81 rfl (lv_at hl 0 rfl) ?_
                refine lv_iload_n hx hb dX9_moveAll_82 rfl (lv_at hl 2 rfl) ?_
                refine k_callvV (nL := 4) (C := RX9) (T := TX9) (N := 34) (ci := 9) hx hb hml hown hts hK hP hS hl.1 (c_X9_draw hi hI2.1 hT4.1 hwi) rfl (Nat.le_of_ble_eq_true rfl) rfl (cwV 1 hts (gV lm_X9_194 ti_X9_draw tl_X9_draw tn_X9 tc_X9_draw) rfl rfl rfl (by decide +kernel) ⟨Nat.le_of_ble_eq_true rfl, Nat.le_of_ble_eq_true rfl⟩) rfl dX9_moveAll_83 ⟨Nat.zero_le _, Nat.zero_le _⟩ (by omega) RE_0 (fun E1 H locs hq hP hS => ?_)
                subst hq
                have e4 : drp (mvN σ i.toNat) i = mvN σ (i + 1).toNat := by rw [e1, mvW_f (fun x x1 x2 => hno x x1 (by omega))]
                have hT5 : RT (mvN σ (i + 1).toNat) τ4 := by
                  rw [e1]; exact RT_c0 (fun _ => mvW_02) hT4
                rw [e4] at hP
                rw [← e2] at hl
                refine lv_goto (tgt := 105) hx hb dX9_moveAll_86 (by decide) ?_
                rw [← hWg]
                exact join105 _ _ _ _ hP hS (lv_sub hl [0, 1, 2] rfl) hT5
            refine lv_aload_n hx hb dX9_moveAll_38 rfl (lv_at hl 0 rfl) ?_
            refine r_get (C := RX9) (T := TX9) (N := 34) (ci := 9) hx hb hts hi_X9 hown hK hP 23 rfl (by decide) lk_X9_72 (fun _ h9 => h9) dX9_moveAll_39 (by omega) RE_0 rfl ?_
            refine lv_iload_n hx hb dX9_moveAll_42 rfl (lv_at hl 2 rfl) ?_
            refine r_iald hx hb hK hP 0 rfl dX9_moveAll_43 (by omega) rfl (by omega) (by omega) (tD_at (by omega) (by omega)) ?_
            refine r_const hx hb dX9_moveAll_44 ?_
            refine r_add hx hb dX9_moveAll_45 ?_
            refine lv_istore_n hx hb dX9_moveAll_46 rfl hl (by decide) rfl (fun ls hl => ?_)
            replace hl : lv_has ls 4 [(0, _), (1, _), (2, _), (3, _)] := lv_sub hl [1, 2, 3, 0] rfl
            have loop47 : ∀ (nn : Nat) (d : Int) (τ4 : Tb) (H : Heap) (locs : List Loc) (ls : Array Slot), va_P D vwCl (kw 27 ad (RE G ad (mvN σ i.toNat) τ4)) H → va_S (kA 27 ad) s.heap H locs → lv_has ls 4 [(0, .ref (ad 0)), (1, .int (iI (mvC σ i.toNat))), (2, .int (iI i)), (3, .int (iI d))] → (((mvN σ i.toNat) 20 i < d ∧ d ≤ 400) ∧ (∀ x, (mvN σ i.toNat) 20 i ≤ x → x < d → rul2 (mvN σ i.toNat) i x True ≠ 0) ∧ RT (mvN σ i.toNat) τ4) → (400 - d).toNat < nn → Wg H locs (F0 m0 47 ls []) := by
              intro nn
              induction nn with
              | zero => intro d τ4 H locs ls _ _ _ _ hn; omega
              | succ nn ih47 =>
                intro d τ4 H locs ls hP hS hl hv47 hn47
                rw [hWg]
                obtain ⟨hv7, hno, hT4⟩ := hv47
                refine lv_iload_n hx hb dX9_moveAll_47 rfl (lv_at hl 3 rfl) ?_
                refine r_sipush hx hb dX9_moveAll_48 (by decide +kernel) ?_
                refine r_icmp_gt (tgt := 71) hx hb (by omega) (by omega) dX9_moveAll_51 (by decide) (fun c51 => ?_) (fun c51 => ?_)
                · rw [← hWg]
                  exact join71 _ _ _ _ _ hP hS hl ⟨hv7, hno, hT4, fun q => by omega⟩
                · have hr3 := rul3_r (σ := (mvN σ i.toNat)) (w := i) (d := d) (les := True)
                  have hr2 : 0 ≤ rul2 (mvN σ i.toNat) i d True ∧ rul2 (mvN σ i.toNat) i d True ≤ 7 := by
                    rw [rul2]
                    by_cases q : 399 < d + (mvN σ i.toNat) 14 i - 1
                    · rw [cif_t q]; omega
                    · rw [cif_f q]; omega
                  refine lv_aload_n hx hb dX9_moveAll_54 rfl (lv_at hl 0 rfl) ?_
                  refine lv_iload_n hx hb dX9_moveAll_55 rfl (lv_at hl 2 rfl) ?_
                  refine lv_iload_n hx hb dX9_moveAll_56 rfl (lv_at hl 3 rfl) ?_
                  refine r_const hx hb dX9_moveAll_57 ?_
                  refine r_const hx hb dX9_moveAll_58 ?_
                  refine k_calliV (nL := 4) (C := RX9) (T := TX9) (N := 34) (ci := 9) hx hb hml hown hts hK hP hS hl.1 (by have q := c_X9_rule (l := l) (D := D) (G := G) (d := d) (f := 2) (les := True) hi hI2.1 hT4.1 hwi (by omega) (by omega); rw [bI_T] at q; exact q) rfl (Nat.le_of_ble_eq_true rfl) rfl (cwV 4 hts (gV lm_X9_179 ti_X9_rule tl_X9_rule tn_X9 tc_X9_rule) rfl rfl rfl (by decide +kernel) ⟨Nat.le_of_ble_eq_true rfl, Nat.le_of_ble_eq_true rfl⟩) rfl dX9_moveAll_59 ⟨Nat.zero_le _, Nat.zero_le _⟩ (by omega) RE_0 (fun r59 E1 H locs hq hP hS => ?_)
                  obtain ⟨hy, τ5, rfl, _, hF5⟩ := hq
                  have hy2 : r59 = rul2 (mvN σ i.toNat) i d True := by rw [hy, ruF, cif_f (by omega)]
                  refine r_if_le (tgt := 71) hx hb (by omega) dX9_moveAll_62 (by decide) (fun c62 => ?_) (fun c62 => ?_)
                  · rw [← hWg]
                    exact join71 _ _ _ _ _ hP hS hl ⟨hv7, hno, RT_F hF5 hT4, fun q => by omega⟩
                  · have hno2 : ∀ x, (mvN σ i.toNat) 20 i ≤ x → x < d + 1 → rul2 (mvN σ i.toNat) i x True ≠ 0 := by
                      intro x x1 x2
                      rcases (show x < d ∨ x = d by omega) with y | y
                      · exact hno x x1 y
                      · rw [y]; omega
                    refine r_iinc hx hb dX9_moveAll_65 hl (k := 3) rfl (by decide) (fun ls hl => ?_)
                    replace hl : lv_has ls 4 [(0, _), (1, _), (2, _), (3, _)] := lv_sub hl [1, 2, 3, 0] rfl
                    refine lv_goto (tgt := 47) hx hb dX9_moveAll_68 (by decide) ?_
                    rw [← hWg]
                    exact ih47 (d + 1) _ _ _ _ hP hS hl ⟨by omega, hno2, RT_F hF5 hT4⟩ (by omega)
            have hfst : ∀ x, (mvN σ i.toNat) 20 i ≤ x → x < (mvN σ i.toNat) 20 i + 1 → rul2 (mvN σ i.toNat) i x True ≠ 0 := by
              intro x x1 x2
              obtain rfl : x = (mvN σ i.toNat) 20 i := by omega
              rw [rul2, cif_f (by omega)]
              exact hyes.2
            rw [← hWg]
            exact loop47 _ _ _ _ _ _ hP hS hl ⟨by omega, hfst, hT3⟩ (Nat.lt_succ_self _)
  rw [← hWg]
  exact loop4 _ 0 _ _ _ _ hP hS hl ⟨by omega, hT⟩ (Nat.lt_succ_self _)
abbrev rmX9_over : Room := { frames := 8, cells := 0, slots := 0, locals := 202 }
set_option maxRecDepth 100000 in
set_option maxHeartbeats 4000000 in
theorem c_X9_over {l : Launch} {D : va_G} {G : Nat → ClassId} {ad : Nat → Nat} {σ τ : Tb} (hi : kInj 27 ad) {w n : Int} (hI : InvS σ) (hT : RT σ τ) (hw : (-2147483648 ≤ w ∧ w < 2147483648)) (hn : (-2147483648 ≤ n ∧ n < 2147483648)) : Met l yX9_over wsX9_over rmX9_over (kPc D (tysG G) 27 ad (RE G ad σ τ) [.ref (ad 0), .int (iI w), .int (iI n)]) (kQi D 27 ad (fun z E' => z = aOver σ w n ∧ ∃ τ', E' = RE G ad (sOver σ w n) τ' ∧ RT (sOver σ w n) τ')) 0 0 (kA 27 ad) := by
  refine k_met (cc := cX9_over) (maxL := 4) (ret := (some .int)) (by decide) (Nat.le_of_ble_eq_true rfl) ?_
  intro P0 e0 s m0 below meth c0 ls hx hb hr hlocks hml hown hts hK hP hS hl
  replace hl : lv_has ls 4 [(0, _), (1, _), (2, _)] := hl
  replace hown : s.vm.findClass RX9 = some m0.cls := hown
  refine k_abs (fun Wg hWg => ?_)
  have h0 := Inv_0 hI.1
  obtain ⟨hR2, hR3, hR4⟩ := hT.1
  have join18 : ∀  (H : Heap) (locs : List Loc) (ls : Array Slot), va_P D vwCl (kw 27 ad (RE G ad σ τ)) H → va_S (kA 27 ad) s.heap H locs → lv_has ls 4 [(0, .ref (ad 0))] → (¬ (lvW σ w ∧ (1 ≤ n ∧ n ≤ 30))) → Wg H locs (F0 m0 18 ls []) := by
    intro  H locs ls hP hS hl hv18
    rw [hWg]
    have e2 : sOver σ w n = σ := by rw [sOver, cif_f (fun q => hv18 q.1)]
    refine r_const hx hb dX9_over_18 ?_
    exact k_iret hx hb hr hlocks hP hS dX9_over_19 ⟨by rw [aOver, cif_f hv18], τ, by rw [e2], by rw [e2]; exact hT⟩
  refine lv_aload_n hx hb dX9_over_0 rfl (lv_at hl 0 rfl) ?_
  refine lv_iload_n hx hb dX9_over_1 rfl (lv_at hl 1 rfl) ?_
  refine k_calliV (nL := 4) (C := RX9) (T := TX9) (N := 34) (ci := 9) hx hb hml hown hts hK hP hS hl.1 (c_X9_isWork hi hI.1 hw) rfl (Nat.le_of_ble_eq_true rfl) rfl (cwV 1 hts (gV lm_X9_114 ti_X9_isWork tl_X9_isWork tn_X9 tc_X9_isWork) rfl rfl rfl (by decide +kernel) ⟨Nat.le_of_ble_eq_true rfl, Nat.le_of_ble_eq_true rfl⟩) rfl dX9_over_2 ⟨Nat.zero_le _, Nat.zero_le _⟩ (by omega) RE_0 (fun r2 E1 H locs hq hP hS => ?_)
  obtain ⟨rfl, rfl⟩ := hq
  refine r_ifB_eq (tgt := 18) hx hb dX9_over_5 (by decide) (fun c5 => ?_) (fun c5 => ?_)
  · rw [← hWg]
    exact join18  _ _ _ hP hS (lv_sub hl [0] rfl) (fun q => c5 q.1)
  · have c5' : 0 ≤ w ∧ w < σ 0 2 := c5
    obtain ⟨hN, _, _⟩ := Inv_w hI.1 c5
    unfold IN at hN
    have hB := IN_b hI.1 c5
    refine lv_iload_n hx hb dX9_over_8 rfl (lv_at hl 2 rfl) ?_
    refine r_const hx hb dX9_over_9 ?_
    refine r_bipush hx hb dX9_over_10 (by decide +kernel) ?_
    refine k_calliS (nL := 4) hx hb hml hown hts hK hP hS hl.1 (c_X9_within hi hn (by omega) (by omega)) rfl (Nat.le_of_ble_eq_true rfl) (va_cwS 3 hts (gS lm_X9_97 ts_X9_within tn_X9 tc_X9_within) rfl rfl rfl (by decide +kernel) ⟨Nat.le_of_ble_eq_true rfl, Nat.le_of_ble_eq_true rfl⟩) rfl dX9_over_12 ⟨Nat.zero_le _, Nat.zero_le _⟩ (fun r12 E1 H locs hq hP hS => ?_)
    obtain ⟨rfl, rfl⟩ := hq
    refine r_ifB_ne (tgt := 20) hx hb dX9_over_15 (by decide) (fun c15 => ?_) (fun c15 => ?_)
    · refine lv_aload_n hx hb dX9_over_20 rfl (lv_at hl 0 rfl) ?_
      refine r_get (C := RX9) (T := TX9) (N := 34) (ci := 9) hx hb hts hi_X9 hown hK hP 22 rfl (by decide) lk_X9_69 (fun _ h9 => h9) dX9_over_21 (by omega) RE_0 rfl ?_
      refine lv_iload_n hx hb dX9_over_24 rfl (lv_at hl 1 rfl) ?_
      refine r_iald hx hb hK hP 0 rfl dX9_over_25 (by omega) rfl (by omega) (by omega) (tI_at (by omega)) ?_
      refine r_const hx hb dX9_over_26 ?_
      refine r_icmp_eq (tgt := 33) hx hb (by omega) (by omega) dX9_over_27 (by decide) (fun c27 => ?_) (fun c27 => ?_)
      · have hI2 := InvS_ovr hI c5 c27 c15
        have hT2 : RT (ovr σ w n) τ := RT_c0 (fun _ => ovr_02) hT
        have e2 : sOver σ w n = mvN (ovr σ w n) (σ 0 2).toNat := by rw [sOver, cif_t ⟨⟨c5, c15⟩, c27⟩]
        have join61 : ∀ (L : Int) (H : Heap) (locs : List Loc) (ls : Array Slot), va_P D vwCl (kw 27 ad (RE G ad σ τ)) H → va_S (kA 27 ad) s.heap H locs → lv_has ls 4 [(0, .ref (ad 0)), (1, .int (iI w)), (2, .int (iI n))] → (L = (if σ 21 w + n < 399 then σ 21 w + n else 399)) → Wg H locs (F0 m0 61 ls [.int (iI L)]) := by
          intro L H locs ls hP hS hl hv61
          rw [hWg]
          have e3 : up (up σ 22 w (σ 22 w + (L - σ 21 w))) 21 w L = ovr σ w n := by rw [hv61]; rfl
          refine lv_istore_n hx hb dX9_over_61 rfl hl (by decide) rfl (fun ls hl => ?_)
          replace hl : lv_has ls 4 [(0, _), (1, _), (2, _), (3, _)] := lv_sub hl [1, 2, 3, 0] rfl
          refine lv_aload_n hx hb dX9_over_62 rfl (lv_at hl 0 rfl) ?_
          refine r_get (C := RX9) (T := TX9) (N := 34) (ci := 9) hx hb hts hi_X9 hown hK hP 25 rfl (by decide) lk_X9_78 (fun _ h9 => h9) dX9_over_63 (by omega) RE_0 rfl ?_
          refine lv_iload_n hx hb dX9_over_66 rfl (lv_at hl 1 rfl) ?_
          refine lv_dup2_11 hx hb dX9_over_67 rfl rfl ?_
          refine r_iald hx hb hK hP 0 rfl dX9_over_68 (by omega) rfl (by omega) (by omega) (tI_at (by omega)) ?_
          refine lv_iload_n hx hb dX9_over_69 rfl (lv_at hl 3 rfl) ?_
          refine lv_aload_n hx hb dX9_over_70 rfl (lv_at hl 0 rfl) ?_
          refine r_get (C := RX9) (T := TX9) (N := 34) (ci := 9) hx hb hts hi_X9 hown hK hP 24 rfl (by decide) lk_X9_75 (fun _ h9 => h9) dX9_over_71 (by omega) RE_0 rfl ?_
          refine lv_iload_n hx hb dX9_over_74 rfl (lv_at hl 1 rfl) ?_
          refine r_iald hx hb hK hP 0 rfl dX9_over_75 (by omega) rfl (by omega) (by omega) (tD_at (by omega) (by omega)) ?_
          refine r_sub hx hb dX9_over_76 ?_
          refine r_add hx hb dX9_over_77 ?_
          refine r_iast hx hb hi hK hP hS 0 rfl dX9_over_78 (by omega) rfl (by omega) (by omega) (ru_overs (by omega)) (fun H locs hP hS => ?_)
          refine lv_aload_n hx hb dX9_over_79 rfl (lv_at hl 0 rfl) ?_
          refine r_get (C := RX9) (T := TX9) (N := 34) (ci := 9) hx hb hts hi_X9 hown hK hP 24 rfl (by decide) lk_X9_75 (fun _ h9 => h9) dX9_over_80 (by omega) RE_0 rfl ?_
          refine lv_iload_n hx hb dX9_over_83 rfl (lv_at hl 1 rfl) ?_
          refine lv_iload_n hx hb dX9_over_84 rfl (lv_at hl 3 rfl) ?_
          refine r_iast hx hb hi hK hP hS 0 rfl dX9_over_85 (by omega) rfl (by omega) (by omega) (ru_ends (by omega) (by omega)) (fun H locs hP hS => ?_)
          rw [e3] at hP
          refine lv_aload_n hx hb dX9_over_86 rfl (lv_at hl 0 rfl) ?_
          refine k_calliV (nL := 4) (C := RX9) (T := TX9) (N := 34) (ci := 9) hx hb hml hown hts hK hP hS hl.1 (c_X9_moveAll hi hI2 hT2) rfl (Nat.le_of_ble_eq_true rfl) rfl (cwV 0 hts (gV lm_X9_198 ti_X9_moveAll tl_X9_moveAll tn_X9 tc_X9_moveAll) rfl rfl rfl (by decide +kernel) ⟨Nat.le_of_ble_eq_true rfl, Nat.le_of_ble_eq_true rfl⟩) rfl dX9_over_87 ⟨Nat.zero_le _, Nat.zero_le _⟩ (by omega) RE_0 (fun r87 E1 H locs hq hP hS => ?_)
          obtain ⟨rfl, τ3, rfl, hT3⟩ := hq
          rw [ovr_02] at hT3 hP
          exact k_iret hx hb hr hlocks hP hS dX9_over_90 ⟨by rw [aOver, cif_t ⟨c5, c15⟩, cif_t c27, ovr_02], τ3, by rw [e2], by rw [e2]; exact hT3⟩
        refine lv_aload_n hx hb dX9_over_33 rfl (lv_at hl 0 rfl) ?_
        refine r_get (C := RX9) (T := TX9) (N := 34) (ci := 9) hx hb hts hi_X9 hown hK hP 24 rfl (by decide) lk_X9_75 (fun _ h9 => h9) dX9_over_34 (by omega) RE_0 rfl ?_
        refine lv_iload_n hx hb dX9_over_37 rfl (lv_at hl 1 rfl) ?_
        refine r_iald hx hb hK hP 0 rfl dX9_over_38 (by omega) rfl (by omega) (by omega) (tD_at (by omega) (by omega)) ?_
        refine lv_iload_n hx hb dX9_over_39 rfl (lv_at hl 2 rfl) ?_
        refine r_add hx hb dX9_over_40 ?_
        refine r_sipush hx hb dX9_over_41 (by decide +kernel) ?_
        refine r_icmp_ge (tgt := 58) hx hb (by omega) (by omega) dX9_over_44 (by decide) (fun c44 => ?_) (fun c44 => ?_)
        · refine r_sipush hx hb dX9_over_58 (by decide +kernel) ?_
          rw [← hWg]
          exact join61 399 _ _ _ hP hS hl (by rw [if_neg (by omega)])
        · refine lv_aload_n hx hb dX9_over_47 rfl (lv_at hl 0 rfl) ?_
          refine r_get (C := RX9) (T := TX9) (N := 34) (ci := 9) hx hb hts hi_X9 hown hK hP 24 rfl (by decide) lk_X9_75 (fun _ h9 => h9) dX9_over_48 (by omega) RE_0 rfl ?_
          refine lv_iload_n hx hb dX9_over_51 rfl (lv_at hl 1 rfl) ?_
          refine r_iald hx hb hK hP 0 rfl dX9_over_52 (by omega) rfl (by omega) (by omega) (tD_at (by omega) (by omega)) ?_
          refine lv_iload_n hx hb dX9_over_53 rfl (lv_at hl 2 rfl) ?_
          refine r_add hx hb dX9_over_54 ?_
          refine lv_goto (tgt := 61) hx hb dX9_over_55 (by decide) ?_
          rw [← hWg]
          exact join61 _ _ _ _ hP hS hl (by rw [if_pos (by omega)])
      · have e2 : sOver σ w n = σ := by rw [sOver, cif_f (fun q => c27 q.2)]
        refine r_bipush hx hb dX9_over_30 (by decide +kernel) ?_
        exact k_iret hx hb hr hlocks hP hS dX9_over_32 ⟨by rw [aOver, cif_t ⟨c5, c15⟩, cif_f c27], τ, by rw [e2], by rw [e2]; exact hT⟩
    · rw [← hWg]
      exact join18  _ _ _ hP hS (lv_sub hl [0] rfl) (fun q => c15 q.2)
abbrev rmX9_crash : Room := { frames := 8, cells := 0, slots := 0, locals := 202 }
set_option maxRecDepth 100000 in
set_option maxHeartbeats 4000000 in
theorem c_X9_crash {l : Launch} {D : va_G} {G : Nat → ClassId} {ad : Nat → Nat} {σ τ : Tb} (hi : kInj 27 ad) {w : Int} (hI : InvS σ) (hT : RT σ τ) (hw : (-2147483648 ≤ w ∧ w < 2147483648)) : Met l yX9_crash wsX9_crash rmX9_crash (kPc D (tysG G) 27 ad (RE G ad σ τ) [.ref (ad 0), .int (iI w)]) (kQi D 27 ad (fun z E' => z = aCrash σ w ∧ ∃ τ', E' = RE G ad (sCrash σ w) τ' ∧ RT (sCrash σ w) τ')) 0 0 (kA 27 ad) := by
  refine k_met (cc := cX9_crash) (maxL := 2) (ret := (some .int)) (by decide) (Nat.le_of_ble_eq_true rfl) ?_
  intro P0 e0 s m0 below meth c0 ls hx hb hr hlocks hml hown hts hK hP hS hl
  replace hl : lv_has ls 2 [(0, _), (1, _)] := hl
  replace hown : s.vm.findClass RX9 = some m0.cls := hown
  refine k_abs (fun Wg hWg => ?_)
  have h0 := Inv_0 hI.1
  obtain ⟨hR2, hR3, hR4⟩ := hT.1
  refine lv_aload_n hx hb dX9_crash_0 rfl (lv_at hl 0 rfl) ?_
  refine lv_iload_n hx hb dX9_crash_1 rfl (lv_at hl 1 rfl) ?_
  refine k_calliV (nL := 2) (C := RX9) (T := TX9) (N := 34) (ci := 9) hx hb hml hown hts hK hP hS hl.1 (c_X9_isWork hi hI.1 hw) rfl (Nat.le_of_ble_eq_true rfl) rfl (cwV 1 hts (gV lm_X9_114 ti_X9_isWork tl_X9_isWork tn_X9 tc_X9_isWork) rfl rfl rfl (by decide +kernel) ⟨Nat.le_of_ble_eq_true rfl, Nat.le_of_ble_eq_true rfl⟩) rfl dX9_crash_2 ⟨Nat.zero_le _, Nat.zero_le _⟩ (by omega) RE_0 (fun r2 E1 H locs hq hP hS => ?_)
  obtain ⟨rfl, rfl⟩ := hq
  refine r_ifB_ne (tgt := 10) hx hb dX9_crash_5 (by decide) (fun c5 => ?_) (fun c5 => ?_)
  · have c5' : 0 ≤ w ∧ w < σ 0 2 := c5
    obtain ⟨hN, _, _⟩ := Inv_w hI.1 c5
    unfold IN at hN
    have join29 : ∀  (H : Heap) (locs : List Loc) (ls : Array Slot), va_P D vwCl (kw 27 ad (RE G ad σ τ)) H → va_S (kA 27 ad) s.heap H locs → lv_has ls 2 [(0, .ref (ad 0))] → (¬ (σ 12 w = 2 ∧ σ 19 w = 0)) → Wg H locs (F0 m0 29 ls []) := by
      intro  H locs ls hP hS hl hv29
      rw [hWg]
      have e2 : sCrash σ w = σ := by rw [sCrash, cif_f (fun q => hv29 q.2)]
      refine r_bipush hx hb dX9_crash_29 (by decide +kernel) ?_
      exact k_iret hx hb hr hlocks hP hS dX9_crash_31 ⟨by rw [aCrash, cif_t c5, cif_f hv29], τ, by rw [e2], by rw [e2]; exact hT⟩
    refine lv_aload_n hx hb dX9_crash_10 rfl (lv_at hl 0 rfl) ?_
    refine r_get (C := RX9) (T := TX9) (N := 34) (ci := 9) hx hb hts hi_X9 hown hK hP 14 rfl (by decide) lk_X9_44 (fun _ h9 => h9) dX9_crash_11 (by omega) RE_0 rfl ?_
    refine lv_iload_n hx hb dX9_crash_14 rfl (lv_at hl 1 rfl) ?_
    refine r_iald hx hb hK hP 0 rfl dX9_crash_15 (by omega) rfl (by omega) (by omega) (tI_at (by omega)) ?_
    refine r_const hx hb dX9_crash_16 ?_
    refine r_icmp_ne (tgt := 29) hx hb (by omega) (by omega) dX9_crash_17 (by decide) (fun c17 => ?_) (fun c17 => ?_)
    · rw [← hWg]
      exact join29  _ _ _ hP hS (lv_sub hl [0] rfl) (fun q => c17 q.1)
    · refine lv_aload_n hx hb dX9_crash_20 rfl (lv_at hl 0 rfl) ?_
      refine r_get (C := RX9) (T := TX9) (N := 34) (ci := 9) hx hb hts hi_X9 hown hK hP 22 rfl (by decide) lk_X9_69 (fun _ h9 => h9) dX9_crash_21 (by omega) RE_0 rfl ?_
      refine lv_iload_n hx hb dX9_crash_24 rfl (lv_at hl 1 rfl) ?_
      refine r_iald hx hb hK hP 0 rfl dX9_crash_25 (by omega) rfl (by omega) (by omega) (tI_at (by omega)) ?_
      refine r_if_eq (tgt := 32) hx hb (by omega) dX9_crash_26 (by decide) (fun c26 => ?_) (fun c26 => ?_)
      · have hI2 := InvS_pmt hI (w := w) (d := σ 0 3) c5 (by omega) (by omega) (by omega) (fun q => absurd rfl q) (fun q => absurd rfl q)
        have hT2 : RT (pmt σ w (σ 0 3)) τ := RT_c0 (fun _ => pmt_0) hT
        have e2 : sCrash σ w = mvN (pmt σ w (σ 0 3)) (σ 0 2).toNat := by rw [sCrash, cif_t ⟨c5, c17, c26⟩]
        have f3 : up σ 20 w (σ 0 3) 0 3 = σ 0 3 := up_t (by decide)
        have f14 : up σ 20 w (σ 0 3) 14 w = σ 14 w := up_t (by decide)
        refine lv_aload_n hx hb dX9_crash_32 rfl (lv_at hl 0 rfl) ?_
        refine r_get (C := RX9) (T := TX9) (N := 34) (ci := 9) hx hb hts hi_X9 hown hK hP 23 rfl (by decide) lk_X9_72 (fun _ h9 => h9) dX9_crash_33 (by omega) RE_0 rfl ?_
        refine lv_iload_n hx hb dX9_crash_36 rfl (lv_at hl 1 rfl) ?_
        refine lv_aload_n hx hb dX9_crash_37 rfl (lv_at hl 0 rfl) ?_
        refine r_get (C := RX9) (T := TX9) (N := 34) (ci := 9) hx hb hts hi_X9 hown hK hP 12 rfl (by decide) lk_X9_154 (fun _ h9 => h9) dX9_crash_38 (by omega) RE_0 rfl ?_
        refine r_iast hx hb hi hK hP hS 0 rfl dX9_crash_41 (by omega) rfl (by omega) (by omega) (ru_begins (by omega) (by omega)) (fun H locs hP hS => ?_)
        have join85 : ∀ (L : Int) (H : Heap) (locs : List Loc) (ls : Array Slot), va_P D vwCl (kw 27 ad (RE G ad (up σ 20 w (σ 0 3)) τ)) H → va_S (kA 27 ad) s.heap H locs → lv_has ls 2 [(0, .ref (ad 0)), (1, .int (iI w))] → (L = lstF σ w (σ 0 3)) → Wg H locs (F0 m0 85 ls [.int (iI L), .int (iI w), .ref (ad 21)]) := by
          intro L H locs ls hP hS hl hv85
          rw [hWg]
          have e3 : up (up (up σ 20 w (σ 0 3)) 21 w L) 19 w 2 = pmt σ w (σ 0 3) := by rw [hv85, pmt, cif_t rfl]
          refine r_iast hx hb hi hK hP hS 0 rfl dX9_crash_85 (by omega) rfl (by omega) (by omega) (ru_ends (by omega) (by omega)) (fun H locs hP hS => ?_)
          refine lv_aload_n hx hb dX9_crash_86 rfl (lv_at hl 0 rfl) ?_
          refine r_get (C := RX9) (T := TX9) (N := 34) (ci := 9) hx hb hts hi_X9 hown hK hP 22 rfl (by decide) lk_X9_69 (fun _ h9 => h9) dX9_crash_87 (by omega) RE_0 rfl ?_
          refine lv_iload_n hx hb dX9_crash_90 rfl (lv_at hl 1 rfl) ?_
          refine r_const hx hb dX9_crash_91 ?_
          refine r_iast hx hb hi hK hP hS 0 rfl dX9_crash_92 (by omega) rfl (by omega) (by omega) (ru_state (by omega)) (fun H locs hP hS => ?_)
          rw [e3] at hP
          refine lv_aload_n hx hb dX9_crash_93 rfl (lv_at hl 0 rfl) ?_
          refine k_calliV (nL := 2) (C := RX9) (T := TX9) (N := 34) (ci := 9) hx hb hml hown hts hK hP hS hl.1 (c_X9_moveAll hi hI2 hT2) rfl (Nat.le_of_ble_eq_true rfl) rfl (cwV 0 hts (gV lm_X9_198 ti_X9_moveAll tl_X9_moveAll tn_X9 tc_X9_moveAll) rfl rfl rfl (by decide +kernel) ⟨Nat.le_of_ble_eq_true rfl, Nat.le_of_ble_eq_true rfl⟩) rfl dX9_crash_94 ⟨Nat.zero_le _, Nat.zero_le _⟩ (by omega) RE_0 (fun r94 E1 H locs hq hP hS => ?_)
          obtain ⟨rfl, τ3, rfl, hT3⟩ := hq
          rw [pmt_0] at hT3 hP
          exact k_iret hx hb hr hlocks hP hS dX9_crash_97 ⟨by rw [aCrash, cif_t c5, cif_t ⟨c17, c26⟩, pmt_0], τ3, by rw [e2], by rw [e2]; exact hT3⟩
        refine lv_aload_n hx hb dX9_crash_42 rfl (lv_at hl 0 rfl) ?_
        refine r_get (C := RX9) (T := TX9) (N := 34) (ci := 9) hx hb hts hi_X9 hown hK hP 24 rfl (by decide) lk_X9_75 (fun _ h9 => h9) dX9_crash_43 (by omega) RE_0 rfl ?_
        refine lv_iload_n hx hb dX9_crash_46 rfl (lv_at hl 1 rfl) ?_
        refine lv_aload_n hx hb dX9_crash_47 rfl (lv_at hl 0 rfl) ?_
        refine r_get (C := RX9) (T := TX9) (N := 34) (ci := 9) hx hb hts hi_X9 hown hK hP 12 rfl (by decide) lk_X9_154 (fun _ h9 => h9) dX9_crash_48 (by omega) RE_0 rfl ?_
        rw [f3]
        refine lv_aload_n hx hb dX9_crash_51 rfl (lv_at hl 0 rfl) ?_
        refine r_get (C := RX9) (T := TX9) (N := 34) (ci := 9) hx hb hts hi_X9 hown hK hP 16 rfl (by decide) lk_X9_50 (fun _ h9 => h9) dX9_crash_52 (by omega) RE_0 rfl ?_
        refine lv_iload_n hx hb dX9_crash_55 rfl (lv_at hl 1 rfl) ?_
        refine r_iald hx hb hK hP 0 rfl dX9_crash_56 (by omega) rfl (by omega) (by omega) (tI_at (by omega)) ?_
        rw [f14]
        refine r_add hx hb dX9_crash_57 ?_
        refine r_const hx hb dX9_crash_58 ?_
        refine r_sub hx hb dX9_crash_59 ?_
        refine r_sipush hx hb dX9_crash_60 (by decide +kernel) ?_
        refine r_icmp_ge (tgt := 82) hx hb (by omega) (by omega) dX9_crash_63 (by decide) (fun c63 => ?_) (fun c63 => ?_)
        · refine r_sipush hx hb dX9_crash_82 (by decide +kernel) ?_
          rw [← hWg]
          exact join85 399 _ _ _ hP hS hl (by rw [lstF, if_neg (by omega)])
        · refine lv_aload_n hx hb dX9_crash_66 rfl (lv_at hl 0 rfl) ?_
          refine r_get (C := RX9) (T := TX9) (N := 34) (ci := 9) hx hb hts hi_X9 hown hK hP 12 rfl (by decide) lk_X9_154 (fun _ h9 => h9) dX9_crash_67 (by omega) RE_0 rfl ?_
          rw [f3]
          refine lv_aload_n hx hb dX9_crash_70 rfl (lv_at hl 0 rfl) ?_
          refine r_get (C := RX9) (T := TX9) (N := 34) (ci := 9) hx hb hts hi_X9 hown hK hP 16 rfl (by decide) lk_X9_50 (fun _ h9 => h9) dX9_crash_71 (by omega) RE_0 rfl ?_
          refine lv_iload_n hx hb dX9_crash_74 rfl (lv_at hl 1 rfl) ?_
          refine r_iald hx hb hK hP 0 rfl dX9_crash_75 (by omega) rfl (by omega) (by omega) (tI_at (by omega)) ?_
          rw [f14]
          refine r_add hx hb dX9_crash_76 ?_
          refine r_const hx hb dX9_crash_77 ?_
          refine r_sub hx hb dX9_crash_78 ?_
          refine lv_goto (tgt := 85) hx hb dX9_crash_79 (by decide) ?_
          rw [← hWg]
          exact join85 _ _ _ _ hP hS hl (by rw [lstF, if_pos (by omega)])
      · rw [← hWg]
        exact join29  _ _ _ hP hS (lv_sub hl [0] rfl) (fun q => c26 q.2)
  · have e2 : sCrash σ w = σ := by rw [sCrash, cif_f (fun q => c5 q.1)]
    refine r_const hx hb dX9_crash_8 ?_
    exact k_iret hx hb hr hlocks hP hS dX9_crash_9 ⟨by rw [aCrash, cif_f c5], τ, by rw [e2], by rw [e2]; exact hT⟩
abbrev rmX9_join : Room := { frames := 1, cells := 0, slots := 0, locals := 21 }
set_option maxRecDepth 100000 in
set_option maxHeartbeats 4000000 in
theorem c_X9_join {l : Launch} {D : va_G} {G : Nat → ClassId} {ad : Nat → Nat} {σ τ : Tb} (hi : kInj 27 ad) {a b : Int} (hI : InvS σ) (hT : RT σ τ) (ha : (-2147483648 ≤ a ∧ a < 2147483648)) (hb0 : (-2147483648 ≤ b ∧ b < 2147483648)) : Met l yX9_join wsX9_join rmX9_join (kPc D (tysG G) 27 ad (RE G ad σ τ) [.ref (ad 0), .int (iI a), .int (iI b)]) (kQi D 27 ad (fun z E' => z = aJoin σ a b ∧ ∃ τ', E' = RE G ad (sJoin σ a b) τ' ∧ RT (sJoin σ a b) τ')) 0 0 (kA 27 ad) := by
  refine k_met (cc := cX9_join) (maxL := 4) (ret := (some .int)) (by decide) (Nat.le_of_ble_eq_true rfl) ?_
  intro P0 e0 s m0 below meth c0 ls hx hb hr hlocks hml hown hts hK hP hS hl
  replace hl : lv_has ls 4 [(0, _), (1, _), (2, _)] := hl
  replace hown : s.vm.findClass RX9 = some m0.cls := hown
  refine k_abs (fun Wg hWg => ?_)
  have h0 := Inv_0 hI.1
  obtain ⟨hR2, hR3, hR4⟩ := hT.1
  have join21 : ∀  (H : Heap) (locs : List Loc) (ls : Array Slot), va_P D vwCl (kw 27 ad (RE G ad σ τ)) H → va_S (kA 27 ad) s.heap H locs → lv_has ls 4 [(0, .ref (ad 0))] → (¬ (lvW σ a ∧ lvW σ b ∧ a ≠ b)) → Wg H locs (F0 m0 21 ls []) := by
    intro  H locs ls hP hS hl hv21
    rw [hWg]
    have e2 : sJoin σ a b = σ := by rw [sJoin, cif_f (fun q => hv21 q.1)]
    refine r_const hx hb dX9_join_21 ?_
    exact k_iret hx hb hr hlocks hP hS dX9_join_22 ⟨by rw [aJoin, cif_f hv21], τ, by rw [e2], by rw [e2]; exact hT⟩
  refine lv_aload_n hx hb dX9_join_0 rfl (lv_at hl 0 rfl) ?_
  refine lv_iload_n hx hb dX9_join_1 rfl (lv_at hl 1 rfl) ?_
  refine k_calliV (nL := 4) (C := RX9) (T := TX9) (N := 34) (ci := 9) hx hb hml hown hts hK hP hS hl.1 (c_X9_isWork hi hI.1 ha) rfl (Nat.le_of_ble_eq_true rfl) rfl (cwV 1 hts (gV lm_X9_114 ti_X9_isWork tl_X9_isWork tn_X9 tc_X9_isWork) rfl rfl rfl (by decide +kernel) ⟨Nat.le_of_ble_eq_true rfl, Nat.le_of_ble_eq_true rfl⟩) rfl dX9_join_2 ⟨Nat.zero_le _, Nat.zero_le _⟩ (by omega) RE_0 (fun r2 E1 H locs hq hP hS => ?_)
  obtain ⟨rfl, rfl⟩ := hq
  refine r_ifB_eq (tgt := 21) hx hb dX9_join_5 (by decide) (fun c5 => ?_) (fun c5 => ?_)
  · rw [← hWg]
    exact join21  _ _ _ hP hS (lv_sub hl [0] rfl) (fun q => c5 q.1)
  · refine lv_aload_n hx hb dX9_join_8 rfl (lv_at hl 0 rfl) ?_
    refine lv_iload_n hx hb dX9_join_9 rfl (lv_at hl 2 rfl) ?_
    refine k_calliV (nL := 4) (C := RX9) (T := TX9) (N := 34) (ci := 9) hx hb hml hown hts hK hP hS hl.1 (c_X9_isWork hi hI.1 hb0) rfl (Nat.le_of_ble_eq_true rfl) rfl (cwV 1 hts (gV lm_X9_114 ti_X9_isWork tl_X9_isWork tn_X9 tc_X9_isWork) rfl rfl rfl (by decide +kernel) ⟨Nat.le_of_ble_eq_true rfl, Nat.le_of_ble_eq_true rfl⟩) rfl dX9_join_10 ⟨Nat.zero_le _, Nat.zero_le _⟩ (by omega) RE_0 (fun r10 E1 H locs hq hP hS => ?_)
    obtain ⟨rfl, rfl⟩ := hq
    refine r_ifB_eq (tgt := 21) hx hb dX9_join_13 (by decide) (fun c13 => ?_) (fun c13 => ?_)
    · rw [← hWg]
      exact join21  _ _ _ hP hS (lv_sub hl [0] rfl) (fun q => c13 q.2.1)
    · have c5' : 0 ≤ a ∧ a < σ 0 2 := c5
      have c13' : 0 ≤ b ∧ b < σ 0 2 := c13
      obtain ⟨hN, _, _⟩ := Inv_w hI.1 c5
      obtain ⟨hM, _, _⟩ := Inv_w hI.1 c13
      have hj := IJ_r hI.1 c5
      have hk := IJ_r hI.1 c13
      obtain ⟨_, hm1, _⟩ := IQ_0 hI.1 c5
      obtain ⟨_, hm2, _⟩ := IQ_0 hI.1 c13
      unfold IN at hN hM
      refine lv_iload_n hx hb dX9_join_16 rfl (lv_at hl 1 rfl) ?_
      refine lv_iload_n hx hb dX9_join_17 rfl (lv_at hl 2 rfl) ?_
      refine r_icmp_ne (tgt := 23) hx hb (by omega) (by omega) dX9_join_18 (by decide) (fun c18 => ?_) (fun c18 => ?_)
      · have hok : lvW σ a ∧ lvW σ b ∧ a ≠ b := ⟨c5, c13, by omega⟩
        have join137 : ∀  (H : Heap) (locs : List Loc) (ls : Array Slot), va_P D vwCl (kw 27 ad (RE G ad σ τ)) H → va_S (kA 27 ad) s.heap H locs → lv_has ls 4 [(0, .ref (ad 0))] → (¬ jnO σ a b) → Wg H locs (F0 m0 137 ls []) := by
          intro  H locs ls hP hS hl hv137
          rw [hWg]
          have e2 : sJoin σ a b = σ := by rw [sJoin, cif_f (fun q => hv137 q.2)]
          refine r_bipush hx hb dX9_join_137 (by decide +kernel) ?_
          exact k_iret hx hb hr hlocks hP hS dX9_join_139 ⟨by rw [aJoin, cif_t hok, cif_f hv137], τ, by rw [e2], by rw [e2]; exact hT⟩
        have join113 : ∀  (H : Heap) (locs : List Loc) (ls : Array Slot), va_P D vwCl (kw 27 ad (RE G ad σ τ)) H → va_S (kA 27 ad) s.heap H locs → lv_has ls 4 [(0, .ref (ad 0)), (1, .int (iI a)), (2, .int (iI b))] → (¬ jnO σ a b) → Wg H locs (F0 m0 113 ls []) := by
          intro  H locs ls hP hS hl hv113
          rw [hWg]
          refine r_const hx hb dX9_join_113 ?_
          refine lv_istore_n hx hb dX9_join_114 rfl hl (by decide) rfl (fun ls hl => ?_)
          replace hl : lv_has ls 4 [(0, _), (1, _), (2, _), (3, _)] := lv_sub hl [1, 2, 3, 0] rfl
          refine lv_iload_n hx hb dX9_join_115 rfl (lv_at hl 3 rfl) ?_
          refine r_if_eq (tgt := 137) hx hb (by omega) dX9_join_116 (by decide) (fun c116 => ?_) (fun c116 => ?_)
          · rw [← hWg]
            exact join137  _ _ _ hP hS (lv_sub hl [0] rfl) hv113
          · omega
        refine lv_aload_n hx hb dX9_join_23 rfl (lv_at hl 0 rfl) ?_
        refine r_get (C := RX9) (T := TX9) (N := 34) (ci := 9) hx hb hts hi_X9 hown hK hP 14 rfl (by decide) lk_X9_44 (fun _ h9 => h9) dX9_join_24 (by omega) RE_0 rfl ?_
        refine lv_iload_n hx hb dX9_join_27 rfl (lv_at hl 1 rfl) ?_
        refine r_iald hx hb hK hP 0 rfl dX9_join_28 (by omega) rfl (by omega) (by omega) (tI_at (by omega)) ?_
        refine r_const hx hb dX9_join_29 ?_
        refine r_icmp_ne (tgt := 113) hx hb (by omega) (by omega) dX9_join_30 (by decide) (fun c30 => ?_) (fun c30 => ?_)
        · rw [← hWg]
          exact join113  _ _ _ hP hS hl (fun q => by have := q.1.1; omega)
        · refine lv_aload_n hx hb dX9_join_33 rfl (lv_at hl 0 rfl) ?_
          refine r_get (C := RX9) (T := TX9) (N := 34) (ci := 9) hx hb hts hi_X9 hown hK hP 14 rfl (by decide) lk_X9_44 (fun _ h9 => h9) dX9_join_34 (by omega) RE_0 rfl ?_
          refine lv_iload_n hx hb dX9_join_37 rfl (lv_at hl 2 rfl) ?_
          refine r_iald hx hb hK hP 0 rfl dX9_join_38 (by omega) rfl (by omega) (by omega) (tI_at (by omega)) ?_
          refine r_const hx hb dX9_join_39 ?_
          refine r_icmp_ne (tgt := 113) hx hb (by omega) (by omega) dX9_join_40 (by decide) (fun c40 => ?_) (fun c40 => ?_)
          · rw [← hWg]
            exact join113  _ _ _ hP hS hl (fun q => by have := q.2.1.1; omega)
          · refine lv_aload_n hx hb dX9_join_43 rfl (lv_at hl 0 rfl) ?_
            refine r_get (C := RX9) (T := TX9) (N := 34) (ci := 9) hx hb hts hi_X9 hown hK hP 13 rfl (by decide) lk_X9_41 (fun _ h9 => h9) dX9_join_44 (by omega) RE_0 rfl ?_
            refine lv_iload_n hx hb dX9_join_47 rfl (lv_at hl 1 rfl) ?_
            refine r_iald hx hb hK hP 0 rfl dX9_join_48 (by omega) rfl (by omega) (by omega) (tI_at (by omega)) ?_
            refine lv_aload_n hx hb dX9_join_49 rfl (lv_at hl 0 rfl) ?_
            refine r_get (C := RX9) (T := TX9) (N := 34) (ci := 9) hx hb hts hi_X9 hown hK hP 13 rfl (by decide) lk_X9_41 (fun _ h9 => h9) dX9_join_50 (by omega) RE_0 rfl ?_
            refine lv_iload_n hx hb dX9_join_53 rfl (lv_at hl 2 rfl) ?_
            refine r_iald hx hb hK hP 0 rfl dX9_join_54 (by omega) rfl (by omega) (by omega) (tI_at (by omega)) ?_
            refine r_icmp_eq (tgt := 113) hx hb (by omega) (by omega) dX9_join_55 (by decide) (fun c55 => ?_) (fun c55 => ?_)
            · rw [← hWg]
              exact join113  _ _ _ hP hS hl (fun q => q.2.2.1 c55)
            · refine lv_aload_n hx hb dX9_join_58 rfl (lv_at hl 0 rfl) ?_
              refine r_get (C := RX9) (T := TX9) (N := 34) (ci := 9) hx hb hts hi_X9 hown hK hP 22 rfl (by decide) lk_X9_69 (fun _ h9 => h9) dX9_join_59 (by omega) RE_0 rfl ?_
              refine lv_iload_n hx hb dX9_join_62 rfl (lv_at hl 1 rfl) ?_
              refine r_iald hx hb hK hP 0 rfl dX9_join_63 (by omega) rfl (by omega) (by omega) (tI_at (by omega)) ?_
              refine r_const hx hb dX9_join_64 ?_
              refine r_icmp_gt (tgt := 113) hx hb (by omega) (by omega) dX9_join_65 (by decide) (fun c65 => ?_) (fun c65 => ?_)
              · rw [← hWg]
                exact join113  _ _ _ hP hS hl (fun q => by have := q.1.2.1; omega)
              · refine lv_aload_n hx hb dX9_join_68 rfl (lv_at hl 0 rfl) ?_
                refine r_get (C := RX9) (T := TX9) (N := 34) (ci := 9) hx hb hts hi_X9 hown hK hP 22 rfl (by decide) lk_X9_69 (fun _ h9 => h9) dX9_join_69 (by omega) RE_0 rfl ?_
                refine lv_iload_n hx hb dX9_join_72 rfl (lv_at hl 2 rfl) ?_
                refine r_iald hx hb hK hP 0 rfl dX9_join_73 (by omega) rfl (by omega) (by omega) (tI_at (by omega)) ?_
                refine r_const hx hb dX9_join_74 ?_
                refine r_icmp_gt (tgt := 113) hx hb (by omega) (by omega) dX9_join_75 (by decide) (fun c75 => ?_) (fun c75 => ?_)
                · rw [← hWg]
                  exact join113  _ _ _ hP hS hl (fun q => by have := q.2.1.2.1; omega)
                · refine lv_aload_n hx hb dX9_join_78 rfl (lv_at hl 0 rfl) ?_
                  refine r_get (C := RX9) (T := TX9) (N := 34) (ci := 9) hx hb hts hi_X9 hown hK hP 19 rfl (by decide) lk_X9_59 (fun _ h9 => h9) dX9_join_79 (by omega) RE_0 rfl ?_
                  refine lv_iload_n hx hb dX9_join_82 rfl (lv_at hl 1 rfl) ?_
                  refine r_lald hx hb hK hP 1 rfl dX9_join_83 (by omega) rfl (by omega) (by omega) (tL_at (by omega)) ?_
                  refine lv_aload_n hx hb dX9_join_84 rfl (lv_at hl 0 rfl) ?_
                  refine r_get (C := RX9) (T := TX9) (N := 34) (ci := 9) hx hb hts hi_X9 hown hK hP 19 rfl (by decide) lk_X9_59 (fun _ h9 => h9) dX9_join_85 (by omega) RE_0 rfl ?_
                  refine lv_iload_n hx hb dX9_join_88 rfl (lv_at hl 2 rfl) ?_
                  refine r_lald hx hb hK hP 1 rfl dX9_join_89 (by omega) rfl (by omega) (by omega) (tL_at (by omega)) ?_
                  refine r_lcmp hx hb dX9_join_90 (by omega) (by omega) ?_
                  refine r_if_ne (tgt := 113) hx hb (cmpN_r _ _) dX9_join_91 (by decide) (fun c91 => ?_) (fun c91 => ?_)
                  · rw [← hWg]
                    exact join113  _ _ _ hP hS hl (fun q => c91 (cmpN_0.mpr (by rw [q.2.2.2.2])))
                  · have hon := cmpN_0.mp c91
                    refine lv_aload_n hx hb dX9_join_94 rfl (lv_at hl 0 rfl) ?_
                    refine r_get (C := RX9) (T := TX9) (N := 34) (ci := 9) hx hb hts hi_X9 hown hK hP 17 rfl (by decide) lk_X9_53 (fun _ h9 => h9) dX9_join_95 (by omega) RE_0 rfl ?_
                    refine lv_iload_n hx hb dX9_join_98 rfl (lv_at hl 1 rfl) ?_
                    refine r_iald hx hb hK hP 0 rfl dX9_join_99 (by omega) rfl (by omega) (by omega) (tI_at (by omega)) ?_
                    refine lv_aload_n hx hb dX9_join_100 rfl (lv_at hl 0 rfl) ?_
                    refine r_get (C := RX9) (T := TX9) (N := 34) (ci := 9) hx hb hts hi_X9 hown hK hP 17 rfl (by decide) lk_X9_53 (fun _ h9 => h9) dX9_join_101 (by omega) RE_0 rfl ?_
                    refine lv_iload_n hx hb dX9_join_104 rfl (lv_at hl 2 rfl) ?_
                    refine r_iald hx hb hK hP 0 rfl dX9_join_105 (by omega) rfl (by omega) (by omega) (tI_at (by omega)) ?_
                    refine r_icmp_eq (tgt := 113) hx hb (by omega) (by omega) dX9_join_106 (by decide) (fun c106 => ?_) (fun c106 => ?_)
                    · rw [← hWg]
                      exact join113  _ _ _ hP hS hl (fun q => q.2.2.2.1 c106)
                    · refine r_const hx hb dX9_join_109 ?_
                      refine lv_goto (tgt := 114) hx hb dX9_join_110 (by decide) ?_
                      refine lv_istore_n hx hb dX9_join_114 rfl hl (by decide) rfl (fun ls hl => ?_)
                      replace hl : lv_has ls 4 [(0, _), (1, _), (2, _), (3, _)] := lv_sub hl [1, 2, 3, 0] rfl
                      refine lv_iload_n hx hb dX9_join_115 rfl (lv_at hl 3 rfl) ?_
                      refine r_if_eq (tgt := 137) hx hb (by omega) dX9_join_116 (by decide) (fun c116 => ?_) (fun c116 => ?_)
                      · omega
                      · refine lv_aload_n hx hb dX9_join_119 rfl (lv_at hl 0 rfl) ?_
                        refine r_get (C := RX9) (T := TX9) (N := 34) (ci := 9) hx hb hts hi_X9 hown hK hP 26 rfl (by decide) lk_X9_81 (fun _ h9 => h9) dX9_join_120 (by omega) RE_0 rfl ?_
                        refine lv_iload_n hx hb dX9_join_123 rfl (lv_at hl 1 rfl) ?_
                        refine r_iald hx hb hK hP 0 rfl dX9_join_124 (by omega) rfl (by omega) (by omega) (tD_at (by omega) (by omega)) ?_
                        refine r_if_ge (tgt := 137) hx hb (by omega) dX9_join_125 (by decide) (fun c125 => ?_) (fun c125 => ?_)
                        · rw [← hWg]
                          exact join137  _ _ _ hP hS (lv_sub hl [0] rfl) (fun q => by have := q.1.2.2; omega)
                        · refine lv_aload_n hx hb dX9_join_128 rfl (lv_at hl 0 rfl) ?_
                          refine r_get (C := RX9) (T := TX9) (N := 34) (ci := 9) hx hb hts hi_X9 hown hK hP 26 rfl (by decide) lk_X9_81 (fun _ h9 => h9) dX9_join_129 (by omega) RE_0 rfl ?_
                          refine lv_iload_n hx hb dX9_join_132 rfl (lv_at hl 2 rfl) ?_
                          refine r_iald hx hb hK hP 0 rfl dX9_join_133 (by omega) rfl (by omega) (by omega) (tD_at (by omega) (by omega)) ?_
                          refine r_if_lt (tgt := 140) hx hb (by omega) dX9_join_134 (by decide) (fun c134 => ?_) (fun c134 => ?_)
                          · have hjn : jnO σ a b := ⟨⟨by omega, by omega, by omega⟩, ⟨by omega, by omega, by omega⟩, c55, c106, by omega⟩
                            have e2 : sJoin σ a b = up (up σ 23 a b) 23 b a := by rw [sJoin, cif_t ⟨hok, hjn⟩]
                            refine lv_aload_n hx hb dX9_join_140 rfl (lv_at hl 0 rfl) ?_
                            refine r_get (C := RX9) (T := TX9) (N := 34) (ci := 9) hx hb hts hi_X9 hown hK hP 26 rfl (by decide) lk_X9_81 (fun _ h9 => h9) dX9_join_141 (by omega) RE_0 rfl ?_
                            refine lv_iload_n hx hb dX9_join_144 rfl (lv_at hl 1 rfl) ?_
                            refine lv_iload_n hx hb dX9_join_145 rfl (lv_at hl 2 rfl) ?_
                            refine r_iast hx hb hi hK hP hS 0 rfl dX9_join_146 (by omega) rfl (by omega) (by omega) (ru_joined (by omega) (by omega)) (fun H locs hP hS => ?_)
                            refine lv_aload_n hx hb dX9_join_147 rfl (lv_at hl 0 rfl) ?_
                            refine r_get (C := RX9) (T := TX9) (N := 34) (ci := 9) hx hb hts hi_X9 hown hK hP 26 rfl (by decide) lk_X9_81 (fun _ h9 => h9) dX9_join_148 (by omega) RE_0 rfl ?_
                            refine lv_iload_n hx hb dX9_join_151 rfl (lv_at hl 2 rfl) ?_
                            refine lv_iload_n hx hb dX9_join_152 rfl (lv_at hl 1 rfl) ?_
                            refine r_iast hx hb hi hK hP hS 0 rfl dX9_join_153 (by omega) rfl (by omega) (by omega) (ru_joined (by omega) (by omega)) (fun H locs hP hS => ?_)
                            refine r_const hx hb dX9_join_154 ?_
                            exact k_iret hx hb hr hlocks hP hS dX9_join_155 ⟨by rw [aJoin, cif_t hok, cif_t hjn], τ, by rw [e2], by rw [e2]; exact RT_c0 (fun _ => by rw [up_t (by decide), up_t (by decide)]) hT⟩
                          · rw [← hWg]
                            exact join137  _ _ _ hP hS (lv_sub hl [0] rfl) (fun q => by have := q.2.1.2.2; omega)
      · rw [← hWg]
        exact join21  _ _ _ hP hS (lv_sub hl [0] rfl) (fun q => q.2.2 (by omega))

