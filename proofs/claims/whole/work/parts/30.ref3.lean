abbrev rmX9_breaksDepth : Room := { frames := 3, cells := 0, slots := 0, locals := 69 }
set_option maxRecDepth 100000 in
set_option maxHeartbeats 4000000 in
theorem c_X9_breaksDepth {l : Launch} {D : va_G} {G : Nat → ClassId} {ad : Nat → Nat} {σ τ : Tb} (hi : kInj 27 ad) {w d : Int} {les : Prop} (hI : Inv σ) (hR : RD σ τ) (hw : 0 ≤ w ∧ w < σ 0 2) (hd : 0 ≤ d) (he : d + σ 14 w - 1 ≤ 399) : Met l yX9_breaksDepth wsX9_breaksDepth rmX9_breaksDepth (kPc D (tysG G) 27 ad (RE G ad σ τ) [.ref (ad 0), .int (iI w), .int (iI d), .int (iI (bI les))]) (kQi D 27 ad (fun z E' => z = bI (ex2 (B5 σ w d les)) ∧ ∃ τ', E' = RE G ad σ τ' ∧ (ex2 (B5 σ w d les) → isFst (B5 σ w d les) (τ' 0 0) (τ' 0 1)) ∧ FrR τ τ')) 0 0 (kA 27 ad) := by
  refine k_met (cc := cX9_breaksDepth) (maxL := 7) (ret := (some .boolean)) (by decide) (Nat.le_of_ble_eq_true rfl) ?_
  intro P0 e0 s m0 below meth c0 ls hx hb hr hlocks hml hown hts hK hP hS hl
  replace hl : lv_has ls 7 [(0, _), (1, _), (2, _), (3, _)] := hl
  replace hown : s.vm.findClass RX9 = some m0.cls := hown
  refine k_abs (fun Wg hWg => ?_)
  have h0 := Inv_0 hI
  have hR0 := hR
  obtain ⟨hR2, hR3, hR4⟩ := hR
  obtain ⟨hN, _, _⟩ := Inv_w hI hw
  have hjw := IJ_r hI hw
  unfold IN at hN
  refine lv_iload_n hx hb dX9_breaksDepth_0 rfl (lv_at hl 2 rfl) ?_
  refine lv_istore hx hb dX9_breaksDepth_1 hl (by decide) rfl (fun ls hl => ?_)
  replace hl : lv_has ls 7 [(0, _), (1, _), (2, _), (3, _), (4, _)] := lv_sub hl [1, 2, 3, 4, 0] rfl
  have loop3 : ∀ (nn : Nat) (t : Int) (H : Heap) (locs : List Loc) (ls : Array Slot), va_P D vwCl (kw 27 ad (RE G ad σ τ)) H → va_S (kA 27 ad) s.heap H locs → lv_has ls 7 [(0, .ref (ad 0)), (1, .int (iI w)), (2, .int (iI d)), (3, .int (iI (bI les))), (4, .int (iI t))] → ((d ≤ t ∧ t ≤ d + σ 14 w) ∧ (∀ t' p, t' < t → ¬ B5 σ w d les t' p)) → (d + σ 14 w - t).toNat < nn → Wg H locs (F0 m0 3 ls []) := by
    intro nn
    induction nn with
    | zero => intro t H locs ls _ _ _ _ hn; omega
    | succ nn ih3 =>
      intro t H locs ls hP hS hl hv3 hn3
      rw [hWg]
      obtain ⟨hv, hno⟩ := hv3
      refine lv_iload hx hb dX9_breaksDepth_3 (lv_at hl 4 rfl) ?_
      refine lv_iload_n hx hb dX9_breaksDepth_5 rfl (lv_at hl 2 rfl) ?_
      refine lv_aload_n hx hb dX9_breaksDepth_6 rfl (lv_at hl 0 rfl) ?_
      refine r_get (C := RX9) (T := TX9) (N := 34) (ci := 9) hx hb hts hi_X9 hown hK hP 16 rfl (by decide) lk_X9_50 (fun _ h9 => h9) dX9_breaksDepth_7 (by omega) RE_0 rfl ?_
      refine lv_iload_n hx hb dX9_breaksDepth_10 rfl (lv_at hl 1 rfl) ?_
      refine r_iald hx hb hK hP 0 rfl dX9_breaksDepth_11 (by omega) rfl (by omega) (by omega) (tI_at (by omega)) ?_
      refine r_add hx hb dX9_breaksDepth_12 ?_
      refine r_icmp_ge (tgt := 151) hx hb (by omega) (by omega) dX9_breaksDepth_13 (by decide) (fun c13 => ?_) (fun c13 => ?_)
      · have hn2 : ¬ ex2 (B5 σ w d les) := fun ⟨a, b, q⟩ => hno a b (by have := q.1; unfold inW at this; omega) q
        refine r_const hx hb dX9_breaksDepth_151 ?_
        exact k_zret hx hb hr hlocks hP hS dX9_breaksDepth_152 (by omega) ⟨(bI_f hn2).symm, τ, rfl, fun q => absurd q hn2, FrR_rf⟩
      · refine r_const hx hb dX9_breaksDepth_16 ?_
        refine lv_istore hx hb dX9_breaksDepth_17 hl (by decide) rfl (fun ls hl => ?_)
        replace hl : lv_has ls 7 [(0, _), (1, _), (2, _), (3, _), (4, _), (5, _)] := lv_sub hl [1, 2, 3, 4, 5, 0] rfl
        have loop19 : ∀ (nn : Nat) (p : Int) (H : Heap) (locs : List Loc) (ls : Array Slot), va_P D vwCl (kw 27 ad (RE G ad σ τ)) H → va_S (kA 27 ad) s.heap H locs → lv_has ls 7 [(0, .ref (ad 0)), (1, .int (iI w)), (2, .int (iI d)), (3, .int (iI (bI les))), (4, .int (iI t)), (5, .int (iI p))] → ((0 ≤ p ∧ p ≤ σ 0 0) ∧ (∀ p', p' < p → ¬ B5 σ w d les t p')) → (σ 0 0 - p).toNat < nn → Wg H locs (F0 m0 19 ls []) := by
          intro nn
          induction nn with
          | zero => intro p H locs ls _ _ _ _ hn; omega
          | succ nn ih19 =>
            intro p H locs ls hP hS hl hv19 hn19
            rw [hWg]
            obtain ⟨hv2, hno2⟩ := hv19
            refine lv_iload hx hb dX9_breaksDepth_19 (lv_at hl 5 rfl) ?_
            refine lv_aload_n hx hb dX9_breaksDepth_21 rfl (lv_at hl 0 rfl) ?_
            refine r_get (C := RX9) (T := TX9) (N := 34) (ci := 9) hx hb hts hi_X9 hown hK hP 6 rfl (by decide) lk_X9_101 (fun _ h9 => h9) dX9_breaksDepth_22 (by omega) RE_0 rfl ?_
            refine r_icmp_ge (tgt := 145) hx hb (by omega) (by omega) dX9_breaksDepth_25 (by decide) (fun c25 => ?_) (fun c25 => ?_)
            · refine r_iinc hx hb dX9_breaksDepth_145 hl (k := 4) rfl (by decide) (fun ls hl => ?_)
              replace hl : lv_has ls 7 [(0, _), (1, _), (2, _), (3, _), (4, _), (5, _)] := lv_sub hl [1, 2, 3, 4, 0, 5] rfl
              refine lv_goto (tgt := 3) hx hb dX9_breaksDepth_148 (by decide) ?_
              rw [← hWg]
              exact ih3 (t + 1) _ _ _ hP hS (lv_sub hl [0, 1, 2, 3, 4] rfl) ⟨by omega, brS hno hno2 (fun p' q => by have := q.2.1.2; omega)⟩ (by omega)
            · have hp : 0 ≤ p ∧ p < σ 0 0 := by omega
              have join139 : ∀  (H : Heap) (locs : List Loc) (ls : Array Slot), va_P D vwCl (kw 27 ad (RE G ad σ τ)) H → va_S (kA 27 ad) s.heap H locs → lv_has ls 7 [(0, .ref (ad 0)), (1, .int (iI w)), (2, .int (iI d)), (3, .int (iI (bI les))), (4, .int (iI t)), (5, .int (iI p))] → (¬ B5 σ w d les t p) → Wg H locs (F0 m0 139 ls []) := by
                intro  H locs ls hP hS hl hv139
                rw [hWg]
                refine r_iinc hx hb dX9_breaksDepth_139 hl (k := 5) rfl (by decide) (fun ls hl => ?_)
                replace hl : lv_has ls 7 [(0, _), (1, _), (2, _), (3, _), (4, _), (5, _)] := lv_sub hl [1, 2, 3, 4, 5, 0] rfl
                refine lv_goto (tgt := 19) hx hb dX9_breaksDepth_142 (by decide) ?_
                rw [← hWg]
                exact ih19 (p + 1) _ _ _ hP hS hl ⟨by omega, brI hno2 hv139⟩ (by omega)
              refine r_const hx hb dX9_breaksDepth_28 ?_
              refine lv_istore hx hb dX9_breaksDepth_29 hl (by decide) rfl (fun ls hl => ?_)
              replace hl : lv_has ls 7 [(0, _), (1, _), (2, _), (3, _), (4, _), (5, _), (6, _)] := lv_sub hl [1, 2, 3, 4, 5, 6, 0] rfl
              have loop31 : ∀ (nn : Nat) (o : Int) (H : Heap) (locs : List Loc) (ls : Array Slot), va_P D vwCl (kw 27 ad (RE G ad σ τ)) H → va_S (kA 27 ad) s.heap H locs → lv_has ls 7 [(0, .ref (ad 0)), (1, .int (iI w)), (2, .int (iI d)), (3, .int (iI (bI les))), (4, .int (iI t)), (5, .int (iI p)), (6, .int (iI o))] → ((0 ≤ o ∧ o ≤ σ 0 2) ∧ (∀ o', 0 ≤ o' → o' < o → ¬ B5o σ w d les t p o')) → (σ 0 2 - o).toNat < nn → Wg H locs (F0 m0 31 ls []) := by
                intro nn
                induction nn with
                | zero => intro o H locs ls _ _ _ _ hn; omega
                | succ nn ih31 =>
                  intro o H locs ls hP hS hl hv31 hn31
                  rw [hWg]
                  obtain ⟨hv3, hno3⟩ := hv31
                  refine lv_iload hx hb dX9_breaksDepth_31 (lv_at hl 6 rfl) ?_
                  refine lv_aload_n hx hb dX9_breaksDepth_33 rfl (lv_at hl 0 rfl) ?_
                  refine r_get (C := RX9) (T := TX9) (N := 34) (ci := 9) hx hb hts hi_X9 hown hK hP 28 rfl (by decide) lk_X9_107 (fun _ h9 => h9) dX9_breaksDepth_34 (by omega) RE_0 rfl ?_
                  refine r_icmp_ge (tgt := 139) hx hb (by omega) (by omega) dX9_breaksDepth_37 (by decide) (fun c37 => ?_) (fun c37 => ?_)
                  · rw [← hWg]
                    exact join139  _ _ _ hP hS (lv_sub hl [0, 1, 2, 3, 4, 5] rfl) (fun ⟨_, _, _, o', q1, q2, q3⟩ => hno3 o' q1 (by omega) q3)
                  · have ho : 0 ≤ o ∧ o < σ 0 2 := by omega
                    obtain ⟨hNo, _, _⟩ := Inv_w hI ho
                    unfold IN at hNo
                    have join133 : ∀  (H : Heap) (locs : List Loc) (ls : Array Slot), va_P D vwCl (kw 27 ad (RE G ad σ τ)) H → va_S (kA 27 ad) s.heap H locs → lv_has ls 7 [(0, .ref (ad 0)), (1, .int (iI w)), (2, .int (iI d)), (3, .int (iI (bI les))), (4, .int (iI t)), (5, .int (iI p)), (6, .int (iI o))] → (¬ B5o σ w d les t p o) → Wg H locs (F0 m0 133 ls []) := by
                      intro  H locs ls hP hS hl hv133
                      rw [hWg]
                      have hno4 : ∀ o', 0 ≤ o' → o' < o + 1 → ¬ B5o σ w d les t p o' := by
                        intro o' q1 q2 q3
                        rcases (show o' < o ∨ o' = o by omega) with y | y
                        · exact hno3 o' q1 y q3
                        · exact hv133 (y ▸ q3)
                      refine r_iinc hx hb dX9_breaksDepth_133 hl (k := 6) rfl (by decide) (fun ls hl => ?_)
                      replace hl : lv_has ls 7 [(0, _), (1, _), (2, _), (3, _), (4, _), (5, _), (6, _)] := lv_sub hl [1, 2, 3, 4, 5, 6, 0] rfl
                      refine lv_goto (tgt := 31) hx hb dX9_breaksDepth_136 (by decide) ?_
                      rw [← hWg]
                      exact ih31 (o + 1) _ _ _ hP hS hl ⟨by omega, hno4⟩ (by omega)
                    refine lv_aload_n hx hb dX9_breaksDepth_40 rfl (lv_at hl 0 rfl) ?_
                    refine lv_iload_n hx hb dX9_breaksDepth_41 rfl (lv_at hl 1 rfl) ?_
                    refine lv_iload hx hb dX9_breaksDepth_42 (lv_at hl 5 rfl) ?_
                    refine k_calliV (nL := 7) (C := RX9) (T := TX9) (N := 34) (ci := 9) hx hb hml hown hts hK hP hS hl.1 (c_X9_isOn hi hI hw (p := p) (by omega)) rfl (Nat.le_of_ble_eq_true rfl) rfl (cwV 2 hts (gV lm_X9_117 ti_X9_isOn tl_X9_isOn tn_X9 tc_X9_isOn) rfl rfl rfl (by decide +kernel) ⟨Nat.le_of_ble_eq_true rfl, Nat.le_of_ble_eq_true rfl⟩) rfl dX9_breaksDepth_44 ⟨Nat.zero_le _, Nat.zero_le _⟩ (by omega) RE_0 (fun r44 E1 H locs hq hP hS => ?_)
                    obtain ⟨rfl, rfl⟩ := hq
                    refine r_ifB_eq (tgt := 139) hx hb dX9_breaksDepth_47 (by decide) (fun c47 => ?_) (fun c47 => ?_)
                    · rw [← hWg]
                      exact join139  _ _ _ hP hS (lv_sub hl [0, 1, 2, 3, 4, 5] rfl) (fun q => c47 q.2.2.1)
                    · refine lv_iload hx hb dX9_breaksDepth_50 (lv_at hl 6 rfl) ?_
                      refine lv_iload_n hx hb dX9_breaksDepth_52 rfl (lv_at hl 1 rfl) ?_
                      refine r_icmp_eq (tgt := 133) hx hb (by omega) (by omega) dX9_breaksDepth_53 (by decide) (fun c53 => ?_) (fun c53 => ?_)
                      · rw [← hWg]
                        exact join133  _ _ _ hP hS hl (fun q => q.1 c53)
                      · refine lv_aload_n hx hb dX9_breaksDepth_56 rfl (lv_at hl 0 rfl) ?_
                        refine lv_iload hx hb dX9_breaksDepth_57 (lv_at hl 6 rfl) ?_
                        refine lv_iload hx hb dX9_breaksDepth_59 (lv_at hl 5 rfl) ?_
                        refine k_calliV (nL := 7) (C := RX9) (T := TX9) (N := 34) (ci := 9) hx hb hml hown hts hK hP hS hl.1 (c_X9_isOn hi hI ho (p := p) (by omega)) rfl (Nat.le_of_ble_eq_true rfl) rfl (cwV 2 hts (gV lm_X9_117 ti_X9_isOn tl_X9_isOn tn_X9 tc_X9_isOn) rfl rfl rfl (by decide +kernel) ⟨Nat.le_of_ble_eq_true rfl, Nat.le_of_ble_eq_true rfl⟩) rfl dX9_breaksDepth_61 ⟨Nat.zero_le _, Nat.zero_le _⟩ (by omega) RE_0 (fun r61 E1 H locs hq hP hS => ?_)
                        obtain ⟨rfl, rfl⟩ := hq
                        refine r_ifB_eq (tgt := 133) hx hb dX9_breaksDepth_64 (by decide) (fun c64 => ?_) (fun c64 => ?_)
                        · rw [← hWg]
                          exact join133  _ _ _ hP hS hl (fun q => c64 q.2.1)
                        · refine lv_aload_n hx hb dX9_breaksDepth_67 rfl (lv_at hl 0 rfl) ?_
                          refine r_get (C := RX9) (T := TX9) (N := 34) (ci := 9) hx hb hts hi_X9 hown hK hP 13 rfl (by decide) lk_X9_41 (fun _ h9 => h9) dX9_breaksDepth_68 (by omega) RE_0 rfl ?_
                          refine lv_iload hx hb dX9_breaksDepth_71 (lv_at hl 6 rfl) ?_
                          refine r_iald hx hb hK hP 0 rfl dX9_breaksDepth_73 (by omega) rfl (by omega) (by omega) (tI_at (by omega)) ?_
                          refine lv_aload_n hx hb dX9_breaksDepth_74 rfl (lv_at hl 0 rfl) ?_
                          refine r_get (C := RX9) (T := TX9) (N := 34) (ci := 9) hx hb hts hi_X9 hown hK hP 13 rfl (by decide) lk_X9_41 (fun _ h9 => h9) dX9_breaksDepth_75 (by omega) RE_0 rfl ?_
                          refine lv_iload_n hx hb dX9_breaksDepth_78 rfl (lv_at hl 1 rfl) ?_
                          refine r_iald hx hb hK hP 0 rfl dX9_breaksDepth_79 (by omega) rfl (by omega) (by omega) (tI_at (by omega)) ?_
                          refine r_icmp_eq (tgt := 133) hx hb (by omega) (by omega) dX9_breaksDepth_80 (by decide) (fun c80 => ?_) (fun c80 => ?_)
                          · rw [← hWg]
                            exact join133  _ _ _ hP hS hl (fun q => q.2.2.1 c80)
                          · refine lv_aload_n hx hb dX9_breaksDepth_83 rfl (lv_at hl 0 rfl) ?_
                            refine r_get (C := RX9) (T := TX9) (N := 34) (ci := 9) hx hb hts hi_X9 hown hK hP 17 rfl (by decide) lk_X9_53 (fun _ h9 => h9) dX9_breaksDepth_84 (by omega) RE_0 rfl ?_
                            refine lv_iload hx hb dX9_breaksDepth_87 (lv_at hl 6 rfl) ?_
                            refine r_iald hx hb hK hP 0 rfl dX9_breaksDepth_89 (by omega) rfl (by omega) (by omega) (tI_at (by omega)) ?_
                            refine lv_aload_n hx hb dX9_breaksDepth_90 rfl (lv_at hl 0 rfl) ?_
                            refine r_get (C := RX9) (T := TX9) (N := 34) (ci := 9) hx hb hts hi_X9 hown hK hP 17 rfl (by decide) lk_X9_53 (fun _ h9 => h9) dX9_breaksDepth_91 (by omega) RE_0 rfl ?_
                            refine lv_iload_n hx hb dX9_breaksDepth_94 rfl (lv_at hl 1 rfl) ?_
                            refine r_iald hx hb hK hP 0 rfl dX9_breaksDepth_95 (by omega) rfl (by omega) (by omega) (tI_at (by omega)) ?_
                            refine r_icmp_ne (tgt := 133) hx hb (by omega) (by omega) dX9_breaksDepth_96 (by decide) (fun c96 => ?_) (fun c96 => ?_)
                            · rw [← hWg]
                              exact join133  _ _ _ hP hS hl (fun q => c96 q.2.2.2.1)
                            · refine lv_aload_n hx hb dX9_breaksDepth_99 rfl (lv_at hl 0 rfl) ?_
                              refine r_get (C := RX9) (T := TX9) (N := 34) (ci := 9) hx hb hts hi_X9 hown hK hP 26 rfl (by decide) lk_X9_81 (fun _ h9 => h9) dX9_breaksDepth_100 (by omega) RE_0 rfl ?_
                              refine lv_iload_n hx hb dX9_breaksDepth_103 rfl (lv_at hl 1 rfl) ?_
                              refine r_iald hx hb hK hP 0 rfl dX9_breaksDepth_104 (by omega) rfl (by omega) (by omega) (tD_at (by omega) (by omega)) ?_
                              refine lv_iload hx hb dX9_breaksDepth_105 (lv_at hl 6 rfl) ?_
                              refine r_icmp_eq (tgt := 133) hx hb (by omega) (by omega) dX9_breaksDepth_107 (by decide) (fun c107 => ?_) (fun c107 => ?_)
                              · rw [← hWg]
                                exact join133  _ _ _ hP hS hl (fun q => q.2.2.2.2.1 c107)
                              · refine lv_aload_n hx hb dX9_breaksDepth_110 rfl (lv_at hl 0 rfl) ?_
                                refine lv_iload hx hb dX9_breaksDepth_111 (lv_at hl 6 rfl) ?_
                                refine lv_iload_n hx hb dX9_breaksDepth_113 rfl (lv_at hl 1 rfl) ?_
                                refine lv_iload_n hx hb dX9_breaksDepth_114 rfl (lv_at hl 2 rfl) ?_
                                refine lv_iload_n hx hb dX9_breaksDepth_115 rfl (lv_at hl 3 rfl) ?_
                                refine lv_iload hx hb dX9_breaksDepth_116 (lv_at hl 4 rfl) ?_
                                refine k_calliV (nL := 7) (C := RX9) (T := TX9) (N := 34) (ci := 9) hx hb hml hown hts hK hP hS hl.1 (c_X9_lasts hi hI hR0 ho (by omega) (by omega) (by omega)) rfl (Nat.le_of_ble_eq_true rfl) rfl (cwV 5 hts (gV lm_X9_128 ti_X9_lasts tl_X9_lasts tn_X9 tc_X9_lasts) rfl rfl rfl (by decide +kernel) ⟨Nat.le_of_ble_eq_true rfl, Nat.le_of_ble_eq_true rfl⟩) rfl dX9_breaksDepth_118 ⟨Nat.zero_le _, Nat.zero_le _⟩ (by omega) RE_0 (fun r118 E1 H locs hq hP hS => ?_)
                                obtain ⟨rfl, rfl⟩ := hq
                                refine r_ifB_eq (tgt := 133) hx hb dX9_breaksDepth_121 (by decide) (fun c121 => ?_) (fun c121 => ?_)
                                · rw [← hWg]
                                  exact join133  _ _ _ hP hS hl (fun q => c121 q.2.2.2.2.2)
                                · have hB : B5 σ w d les t p := ⟨⟨by omega, by omega⟩, hp, c47, o, ho.1, ho.2, c53, c64, c80, by omega, c107, c121⟩
                                  refine lv_aload_n hx hb dX9_breaksDepth_124 rfl (lv_at hl 0 rfl) ?_
                                  refine lv_iload hx hb dX9_breaksDepth_125 (lv_at hl 4 rfl) ?_
                                  refine lv_iload hx hb dX9_breaksDepth_127 (lv_at hl 5 rfl) ?_
                                  refine k_calliV (nL := 7) (C := RX9) (T := TX9) (N := 34) (ci := 9) hx hb hml hown hts hK hP hS hl.1 (c_X9_broken hi) rfl (Nat.le_of_ble_eq_true rfl) rfl (cwV 2 hts (gV lm_X9_143 ti_X9_broken tl_X9_broken tn_X9 tc_X9_broken) rfl rfl rfl (by decide +kernel) ⟨Nat.le_of_ble_eq_true rfl, Nat.le_of_ble_eq_true rfl⟩) rfl dX9_breaksDepth_129 ⟨Nat.zero_le _, Nat.zero_le _⟩ (by omega) RE_0 (fun r129 E1 H locs hq hP hS => ?_)
                                  obtain ⟨rfl, rfl⟩ := hq
                                  exact k_zret hx hb hr hlocks hP hS dX9_breaksDepth_132 (by omega) ⟨(bI_t ⟨t, _, hB⟩).symm, _, rfl, fun q => by rw [brk_2.1, brk_2.2]; exact brF hB hno hno2, brk_F FrR_rf⟩
              rw [← hWg]
              exact loop31 _ 0 _ _ _ hP hS hl ⟨by omega, fun o' q1 q2 => by omega⟩ (Nat.lt_succ_self _)
        rw [← hWg]
        exact loop19 _ 0 _ _ _ hP hS hl ⟨by omega, fun p' q1 q2 => by have := q2.2.1.1; omega⟩ (Nat.lt_succ_self _)
  rw [← hWg]
  exact loop3 _ d _ _ _ hP hS hl ⟨by omega, fun t' p q1 q2 => by have := q2.1; unfold inW at this; omega⟩ (Nat.lt_succ_self _)
def bhd (σ : Tb) (w d p o : Int) : Prop := σ 12 w ≠ 3 ∧ σ 21 o < d ∧ d ≤ σ 21 o + σ 6 p
def ahd (σ : Tb) (w d p o : Int) : Prop := σ 12 o ≠ 3 ∧ σ 19 o ≠ 3 ∧ d + σ 14 w - 1 < σ 20 o ∧ σ 20 o ≤ d + σ 14 w - 1 + σ 6 p
abbrev rmX9_breaksRest : Room := { frames := 2, cells := 0, slots := 0, locals := 44 }
set_option maxRecDepth 100000 in
set_option maxHeartbeats 4000000 in
theorem c_X9_breaksRest {l : Launch} {D : va_G} {G : Nat → ClassId} {ad : Nat → Nat} {σ τ : Tb} (hi : kInj 27 ad) {w d : Int} {les : Prop} (hI : Inv σ) (hR : RD σ τ) (hw : 0 ≤ w ∧ w < σ 0 2) (hd : 0 ≤ d) (he : d + σ 14 w - 1 ≤ 399) : Met l yX9_breaksRest wsX9_breaksRest rmX9_breaksRest (kPc D (tysG G) 27 ad (RE G ad σ τ) [.ref (ad 0), .int (iI w), .int (iI d), .int (iI (bI les))]) (kQi D 27 ad (fun z E' => z = bI (ex2 (B6 σ w d les)) ∧ ∃ τ', E' = RE G ad σ τ' ∧ (ex2 (B6 σ w d les) → isFst (B6 σ w d les) (τ' 0 0) (τ' 0 1)) ∧ FrR τ τ')) 0 0 (kA 27 ad) := by
  refine k_met (cc := cX9_breaksRest) (maxL := 9) (ret := (some .boolean)) (by decide) (Nat.le_of_ble_eq_true rfl) ?_
  intro P0 e0 s m0 below meth c0 ls hx hb hr hlocks hml hown hts hK hP hS hl
  replace hl : lv_has ls 9 [(0, _), (1, _), (2, _), (3, _)] := hl
  replace hown : s.vm.findClass RX9 = some m0.cls := hown
  refine k_abs (fun Wg hWg => ?_)
  have h0 := Inv_0 hI
  have hR0 := hR
  obtain ⟨hR2, hR3, hR4⟩ := hR
  obtain ⟨hN, _, _⟩ := Inv_w hI hw
  unfold IN at hN
  refine lv_iload_n hx hb dX9_breaksRest_0 rfl (lv_at hl 2 rfl) ?_
  refine lv_aload_n hx hb dX9_breaksRest_1 rfl (lv_at hl 0 rfl) ?_
  refine r_get (C := RX9) (T := TX9) (N := 34) (ci := 9) hx hb hts hi_X9 hown hK hP 16 rfl (by decide) lk_X9_50 (fun _ h9 => h9) dX9_breaksRest_2 (by omega) RE_0 rfl ?_
  refine lv_iload_n hx hb dX9_breaksRest_5 rfl (lv_at hl 1 rfl) ?_
  refine r_iald hx hb hK hP 0 rfl dX9_breaksRest_6 (by omega) rfl (by omega) (by omega) (tI_at (by omega)) ?_
  refine r_add hx hb dX9_breaksRest_7 ?_
  refine r_const hx hb dX9_breaksRest_8 ?_
  refine r_sub hx hb dX9_breaksRest_9 ?_
  refine lv_istore hx hb dX9_breaksRest_10 hl (by decide) rfl (fun ls hl => ?_)
  replace hl : lv_has ls 9 [(0, _), (1, _), (2, _), (3, _), (4, _)] := lv_sub hl [1, 2, 3, 4, 0] rfl
  refine r_const hx hb dX9_breaksRest_12 ?_
  refine lv_istore hx hb dX9_breaksRest_13 hl (by decide) rfl (fun ls hl => ?_)
  replace hl : lv_has ls 9 [(0, _), (1, _), (2, _), (3, _), (4, _), (5, _)] := lv_sub hl [1, 2, 3, 4, 5, 0] rfl
  have loop15 : ∀ (nn : Nat) (p : Int) (H : Heap) (locs : List Loc) (ls : Array Slot), va_P D vwCl (kw 27 ad (RE G ad σ τ)) H → va_S (kA 27 ad) s.heap H locs → lv_has ls 9 [(0, .ref (ad 0)), (1, .int (iI w)), (2, .int (iI d)), (3, .int (iI (bI les))), (4, .int (iI (d + σ 14 w - 1))), (5, .int (iI p))] → ((0 ≤ p ∧ p ≤ σ 0 0) ∧ (∀ p', p' < p → ¬ B6 σ w d les d p')) → (σ 0 0 - p).toNat < nn → Wg H locs (F0 m0 15 ls []) := by
    intro nn
    induction nn with
    | zero => intro p H locs ls _ _ _ _ hn; omega
    | succ nn ih15 =>
      intro p H locs ls hP hS hl hv15 hn15
      rw [hWg]
      obtain ⟨hv2, hno2⟩ := hv15
      refine lv_iload hx hb dX9_breaksRest_15 (lv_at hl 5 rfl) ?_
      refine lv_aload_n hx hb dX9_breaksRest_17 rfl (lv_at hl 0 rfl) ?_
      refine r_get (C := RX9) (T := TX9) (N := 34) (ci := 9) hx hb hts hi_X9 hown hK hP 6 rfl (by decide) lk_X9_101 (fun _ h9 => h9) dX9_breaksRest_18 (by omega) RE_0 rfl ?_
      refine r_icmp_ge (tgt := 206) hx hb (by omega) (by omega) dX9_breaksRest_21 (by decide) (fun c21 => ?_) (fun c21 => ?_)
      · have hn2 : ¬ ex2 (B6 σ w d les) := fun ⟨a, b, q⟩ => hno2 b (by have := q.2.1.2; omega) (by have e := q.1; rw [e] at q; exact q)
        refine r_const hx hb dX9_breaksRest_206 ?_
        exact k_zret hx hb hr hlocks hP hS dX9_breaksRest_207 (by omega) ⟨(bI_f hn2).symm, τ, rfl, fun q => absurd q hn2, FrR_rf⟩
      · have hp : 0 ≤ p ∧ p < σ 0 0 := by omega
        have hip := Inv_p hI hp
        unfold IP at hip
        have join200 : ∀  (H : Heap) (locs : List Loc) (ls : Array Slot), va_P D vwCl (kw 27 ad (RE G ad σ τ)) H → va_S (kA 27 ad) s.heap H locs → lv_has ls 9 [(0, .ref (ad 0)), (1, .int (iI w)), (2, .int (iI d)), (3, .int (iI (bI les))), (4, .int (iI (d + σ 14 w - 1))), (5, .int (iI p))] → (¬ B6 σ w d les d p) → Wg H locs (F0 m0 200 ls []) := by
          intro  H locs ls hP hS hl hv200
          rw [hWg]
          refine r_iinc hx hb dX9_breaksRest_200 hl (k := 5) rfl (by decide) (fun ls hl => ?_)
          replace hl : lv_has ls 9 [(0, _), (1, _), (2, _), (3, _), (4, _), (5, _)] := lv_sub hl [1, 2, 3, 4, 5, 0] rfl
          refine lv_goto (tgt := 15) hx hb dX9_breaksRest_203 (by decide) ?_
          rw [← hWg]
          exact ih15 (p + 1) _ _ _ hP hS hl ⟨by omega, brI hno2 hv200⟩ (by omega)
        refine r_const hx hb dX9_breaksRest_24 ?_
        refine lv_istore hx hb dX9_breaksRest_25 hl (by decide) rfl (fun ls hl => ?_)
        replace hl : lv_has ls 9 [(0, _), (1, _), (2, _), (3, _), (4, _), (5, _), (6, _)] := lv_sub hl [1, 2, 3, 4, 5, 6, 0] rfl
        have loop27 : ∀ (nn : Nat) (o : Int) (H : Heap) (locs : List Loc) (ls : Array Slot), va_P D vwCl (kw 27 ad (RE G ad σ τ)) H → va_S (kA 27 ad) s.heap H locs → lv_has ls 9 [(0, .ref (ad 0)), (1, .int (iI w)), (2, .int (iI d)), (3, .int (iI (bI les))), (4, .int (iI (d + σ 14 w - 1))), (5, .int (iI p)), (6, .int (iI o))] → ((0 ≤ o ∧ o ≤ σ 0 2) ∧ (∀ o', 0 ≤ o' → o' < o → ¬ B6o σ w d les p o')) → (σ 0 2 - o).toNat < nn → Wg H locs (F0 m0 27 ls []) := by
          intro nn
          induction nn with
          | zero => intro o H locs ls _ _ _ _ hn; omega
          | succ nn ih27 =>
            intro o H locs ls hP hS hl hv27 hn27
            rw [hWg]
            obtain ⟨hv3, hno3⟩ := hv27
            refine lv_iload hx hb dX9_breaksRest_27 (lv_at hl 6 rfl) ?_
            refine lv_aload_n hx hb dX9_breaksRest_29 rfl (lv_at hl 0 rfl) ?_
            refine r_get (C := RX9) (T := TX9) (N := 34) (ci := 9) hx hb hts hi_X9 hown hK hP 28 rfl (by decide) lk_X9_107 (fun _ h9 => h9) dX9_breaksRest_30 (by omega) RE_0 rfl ?_
            refine r_icmp_ge (tgt := 200) hx hb (by omega) (by omega) dX9_breaksRest_33 (by decide) (fun c33 => ?_) (fun c33 => ?_)
            · rw [← hWg]
              exact join200  _ _ _ hP hS (lv_sub hl [0, 1, 2, 3, 4, 5] rfl) (fun ⟨_, _, _, o', q1, q2, q3⟩ => hno3 o' q1 (by omega) q3)
            · have ho : 0 ≤ o ∧ o < σ 0 2 := by omega
              obtain ⟨hNo, _, _⟩ := Inv_w hI ho
              have hBo := IN_b hI ho
              unfold IN at hNo
              have join194 : ∀  (H : Heap) (locs : List Loc) (ls : Array Slot), va_P D vwCl (kw 27 ad (RE G ad σ τ)) H → va_S (kA 27 ad) s.heap H locs → lv_has ls 9 [(0, .ref (ad 0)), (1, .int (iI w)), (2, .int (iI d)), (3, .int (iI (bI les))), (4, .int (iI (d + σ 14 w - 1))), (5, .int (iI p)), (6, .int (iI o))] → (¬ B6o σ w d les p o) → Wg H locs (F0 m0 194 ls []) := by
                intro  H locs ls hP hS hl hv194
                rw [hWg]
                have hno4 : ∀ o', 0 ≤ o' → o' < o + 1 → ¬ B6o σ w d les p o' := by
                  intro o' q1 q2 q3
                  rcases (show o' < o ∨ o' = o by omega) with y | y
                  · exact hno3 o' q1 y q3
                  · exact hv194 (y ▸ q3)
                refine r_iinc hx hb dX9_breaksRest_194 hl (k := 6) rfl (by decide) (fun ls hl => ?_)
                replace hl : lv_has ls 9 [(0, _), (1, _), (2, _), (3, _), (4, _), (5, _), (6, _)] := lv_sub hl [1, 2, 3, 4, 5, 6, 0] rfl
                refine lv_goto (tgt := 27) hx hb dX9_breaksRest_197 (by decide) ?_
                rw [← hWg]
                exact ih27 (o + 1) _ _ _ hP hS hl ⟨by omega, hno4⟩ (by omega)
              refine lv_aload_n hx hb dX9_breaksRest_36 rfl (lv_at hl 0 rfl) ?_
              refine lv_iload_n hx hb dX9_breaksRest_37 rfl (lv_at hl 1 rfl) ?_
              refine lv_iload hx hb dX9_breaksRest_38 (lv_at hl 5 rfl) ?_
              refine k_calliV (nL := 9) (C := RX9) (T := TX9) (N := 34) (ci := 9) hx hb hml hown hts hK hP hS hl.1 (c_X9_isOn hi hI hw (p := p) (by omega)) rfl (Nat.le_of_ble_eq_true rfl) rfl (cwV 2 hts (gV lm_X9_117 ti_X9_isOn tl_X9_isOn tn_X9 tc_X9_isOn) rfl rfl rfl (by decide +kernel) ⟨Nat.le_of_ble_eq_true rfl, Nat.le_of_ble_eq_true rfl⟩) rfl dX9_breaksRest_40 ⟨Nat.zero_le _, Nat.zero_le _⟩ (by omega) RE_0 (fun r40 E1 H locs hq hP hS => ?_)
              obtain ⟨rfl, rfl⟩ := hq
              refine r_ifB_eq (tgt := 200) hx hb dX9_breaksRest_43 (by decide) (fun c43 => ?_) (fun c43 => ?_)
              · rw [← hWg]
                exact join200  _ _ _ hP hS (lv_sub hl [0, 1, 2, 3, 4, 5] rfl) (fun q => c43 q.2.2.1)
              · refine lv_aload_n hx hb dX9_breaksRest_46 rfl (lv_at hl 0 rfl) ?_
                refine lv_iload hx hb dX9_breaksRest_47 (lv_at hl 6 rfl) ?_
                refine lv_iload_n hx hb dX9_breaksRest_49 rfl (lv_at hl 1 rfl) ?_
                refine lv_iload_n hx hb dX9_breaksRest_50 rfl (lv_at hl 3 rfl) ?_
                refine k_calliV (nL := 9) (C := RX9) (T := TX9) (N := 34) (ci := 9) hx hb hml hown hts hK hP hS hl.1 (c_X9_counts hi hI ho (w := w) (by omega)) rfl (Nat.le_of_ble_eq_true rfl) rfl (cwV 3 hts (gV lm_X9_124 ti_X9_counts tl_X9_counts tn_X9 tc_X9_counts) rfl rfl rfl (by decide +kernel) ⟨Nat.le_of_ble_eq_true rfl, Nat.le_of_ble_eq_true rfl⟩) rfl dX9_breaksRest_51 ⟨Nat.zero_le _, Nat.zero_le _⟩ (by omega) RE_0 (fun r51 E1 H locs hq hP hS => ?_)
                obtain ⟨rfl, rfl⟩ := hq
                refine r_ifB_eq (tgt := 194) hx hb dX9_breaksRest_54 (by decide) (fun c54 => ?_) (fun c54 => ?_)
                · rw [← hWg]
                  exact join194  _ _ _ hP hS hl (fun q => c54 q.1)
                · refine lv_aload_n hx hb dX9_breaksRest_57 rfl (lv_at hl 0 rfl) ?_
                  refine lv_iload hx hb dX9_breaksRest_58 (lv_at hl 6 rfl) ?_
                  refine lv_iload hx hb dX9_breaksRest_60 (lv_at hl 5 rfl) ?_
                  refine k_calliV (nL := 9) (C := RX9) (T := TX9) (N := 34) (ci := 9) hx hb hml hown hts hK hP hS hl.1 (c_X9_isOn hi hI ho (p := p) (by omega)) rfl (Nat.le_of_ble_eq_true rfl) rfl (cwV 2 hts (gV lm_X9_117 ti_X9_isOn tl_X9_isOn tn_X9 tc_X9_isOn) rfl rfl rfl (by decide +kernel) ⟨Nat.le_of_ble_eq_true rfl, Nat.le_of_ble_eq_true rfl⟩) rfl dX9_breaksRest_62 ⟨Nat.zero_le _, Nat.zero_le _⟩ (by omega) RE_0 (fun r62 E1 H locs hq hP hS => ?_)
                  obtain ⟨rfl, rfl⟩ := hq
                  refine r_ifB_eq (tgt := 194) hx hb dX9_breaksRest_65 (by decide) (fun c65 => ?_) (fun c65 => ?_)
                  · rw [← hWg]
                    exact join194  _ _ _ hP hS hl (fun q => c65 q.2.1)
                  · have join113 : ∀ (x : Int) (H : Heap) (locs : List Loc) (ls : Array Slot), va_P D vwCl (kw 27 ad (RE G ad σ τ)) H → va_S (kA 27 ad) s.heap H locs → lv_has ls 9 [(0, .ref (ad 0)), (1, .int (iI w)), (2, .int (iI d)), (3, .int (iI (bI les))), (4, .int (iI (d + σ 14 w - 1))), (5, .int (iI p)), (6, .int (iI o))] → ((x = 1 ∧ bhd σ w d p o) ∨ (x = 0 ∧ ¬ bhd σ w d p o)) → Wg H locs (F0 m0 113 ls [.int (iI x)]) := by
                      intro x H locs ls hP hS hl hv113
                      rw [hWg]
                      have join174 : ∀ (y : Int) (H : Heap) (locs : List Loc) (ls : Array Slot), va_P D vwCl (kw 27 ad (RE G ad σ τ)) H → va_S (kA 27 ad) s.heap H locs → lv_has ls 9 [(0, .ref (ad 0)), (1, .int (iI w)), (2, .int (iI d)), (3, .int (iI (bI les))), (4, .int (iI (d + σ 14 w - 1))), (5, .int (iI p)), (6, .int (iI o)), (7, .int (iI x))] → ((y = 1 ∧ ahd σ w d p o) ∨ (y = 0 ∧ ¬ ahd σ w d p o)) → Wg H locs (F0 m0 174 ls [.int (iI y)]) := by
                        intro y H locs ls hP hS hl hv174
                        rw [hWg]
                        have join186 : ∀  (H : Heap) (locs : List Loc) (ls : Array Slot), va_P D vwCl (kw 27 ad (RE G ad σ τ)) H → va_S (kA 27 ad) s.heap H locs → lv_has ls 9 [(0, .ref (ad 0)), (1, .int (iI w)), (2, .int (iI d)), (3, .int (iI (bI les))), (4, .int (iI (d + σ 14 w - 1))), (5, .int (iI p)), (6, .int (iI o))] → (bhd σ w d p o ∨ ahd σ w d p o) → Wg H locs (F0 m0 186 ls []) := by
                          intro  H locs ls hP hS hl hv186
                          rw [hWg]
                          have hB : B6 σ w d les d p := ⟨rfl, hp, c43, o, ho.1, ho.2, c54, c65, hv186⟩
                          refine lv_aload_n hx hb dX9_breaksRest_186 rfl (lv_at hl 0 rfl) ?_
                          refine lv_iload_n hx hb dX9_breaksRest_187 rfl (lv_at hl 2 rfl) ?_
                          refine lv_iload hx hb dX9_breaksRest_188 (lv_at hl 5 rfl) ?_
                          refine k_calliV (nL := 9) (C := RX9) (T := TX9) (N := 34) (ci := 9) hx hb hml hown hts hK hP hS hl.1 (c_X9_broken hi) rfl (Nat.le_of_ble_eq_true rfl) rfl (cwV 2 hts (gV lm_X9_143 ti_X9_broken tl_X9_broken tn_X9 tc_X9_broken) rfl rfl rfl (by decide +kernel) ⟨Nat.le_of_ble_eq_true rfl, Nat.le_of_ble_eq_true rfl⟩) rfl dX9_breaksRest_190 ⟨Nat.zero_le _, Nat.zero_le _⟩ (by omega) RE_0 (fun r190 E1 H locs hq hP hS => ?_)
                          obtain ⟨rfl, rfl⟩ := hq
                          exact k_zret hx hb hr hlocks hP hS dX9_breaksRest_193 (by omega) ⟨(bI_t ⟨d, _, hB⟩).symm, _, rfl, fun q => by rw [brk_2.1, brk_2.2]; exact brF hB (fun t' p' y1 y2 => by have := y2.1; omega) hno2, brk_F FrR_rf⟩
                        refine lv_istore hx hb dX9_breaksRest_174 hl (by decide) rfl (fun ls hl => ?_)
                        replace hl : lv_has ls 9 [(0, _), (1, _), (2, _), (3, _), (4, _), (5, _), (6, _), (7, _), (8, _)] := lv_sub hl [1, 2, 3, 4, 5, 6, 7, 8, 0] rfl
                        refine lv_iload hx hb dX9_breaksRest_176 (lv_at hl 7 rfl) ?_
                        refine r_if_ne (tgt := 186) hx hb (by omega) dX9_breaksRest_178 (by decide) (fun c178 => ?_) (fun c178 => ?_)
                        · have e : bhd σ w d p o := by rcases hv113 with y | y; exact y.2; omega
                          rw [← hWg]
                          exact join186  _ _ _ hP hS (lv_sub hl [0, 1, 2, 3, 4, 5, 6] rfl) (Or.inl e)
                        · have e : ¬ bhd σ w d p o := by rcases hv113 with y | y; omega; exact y.2
                          refine lv_iload hx hb dX9_breaksRest_181 (lv_at hl 8 rfl) ?_
                          refine r_if_eq (tgt := 194) hx hb (by omega) dX9_breaksRest_183 (by decide) (fun c183 => ?_) (fun c183 => ?_)
                          · have e2 : ¬ ahd σ w d p o := by rcases hv174 with y | y; omega; exact y.2
                            rw [← hWg]
                            exact join194  _ _ _ hP hS (lv_sub hl [0, 1, 2, 3, 4, 5, 6] rfl) (fun q => q.2.2.elim e e2)
                          · have e2 : ahd σ w d p o := by rcases hv174 with y | y; exact y.2; omega
                            rw [← hWg]
                            exact join186  _ _ _ hP hS (lv_sub hl [0, 1, 2, 3, 4, 5, 6] rfl) (Or.inr e2)
                      refine lv_istore hx hb dX9_breaksRest_113 hl (by decide) rfl (fun ls hl => ?_)
                      replace hl : lv_has ls 9 [(0, _), (1, _), (2, _), (3, _), (4, _), (5, _), (6, _), (7, _)] := lv_sub hl [1, 2, 3, 4, 5, 6, 7, 0] rfl
                      refine lv_aload_n hx hb dX9_breaksRest_115 rfl (lv_at hl 0 rfl) ?_
                      refine r_get (C := RX9) (T := TX9) (N := 34) (ci := 9) hx hb hts hi_X9 hown hK hP 14 rfl (by decide) lk_X9_44 (fun _ h9 => h9) dX9_breaksRest_116 (by omega) RE_0 rfl ?_
                      refine lv_iload hx hb dX9_breaksRest_119 (lv_at hl 6 rfl) ?_
                      refine r_iald hx hb hK hP 0 rfl dX9_breaksRest_121 (by omega) rfl (by omega) (by omega) (tI_at (by omega)) ?_
                      refine r_const hx hb dX9_breaksRest_122 ?_
                      refine r_icmp_eq (tgt := 173) hx hb (by omega) (by omega) dX9_breaksRest_123 (by decide) (fun c123 => ?_) (fun c123 => ?_)
                      · refine r_const hx hb dX9_breaksRest_173 ?_
                        rw [← hWg]
                        exact join174 0 _ _ _ hP hS hl (Or.inr ⟨rfl, fun q => q.1 c123⟩)
                      · refine lv_aload_n hx hb dX9_breaksRest_126 rfl (lv_at hl 0 rfl) ?_
                        refine r_get (C := RX9) (T := TX9) (N := 34) (ci := 9) hx hb hts hi_X9 hown hK hP 22 rfl (by decide) lk_X9_69 (fun _ h9 => h9) dX9_breaksRest_127 (by omega) RE_0 rfl ?_
                        refine lv_iload hx hb dX9_breaksRest_130 (lv_at hl 6 rfl) ?_
                        refine r_iald hx hb hK hP 0 rfl dX9_breaksRest_132 (by omega) rfl (by omega) (by omega) (tI_at (by omega)) ?_
                        refine r_const hx hb dX9_breaksRest_133 ?_
                        refine r_icmp_eq (tgt := 173) hx hb (by omega) (by omega) dX9_breaksRest_134 (by decide) (fun c134 => ?_) (fun c134 => ?_)
                        · refine r_const hx hb dX9_breaksRest_173 ?_
                          rw [← hWg]
                          exact join174 0 _ _ _ hP hS hl (Or.inr ⟨rfl, fun q => q.2.1 c134⟩)
                        · refine lv_aload_n hx hb dX9_breaksRest_137 rfl (lv_at hl 0 rfl) ?_
                          refine r_get (C := RX9) (T := TX9) (N := 34) (ci := 9) hx hb hts hi_X9 hown hK hP 23 rfl (by decide) lk_X9_72 (fun _ h9 => h9) dX9_breaksRest_138 (by omega) RE_0 rfl ?_
                          refine lv_iload hx hb dX9_breaksRest_141 (lv_at hl 6 rfl) ?_
                          refine r_iald hx hb hK hP 0 rfl dX9_breaksRest_143 (by omega) rfl (by omega) (by omega) (tD_at (by omega) (by omega)) ?_
                          refine lv_iload hx hb dX9_breaksRest_144 (lv_at hl 4 rfl) ?_
                          refine r_icmp_le (tgt := 173) hx hb (by omega) (by omega) dX9_breaksRest_146 (by decide) (fun c146 => ?_) (fun c146 => ?_)
                          · refine r_const hx hb dX9_breaksRest_173 ?_
                            rw [← hWg]
                            exact join174 0 _ _ _ hP hS hl (Or.inr ⟨rfl, fun q => by have := q.2.2.1; omega⟩)
                          · refine lv_aload_n hx hb dX9_breaksRest_149 rfl (lv_at hl 0 rfl) ?_
                            refine r_get (C := RX9) (T := TX9) (N := 34) (ci := 9) hx hb hts hi_X9 hown hK hP 23 rfl (by decide) lk_X9_72 (fun _ h9 => h9) dX9_breaksRest_150 (by omega) RE_0 rfl ?_
                            refine lv_iload hx hb dX9_breaksRest_153 (lv_at hl 6 rfl) ?_
                            refine r_iald hx hb hK hP 0 rfl dX9_breaksRest_155 (by omega) rfl (by omega) (by omega) (tD_at (by omega) (by omega)) ?_
                            refine lv_iload hx hb dX9_breaksRest_156 (lv_at hl 4 rfl) ?_
                            refine lv_aload_n hx hb dX9_breaksRest_158 rfl (lv_at hl 0 rfl) ?_
                            refine r_get (C := RX9) (T := TX9) (N := 34) (ci := 9) hx hb hts hi_X9 hown hK hP 5 rfl (by decide) lk_X9_25 (fun _ h9 => h9) dX9_breaksRest_159 (by omega) RE_0 rfl ?_
                            refine lv_iload hx hb dX9_breaksRest_162 (lv_at hl 5 rfl) ?_
                            refine r_iald hx hb hK hP 0 rfl dX9_breaksRest_164 (by omega) rfl (by omega) (by omega) (tI_at (by omega)) ?_
                            refine r_add hx hb dX9_breaksRest_165 ?_
                            refine r_icmp_gt (tgt := 173) hx hb (by omega) (by omega) dX9_breaksRest_166 (by decide) (fun c166 => ?_) (fun c166 => ?_)
                            · refine r_const hx hb dX9_breaksRest_173 ?_
                              rw [← hWg]
                              exact join174 0 _ _ _ hP hS hl (Or.inr ⟨rfl, fun q => by have := q.2.2.2; omega⟩)
                            · refine r_const hx hb dX9_breaksRest_169 ?_
                              refine lv_goto (tgt := 174) hx hb dX9_breaksRest_170 (by decide) ?_
                              rw [← hWg]
                              exact join174 1 _ _ _ hP hS hl (Or.inl ⟨rfl, c123, c134, by omega, by omega⟩)
                    refine lv_aload_n hx hb dX9_breaksRest_68 rfl (lv_at hl 0 rfl) ?_
                    refine r_get (C := RX9) (T := TX9) (N := 34) (ci := 9) hx hb hts hi_X9 hown hK hP 14 rfl (by decide) lk_X9_44 (fun _ h9 => h9) dX9_breaksRest_69 (by omega) RE_0 rfl ?_
                    refine lv_iload_n hx hb dX9_breaksRest_72 rfl (lv_at hl 1 rfl) ?_
                    refine r_iald hx hb hK hP 0 rfl dX9_breaksRest_73 (by omega) rfl (by omega) (by omega) (tI_at (by omega)) ?_
                    refine r_const hx hb dX9_breaksRest_74 ?_
                    refine r_icmp_eq (tgt := 112) hx hb (by omega) (by omega) dX9_breaksRest_75 (by decide) (fun c75 => ?_) (fun c75 => ?_)
                    · refine r_const hx hb dX9_breaksRest_112 ?_
                      rw [← hWg]
                      exact join113 0 _ _ _ hP hS hl (Or.inr ⟨rfl, fun q => q.1 c75⟩)
                    · refine lv_aload_n hx hb dX9_breaksRest_78 rfl (lv_at hl 0 rfl) ?_
                      refine r_get (C := RX9) (T := TX9) (N := 34) (ci := 9) hx hb hts hi_X9 hown hK hP 24 rfl (by decide) lk_X9_75 (fun _ h9 => h9) dX9_breaksRest_79 (by omega) RE_0 rfl ?_
                      refine lv_iload hx hb dX9_breaksRest_82 (lv_at hl 6 rfl) ?_
                      refine r_iald hx hb hK hP 0 rfl dX9_breaksRest_84 (by omega) rfl (by omega) (by omega) (tD_at (by omega) (by omega)) ?_
                      refine lv_iload_n hx hb dX9_breaksRest_85 rfl (lv_at hl 2 rfl) ?_
                      refine r_icmp_ge (tgt := 112) hx hb (by omega) (by omega) dX9_breaksRest_86 (by decide) (fun c86 => ?_) (fun c86 => ?_)
                      · refine r_const hx hb dX9_breaksRest_112 ?_
                        rw [← hWg]
                        exact join113 0 _ _ _ hP hS hl (Or.inr ⟨rfl, fun q => by have := q.2.1; omega⟩)
                      · refine lv_aload_n hx hb dX9_breaksRest_89 rfl (lv_at hl 0 rfl) ?_
                        refine r_get (C := RX9) (T := TX9) (N := 34) (ci := 9) hx hb hts hi_X9 hown hK hP 24 rfl (by decide) lk_X9_75 (fun _ h9 => h9) dX9_breaksRest_90 (by omega) RE_0 rfl ?_
                        refine lv_iload hx hb dX9_breaksRest_93 (lv_at hl 6 rfl) ?_
                        refine r_iald hx hb hK hP 0 rfl dX9_breaksRest_95 (by omega) rfl (by omega) (by omega) (tD_at (by omega) (by omega)) ?_
                        refine lv_aload_n hx hb dX9_breaksRest_96 rfl (lv_at hl 0 rfl) ?_
                        refine r_get (C := RX9) (T := TX9) (N := 34) (ci := 9) hx hb hts hi_X9 hown hK hP 5 rfl (by decide) lk_X9_25 (fun _ h9 => h9) dX9_breaksRest_97 (by omega) RE_0 rfl ?_
                        refine lv_iload hx hb dX9_breaksRest_100 (lv_at hl 5 rfl) ?_
                        refine r_iald hx hb hK hP 0 rfl dX9_breaksRest_102 (by omega) rfl (by omega) (by omega) (tI_at (by omega)) ?_
                        refine r_add hx hb dX9_breaksRest_103 ?_
                        refine lv_iload_n hx hb dX9_breaksRest_104 rfl (lv_at hl 2 rfl) ?_
                        refine r_icmp_lt (tgt := 112) hx hb (by omega) (by omega) dX9_breaksRest_105 (by decide) (fun c105 => ?_) (fun c105 => ?_)
                        · refine r_const hx hb dX9_breaksRest_112 ?_
                          rw [← hWg]
                          exact join113 0 _ _ _ hP hS hl (Or.inr ⟨rfl, fun q => by have := q.2.2; omega⟩)
                        · refine r_const hx hb dX9_breaksRest_108 ?_
                          refine lv_goto (tgt := 113) hx hb dX9_breaksRest_109 (by decide) ?_
                          rw [← hWg]
                          exact join113 1 _ _ _ hP hS hl (Or.inl ⟨rfl, c75, by omega, by omega⟩)
        rw [← hWg]
        exact loop27 _ 0 _ _ _ hP hS hl ⟨by omega, fun o' q1 q2 => by omega⟩ (Nat.lt_succ_self _)
  rw [← hWg]
  exact loop15 _ 0 _ _ _ hP hS hl ⟨by omega, fun p' q1 q2 => by have := q2.2.1.1; omega⟩ (Nat.lt_succ_self _)
theorem shM_r {σ : Tb} (h : Inv σ) {w d : Int} {les : Prop} {day : Int} : shM σ w d les day < 1099511627776 := msk_40 (P := fun p => σ 3 p ≤ tkn σ p w d les day) (i := σ 0 0) (by have := Inv_0 h; omega)
abbrev rmX9_breaksWays : Room := { frames := 5, cells := 0, slots := 0, locals := 126 }
set_option maxRecDepth 100000 in
set_option maxHeartbeats 4000000 in
theorem c_X9_breaksWays {l : Launch} {D : va_G} {G : Nat → ClassId} {ad : Nat → Nat} {σ τ : Tb} (hi : kInj 27 ad) {w d : Int} {les : Prop} (hI : Inv σ) (hR : RD σ τ) (hw : 0 ≤ w ∧ w < σ 0 2) (hd : 0 ≤ d) (he : d + σ 14 w - 1 ≤ 399) : Met l yX9_breaksWays wsX9_breaksWays rmX9_breaksWays (kPc D (tysG G) 27 ad (RE G ad σ τ) [.ref (ad 0), .int (iI w), .int (iI d), .int (iI (bI les))]) (kQi D 27 ad (fun z E' => z = bI (ex2 (B7 σ w d les)) ∧ ∃ τ', E' = RE G ad σ τ' ∧ (ex2 (B7 σ w d les) → isFst (B7 σ w d les) (τ' 0 0) (τ' 0 1)) ∧ FrR τ τ')) 0 0 (kA 27 ad) := by
  refine k_met (cc := cX9_breaksWays) (maxL := 10) (ret := (some .boolean)) (by decide) (Nat.le_of_ble_eq_true rfl) ?_
  intro P0 e0 s m0 below meth c0 ls hx hb hr hlocks hml hown hts hK hP hS hl
  replace hl : lv_has ls 10 [(0, _), (1, _), (2, _), (3, _)] := hl
  replace hown : s.vm.findClass RX9 = some m0.cls := hown
  refine k_abs (fun Wg hWg => ?_)
  have h0 := Inv_0 hI
  obtain ⟨hN, _, _⟩ := Inv_w hI hw
  unfold IN at hN
  refine lv_iload_n hx hb dX9_breaksWays_0 rfl (lv_at hl 2 rfl) ?_
  refine lv_istore hx hb dX9_breaksWays_1 hl (by decide) rfl (fun ls hl => ?_)
  replace hl : lv_has ls 10 [(0, _), (1, _), (2, _), (3, _), (4, _)] := lv_sub hl [1, 2, 3, 4, 0] rfl
  have loop3 : ∀ (nn : Nat) (t : Int) (τ1 : Tb) (H : Heap) (locs : List Loc) (ls : Array Slot), va_P D vwCl (kw 27 ad (RE G ad σ τ1)) H → va_S (kA 27 ad) s.heap H locs → lv_has ls 10 [(0, .ref (ad 0)), (1, .int (iI w)), (2, .int (iI d)), (3, .int (iI (bI les))), (4, .int (iI t))] → ((d ≤ t ∧ t ≤ d + σ 14 w) ∧ (∀ t' p, t' < t → ¬ B7 σ w d les t' p) ∧ FrR τ τ1) → (d + σ 14 w - t).toNat < nn → Wg H locs (F0 m0 3 ls []) := by
    intro nn
    induction nn with
    | zero => intro t τ1 H locs ls _ _ _ _ hn; omega
    | succ nn ih3 =>
      intro t τ1 H locs ls hP hS hl hv3 hn3
      rw [hWg]
      obtain ⟨hv, hno, hF⟩ := hv3
      have hR1 := FrR_D hF hR
      refine lv_iload hx hb dX9_breaksWays_3 (lv_at hl 4 rfl) ?_
      refine lv_iload_n hx hb dX9_breaksWays_5 rfl (lv_at hl 2 rfl) ?_
      refine lv_aload_n hx hb dX9_breaksWays_6 rfl (lv_at hl 0 rfl) ?_
      refine r_get (C := RX9) (T := TX9) (N := 34) (ci := 9) hx hb hts hi_X9 hown hK hP 16 rfl (by decide) lk_X9_50 (fun _ h9 => h9) dX9_breaksWays_7 (by omega) RE_0 rfl ?_
      refine lv_iload_n hx hb dX9_breaksWays_10 rfl (lv_at hl 1 rfl) ?_
      refine r_iald hx hb hK hP 0 rfl dX9_breaksWays_11 (by omega) rfl (by omega) (by omega) (tI_at (by omega)) ?_
      refine r_add hx hb dX9_breaksWays_12 ?_
      refine r_icmp_ge (tgt := 139) hx hb (by omega) (by omega) dX9_breaksWays_13 (by decide) (fun c13 => ?_) (fun c13 => ?_)
      · have hn2 : ¬ ex2 (B7 σ w d les) := fun ⟨a, b, q⟩ => hno a b (by have := q.1; unfold inW at this; omega) q
        refine r_const hx hb dX9_breaksWays_139 ?_
        exact k_zret hx hb hr hlocks hP hS dX9_breaksWays_140 (by omega) ⟨(bI_f hn2).symm, τ1, rfl, fun q => absurd q hn2, hF⟩
      · refine lv_aload_n hx hb dX9_breaksWays_16 rfl (lv_at hl 0 rfl) ?_
        refine lv_iload_n hx hb dX9_breaksWays_17 rfl (lv_at hl 1 rfl) ?_
        refine r_const hx hb dX9_breaksWays_18 ?_
        refine lv_iload_n hx hb dX9_breaksWays_19 rfl (lv_at hl 3 rfl) ?_
        refine lv_iload hx hb dX9_breaksWays_20 (lv_at hl 4 rfl) ?_
        refine k_calllV (nL := 10) (C := RX9) (T := TX9) (N := 34) (ci := 9) hx hb hml hown hts hK hP hS hl.1 (c_X9_shutOn hi hI hR1 (w := w) (d := -1) (les := les) (day := t) (by omega) (by omega) (by omega)) rfl (Nat.le_of_ble_eq_true rfl) rfl (cwV 4 hts (gV lm_X9_146 ti_X9_shutOn tl_X9_shutOn tn_X9 tc_X9_shutOn) rfl rfl rfl (by decide +kernel) ⟨Nat.le_of_ble_eq_true rfl, Nat.le_of_ble_eq_true rfl⟩) rfl dX9_breaksWays_22 ⟨Nat.zero_le _, Nat.zero_le _⟩ (by omega) RE_0 (fun r22 E1 H locs hq hP hS => ?_)
        obtain ⟨rfl, rfl⟩ := hq
        refine lv_lstore hx hb dX9_breaksWays_25 hl (by decide) rfl (fun ls hl => ?_)
        replace hl : lv_has ls 10 [(0, _), (1, _), (2, _), (3, _), (4, _), (5, _)] := lv_sub hl [1, 2, 3, 4, 5, 0] rfl
        refine lv_aload_n hx hb dX9_breaksWays_27 rfl (lv_at hl 0 rfl) ?_
        refine lv_iload_n hx hb dX9_breaksWays_28 rfl (lv_at hl 1 rfl) ?_
        refine lv_iload_n hx hb dX9_breaksWays_29 rfl (lv_at hl 2 rfl) ?_
        refine lv_iload_n hx hb dX9_breaksWays_30 rfl (lv_at hl 3 rfl) ?_
        refine lv_iload hx hb dX9_breaksWays_31 (lv_at hl 4 rfl) ?_
        refine k_calllV (nL := 10) (C := RX9) (T := TX9) (N := 34) (ci := 9) hx hb hml hown hts hK hP hS hl.1 (c_X9_shutOn hi hI hR1 (w := w) (d := d) (les := les) (day := t) (by omega) (by omega) (by omega)) rfl (Nat.le_of_ble_eq_true rfl) rfl (cwV 4 hts (gV lm_X9_146 ti_X9_shutOn tl_X9_shutOn tn_X9 tc_X9_shutOn) rfl rfl rfl (by decide +kernel) ⟨Nat.le_of_ble_eq_true rfl, Nat.le_of_ble_eq_true rfl⟩) rfl dX9_breaksWays_33 ⟨Nat.zero_le _, Nat.zero_le _⟩ (by omega) RE_0 (fun r33 E1 H locs hq hP hS => ?_)
        obtain ⟨rfl, rfl⟩ := hq
        have hS1 := shM_r hI (w := w) (d := -1) (les := les) (day := t)
        have hS2 := shM_r hI (w := w) (d := d) (les := les) (day := t)
        refine lv_lstore hx hb dX9_breaksWays_36 hl (by decide) rfl (fun ls hl => ?_)
        replace hl : lv_has ls 10 [(0, _), (1, _), (2, _), (3, _), (4, _), (5, _), (7, _)] := lv_sub hl [1, 2, 3, 4, 5, 6, 0] rfl
        refine r_const hx hb dX9_breaksWays_38 ?_
        refine lv_istore hx hb dX9_breaksWays_39 hl (by decide) rfl (fun ls hl => ?_)
        replace hl : lv_has ls 10 [(0, _), (1, _), (2, _), (3, _), (4, _), (5, _), (7, _), (9, _)] := lv_sub hl [1, 2, 3, 4, 5, 6, 7, 0] rfl
        have loop41 : ∀ (nn : Nat) (k : Int) (τ2 : Tb) (H : Heap) (locs : List Loc) (ls : Array Slot), va_P D vwCl (kw 27 ad (RE G ad σ τ2)) H → va_S (kA 27 ad) s.heap H locs → lv_has ls 10 [(0, .ref (ad 0)), (1, .int (iI w)), (2, .int (iI d)), (3, .int (iI (bI les))), (4, .int (iI t)), (5, .long (lN (shM σ w (-1) les t))), (7, .long (lN (shM σ w d les t))), (9, .int (iI k))] → ((0 ≤ k ∧ k ≤ σ 0 1) ∧ (∀ k', k' < k → ¬ B7 σ w d les t k') ∧ FrR τ τ2) → (σ 0 1 - k).toNat < nn → Wg H locs (F0 m0 41 ls []) := by
          intro nn
          induction nn with
          | zero => intro k τ2 H locs ls _ _ _ _ hn; omega
          | succ nn ih41 =>
            intro k τ2 H locs ls hP hS hl hv41 hn41
            rw [hWg]
            obtain ⟨hv2, hno2, hF2⟩ := hv41
            refine lv_iload hx hb dX9_breaksWays_41 (lv_at hl 7 rfl) ?_
            refine lv_aload_n hx hb dX9_breaksWays_43 rfl (lv_at hl 0 rfl) ?_
            refine r_get (C := RX9) (T := TX9) (N := 34) (ci := 9) hx hb hts hi_X9 hown hK hP 10 rfl (by decide) lk_X9_104 (fun _ h9 => h9) dX9_breaksWays_44 (by omega) RE_0 rfl ?_
            refine r_icmp_ge (tgt := 133) hx hb (by omega) (by omega) dX9_breaksWays_47 (by decide) (fun c47 => ?_) (fun c47 => ?_)
            · refine r_iinc hx hb dX9_breaksWays_133 hl (k := 4) rfl (by decide) (fun ls hl => ?_)
              replace hl : lv_has ls 10 [(0, _), (1, _), (2, _), (3, _), (4, _), (5, _), (7, _), (9, _)] := lv_sub hl [1, 2, 3, 4, 0, 5, 6, 7] rfl
              refine lv_goto (tgt := 3) hx hb dX9_breaksWays_136 (by decide) ?_
              rw [← hWg]
              exact ih3 (t + 1) _ _ _ _ hP hS (lv_sub hl [0, 1, 2, 3, 4] rfl) ⟨by omega, brS hno hno2 (fun p' q => by have := q.2.2.1; omega), hF2⟩ (by omega)
            · refine lv_lload hx hb dX9_breaksWays_50 (lv_at hl 6 rfl) ?_
              refine lv_lload hx hb dX9_breaksWays_52 (lv_at hl 5 rfl) ?_
              refine r_lcmp hx hb dX9_breaksWays_54 (by omega) (by omega) ?_
              refine r_if_eq (tgt := 133) hx hb (cmpN_r _ _) dX9_breaksWays_55 (by decide) (fun c55 => ?_) (fun c55 => ?_)
              · have he2 := cmpN_0.mp c55
                have hno3 : ∀ k', k' < σ 0 1 → ¬ B7 σ w d les t k' := fun k' _ q => by
                  have q1 := q.2.2.2.1
                  have q2 := q.2.2.2.2
                  rw [he2] at q1
                  omega
                refine r_iinc hx hb dX9_breaksWays_133 hl (k := 4) rfl (by decide) (fun ls hl => ?_)
                replace hl : lv_has ls 10 [(0, _), (1, _), (2, _), (3, _), (4, _), (5, _), (7, _), (9, _)] := lv_sub hl [1, 2, 3, 4, 0, 5, 6, 7] rfl
                refine lv_goto (tgt := 3) hx hb dX9_breaksWays_136 (by decide) ?_
                rw [← hWg]
                exact ih3 (t + 1) _ _ _ _ hP hS (lv_sub hl [0, 1, 2, 3, 4] rfl) ⟨by omega, brS hno hno3 (fun p' q => q.2.2.1), hF2⟩ (by omega)
              · have hir := Inv_r hI (k := k) (by omega)
                unfold IR at hir
                have hd1 := dst_r hI (S := shM σ w d les t) (a := σ 7 k) (b := σ 8 k) (by omega) (by omega)
                have hd2 := dst_r hI (S := shM σ w (-1) les t) (a := σ 7 k) (b := σ 8 k) (by omega) (by omega)
                have join127 : ∀ (τ3 : Tb) (H : Heap) (locs : List Loc) (ls : Array Slot), va_P D vwCl (kw 27 ad (RE G ad σ τ3)) H → va_S (kA 27 ad) s.heap H locs → lv_has ls 10 [(0, .ref (ad 0)), (1, .int (iI w)), (2, .int (iI d)), (3, .int (iI (bI les))), (4, .int (iI t)), (5, .long (lN (shM σ w (-1) les t))), (7, .long (lN (shM σ w d les t))), (9, .int (iI k))] → (FrR τ τ3 ∧ ¬ B7 σ w d les t k) → Wg H locs (F0 m0 127 ls []) := by
                  intro τ3 H locs ls hP hS hl hv127
                  rw [hWg]
                  refine r_iinc hx hb dX9_breaksWays_127 hl (k := 7) rfl (by decide) (fun ls hl => ?_)
                  replace hl : lv_has ls 10 [(0, _), (1, _), (2, _), (3, _), (4, _), (5, _), (7, _), (9, _)] := lv_sub hl [1, 2, 3, 4, 5, 6, 7, 0] rfl
                  refine lv_goto (tgt := 41) hx hb dX9_breaksWays_130 (by decide) ?_
                  rw [← hWg]
                  exact ih41 (k + 1) _ _ _ _ hP hS hl ⟨by omega, brI hno2 hv127.2, hv127.1⟩ (by omega)
                refine lv_aload_n hx hb dX9_breaksWays_58 rfl (lv_at hl 0 rfl) ?_
                refine lv_aload_n hx hb dX9_breaksWays_59 rfl (lv_at hl 0 rfl) ?_
                refine r_get (C := RX9) (T := TX9) (N := 34) (ci := 9) hx hb hts hi_X9 hown hK hP 7 rfl (by decide) lk_X9_28 (fun _ h9 => h9) dX9_breaksWays_60 (by omega) RE_0 rfl ?_
                refine lv_iload hx hb dX9_breaksWays_63 (lv_at hl 7 rfl) ?_
                refine r_iald hx hb hK hP 0 rfl dX9_breaksWays_65 (by omega) rfl (by omega) (by omega) (tI_at (by omega)) ?_
                refine lv_aload_n hx hb dX9_breaksWays_66 rfl (lv_at hl 0 rfl) ?_
                refine r_get (C := RX9) (T := TX9) (N := 34) (ci := 9) hx hb hts hi_X9 hown hK hP 8 rfl (by decide) lk_X9_31 (fun _ h9 => h9) dX9_breaksWays_67 (by omega) RE_0 rfl ?_
                refine lv_iload hx hb dX9_breaksWays_70 (lv_at hl 7 rfl) ?_
                refine r_iald hx hb hK hP 0 rfl dX9_breaksWays_72 (by omega) rfl (by omega) (by omega) (tI_at (by omega)) ?_
                refine lv_lload hx hb dX9_breaksWays_73 (lv_at hl 6 rfl) ?_
                refine k_calliV (nL := 10) (C := RX9) (T := TX9) (N := 34) (ci := 9) hx hb hml hown hts hK hP hS hl.1 (c_X9_minutesOf hi hI (a := σ 7 k) (b := σ 8 k) (by omega) (by omega) hS2) rfl (Nat.le_of_ble_eq_true rfl) rfl (cwV 3 hts (gV lm_X9_150 ti_X9_minutesOf tl_X9_minutesOf tn_X9 tc_X9_minutesOf) rfl rfl rfl (by decide +kernel) ⟨Nat.le_of_ble_eq_true rfl, Nat.le_of_ble_eq_true rfl⟩) rfl dX9_breaksWays_75 ⟨Nat.zero_le _, Nat.zero_le _⟩ (by omega) RE_0 (fun r75 E1 H locs hq hP hS => ?_)
                obtain ⟨rfl, τ3, rfl, hF3⟩ := hq
                refine lv_aload_n hx hb dX9_breaksWays_78 rfl (lv_at hl 0 rfl) ?_
                refine r_get (C := RX9) (T := TX9) (N := 34) (ci := 9) hx hb hts hi_X9 hown hK hP 9 rfl (by decide) lk_X9_34 (fun _ h9 => h9) dX9_breaksWays_79 (by omega) RE_0 rfl ?_
                refine lv_iload hx hb dX9_breaksWays_82 (lv_at hl 7 rfl) ?_
                refine r_iald hx hb hK hP 0 rfl dX9_breaksWays_84 (by omega) rfl (by omega) (by omega) (tI_at (by omega)) ?_
                refine r_icmp_le (tgt := 127) hx hb (by omega) (by omega) dX9_breaksWays_85 (by decide) (fun c85 => ?_) (fun c85 => ?_)
                · rw [← hWg]
                  exact join127 _ _ _ _ hP hS hl ⟨FrR_tr hF2 hF3, fun q => by have := q.2.2.2.1; omega⟩
                · refine lv_aload_n hx hb dX9_breaksWays_88 rfl (lv_at hl 0 rfl) ?_
                  refine lv_aload_n hx hb dX9_breaksWays_89 rfl (lv_at hl 0 rfl) ?_
                  refine r_get (C := RX9) (T := TX9) (N := 34) (ci := 9) hx hb hts hi_X9 hown hK hP 7 rfl (by decide) lk_X9_28 (fun _ h9 => h9) dX9_breaksWays_90 (by omega) RE_0 rfl ?_
                  refine lv_iload hx hb dX9_breaksWays_93 (lv_at hl 7 rfl) ?_
                  refine r_iald hx hb hK hP 0 rfl dX9_breaksWays_95 (by omega) rfl (by omega) (by omega) (tI_at (by omega)) ?_
                  refine lv_aload_n hx hb dX9_breaksWays_96 rfl (lv_at hl 0 rfl) ?_
                  refine r_get (C := RX9) (T := TX9) (N := 34) (ci := 9) hx hb hts hi_X9 hown hK hP 8 rfl (by decide) lk_X9_31 (fun _ h9 => h9) dX9_breaksWays_97 (by omega) RE_0 rfl ?_
                  refine lv_iload hx hb dX9_breaksWays_100 (lv_at hl 7 rfl) ?_
                  refine r_iald hx hb hK hP 0 rfl dX9_breaksWays_102 (by omega) rfl (by omega) (by omega) (tI_at (by omega)) ?_
                  refine lv_lload hx hb dX9_breaksWays_103 (lv_at hl 5 rfl) ?_
                  refine k_calliV (nL := 10) (C := RX9) (T := TX9) (N := 34) (ci := 9) hx hb hml hown hts hK hP hS hl.1 (c_X9_minutesOf hi hI (a := σ 7 k) (b := σ 8 k) (by omega) (by omega) hS1) rfl (Nat.le_of_ble_eq_true rfl) rfl (cwV 3 hts (gV lm_X9_150 ti_X9_minutesOf tl_X9_minutesOf tn_X9 tc_X9_minutesOf) rfl rfl rfl (by decide +kernel) ⟨Nat.le_of_ble_eq_true rfl, Nat.le_of_ble_eq_true rfl⟩) rfl dX9_breaksWays_105 ⟨Nat.zero_le _, Nat.zero_le _⟩ (by omega) RE_0 (fun r105 E1 H locs hq hP hS => ?_)
                  obtain ⟨rfl, τ4, rfl, hF4⟩ := hq
                  refine lv_aload_n hx hb dX9_breaksWays_108 rfl (lv_at hl 0 rfl) ?_
                  refine r_get (C := RX9) (T := TX9) (N := 34) (ci := 9) hx hb hts hi_X9 hown hK hP 9 rfl (by decide) lk_X9_34 (fun _ h9 => h9) dX9_breaksWays_109 (by omega) RE_0 rfl ?_
                  refine lv_iload hx hb dX9_breaksWays_112 (lv_at hl 7 rfl) ?_
                  refine r_iald hx hb hK hP 0 rfl dX9_breaksWays_114 (by omega) rfl (by omega) (by omega) (tI_at (by omega)) ?_
                  refine r_icmp_gt (tgt := 127) hx hb (by omega) (by omega) dX9_breaksWays_115 (by decide) (fun c115 => ?_) (fun c115 => ?_)
                  · rw [← hWg]
                    exact join127 _ _ _ _ hP hS hl ⟨FrR_tr hF2 (FrR_tr hF3 hF4), fun q => by have := q.2.2.2.2; omega⟩
                  · have hB : B7 σ w d les t k := ⟨⟨by omega, by omega⟩, by omega, by omega, by omega, by omega⟩
                    refine lv_aload_n hx hb dX9_breaksWays_118 rfl (lv_at hl 0 rfl) ?_
                    refine lv_iload hx hb dX9_breaksWays_119 (lv_at hl 4 rfl) ?_
                    refine lv_iload hx hb dX9_breaksWays_121 (lv_at hl 7 rfl) ?_
                    refine k_calliV (nL := 10) (C := RX9) (T := TX9) (N := 34) (ci := 9) hx hb hml hown hts hK hP hS hl.1 (c_X9_broken hi) rfl (Nat.le_of_ble_eq_true rfl) rfl (cwV 2 hts (gV lm_X9_143 ti_X9_broken tl_X9_broken tn_X9 tc_X9_broken) rfl rfl rfl (by decide +kernel) ⟨Nat.le_of_ble_eq_true rfl, Nat.le_of_ble_eq_true rfl⟩) rfl dX9_breaksWays_123 ⟨Nat.zero_le _, Nat.zero_le _⟩ (by omega) RE_0 (fun r123 E1 H locs hq hP hS => ?_)
                    obtain ⟨rfl, rfl⟩ := hq
                    exact k_zret hx hb hr hlocks hP hS dX9_breaksWays_126 (by omega) ⟨(bI_t ⟨t, _, hB⟩).symm, _, rfl, fun q => by rw [brk_2.1, brk_2.2]; exact brF hB hno hno2, brk_F (FrR_tr hF2 (FrR_tr hF3 hF4))⟩
        rw [← hWg]
        exact loop41 _ 0 _ _ _ _ hP hS hl ⟨by omega, fun p' q1 q2 => by have := q2.2.1; omega, hF⟩ (Nat.lt_succ_self _)
  rw [← hWg]
  exact loop3 _ d _ _ _ _ hP hS hl ⟨by omega, fun t' p q1 q2 => by have := q2.1; unfold inW at this; omega, FrR_rf⟩ (Nat.lt_succ_self _)

