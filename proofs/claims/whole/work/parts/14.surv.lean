noncomputable def tkC (σ : Tb) (C : Int → Prop) (p day : Int) : Int := sumI (fun o => cif (C o) (cif (isOn σ o p) (lnO σ C o day) 0) 0) (σ 0 2)
theorem msk_s {P : Int → Prop} {i : Int} (h : 0 ≤ i) : msk P (i + 1).toNat = msk P i.toNat ||| cif (P i) (2 ^ i.toNat) 0 := by
  rw [show (i + 1).toNat = i.toNat + 1 by omega]
  show msk P i.toNat ||| cif (P ((i.toNat : Nat) : Int)) (2 ^ i.toNat) 0 = _
  rw [Int.toNat_of_nonneg h]
theorem msk_40 {P : Int → Prop} {i : Int} (h : i ≤ 40) : msk P i.toNat < 1099511627776 := by
  have h1 := msk_lt (P := P) i.toNat
  have h2 : 2 ^ i.toNat ≤ 2 ^ 40 := Nat.pow_le_pow_right (by decide) (by omega)
  omega
theorem tkC_r {σ : Tb} {C : Int → Prop} (h : Inv σ) {p day : Int} : 0 ≤ tkC σ C p day ∧ tkC σ C p day ≤ 240 := by
  have h0 := Inv_0 h
  have := sumI_b (f := fun o => cif (C o) (cif (isOn σ o p) (lnO σ C o day) 0) 0) (n := σ 0 2) (M := 4) (by omega) (fun o h1 h2 => by
    have hl := lnO_r (C := C) h (o := o) (day := day) ⟨h1, h2⟩
    show 0 ≤ cif (C o) (cif (isOn σ o p) (lnO σ C o day) 0) 0 ∧ _ ≤ 4
    by_cases a : C o
    · rw [cif_t a]
      by_cases b : isOn σ o p
      · rw [cif_t b]; exact hl
      · rw [cif_f b]; omega
    · rw [cif_f a]; omega)
  unfold tkC
  omega
theorem IQ_on {σ : Tb} (h : Inv σ) {w : Int} (hw : 0 ≤ w ∧ w < σ 0 2) {p : Int} (hp : 0 ≤ p) : (∃ j, 0 ≤ j ∧ j < σ 18 w ∧ PQ σ w j = p) ↔ isOn σ w p := by
  obtain ⟨_, ⟨_, _, h3, _, h5⟩, _⟩ := Inv_w h hw
  exact ⟨fun ⟨j, j1, j2, j3⟩ => by rw [← j3]; exact (h3 j j1 j2).2, fun q => h5 p hp q⟩
abbrev rmX0_survey : Room := { frames := 1, cells := 0, slots := 0, locals := 24 }
set_option maxRecDepth 100000 in
set_option maxHeartbeats 4000000 in
theorem c_X0_survey {l : Launch} {D : va_G} {G : Nat → ClassId} {ad : Nat → Nat} {σ τ : Tb} (hi : kInj 189 ad) {C : Int → Prop} {day : Int} (hI : Inv σ) (hd : (-2147483648 ≤ day ∧ day < 2147483648)) (hC : Cnt σ τ C) (hL : Lst (τ 1) (τ 2 0) C (σ 0 2)) : Met l yX0_survey wsX0_survey rmX0_survey (kPc D (tysG G) 189 ad (CE G ad σ τ) [.ref (ad 2), .int (iI day)]) (kQl D 189 ad (fun z E' => ∃ τ', E' = CE G ad σ τ' ∧ z = msk (fun p => σ 3 p ≤ tkC σ C p day) (σ 0 0).toNat ∧ (∀ p, 0 ≤ p → p < σ 0 0 → τ' 4 p = tkC σ C p day) ∧ (∀ t i, t ≠ 4 → τ' t i = τ t i))) 0 0 (kA 189 ad) := by
  refine k_met (cc := cX0_survey) (maxL := 6) (ret := (some .long)) (by decide) (Nat.le_of_ble_eq_true rfl) ?_
  intro P0 e0 s m0 below meth c0 ls hx hb hr hlocks hml hown hts hK hP hS hl
  replace hl : lv_has ls 6 [(0, _), (1, _)] := hl
  replace hown : s.vm.findClass RX0 = some m0.cls := hown
  refine k_abs (fun Wg hWg => ?_)
  have h0 := Inv_0 hI
  have hL1 := hL.1
  refine r_const hx hb dX0_survey_0 ?_
  refine lv_istore_n hx hb dX0_survey_1 rfl hl (by decide) rfl (fun ls hl => ?_)
  replace hl : lv_has ls 6 [(0, _), (1, _), (2, _)] := lv_sub hl [1, 2, 0] rfl
  have join105 : ∀ (τ4 : Tb) (H : Heap) (locs : List Loc) (ls : Array Slot), va_P D vwCl (kw 189 ad (CE G ad σ τ4)) H → va_S (kA 189 ad) s.heap H locs → lv_has ls 6 [(0, .ref (ad 2)), (1, .int (iI day)), (2, .long (lN 0)), (4, .int (iI 0))] → ((∀ p, 0 ≤ p → p < σ 0 0 → τ4 4 p = tkC σ C p day) ∧ (∀ t i, t ≠ 4 → τ4 t i = τ t i)) → Wg H locs (F0 m0 105 ls []) := by
    intro τ4 H locs ls hP hS hl hv105
    rw [hWg]
    obtain ⟨hT, hF⟩ := hv105
    have loop105 : ∀ (n : Nat) (i : Int) (H : Heap) (locs : List Loc) (ls : Array Slot), va_P D vwCl (kw 189 ad (CE G ad σ τ4)) H → va_S (kA 189 ad) s.heap H locs → lv_has ls 6 [(0, .ref (ad 2)), (1, .int (iI day)), (2, .long (lN (msk (fun p => σ 3 p ≤ tkC σ C p day) i.toNat))), (4, .int (iI i))] → (0 ≤ i ∧ i ≤ σ 0 0) → (σ 0 0 - i).toNat < n → Wg H locs (F0 m0 105 ls []) := by
      intro n
      induction n with
      | zero => intro i H locs ls _ _ _ _ hn; omega
      | succ n ih105 =>
        intro i H locs ls hP hS hl hv105 hn105
        rw [hWg]
        refine lv_iload hx hb dX0_survey_105 (lv_at hl 3 rfl) ?_
        refine lv_aload_n hx hb dX0_survey_107 rfl (lv_at hl 0 rfl) ?_
        refine r_get (C := RX0) (T := TX0) (N := 9) (ci := 0) hx hb hts hi_X0 hown hK hP 0 rfl (by decide) lk_X0_33 (fun _ h9 => h9) dX0_survey_108 (by omega) CE_2 rfl ?_
        refine r_get (C := RX5) (T := TX5) (N := 8) (ci := 5) hx hb hts hi_X5 hown hK hP 4 rfl (by decide) lk_X0_70 (fun _ h9 => h9) dX0_survey_111 (by omega) CE_1 rfl ?_
        refine r_icmp_ge (tgt := 153) hx hb (by omega) (by omega) dX0_survey_114 (by decide) (fun c114 => ?_) (fun c114 => ?_)
        · obtain rfl : i = σ 0 0 := by omega
          refine lv_lload_n hx hb dX0_survey_153 rfl (lv_at hl 2 rfl) ?_
          exact k_lret hx hb hr hlocks hP hS dX0_survey_154 ⟨τ4, rfl, rfl, hT, hF⟩
        · have hp := Inv_p hI (p := i) (by omega)
          unfold IP at hp
          have ht := tkC_r (C := C) hI (p := i) (day := day)
          have hm := msk_40 (P := fun p => σ 3 p ≤ tkC σ C p day) (i := i) (by omega)
          have h2 : 2 ^ i.toNat < 2 ^ 63 := Nat.pow_lt_pow_right (by decide) (by omega)
          refine lv_aload_n hx hb dX0_survey_117 rfl (lv_at hl 0 rfl) ?_
          refine r_get (C := RX0) (T := TX0) (N := 9) (ci := 0) hx hb hts hi_X0 hown hK hP 6 rfl (by decide) lk_X0_22 (fun _ h9 => h9) dX0_survey_118 (by omega) CE_2 rfl ?_
          refine lv_iload hx hb dX0_survey_121 (lv_at hl 3 rfl) ?_
          refine r_iald hx hb hK hP 0 rfl dX0_survey_123 (by omega) rfl (by omega) (by omega) (tI_at (by omega)) ?_
          rw [(hT i (by omega) (by omega))]
          refine lv_aload_n hx hb dX0_survey_124 rfl (lv_at hl 0 rfl) ?_
          refine r_get (C := RX0) (T := TX0) (N := 9) (ci := 0) hx hb hts hi_X0 hown hK hP 0 rfl (by decide) lk_X0_33 (fun _ h9 => h9) dX0_survey_125 (by omega) CE_2 rfl ?_
          refine r_get (C := RX5) (T := TX5) (N := 8) (ci := 5) hx hb hts hi_X5 hown hK hP 0 rfl (by decide) lk_X0_83 (fun _ h9 => h9) dX0_survey_128 (by omega) CE_1 rfl ?_
          refine lv_iload hx hb dX0_survey_131 (lv_at hl 3 rfl) ?_
          refine r_aald hx hb hK hP 4 rfl dX0_survey_133 (by omega) rfl (by omega) (by omega) rfl ?_
          refine r_get (C := RX2) (T := TX2) (N := 6) (ci := 2) hx hb hts hi_X2 hown hK hP 2 rfl (by decide) lk_X0_86 (fun _ h9 => h9) dX0_survey_134 (by omega) (CE_p (by omega)) rfl ?_
          refine r_icmp_lt (tgt := 147) hx hb (by omega) (by omega) dX0_survey_137 (by decide) (fun c137 => ?_) (fun c137 => ?_)
          · have hl' := hl
            rw [show msk (fun p => σ 3 p ≤ tkC σ C p day) i.toNat = msk (fun p => σ 3 p ≤ tkC σ C p day) (i + 1).toNat by rw [msk_s (by omega), cif_f (by omega), Nat.or_zero]] at hl
            refine r_iinc hx hb dX0_survey_147 hl (k := 3) rfl (by decide) (fun ls hl => ?_)
            replace hl : lv_has ls 6 [(0, _), (1, _), (2, _), (4, _)] := lv_sub hl [1, 2, 3, 0] rfl
            refine lv_goto (tgt := 105) hx hb dX0_survey_150 (by decide) ?_
            rw [← hWg]
            exact ih105 (i + 1) _ _ _ hP hS hl (by omega) (by omega)
          · refine lv_lload_n hx hb dX0_survey_140 rfl (lv_at hl 2 rfl) ?_
            refine r_lconst1 hx hb dX0_survey_141 ?_
            refine lv_iload hx hb dX0_survey_142 (lv_at hl 3 rfl) ?_
            refine r_lshl1 hx hb dX0_survey_144 (by omega) ?_
            refine r_lor hx hb dX0_survey_145 (by omega) (by omega) ?_
            rw [show msk (fun p => σ 3 p ≤ tkC σ C p day) i.toNat ||| 2 ^ i.toNat = msk (fun p => σ 3 p ≤ tkC σ C p day) (i + 1).toNat by rw [msk_s (by omega), cif_t (by omega)]]
            refine lv_lstore_n hx hb dX0_survey_146 rfl hl (by decide) rfl (fun ls hl => ?_)
            replace hl : lv_has ls 6 [(0, _), (1, _), (2, _), (4, _)] := lv_sub hl [1, 2, 0, 3] rfl
            refine r_iinc hx hb dX0_survey_147 hl (k := 3) rfl (by decide) (fun ls hl => ?_)
            replace hl : lv_has ls 6 [(0, _), (1, _), (2, _), (4, _)] := lv_sub hl [1, 2, 3, 0] rfl
            refine lv_goto (tgt := 105) hx hb dX0_survey_150 (by decide) ?_
            rw [← hWg]
            exact ih105 (i + 1) _ _ _ hP hS hl (by omega) (by omega)
    rw [← hWg]
    exact loop105 _ 0 _ _ _ hP hS hl (by omega) (Nat.lt_succ_self _)
  have join28 : ∀ (τ1 : Tb) (H : Heap) (locs : List Loc) (ls : Array Slot), va_P D vwCl (kw 189 ad (CE G ad σ τ1)) H → va_S (kA 189 ad) s.heap H locs → lv_has ls 6 [(0, .ref (ad 2)), (1, .int (iI day)), (2, .int (iI 0))] → ((∀ p, 0 ≤ p → p < σ 0 0 → τ1 4 p = 0) ∧ (∀ t i, t ≠ 4 → τ1 t i = τ t i)) → Wg H locs (F0 m0 28 ls []) := by
    intro τ1 H locs ls hP hS hl hv28
    rw [hWg]
    have loop28 : ∀ (n : Nat) (i : Int) (τ2 : Tb) (H : Heap) (locs : List Loc) (ls : Array Slot), va_P D vwCl (kw 189 ad (CE G ad σ τ2)) H → va_S (kA 189 ad) s.heap H locs → lv_has ls 6 [(0, .ref (ad 2)), (1, .int (iI day)), (2, .int (iI i))] → ((0 ≤ i ∧ i ≤ τ 2 0) ∧ (∀ p, 0 ≤ p → p < σ 0 0 → τ2 4 p = sumI (fun k => cif (isOn σ (τ 1 k) p) (lnO σ C (τ 1 k) day) 0) i) ∧ (∀ t i, t ≠ 4 → τ2 t i = τ t i)) → (τ 2 0 - i).toNat < n → Wg H locs (F0 m0 28 ls []) := by
      intro n
      induction n with
      | zero => intro i τ2 H locs ls _ _ _ _ hn; omega
      | succ n ih28 =>
        intro i τ2 H locs ls hP hS hl hv28 hn28
        rw [hWg]
        obtain ⟨hv, hT, hF⟩ := hv28
        refine lv_iload_n hx hb dX0_survey_28 rfl (lv_at hl 2 rfl) ?_
        refine lv_aload_n hx hb dX0_survey_29 rfl (lv_at hl 0 rfl) ?_
        refine r_get (C := RX0) (T := TX0) (N := 9) (ci := 0) hx hb hts hi_X0 hown hK hP 3 rfl (by decide) lk_X0_41 (fun _ h9 => h9) dX0_survey_30 (by omega) CE_2 rfl ?_
        rw [(hF 2 0 (by decide))]
        refine r_icmp_ge (tgt := 100) hx hb (by omega) (by omega) dX0_survey_33 (by decide) (fun c33 => ?_) (fun c33 => ?_)
        · obtain rfl : i = τ 2 0 := by omega
          have hT2 : ∀ p, 0 ≤ p → p < σ 0 0 → τ2 4 p = tkC σ C p day := by
            intro p p1 p2
            rw [hT p p1 p2]
            exact hL.2.2.2 (fun o => cif (isOn σ o p) (lnO σ C o day) 0)
          refine r_lconst0 hx hb dX0_survey_100 ?_
          refine lv_lstore_n hx hb dX0_survey_101 rfl hl (by decide) rfl (fun ls hl => ?_)
          replace hl : lv_has ls 6 [(0, _), (1, _), (2, _)] := lv_sub hl [1, 2, 0] rfl
          refine r_const hx hb dX0_survey_102 ?_
          refine lv_istore hx hb dX0_survey_103 hl (by decide) rfl (fun ls hl => ?_)
          replace hl : lv_has ls 6 [(0, _), (1, _), (2, _), (4, _)] := lv_sub hl [1, 2, 3, 0] rfl
          rw [← hWg]
          exact join105 _ _ _ _ hP hS hl ⟨hT2, hF⟩
        · have hm := (hL.2.1 i (by omega) (by omega)).1
          have hlr := lnO_r (C := C) hI (o := τ 1 i) (day := day) hm
          obtain ⟨_, ⟨_, hq2, hq3, hq4, _⟩, _⟩ := Inv_w hI hm
          have hC2 : Cnt σ τ2 C := fun k k1 k2 => by rw [hF 0 k (by decide)]; exact hC k k1 k2
          refine lv_aload_n hx hb dX0_survey_36 rfl (lv_at hl 0 rfl) ?_
          refine r_get (C := RX0) (T := TX0) (N := 9) (ci := 0) hx hb hts hi_X0 hown hK hP 0 rfl (by decide) lk_X0_33 (fun _ h9 => h9) dX0_survey_37 (by omega) CE_2 rfl ?_
          refine r_get (C := RX5) (T := TX5) (N := 8) (ci := 5) hx hb hts hi_X5 hown hK hP 2 rfl (by decide) lk_X0_53 (fun _ h9 => h9) dX0_survey_40 (by omega) CE_1 rfl ?_
          refine lv_aload_n hx hb dX0_survey_43 rfl (lv_at hl 0 rfl) ?_
          refine r_get (C := RX0) (T := TX0) (N := 9) (ci := 0) hx hb hts hi_X0 hown hK hP 2 rfl (by decide) lk_X0_15 (fun _ h9 => h9) dX0_survey_44 (by omega) CE_2 rfl ?_
          refine lv_iload_n hx hb dX0_survey_47 rfl (lv_at hl 2 rfl) ?_
          refine r_iald hx hb hK hP 0 rfl dX0_survey_48 (by omega) rfl (by omega) (by omega) (tI_at (by omega)) ?_
          rw [(hF 1 i (by decide))]
          refine r_aald hx hb hK hP 5 rfl dX0_survey_49 (by omega) rfl (by omega) (by omega) rfl ?_
          refine lv_astore_n hx hb dX0_survey_50 rfl hl (by decide) rfl (fun ls hl => ?_)
          replace hl : lv_has ls 6 [(0, _), (1, _), (2, _), (3, _)] := lv_sub hl [1, 2, 3, 0] rfl
          refine lv_aload_n hx hb dX0_survey_51 rfl (lv_at hl 0 rfl) ?_
          refine lv_aload_n hx hb dX0_survey_52 rfl (lv_at hl 3 rfl) ?_
          refine lv_iload_n hx hb dX0_survey_53 rfl (lv_at hl 1 rfl) ?_
          refine k_calliV (nL := 6) (C := RX0) (T := TX0) (N := 9) (ci := 0) hx hb hml hown hts hK hP hS hl.1 (c_X0_lanesOf hi hI hm hd hC2) rfl (Nat.le_of_ble_eq_true rfl) rfl (cwV 2 hts (gV lm_X0_73 ti_X0_lanesOf tl_X0_lanesOf tn_X0 tc_X0_lanesOf) rfl rfl rfl (by decide +kernel) ⟨Nat.le_of_ble_eq_true rfl, Nat.le_of_ble_eq_true rfl⟩) rfl dX0_survey_54 ⟨Nat.zero_le _, Nat.zero_le _⟩ (by omega) CE_2 (fun r54 E1 H locs hq hP hS => ?_)
          obtain ⟨rfl, rfl⟩ := hq
          refine lv_istore hx hb dX0_survey_57 hl (by decide) rfl (fun ls hl => ?_)
          replace hl : lv_has ls 6 [(0, _), (1, _), (2, _), (3, _), (4, _)] := lv_sub hl [1, 2, 3, 4, 0] rfl
          refine r_const hx hb dX0_survey_59 ?_
          refine lv_istore hx hb dX0_survey_60 hl (by decide) rfl (fun ls hl => ?_)
          replace hl : lv_has ls 6 [(0, _), (1, _), (2, _), (3, _), (4, _), (5, _)] := lv_sub hl [1, 2, 3, 4, 5, 0] rfl
          have loop62 : ∀ (n : Nat) (k : Int) (τ3 : Tb) (H : Heap) (locs : List Loc) (ls : Array Slot), va_P D vwCl (kw 189 ad (CE G ad σ τ3)) H → va_S (kA 189 ad) s.heap H locs → lv_has ls 6 [(0, .ref (ad 2)), (1, .int (iI day)), (2, .int (iI i)), (3, .ref (ad (69 + (τ 1 i).toNat))), (4, .int (iI (lnO σ C (τ 1 i) day))), (5, .int (iI k))] → ((0 ≤ k ∧ k ≤ σ 18 (τ 1 i)) ∧ (∀ p, 0 ≤ p → p < σ 0 0 → τ3 4 p = sumI (fun k => cif (isOn σ (τ 1 k) p) (lnO σ C (τ 1 k) day) 0) i + cif (∃ j, 0 ≤ j ∧ j < k ∧ PQ σ (τ 1 i) j = p) (lnO σ C (τ 1 i) day) 0) ∧ (∀ t i, t ≠ 4 → τ3 t i = τ t i)) → (σ 18 (τ 1 i) - k).toNat < n → Wg H locs (F0 m0 62 ls []) := by
            intro n
            induction n with
            | zero => intro k τ3 H locs ls _ _ _ _ hn; omega
            | succ n ih62 =>
              intro k τ3 H locs ls hP hS hl hv62 hn62
              rw [hWg]
              obtain ⟨hv2, hT3, hF3⟩ := hv62
              refine lv_iload hx hb dX0_survey_62 (lv_at hl 5 rfl) ?_
              refine lv_aload_n hx hb dX0_survey_64 rfl (lv_at hl 3 rfl) ?_
              refine r_get (C := RX7) (T := TX7) (N := 16) (ci := 7) hx hb hts hi_X7 hown hK hP 2 rfl (by decide) lk_X0_77 (fun _ h9 => h9) dX0_survey_65 (by omega) (CE_w (by omega)) rfl ?_
              refine r_icmp_ge (tgt := 94) hx hb (by omega) (by omega) dX0_survey_68 (by decide) (fun c68 => ?_) (fun c68 => ?_)
              · obtain rfl : k = σ 18 (τ 1 i) := by omega
                have hT4 : ∀ p, 0 ≤ p → p < σ 0 0 → τ3 4 p = sumI (fun k => cif (isOn σ (τ 1 k) p) (lnO σ C (τ 1 k) day) 0) (i + 1) := by
                  intro p p1 p2
                  rw [hT3 p p1 p2, sumI_s hv.1]
                  exact congrArg _ (cif_c (IQ_on hI hm p1) (fun _ => rfl) (fun _ => rfl))
                refine r_iinc hx hb dX0_survey_94 hl (k := 2) rfl (by decide) (fun ls hl => ?_)
                replace hl : lv_has ls 6 [(0, _), (1, _), (2, _), (3, _), (4, _), (5, _)] := lv_sub hl [1, 2, 0, 3, 4, 5] rfl
                refine lv_goto (tgt := 28) hx hb dX0_survey_97 (by decide) ?_
                rw [← hWg]
                exact ih28 (i + 1) _ _ _ _ hP hS (lv_sub hl [0, 1, 2] rfl) ⟨by omega, hT4, hF3⟩ (by omega)
              · have hp := (hq3 k (by omega) (by omega)).1
                refine lv_aload_n hx hb dX0_survey_71 rfl (lv_at hl 0 rfl) ?_
                refine r_get (C := RX0) (T := TX0) (N := 9) (ci := 0) hx hb hts hi_X0 hown hK hP 6 rfl (by decide) lk_X0_22 (fun _ h9 => h9) dX0_survey_72 (by omega) CE_2 rfl ?_
                refine lv_aload_n hx hb dX0_survey_75 rfl (lv_at hl 3 rfl) ?_
                refine r_get (C := RX7) (T := TX7) (N := 16) (ci := 7) hx hb hts hi_X7 hown hK hP 1 rfl (by decide) lk_X0_80 (fun _ h9 => h9) dX0_survey_76 (by omega) (CE_w (by omega)) rfl ?_
                refine lv_iload hx hb dX0_survey_79 (lv_at hl 5 rfl) ?_
                refine r_iald hx hb hK hP 0 rfl dX0_survey_81 (by omega) (CE_q (by omega)) (by omega) (by omega) tQ_PQ ?_
                refine lv_dup2_11 hx hb dX0_survey_82 rfl rfl ?_
                refine r_iald hx hb hK hP 0 rfl dX0_survey_83 (by omega) rfl (by omega) (by omega) (tI_at (by omega)) ?_
                refine lv_iload hx hb dX0_survey_84 (lv_at hl 4 rfl) ?_
                refine r_add hx hb dX0_survey_86 ?_
                refine r_iast hx hb hi hK hP hS 0 rfl dX0_survey_87 (by omega) rfl (by omega) (by omega) (cu_taken (by omega)) (fun H locs hP hS => ?_)
                refine r_iinc hx hb dX0_survey_88 hl (k := 5) rfl (by decide) (fun ls hl => ?_)
                replace hl : lv_has ls 6 [(0, _), (1, _), (2, _), (3, _), (4, _), (5, _)] := lv_sub hl [1, 2, 3, 4, 5, 0] rfl
                refine lv_goto (tgt := 62) hx hb dX0_survey_91 (by decide) ?_
                have hT4 : ∀ p, 0 ≤ p → p < σ 0 0 → up τ3 4 (PQ σ (τ 1 i) k) (τ3 4 (PQ σ (τ 1 i) k) + lnO σ C (τ 1 i) day) 4 p = sumI (fun k => cif (isOn σ (τ 1 k) p) (lnO σ C (τ 1 k) day) 0) i + cif (∃ j, 0 ≤ j ∧ j < k + 1 ∧ PQ σ (τ 1 i) j = p) (lnO σ C (τ 1 i) day) 0 := by
                  intro p p1 p2
                  by_cases e : p = PQ σ (τ 1 i) k
                  · rw [e, up_self, hT3 _ hp.1 hp.2, cif_f, cif_t ⟨k, by omega, by omega, rfl⟩]
                    · omega
                    · rintro ⟨j, j1, j2, j3⟩
                      have := hq4 j k j1 j2 (by omega)
                      omega
                  · rw [up_i e, hT3 p p1 p2]
                    refine congrArg _ (cif_c ⟨fun ⟨j, j1, j2, j3⟩ => ⟨j, j1, by omega, j3⟩, fun ⟨j, j1, j2, j3⟩ => ⟨j, j1, ?_, j3⟩⟩ (fun _ => rfl) (fun _ => rfl))
                    rcases (show j < k ∨ j = k by omega) with q | q
                    · exact q
                    · rw [q] at j3
                      exact absurd j3.symm e
                rw [← hWg]
                exact ih62 (k + 1) _ _ _ _ hP hS hl ⟨by omega, hT4, fun t j ht => by rw [up_t ht]; exact hF3 t j ht⟩ (by omega)
          rw [← hWg]
          exact loop62 _ 0 _ _ _ _ hP hS hl ⟨by omega, fun p p1 p2 => by rw [hT p p1 p2, cif_f (by rintro ⟨j, j1, j2, _⟩; omega)]; omega, hF⟩ (Nat.lt_succ_self _)
    rw [← hWg]
    exact loop28 _ 0 _ _ _ _ hP hS hl ⟨by omega, hv28.1, hv28.2⟩ (Nat.lt_succ_self _)
  have loop2 : ∀ (n : Nat) (i : Int) (τ1 : Tb) (H : Heap) (locs : List Loc) (ls : Array Slot), va_P D vwCl (kw 189 ad (CE G ad σ τ1)) H → va_S (kA 189 ad) s.heap H locs → lv_has ls 6 [(0, .ref (ad 2)), (1, .int (iI day)), (2, .int (iI i))] → ((0 ≤ i ∧ i ≤ σ 0 0) ∧ (∀ p, 0 ≤ p → p < i → τ1 4 p = 0) ∧ (∀ t i, t ≠ 4 → τ1 t i = τ t i)) → (σ 0 0 - i).toNat < n → Wg H locs (F0 m0 2 ls []) := by
    intro n
    induction n with
    | zero => intro i τ1 H locs ls _ _ _ _ hn; omega
    | succ n ih2 =>
      intro i τ1 H locs ls hP hS hl hv2 hn2
      rw [hWg]
      obtain ⟨hv, hT, hF⟩ := hv2
      refine lv_iload_n hx hb dX0_survey_2 rfl (lv_at hl 2 rfl) ?_
      refine lv_aload_n hx hb dX0_survey_3 rfl (lv_at hl 0 rfl) ?_
      refine r_get (C := RX0) (T := TX0) (N := 9) (ci := 0) hx hb hts hi_X0 hown hK hP 0 rfl (by decide) lk_X0_33 (fun _ h9 => h9) dX0_survey_4 (by omega) CE_2 rfl ?_
      refine r_get (C := RX5) (T := TX5) (N := 8) (ci := 5) hx hb hts hi_X5 hown hK hP 4 rfl (by decide) lk_X0_70 (fun _ h9 => h9) dX0_survey_7 (by omega) CE_1 rfl ?_
      refine r_icmp_ge (tgt := 26) hx hb (by omega) (by omega) dX0_survey_10 (by decide) (fun c10 => ?_) (fun c10 => ?_)
      · obtain rfl : i = σ 0 0 := by omega
        refine r_const hx hb dX0_survey_26 ?_
        refine lv_istore_n hx hb dX0_survey_27 rfl hl (by decide) rfl (fun ls hl => ?_)
        replace hl : lv_has ls 6 [(0, _), (1, _), (2, _)] := lv_sub hl [1, 2, 0] rfl
        rw [← hWg]
        exact join28 _ _ _ _ hP hS hl ⟨hT, hF⟩
      · refine lv_aload_n hx hb dX0_survey_13 rfl (lv_at hl 0 rfl) ?_
        refine r_get (C := RX0) (T := TX0) (N := 9) (ci := 0) hx hb hts hi_X0 hown hK hP 6 rfl (by decide) lk_X0_22 (fun _ h9 => h9) dX0_survey_14 (by omega) CE_2 rfl ?_
        refine lv_iload_n hx hb dX0_survey_17 rfl (lv_at hl 2 rfl) ?_
        refine r_const hx hb dX0_survey_18 ?_
        refine r_iast hx hb hi hK hP hS 0 rfl dX0_survey_19 (by omega) rfl (by omega) (by omega) (cu_taken (by omega)) (fun H locs hP hS => ?_)
        refine r_iinc hx hb dX0_survey_20 hl (k := 2) rfl (by decide) (fun ls hl => ?_)
        replace hl : lv_has ls 6 [(0, _), (1, _), (2, _)] := lv_sub hl [1, 2, 0] rfl
        refine lv_goto (tgt := 2) hx hb dX0_survey_23 (by decide) ?_
        have hT2 : ∀ p, 0 ≤ p → p < i + 1 → up τ1 4 i 0 4 p = 0 := by
          intro p p1 p2
          rcases (show p < i ∨ p = i by omega) with q | q
          · rw [up_i (by omega)]; exact hT p p1 q
          · rw [q, up_self]
        rw [← hWg]
        exact ih2 (i + 1) _ _ _ _ hP hS (lv_sub hl [0, 1, 2] rfl) ⟨by omega, hT2, fun t j ht => by rw [up_t ht]; exact hF t j ht⟩ (by omega)
  rw [← hWg]
  exact loop2 _ 0 _ _ _ _ hP hS hl ⟨by omega, fun p p1 p2 => by omega, fun t j ht => rfl⟩ (Nat.lt_succ_self _)

