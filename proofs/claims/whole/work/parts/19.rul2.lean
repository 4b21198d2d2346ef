abbrev rmX3_rests : Room := { frames := 0, cells := 0, slots := 0, locals := 0 }
set_option maxRecDepth 100000 in
set_option maxHeartbeats 4000000 in
theorem c_X3_rests {l : Launch} {D : va_G} {G : Nat → ClassId} {ad : Nat → Nat} {σ τ : Tb} (hi : kInj 189 ad) {a r b : Int} (ha : -1000 ≤ a ∧ a ≤ 1000) (hr0 : 0 ≤ r ∧ r ≤ 1000) (hb0 : -1000 ≤ b ∧ b ≤ 1000) : Met l yX3_rests wsX3_rests rmX3_rests (kPc D (tysG G) 189 ad (CE G ad σ τ) [.int (iI a), .int (iI r), .int (iI b)]) (kQi D 189 ad (fun z E' => z = bI (a < b ∧ b ≤ a + r) ∧ E' = CE G ad σ τ)) 0 0 (kA 189 ad) := by
  refine k_met (cc := cX3_rests) (maxL := 3) (ret := (some .boolean)) (by decide) (Nat.le_of_ble_eq_true rfl) ?_
  intro P0 e0 s m0 below meth c0 ls hx hb hr hlocks hml hown hts hK hP hS hl
  replace hl : lv_has ls 3 [(0, _), (1, _), (2, _)] := hl
  replace hown : s.vm.findClass RX3 = some m0.cls := hown
  refine k_abs (fun Wg hWg => ?_)
  refine lv_iload_n hx hb dX3_rests_0 rfl (lv_at hl 0 rfl) ?_
  refine lv_iload_n hx hb dX3_rests_1 rfl (lv_at hl 2 rfl) ?_
  refine r_icmp_ge (tgt := 16) hx hb (by omega) (by omega) dX3_rests_2 (by decide) (fun c2 => ?_) (fun c2 => ?_)
  · refine r_const hx hb dX3_rests_16 ?_
    exact k_zret hx hb hr hlocks hP hS dX3_rests_17 (by omega) ⟨(bI_f (by omega)).symm, rfl⟩
  · refine lv_iload_n hx hb dX3_rests_5 rfl (lv_at hl 0 rfl) ?_
    refine lv_iload_n hx hb dX3_rests_6 rfl (lv_at hl 1 rfl) ?_
    refine r_add hx hb dX3_rests_7 ?_
    refine lv_iload_n hx hb dX3_rests_8 rfl (lv_at hl 2 rfl) ?_
    refine r_icmp_lt (tgt := 16) hx hb (by omega) (by omega) dX3_rests_9 (by decide) (fun c9 => ?_) (fun c9 => ?_)
    · refine r_const hx hb dX3_rests_16 ?_
      exact k_zret hx hb hr hlocks hP hS dX3_rests_17 (by omega) ⟨(bI_f (by omega)).symm, rfl⟩
    · refine r_const hx hb dX3_rests_12 ?_
      refine lv_goto (tgt := 17) hx hb dX3_rests_13 (by decide) ?_
      exact k_zret hx hb hr hlocks hP hS dX3_rests_17 (by omega) ⟨(bI_t (by omega)).symm, rfl⟩
abbrev rmX3_breaksRest : Room := { frames := 1, cells := 0, slots := 0, locals := 22 }
set_option maxRecDepth 100000 in
set_option maxHeartbeats 4000000 in
theorem c_X3_breaksRest {l : Launch} {D : va_G} {G : Nat → ClassId} {ad : Nat → Nat} {σ τ : Tb} (hi : kInj 189 ad) {w d e : Int} {les : Prop} (hI : Inv σ) (hw : 0 ≤ w ∧ w < σ 0 2) (hd : 0 ≤ d) (he : e = d + σ 14 w - 1) (he2 : e ≤ 399) (hG : Gth σ τ (cnts σ w les) (nrP σ (cnts σ w les) (σ 17 w).toNat)) : Met l yX3_breaksRest wsX3_breaksRest rmX3_breaksRest (kPc D (tysG G) 189 ad (CE G ad σ τ) [.ref (ad 4), .ref (ad (69 + w.toNat)), .int (iI d), .int (iI e)]) (kQi D 189 ad (fun z E' => z = bI (ex2 (B6 σ w d les)) ∧ ∃ τ', E' = CE G ad σ τ' ∧ (ex2 (B6 σ w d les) → isFst (B6 σ w d les) (τ' 2 2) (τ' 2 3)) ∧ FrF τ τ')) 0 0 (kA 189 ad) := by
  refine k_met (cc := cX3_breaksRest) (maxL := 9) (ret := (some .boolean)) (by decide) (Nat.le_of_ble_eq_true rfl) ?_
  intro P0 e0 s m0 below meth c0 ls hx hb hr hlocks hml hown hts hK hP hS hl
  replace hl : lv_has ls 9 [(0, _), (1, _), (2, _), (3, _)] := hl
  replace hown : s.vm.findClass RX3 = some m0.cls := hown
  refine k_abs (fun Wg hWg => ?_)
  have h0 := Inv_0 hI
  obtain ⟨hN, _, _⟩ := Inv_w hI hw
  have hq0 := IQ_0 hI hw
  unfold IN at hN
  have hL := hG.2.2
  have hL1 := hL.1
  refine r_const hx hb dX3_breaksRest_0 ?_
  refine lv_istore hx hb dX3_breaksRest_1 hl (by decide) rfl (fun ls hl => ?_)
  replace hl : lv_has ls 9 [(0, _), (1, _), (2, _), (3, _), (4, _)] := lv_sub hl [1, 2, 3, 4, 0] rfl
  have loop3 : ∀ (n : Nat) (k : Int) (H : Heap) (locs : List Loc) (ls : Array Slot), va_P D vwCl (kw 189 ad (CE G ad σ τ)) H → va_S (kA 189 ad) s.heap H locs → lv_has ls 9 [(0, .ref (ad 4)), (1, .ref (ad (69 + w.toNat))), (2, .int (iI d)), (3, .int (iI e)), (4, .int (iI k))] → ((0 ≤ k ∧ k ≤ σ 18 w) ∧ (∀ j o, 0 ≤ j → j < k → 0 ≤ o → o < σ 0 2 → ¬ B6o σ w d les (PQ σ w j) o)) → (σ 18 w - k).toNat < n → Wg H locs (F0 m0 3 ls []) := by
    intro n
    induction n with
    | zero => intro k H locs ls _ _ _ _ hn; omega
    | succ n ih3 =>
      intro k H locs ls hP hS hl hv3 hn3
      rw [hWg]
      obtain ⟨hv, hno⟩ := hv3
      refine lv_iload hx hb dX3_breaksRest_3 (lv_at hl 4 rfl) ?_
      refine lv_aload_n hx hb dX3_breaksRest_5 rfl (lv_at hl 1 rfl) ?_
      refine r_get (C := RX7) (T := TX7) (N := 16) (ci := 7) hx hb hts hi_X7 hown hK hP 2 rfl (by decide) lk_X3_100 (fun _ h9 => h9) dX3_breaksRest_6 (by omega) (CE_w (by omega)) rfl ?_
      refine r_icmp_ge (tgt := 169) hx hb (by omega) (by omega) dX3_breaksRest_9 (by decide) (fun c9 => ?_) (fun c9 => ?_)
      · have hn2 : ¬ ex2 (B6 σ w d les) := by
          rintro ⟨a, p, _, q2, q3, o, o1, o2, q4⟩
          obtain ⟨_, j, j1, j2, j3⟩ := IQ_p hI hw q2.1 q3
          exact hno j o j1 (by omega) o1 o2 (by rw [j3]; exact q4)
        refine r_const hx hb dX3_breaksRest_169 ?_
        exact k_zret hx hb hr hlocks hP hS dX3_breaksRest_170 (by omega) ⟨(bI_f hn2).symm, τ, rfl, fun q => absurd q hn2, FrF_rf⟩
      · obtain ⟨hp, hon⟩ := IQ_k hI hw (k := k) (by omega)
        have hip := Inv_p hI hp
        unfold IP at hip
        refine lv_aload_n hx hb dX3_breaksRest_12 rfl (lv_at hl 1 rfl) ?_
        refine r_get (C := RX7) (T := TX7) (N := 16) (ci := 7) hx hb hts hi_X7 hown hK hP 1 rfl (by decide) lk_X3_85 (fun _ h9 => h9) dX3_breaksRest_13 (by omega) (CE_w (by omega)) rfl ?_
        refine lv_iload hx hb dX3_breaksRest_16 (lv_at hl 4 rfl) ?_
        refine r_iald hx hb hK hP 0 rfl dX3_breaksRest_18 (by omega) (CE_q (by omega)) (by omega) (by omega) tQ_PQ ?_
        refine lv_istore hx hb dX3_breaksRest_19 hl (by decide) rfl (fun ls hl => ?_)
        replace hl : lv_has ls 9 [(0, _), (1, _), (2, _), (3, _), (4, _), (5, _)] := lv_sub hl [1, 2, 3, 4, 5, 0] rfl
        refine lv_aload_n hx hb dX3_breaksRest_21 rfl (lv_at hl 0 rfl) ?_
        refine r_get (C := RX3) (T := TX3) (N := 5) (ci := 3) hx hb hts hi_X3 hown hK hP 0 rfl (by decide) lk_X3_9 (fun _ h9 => h9) dX3_breaksRest_22 (by omega) CE_4 rfl ?_
        refine r_get (C := RX5) (T := TX5) (N := 8) (ci := 5) hx hb hts hi_X5 hown hK hP 0 rfl (by decide) lk_X3_103 (fun _ h9 => h9) dX3_breaksRest_25 (by omega) CE_1 rfl ?_
        refine lv_iload hx hb dX3_breaksRest_28 (lv_at hl 5 rfl) ?_
        refine r_aald hx hb hK hP 4 rfl dX3_breaksRest_30 (by omega) rfl (by omega) (by omega) rfl ?_
        refine r_get (C := RX2) (T := TX2) (N := 6) (ci := 2) hx hb hts hi_X2 hown hK hP 5 rfl (by decide) lk_X3_163 (fun _ h9 => h9) dX3_breaksRest_31 (by omega) (CE_p (by omega)) rfl ?_
        refine lv_istore hx hb dX3_breaksRest_34 hl (by decide) rfl (fun ls hl => ?_)
        replace hl : lv_has ls 9 [(0, _), (1, _), (2, _), (3, _), (4, _), (5, _), (6, _)] := lv_sub hl [1, 2, 3, 4, 5, 6, 0] rfl
        refine r_const hx hb dX3_breaksRest_36 ?_
        refine lv_istore hx hb dX3_breaksRest_37 hl (by decide) rfl (fun ls hl => ?_)
        replace hl : lv_has ls 9 [(0, _), (1, _), (2, _), (3, _), (4, _), (5, _), (6, _), (7, _)] := lv_sub hl [1, 2, 3, 4, 5, 6, 7, 0] rfl
        have loop39 : ∀ (n : Nat) (i : Int) (H : Heap) (locs : List Loc) (ls : Array Slot), va_P D vwCl (kw 189 ad (CE G ad σ τ)) H → va_S (kA 189 ad) s.heap H locs → lv_has ls 9 [(0, .ref (ad 4)), (1, .ref (ad (69 + w.toNat))), (2, .int (iI d)), (3, .int (iI e)), (4, .int (iI k)), (5, .int (iI (PQ σ w k))), (6, .int (iI (σ 6 (PQ σ w k)))), (7, .int (iI i))] → ((0 ≤ i ∧ i ≤ τ 2 1) ∧ (∀ j, 0 ≤ j → j < i → ¬ B6o σ w d les (PQ σ w k) (τ 3 j))) → (τ 2 1 - i).toNat < n → Wg H locs (F0 m0 39 ls []) := by
          intro n
          induction n with
          | zero => intro i H locs ls _ _ _ _ hn; omega
          | succ n ih39 =>
            intro i H locs ls hP hS hl hv39 hn39
            rw [hWg]
            obtain ⟨hv2, hno2⟩ := hv39
            refine lv_iload hx hb dX3_breaksRest_39 (lv_at hl 7 rfl) ?_
            refine lv_aload_n hx hb dX3_breaksRest_41 rfl (lv_at hl 0 rfl) ?_
            refine r_get (C := RX3) (T := TX3) (N := 5) (ci := 3) hx hb hts hi_X3 hown hK hP 1 rfl (by decide) lk_X3_15 (fun _ h9 => h9) dX3_breaksRest_42 (by omega) CE_4 rfl ?_
            refine r_get (C := RX0) (T := TX0) (N := 9) (ci := 0) hx hb hts hi_X0 hown hK hP 5 rfl (by decide) lk_X3_121 (fun _ h9 => h9) dX3_breaksRest_45 (by omega) CE_2 rfl ?_
            refine r_icmp_ge (tgt := 163) hx hb (by omega) (by omega) dX3_breaksRest_48 (by decide) (fun c48 => ?_) (fun c48 => ?_)
            · have hno3 : ∀ j o, 0 ≤ j → j < k + 1 → 0 ≤ o → o < σ 0 2 → ¬ B6o σ w d les (PQ σ w j) o := by
                intro j o j1 j2 o1 o2 q
                rcases (show j < k ∨ j = k by omega) with y | y
                · exact hno j o j1 y o1 o2 q
                · rw [y] at q
                  obtain ⟨i', i1, i2, i3⟩ := hL.2.2.1 o o1 o2 (nrP_on.mpr ⟨q.1, PQ σ w k, hp.1, q.2.1, hon⟩)
                  exact hno2 i' i1 (by omega) (by rw [i3]; exact q)
              refine r_iinc hx hb dX3_breaksRest_163 hl (k := 4) rfl (by decide) (fun ls hl => ?_)
              replace hl : lv_has ls 9 [(0, _), (1, _), (2, _), (3, _), (4, _), (5, _), (6, _), (7, _)] := lv_sub hl [1, 2, 3, 4, 0, 5, 6, 7] rfl
              refine lv_goto (tgt := 3) hx hb dX3_breaksRest_166 (by decide) ?_
              rw [← hWg]
              exact ih3 (k + 1) _ _ _ hP hS (lv_sub hl [0, 1, 2, 3, 4] rfl) ⟨by omega, hno3⟩ (by omega)
            · obtain ⟨hm, hnr⟩ := hL.2.1 i (by omega) (by omega)
              obtain ⟨hNo, hQo, _⟩ := Inv_w hI hm
              have hBo := IN_b hI hm
              unfold IN at hNo
              unfold IQ at hQo
              have join157 : ∀  (H : Heap) (locs : List Loc) (ls : Array Slot), va_P D vwCl (kw 189 ad (CE G ad σ τ)) H → va_S (kA 189 ad) s.heap H locs → lv_has ls 9 [(0, .ref (ad 4)), (1, .ref (ad (69 + w.toNat))), (2, .int (iI d)), (3, .int (iI e)), (4, .int (iI k)), (5, .int (iI (PQ σ w k))), (6, .int (iI (σ 6 (PQ σ w k)))), (7, .int (iI i))] → (¬ B6o σ w d les (PQ σ w k) (τ 3 i)) → Wg H locs (F0 m0 157 ls []) := by
                intro  H locs ls hP hS hl hv157
                rw [hWg]
                have hno3 : ∀ j, 0 ≤ j → j < i + 1 → ¬ B6o σ w d les (PQ σ w k) (τ 3 j) := by
                  intro j j1 j2
                  rcases (show j < i ∨ j = i by omega) with y | y
                  · exact hno2 j j1 y
                  · rw [y]; exact hv157
                refine r_iinc hx hb dX3_breaksRest_157 hl (k := 7) rfl (by decide) (fun ls hl => ?_)
                replace hl : lv_has ls 9 [(0, _), (1, _), (2, _), (3, _), (4, _), (5, _), (6, _), (7, _)] := lv_sub hl [1, 2, 3, 4, 5, 6, 7, 0] rfl
                refine lv_goto (tgt := 39) hx hb dX3_breaksRest_160 (by decide) ?_
                rw [← hWg]
                exact ih39 (i + 1) _ _ _ hP hS hl ⟨by omega, hno3⟩ (by omega)
              have hfin : B6o σ w d les (PQ σ w k) (τ 3 i) → B6 σ w d les d (PQ σ w k) ∧ isFst (B6 σ w d les) d (PQ σ w k) := by
                intro q
                have hB : B6 σ w d les d (PQ σ w k) := ⟨rfl, hp, hon, τ 3 i, hm.1, hm.2, q⟩
                refine ⟨hB, fst_mk hB (fun a' b' z => by rw [z.1]; omega) (fun b' z => ?_)⟩
                obtain ⟨_, z2, z3, o, o1, o2, z4⟩ := z
                obtain ⟨_, j, j1, j2, j3⟩ := IQ_p hI hw z2.1 z3
                rcases (show j < k ∨ j = k ∨ k < j by omega) with y | y | y
                · exact absurd (by rw [j3]; exact z4) (hno j o j1 y o1 o2)
                · rw [← j3, y]; omega
                · have := IQ_lt hI hw (j := k) (k := j) (by omega); omega
              refine lv_aload_n hx hb dX3_breaksRest_51 rfl (lv_at hl 0 rfl) ?_
              refine r_get (C := RX3) (T := TX3) (N := 5) (ci := 3) hx hb hts hi_X3 hown hK hP 0 rfl (by decide) lk_X3_9 (fun _ h9 => h9) dX3_breaksRest_52 (by omega) CE_4 rfl ?_
              refine r_get (C := RX5) (T := TX5) (N := 8) (ci := 5) hx hb hts hi_X5 hown hK hP 2 rfl (by decide) lk_X3_124 (fun _ h9 => h9) dX3_breaksRest_55 (by omega) CE_1 rfl ?_
              refine lv_aload_n hx hb dX3_breaksRest_58 rfl (lv_at hl 0 rfl) ?_
              refine r_get (C := RX3) (T := TX3) (N := 5) (ci := 3) hx hb hts hi_X3 hown hK hP 1 rfl (by decide) lk_X3_15 (fun _ h9 => h9) dX3_breaksRest_59 (by omega) CE_4 rfl ?_
              refine r_get (C := RX0) (T := TX0) (N := 9) (ci := 0) hx hb hts hi_X0 hown hK hP 4 rfl (by decide) lk_X3_128 (fun _ h9 => h9) dX3_breaksRest_62 (by omega) CE_2 rfl ?_
              refine lv_iload hx hb dX3_breaksRest_65 (lv_at hl 7 rfl) ?_
              refine r_iald hx hb hK hP 0 rfl dX3_breaksRest_67 (by omega) rfl (by omega) (by omega) (tI_at (by omega)) ?_
              refine r_aald hx hb hK hP 5 rfl dX3_breaksRest_68 (by omega) rfl (by omega) (by omega) rfl ?_
              refine lv_astore hx hb dX3_breaksRest_69 hl (by decide) rfl (fun ls hl => ?_)
              replace hl : lv_has ls 9 [(0, _), (1, _), (2, _), (3, _), (4, _), (5, _), (6, _), (7, _), (8, _)] := lv_sub hl [1, 2, 3, 4, 5, 6, 7, 8, 0] rfl
              refine lv_aload hx hb dX3_breaksRest_71 (lv_at hl 8 rfl) ?_
              refine lv_iload hx hb dX3_breaksRest_73 (lv_at hl 5 rfl) ?_
              refine k_calliV (nL := 9) (C := RX7) (T := TX7) (N := 16) (ci := 7) hx hb hml hown hts hK hP hS hl.1 (c_X7_uses hi (by omega) (by omega) hQo.1) rfl (Nat.le_of_ble_eq_true rfl) rfl (cwV 1 hts (gV lm_X3_159 ti_X7_uses tl_X7_uses tn_X7 tc_X7_uses) rfl rfl rfl (by decide +kernel) ⟨Nat.le_of_ble_eq_true rfl, Nat.le_of_ble_eq_true rfl⟩) rfl dX3_breaksRest_75 ⟨Nat.zero_le _, Nat.zero_le _⟩ (by omega) (CE_w (by omega)) (fun r75 E1 H locs hq hP hS => ?_)
              obtain ⟨rfl, rfl⟩ := hq
              refine r_ifB_ne (tgt := 84) hx hb dX3_breaksRest_78 (by decide) (fun c78 => ?_) (fun c78 => ?_)
              · have join114 : ∀  (H : Heap) (locs : List Loc) (ls : Array Slot), va_P D vwCl (kw 189 ad (CE G ad σ τ)) H → va_S (kA 189 ad) s.heap H locs → lv_has ls 9 [(0, .ref (ad 4)), (1, .ref (ad (69 + w.toNat))), (2, .int (iI d)), (3, .int (iI e)), (4, .int (iI k)), (5, .int (iI (PQ σ w k))), (6, .int (iI (σ 6 (PQ σ w k)))), (7, .int (iI i)), (8, .ref (ad (69 + (τ 3 i).toNat)))] → (¬ (σ 12 w ≠ 3 ∧ σ 21 (τ 3 i) < d ∧ d ≤ σ 21 (τ 3 i) + σ 6 (PQ σ w k))) → Wg H locs (F0 m0 114 ls []) := by
                  intro  H locs ls hP hS hl hv114
                  rw [hWg]
                  refine lv_aload hx hb dX3_breaksRest_114 (lv_at hl 8 rfl) ?_
                  refine r_get (C := RX7) (T := TX7) (N := 16) (ci := 7) hx hb hts hi_X7 hown hK hP 5 rfl (by decide) lk_X3_166 (fun _ h9 => h9) dX3_breaksRest_116 (by omega) (CE_w (by omega)) rfl ?_
                  refine r_const hx hb dX3_breaksRest_119 ?_
                  refine r_icmp_eq (tgt := 157) hx hb (by omega) (by omega) dX3_breaksRest_120 (by decide) (fun c120 => ?_) (fun c120 => ?_)
                  · rw [← hWg]
                    exact join157  _ _ _ hP hS (lv_sub hl [0, 1, 2, 3, 4, 5, 6, 7] rfl) (fun q => by rcases q.2.2 with z | z; { exact hv114 z }; { exact z.1 c120 })
                  · refine lv_aload hx hb dX3_breaksRest_123 (lv_at hl 8 rfl) ?_
                    refine r_get (C := RX7) (T := TX7) (N := 16) (ci := 7) hx hb hts hi_X7 hown hK hP 10 rfl (by decide) lk_X3_173 (fun _ h9 => h9) dX3_breaksRest_125 (by omega) (CE_w (by omega)) rfl ?_
                    refine r_const hx hb dX3_breaksRest_128 ?_
                    refine r_icmp_ne (tgt := 135) hx hb (by omega) (by omega) dX3_breaksRest_129 (by decide) (fun c129 => ?_) (fun c129 => ?_)
                    · refine lv_iload_n hx hb dX3_breaksRest_135 rfl (lv_at hl 3 rfl) ?_
                      refine lv_iload hx hb dX3_breaksRest_136 (lv_at hl 6 rfl) ?_
                      refine lv_aload hx hb dX3_breaksRest_138 (lv_at hl 8 rfl) ?_
                      refine r_get (C := RX7) (T := TX7) (N := 16) (ci := 7) hx hb hts hi_X7 hown hK hP 11 rfl (by decide) lk_X3_140 (fun _ h9 => h9) dX3_breaksRest_140 (by omega) (CE_w (by omega)) rfl ?_
                      refine k_calliS (nL := 9) hx hb hml hown hts hK hP hS hl.1 (c_X3_rests hi (by omega) (by omega) (by omega)) rfl (Nat.le_of_ble_eq_true rfl) (va_cwS 3 hts (gS lm_X3_169 ts_X3_rests tn_X3 tc_X3_rests) rfl rfl rfl (by decide +kernel) ⟨Nat.le_of_ble_eq_true rfl, Nat.le_of_ble_eq_true rfl⟩) rfl dX3_breaksRest_143 ⟨Nat.zero_le _, Nat.zero_le _⟩ (fun r143 E1 H locs hq hP hS => ?_)
                      obtain ⟨rfl, rfl⟩ := hq
                      refine r_ifB_eq (tgt := 157) hx hb dX3_breaksRest_146 (by decide) (fun c146 => ?_) (fun c146 => ?_)
                      · rw [← hWg]
                        exact join157  _ _ _ hP hS (lv_sub hl [0, 1, 2, 3, 4, 5, 6, 7] rfl) (fun q => by rcases q.2.2 with z | z; { exact hv114 z }; { exact c146 (by omega) })
                      · have hx6 := hfin ⟨hnr.1, c78, Or.inr ⟨c120, c129, by omega, by omega⟩⟩
                        refine lv_aload_n hx hb dX3_breaksRest_149 rfl (lv_at hl 0 rfl) ?_
                        refine lv_iload_n hx hb dX3_breaksRest_150 rfl (lv_at hl 2 rfl) ?_
                        refine lv_iload hx hb dX3_breaksRest_151 (lv_at hl 5 rfl) ?_
                        refine k_calliV (nL := 9) (C := RX3) (T := TX3) (N := 5) (ci := 3) hx hb hml hown hts hK hP hS hl.1 (c_X3_found hi) rfl (Nat.le_of_ble_eq_true rfl) rfl (cwV 2 hts (gV lm_X3_89 ti_X3_found tl_X3_found tn_X3 tc_X3_found) rfl rfl rfl (by decide +kernel) ⟨Nat.le_of_ble_eq_true rfl, Nat.le_of_ble_eq_true rfl⟩) rfl dX3_breaksRest_153 ⟨Nat.zero_le _, Nat.zero_le _⟩ (by omega) CE_4 (fun r153 E1 H locs hq hP hS => ?_)
                        obtain ⟨rfl, rfl⟩ := hq
                        exact k_zret hx hb hr hlocks hP hS dX3_breaksRest_156 (by omega) ⟨(bI_t ⟨d, _, hx6.1⟩).symm, _, rfl, fun q => by rw [fnd_2.1, fnd_2.2]; exact hx6.2, fnd_F FrF_rf⟩
                    · refine lv_goto (tgt := 157) hx hb dX3_breaksRest_132 (by decide) ?_
                      rw [← hWg]
                      exact join157  _ _ _ hP hS (lv_sub hl [0, 1, 2, 3, 4, 5, 6, 7] rfl) (fun q => by rcases q.2.2 with z | z; { exact hv114 z }; { exact z.2.1 c129 })
                refine lv_aload_n hx hb dX3_breaksRest_84 rfl (lv_at hl 1 rfl) ?_
                refine r_get (C := RX7) (T := TX7) (N := 16) (ci := 7) hx hb hts hi_X7 hown hK hP 5 rfl (by decide) lk_X3_166 (fun _ h9 => h9) dX3_breaksRest_85 (by omega) (CE_w (by omega)) rfl ?_
                refine r_const hx hb dX3_breaksRest_88 ?_
                refine r_icmp_eq (tgt := 114) hx hb (by omega) (by omega) dX3_breaksRest_89 (by decide) (fun c89 => ?_) (fun c89 => ?_)
                · rw [← hWg]
                  exact join114  _ _ _ hP hS hl (fun q => q.1 c89)
                · refine lv_aload hx hb dX3_breaksRest_92 (lv_at hl 8 rfl) ?_
                  refine r_get (C := RX7) (T := TX7) (N := 16) (ci := 7) hx hb hts hi_X7 hown hK hP 12 rfl (by decide) lk_X3_149 (fun _ h9 => h9) dX3_breaksRest_94 (by omega) (CE_w (by omega)) rfl ?_
                  refine lv_iload hx hb dX3_breaksRest_97 (lv_at hl 6 rfl) ?_
                  refine lv_iload_n hx hb dX3_breaksRest_99 rfl (lv_at hl 2 rfl) ?_
                  refine k_calliS (nL := 9) hx hb hml hown hts hK hP hS hl.1 (c_X3_rests hi (by omega) (by omega) (by omega)) rfl (Nat.le_of_ble_eq_true rfl) (va_cwS 3 hts (gS lm_X3_169 ts_X3_rests tn_X3 tc_X3_rests) rfl rfl rfl (by decide +kernel) ⟨Nat.le_of_ble_eq_true rfl, Nat.le_of_ble_eq_true rfl⟩) rfl dX3_breaksRest_100 ⟨Nat.zero_le _, Nat.zero_le _⟩ (fun r100 E1 H locs hq hP hS => ?_)
                  obtain ⟨rfl, rfl⟩ := hq
                  refine r_ifB_eq (tgt := 114) hx hb dX3_breaksRest_103 (by decide) (fun c103 => ?_) (fun c103 => ?_)
                  · rw [← hWg]
                    exact join114  _ _ _ hP hS hl (fun q => c103 (by omega))
                  · have hx6 := hfin ⟨hnr.1, c78, Or.inl ⟨c89, by omega, by omega⟩⟩
                    refine lv_aload_n hx hb dX3_breaksRest_106 rfl (lv_at hl 0 rfl) ?_
                    refine lv_iload_n hx hb dX3_breaksRest_107 rfl (lv_at hl 2 rfl) ?_
                    refine lv_iload hx hb dX3_breaksRest_108 (lv_at hl 5 rfl) ?_
                    refine k_calliV (nL := 9) (C := RX3) (T := TX3) (N := 5) (ci := 3) hx hb hml hown hts hK hP hS hl.1 (c_X3_found hi) rfl (Nat.le_of_ble_eq_true rfl) rfl (cwV 2 hts (gV lm_X3_89 ti_X3_found tl_X3_found tn_X3 tc_X3_found) rfl rfl rfl (by decide +kernel) ⟨Nat.le_of_ble_eq_true rfl, Nat.le_of_ble_eq_true rfl⟩) rfl dX3_breaksRest_110 ⟨Nat.zero_le _, Nat.zero_le _⟩ (by omega) CE_4 (fun r110 E1 H locs hq hP hS => ?_)
                    obtain ⟨rfl, rfl⟩ := hq
                    exact k_zret hx hb hr hlocks hP hS dX3_breaksRest_113 (by omega) ⟨(bI_t ⟨d, _, hx6.1⟩).symm, _, rfl, fun q => by rw [fnd_2.1, fnd_2.2]; exact hx6.2, fnd_F FrF_rf⟩
              · refine lv_goto (tgt := 157) hx hb dX3_breaksRest_81 (by decide) ?_
                rw [← hWg]
                exact join157  _ _ _ hP hS (lv_sub hl [0, 1, 2, 3, 4, 5, 6, 7] rfl) (fun q => c78 q.2.1)
        rw [← hWg]
        exact loop39 _ 0 _ _ _ hP hS hl ⟨by omega, fun j j1 j2 => by omega⟩ (Nat.lt_succ_self _)
  rw [← hWg]
  exact loop3 _ 0 _ _ _ hP hS hl ⟨by omega, fun j o j1 j2 => by omega⟩ (Nat.lt_succ_self _)
/-! ===== rule 7 ===== -/
def clP (σ : Tb) (C : Int → Prop) (w t p : Int) : Prop := tkC σ C p t < σ 3 p ∧ σ 3 p ≤ tkC σ C p t + lnA σ C w t
def clM (σ : Tb) (C : Int → Prop) (w t k : Int) (M : Nat) : Prop := M < 1099511627776 ∧ ∀ p, 0 ≤ p → (M.testBit p.toNat = true ↔ ∃ j, 0 ≤ j ∧ j < k ∧ PQ σ w j = p ∧ clP σ C w t p)
theorem or_bit {M q : Nat} {p : Nat} : (M ||| 2 ^ q).testBit p = true ↔ M.testBit p = true ∨ q = p := by
  rw [Nat.testBit_or, Bool.or_eq_true, Nat.testBit_two_pow]
  simp
abbrev rmX3_closedBy : Room := { frames := 0, cells := 0, slots := 0, locals := 0 }
set_option maxRecDepth 100000 in
set_option maxHeartbeats 4000000 in
theorem c_X3_closedBy {l : Launch} {D : va_G} {G : Nat → ClassId} {ad : Nat → Nat} {σ τ : Tb} (hi : kInj 189 ad) {w d e t : Int} {C : Int → Prop} (hI : Inv σ) (hw : 0 ≤ w ∧ w < σ 0 2) (ht : 0 ≤ t ∧ t ≤ 399) (hdt : d ≤ t ∧ t ≤ e) (hB0 : SB σ τ C w d e) : Met l yX3_closedBy wsX3_closedBy rmX3_closedBy (kPc D (tysG G) 189 ad (CE G ad σ τ) [.ref (ad 4), .ref (ad (69 + w.toNat)), .int (iI t)]) (kQl D 189 ad (fun z E' => clM σ C w t (σ 18 w) z ∧ E' = CE G ad σ τ)) 0 0 (kA 189 ad) := by
  refine k_met (cc := cX3_closedBy) (maxL := 8) (ret := (some .long)) (by decide) (Nat.le_of_ble_eq_true rfl) ?_
  intro P0 e0 s m0 below meth c0 ls hx hb hr hlocks hml hown hts hK hP hS hl
  replace hl : lv_has ls 8 [(0, _), (1, _), (2, _)] := hl
  replace hown : s.vm.findClass RX3 = some m0.cls := hown
  refine k_abs (fun Wg hWg => ?_)
  have h0 := Inv_0 hI
  have hq0 := IQ_0 hI hw
  have hr2 := lnA_r (C := C) hI (day := t) hw
  refine r_lconst0 hx hb dX3_closedBy_0 ?_
  refine lv_lstore_n hx hb dX3_closedBy_1 rfl hl (by decide) rfl (fun ls hl => ?_)
  replace hl : lv_has ls 8 [(0, _), (1, _), (2, _), (3, _)] := lv_sub hl [1, 2, 3, 0] rfl
  refine r_const hx hb dX3_closedBy_2 ?_
  refine lv_istore hx hb dX3_closedBy_3 hl (by decide) rfl (fun ls hl => ?_)
  replace hl : lv_has ls 8 [(0, _), (1, _), (2, _), (3, _), (5, _)] := lv_sub hl [1, 2, 3, 4, 0] rfl
  have loop5 : ∀ (n : Nat) (k : Int) (M : Nat) (H : Heap) (locs : List Loc) (ls : Array Slot), va_P D vwCl (kw 189 ad (CE G ad σ τ)) H → va_S (kA 189 ad) s.heap H locs → lv_has ls 8 [(0, .ref (ad 4)), (1, .ref (ad (69 + w.toNat))), (2, .int (iI t)), (3, .long (lN M)), (5, .int (iI k))] → ((0 ≤ k ∧ k ≤ σ 18 w) ∧ clM σ C w t k M) → (σ 18 w - k).toNat < n → Wg H locs (F0 m0 5 ls []) := by
    intro n
    induction n with
    | zero => intro k M H locs ls _ _ _ _ hn; omega
    | succ n ih5 =>
      intro k M H locs ls hP hS hl hv5 hn5
      rw [hWg]
      obtain ⟨hv, hM1, hM2⟩ := hv5
      refine lv_iload hx hb dX3_closedBy_5 (lv_at hl 4 rfl) ?_
      refine lv_aload_n hx hb dX3_closedBy_7 rfl (lv_at hl 1 rfl) ?_
      refine r_get (C := RX7) (T := TX7) (N := 16) (ci := 7) hx hb hts hi_X7 hown hK hP 2 rfl (by decide) lk_X3_100 (fun _ h9 => h9) dX3_closedBy_8 (by omega) (CE_w (by omega)) rfl ?_
      refine r_icmp_ge (tgt := 90) hx hb (by omega) (by omega) dX3_closedBy_11 (by decide) (fun c11 => ?_) (fun c11 => ?_)
      · obtain rfl : k = σ 18 w := by omega
        refine lv_lload_n hx hb dX3_closedBy_90 rfl (lv_at hl 3 rfl) ?_
        exact k_lret hx hb hr hlocks hP hS dX3_closedBy_91 ⟨⟨hM1, hM2⟩, rfl⟩
      · obtain ⟨hp, hon⟩ := IQ_k hI hw (k := k) (by omega)
        have hip := Inv_p hI hp
        unfold IP at hip
        have hr1 := tkC_r (C := C) hI (p := PQ σ w k) (day := t)
        have h2 : 2 ^ (PQ σ w k).toNat < 2 ^ 40 := Nat.pow_lt_pow_right (by decide) (by omega)
        have hskip : ¬ clP σ C w t (PQ σ w k) → clM σ C w t (k + 1) M := by
          intro hn
          refine ⟨hM1, fun p p1 => (hM2 p p1).trans ⟨fun ⟨j, j1, j2, j3⟩ => ⟨j, j1, by omega, j3⟩, fun ⟨j, j1, j2, j3, j4⟩ => ⟨j, j1, ?_, j3, j4⟩⟩⟩
          rcases (show j < k ∨ j = k by omega) with y | y
          · exact y
          · rw [y] at j3
            rw [← j3] at j4
            exact absurd j4 hn
        refine lv_aload_n hx hb dX3_closedBy_14 rfl (lv_at hl 0 rfl) ?_
        refine r_get (C := RX3) (T := TX3) (N := 5) (ci := 3) hx hb hts hi_X3 hown hK hP 0 rfl (by decide) lk_X3_9 (fun _ h9 => h9) dX3_closedBy_15 (by omega) CE_4 rfl ?_
        refine r_get (C := RX5) (T := TX5) (N := 8) (ci := 5) hx hb hts hi_X5 hown hK hP 0 rfl (by decide) lk_X3_103 (fun _ h9 => h9) dX3_closedBy_18 (by omega) CE_1 rfl ?_
        refine lv_aload_n hx hb dX3_closedBy_21 rfl (lv_at hl 1 rfl) ?_
        refine r_get (C := RX7) (T := TX7) (N := 16) (ci := 7) hx hb hts hi_X7 hown hK hP 1 rfl (by decide) lk_X3_85 (fun _ h9 => h9) dX3_closedBy_22 (by omega) (CE_w (by omega)) rfl ?_
        refine lv_iload hx hb dX3_closedBy_25 (lv_at hl 4 rfl) ?_
        refine r_iald hx hb hK hP 0 rfl dX3_closedBy_27 (by omega) (CE_q (by omega)) (by omega) (by omega) tQ_PQ ?_
        refine r_aald hx hb hK hP 4 rfl dX3_closedBy_28 (by omega) rfl (by omega) (by omega) rfl ?_
        refine r_get (C := RX2) (T := TX2) (N := 6) (ci := 2) hx hb hts hi_X2 hown hK hP 2 rfl (by decide) lk_X3_118 (fun _ h9 => h9) dX3_closedBy_29 (by omega) (CE_p (by omega)) rfl ?_
        refine lv_istore hx hb dX3_closedBy_32 hl (by decide) rfl (fun ls hl => ?_)
        replace hl : lv_has ls 8 [(0, _), (1, _), (2, _), (3, _), (5, _), (6, _)] := lv_sub hl [1, 2, 3, 4, 5, 0] rfl
        refine lv_aload_n hx hb dX3_closedBy_34 rfl (lv_at hl 0 rfl) ?_
        refine r_get (C := RX3) (T := TX3) (N := 5) (ci := 3) hx hb hts hi_X3 hown hK hP 1 rfl (by decide) lk_X3_15 (fun _ h9 => h9) dX3_closedBy_35 (by omega) CE_4 rfl ?_
        refine r_get (C := RX0) (T := TX0) (N := 9) (ci := 0) hx hb hts hi_X0 hown hK hP 7 rfl (by decide) lk_X3_111 (fun _ h9 => h9) dX3_closedBy_38 (by omega) CE_2 rfl ?_
        refine lv_iload hx hb dX3_closedBy_41 (lv_at hl 4 rfl) ?_
        refine r_aaldA hx hb hK hP 6 rfl dX3_closedBy_43 (by omega) rfl (by omega) (by omega) rfl ?_
        refine lv_iload_n hx hb dX3_closedBy_44 rfl (lv_at hl 2 rfl) ?_
        refine r_iald hx hb hK hP 0 rfl dX3_closedBy_45 (by omega) (CE_b (by omega)) (by omega) (by omega) (tI_at (by omega)) ?_
        rw [(hB0.2 k t (by omega) (by omega) (by omega) (by omega))]
        refine lv_istore hx hb dX3_closedBy_46 hl (by decide) rfl (fun ls hl => ?_)
        replace hl : lv_has ls 8 [(0, _), (1, _), (2, _), (3, _), (5, _), (6, _), (7, _)] := lv_sub hl [1, 2, 3, 4, 5, 6, 0] rfl
        refine lv_iload hx hb dX3_closedBy_48 (lv_at hl 6 rfl) ?_
        refine lv_iload hx hb dX3_closedBy_50 (lv_at hl 5 rfl) ?_
        refine r_icmp_ge (tgt := 84) hx hb (by omega) (by omega) dX3_closedBy_52 (by decide) (fun c52 => ?_) (fun c52 => ?_)
        · have hs := hskip (fun q => by have := q.1; omega)
          refine r_iinc hx hb dX3_closedBy_84 hl (k := 4) rfl (by decide) (fun ls hl => ?_)
          replace hl : lv_has ls 8 [(0, _), (1, _), (2, _), (3, _), (5, _), (6, _), (7, _)] := lv_sub hl [1, 2, 3, 4, 0, 5, 6] rfl
          refine lv_goto (tgt := 5) hx hb dX3_closedBy_87 (by decide) ?_
          rw [← hWg]
          exact ih5 (k + 1) _ _ _ _ hP hS (lv_sub hl [0, 1, 2, 3, 4] rfl) ⟨by omega, hs⟩ (by omega)
        · refine lv_iload hx hb dX3_closedBy_55 (lv_at hl 6 rfl) ?_
          refine lv_aload_n hx hb dX3_closedBy_57 rfl (lv_at hl 0 rfl) ?_
          refine r_get (C := RX3) (T := TX3) (N := 5) (ci := 3) hx hb hts hi_X3 hown hK hP 1 rfl (by decide) lk_X3_15 (fun _ h9 => h9) dX3_closedBy_58 (by omega) CE_4 rfl ?_
          refine r_get (C := RX0) (T := TX0) (N := 9) (ci := 0) hx hb hts hi_X0 hown hK hP 8 rfl (by decide) lk_X3_115 (fun _ h9 => h9) dX3_closedBy_61 (by omega) CE_2 rfl ?_
          refine lv_iload_n hx hb dX3_closedBy_64 rfl (lv_at hl 2 rfl) ?_
          refine r_iald hx hb hK hP 0 rfl dX3_closedBy_65 (by omega) rfl (by omega) (by omega) (tI_at (by omega)) ?_
          rw [(hB0.1 t (by omega) (by omega))]
          refine r_add hx hb dX3_closedBy_66 ?_
          refine lv_iload hx hb dX3_closedBy_67 (lv_at hl 5 rfl) ?_
          refine r_icmp_lt (tgt := 84) hx hb (by omega) (by omega) dX3_closedBy_69 (by decide) (fun c69 => ?_) (fun c69 => ?_)
          · have hs := hskip (fun q => by have := q.2; omega)
            refine r_iinc hx hb dX3_closedBy_84 hl (k := 4) rfl (by decide) (fun ls hl => ?_)
            replace hl : lv_has ls 8 [(0, _), (1, _), (2, _), (3, _), (5, _), (6, _), (7, _)] := lv_sub hl [1, 2, 3, 4, 0, 5, 6] rfl
            refine lv_goto (tgt := 5) hx hb dX3_closedBy_87 (by decide) ?_
            rw [← hWg]
            exact ih5 (k + 1) _ _ _ _ hP hS (lv_sub hl [0, 1, 2, 3, 4] rfl) ⟨by omega, hs⟩ (by omega)
          · have hs : clM σ C w t (k + 1) (M ||| 2 ^ (PQ σ w k).toNat) := by
              refine ⟨Nat.or_lt_two_pow (n := 40) hM1 h2, fun p p1 => ?_⟩
              rw [or_bit, hM2 p p1]
              constructor
              · rintro (⟨j, j1, j2, j3⟩ | q)
                · exact ⟨j, j1, by omega, j3⟩
                · have e : PQ σ w k = p := by omega
                  exact ⟨k, by omega, by omega, e, by rw [← e]; exact ⟨by omega, by omega⟩⟩
              · rintro ⟨j, j1, j2, j3⟩
                rcases (show j < k ∨ j = k by omega) with y | y
                · exact Or.inl ⟨j, j1, y, j3⟩
                · right
                  rw [← j3.1, y]
            refine lv_lload_n hx hb dX3_closedBy_72 rfl (lv_at hl 3 rfl) ?_
            refine r_lconst1 hx hb dX3_closedBy_73 ?_
            refine lv_aload_n hx hb dX3_closedBy_74 rfl (lv_at hl 1 rfl) ?_
            refine r_get (C := RX7) (T := TX7) (N := 16) (ci := 7) hx hb hts hi_X7 hown hK hP 1 rfl (by decide) lk_X3_85 (fun _ h9 => h9) dX3_closedBy_75 (by omega) (CE_w (by omega)) rfl ?_
            refine lv_iload hx hb dX3_closedBy_78 (lv_at hl 4 rfl) ?_
            refine r_iald hx hb hK hP 0 rfl dX3_closedBy_80 (by omega) (CE_q (by omega)) (by omega) (by omega) tQ_PQ ?_
            refine r_lshl1 hx hb dX3_closedBy_81 (by omega) ?_
            refine r_lor hx hb dX3_closedBy_82 (by omega) (by omega) ?_
            refine lv_lstore_n hx hb dX3_closedBy_83 rfl hl (by decide) rfl (fun ls hl => ?_)
            replace hl : lv_has ls 8 [(0, _), (1, _), (2, _), (3, _), (5, _), (6, _), (7, _)] := lv_sub hl [1, 2, 3, 0, 4, 5, 6] rfl
            refine r_iinc hx hb dX3_closedBy_84 hl (k := 4) rfl (by decide) (fun ls hl => ?_)
            replace hl : lv_has ls 8 [(0, _), (1, _), (2, _), (3, _), (5, _), (6, _), (7, _)] := lv_sub hl [1, 2, 3, 4, 0, 5, 6] rfl
            refine lv_goto (tgt := 5) hx hb dX3_closedBy_87 (by decide) ?_
            rw [← hWg]
            exact ih5 (k + 1) _ _ _ _ hP hS (lv_sub hl [0, 1, 2, 3, 4] rfl) ⟨by omega, hs⟩ (by omega)
  rw [← hWg]
  exact loop5 _ 0 0 _ _ _ hP hS hl ⟨by omega, by omega, fun p p1 => ⟨fun q => by simp at q, fun ⟨j, j1, j2, _⟩ => by omega⟩⟩ (Nat.lt_succ_self _)
theorem shM_wo {σ : Tb} (hI : Inv σ) {w t : Int} {les : Prop} : shM σ w (-1) les t = msk (fun p => σ 3 p ≤ tkC σ (cnts σ w les) p t) (σ 0 0).toNat := by
  unfold shM
  congr 1
  funext p
  rw [tkn_wo hI]
theorem shM_wi {σ : Tb} (hI : Inv σ) {w d t : Int} {les : Prop} (hw : 0 ≤ w ∧ w < σ 0 2) (hd : 0 ≤ d ∧ d ≤ t ∧ t < d + σ 14 w) {M : Nat} (hM : clM σ (cnts σ w les) w t (σ 18 w) M) : shM σ w d les t = msk (fun p => σ 3 p ≤ tkC σ (cnts σ w les) p t) (σ 0 0).toNat ||| M := by
  apply Nat.eq_of_testBit_eq
  intro i
  have hr2 := lnA_r (C := cnts σ w les) hI (day := t) hw
  have h1 : (shM σ w d les t).testBit i = true ↔ (msk (fun p => σ 3 p ≤ tkC σ (cnts σ w les) p t) (σ 0 0).toNat ||| M).testBit i = true := by
    rw [Nat.testBit_or, Bool.or_eq_true]
    unfold shM
    rw [msk_bit, msk_bit]
    have hb := hM.2 (i : Int) (by omega)
    rw [Int.toNat_natCast] at hb
    rw [hb]
    have htk := tkn_wi hI (p := (i : Int)) (d := d) (les := les) (day := t) hw hd
    rw [htk]
    constructor
    · rintro ⟨a1, a2⟩
      by_cases q : σ 3 (i : Int) ≤ tkC σ (cnts σ w les) (i : Int) t
      · exact Or.inl ⟨a1, q⟩
      · right
        by_cases hon : isOn σ w (i : Int)
        · rw [cif_t hon] at a2
          obtain ⟨_, j, j1, j2, j3⟩ := IQ_p hI hw (p := (i : Int)) (by omega) hon
          exact ⟨j, j1, j2, j3, by omega, a2⟩
        · rw [cif_f hon] at a2
          omega
    · rintro (⟨a1, a2⟩ | ⟨j, j1, j2, j3, a1, a2⟩)
      · refine ⟨a1, ?_⟩
        by_cases hon : isOn σ w (i : Int)
        · rw [cif_t hon]; omega
        · rw [cif_f hon]; omega
      · obtain ⟨hp, hon⟩ := IQ_k hI hw ⟨j1, j2⟩
        rw [j3] at hp hon
        rw [cif_t hon]
        exact ⟨by omega, a2⟩
  cases e1 : (shM σ w d les t).testBit i <;> cases e2 : (msk (fun p => σ 3 p ≤ tkC σ (cnts σ w les) p t) (σ 0 0).toNat ||| M).testBit i
  · rfl
  · exact absurd (h1.mpr e2) (by rw [e1]; decide)
  · exact absurd (h1.mp e1) (by rw [e2]; decide)
  · rfl
def vio (σ : Tb) (O M : Nat) (k : Int) : Prop := σ 9 k < dst σ (O ||| M) (σ 7 k) (σ 8 k) ∧ dst σ O (σ 7 k) (σ 8 k) ≤ σ 9 k
theorem B7_vio {σ : Tb} (hI : Inv σ) {w d t : Int} {les : Prop} (hw : 0 ≤ w ∧ w < σ 0 2) (hd : 0 ≤ d ∧ d ≤ t ∧ t < d + σ 14 w) {M : Nat} (hM : clM σ (cnts σ w les) w t (σ 18 w) M) (k : Int) : B7 σ w d les t k ↔ (0 ≤ k ∧ k < σ 0 1) ∧ vio σ (msk (fun p => σ 3 p ≤ tkC σ (cnts σ w les) p t) (σ 0 0).toNat) M k := by
  unfold B7 vio
  rw [shM_wo hI, shM_wi hI hw hd hM]
  constructor
  · rintro ⟨_, h2, h3, h4, h5⟩
    exact ⟨⟨h2, h3⟩, h4, h5⟩
  · rintro ⟨⟨h2, h3⟩, h4, h5⟩
    exact ⟨⟨hd.2.1, hd.2.2⟩, h2, h3, h4, h5⟩
def Fr4 (τ τ' : Tb) : Prop := ∀ t i, t ≠ 4 → t ≠ 10 → τ' t i = τ t i
abbrev rmX3_blocksWay : Room := { frames := 2, cells := 0, slots := 0, locals := 53 }
set_option maxRecDepth 100000 in
set_option maxHeartbeats 4000000 in
theorem c_X3_blocksWay {l : Launch} {D : va_G} {G : Nat → ClassId} {ad : Nat → Nat} {σ τ : Tb} (hi : kInj 189 ad) {w d e : Int} {les : Prop} (hI : Inv σ) (hw : 0 ≤ w ∧ w < σ 0 2) (hd : 0 ≤ d) (he : e = d + σ 14 w - 1) (he2 : e ≤ 399) (hG : Gth σ τ (cnts σ w les) (nrP σ (cnts σ w les) (σ 17 w).toNat)) (hB0 : SB σ τ (cnts σ w les) w d e) : Met l yX3_blocksWay wsX3_blocksWay rmX3_blocksWay (kPc D (tysG G) 189 ad (CE G ad σ τ) [.ref (ad 4), .ref (ad (69 + w.toNat)), .int (iI d), .int (iI e)]) (kQi D 189 ad (fun z E' => z = bI (ex2 (B7 σ w d les)) ∧ ∃ τ', E' = CE G ad σ τ' ∧ (ex2 (B7 σ w d les) → isFst (B7 σ w d les) (τ' 2 2) (τ' 2 3)) ∧ Fr2 τ τ')) 0 0 (kA 189 ad) := by
  refine k_met (cc := cX3_blocksWay) (maxL := 15) (ret := (some .boolean)) (by decide) (Nat.le_of_ble_eq_true rfl) ?_
  intro P0 e0 s m0 below meth c0 ls hx hb hr hlocks hml hown hts hK hP hS hl
  replace hl : lv_has ls 15 [(0, _), (1, _), (2, _), (3, _)] := hl
  replace hown : s.vm.findClass RX3 = some m0.cls := hown
  refine k_abs (fun Wg hWg => ?_)
  have h0 := Inv_0 hI
  obtain ⟨hN, _, _⟩ := Inv_w hI hw
  have hq0 := IQ_0 hI hw
  unfold IN at hN
  refine r_lconst0 hx hb dX3_blocksWay_0 ?_
  refine lv_lstore hx hb dX3_blocksWay_1 hl (by decide) rfl (fun ls hl => ?_)
  replace hl : lv_has ls 15 [(0, _), (1, _), (2, _), (3, _), (4, _)] := lv_sub hl [1, 2, 3, 4, 0] rfl
  refine r_lconst0 hx hb dX3_blocksWay_3 ?_
  refine lv_lstore hx hb dX3_blocksWay_4 hl (by decide) rfl (fun ls hl => ?_)
  replace hl : lv_has ls 15 [(0, _), (1, _), (2, _), (3, _), (4, _), (6, _)] := lv_sub hl [1, 2, 3, 4, 5, 0] rfl
  refine lv_iload_n hx hb dX3_blocksWay_6 rfl (lv_at hl 2 rfl) ?_
  refine lv_istore hx hb dX3_blocksWay_7 hl (by decide) rfl (fun ls hl => ?_)
  replace hl : lv_has ls 15 [(0, _), (1, _), (2, _), (3, _), (4, _), (6, _), (8, _)] := lv_sub hl [1, 2, 3, 4, 5, 6, 0] rfl
  have loop9 : ∀ (n : Nat) (t : Int) (MB OB : Nat) (τ1 : Tb) (H : Heap) (locs : List Loc) (ls : Array Slot), va_P D vwCl (kw 189 ad (CE G ad σ τ1)) H → va_S (kA 189 ad) s.heap H locs → lv_has ls 15 [(0, .ref (ad 4)), (1, .ref (ad (69 + w.toNat))), (2, .int (iI d)), (3, .int (iI e)), (4, .long (lN MB)), (6, .long (lN OB)), (8, .int (iI t))] → ((d ≤ t ∧ t ≤ e + 1) ∧ (MB < 1099511627776 ∧ OB < 1099511627776) ∧ (MB = 0 ∨ ∀ k, 0 ≤ k → k < σ 0 1 → ¬ vio σ OB MB k) ∧ (∀ t' k, t' < t → ¬ B7 σ w d les t' k) ∧ Fr4 τ τ1) → (e + 1 - t).toNat < n → Wg H locs (F0 m0 9 ls []) := by
    intro n
    induction n with
    | zero => intro t MB OB τ1 H locs ls _ _ _ _ hn; omega
    | succ n ih9 =>
      intro t MB OB τ1 H locs ls hP hS hl hv9 hn9
      rw [hWg]
      obtain ⟨hv, hbd, hch, hno, hF⟩ := hv9
      refine lv_iload hx hb dX3_blocksWay_9 (lv_at hl 6 rfl) ?_
      refine lv_iload_n hx hb dX3_blocksWay_11 rfl (lv_at hl 3 rfl) ?_
      refine r_icmp_gt (tgt := 151) hx hb (by omega) (by omega) dX3_blocksWay_12 (by decide) (fun c12 => ?_) (fun c12 => ?_)
      · have hn2 : ¬ ex2 (B7 σ w d les) := fun ⟨a, b, q⟩ => hno a b (by have := q.1; unfold inW at this; omega) q
        have hF2 : Fr2 τ τ1 := ⟨fun t i q => hF t i (by omega) (by omega), fun i _ _ => hF 2 i (by decide) (by decide)⟩
        refine r_const hx hb dX3_blocksWay_151 ?_
        exact k_zret hx hb hr hlocks hP hS dX3_blocksWay_152 (by omega) ⟨(bI_f hn2).symm, τ1, rfl, fun q => absurd q hn2, hF2⟩
      · have join145 : ∀ (MB' OB' : Nat) (τ2 : Tb) (H : Heap) (locs : List Loc) (ls : Array Slot), va_P D vwCl (kw 189 ad (CE G ad σ τ2)) H → va_S (kA 189 ad) s.heap H locs → lv_has ls 15 [(0, .ref (ad 4)), (1, .ref (ad (69 + w.toNat))), (2, .int (iI d)), (3, .int (iI e)), (4, .long (lN MB')), (6, .long (lN OB')), (8, .int (iI t))] → ((MB' < 1099511627776 ∧ OB' < 1099511627776) ∧ (MB' = 0 ∨ ∀ k, 0 ≤ k → k < σ 0 1 → ¬ vio σ OB' MB' k) ∧ (∀ k, ¬ B7 σ w d les t k) ∧ Fr4 τ τ2) → Wg H locs (F0 m0 145 ls []) := by
          intro MB' OB' τ2 H locs ls hP hS hl hv145
          rw [hWg]
          obtain ⟨g1, g2, g3, g4⟩ := hv145
          have hno3 : ∀ t' k, t' < t + 1 → ¬ B7 σ w d les t' k := by
            intro t' k q
            rcases (show t' < t ∨ t' = t by omega) with y | y
            · exact hno t' k y
            · rw [y]; exact g3 k
          refine r_iinc hx hb dX3_blocksWay_145 hl (k := 6) rfl (by decide) (fun ls hl => ?_)
          replace hl : lv_has ls 15 [(0, _), (1, _), (2, _), (3, _), (4, _), (6, _), (8, _)] := lv_sub hl [1, 2, 3, 4, 5, 6, 0] rfl
          refine lv_goto (tgt := 9) hx hb dX3_blocksWay_148 (by decide) ?_
          rw [← hWg]
          exact ih9 (t + 1) MB' OB' _ _ _ _ hP hS hl ⟨by omega, g1, g2, hno3, g4⟩ (by omega)
        have hB1 : SB σ τ1 (cnts σ w les) w d e := SB_fr hB0 (fun t i q1 q2 => hF t i (by omega) (by omega)) hq0.1.2
        have hG1 : Gth σ τ1 (cnts σ w les) (nrP σ (cnts σ w les) (σ 17 w).toNat) := Gth_fr hG ⟨fun t i q => hF t i (by omega) (by omega), fun i _ _ => hF 2 i (by decide) (by decide)⟩
        refine lv_aload_n hx hb dX3_blocksWay_15 rfl (lv_at hl 0 rfl) ?_
        refine lv_aload_n hx hb dX3_blocksWay_16 rfl (lv_at hl 1 rfl) ?_
        refine lv_iload hx hb dX3_blocksWay_17 (lv_at hl 6 rfl) ?_
        refine k_calllV (nL := 15) (C := RX3) (T := TX3) (N := 5) (ci := 3) hx hb hml hown hts hK hP hS hl.1 (c_X3_closedBy (C := cnts σ w les) hi hI hw (by omega) (by omega) hB1) rfl (Nat.le_of_ble_eq_true rfl) rfl (cwV 2 hts (gV lm_X3_176 ti_X3_closedBy tl_X3_closedBy tn_X3 tc_X3_closedBy) rfl rfl rfl (by decide +kernel) ⟨Nat.le_of_ble_eq_true rfl, Nat.le_of_ble_eq_true rfl⟩) rfl dX3_blocksWay_19 ⟨Nat.zero_le _, Nat.zero_le _⟩ (by omega) CE_4 (fun r19 E1 H locs hq hP hS => ?_)
        obtain ⟨hM, rfl⟩ := hq
        have hM0 := hM.1
        have hBv := B7_vio hI (les := les) hw (d := d) (t := t) (by omega) hM
        refine lv_lstore hx hb dX3_blocksWay_22 hl (by decide) rfl (fun ls hl => ?_)
        replace hl : lv_has ls 15 [(0, _), (1, _), (2, _), (3, _), (4, _), (6, _), (8, _), (9, _)] := lv_sub hl [1, 2, 3, 4, 5, 6, 7, 0] rfl
        refine lv_lload hx hb dX3_blocksWay_24 (lv_at hl 7 rfl) ?_
        refine r_lconst0 hx hb dX3_blocksWay_26 ?_
        refine r_lcmp hx hb dX3_blocksWay_27 (by omega) (by decide) ?_
        refine r_if_ne (tgt := 34) hx hb (cmpN_r _ _) dX3_blocksWay_28 (by decide) (fun c28 => ?_) (fun c28 => ?_)
        · refine lv_aload_n hx hb dX3_blocksWay_34 rfl (lv_at hl 0 rfl) ?_
          refine r_get (C := RX3) (T := TX3) (N := 5) (ci := 3) hx hb hts hi_X3 hown hK hP 1 rfl (by decide) lk_X3_15 (fun _ h9 => h9) dX3_blocksWay_35 (by omega) CE_4 rfl ?_
          refine lv_iload hx hb dX3_blocksWay_38 (lv_at hl 6 rfl) ?_
          refine k_calllV (nL := 15) (C := RX0) (T := TX0) (N := 9) (ci := 0) hx hb hml hown hts hK hP hS hl.1 (c_X0_survey (C := cnts σ w les) hi hI (by omega) hG1.1 hG1.2.1) rfl (Nat.le_of_ble_eq_true rfl) rfl (cwV 1 hts (gV lm_X3_180 ti_X0_survey tl_X0_survey tn_X0 tc_X0_survey) rfl rfl rfl (by decide +kernel) ⟨Nat.le_of_ble_eq_true rfl, Nat.le_of_ble_eq_true rfl⟩) rfl dX3_blocksWay_40 ⟨Nat.zero_le _, Nat.zero_le _⟩ (by omega) CE_2 (fun r40 E1 H locs hq hP hS => ?_)
          obtain ⟨τ2, rfl, rfl, _, hF2⟩ := hq
          have hO0 := msk_40 (P := fun p => σ 3 p ≤ tkC σ (cnts σ w les) p t) (i := σ 0 0) (by omega)
          have hF3 : Fr4 τ τ2 := fun t i q1 q2 => (hF2 t i q1).trans (hF t i q1 q2)
          generalize msk (fun p => σ 3 p ≤ tkC σ (cnts σ w les) p t) (σ 0 0).toNat = O at hBv hO0
          refine lv_lstore hx hb dX3_blocksWay_43 hl (by decide) rfl (fun ls hl => ?_)
          replace hl : lv_has ls 15 [(0, _), (1, _), (2, _), (3, _), (4, _), (6, _), (8, _), (9, _), (11, _)] := lv_sub hl [1, 2, 3, 4, 5, 6, 7, 8, 0] rfl
          have join64 : ∀  (H : Heap) (locs : List Loc) (ls : Array Slot), va_P D vwCl (kw 189 ad (CE G ad σ τ2)) H → va_S (kA 189 ad) s.heap H locs → lv_has ls 15 [(0, .ref (ad 4)), (1, .ref (ad (69 + w.toNat))), (2, .int (iI d)), (3, .int (iI e)), (4, .long (lN MB)), (6, .long (lN OB)), (8, .int (iI t)), (9, .long (lN r19)), (11, .long (lN O))] → (True) → Wg H locs (F0 m0 64 ls []) := by
            intro  H locs ls hP hS hl hv64
            rw [hWg]
            refine lv_lload hx hb dX3_blocksWay_64 (lv_at hl 7 rfl) ?_
            refine lv_lstore hx hb dX3_blocksWay_66 hl (by decide) rfl (fun ls hl => ?_)
            replace hl : lv_has ls 15 [(0, _), (1, _), (2, _), (3, _), (4, _), (6, _), (8, _), (9, _), (11, _)] := lv_sub hl [1, 2, 3, 4, 0, 5, 6, 7, 8] rfl
            refine lv_lload hx hb dX3_blocksWay_68 (lv_at hl 8 rfl) ?_
            refine lv_lstore hx hb dX3_blocksWay_70 hl (by decide) rfl (fun ls hl => ?_)
            replace hl : lv_has ls 15 [(0, _), (1, _), (2, _), (3, _), (4, _), (6, _), (8, _), (9, _), (11, _)] := lv_sub hl [1, 2, 3, 4, 5, 0, 6, 7, 8] rfl
            refine r_const hx hb dX3_blocksWay_72 ?_
            refine lv_istore hx hb dX3_blocksWay_73 hl (by decide) rfl (fun ls hl => ?_)
            replace hl : lv_has ls 15 [(0, _), (1, _), (2, _), (3, _), (4, _), (6, _), (8, _), (9, _), (11, _), (13, _)] := lv_sub hl [1, 2, 3, 4, 5, 6, 7, 8, 9, 0] rfl
            have loop75 : ∀ (n : Nat) (k : Int) (τ3 : Tb) (H : Heap) (locs : List Loc) (ls : Array Slot), va_P D vwCl (kw 189 ad (CE G ad σ τ3)) H → va_S (kA 189 ad) s.heap H locs → lv_has ls 15 [(0, .ref (ad 4)), (1, .ref (ad (69 + w.toNat))), (2, .int (iI d)), (3, .int (iI e)), (4, .long (lN r19)), (6, .long (lN O)), (8, .int (iI t)), (9, .long (lN r19)), (11, .long (lN O)), (13, .int (iI k))] → ((0 ≤ k ∧ k ≤ σ 0 1) ∧ (∀ k', 0 ≤ k' → k' < k → ¬ vio σ O r19 k') ∧ Fr4 τ τ3) → (σ 0 1 - k).toNat < n → Wg H locs (F0 m0 75 ls []) := by
              intro n
              induction n with
              | zero => intro k τ3 H locs ls _ _ _ _ hn; omega
              | succ n ih75 =>
                intro k τ3 H locs ls hP hS hl hv75 hn75
                rw [hWg]
                obtain ⟨hv2, hno2, hF4⟩ := hv75
                refine lv_iload hx hb dX3_blocksWay_75 (lv_at hl 9 rfl) ?_
                refine lv_aload_n hx hb dX3_blocksWay_77 rfl (lv_at hl 0 rfl) ?_
                refine r_get (C := RX3) (T := TX3) (N := 5) (ci := 3) hx hb hts hi_X3 hown hK hP 0 rfl (by decide) lk_X3_9 (fun _ h9 => h9) dX3_blocksWay_78 (by omega) CE_4 rfl ?_
                refine r_get (C := RX5) (T := TX5) (N := 8) (ci := 5) hx hb hts hi_X5 hown hK hP 5 rfl (by decide) lk_X3_184 (fun _ h9 => h9) dX3_blocksWay_81 (by omega) CE_1 rfl ?_
                refine r_icmp_ge (tgt := 145) hx hb (by omega) (by omega) dX3_blocksWay_84 (by decide) (fun c84 => ?_) (fun c84 => ?_)
                · obtain rfl : k = σ 0 1 := by omega
                  rw [← hWg]
                  exact join145 _ _ _ _ _ _ hP hS (lv_sub hl [0, 1, 2, 3, 4, 5, 6] rfl) ⟨⟨hM0, hO0⟩, Or.inr hno2, fun k q => hno2 k ((hBv k).mp q).1.1 ((hBv k).mp q).1.2 ((hBv k).mp q).2, hF4⟩
                · have hor : O ||| r19 < 1099511627776 := Nat.or_lt_two_pow (n := 40) hO0 hM0
                  refine lv_aload_n hx hb dX3_blocksWay_87 rfl (lv_at hl 0 rfl) ?_
                  refine r_get (C := RX3) (T := TX3) (N := 5) (ci := 3) hx hb hts hi_X3 hown hK hP 0 rfl (by decide) lk_X3_9 (fun _ h9 => h9) dX3_blocksWay_88 (by omega) CE_4 rfl ?_
                  refine r_get (C := RX5) (T := TX5) (N := 8) (ci := 5) hx hb hts hi_X5 hown hK hP 1 rfl (by decide) lk_X3_187 (fun _ h9 => h9) dX3_blocksWay_91 (by omega) CE_1 rfl ?_
                  refine lv_iload hx hb dX3_blocksWay_94 (lv_at hl 9 rfl) ?_
                  refine r_aald hx hb hK hP 3 rfl dX3_blocksWay_96 (by omega) rfl (by omega) (by omega) rfl ?_
                  refine lv_astore hx hb dX3_blocksWay_97 hl (by decide) rfl (fun ls hl => ?_)
                  replace hl : lv_has ls 15 [(0, _), (1, _), (2, _), (3, _), (4, _), (6, _), (8, _), (9, _), (11, _), (13, _), (14, _)] := lv_sub hl [1, 2, 3, 4, 5, 6, 7, 8, 9, 10, 0] rfl
                  refine lv_aload_n hx hb dX3_blocksWay_99 rfl (lv_at hl 0 rfl) ?_
                  refine r_get (C := RX3) (T := TX3) (N := 5) (ci := 3) hx hb hts hi_X3 hown hK hP 2 rfl (by decide) lk_X3_19 (fun _ h9 => h9) dX3_blocksWay_100 (by omega) CE_4 rfl ?_
                  refine lv_aload hx hb dX3_blocksWay_103 (lv_at hl 10 rfl) ?_
                  refine lv_lload hx hb dX3_blocksWay_105 (lv_at hl 8 rfl) ?_
                  refine lv_lload hx hb dX3_blocksWay_107 (lv_at hl 7 rfl) ?_
                  refine r_lor hx hb dX3_blocksWay_109 (by omega) (by omega) ?_
                  refine k_calliV (nL := 15) (C := RX6) (T := TX6) (N := 2) (ci := 6) hx hb hml hown hts hK hP hS hl.1 (c_X6_isOpen (k := k) hi hI (by omega) hor) rfl (Nat.le_of_ble_eq_true rfl) rfl (cwV 2 hts (gV lm_X3_191 ti_X6_isOpen tl_X6_isOpen tn_X6 tc_X6_isOpen) rfl rfl rfl (by decide +kernel) ⟨Nat.le_of_ble_eq_true rfl, Nat.le_of_ble_eq_true rfl⟩) rfl dX3_blocksWay_110 ⟨Nat.zero_le _, Nat.zero_le _⟩ (by omega) CE_3 (fun r110 E1 H locs hq hP hS => ?_)
                  obtain ⟨rfl, τ4, rfl, hF5⟩ := hq
                  have hF6 : Fr4 τ τ4 := fun t i q1 q2 => (hF5 t i q2).trans (hF4 t i q1 q2)
                  refine r_ifB_ne (tgt := 139) hx hb dX3_blocksWay_113 (by decide) (fun c113 => ?_) (fun c113 => ?_)
                  · have hno3 : ∀ k', 0 ≤ k' → k' < k + 1 → ¬ vio σ O r19 k' := by
                      intro k' k1 k2 q
                      rcases (show k' < k ∨ k' = k by omega) with y | y
                      · exact hno2 k' k1 y q
                      · rw [y] at q; have := q.1; omega
                    refine r_iinc hx hb dX3_blocksWay_139 hl (k := 9) rfl (by decide) (fun ls hl => ?_)
                    replace hl : lv_has ls 15 [(0, _), (1, _), (2, _), (3, _), (4, _), (6, _), (8, _), (9, _), (11, _), (13, _), (14, _)] := lv_sub hl [1, 2, 3, 4, 5, 6, 7, 8, 9, 0, 10] rfl
                    refine lv_goto (tgt := 75) hx hb dX3_blocksWay_142 (by decide) ?_
                    rw [← hWg]
                    exact ih75 (k + 1) _ _ _ _ hP hS (lv_sub hl [0, 1, 2, 3, 4, 5, 6, 7, 8, 9] rfl) ⟨by omega, hno3, hF6⟩ (by omega)
                  · refine lv_aload_n hx hb dX3_blocksWay_116 rfl (lv_at hl 0 rfl) ?_
                    refine r_get (C := RX3) (T := TX3) (N := 5) (ci := 3) hx hb hts hi_X3 hown hK hP 2 rfl (by decide) lk_X3_19 (fun _ h9 => h9) dX3_blocksWay_117 (by omega) CE_4 rfl ?_
                    refine lv_aload hx hb dX3_blocksWay_120 (lv_at hl 10 rfl) ?_
                    refine lv_lload hx hb dX3_blocksWay_122 (lv_at hl 8 rfl) ?_
                    refine k_calliV (nL := 15) (C := RX6) (T := TX6) (N := 2) (ci := 6) hx hb hml hown hts hK hP hS hl.1 (c_X6_isOpen (k := k) hi hI (by omega) (by omega)) rfl (Nat.le_of_ble_eq_true rfl) rfl (cwV 2 hts (gV lm_X3_191 ti_X6_isOpen tl_X6_isOpen tn_X6 tc_X6_isOpen) rfl rfl rfl (by decide +kernel) ⟨Nat.le_of_ble_eq_true rfl, Nat.le_of_ble_eq_true rfl⟩) rfl dX3_blocksWay_124 ⟨Nat.zero_le _, Nat.zero_le _⟩ (by omega) CE_3 (fun r124 E1 H locs hq hP hS => ?_)
                    obtain ⟨rfl, τ5, rfl, hF7⟩ := hq
                    have hF8 : Fr4 τ τ5 := fun t i q1 q2 => (hF7 t i q2).trans (hF6 t i q1 q2)
                    refine r_ifB_eq (tgt := 139) hx hb dX3_blocksWay_127 (by decide) (fun c127 => ?_) (fun c127 => ?_)
                    · have hno3 : ∀ k', 0 ≤ k' → k' < k + 1 → ¬ vio σ O r19 k' := by
                        intro k' k1 k2 q
                        rcases (show k' < k ∨ k' = k by omega) with y | y
                        · exact hno2 k' k1 y q
                        · rw [y] at q; exact c127 q.2
                      refine r_iinc hx hb dX3_blocksWay_139 hl (k := 9) rfl (by decide) (fun ls hl => ?_)
                      replace hl : lv_has ls 15 [(0, _), (1, _), (2, _), (3, _), (4, _), (6, _), (8, _), (9, _), (11, _), (13, _), (14, _)] := lv_sub hl [1, 2, 3, 4, 5, 6, 7, 8, 9, 0, 10] rfl
                      refine lv_goto (tgt := 75) hx hb dX3_blocksWay_142 (by decide) ?_
                      rw [← hWg]
                      exact ih75 (k + 1) _ _ _ _ hP hS (lv_sub hl [0, 1, 2, 3, 4, 5, 6, 7, 8, 9] rfl) ⟨by omega, hno3, hF8⟩ (by omega)
                    · have hB : B7 σ w d les t k := (hBv k).mpr ⟨by omega, by omega, c127⟩
                      have hfst : isFst (B7 σ w d les) t k := by
                        refine fst_mk hB (fun a' b' q => ?_) (fun b' q => ?_)
                        · apply Classical.byContradiction
                          intro y
                          exact hno a' b' (by omega) q
                        · have z := (hBv b').mp q
                          apply Classical.byContradiction
                          intro y
                          exact hno2 b' z.1.1 (by omega) z.2
                      have hF9 : Fr2 τ (up (up τ5 2 2 t) 2 3 k) := ⟨fun t i q => by rw [up_t (by omega), up_t (by omega)]; exact hF8 t i (by omega) (by omega), fun i q1 q2 => by rw [up_i q2, up_i q1]; exact hF8 2 i (by decide) (by decide)⟩
                      refine lv_aload_n hx hb dX3_blocksWay_130 rfl (lv_at hl 0 rfl) ?_
                      refine lv_iload hx hb dX3_blocksWay_131 (lv_at hl 6 rfl) ?_
                      refine lv_iload hx hb dX3_blocksWay_133 (lv_at hl 9 rfl) ?_
                      refine k_calliV (nL := 15) (C := RX3) (T := TX3) (N := 5) (ci := 3) hx hb hml hown hts hK hP hS hl.1 (c_X3_found hi) rfl (Nat.le_of_ble_eq_true rfl) rfl (cwV 2 hts (gV lm_X3_89 ti_X3_found tl_X3_found tn_X3 tc_X3_found) rfl rfl rfl (by decide +kernel) ⟨Nat.le_of_ble_eq_true rfl, Nat.le_of_ble_eq_true rfl⟩) rfl dX3_blocksWay_135 ⟨Nat.zero_le _, Nat.zero_le _⟩ (by omega) CE_4 (fun r135 E1 H locs hq hP hS => ?_)
                      obtain ⟨rfl, rfl⟩ := hq
                      exact k_zret hx hb hr hlocks hP hS dX3_blocksWay_138 (by omega) ⟨(bI_t ⟨t, k, hB⟩).symm, _, rfl, fun q => by rw [fnd_2.1, fnd_2.2]; exact hfst, hF9⟩
            rw [← hWg]
            exact loop75 _ 0 _ _ _ _ hP hS hl ⟨by omega, fun k' k1 k2 => by omega, hF3⟩ (Nat.lt_succ_self _)
          refine lv_lload hx hb dX3_blocksWay_45 (lv_at hl 7 rfl) ?_
          refine lv_lload hx hb dX3_blocksWay_47 (lv_at hl 4 rfl) ?_
          refine r_lcmp hx hb dX3_blocksWay_49 (by omega) (by omega) ?_
          refine r_if_ne (tgt := 64) hx hb (cmpN_r _ _) dX3_blocksWay_50 (by decide) (fun c50 => ?_) (fun c50 => ?_)
          · rw [← hWg]
            exact join64  _ _ _ hP hS hl trivial
          · refine lv_lload hx hb dX3_blocksWay_53 (lv_at hl 8 rfl) ?_
            refine lv_lload hx hb dX3_blocksWay_55 (lv_at hl 5 rfl) ?_
            refine r_lcmp hx hb dX3_blocksWay_57 (by omega) (by omega) ?_
            refine r_if_ne (tgt := 64) hx hb (cmpN_r _ _) dX3_blocksWay_58 (by decide) (fun c58 => ?_) (fun c58 => ?_)
            · rw [← hWg]
              exact join64  _ _ _ hP hS hl trivial
            · have e1 : r19 = MB := cmpN_0.mp c50
              have e2 : O = OB := cmpN_0.mp c58
              have hnn : ∀ k, ¬ B7 σ w d les t k := by
                intro k q
                have z := (hBv k).mp q
                rcases hch with y | y
                · exact c28 (cmpN_0.mpr (by omega))
                · exact y k z.1.1 z.1.2 (by rw [← e1, ← e2]; exact z.2)
              refine lv_goto (tgt := 145) hx hb dX3_blocksWay_61 (by decide) ?_
              rw [← hWg]
              exact join145 _ _ _ _ _ _ hP hS (lv_sub hl [0, 1, 2, 3, 4, 5, 6] rfl) ⟨hbd, hch, hnn, hF3⟩
        · have hnn : ∀ k, ¬ B7 σ w d les t k := by
            intro k q
            have z := ((hBv k).mp q).2
            rw [cmpN_0.mp c28] at z
            unfold vio at z
            rw [Nat.or_zero] at z
            omega
          refine lv_goto (tgt := 145) hx hb dX3_blocksWay_31 (by decide) ?_
          rw [← hWg]
          exact join145 _ _ _ _ _ _ hP hS (lv_sub hl [0, 1, 2, 3, 4, 5, 6] rfl) ⟨hbd, hch, hnn, hF⟩
  rw [← hWg]
  exact loop9 _ d 0 0 _ _ _ _ hP hS hl ⟨by omega, by omega, Or.inl rfl, fun t' k q1 q2 => by have := q2.1; unfold inW at this; omega, fun t i _ _ => rfl⟩ (Nat.lt_succ_self _)
abbrev rmX3_lookAt : Room := { frames := 2, cells := 0, slots := 0, locals := 46 }
set_option maxRecDepth 100000 in
set_option maxHeartbeats 4000000 in
theorem c_X3_lookAt {l : Launch} {D : va_G} {G : Nat → ClassId} {ad : Nat → Nat} {σ τ : Tb} (hi : kInj 189 ad) {w bel : Int} {les : Prop} (hI : Inv σ) (hw : 0 ≤ w ∧ w < σ 0 2) (hb1 : (bel = 60 ∧ ¬ les) ∨ (bel = w ∧ les)) : Met l yX3_lookAt wsX3_lookAt rmX3_lookAt (kPc D (tysG G) 189 ad (CE G ad σ τ) [.ref (ad 4), .ref (ad (69 + w.toNat)), .int (iI bel)]) (kQv D 189 ad (fun E' => ∃ τ', E' = CE G ad σ τ' ∧ Gth σ τ' (cnts σ w les) (nrP σ (cnts σ w les) (σ 17 w).toNat) ∧ Fr1 τ τ')) 0 0 (kA 189 ad) := by
  refine k_met (cc := cX3_lookAt) (maxL := 3) (ret := none) (by decide) (Nat.le_of_ble_eq_true rfl) ?_
  intro P0 e0 s m0 below meth c0 ls hx hb hr hlocks hml hown hts hK hP hS hl
  replace hl : lv_has ls 3 [(0, _), (1, _), (2, _)] := hl
  replace hown : s.vm.findClass RX3 = some m0.cls := hown
  refine k_abs (fun Wg hWg => ?_)
  have h0 := Inv_0 hI
  have hq0 := IQ_0 hI hw
  refine lv_aload_n hx hb dX3_lookAt_0 rfl (lv_at hl 0 rfl) ?_
  refine r_get (C := RX3) (T := TX3) (N := 5) (ci := 3) hx hb hts hi_X3 hown hK hP 1 rfl (by decide) lk_X3_15 (fun _ h9 => h9) dX3_lookAt_1 (by omega) CE_4 rfl ?_
  refine lv_aload_n hx hb dX3_lookAt_4 rfl (lv_at hl 1 rfl) ?_
  refine r_get (C := RX7) (T := TX7) (N := 16) (ci := 7) hx hb hts hi_X7 hown hK hP 0 rfl (by decide) lk_X3_23 (fun _ h9 => h9) dX3_lookAt_5 (by omega) (CE_w (by omega)) rfl ?_
  refine lv_aload_n hx hb dX3_lookAt_8 rfl (lv_at hl 1 rfl) ?_
  refine r_get (C := RX7) (T := TX7) (N := 16) (ci := 7) hx hb hts hi_X7 hown hK hP 3 rfl (by decide) lk_X3_29 (fun _ h9 => h9) dX3_lookAt_9 (by omega) (CE_w (by omega)) rfl ?_
  refine lv_iload_n hx hb dX3_lookAt_12 rfl (lv_at hl 2 rfl) ?_
  refine k_callvV (nL := 3) (C := RX0) (T := TX0) (N := 9) (ci := 0) hx hb hml hown hts hK hP hS hl.1 (c_X0_gather (les := les) hi hI (by omega) (by omega) hb1) rfl (Nat.le_of_ble_eq_true rfl) rfl (cwV 3 hts (gV lm_X3_33 ti_X0_gather tl_X0_gather tn_X0 tc_X0_gather) rfl rfl rfl (by decide +kernel) ⟨Nat.le_of_ble_eq_true rfl, Nat.le_of_ble_eq_true rfl⟩) rfl dX3_lookAt_13 ⟨Nat.zero_le _, Nat.zero_le _⟩ (by omega) CE_2 (fun E1 H locs hq hP hS => ?_)
  exact k_vret hx hb hr hlocks hP hS dX3_lookAt_16 hq
noncomputable def rulF (σ : Tb) (w d : Int) (les : Prop) (f : Int) : Int := cif (f ≤ 1) (rul1 σ w d les) (cif (f ≤ 2) (rul2 σ w d les) (rul3 σ w d les))
theorem rAt_0 {σ : Tb} {w d : Int} {les : Prop} {r day pl : Int} (h1 : r = 1 → day = d ∧ pl = σ 25 w) (h2 : r = 2 → day = 400 ∧ pl = σ 25 w) (h3 : r = 3 → isFst (B3 σ w d) day pl) (h4 : r = 4 → isFst (B4 σ w d les) day pl) (h5 : r = 5 → isFst (B5 σ w d les) day pl) (h6 : r = 6 → isFst (B6 σ w d les) day pl) (h7 : r = 7 → isFst (B7 σ w d les) day pl) : rAt σ w d les r day pl := ⟨h1, h2, h3, h4, h5, h6, h7⟩
abbrev rmX3_broken : Room := { frames := 3, cells := 0, slots := 0, locals := 87 }
set_option maxRecDepth 100000 in
set_option maxHeartbeats 4000000 in
theorem c_X3_broken {l : Launch} {D : va_G} {G : Nat → ClassId} {ad : Nat → Nat} {σ τ : Tb} (hi : kInj 189 ad) {w d f : Int} {les : Prop} (hI : Inv σ) (hw : 0 ≤ w ∧ w < σ 0 2) (hd : 0 ≤ d ∧ d ≤ 399) (hf : 1 ≤ f ∧ f ≤ 3) (hf1 : f = 1 → σ 12 w ≠ 2) (hf3 : f = 3 → d + σ 14 w - 1 ≤ 399) (hG : Gth σ τ (cnts σ w les) (nrP σ (cnts σ w les) (σ 17 w).toNat)) : Met l yX3_broken wsX3_broken rmX3_broken (kPc D (tysG G) 189 ad (CE G ad σ τ) [.ref (ad 4), .ref (ad (69 + w.toNat)), .int (iI d), .int (iI f)]) (kQi D 189 ad (fun z E' => z = rulF σ w d les f ∧ ∃ τ', E' = CE G ad σ τ' ∧ (z ≠ 0 → rAt σ w d les z (τ' 2 2) (τ' 2 3)) ∧ Fr2 τ τ')) 0 0 (kA 189 ad) := by
  refine k_met (cc := cX3_broken) (maxL := 5) (ret := (some .int)) (by decide) (Nat.le_of_ble_eq_true rfl) ?_
  intro P0 e0 s m0 below meth c0 ls hx hb hr hlocks hml hown hts hK hP hS hl
  replace hl : lv_has ls 5 [(0, _), (1, _), (2, _), (3, _)] := hl
  replace hown : s.vm.findClass RX3 = some m0.cls := hown
  refine k_abs (fun Wg hWg => ?_)
  have h0 := Inv_0 hI
  obtain ⟨hN, _, _⟩ := Inv_w hI hw
  have hq0 := IQ_0 hI hw
  unfold IN at hN
  refine lv_aload_n hx hb dX3_broken_0 rfl (lv_at hl 1 rfl) ?_
  refine lv_iload_n hx hb dX3_broken_1 rfl (lv_at hl 2 rfl) ?_
  refine k_calliV (nL := 5) (C := RX7) (T := TX7) (N := 16) (ci := 7) hx hb hml hown hts hK hP hS hl.1 (c_X7_lastFrom hi (by omega) (by omega) (by omega)) rfl (Nat.le_of_ble_eq_true rfl) rfl (cwV 1 hts (gV lm_X3_39 ti_X7_lastFrom tl_X7_lastFrom tn_X7 tc_X7_lastFrom) rfl rfl rfl (by decide +kernel) ⟨Nat.le_of_ble_eq_true rfl, Nat.le_of_ble_eq_true rfl⟩) rfl dX3_broken_2 ⟨Nat.zero_le _, Nat.zero_le _⟩ (by omega) (CE_w (by omega)) (fun r2 E1 H locs hq hP hS => ?_)
  obtain ⟨rfl, rfl⟩ := hq
  refine lv_istore hx hb dX3_broken_5 hl (by decide) rfl (fun ls hl => ?_)
  replace hl : lv_has ls 5 [(0, _), (1, _), (2, _), (3, _), (4, _)] := lv_sub hl [1, 2, 3, 4, 0] rfl
  have join39 : ∀ (τ1 : Tb) (H : Heap) (locs : List Loc) (ls : Array Slot), va_P D vwCl (kw 189 ad (CE G ad σ τ1)) H → va_S (kA 189 ad) s.heap H locs → lv_has ls 5 [(0, .ref (ad 4)), (1, .ref (ad (69 + w.toNat))), (2, .int (iI d)), (3, .int (iI f)), (4, .int (iI (lstF σ w d)))] → (Fr2 τ τ1 ∧ d + σ 14 w - 1 ≤ 399 ∧ rulF σ w d les f = rul3 σ w d les) → Wg H locs (F0 m0 39 ls []) := by
    intro τ1 H locs ls hP hS hl hv39
    rw [hWg]
    obtain ⟨hF, hle, hru⟩ := hv39
    have hG1 := Gth_fr hG hF
    have hls : lstF σ w d = d + σ 14 w - 1 := by unfold lstF; split <;> omega
    rw [hls] at hl
    refine lv_aload_n hx hb dX3_broken_39 rfl (lv_at hl 0 rfl) ?_
    refine lv_aload_n hx hb dX3_broken_40 rfl (lv_at hl 1 rfl) ?_
    refine lv_iload_n hx hb dX3_broken_41 rfl (lv_at hl 2 rfl) ?_
    refine lv_iload hx hb dX3_broken_42 (lv_at hl 4 rfl) ?_
    refine k_calliV (nL := 5) (C := RX3) (T := TX3) (N := 5) (ci := 3) hx hb hml hown hts hK hP hS hl.1 (c_X3_isOnFeast hi hI hw hd.1 rfl (by omega)) rfl (Nat.le_of_ble_eq_true rfl) rfl (cwV 3 hts (gV lm_X3_50 ti_X3_isOnFeast tl_X3_isOnFeast tn_X3 tc_X3_isOnFeast) rfl rfl rfl (by decide +kernel) ⟨Nat.le_of_ble_eq_true rfl, Nat.le_of_ble_eq_true rfl⟩) rfl dX3_broken_44 ⟨Nat.zero_le _, Nat.zero_le _⟩ (by omega) CE_4 (fun r44 E1 H locs hq hP hS => ?_)
    obtain ⟨rfl, τ2, rfl, hx3, hF2⟩ := hq
    refine r_ifB_eq (tgt := 52) hx hb dX3_broken_47 (by decide) (fun c47 => ?_) (fun c47 => ?_)
    · have hF3 := Fr2_tr hF (FrF_2 hF2)
      have hG2 := Gth_fr hG hF3
      refine lv_aload_n hx hb dX3_broken_52 rfl (lv_at hl 0 rfl) ?_
      refine r_get (C := RX3) (T := TX3) (N := 5) (ci := 3) hx hb hts hi_X3 hown hK hP 1 rfl (by decide) lk_X3_15 (fun _ h9 => h9) dX3_broken_53 (by omega) CE_4 rfl ?_
      refine lv_aload_n hx hb dX3_broken_56 rfl (lv_at hl 1 rfl) ?_
      refine lv_iload_n hx hb dX3_broken_57 rfl (lv_at hl 2 rfl) ?_
      refine lv_iload hx hb dX3_broken_58 (lv_at hl 4 rfl) ?_
      refine k_callvV (nL := 5) (C := RX0) (T := TX0) (N := 9) (ci := 0) hx hb hml hown hts hK hP hS hl.1 (c_X0_surveyBeside (N := nrP σ (cnts σ w les) (σ 17 w).toNat) hi hI hw (by omega) (by omega) hG2.1 hG2.2.2) rfl (Nat.le_of_ble_eq_true rfl) rfl (cwV 3 hts (gV lm_X3_54 ti_X0_surveyBeside tl_X0_surveyBeside tn_X0 tc_X0_surveyBeside) rfl rfl rfl (by decide +kernel) ⟨Nat.le_of_ble_eq_true rfl, Nat.le_of_ble_eq_true rfl⟩) rfl dX3_broken_60 ⟨Nat.zero_le _, Nat.zero_le _⟩ (by omega) CE_2 (fun E1 H locs hq hP hS => ?_)
      obtain ⟨τ3, rfl, hA3, hT3, hF4⟩ := hq
      have hB3 : SB σ τ3 (cnts σ w les) w d (d + σ 14 w - 1) := ⟨hA3, fun k t k1 k2 t1 t2 => by
        have hk := IQ_k hI hw ⟨k1, k2⟩
        rw [hT3 k t k1 k2 t1 t2]
        exact bsF_eq hk.1.1 hk.2⟩
      have hF5 := Fr2_tr hF3 (c := τ3) ⟨fun t i q => hF4 t i (by omega), fun i _ _ => hF4 2 i (by omega)⟩
      refine lv_aload_n hx hb dX3_broken_63 rfl (lv_at hl 0 rfl) ?_
      refine lv_aload_n hx hb dX3_broken_64 rfl (lv_at hl 1 rfl) ?_
      refine lv_iload_n hx hb dX3_broken_65 rfl (lv_at hl 2 rfl) ?_
      refine lv_iload hx hb dX3_broken_66 (lv_at hl 4 rfl) ?_
      refine k_calliV (nL := 5) (C := RX3) (T := TX3) (N := 5) (ci := 3) hx hb hml hown hts hK hP hS hl.1 (c_X3_lacksLanes hi hI hw hd.1 rfl (by omega) hB3) rfl (Nat.le_of_ble_eq_true rfl) rfl (cwV 3 hts (gV lm_X3_58 ti_X3_lacksLanes tl_X3_lacksLanes tn_X3 tc_X3_lacksLanes) rfl rfl rfl (by decide +kernel) ⟨Nat.le_of_ble_eq_true rfl, Nat.le_of_ble_eq_true rfl⟩) rfl dX3_broken_68 ⟨Nat.zero_le _, Nat.zero_le _⟩ (by omega) CE_4 (fun r68 E1 H locs hq hP hS => ?_)
      obtain ⟨rfl, τ4, rfl, hx4, hF6⟩ := hq
      have hB4 := SB_fr hB3 (fun t i q1 q2 => hF6.1 t i (by omega)) hq0.1.2
      have hF7 := Fr2_tr hF5 (FrF_2 hF6)
      refine r_ifB_eq (tgt := 76) hx hb dX3_broken_71 (by decide) (fun c71 => ?_) (fun c71 => ?_)
      · refine lv_aload_n hx hb dX3_broken_76 rfl (lv_at hl 0 rfl) ?_
        refine lv_aload_n hx hb dX3_broken_77 rfl (lv_at hl 1 rfl) ?_
        refine lv_iload_n hx hb dX3_broken_78 rfl (lv_at hl 2 rfl) ?_
        refine lv_iload hx hb dX3_broken_79 (lv_at hl 4 rfl) ?_
        refine k_calliV (nL := 5) (C := RX3) (T := TX3) (N := 5) (ci := 3) hx hb hml hown hts hK hP hS hl.1 (c_X3_meetsDepth hi hI hw hd.1 rfl (by omega) (Gth_fr hG hF7)) rfl (Nat.le_of_ble_eq_true rfl) rfl (cwV 3 hts (gV lm_X3_61 ti_X3_meetsDepth tl_X3_meetsDepth tn_X3 tc_X3_meetsDepth) rfl rfl rfl (by decide +kernel) ⟨Nat.le_of_ble_eq_true rfl, Nat.le_of_ble_eq_true rfl⟩) rfl dX3_broken_81 ⟨Nat.zero_le _, Nat.zero_le _⟩ (by omega) CE_4 (fun r81 E1 H locs hq hP hS => ?_)
        obtain ⟨rfl, τ5, rfl, hx5, hF8⟩ := hq
        have hB5 := SB_fr hB4 (fun t i q1 q2 => hF8.1 t i (by omega)) hq0.1.2
        have hF9 := Fr2_tr hF7 (FrF_2 hF8)
        refine r_ifB_eq (tgt := 89) hx hb dX3_broken_84 (by decide) (fun c84 => ?_) (fun c84 => ?_)
        · refine lv_aload_n hx hb dX3_broken_89 rfl (lv_at hl 0 rfl) ?_
          refine lv_aload_n hx hb dX3_broken_90 rfl (lv_at hl 1 rfl) ?_
          refine lv_iload_n hx hb dX3_broken_91 rfl (lv_at hl 2 rfl) ?_
          refine lv_iload hx hb dX3_broken_92 (lv_at hl 4 rfl) ?_
          refine k_calliV (nL := 5) (C := RX3) (T := TX3) (N := 5) (ci := 3) hx hb hml hown hts hK hP hS hl.1 (c_X3_breaksRest hi hI hw hd.1 rfl (by omega) (Gth_fr hG hF9)) rfl (Nat.le_of_ble_eq_true rfl) rfl (cwV 3 hts (gV lm_X3_64 ti_X3_breaksRest tl_X3_breaksRest tn_X3 tc_X3_breaksRest) rfl rfl rfl (by decide +kernel) ⟨Nat.le_of_ble_eq_true rfl, Nat.le_of_ble_eq_true rfl⟩) rfl dX3_broken_94 ⟨Nat.zero_le _, Nat.zero_le _⟩ (by omega) CE_4 (fun r94 E1 H locs hq hP hS => ?_)
          obtain ⟨rfl, τ6, rfl, hx6, hF10⟩ := hq
          have hB6 := SB_fr hB5 (fun t i q1 q2 => hF10.1 t i (by omega)) hq0.1.2
          have hF11 := Fr2_tr hF9 (FrF_2 hF10)
          refine r_ifB_eq (tgt := 103) hx hb dX3_broken_97 (by decide) (fun c97 => ?_) (fun c97 => ?_)
          · refine lv_aload_n hx hb dX3_broken_103 rfl (lv_at hl 0 rfl) ?_
            refine lv_aload_n hx hb dX3_broken_104 rfl (lv_at hl 1 rfl) ?_
            refine lv_iload_n hx hb dX3_broken_105 rfl (lv_at hl 2 rfl) ?_
            refine lv_iload hx hb dX3_broken_106 (lv_at hl 4 rfl) ?_
            refine k_calliV (nL := 5) (C := RX3) (T := TX3) (N := 5) (ci := 3) hx hb hml hown hts hK hP hS hl.1 (c_X3_blocksWay hi hI hw hd.1 rfl (by omega) (Gth_fr hG hF11) hB6) rfl (Nat.le_of_ble_eq_true rfl) rfl (cwV 3 hts (gV lm_X3_67 ti_X3_blocksWay tl_X3_blocksWay tn_X3 tc_X3_blocksWay) rfl rfl rfl (by decide +kernel) ⟨Nat.le_of_ble_eq_true rfl, Nat.le_of_ble_eq_true rfl⟩) rfl dX3_broken_108 ⟨Nat.zero_le _, Nat.zero_le _⟩ (by omega) CE_4 (fun r108 E1 H locs hq hP hS => ?_)
            obtain ⟨rfl, τ7, rfl, hx7, hF12⟩ := hq
            have hF13 := Fr2_tr hF11 hF12
            refine r_ifB_eq (tgt := 117) hx hb dX3_broken_111 (by decide) (fun c111 => ?_) (fun c111 => ?_)
            · refine r_const hx hb dX3_broken_117 ?_
              exact k_iret hx hb hr hlocks hP hS dX3_broken_118 ⟨by rw [hru, rul3, cif_f c47, cif_f c71, cif_f c84, cif_f c97, cif_f c111], τ7, rfl, fun q => absurd rfl q, hF13⟩
            · refine r_bipush hx hb dX3_broken_114 (by decide +kernel) ?_
              exact k_iret hx hb hr hlocks hP hS dX3_broken_116 ⟨by rw [hru, rul3, cif_f c47, cif_f c71, cif_f c84, cif_f c97, cif_t c111], τ7, rfl, fun _ => rAt_0 (fun q => by omega) (fun q => by omega) (fun q => by omega) (fun q => by omega) (fun q => by omega) (fun q => by omega) (fun _ => hx7 c111), hF13⟩
          · refine r_bipush hx hb dX3_broken_100 (by decide +kernel) ?_
            exact k_iret hx hb hr hlocks hP hS dX3_broken_102 ⟨by rw [hru, rul3, cif_f c47, cif_f c71, cif_f c84, cif_t c97], τ6, rfl, fun _ => rAt_0 (fun q => by omega) (fun q => by omega) (fun q => by omega) (fun q => by omega) (fun q => by omega) (fun _ => hx6 c97) (fun q => by omega), hF11⟩
        · refine r_const hx hb dX3_broken_87 ?_
          exact k_iret hx hb hr hlocks hP hS dX3_broken_88 ⟨by rw [hru, rul3, cif_f c47, cif_f c71, cif_t c84], τ5, rfl, fun _ => rAt_0 (fun q => by omega) (fun q => by omega) (fun q => by omega) (fun q => by omega) (fun _ => hx5 c84) (fun q => by omega) (fun q => by omega), hF9⟩
      · refine r_const hx hb dX3_broken_74 ?_
        exact k_iret hx hb hr hlocks hP hS dX3_broken_75 ⟨by rw [hru, rul3, cif_f c47, cif_t c71], τ4, rfl, fun _ => rAt_0 (fun q => by omega) (fun q => by omega) (fun q => by omega) (fun _ => hx4 c71) (fun q => by omega) (fun q => by omega) (fun q => by omega), hF7⟩
    · refine r_const hx hb dX3_broken_50 ?_
      exact k_iret hx hb hr hlocks hP hS dX3_broken_51 ⟨by rw [hru, rul3, cif_t c47], τ2, rfl, fun _ => rAt_0 (fun q => by omega) (fun q => by omega) (fun _ => hx3 c47) (fun q => by omega) (fun q => by omega) (fun q => by omega) (fun q => by omega), Fr2_tr hF (FrF_2 hF2)⟩
  have join23 : ∀ (τ1 : Tb) (H : Heap) (locs : List Loc) (ls : Array Slot), va_P D vwCl (kw 189 ad (CE G ad σ τ1)) H → va_S (kA 189 ad) s.heap H locs → lv_has ls 5 [(0, .ref (ad 4)), (1, .ref (ad (69 + w.toNat))), (2, .int (iI d)), (3, .int (iI f)), (4, .int (iI (lstF σ w d)))] → (Fr2 τ τ1 ∧ (f ≤ 2 → rulF σ w d les f = rul2 σ w d les)) → Wg H locs (F0 m0 23 ls []) := by
    intro τ1 H locs ls hP hS hl hv23
    rw [hWg]
    obtain ⟨hF, hru⟩ := hv23
    refine lv_iload_n hx hb dX3_broken_23 rfl (lv_at hl 3 rfl) ?_
    refine r_const hx hb dX3_broken_24 ?_
    refine r_icmp_gt (tgt := 39) hx hb (by omega) (by omega) dX3_broken_25 (by decide) (fun c25 => ?_) (fun c25 => ?_)
    · rw [← hWg]
      exact join39 _ _ _ _ hP hS hl ⟨hF, hf3 (by omega), by rw [rulF, cif_f (by omega), cif_f (by omega)]⟩
    · refine lv_aload_n hx hb dX3_broken_28 rfl (lv_at hl 0 rfl) ?_
      refine lv_aload_n hx hb dX3_broken_29 rfl (lv_at hl 1 rfl) ?_
      refine lv_iload_n hx hb dX3_broken_30 rfl (lv_at hl 2 rfl) ?_
      refine k_calliV (nL := 5) (C := RX3) (T := TX3) (N := 5) (ci := 3) hx hb hml hown hts hK hP hS hl.1 (c_X3_isPastEnd hi hI hw hd) rfl (Nat.le_of_ble_eq_true rfl) rfl (cwV 2 hts (gV lm_X3_47 ti_X3_isPastEnd tl_X3_isPastEnd tn_X3 tc_X3_isPastEnd) rfl rfl rfl (by decide +kernel) ⟨Nat.le_of_ble_eq_true rfl, Nat.le_of_ble_eq_true rfl⟩) rfl dX3_broken_31 ⟨Nat.zero_le _, Nat.zero_le _⟩ (by omega) CE_4 (fun r31 E1 H locs hq hP hS => ?_)
      obtain ⟨rfl, τ2, rfl, hx2, hF2⟩ := hq
      refine r_ifB_eq (tgt := 39) hx hb dX3_broken_34 (by decide) (fun c34 => ?_) (fun c34 => ?_)
      · rw [← hWg]
        exact join39 _ _ _ _ hP hS hl ⟨Fr2_tr hF (FrF_2 hF2), by omega, by rw [hru (by omega), rul2, cif_f c34]⟩
      · refine r_const hx hb dX3_broken_37 ?_
        exact k_iret hx hb hr hlocks hP hS dX3_broken_38 ⟨by rw [hru (by omega), rul2, cif_t c34], τ2, rfl, fun _ => rAt_0 (fun q => by omega) (fun _ => hx2 c34) (fun q => by omega) (fun q => by omega) (fun q => by omega) (fun q => by omega) (fun q => by omega), Fr2_tr hF (FrF_2 hF2)⟩
  refine lv_iload_n hx hb dX3_broken_7 rfl (lv_at hl 3 rfl) ?_
  refine r_const hx hb dX3_broken_8 ?_
  refine r_icmp_gt (tgt := 23) hx hb (by omega) (by omega) dX3_broken_9 (by decide) (fun c9 => ?_) (fun c9 => ?_)
  · rw [← hWg]
    exact join23 _ _ _ _ hP hS hl ⟨Fr2_rf, fun q => by rw [rulF, cif_f (by omega), cif_t q]⟩
  · refine lv_aload_n hx hb dX3_broken_12 rfl (lv_at hl 0 rfl) ?_
    refine lv_aload_n hx hb dX3_broken_13 rfl (lv_at hl 1 rfl) ?_
    refine lv_iload_n hx hb dX3_broken_14 rfl (lv_at hl 2 rfl) ?_
    refine k_calliV (nL := 5) (C := RX3) (T := TX3) (N := 5) (ci := 3) hx hb hml hown hts hK hP hS hl.1 (c_X3_isLateNotice hi hI hw hd (hf1 (by omega))) rfl (Nat.le_of_ble_eq_true rfl) rfl (cwV 2 hts (gV lm_X3_43 ti_X3_isLateNotice tl_X3_isLateNotice tn_X3 tc_X3_isLateNotice) rfl rfl rfl (by decide +kernel) ⟨Nat.le_of_ble_eq_true rfl, Nat.le_of_ble_eq_true rfl⟩) rfl dX3_broken_15 ⟨Nat.zero_le _, Nat.zero_le _⟩ (by omega) CE_4 (fun r15 E1 H locs hq hP hS => ?_)
    obtain ⟨rfl, τ2, rfl, hx1, hF2⟩ := hq
    refine r_ifB_eq (tgt := 23) hx hb dX3_broken_18 (by decide) (fun c18 => ?_) (fun c18 => ?_)
    · rw [← hWg]
      exact join23 _ _ _ _ hP hS hl ⟨FrF_2 hF2, fun q => by rw [rulF, cif_t (by omega), rul1, cif_f c18]⟩
    · refine r_const hx hb dX3_broken_21 ?_
      exact k_iret hx hb hr hlocks hP hS dX3_broken_22 ⟨by rw [rulF, cif_t (by omega), rul1, cif_t c18], τ2, rfl, fun _ => rAt_0 (fun _ => hx1 c18) (fun q => by omega) (fun q => by omega) (fun q => by omega) (fun q => by omega) (fun q => by omega) (fun q => by omega), FrF_2 hF2⟩

