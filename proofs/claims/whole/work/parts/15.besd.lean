noncomputable def bsF (σ : Tb) (C N : Int → Prop) (p t : Int) : Int := sumI (fun o => cif (N o) (cif (isOn σ o p) (lnO σ C o t) 0) 0) (σ 0 2)
noncomputable def bsI (σ τ : Tb) (C : Int → Prop) (p t i : Int) : Int := sumI (fun j => cif (isOn σ (τ 3 j) p) (lnO σ C (τ 3 j) t) 0) i
abbrev rmX0_surveyBeside : Room := { frames := 1, cells := 0, slots := 0, locals := 24 }
set_option maxRecDepth 100000 in
set_option maxHeartbeats 4000000 in
theorem c_X0_surveyBeside {l : Launch} {D : va_G} {G : Nat → ClassId} {ad : Nat → Nat} {σ τ : Tb} (hi : kInj 189 ad) {C N : Int → Prop} {w b e : Int} (hI : Inv σ) (hw : 0 ≤ w ∧ w < σ 0 2) (hb0 : 0 ≤ b ∧ b ≤ e + 1) (he0 : e ≤ 399) (hC : Cnt σ τ C) (hL : Lst (τ 3) (τ 2 1) N (σ 0 2)) : Met l yX0_surveyBeside wsX0_surveyBeside rmX0_surveyBeside (kPc D (tysG G) 189 ad (CE G ad σ τ) [.ref (ad 2), .ref (ad (69 + w.toNat)), .int (iI b), .int (iI e)]) (kQv D 189 ad (fun E' => ∃ τ', E' = CE G ad σ τ' ∧ (∀ t, b ≤ t → t ≤ e → τ' 9 t = lnA σ C w t) ∧ (∀ k t, 0 ≤ k → k < σ 18 w → b ≤ t → t ≤ e → τ' (5 + k.toNat) t = bsF σ C N (PQ σ w k) t) ∧ (∀ t i, ¬ (5 ≤ t ∧ t ≤ 9) → τ' t i = τ t i))) 0 0 (kA 189 ad) := by
  refine k_met (cc := cX0_surveyBeside) (maxL := 10) (ret := none) (by decide) (Nat.le_of_ble_eq_true rfl) ?_
  intro P0 e0 s m0 below meth c0 ls hx hb hr hlocks hml hown hts hK hP hS hl
  replace hl : lv_has ls 10 [(0, _), (1, _), (2, _), (3, _)] := hl
  replace hown : s.vm.findClass RX0 = some m0.cls := hown
  refine k_abs (fun Wg hWg => ?_)
  have h0 := Inv_0 hI
  have hL1 := hL.1
  obtain ⟨_, ⟨_, hq2, hq3, _⟩, _⟩ := Inv_w hI hw
  refine lv_iload_n hx hb dX0_surveyBeside_0 rfl (lv_at hl 2 rfl) ?_
  refine lv_istore hx hb dX0_surveyBeside_1 hl (by decide) rfl (fun ls hl => ?_)
  replace hl : lv_has ls 10 [(0, _), (1, _), (2, _), (3, _), (4, _)] := lv_sub hl [1, 2, 3, 4, 0] rfl
  have join61 : ∀ (τ1 : Tb) (H : Heap) (locs : List Loc) (ls : Array Slot), va_P D vwCl (kw 189 ad (CE G ad σ τ1)) H → va_S (kA 189 ad) s.heap H locs → lv_has ls 10 [(0, .ref (ad 2)), (1, .ref (ad (69 + w.toNat))), (2, .int (iI b)), (3, .int (iI e)), (4, .int (iI 0))] → ((∀ t, b ≤ t → t ≤ e → τ1 9 t = lnA σ C w t) ∧ (∀ k t, 0 ≤ k → k < σ 18 w → b ≤ t → t ≤ e → τ1 (5 + k.toNat) t = 0) ∧ (∀ t i, ¬ (5 ≤ t ∧ t ≤ 9) → τ1 t i = τ t i)) → Wg H locs (F0 m0 61 ls []) := by
    intro τ1 H locs ls hP hS hl hv61
    rw [hWg]
    have loop61 : ∀ (n : Nat) (i : Int) (τ2 : Tb) (H : Heap) (locs : List Loc) (ls : Array Slot), va_P D vwCl (kw 189 ad (CE G ad σ τ2)) H → va_S (kA 189 ad) s.heap H locs → lv_has ls 10 [(0, .ref (ad 2)), (1, .ref (ad (69 + w.toNat))), (2, .int (iI b)), (3, .int (iI e)), (4, .int (iI i))] → ((0 ≤ i ∧ i ≤ τ 2 1) ∧ (∀ t, b ≤ t → t ≤ e → τ2 9 t = lnA σ C w t) ∧ (∀ k t, 0 ≤ k → k < σ 18 w → b ≤ t → t ≤ e → τ2 (5 + k.toNat) t = bsI σ τ C (PQ σ w k) t i) ∧ (∀ t i, ¬ (5 ≤ t ∧ t ≤ 9) → τ2 t i = τ t i)) → (τ 2 1 - i).toNat < n → Wg H locs (F0 m0 61 ls []) := by
      intro n
      induction n with
      | zero => intro i τ2 H locs ls _ _ _ _ hn; omega
      | succ n ih61 =>
        intro i τ2 H locs ls hP hS hl hv61 hn61
        rw [hWg]
        obtain ⟨hv, hA, hT, hF⟩ := hv61
        refine lv_iload hx hb dX0_surveyBeside_61 (lv_at hl 4 rfl) ?_
        refine lv_aload_n hx hb dX0_surveyBeside_63 rfl (lv_at hl 0 rfl) ?_
        refine r_get (C := RX0) (T := TX0) (N := 9) (ci := 0) hx hb hts hi_X0 hown hK hP 5 rfl (by decide) lk_X0_45 (fun _ h9 => h9) dX0_surveyBeside_64 (by omega) CE_2 rfl ?_
        rw [(hF 2 1 (by decide))]
        refine r_icmp_ge (tgt := 186) hx hb (by omega) (by omega) dX0_surveyBeside_67 (by decide) (fun c67 => ?_) (fun c67 => ?_)
        · obtain rfl : i = τ 2 1 := by omega
          exact k_vret hx hb hr hlocks hP hS dX0_surveyBeside_186 ⟨τ2, rfl, hA, fun k t k1 k2 k3 k4 => (hT k t k1 k2 k3 k4).trans (hL.2.2.2 (fun o => cif (isOn σ o (PQ σ w k)) (lnO σ C o t) 0)), hF⟩
        · have hm := (hL.2.1 i (by omega) (by omega)).1
          obtain ⟨_, hQ, _⟩ := Inv_w hI hm
          have hB := IN_b hI hm
          unfold IQ at hQ
          refine lv_aload_n hx hb dX0_surveyBeside_70 rfl (lv_at hl 0 rfl) ?_
          refine r_get (C := RX0) (T := TX0) (N := 9) (ci := 0) hx hb hts hi_X0 hown hK hP 0 rfl (by decide) lk_X0_33 (fun _ h9 => h9) dX0_surveyBeside_71 (by omega) CE_2 rfl ?_
          refine r_get (C := RX5) (T := TX5) (N := 8) (ci := 5) hx hb hts hi_X5 hown hK hP 2 rfl (by decide) lk_X0_53 (fun _ h9 => h9) dX0_surveyBeside_74 (by omega) CE_1 rfl ?_
          refine lv_aload_n hx hb dX0_surveyBeside_77 rfl (lv_at hl 0 rfl) ?_
          refine r_get (C := RX0) (T := TX0) (N := 9) (ci := 0) hx hb hts hi_X0 hown hK hP 4 rfl (by decide) lk_X0_19 (fun _ h9 => h9) dX0_surveyBeside_78 (by omega) CE_2 rfl ?_
          refine lv_iload hx hb dX0_surveyBeside_81 (lv_at hl 4 rfl) ?_
          refine r_iald hx hb hK hP 0 rfl dX0_surveyBeside_83 (by omega) rfl (by omega) (by omega) (tI_at (by omega)) ?_
          rw [(hF 3 i (by decide))]
          refine r_aald hx hb hK hP 5 rfl dX0_surveyBeside_84 (by omega) rfl (by omega) (by omega) rfl ?_
          refine lv_astore hx hb dX0_surveyBeside_85 hl (by decide) rfl (fun ls hl => ?_)
          replace hl : lv_has ls 10 [(0, _), (1, _), (2, _), (3, _), (4, _), (5, _)] := lv_sub hl [1, 2, 3, 4, 5, 0] rfl
          refine lv_iload_n hx hb dX0_surveyBeside_87 rfl (lv_at hl 3 rfl) ?_
          refine lv_aload hx hb dX0_surveyBeside_88 (lv_at hl 5 rfl) ?_
          refine r_get (C := RX7) (T := TX7) (N := 16) (ci := 7) hx hb hts hi_X7 hown hK hP 12 rfl (by decide) lk_X0_94 (fun _ h9 => h9) dX0_surveyBeside_90 (by omega) (CE_w (by omega)) rfl ?_
          refine r_mmin hx hb hml hl.1 hown hts mm_X0_97 (Nat.le_of_ble_eq_true rfl) (Nat.le_of_ble_eq_true rfl) ⟨Nat.zero_le _, Nat.zero_le _⟩ (by omega) (by omega) dX0_surveyBeside_93 ?_
          obtain ⟨u, hu⟩ : ∃ u, u = (if σ 21 (τ 3 i) < e then σ 21 (τ 3 i) else e) := ⟨_, rfl⟩
          rw [← hu]
          have hu2 : u ≤ e ∧ u ≤ σ 21 (τ 3 i) ∧ (u = e ∨ u = σ 21 (τ 3 i)) := by rw [hu]; split <;> omega
          refine lv_istore hx hb dX0_surveyBeside_96 hl (by decide) rfl (fun ls hl => ?_)
          replace hl : lv_has ls 10 [(0, _), (1, _), (2, _), (3, _), (4, _), (5, _), (6, _)] := lv_sub hl [1, 2, 3, 4, 5, 6, 0] rfl
          refine lv_iload_n hx hb dX0_surveyBeside_98 rfl (lv_at hl 2 rfl) ?_
          refine lv_aload hx hb dX0_surveyBeside_99 (lv_at hl 5 rfl) ?_
          refine r_get (C := RX7) (T := TX7) (N := 16) (ci := 7) hx hb hts hi_X7 hown hK hP 11 rfl (by decide) lk_X0_103 (fun _ h9 => h9) dX0_surveyBeside_101 (by omega) (CE_w (by omega)) rfl ?_
          refine r_mmax hx hb hml hl.1 hown hts mm_X0_106 (Nat.le_of_ble_eq_true rfl) (Nat.le_of_ble_eq_true rfl) ⟨Nat.zero_le _, Nat.zero_le _⟩ (by omega) (by omega) dX0_surveyBeside_104 ?_
          obtain ⟨a, ha⟩ : ∃ a, a = (if b < σ 20 (τ 3 i) then σ 20 (τ 3 i) else b) := ⟨_, rfl⟩
          rw [← ha]
          have ha2 : b ≤ a ∧ σ 20 (τ 3 i) ≤ a ∧ a ≤ 400 ∧ (a = b ∨ a = σ 20 (τ 3 i)) := by rw [ha]; split <;> omega
          refine lv_istore hx hb dX0_surveyBeside_107 hl (by decide) rfl (fun ls hl => ?_)
          replace hl : lv_has ls 10 [(0, _), (1, _), (2, _), (3, _), (4, _), (5, _), (6, _), (7, _)] := lv_sub hl [1, 2, 3, 4, 5, 6, 7, 0] rfl
          have loop109 : ∀ (n : Nat) (t : Int) (τ3 : Tb) (H : Heap) (locs : List Loc) (ls : Array Slot), va_P D vwCl (kw 189 ad (CE G ad σ τ3)) H → va_S (kA 189 ad) s.heap H locs → lv_has ls 10 [(0, .ref (ad 2)), (1, .ref (ad (69 + w.toNat))), (2, .int (iI b)), (3, .int (iI e)), (4, .int (iI i)), (5, .ref (ad (69 + (τ 3 i).toNat))), (6, .int (iI u)), (7, .int (iI t))] → ((a ≤ t ∧ (t ≤ u + 1 ∨ t = a)) ∧ (∀ t, b ≤ t → t ≤ e → τ3 9 t = lnA σ C w t) ∧ (∀ k t', 0 ≤ k → k < σ 18 w → b ≤ t' → t' ≤ e → τ3 (5 + k.toNat) t' = bsI σ τ C (PQ σ w k) t' i + cif (t' < t) (cif (isOn σ (τ 3 i) (PQ σ w k)) (lnO σ C (τ 3 i) t') 0) 0) ∧ (∀ t i, ¬ (5 ≤ t ∧ t ≤ 9) → τ3 t i = τ t i)) → (u + 1 - t).toNat < n → Wg H locs (F0 m0 109 ls []) := by
            intro n
            induction n with
            | zero => intro t τ3 H locs ls _ _ _ _ hn; omega
            | succ n ih109 =>
              intro t τ3 H locs ls hP hS hl hv109 hn109
              rw [hWg]
              obtain ⟨hv3, hA3, hT3, hF3⟩ := hv109
              refine lv_iload hx hb dX0_surveyBeside_109 (lv_at hl 7 rfl) ?_
              refine lv_iload hx hb dX0_surveyBeside_111 (lv_at hl 6 rfl) ?_
              refine r_icmp_gt (tgt := 180) hx hb (by omega) (by omega) dX0_surveyBeside_113 (by decide) (fun c113 => ?_) (fun c113 => ?_)
              · have hT4 : ∀ k t', 0 ≤ k → k < σ 18 w → b ≤ t' → t' ≤ e → τ3 (5 + k.toNat) t' = bsI σ τ C (PQ σ w k) t' (i + 1) := by
                  intro k t' k1 k2 k3 k4
                  rw [hT3 k t' k1 k2 k3 k4, bsI, bsI, sumI_s hv.1]
                  by_cases q : t' < t
                  · rw [cif_t q]
                  · rw [cif_f q]
                    have hz : lnO σ C (τ 3 i) t' = 0 := by rw [lnO, cif_f (by omega)]
                    rw [hz]
                    by_cases x : isOn σ (τ 3 i) (PQ σ w k)
                    · rw [cif_t x]
                    · rw [cif_f x]
                refine r_iinc hx hb dX0_surveyBeside_180 hl (k := 4) rfl (by decide) (fun ls hl => ?_)
                replace hl : lv_has ls 10 [(0, _), (1, _), (2, _), (3, _), (4, _), (5, _), (6, _), (7, _)] := lv_sub hl [1, 2, 3, 4, 0, 5, 6, 7] rfl
                refine lv_goto (tgt := 61) hx hb dX0_surveyBeside_183 (by decide) ?_
                rw [← hWg]
                exact ih61 (i + 1) _ _ _ _ hP hS (lv_sub hl [0, 1, 2, 3, 4] rfl) ⟨by omega, hA3, hT4, hF3⟩ (by omega)
              · have hC3 : Cnt σ τ3 C := fun k k1 k2 => by rw [hF3 0 k (by decide)]; exact hC k k1 k2
                refine lv_aload_n hx hb dX0_surveyBeside_116 rfl (lv_at hl 0 rfl) ?_
                refine lv_aload hx hb dX0_surveyBeside_117 (lv_at hl 5 rfl) ?_
                refine lv_iload hx hb dX0_surveyBeside_119 (lv_at hl 7 rfl) ?_
                refine k_calliV (nL := 10) (C := RX0) (T := TX0) (N := 9) (ci := 0) hx hb hml hown hts hK hP hS hl.1 (c_X0_lanesOf hi hI hm (by omega) hC3) rfl (Nat.le_of_ble_eq_true rfl) rfl (cwV 2 hts (gV lm_X0_73 ti_X0_lanesOf tl_X0_lanesOf tn_X0 tc_X0_lanesOf) rfl rfl rfl (by decide +kernel) ⟨Nat.le_of_ble_eq_true rfl, Nat.le_of_ble_eq_true rfl⟩) rfl dX0_surveyBeside_121 ⟨Nat.zero_le _, Nat.zero_le _⟩ (by omega) CE_2 (fun r121 E1 H locs hq hP hS => ?_)
                obtain ⟨rfl, rfl⟩ := hq
                refine lv_istore hx hb dX0_surveyBeside_124 hl (by decide) rfl (fun ls hl => ?_)
                replace hl : lv_has ls 10 [(0, _), (1, _), (2, _), (3, _), (4, _), (5, _), (6, _), (7, _), (8, _)] := lv_sub hl [1, 2, 3, 4, 5, 6, 7, 8, 0] rfl
                refine r_const hx hb dX0_surveyBeside_126 ?_
                refine lv_istore hx hb dX0_surveyBeside_127 hl (by decide) rfl (fun ls hl => ?_)
                replace hl : lv_has ls 10 [(0, _), (1, _), (2, _), (3, _), (4, _), (5, _), (6, _), (7, _), (8, _), (9, _)] := lv_sub hl [1, 2, 3, 4, 5, 6, 7, 8, 9, 0] rfl
                have loop129 : ∀ (n : Nat) (k : Int) (τ4 : Tb) (H : Heap) (locs : List Loc) (ls : Array Slot), va_P D vwCl (kw 189 ad (CE G ad σ τ4)) H → va_S (kA 189 ad) s.heap H locs → lv_has ls 10 [(0, .ref (ad 2)), (1, .ref (ad (69 + w.toNat))), (2, .int (iI b)), (3, .int (iI e)), (4, .int (iI i)), (5, .ref (ad (69 + (τ 3 i).toNat))), (6, .int (iI u)), (7, .int (iI t)), (8, .int (iI (lnO σ C (τ 3 i) t))), (9, .int (iI k))] → ((0 ≤ k ∧ k ≤ σ 18 w) ∧ (∀ t, b ≤ t → t ≤ e → τ4 9 t = lnA σ C w t) ∧ (∀ k' t', 0 ≤ k' → k' < σ 18 w → b ≤ t' → t' ≤ e → τ4 (5 + k'.toNat) t' = bsI σ τ C (PQ σ w k') t' i + cif (t' < t ∨ (t' = t ∧ k' < k)) (cif (isOn σ (τ 3 i) (PQ σ w k')) (lnO σ C (τ 3 i) t') 0) 0) ∧ (∀ t i, ¬ (5 ≤ t ∧ t ≤ 9) → τ4 t i = τ t i)) → (σ 18 w - k).toNat < n → Wg H locs (F0 m0 129 ls []) := by
                  intro n
                  induction n with
                  | zero => intro k τ4 H locs ls _ _ _ _ hn; omega
                  | succ n ih129 =>
                    intro k τ4 H locs ls hP hS hl hv129 hn129
                    rw [hWg]
                    obtain ⟨hv4, hA4, hT4, hF4⟩ := hv129
                    refine lv_iload hx hb dX0_surveyBeside_129 (lv_at hl 9 rfl) ?_
                    refine lv_aload_n hx hb dX0_surveyBeside_131 rfl (lv_at hl 1 rfl) ?_
                    refine r_get (C := RX7) (T := TX7) (N := 16) (ci := 7) hx hb hts hi_X7 hown hK hP 2 rfl (by decide) lk_X0_77 (fun _ h9 => h9) dX0_surveyBeside_132 (by omega) (CE_w (by omega)) rfl ?_
                    refine r_icmp_ge (tgt := 174) hx hb (by omega) (by omega) dX0_surveyBeside_135 (by decide) (fun c135 => ?_) (fun c135 => ?_)
                    · refine r_iinc hx hb dX0_surveyBeside_174 hl (k := 7) rfl (by decide) (fun ls hl => ?_)
                      replace hl : lv_has ls 10 [(0, _), (1, _), (2, _), (3, _), (4, _), (5, _), (6, _), (7, _), (8, _), (9, _)] := lv_sub hl [1, 2, 3, 4, 5, 6, 7, 0, 8, 9] rfl
                      refine lv_goto (tgt := 109) hx hb dX0_surveyBeside_177 (by decide) ?_
                      rw [← hWg]
                      exact ih109 (t + 1) _ _ _ _ hP hS (lv_sub hl [0, 1, 2, 3, 4, 5, 6, 7] rfl) ⟨by omega, hA4, fun k' t' k1 k2 k3 k4 => by rw [hT4 k' t' k1 k2 k3 k4]; exact congrArg _ (cif_c (by omega) (fun _ => rfl) (fun _ => rfl)), hF4⟩ (by omega)
                    · have hp := (hq3 k (by omega) (by omega)).1
                      refine lv_aload hx hb dX0_surveyBeside_138 (lv_at hl 5 rfl) ?_
                      refine lv_aload_n hx hb dX0_surveyBeside_140 rfl (lv_at hl 1 rfl) ?_
                      refine r_get (C := RX7) (T := TX7) (N := 16) (ci := 7) hx hb hts hi_X7 hown hK hP 1 rfl (by decide) lk_X0_80 (fun _ h9 => h9) dX0_surveyBeside_141 (by omega) (CE_w (by omega)) rfl ?_
                      refine lv_iload hx hb dX0_surveyBeside_144 (lv_at hl 9 rfl) ?_
                      refine r_iald hx hb hK hP 0 rfl dX0_surveyBeside_146 (by omega) (CE_q (by omega)) (by omega) (by omega) tQ_PQ ?_
                      refine k_calliV (nL := 10) (C := RX7) (T := TX7) (N := 16) (ci := 7) hx hb hml hown hts hK hP hS hl.1 (c_X7_uses hi (by omega) (by omega) hQ.1) rfl (Nat.le_of_ble_eq_true rfl) rfl (cwV 1 hts (gV lm_X0_109 ti_X7_uses tl_X7_uses tn_X7 tc_X7_uses) rfl rfl rfl (by decide +kernel) ⟨Nat.le_of_ble_eq_true rfl, Nat.le_of_ble_eq_true rfl⟩) rfl dX0_surveyBeside_147 ⟨Nat.zero_le _, Nat.zero_le _⟩ (by omega) (CE_w (by omega)) (fun r147 E1 H locs hq hP hS => ?_)
                      obtain ⟨rfl, rfl⟩ := hq
                      refine r_ifB_eq (tgt := 168) hx hb dX0_surveyBeside_150 (by decide) (fun c150 => ?_) (fun c150 => ?_)
                      · refine r_iinc hx hb dX0_surveyBeside_168 hl (k := 9) rfl (by decide) (fun ls hl => ?_)
                        replace hl : lv_has ls 10 [(0, _), (1, _), (2, _), (3, _), (4, _), (5, _), (6, _), (7, _), (8, _), (9, _)] := lv_sub hl [1, 2, 3, 4, 5, 6, 7, 8, 9, 0] rfl
                        refine lv_goto (tgt := 129) hx hb dX0_surveyBeside_171 (by decide) ?_
                        rw [← hWg]
                        exact ih129 (k + 1) _ _ _ _ hP hS hl ⟨by omega, hA4, fun k' t' k1 k2 k3 k4 => by rw [hT4 k' t' k1 k2 k3 k4]; by_cases q : k' = k; { subst q; rw [cif_f c150]; refine congrArg _ ?_; by_cases z : t' < t ∨ (t' = t ∧ k' < k'); { rw [cif_t z, cif_t (by omega)] }; { rw [cif_f z]; by_cases y : t' < t ∨ (t' = t ∧ k' < k' + 1); { rw [cif_t y] }; { rw [cif_f y] } } }; { exact congrArg _ (cif_c (by omega) (fun _ => rfl) (fun _ => rfl)) }, hF4⟩ (by omega)
                      · refine lv_aload_n hx hb dX0_surveyBeside_153 rfl (lv_at hl 0 rfl) ?_
                        refine r_get (C := RX0) (T := TX0) (N := 9) (ci := 0) hx hb hts hi_X0 hown hK hP 7 rfl (by decide) lk_X0_27 (fun _ h9 => h9) dX0_surveyBeside_154 (by omega) CE_2 rfl ?_
                        refine lv_iload hx hb dX0_surveyBeside_157 (lv_at hl 9 rfl) ?_
                        refine r_aaldA hx hb hK hP 6 rfl dX0_surveyBeside_159 (by omega) rfl (by omega) (by omega) rfl ?_
                        refine lv_iload hx hb dX0_surveyBeside_160 (lv_at hl 7 rfl) ?_
                        refine lv_dup2_11 hx hb dX0_surveyBeside_162 rfl rfl ?_
                        refine r_iald hx hb hK hP 0 rfl dX0_surveyBeside_163 (by omega) (CE_b (by omega)) (by omega) (by omega) (tI_at (by omega)) ?_
                        refine lv_iload hx hb dX0_surveyBeside_164 (lv_at hl 8 rfl) ?_
                        refine r_add hx hb dX0_surveyBeside_166 ?_
                        refine r_iast hx hb hi hK hP hS 0 rfl dX0_surveyBeside_167 (by omega) (CE_b (by omega)) (by omega) (by omega) (cu_beside (by omega) (by omega)) (fun H locs hP hS => ?_)
                        have hA5 : ∀ t', b ≤ t' → t' ≤ e → up τ4 (5 + k.toNat) t (τ4 (5 + k.toNat) t + lnO σ C (τ 3 i) t) 9 t' = lnA σ C w t' := fun t' q1 q2 => by rw [up_t (by omega)]; exact hA4 t' q1 q2
                        have hF5 : ∀ t' j, ¬ (5 ≤ t' ∧ t' ≤ 9) → up τ4 (5 + k.toNat) t (τ4 (5 + k.toNat) t + lnO σ C (τ 3 i) t) t' j = τ t' j := fun t' j q => by rw [up_t (by omega)]; exact hF4 t' j q
                        have hT5 : ∀ k' t', 0 ≤ k' → k' < σ 18 w → b ≤ t' → t' ≤ e → up τ4 (5 + k.toNat) t (τ4 (5 + k.toNat) t + lnO σ C (τ 3 i) t) (5 + k'.toNat) t' = bsI σ τ C (PQ σ w k') t' i + cif (t' < t ∨ (t' = t ∧ k' < k + 1)) (cif (isOn σ (τ 3 i) (PQ σ w k')) (lnO σ C (τ 3 i) t') 0) 0 := by
                          intro k' t' k1 k2 k3 k4
                          by_cases q : k' = k ∧ t' = t
                          · obtain ⟨rfl, rfl⟩ := q
                            rw [up_self, hT4 k' t' k1 k2 k3 k4, cif_f (by omega), cif_t (by omega), cif_t c150]
                            omega
                          · have e1 : up τ4 (5 + k.toNat) t (τ4 (5 + k.toNat) t + lnO σ C (τ 3 i) t) (5 + k'.toNat) t' = τ4 (5 + k'.toNat) t' := by
                              by_cases z : t' = t
                              · exact up_t (by omega)
                              · exact up_i z
                            rw [e1, hT4 k' t' k1 k2 k3 k4]
                            exact congrArg _ (cif_c (by omega) (fun _ => rfl) (fun _ => rfl))
                        refine r_iinc hx hb dX0_surveyBeside_168 hl (k := 9) rfl (by decide) (fun ls hl => ?_)
                        replace hl : lv_has ls 10 [(0, _), (1, _), (2, _), (3, _), (4, _), (5, _), (6, _), (7, _), (8, _), (9, _)] := lv_sub hl [1, 2, 3, 4, 5, 6, 7, 8, 9, 0] rfl
                        refine lv_goto (tgt := 129) hx hb dX0_surveyBeside_171 (by decide) ?_
                        rw [← hWg]
                        exact ih129 (k + 1) _ _ _ _ hP hS hl ⟨by omega, hA5, hT5, hF5⟩ (by omega)
                rw [← hWg]
                exact loop129 _ 0 _ _ _ _ hP hS hl ⟨by omega, hA3, fun k' t' k1 k2 k3 k4 => by rw [hT3 k' t' k1 k2 k3 k4]; exact congrArg _ (cif_c (by omega) (fun _ => rfl) (fun _ => rfl)), hF3⟩ (Nat.lt_succ_self _)
          have hT3 : ∀ k t', 0 ≤ k → k < σ 18 w → b ≤ t' → t' ≤ e → τ2 (5 + k.toNat) t' = bsI σ τ C (PQ σ w k) t' i + cif (t' < a) (cif (isOn σ (τ 3 i) (PQ σ w k)) (lnO σ C (τ 3 i) t') 0) 0 := by
            intro k t' k1 k2 k3 k4
            rw [hT k t' k1 k2 k3 k4]
            by_cases q : t' < a
            · have hz : lnO σ C (τ 3 i) t' = 0 := by rw [lnO, cif_f (by omega)]
              rw [cif_t q, hz]
              by_cases x : isOn σ (τ 3 i) (PQ σ w k)
              · rw [cif_t x]; omega
              · rw [cif_f x]; omega
            · rw [cif_f q]; omega
          rw [← hWg]
          exact loop109 _ a _ _ _ _ hP hS hl ⟨by omega, hA, hT3, hF⟩ (Nat.lt_succ_self _)
    rw [← hWg]
    exact loop61 _ 0 _ _ _ _ hP hS hl ⟨by omega, hv61.1, hv61.2.1, hv61.2.2⟩ (Nat.lt_succ_self _)
  have loop3 : ∀ (n : Nat) (t : Int) (τ1 : Tb) (H : Heap) (locs : List Loc) (ls : Array Slot), va_P D vwCl (kw 189 ad (CE G ad σ τ1)) H → va_S (kA 189 ad) s.heap H locs → lv_has ls 10 [(0, .ref (ad 2)), (1, .ref (ad (69 + w.toNat))), (2, .int (iI b)), (3, .int (iI e)), (4, .int (iI t))] → ((b ≤ t ∧ t ≤ e + 1) ∧ (∀ t', b ≤ t' → t' < t → τ1 9 t' = lnA σ C w t') ∧ (∀ k t', 0 ≤ k → k < σ 18 w → b ≤ t' → t' < t → τ1 (5 + k.toNat) t' = 0) ∧ (∀ t i, ¬ (5 ≤ t ∧ t ≤ 9) → τ1 t i = τ t i)) → (e + 1 - t).toNat < n → Wg H locs (F0 m0 3 ls []) := by
    intro n
    induction n with
    | zero => intro t τ1 H locs ls _ _ _ _ hn; omega
    | succ n ih3 =>
      intro t τ1 H locs ls hP hS hl hv3 hn3
      rw [hWg]
      obtain ⟨hv, hA, hT, hF⟩ := hv3
      refine lv_iload hx hb dX0_surveyBeside_3 (lv_at hl 4 rfl) ?_
      refine lv_iload_n hx hb dX0_surveyBeside_5 rfl (lv_at hl 3 rfl) ?_
      refine r_icmp_gt (tgt := 58) hx hb (by omega) (by omega) dX0_surveyBeside_6 (by decide) (fun c6 => ?_) (fun c6 => ?_)
      · refine r_const hx hb dX0_surveyBeside_58 ?_
        refine lv_istore hx hb dX0_surveyBeside_59 hl (by decide) rfl (fun ls hl => ?_)
        replace hl : lv_has ls 10 [(0, _), (1, _), (2, _), (3, _), (4, _)] := lv_sub hl [1, 2, 3, 4, 0] rfl
        rw [← hWg]
        exact join61 _ _ _ _ hP hS hl ⟨fun t' q1 q2 => hA t' q1 (by omega), fun k t' k1 k2 k3 k4 => hT k t' k1 k2 k3 (by omega), hF⟩
      · have hC3 : Cnt σ τ1 C := fun k k1 k2 => by rw [hF 0 k (by decide)]; exact hC k k1 k2
        refine lv_aload_n hx hb dX0_surveyBeside_9 rfl (lv_at hl 0 rfl) ?_
        refine r_get (C := RX0) (T := TX0) (N := 9) (ci := 0) hx hb hts hi_X0 hown hK hP 8 rfl (by decide) lk_X0_30 (fun _ h9 => h9) dX0_surveyBeside_10 (by omega) CE_2 rfl ?_
        refine lv_iload hx hb dX0_surveyBeside_13 (lv_at hl 4 rfl) ?_
        refine lv_aload_n hx hb dX0_surveyBeside_15 rfl (lv_at hl 0 rfl) ?_
        refine lv_aload_n hx hb dX0_surveyBeside_16 rfl (lv_at hl 1 rfl) ?_
        refine lv_iload hx hb dX0_surveyBeside_17 (lv_at hl 4 rfl) ?_
        refine k_calliV (nL := 10) (C := RX0) (T := TX0) (N := 9) (ci := 0) hx hb hml hown hts hK hP hS hl.1 (c_X0_lanesAddedBy hi hI hw (by omega) hC3) rfl (Nat.le_of_ble_eq_true rfl) rfl (cwV 2 hts (gV lm_X0_91 ti_X0_lanesAddedBy tl_X0_lanesAddedBy tn_X0 tc_X0_lanesAddedBy) rfl rfl rfl (by decide +kernel) ⟨Nat.le_of_ble_eq_true rfl, Nat.le_of_ble_eq_true rfl⟩) rfl dX0_surveyBeside_19 ⟨Nat.zero_le _, Nat.zero_le _⟩ (by omega) CE_2 (fun r19 E1 H locs hq hP hS => ?_)
        obtain ⟨rfl, rfl⟩ := hq
        refine r_iast hx hb hi hK hP hS 0 rfl dX0_surveyBeside_22 (by omega) rfl (by omega) (by omega) (cu_added (by omega)) (fun H locs hP hS => ?_)
        refine r_const hx hb dX0_surveyBeside_23 ?_
        refine lv_istore hx hb dX0_surveyBeside_24 hl (by decide) rfl (fun ls hl => ?_)
        replace hl : lv_has ls 10 [(0, _), (1, _), (2, _), (3, _), (4, _), (5, _)] := lv_sub hl [1, 2, 3, 4, 5, 0] rfl
        have hA1 : ∀ t', b ≤ t' → t' < t + 1 → up τ1 9 t (lnA σ C w t) 9 t' = lnA σ C w t' := by
          intro t' q1 q2
          by_cases q : t' = t
          · rw [q, up_self]
          · rw [up_i q]; exact hA t' q1 (by omega)
        have loop26 : ∀ (n : Nat) (k : Int) (τ2 : Tb) (H : Heap) (locs : List Loc) (ls : Array Slot), va_P D vwCl (kw 189 ad (CE G ad σ τ2)) H → va_S (kA 189 ad) s.heap H locs → lv_has ls 10 [(0, .ref (ad 2)), (1, .ref (ad (69 + w.toNat))), (2, .int (iI b)), (3, .int (iI e)), (4, .int (iI t)), (5, .int (iI k))] → ((0 ≤ k ∧ k ≤ σ 18 w) ∧ (∀ t', b ≤ t' → t' < t + 1 → τ2 9 t' = lnA σ C w t') ∧ (∀ k' t', 0 ≤ k' → k' < σ 18 w → b ≤ t' → (t' < t ∨ (t' = t ∧ k' < k)) → τ2 (5 + k'.toNat) t' = 0) ∧ (∀ t i, ¬ (5 ≤ t ∧ t ≤ 9) → τ2 t i = τ t i)) → (σ 18 w - k).toNat < n → Wg H locs (F0 m0 26 ls []) := by
          intro n
          induction n with
          | zero => intro k τ2 H locs ls _ _ _ _ hn; omega
          | succ n ih26 =>
            intro k τ2 H locs ls hP hS hl hv26 hn26
            rw [hWg]
            obtain ⟨hv4, hA4, hT4, hF4⟩ := hv26
            refine lv_iload hx hb dX0_surveyBeside_26 (lv_at hl 5 rfl) ?_
            refine lv_aload_n hx hb dX0_surveyBeside_28 rfl (lv_at hl 1 rfl) ?_
            refine r_get (C := RX7) (T := TX7) (N := 16) (ci := 7) hx hb hts hi_X7 hown hK hP 2 rfl (by decide) lk_X0_77 (fun _ h9 => h9) dX0_surveyBeside_29 (by omega) (CE_w (by omega)) rfl ?_
            refine r_icmp_ge (tgt := 52) hx hb (by omega) (by omega) dX0_surveyBeside_32 (by decide) (fun c32 => ?_) (fun c32 => ?_)
            · refine r_iinc hx hb dX0_surveyBeside_52 hl (k := 4) rfl (by decide) (fun ls hl => ?_)
              replace hl : lv_has ls 10 [(0, _), (1, _), (2, _), (3, _), (4, _), (5, _)] := lv_sub hl [1, 2, 3, 4, 0, 5] rfl
              refine lv_goto (tgt := 3) hx hb dX0_surveyBeside_55 (by decide) ?_
              rw [← hWg]
              exact ih3 (t + 1) _ _ _ _ hP hS (lv_sub hl [0, 1, 2, 3, 4] rfl) ⟨by omega, hA4, fun k' t' k1 k2 k3 k4 => hT4 k' t' k1 k2 k3 (by omega), hF4⟩ (by omega)
            · refine lv_aload_n hx hb dX0_surveyBeside_35 rfl (lv_at hl 0 rfl) ?_
              refine r_get (C := RX0) (T := TX0) (N := 9) (ci := 0) hx hb hts hi_X0 hown hK hP 7 rfl (by decide) lk_X0_27 (fun _ h9 => h9) dX0_surveyBeside_36 (by omega) CE_2 rfl ?_
              refine lv_iload hx hb dX0_surveyBeside_39 (lv_at hl 5 rfl) ?_
              refine r_aaldA hx hb hK hP 6 rfl dX0_surveyBeside_41 (by omega) rfl (by omega) (by omega) rfl ?_
              refine lv_iload hx hb dX0_surveyBeside_42 (lv_at hl 4 rfl) ?_
              refine r_const hx hb dX0_surveyBeside_44 ?_
              refine r_iast hx hb hi hK hP hS 0 rfl dX0_surveyBeside_45 (by omega) (CE_b (by omega)) (by omega) (by omega) (cu_beside (by omega) (by omega)) (fun H locs hP hS => ?_)
              refine r_iinc hx hb dX0_surveyBeside_46 hl (k := 5) rfl (by decide) (fun ls hl => ?_)
              replace hl : lv_has ls 10 [(0, _), (1, _), (2, _), (3, _), (4, _), (5, _)] := lv_sub hl [1, 2, 3, 4, 5, 0] rfl
              refine lv_goto (tgt := 26) hx hb dX0_surveyBeside_49 (by decide) ?_
              have hT5 : ∀ k' t', 0 ≤ k' → k' < σ 18 w → b ≤ t' → (t' < t ∨ (t' = t ∧ k' < k + 1)) → up τ2 (5 + k.toNat) t 0 (5 + k'.toNat) t' = 0 := by
                intro k' t' k1 k2 k3 k4
                by_cases q : k' = k ∧ t' = t
                · obtain ⟨rfl, rfl⟩ := q
                  exact up_self _ _ _ _
                · have e1 : up τ2 (5 + k.toNat) t 0 (5 + k'.toNat) t' = τ2 (5 + k'.toNat) t' := by
                    by_cases z : t' = t
                    · exact up_t (by omega)
                    · exact up_i z
                  rw [e1]
                  exact hT4 k' t' k1 k2 k3 (by omega)
              rw [← hWg]
              exact ih26 (k + 1) _ _ _ _ hP hS (lv_sub hl [0, 1, 2, 3, 4, 5] rfl) ⟨by omega, fun t' q1 q2 => by rw [up_t (by omega)]; exact hA4 t' q1 q2, hT5, fun t' j q => by rw [up_t (by omega)]; exact hF4 t' j q⟩ (by omega)
        rw [← hWg]
        exact loop26 _ 0 _ _ _ _ hP hS hl ⟨by omega, hA1, fun k' t' k1 k2 k3 k4 => by rw [up_t (by omega)]; exact hT k' t' k1 k2 k3 (by omega), fun t' j q => by rw [up_t (by omega)]; exact hF t' j q⟩ (Nat.lt_succ_self _)
  rw [← hWg]
  exact loop3 _ b _ _ _ _ hP hS hl ⟨by omega, fun t' q1 q2 => by omega, fun k t' k1 k2 k3 k4 => by omega, fun t' j q => rfl⟩ (Nat.lt_succ_self _)

