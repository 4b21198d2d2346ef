/-! ===== the system's own methods ===== -/
theorem e00 {σ : Tb} {n a b c d e f : Int} : up (up (up (up (up (up σ 1 n a) 2 n b) 3 n c) 4 n d) 5 n e) 6 n f 0 0 = σ 0 0 := by simp [up]
abbrev rmX8_piece : Room := { frames := 2, cells := 0, slots := 0, locals := 43 }
set_option maxRecDepth 100000 in
set_option maxHeartbeats 4000000 in
theorem c_X8_piece {l : Launch} {D : va_G} {G : Nat → ClassId} {ad : Nat → Nat} {σ τ : Tb} (hi : kInj 189 ad) {a b c d e : Int} (hI : InvS σ) (hT : TI τ) (ha : (-2147483648 ≤ a ∧ a < 2147483648)) (hb1 : (-2147483648 ≤ b ∧ b < 2147483648)) (hc1 : (-2147483648 ≤ c ∧ c < 2147483648)) (hd1 : (-2147483648 ≤ d ∧ d < 2147483648)) (he1 : (-2147483648 ≤ e ∧ e < 2147483648)) : Met l yX8_piece wsX8_piece rmX8_piece (kPc D (tysG G) 189 ad (CE G ad σ τ) [.ref (ad 0), .int (iI a), .int (iI b), .int (iI c), .int (iI d), .int (iI e)]) (kQi D 189 ad (fun z E' => z = aPiece σ a b c d e ∧ ∃ τ', E' = CE G ad (sPiece σ a b c d e) τ' ∧ TI τ')) 0 0 (kA 189 ad) := by
  refine k_met (cc := cX8_piece) (maxL := 7) (ret := (some .int)) (by decide) (Nat.le_of_ble_eq_true rfl) ?_
  intro P0 e0 s m0 below meth c0 ls hx hb hr hlocks hml hown hts hK hP hS hl
  replace hl : lv_has ls 7 [(0, _), (1, _), (2, _), (3, _), (4, _), (5, _)] := hl
  replace hown : s.vm.findClass RX8 = some m0.cls := hown
  refine k_abs (fun Wg hWg => ?_)
  have h0 := Inv_0 hI.1
  have hbad : ¬ vP a b c d e → (-1 : Int) = aPiece σ a b c d e ∧ ∃ τ', CE G ad σ τ = CE G ad (sPiece σ a b c d e) τ' ∧ TI τ' := fun q => ⟨by rw [aPiece, cif_f q], τ, by rw [sPiece, cif_f (fun z => q z.1)], hT⟩
  have join18 : ∀  (H : Heap) (locs : List Loc) (ls : Array Slot), va_P D vwCl (kw 189 ad (CE G ad σ τ)) H → va_S (kA 189 ad) s.heap H locs → lv_has ls 7 [(0, .ref (ad 0)), (1, .int (iI a)), (2, .int (iI b)), (3, .int (iI c)), (4, .int (iI d)), (5, .int (iI e))] → (¬ vP a b c d e) → Wg H locs (F0 m0 18 ls []) := by
    intro  H locs ls hP hS hl hv18
    rw [hWg]
    refine r_const hx hb dX8_piece_18 ?_
    exact k_iret hx hb hr hlocks hP hS dX8_piece_19 (hbad hv18)
  refine lv_iload_n hx hb dX8_piece_0 rfl (lv_at hl 1 rfl) ?_
  refine r_if_lt (tgt := 18) hx hb (by omega) dX8_piece_1 (by decide) (fun c1 => ?_) (fun c1 => ?_)
  · rw [← hWg]
    exact join18  _ _ _ hP hS hl (fun q => by unfold vP at q; omega)
  · refine lv_iload_n hx hb dX8_piece_4 rfl (lv_at hl 1 rfl) ?_
    refine r_bipush hx hb dX8_piece_5 (by decide +kernel) ?_
    refine r_div hx hb (by omega) (by omega) dX8_piece_7 ?_
    refine lv_iload_n hx hb dX8_piece_8 rfl (lv_at hl 1 rfl) ?_
    refine r_bipush hx hb dX8_piece_9 (by decide +kernel) ?_
    refine r_rem hx hb (by omega) (by omega) dX8_piece_11 ?_
    refine k_calliS (nL := 7) hx hb hml hown hts hK hP hS hl.1 (c_X8_areCrossings hi (by omega) (by omega)) rfl (Nat.le_of_ble_eq_true rfl) (va_cwS 2 hts (gS lm_X8_50 ts_X8_areCrossings tn_X8 tc_X8_areCrossings) rfl rfl rfl (by decide +kernel) ⟨Nat.le_of_ble_eq_true rfl, Nat.le_of_ble_eq_true rfl⟩) rfl dX8_piece_12 ⟨Nat.zero_le _, Nat.zero_le _⟩ (fun r12 E1 H locs hq hP hS => ?_)
    obtain ⟨rfl, rfl⟩ := hq
    refine r_ifB_ne (tgt := 20) hx hb dX8_piece_15 (by decide) (fun c15 => ?_) (fun c15 => ?_)
    · refine lv_iload_n hx hb dX8_piece_20 rfl (lv_at hl 2 rfl) ?_
      refine r_const hx hb dX8_piece_21 ?_
      refine r_const hx hb dX8_piece_22 ?_
      refine k_calliS (nL := 7) hx hb hml hown hts hK hP hS hl.1 (c_X8_within hi hb1 (by omega) (by omega)) rfl (Nat.le_of_ble_eq_true rfl) (va_cwS 3 hts (gS lm_X8_54 ts_X8_within tn_X8 tc_X8_within) rfl rfl rfl (by decide +kernel) ⟨Nat.le_of_ble_eq_true rfl, Nat.le_of_ble_eq_true rfl⟩) rfl dX8_piece_23 ⟨Nat.zero_le _, Nat.zero_le _⟩ (fun r23 E1 H locs hq hP hS => ?_)
      obtain ⟨rfl, rfl⟩ := hq
      have join38 : ∀  (H : Heap) (locs : List Loc) (ls : Array Slot), va_P D vwCl (kw 189 ad (CE G ad σ τ)) H → va_S (kA 189 ad) s.heap H locs → lv_has ls 7 [(0, .ref (ad 0)), (1, .int (iI a)), (2, .int (iI b)), (3, .int (iI c)), (4, .int (iI d)), (5, .int (iI e))] → (¬ vP a b c d e) → Wg H locs (F0 m0 38 ls []) := by
        intro  H locs ls hP hS hl hv38
        rw [hWg]
        refine r_const hx hb dX8_piece_38 ?_
        exact k_iret hx hb hr hlocks hP hS dX8_piece_39 (hbad hv38)
      refine r_ifB_eq (tgt := 38) hx hb dX8_piece_26 (by decide) (fun c26 => ?_) (fun c26 => ?_)
      · rw [← hWg]
        exact join38  _ _ _ hP hS hl (fun q => by unfold vP at q; omega)
      · refine lv_iload_n hx hb dX8_piece_29 rfl (lv_at hl 3 rfl) ?_
        refine r_const hx hb dX8_piece_30 ?_
        refine r_const hx hb dX8_piece_31 ?_
        refine k_calliS (nL := 7) hx hb hml hown hts hK hP hS hl.1 (c_X8_within hi hc1 (by omega) (by omega)) rfl (Nat.le_of_ble_eq_true rfl) (va_cwS 3 hts (gS lm_X8_54 ts_X8_within tn_X8 tc_X8_within) rfl rfl rfl (by decide +kernel) ⟨Nat.le_of_ble_eq_true rfl, Nat.le_of_ble_eq_true rfl⟩) rfl dX8_piece_32 ⟨Nat.zero_le _, Nat.zero_le _⟩ (fun r32 E1 H locs hq hP hS => ?_)
        obtain ⟨rfl, rfl⟩ := hq
        refine r_ifB_ne (tgt := 40) hx hb dX8_piece_35 (by decide) (fun c35 => ?_) (fun c35 => ?_)
        · refine lv_iload hx hb dX8_piece_40 (lv_at hl 4 rfl) ?_
          refine r_const hx hb dX8_piece_42 ?_
          refine r_bipush hx hb dX8_piece_43 (by decide +kernel) ?_
          refine k_calliS (nL := 7) hx hb hml hown hts hK hP hS hl.1 (c_X8_within hi hd1 (by omega) (by omega)) rfl (Nat.le_of_ble_eq_true rfl) (va_cwS 3 hts (gS lm_X8_54 ts_X8_within tn_X8 tc_X8_within) rfl rfl rfl (by decide +kernel) ⟨Nat.le_of_ble_eq_true rfl, Nat.le_of_ble_eq_true rfl⟩) rfl dX8_piece_45 ⟨Nat.zero_le _, Nat.zero_le _⟩ (fun r45 E1 H locs hq hP hS => ?_)
          obtain ⟨rfl, rfl⟩ := hq
          have join62 : ∀  (H : Heap) (locs : List Loc) (ls : Array Slot), va_P D vwCl (kw 189 ad (CE G ad σ τ)) H → va_S (kA 189 ad) s.heap H locs → lv_has ls 7 [(0, .ref (ad 0)), (1, .int (iI a)), (2, .int (iI b)), (3, .int (iI c)), (4, .int (iI d)), (5, .int (iI e))] → (¬ vP a b c d e) → Wg H locs (F0 m0 62 ls []) := by
            intro  H locs ls hP hS hl hv62
            rw [hWg]
            refine r_const hx hb dX8_piece_62 ?_
            exact k_iret hx hb hr hlocks hP hS dX8_piece_63 (hbad hv62)
          refine r_ifB_eq (tgt := 62) hx hb dX8_piece_48 (by decide) (fun c48 => ?_) (fun c48 => ?_)
          · rw [← hWg]
            exact join62  _ _ _ hP hS hl (fun q => by unfold vP at q; omega)
          · refine lv_iload hx hb dX8_piece_51 (lv_at hl 5 rfl) ?_
            refine r_const hx hb dX8_piece_53 ?_
            refine r_bipush hx hb dX8_piece_54 (by decide +kernel) ?_
            refine k_calliS (nL := 7) hx hb hml hown hts hK hP hS hl.1 (c_X8_within hi he1 (by omega) (by omega)) rfl (Nat.le_of_ble_eq_true rfl) (va_cwS 3 hts (gS lm_X8_54 ts_X8_within tn_X8 tc_X8_within) rfl rfl rfl (by decide +kernel) ⟨Nat.le_of_ble_eq_true rfl, Nat.le_of_ble_eq_true rfl⟩) rfl dX8_piece_56 ⟨Nat.zero_le _, Nat.zero_le _⟩ (fun r56 E1 H locs hq hP hS => ?_)
            obtain ⟨rfl, rfl⟩ := hq
            refine r_ifB_ne (tgt := 64) hx hb dX8_piece_59 (by decide) (fun c59 => ?_) (fun c59 => ?_)
            · have hv : vP a b c d e := by unfold vP; omega
              refine lv_aload_n hx hb dX8_piece_64 rfl (lv_at hl 0 rfl) ?_
              refine r_get (C := RX8) (T := TX8) (N := 8) (ci := 8) hx hb hts hi_X8 hown hK hP 0 rfl (by decide) lk_X8_10 (fun _ h9 => h9) dX8_piece_65 (by omega) CE_0 rfl ?_
              refine r_get (C := RX5) (T := TX5) (N := 8) (ci := 5) hx hb hts hi_X5 hown hK hP 4 rfl (by decide) lk_X8_58 (fun _ h9 => h9) dX8_piece_68 (by omega) CE_1 rfl ?_
              refine r_bipush hx hb dX8_piece_71 (by decide +kernel) ?_
              refine r_icmp_lt (tgt := 79) hx hb (by omega) (by omega) dX8_piece_73 (by decide) (fun c73 => ?_) (fun c73 => ?_)
              · refine lv_aload_n hx hb dX8_piece_79 rfl (lv_at hl 0 rfl) ?_
                refine r_get (C := RX8) (T := TX8) (N := 8) (ci := 8) hx hb hts hi_X8 hown hK hP 0 rfl (by decide) lk_X8_10 (fun _ h9 => h9) dX8_piece_80 (by omega) CE_0 rfl ?_
                refine r_get (C := RX5) (T := TX5) (N := 8) (ci := 5) hx hb hts hi_X5 hown hK hP 0 rfl (by decide) lk_X8_62 (fun _ h9 => h9) dX8_piece_83 (by omega) CE_1 rfl ?_
                refine lv_aload_n hx hb dX8_piece_86 rfl (lv_at hl 0 rfl) ?_
                refine r_get (C := RX8) (T := TX8) (N := 8) (ci := 8) hx hb hts hi_X8 hown hK hP 0 rfl (by decide) lk_X8_10 (fun _ h9 => h9) dX8_piece_87 (by omega) CE_0 rfl ?_
                refine r_get (C := RX5) (T := TX5) (N := 8) (ci := 5) hx hb hts hi_X5 hown hK hP 4 rfl (by decide) lk_X8_58 (fun _ h9 => h9) dX8_piece_90 (by omega) CE_1 rfl ?_
                refine r_aald hx hb hK hP 4 rfl dX8_piece_93 (by omega) rfl (by omega) (by omega) rfl ?_
                refine lv_astore hx hb dX8_piece_94 hl (by decide) rfl (fun ls hl => ?_)
                replace hl : lv_has ls 7 [(0, _), (1, _), (2, _), (3, _), (4, _), (5, _), (6, _)] := lv_sub hl [1, 2, 3, 4, 5, 6, 0] rfl
                refine lv_aload hx hb dX8_piece_96 (lv_at hl 6 rfl) ?_
                refine lv_iload_n hx hb dX8_piece_98 rfl (lv_at hl 1 rfl) ?_
                refine r_bipush hx hb dX8_piece_99 (by decide +kernel) ?_
                refine r_div hx hb (by omega) (by omega) dX8_piece_101 ?_
                refine r_put (C := RX2) (T := TX2) (N := 6) (ci := 2) hx hb hi hts hi_X2 tyX2 tyX2_ok nmX2 hown hK hP hS 0 rfl (by decide) lk_X8_66 (fun _ h9 => h9) rfl (ty := .int) (by decide +kernel) rfl rfl dX8_piece_102 (by omega) (CE_p (by omega)) (Nat.le_of_ble_eq_true rfl) (cu_p_from (by omega)) (fun H locs hP hS => ?_)
                refine lv_aload hx hb dX8_piece_105 (lv_at hl 6 rfl) ?_
                refine lv_iload_n hx hb dX8_piece_107 rfl (lv_at hl 1 rfl) ?_
                refine r_bipush hx hb dX8_piece_108 (by decide +kernel) ?_
                refine r_rem hx hb (by omega) (by omega) dX8_piece_110 ?_
                refine r_put (C := RX2) (T := TX2) (N := 6) (ci := 2) hx hb hi hts hi_X2 tyX2 tyX2_ok nmX2 hown hK hP hS 1 rfl (by decide) lk_X8_71 (fun _ h9 => h9) rfl (ty := .int) (by decide +kernel) rfl rfl dX8_piece_111 (by omega) (CE_p (by omega)) (Nat.le_of_ble_eq_true rfl) (cu_p_to (by omega)) (fun H locs hP hS => ?_)
                refine lv_aload hx hb dX8_piece_114 (lv_at hl 6 rfl) ?_
                refine lv_iload_n hx hb dX8_piece_116 rfl (lv_at hl 2 rfl) ?_
                refine r_put (C := RX2) (T := TX2) (N := 6) (ci := 2) hx hb hi hts hi_X2 tyX2 tyX2_ok nmX2 hown hK hP hS 2 rfl (by decide) lk_X8_74 (fun _ h9 => h9) rfl (ty := .int) (by decide +kernel) rfl rfl dX8_piece_117 (by omega) (CE_p (by omega)) (Nat.le_of_ble_eq_true rfl) (cu_p_lanes (by omega)) (fun H locs hP hS => ?_)
                refine lv_aload hx hb dX8_piece_120 (lv_at hl 6 rfl) ?_
                refine lv_iload_n hx hb dX8_piece_122 rfl (lv_at hl 3 rfl) ?_
                refine r_put (C := RX2) (T := TX2) (N := 6) (ci := 2) hx hb hi hts hi_X2 tyX2 tyX2_ok nmX2 hown hK hP hS 3 rfl (by decide) lk_X8_77 (fun _ h9 => h9) rfl (ty := .int) (by decide +kernel) rfl rfl dX8_piece_123 (by omega) (CE_p (by omega)) (Nat.le_of_ble_eq_true rfl) (cu_p_rank (by omega)) (fun H locs hP hS => ?_)
                refine lv_aload hx hb dX8_piece_126 (lv_at hl 6 rfl) ?_
                refine lv_iload hx hb dX8_piece_128 (lv_at hl 4 rfl) ?_
                refine r_put (C := RX2) (T := TX2) (N := 6) (ci := 2) hx hb hi hts hi_X2 tyX2 tyX2_ok nmX2 hown hK hP hS 4 rfl (by decide) lk_X8_80 (fun _ h9 => h9) rfl (ty := .int) (by decide +kernel) rfl rfl dX8_piece_130 (by omega) (CE_p (by omega)) (Nat.le_of_ble_eq_true rfl) (cu_p_minutes (by omega)) (fun H locs hP hS => ?_)
                refine lv_aload hx hb dX8_piece_133 (lv_at hl 6 rfl) ?_
                refine lv_iload hx hb dX8_piece_135 (lv_at hl 5 rfl) ?_
                refine r_put (C := RX2) (T := TX2) (N := 6) (ci := 2) hx hb hi hts hi_X2 tyX2 tyX2_ok nmX2 hown hK hP hS 5 rfl (by decide) lk_X8_83 (fun _ h9 => h9) rfl (ty := .int) (by decide +kernel) rfl rfl dX8_piece_137 (by omega) (CE_p (by omega)) (Nat.le_of_ble_eq_true rfl) (cu_p_rest (by omega)) (fun H locs hP hS => ?_)
                refine lv_aload_n hx hb dX8_piece_140 rfl (lv_at hl 0 rfl) ?_
                refine r_get (C := RX8) (T := TX8) (N := 8) (ci := 8) hx hb hts hi_X8 hown hK hP 0 rfl (by decide) lk_X8_10 (fun _ h9 => h9) dX8_piece_141 (by omega) CE_0 rfl ?_
                refine lv_dup hx hb dX8_piece_144 rfl ?_
                refine r_get (C := RX5) (T := TX5) (N := 8) (ci := 5) hx hb hts hi_X5 hown hK hP 4 rfl (by decide) lk_X8_58 (fun _ h9 => h9) dX8_piece_145 (by omega) CE_1 rfl ?_
                rw [e00]
                refine r_const hx hb dX8_piece_148 ?_
                refine r_add hx hb dX8_piece_149 ?_
                refine r_put (C := RX5) (T := TX5) (N := 8) (ci := 5) hx hb hi hts hi_X5 tyX5 tyX5_ok nmX5 hown hK hP hS 4 rfl (by decide) lk_X8_58 (fun _ h9 => h9) rfl (ty := .int) (by decide +kernel) rfl rfl dX8_piece_150 (by omega) CE_1 (Nat.le_of_ble_eq_true rfl) cu_pieceCount (fun H locs hP hS => ?_)
                refine lv_aload_n hx hb dX8_piece_153 rfl (lv_at hl 0 rfl) ?_
                refine r_get (C := RX8) (T := TX8) (N := 8) (ci := 8) hx hb hts hi_X8 hown hK hP 0 rfl (by decide) lk_X8_10 (fun _ h9 => h9) dX8_piece_154 (by omega) CE_0 rfl ?_
                refine r_get (C := RX5) (T := TX5) (N := 8) (ci := 5) hx hb hts hi_X5 hown hK hP 4 rfl (by decide) lk_X8_58 (fun _ h9 => h9) dX8_piece_157 (by omega) CE_1 rfl ?_
                rw [(up_self _ _ _ _)]
                refine r_const hx hb dX8_piece_160 ?_
                refine r_sub hx hb dX8_piece_161 ?_
                have e1 : σ 0 0 + 1 - 1 = aPiece σ a b c d e := by rw [aPiece, cif_t hv, cif_t (by omega)]; omega
                rw [e1]
                exact k_iret hx hb hr hlocks hP hS dX8_piece_162 ⟨rfl, τ, by rw [sPiece, cif_t ⟨hv, by omega⟩], hT⟩
              · refine r_bipush hx hb dX8_piece_76 (by decide +kernel) ?_
                exact k_iret hx hb hr hlocks hP hS dX8_piece_78 ⟨by rw [aPiece, cif_t hv, cif_f (by omega)], τ, by rw [sPiece, cif_f (fun z => by omega)], hT⟩
            · rw [← hWg]
              exact join62  _ _ _ hP hS hl (fun q => by unfold vP at q; omega)
        · rw [← hWg]
          exact join38  _ _ _ hP hS hl (fun q => by unfold vP at q; omega)
    · rw [← hWg]
      exact join18  _ _ _ hP hS hl (fun q => by unfold vP at q; omega)
theorem e01 {σ : Tb} {n a b c : Int} : up (up (up σ 7 n a) 8 n b) 9 n c 0 1 = σ 0 1 := by simp [up]
abbrev rmX8_pair : Room := { frames := 2, cells := 0, slots := 0, locals := 43 }
set_option maxRecDepth 100000 in
set_option maxHeartbeats 4000000 in
theorem c_X8_pair {l : Launch} {D : va_G} {G : Nat → ClassId} {ad : Nat → Nat} {σ τ : Tb} (hi : kInj 189 ad) {a b c : Int} (hI : InvS σ) (hT : TI τ) (ha : (-2147483648 ≤ a ∧ a < 2147483648)) (hb1 : (-2147483648 ≤ b ∧ b < 2147483648)) (hc1 : (-2147483648 ≤ c ∧ c < 2147483648)) : Met l yX8_pair wsX8_pair rmX8_pair (kPc D (tysG G) 189 ad (CE G ad σ τ) [.ref (ad 0), .int (iI a), .int (iI b), .int (iI c)]) (kQi D 189 ad (fun z E' => z = aPair σ a b c ∧ ∃ τ', E' = CE G ad (sPair σ a b c) τ' ∧ TI τ')) 0 0 (kA 189 ad) := by
  refine k_met (cc := cX8_pair) (maxL := 5) (ret := (some .int)) (by decide) (Nat.le_of_ble_eq_true rfl) ?_
  intro P0 e0 s m0 below meth c0 ls hx hb hr hlocks hml hown hts hK hP hS hl
  replace hl : lv_has ls 5 [(0, _), (1, _), (2, _), (3, _)] := hl
  replace hown : s.vm.findClass RX8 = some m0.cls := hown
  refine k_abs (fun Wg hWg => ?_)
  have h0 := Inv_0 hI.1
  have hbad : ¬ vR a b c → (-1 : Int) = aPair σ a b c ∧ ∃ τ', CE G ad σ τ = CE G ad (sPair σ a b c) τ' ∧ TI τ' := fun q => ⟨by rw [aPair, cif_f q], τ, by rw [sPair, cif_f (fun z => q z.1)], hT⟩
  refine lv_iload_n hx hb dX8_pair_0 rfl (lv_at hl 1 rfl) ?_
  refine lv_iload_n hx hb dX8_pair_1 rfl (lv_at hl 2 rfl) ?_
  refine k_calliS (nL := 5) hx hb hml hown hts hK hP hS hl.1 (c_X8_areCrossings hi ha hb1) rfl (Nat.le_of_ble_eq_true rfl) (va_cwS 2 hts (gS lm_X8_50 ts_X8_areCrossings tn_X8 tc_X8_areCrossings) rfl rfl rfl (by decide +kernel) ⟨Nat.le_of_ble_eq_true rfl, Nat.le_of_ble_eq_true rfl⟩) rfl dX8_pair_2 ⟨Nat.zero_le _, Nat.zero_le _⟩ (fun r2 E1 H locs hq hP hS => ?_)
  obtain ⟨rfl, rfl⟩ := hq
  refine r_ifB_eq (tgt := 19) hx hb dX8_pair_5 (by decide) (fun c5 => ?_) (fun c5 => ?_)
  · refine r_const hx hb dX8_pair_19 ?_
    exact k_iret hx hb hr hlocks hP hS dX8_pair_20 (hbad (fun q => by unfold vR at q; omega))
  · refine lv_iload_n hx hb dX8_pair_8 rfl (lv_at hl 3 rfl) ?_
    refine r_const hx hb dX8_pair_9 ?_
    refine r_sipush hx hb dX8_pair_10 (by decide +kernel) ?_
    refine k_calliS (nL := 5) hx hb hml hown hts hK hP hS hl.1 (c_X8_within hi hc1 (by omega) (by omega)) rfl (Nat.le_of_ble_eq_true rfl) (va_cwS 3 hts (gS lm_X8_54 ts_X8_within tn_X8 tc_X8_within) rfl rfl rfl (by decide +kernel) ⟨Nat.le_of_ble_eq_true rfl, Nat.le_of_ble_eq_true rfl⟩) rfl dX8_pair_13 ⟨Nat.zero_le _, Nat.zero_le _⟩ (fun r13 E1 H locs hq hP hS => ?_)
    obtain ⟨rfl, rfl⟩ := hq
    refine r_ifB_ne (tgt := 21) hx hb dX8_pair_16 (by decide) (fun c16 => ?_) (fun c16 => ?_)
    · have hv : vR a b c := by unfold vR; omega
      refine lv_aload_n hx hb dX8_pair_21 rfl (lv_at hl 0 rfl) ?_
      refine r_get (C := RX8) (T := TX8) (N := 8) (ci := 8) hx hb hts hi_X8 hown hK hP 0 rfl (by decide) lk_X8_10 (fun _ h9 => h9) dX8_pair_22 (by omega) CE_0 rfl ?_
      refine r_get (C := RX5) (T := TX5) (N := 8) (ci := 5) hx hb hts hi_X5 hown hK hP 5 rfl (by decide) lk_X8_86 (fun _ h9 => h9) dX8_pair_25 (by omega) CE_1 rfl ?_
      refine r_bipush hx hb dX8_pair_28 (by decide +kernel) ?_
      refine r_icmp_lt (tgt := 36) hx hb (by omega) (by omega) dX8_pair_30 (by decide) (fun c30 => ?_) (fun c30 => ?_)
      · refine lv_aload_n hx hb dX8_pair_36 rfl (lv_at hl 0 rfl) ?_
        refine r_get (C := RX8) (T := TX8) (N := 8) (ci := 8) hx hb hts hi_X8 hown hK hP 0 rfl (by decide) lk_X8_10 (fun _ h9 => h9) dX8_pair_37 (by omega) CE_0 rfl ?_
        refine r_get (C := RX5) (T := TX5) (N := 8) (ci := 5) hx hb hts hi_X5 hown hK hP 1 rfl (by decide) lk_X8_89 (fun _ h9 => h9) dX8_pair_40 (by omega) CE_1 rfl ?_
        refine lv_aload_n hx hb dX8_pair_43 rfl (lv_at hl 0 rfl) ?_
        refine r_get (C := RX8) (T := TX8) (N := 8) (ci := 8) hx hb hts hi_X8 hown hK hP 0 rfl (by decide) lk_X8_10 (fun _ h9 => h9) dX8_pair_44 (by omega) CE_0 rfl ?_
        refine r_get (C := RX5) (T := TX5) (N := 8) (ci := 5) hx hb hts hi_X5 hown hK hP 5 rfl (by decide) lk_X8_86 (fun _ h9 => h9) dX8_pair_47 (by omega) CE_1 rfl ?_
        refine r_aald hx hb hK hP 3 rfl dX8_pair_50 (by omega) rfl (by omega) (by omega) rfl ?_
        refine lv_astore hx hb dX8_pair_51 hl (by decide) rfl (fun ls hl => ?_)
        replace hl : lv_has ls 5 [(0, _), (1, _), (2, _), (3, _), (4, _)] := lv_sub hl [1, 2, 3, 4, 0] rfl
        refine lv_aload hx hb dX8_pair_53 (lv_at hl 4 rfl) ?_
        refine lv_iload_n hx hb dX8_pair_55 rfl (lv_at hl 1 rfl) ?_
        refine r_put (C := RX1) (T := TX1) (N := 3) (ci := 1) hx hb hi hts hi_X1 tyX1 tyX1_ok nmX1 hown hK hP hS 0 rfl (by decide) lk_X8_93 (fun _ h9 => h9) rfl (ty := .int) (by decide +kernel) rfl rfl dX8_pair_56 (by omega) (CE_r (by omega)) (Nat.le_of_ble_eq_true rfl) (cu_r_from (by omega)) (fun H locs hP hS => ?_)
        refine lv_aload hx hb dX8_pair_59 (lv_at hl 4 rfl) ?_
        refine lv_iload_n hx hb dX8_pair_61 rfl (lv_at hl 2 rfl) ?_
        refine r_put (C := RX1) (T := TX1) (N := 3) (ci := 1) hx hb hi hts hi_X1 tyX1 tyX1_ok nmX1 hown hK hP hS 1 rfl (by decide) lk_X8_96 (fun _ h9 => h9) rfl (ty := .int) (by decide +kernel) rfl rfl dX8_pair_62 (by omega) (CE_r (by omega)) (Nat.le_of_ble_eq_true rfl) (cu_r_to (by omega)) (fun H locs hP hS => ?_)
        refine lv_aload hx hb dX8_pair_65 (lv_at hl 4 rfl) ?_
        refine lv_iload_n hx hb dX8_pair_67 rfl (lv_at hl 3 rfl) ?_
        refine r_put (C := RX1) (T := TX1) (N := 3) (ci := 1) hx hb hi hts hi_X1 tyX1 tyX1_ok nmX1 hown hK hP hS 2 rfl (by decide) lk_X8_97 (fun _ h9 => h9) rfl (ty := .int) (by decide +kernel) rfl rfl dX8_pair_68 (by omega) (CE_r (by omega)) (Nat.le_of_ble_eq_true rfl) (cu_r_limit (by omega)) (fun H locs hP hS => ?_)
        refine lv_aload_n hx hb dX8_pair_71 rfl (lv_at hl 0 rfl) ?_
        refine r_get (C := RX8) (T := TX8) (N := 8) (ci := 8) hx hb hts hi_X8 hown hK hP 0 rfl (by decide) lk_X8_10 (fun _ h9 => h9) dX8_pair_72 (by omega) CE_0 rfl ?_
        refine lv_dup hx hb dX8_pair_75 rfl ?_
        refine r_get (C := RX5) (T := TX5) (N := 8) (ci := 5) hx hb hts hi_X5 hown hK hP 5 rfl (by decide) lk_X8_86 (fun _ h9 => h9) dX8_pair_76 (by omega) CE_1 rfl ?_
        rw [e01]
        refine r_const hx hb dX8_pair_79 ?_
        refine r_add hx hb dX8_pair_80 ?_
        refine r_put (C := RX5) (T := TX5) (N := 8) (ci := 5) hx hb hi hts hi_X5 tyX5 tyX5_ok nmX5 hown hK hP hS 5 rfl (by decide) lk_X8_86 (fun _ h9 => h9) rfl (ty := .int) (by decide +kernel) rfl rfl dX8_pair_81 (by omega) CE_1 (Nat.le_of_ble_eq_true rfl) cu_pairCount (fun H locs hP hS => ?_)
        refine lv_aload_n hx hb dX8_pair_84 rfl (lv_at hl 0 rfl) ?_
        refine r_get (C := RX8) (T := TX8) (N := 8) (ci := 8) hx hb hts hi_X8 hown hK hP 0 rfl (by decide) lk_X8_10 (fun _ h9 => h9) dX8_pair_85 (by omega) CE_0 rfl ?_
        refine r_get (C := RX5) (T := TX5) (N := 8) (ci := 5) hx hb hts hi_X5 hown hK hP 5 rfl (by decide) lk_X8_86 (fun _ h9 => h9) dX8_pair_88 (by omega) CE_1 rfl ?_
        rw [(up_self _ _ _ _)]
        refine r_const hx hb dX8_pair_91 ?_
        refine r_sub hx hb dX8_pair_92 ?_
        have e1 : σ 0 1 + 1 - 1 = aPair σ a b c := by rw [aPair, cif_t hv, cif_t (by omega)]; omega
        rw [e1]
        exact k_iret hx hb hr hlocks hP hS dX8_pair_93 ⟨rfl, τ, by rw [sPair, cif_t ⟨hv, by omega⟩], hT⟩
      · refine r_bipush hx hb dX8_pair_33 (by decide +kernel) ?_
        exact k_iret hx hb hr hlocks hP hS dX8_pair_35 ⟨by rw [aPair, cif_t hv, cif_f (by omega)], τ, by rw [sPair, cif_f (fun z => by omega)], hT⟩
    · refine r_const hx hb dX8_pair_19 ?_
      exact k_iret hx hb hr hlocks hP hS dX8_pair_20 (hbad (fun q => by unfold vR at q; omega))
abbrev rmX8_feast : Room := { frames := 2, cells := 0, slots := 0, locals := 42 }
set_option maxRecDepth 100000 in
set_option maxHeartbeats 4000000 in
theorem c_X8_feast {l : Launch} {D : va_G} {G : Nat → ClassId} {ad : Nat → Nat} {σ τ : Tb} (hi : kInj 189 ad) {a b : Int} (hI : InvS σ) (hT : TI τ) (ha : (-2147483648 ≤ a ∧ a < 2147483648)) (hb1 : (-2147483648 ≤ b ∧ b < 2147483648)) : Met l yX8_feast wsX8_feast rmX8_feast (kPc D (tysG G) 189 ad (CE G ad σ τ) [.ref (ad 0), .int (iI a), .int (iI b)]) (kQi D 189 ad (fun z E' => z = aFeast σ a b ∧ ∃ τ', E' = CE G ad (sFeast σ a b) τ' ∧ TI τ')) 0 0 (kA 189 ad) := by
  refine k_met (cc := cX8_feast) (maxL := 4) (ret := (some .int)) (by decide) (Nat.le_of_ble_eq_true rfl) ?_
  intro P0 e0 s m0 below meth c0 ls hx hb hr hlocks hml hown hts hK hP hS hl
  replace hl : lv_has ls 4 [(0, _), (1, _), (2, _)] := hl
  replace hown : s.vm.findClass RX8 = some m0.cls := hown
  refine k_abs (fun Wg hWg => ?_)
  have h0 := Inv_0 hI.1
  have hbad : ¬ vF a b → (-1 : Int) = aFeast σ a b ∧ ∃ τ', CE G ad σ τ = CE G ad (sFeast σ a b) τ' ∧ TI τ' := fun q => ⟨by rw [aFeast, cif_f q], τ, by rw [sFeast, cif_f q], hT⟩
  refine lv_iload_n hx hb dX8_feast_0 rfl (lv_at hl 1 rfl) ?_
  refine k_calliS (nL := 4) hx hb hml hown hts hK hP hS hl.1 (c_X8_isDay hi ha) rfl (Nat.le_of_ble_eq_true rfl) (va_cwS 1 hts (gS lm_X8_100 ts_X8_isDay tn_X8 tc_X8_isDay) rfl rfl rfl (by decide +kernel) ⟨Nat.le_of_ble_eq_true rfl, Nat.le_of_ble_eq_true rfl⟩) rfl dX8_feast_1 ⟨Nat.zero_le _, Nat.zero_le _⟩ (fun r1 E1 H locs hq hP hS => ?_)
  obtain ⟨rfl, rfl⟩ := hq
  refine r_ifB_eq (tgt := 16) hx hb dX8_feast_4 (by decide) (fun c4 => ?_) (fun c4 => ?_)
  · refine r_const hx hb dX8_feast_16 ?_
    exact k_iret hx hb hr hlocks hP hS dX8_feast_17 (hbad (fun q => by unfold vF at q; omega))
  · refine lv_iload_n hx hb dX8_feast_7 rfl (lv_at hl 2 rfl) ?_
    refine r_const hx hb dX8_feast_8 ?_
    refine r_const hx hb dX8_feast_9 ?_
    refine k_calliS (nL := 4) hx hb hml hown hts hK hP hS hl.1 (c_X8_within hi hb1 (by omega) (by omega)) rfl (Nat.le_of_ble_eq_true rfl) (va_cwS 3 hts (gS lm_X8_54 ts_X8_within tn_X8 tc_X8_within) rfl rfl rfl (by decide +kernel) ⟨Nat.le_of_ble_eq_true rfl, Nat.le_of_ble_eq_true rfl⟩) rfl dX8_feast_10 ⟨Nat.zero_le _, Nat.zero_le _⟩ (fun r10 E1 H locs hq hP hS => ?_)
    obtain ⟨rfl, rfl⟩ := hq
    refine r_ifB_ne (tgt := 18) hx hb dX8_feast_13 (by decide) (fun c13 => ?_) (fun c13 => ?_)
    · have hv : vF a b := by unfold vF; omega
      have hf := Inv_f hI.1 (d := a) (by omega)
      have join46 : ∀ (x : Int) (H : Heap) (locs : List Loc) (ls : Array Slot), va_P D vwCl (kw 189 ad (CE G ad σ τ)) H → va_S (kA 189 ad) s.heap H locs → lv_has ls 4 [(0, .ref (ad 0)), (1, .int (iI a)), (2, .int (iI b)), (3, .int (iI (σ 10 a)))] → (x = b) → Wg H locs (F0 m0 46 ls [.int (iI x), .int (iI a), .ref (ad 9)]) := by
        intro x H locs ls hP hS hl hv46
        rw [hWg]
        refine r_zast hx hb hi hK hP hS 2 rfl dX8_feast_46 (by omega) rfl (by omega) (by omega) (by omega) (cu_feast (by omega)) (fun H locs hP hS => ?_)
        refine lv_iload_n hx hb dX8_feast_47 rfl (lv_at hl 3 rfl) ?_
        rw [hv46] at hP
        refine r_if_eq (tgt := 55) hx hb (by omega) dX8_feast_48 (by decide) (fun c48 => ?_) (fun c48 => ?_)
        · refine r_const hx hb dX8_feast_55 ?_
          exact k_iret hx hb hr hlocks hP hS dX8_feast_56 ⟨by rw [aFeast, cif_t hv]; omega, τ, by rw [sFeast, cif_t hv], hT⟩
        · refine r_const hx hb dX8_feast_51 ?_
          refine lv_goto (tgt := 56) hx hb dX8_feast_52 (by decide) ?_
          exact k_iret hx hb hr hlocks hP hS dX8_feast_56 ⟨by rw [aFeast, cif_t hv]; omega, τ, by rw [sFeast, cif_t hv], hT⟩
      refine lv_aload_n hx hb dX8_feast_18 rfl (lv_at hl 0 rfl) ?_
      refine r_get (C := RX8) (T := TX8) (N := 8) (ci := 8) hx hb hts hi_X8 hown hK hP 0 rfl (by decide) lk_X8_10 (fun _ h9 => h9) dX8_feast_19 (by omega) CE_0 rfl ?_
      refine r_get (C := RX5) (T := TX5) (N := 8) (ci := 5) hx hb hts hi_X5 hown hK hP 3 rfl (by decide) lk_X8_104 (fun _ h9 => h9) dX8_feast_22 (by omega) CE_1 rfl ?_
      refine lv_iload_n hx hb dX8_feast_25 rfl (lv_at hl 1 rfl) ?_
      refine r_zald hx hb hK hP 2 rfl dX8_feast_26 (by omega) rfl (by omega) (by omega) (tI_at (by omega)) ?_
      refine lv_istore_n hx hb dX8_feast_27 rfl hl (by decide) rfl (fun ls hl => ?_)
      replace hl : lv_has ls 4 [(0, _), (1, _), (2, _), (3, _)] := lv_sub hl [1, 2, 3, 0] rfl
      refine lv_aload_n hx hb dX8_feast_28 rfl (lv_at hl 0 rfl) ?_
      refine r_get (C := RX8) (T := TX8) (N := 8) (ci := 8) hx hb hts hi_X8 hown hK hP 0 rfl (by decide) lk_X8_10 (fun _ h9 => h9) dX8_feast_29 (by omega) CE_0 rfl ?_
      refine r_get (C := RX5) (T := TX5) (N := 8) (ci := 5) hx hb hts hi_X5 hown hK hP 3 rfl (by decide) lk_X8_104 (fun _ h9 => h9) dX8_feast_32 (by omega) CE_1 rfl ?_
      refine lv_iload_n hx hb dX8_feast_35 rfl (lv_at hl 1 rfl) ?_
      refine lv_iload_n hx hb dX8_feast_36 rfl (lv_at hl 2 rfl) ?_
      refine r_const hx hb dX8_feast_37 ?_
      refine r_icmp_ne (tgt := 45) hx hb (by omega) (by omega) dX8_feast_38 (by decide) (fun c38 => ?_) (fun c38 => ?_)
      · refine r_const hx hb dX8_feast_45 ?_
        rw [← hWg]
        exact join46 0 _ _ _ hP hS hl (by omega)
      · refine r_const hx hb dX8_feast_41 ?_
        refine lv_goto (tgt := 46) hx hb dX8_feast_42 (by decide) ?_
        rw [← hWg]
        exact join46 1 _ _ _ hP hS hl (by omega)
    · refine r_const hx hb dX8_feast_16 ?_
      exact k_iret hx hb hr hlocks hP hS dX8_feast_17 (hbad (fun q => by unfold vF at q; omega))
theorem nW_u {σ : Tb} {n a b c d e f : Int} {t : Nat} {v : Int} (h : ¬ (11 ≤ t ∧ t ≤ 16)) : up (up (up (up (up (up σ 11 n a) 12 n b) 13 n c) 14 n d) 15 n e) 16 n f t v = σ t v := by rw [up_t (by omega), up_t (by omega), up_t (by omega), up_t (by omega), up_t (by omega), up_t (by omega)]
abbrev rmX8_work : Room := { frames := 2, cells := 0, slots := 0, locals := 42 }
set_option maxRecDepth 100000 in
set_option maxHeartbeats 4000000 in
theorem c_X8_work {l : Launch} {D : va_G} {G : Nat → ClassId} {ad : Nat → Nat} {σ τ : Tb} (hi : kInj 189 ad) {a b p : Int} (hI : InvS σ) (hT : TI τ) (ha : (-2147483648 ≤ a ∧ a < 2147483648)) (hb1 : (-2147483648 ≤ b ∧ b < 2147483648)) (hp : (-2147483648 ≤ p ∧ p < 2147483648)) : Met l yX8_work wsX8_work rmX8_work (kPc D (tysG G) 189 ad (CE G ad σ τ) [.ref (ad 0), .int (iI a), .int (iI b), .int (iI p)]) (kQi D 189 ad (fun z E' => z = aWork σ a b p ∧ ∃ τ', E' = CE G ad (sWork σ a b p) τ' ∧ TI τ')) 0 0 (kA 189 ad) := by
  refine k_met (cc := cX8_work) (maxL := 5) (ret := (some .int)) (by decide) (Nat.le_of_ble_eq_true rfl) ?_
  intro P0 e0 s m0 below meth c0 ls hx hb hr hlocks hml hown hts hK hP hS hl
  replace hl : lv_has ls 5 [(0, _), (1, _), (2, _), (3, _)] := hl
  replace hown : s.vm.findClass RX8 = some m0.cls := hown
  refine k_abs (fun Wg hWg => ?_)
  have h0 := Inv_0 hI.1
  have hbad : ¬ vW σ a b p → (-1 : Int) = aWork σ a b p ∧ ∃ τ', CE G ad σ τ = CE G ad (sWork σ a b p) τ' ∧ TI τ' := fun q => ⟨by rw [aWork, cif_f q], τ, by rw [sWork, cif_f (fun z => q z.1)], hT⟩
  have join19 : ∀  (H : Heap) (locs : List Loc) (ls : Array Slot), va_P D vwCl (kw 189 ad (CE G ad σ τ)) H → va_S (kA 189 ad) s.heap H locs → lv_has ls 5 [(0, .ref (ad 0)), (1, .int (iI a)), (2, .int (iI b)), (3, .int (iI p))] → (¬ vW σ a b p) → Wg H locs (F0 m0 19 ls []) := by
    intro  H locs ls hP hS hl hv19
    rw [hWg]
    refine r_const hx hb dX8_work_19 ?_
    exact k_iret hx hb hr hlocks hP hS dX8_work_20 (hbad hv19)
  have join51 : ∀  (H : Heap) (locs : List Loc) (ls : Array Slot), va_P D vwCl (kw 189 ad (CE G ad σ τ)) H → va_S (kA 189 ad) s.heap H locs → lv_has ls 5 [(0, .ref (ad 0)), (1, .int (iI a)), (2, .int (iI b)), (3, .int (iI p))] → (¬ vW σ a b p) → Wg H locs (F0 m0 51 ls []) := by
    intro  H locs ls hP hS hl hv51
    rw [hWg]
    refine r_const hx hb dX8_work_51 ?_
    exact k_iret hx hb hr hlocks hP hS dX8_work_52 (hbad hv51)
  have join81 : ∀  (H : Heap) (locs : List Loc) (ls : Array Slot), va_P D vwCl (kw 189 ad (CE G ad σ τ)) H → va_S (kA 189 ad) s.heap H locs → lv_has ls 5 [(0, .ref (ad 0)), (1, .int (iI a)), (2, .int (iI b)), (3, .int (iI p))] → (¬ vW σ a b p) → Wg H locs (F0 m0 81 ls []) := by
    intro  H locs ls hP hS hl hv81
    rw [hWg]
    refine r_const hx hb dX8_work_81 ?_
    exact k_iret hx hb hr hlocks hP hS dX8_work_82 (hbad hv81)
  have join108 : ∀  (H : Heap) (locs : List Loc) (ls : Array Slot), va_P D vwCl (kw 189 ad (CE G ad σ τ)) H → va_S (kA 189 ad) s.heap H locs → lv_has ls 5 [(0, .ref (ad 0)), (1, .int (iI a)), (2, .int (iI b)), (3, .int (iI p))] → (¬ vW σ a b p) → Wg H locs (F0 m0 108 ls []) := by
    intro  H locs ls hP hS hl hv108
    rw [hWg]
    refine r_const hx hb dX8_work_108 ?_
    exact k_iret hx hb hr hlocks hP hS dX8_work_109 (hbad hv108)
  refine lv_iload_n hx hb dX8_work_0 rfl (lv_at hl 1 rfl) ?_
  refine r_if_lt (tgt := 19) hx hb (by omega) dX8_work_1 (by decide) (fun c1 => ?_) (fun c1 => ?_)
  · rw [← hWg]
    exact join19  _ _ _ hP hS hl (fun q => by unfold vW at q; omega)
  · refine lv_iload_n hx hb dX8_work_4 rfl (lv_at hl 2 rfl) ?_
    refine r_if_lt (tgt := 19) hx hb (by omega) dX8_work_5 (by decide) (fun c5 => ?_) (fun c5 => ?_)
    · rw [← hWg]
      exact join19  _ _ _ hP hS hl (fun q => by unfold vW at q; omega)
    · refine lv_aload_n hx hb dX8_work_8 rfl (lv_at hl 0 rfl) ?_
      refine r_get (C := RX8) (T := TX8) (N := 8) (ci := 8) hx hb hts hi_X8 hown hK hP 0 rfl (by decide) lk_X8_10 (fun _ h9 => h9) dX8_work_9 (by omega) CE_0 rfl ?_
      refine lv_iload_n hx hb dX8_work_12 rfl (lv_at hl 3 rfl) ?_
      refine k_calliV (nL := 5) (C := RX5) (T := TX5) (N := 8) (ci := 5) hx hb hml hown hts hK hP hS hl.1 (c_X5_hasPiece hi hp hI.1) rfl (Nat.le_of_ble_eq_true rfl) rfl (cwV 1 hts (gV lm_X8_108 ti_X5_hasPiece tl_X5_hasPiece tn_X5 tc_X5_hasPiece) rfl rfl rfl (by decide +kernel) ⟨Nat.le_of_ble_eq_true rfl, Nat.le_of_ble_eq_true rfl⟩) rfl dX8_work_13 ⟨Nat.zero_le _, Nat.zero_le _⟩ (by omega) CE_1 (fun r13 E1 H locs hq hP hS => ?_)
      obtain ⟨rfl, rfl⟩ := hq
      refine r_ifB_ne (tgt := 21) hx hb dX8_work_16 (by decide) (fun c16 => ?_) (fun c16 => ?_)
      · refine lv_iload_n hx hb dX8_work_21 rfl (lv_at hl 1 rfl) ?_
        refine r_sipush hx hb dX8_work_22 (by decide +kernel) ?_
        refine r_div hx hb (by omega) (by omega) dX8_work_25 ?_
        refine r_const hx hb dX8_work_26 ?_
        refine r_bipush hx hb dX8_work_27 (by decide +kernel) ?_
        refine k_calliS (nL := 5) hx hb hml hown hts hK hP hS hl.1 (c_X8_within hi (by omega) (by omega) (by omega)) rfl (Nat.le_of_ble_eq_true rfl) (va_cwS 3 hts (gS lm_X8_54 ts_X8_within tn_X8 tc_X8_within) rfl rfl rfl (by decide +kernel) ⟨Nat.le_of_ble_eq_true rfl, Nat.le_of_ble_eq_true rfl⟩) rfl dX8_work_29 ⟨Nat.zero_le _, Nat.zero_le _⟩ (fun r29 E1 H locs hq hP hS => ?_)
        obtain ⟨rfl, rfl⟩ := hq
        refine r_ifB_eq (tgt := 51) hx hb dX8_work_32 (by decide) (fun c32 => ?_) (fun c32 => ?_)
        · rw [← hWg]
          exact join51  _ _ _ hP hS hl (fun q => by unfold vW at q; omega)
        · refine lv_iload_n hx hb dX8_work_35 rfl (lv_at hl 1 rfl) ?_
          refine r_sipush hx hb dX8_work_36 (by decide +kernel) ?_
          refine r_div hx hb (by omega) (by omega) dX8_work_39 ?_
          refine r_bipush hx hb dX8_work_40 (by decide +kernel) ?_
          refine r_rem hx hb (by omega) (by omega) dX8_work_42 ?_
          refine r_const hx hb dX8_work_43 ?_
          refine r_const hx hb dX8_work_44 ?_
          refine k_calliS (nL := 5) hx hb hml hown hts hK hP hS hl.1 (c_X8_within hi (by omega) (by omega) (by omega)) rfl (Nat.le_of_ble_eq_true rfl) (va_cwS 3 hts (gS lm_X8_54 ts_X8_within tn_X8 tc_X8_within) rfl rfl rfl (by decide +kernel) ⟨Nat.le_of_ble_eq_true rfl, Nat.le_of_ble_eq_true rfl⟩) rfl dX8_work_45 ⟨Nat.zero_le _, Nat.zero_le _⟩ (fun r45 E1 H locs hq hP hS => ?_)
          obtain ⟨rfl, rfl⟩ := hq
          refine r_ifB_ne (tgt := 53) hx hb dX8_work_48 (by decide) (fun c48 => ?_) (fun c48 => ?_)
          · refine lv_iload_n hx hb dX8_work_53 rfl (lv_at hl 1 rfl) ?_
            refine r_bipush hx hb dX8_work_54 (by decide +kernel) ?_
            refine r_div hx hb (by omega) (by omega) dX8_work_56 ?_
            refine r_bipush hx hb dX8_work_57 (by decide +kernel) ?_
            refine r_rem hx hb (by omega) (by omega) dX8_work_59 ?_
            refine r_const hx hb dX8_work_60 ?_
            refine r_const hx hb dX8_work_61 ?_
            refine k_calliS (nL := 5) hx hb hml hown hts hK hP hS hl.1 (c_X8_within hi (by omega) (by omega) (by omega)) rfl (Nat.le_of_ble_eq_true rfl) (va_cwS 3 hts (gS lm_X8_54 ts_X8_within tn_X8 tc_X8_within) rfl rfl rfl (by decide +kernel) ⟨Nat.le_of_ble_eq_true rfl, Nat.le_of_ble_eq_true rfl⟩) rfl dX8_work_62 ⟨Nat.zero_le _, Nat.zero_le _⟩ (fun r62 E1 H locs hq hP hS => ?_)
            obtain ⟨rfl, rfl⟩ := hq
            refine r_ifB_eq (tgt := 81) hx hb dX8_work_65 (by decide) (fun c65 => ?_) (fun c65 => ?_)
            · rw [← hWg]
              exact join81  _ _ _ hP hS hl (fun q => by unfold vW at q; omega)
            · refine lv_iload_n hx hb dX8_work_68 rfl (lv_at hl 1 rfl) ?_
              refine r_bipush hx hb dX8_work_69 (by decide +kernel) ?_
              refine r_rem hx hb (by omega) (by omega) dX8_work_71 ?_
              refine r_const hx hb dX8_work_72 ?_
              refine r_bipush hx hb dX8_work_73 (by decide +kernel) ?_
              refine k_calliS (nL := 5) hx hb hml hown hts hK hP hS hl.1 (c_X8_within hi (by omega) (by omega) (by omega)) rfl (Nat.le_of_ble_eq_true rfl) (va_cwS 3 hts (gS lm_X8_54 ts_X8_within tn_X8 tc_X8_within) rfl rfl rfl (by decide +kernel) ⟨Nat.le_of_ble_eq_true rfl, Nat.le_of_ble_eq_true rfl⟩) rfl dX8_work_75 ⟨Nat.zero_le _, Nat.zero_le _⟩ (fun r75 E1 H locs hq hP hS => ?_)
              obtain ⟨rfl, rfl⟩ := hq
              refine r_ifB_ne (tgt := 83) hx hb dX8_work_78 (by decide) (fun c78 => ?_) (fun c78 => ?_)
              · refine lv_iload_n hx hb dX8_work_83 rfl (lv_at hl 2 rfl) ?_
                refine r_sipush hx hb dX8_work_84 (by decide +kernel) ?_
                refine r_div hx hb (by omega) (by omega) dX8_work_87 ?_
                refine r_const hx hb dX8_work_88 ?_
                refine r_bipush hx hb dX8_work_89 (by decide +kernel) ?_
                refine k_calliS (nL := 5) hx hb hml hown hts hK hP hS hl.1 (c_X8_within hi (by omega) (by omega) (by omega)) rfl (Nat.le_of_ble_eq_true rfl) (va_cwS 3 hts (gS lm_X8_54 ts_X8_within tn_X8 tc_X8_within) rfl rfl rfl (by decide +kernel) ⟨Nat.le_of_ble_eq_true rfl, Nat.le_of_ble_eq_true rfl⟩) rfl dX8_work_91 ⟨Nat.zero_le _, Nat.zero_le _⟩ (fun r91 E1 H locs hq hP hS => ?_)
                obtain ⟨rfl, rfl⟩ := hq
                refine r_ifB_eq (tgt := 108) hx hb dX8_work_94 (by decide) (fun c94 => ?_) (fun c94 => ?_)
                · rw [← hWg]
                  exact join108  _ _ _ hP hS hl (fun q => by unfold vW at q; omega)
                · refine lv_iload_n hx hb dX8_work_97 rfl (lv_at hl 2 rfl) ?_
                  refine r_sipush hx hb dX8_work_98 (by decide +kernel) ?_
                  refine r_rem hx hb (by omega) (by omega) dX8_work_101 ?_
                  refine k_calliS (nL := 5) hx hb hml hown hts hK hP hS hl.1 (c_X8_isDay hi (by omega)) rfl (Nat.le_of_ble_eq_true rfl) (va_cwS 1 hts (gS lm_X8_100 ts_X8_isDay tn_X8 tc_X8_isDay) rfl rfl rfl (by decide +kernel) ⟨Nat.le_of_ble_eq_true rfl, Nat.le_of_ble_eq_true rfl⟩) rfl dX8_work_102 ⟨Nat.zero_le _, Nat.zero_le _⟩ (fun r102 E1 H locs hq hP hS => ?_)
                  obtain ⟨rfl, rfl⟩ := hq
                  refine r_ifB_ne (tgt := 110) hx hb dX8_work_105 (by decide) (fun c105 => ?_) (fun c105 => ?_)
                  · have hv : vW σ a b p := by unfold vW; omega
                    refine lv_aload_n hx hb dX8_work_110 rfl (lv_at hl 0 rfl) ?_
                    refine r_get (C := RX8) (T := TX8) (N := 8) (ci := 8) hx hb hts hi_X8 hown hK hP 0 rfl (by decide) lk_X8_10 (fun _ h9 => h9) dX8_work_111 (by omega) CE_0 rfl ?_
                    refine r_get (C := RX5) (T := TX5) (N := 8) (ci := 5) hx hb hts hi_X5 hown hK hP 6 rfl (by decide) lk_X8_111 (fun _ h9 => h9) dX8_work_114 (by omega) CE_1 rfl ?_
                    refine r_bipush hx hb dX8_work_117 (by decide +kernel) ?_
                    refine r_icmp_lt (tgt := 125) hx hb (by omega) (by omega) dX8_work_119 (by decide) (fun c119 => ?_) (fun c119 => ?_)
                    · have hID := hI.1.2.2.2.2.2 (σ 0 2) (by omega) (by omega)
                      obtain ⟨g1, g2, g3, g4⟩ := ID_IQ0 hID
                      refine lv_aload_n hx hb dX8_work_125 rfl (lv_at hl 0 rfl) ?_
                      refine r_get (C := RX8) (T := TX8) (N := 8) (ci := 8) hx hb hts hi_X8 hown hK hP 0 rfl (by decide) lk_X8_10 (fun _ h9 => h9) dX8_work_126 (by omega) CE_0 rfl ?_
                      refine r_get (C := RX5) (T := TX5) (N := 8) (ci := 5) hx hb hts hi_X5 hown hK hP 2 rfl (by decide) lk_X8_114 (fun _ h9 => h9) dX8_work_129 (by omega) CE_1 rfl ?_
                      refine lv_aload_n hx hb dX8_work_132 rfl (lv_at hl 0 rfl) ?_
                      refine r_get (C := RX8) (T := TX8) (N := 8) (ci := 8) hx hb hts hi_X8 hown hK hP 0 rfl (by decide) lk_X8_10 (fun _ h9 => h9) dX8_work_133 (by omega) CE_0 rfl ?_
                      refine r_get (C := RX5) (T := TX5) (N := 8) (ci := 5) hx hb hts hi_X5 hown hK hP 6 rfl (by decide) lk_X8_111 (fun _ h9 => h9) dX8_work_136 (by omega) CE_1 rfl ?_
                      refine r_aald hx hb hK hP 5 rfl dX8_work_139 (by omega) rfl (by omega) (by omega) rfl ?_
                      refine lv_astore hx hb dX8_work_140 hl (by decide) rfl (fun ls hl => ?_)
                      replace hl : lv_has ls 5 [(0, _), (1, _), (2, _), (3, _), (4, _)] := lv_sub hl [1, 2, 3, 4, 0] rfl
                      refine lv_aload hx hb dX8_work_142 (lv_at hl 4 rfl) ?_
                      refine lv_iload_n hx hb dX8_work_144 rfl (lv_at hl 1 rfl) ?_
                      refine r_sipush hx hb dX8_work_145 (by decide +kernel) ?_
                      refine r_div hx hb (by omega) (by omega) dX8_work_148 ?_
                      refine r_put (C := RX7) (T := TX7) (N := 16) (ci := 7) hx hb hi hts hi_X7 tyX7 tyX7_ok nmX7 hown hK hP hS 4 rfl (by decide) lk_X8_118 (fun _ h9 => h9) rfl (ty := .int) (by decide +kernel) rfl rfl dX8_work_149 (by omega) (CE_w (by omega)) (Nat.le_of_ble_eq_true rfl) (cu_w_house (by omega)) (fun H locs hP hS => ?_)
                      refine lv_aload hx hb dX8_work_152 (lv_at hl 4 rfl) ?_
                      refine lv_iload_n hx hb dX8_work_154 rfl (lv_at hl 1 rfl) ?_
                      refine r_sipush hx hb dX8_work_155 (by decide +kernel) ?_
                      refine r_div hx hb (by omega) (by omega) dX8_work_158 ?_
                      refine r_bipush hx hb dX8_work_159 (by decide +kernel) ?_
                      refine r_rem hx hb (by omega) (by omega) dX8_work_161 ?_
                      refine r_put (C := RX7) (T := TX7) (N := 16) (ci := 7) hx hb hi hts hi_X7 tyX7 tyX7_ok nmX7 hown hK hP hS 5 rfl (by decide) lk_X8_123 (fun _ h9 => h9) rfl (ty := .int) (by decide +kernel) rfl rfl dX8_work_162 (by omega) (CE_w (by omega)) (Nat.le_of_ble_eq_true rfl) (cu_w_sort (by omega)) (fun H locs hP hS => ?_)
                      refine lv_aload hx hb dX8_work_165 (lv_at hl 4 rfl) ?_
                      refine lv_iload_n hx hb dX8_work_167 rfl (lv_at hl 1 rfl) ?_
                      refine r_bipush hx hb dX8_work_168 (by decide +kernel) ?_
                      refine r_div hx hb (by omega) (by omega) dX8_work_170 ?_
                      refine r_bipush hx hb dX8_work_171 (by decide +kernel) ?_
                      refine r_rem hx hb (by omega) (by omega) dX8_work_173 ?_
                      refine r_put (C := RX7) (T := TX7) (N := 16) (ci := 7) hx hb hi hts hi_X7 tyX7 tyX7_ok nmX7 hown hK hP hS 6 rfl (by decide) lk_X8_126 (fun _ h9 => h9) rfl (ty := .int) (by decide +kernel) rfl rfl dX8_work_174 (by omega) (CE_w (by omega)) (Nat.le_of_ble_eq_true rfl) (cu_w_lanes (by omega)) (fun H locs hP hS => ?_)
                      refine lv_aload hx hb dX8_work_177 (lv_at hl 4 rfl) ?_
                      refine lv_iload_n hx hb dX8_work_179 rfl (lv_at hl 1 rfl) ?_
                      refine r_bipush hx hb dX8_work_180 (by decide +kernel) ?_
                      refine r_rem hx hb (by omega) (by omega) dX8_work_182 ?_
                      refine r_put (C := RX7) (T := TX7) (N := 16) (ci := 7) hx hb hi hts hi_X7 tyX7 tyX7_ok nmX7 hown hK hP hS 7 rfl (by decide) lk_X8_127 (fun _ h9 => h9) rfl (ty := .int) (by decide +kernel) rfl rfl dX8_work_183 (by omega) (CE_w (by omega)) (Nat.le_of_ble_eq_true rfl) (cu_w_days (by omega)) (fun H locs hP hS => ?_)
                      refine lv_aload hx hb dX8_work_186 (lv_at hl 4 rfl) ?_
                      refine lv_iload_n hx hb dX8_work_188 rfl (lv_at hl 2 rfl) ?_
                      refine r_sipush hx hb dX8_work_189 (by decide +kernel) ?_
                      refine r_div hx hb (by omega) (by omega) dX8_work_192 ?_
                      refine r_put (C := RX7) (T := TX7) (N := 16) (ci := 7) hx hb hi hts hi_X7 tyX7 tyX7_ok nmX7 hown hK hP hS 8 rfl (by decide) lk_X8_130 (fun _ h9 => h9) rfl (ty := .int) (by decide +kernel) rfl rfl dX8_work_193 (by omega) (CE_w (by omega)) (Nat.le_of_ble_eq_true rfl) (cu_w_depth (by omega)) (fun H locs hP hS => ?_)
                      refine lv_aload hx hb dX8_work_196 (lv_at hl 4 rfl) ?_
                      refine lv_iload_n hx hb dX8_work_198 rfl (lv_at hl 2 rfl) ?_
                      refine r_sipush hx hb dX8_work_199 (by decide +kernel) ?_
                      refine r_rem hx hb (by omega) (by omega) dX8_work_202 ?_
                      refine r_put (C := RX7) (T := TX7) (N := 16) (ci := 7) hx hb hi hts hi_X7 tyX7 tyX7_ok nmX7 hown hK hP hS 9 rfl (by decide) lk_X8_133 (fun _ h9 => h9) rfl (ty := .int) (by decide +kernel) rfl rfl dX8_work_203 (by omega) (CE_w (by omega)) (Nat.le_of_ble_eq_true rfl) (cu_w_wanted (by omega)) (fun H locs hP hS => ?_)
                      refine lv_aload hx hb dX8_work_206 (lv_at hl 4 rfl) ?_
                      refine lv_iload_n hx hb dX8_work_208 rfl (lv_at hl 3 rfl) ?_
                      have enW : up (up (up (up (up (up σ 11 (σ 0 2) (a / 10000)) 12 (σ 0 2) (a / 1000 % 10)) 13 (σ 0 2) (a / 100 % 10)) 14 (σ 0 2) (a % 100)) 15 (σ 0 2) (b / 1000)) 16 (σ 0 2) (b % 1000) = nW σ (σ 0 2) a b := rfl
                      rw [enW] at hP
                      have e17 : nW σ (σ 0 2) a b 17 (σ 0 2) = σ 17 (σ 0 2) := nW_o (by right; omega)
                      have e18 : nW σ (σ 0 2) a b 18 (σ 0 2) = σ 18 (σ 0 2) := nW_o (by right; omega)
                      refine k_callvV (nL := 5) (C := RX7) (T := TX7) (N := 16) (ci := 7) hx hb hml hown hts hK hP hS hl.1 (c_X7_take hi (by omega) (by omega) (by omega) (by omega) (fun k k1 k2 => by omega) (fun j k j1 j2 j3 => by omega)) rfl (Nat.le_of_ble_eq_true rfl) rfl (cwV 1 hts (gV lm_X8_136 ti_X7_take tl_X7_take tn_X7 tc_X7_take) rfl rfl rfl (by decide +kernel) ⟨Nat.le_of_ble_eq_true rfl, Nat.le_of_ble_eq_true rfl⟩) rfl dX8_work_209 ⟨Nat.zero_le _, Nat.zero_le _⟩ (by omega) (CE_w (by omega)) (fun E1 H locs hq hP hS => ?_)
                      subst hq
                      have e02 : insQ (nW σ (σ 0 2) a b) (σ 0 2) p 0 2 = σ 0 2 := by rw [insQ_o (nW_ins hID) (by omega), nW_o (by right; omega)]
                      refine lv_aload_n hx hb dX8_work_212 rfl (lv_at hl 0 rfl) ?_
                      refine r_get (C := RX8) (T := TX8) (N := 8) (ci := 8) hx hb hts hi_X8 hown hK hP 0 rfl (by decide) lk_X8_10 (fun _ h9 => h9) dX8_work_213 (by omega) CE_0 rfl ?_
                      refine lv_dup hx hb dX8_work_216 rfl ?_
                      refine r_get (C := RX5) (T := TX5) (N := 8) (ci := 5) hx hb hts hi_X5 hown hK hP 6 rfl (by decide) lk_X8_111 (fun _ h9 => h9) dX8_work_217 (by omega) CE_1 rfl ?_
                      rw [e02]
                      refine r_const hx hb dX8_work_220 ?_
                      refine r_add hx hb dX8_work_221 ?_
                      refine r_put (C := RX5) (T := TX5) (N := 8) (ci := 5) hx hb hi hts hi_X5 tyX5 tyX5_ok nmX5 hown hK hP hS 6 rfl (by decide) lk_X8_111 (fun _ h9 => h9) rfl (ty := .int) (by decide +kernel) rfl rfl dX8_work_222 (by omega) CE_1 (Nat.le_of_ble_eq_true rfl) cu_workCount (fun H locs hP hS => ?_)
                      refine lv_aload hx hb dX8_work_225 (lv_at hl 4 rfl) ?_
                      refine r_get (C := RX7) (T := TX7) (N := 16) (ci := 7) hx hb hts hi_X7 hown hK hP 0 rfl (by decide) lk_X8_140 (fun _ h9 => h9) dX8_work_227 (by omega) (CE_w (by omega)) rfl ?_
                      exact k_iret hx hb hr hlocks hP hS dX8_work_230 ⟨by rw [aWork, cif_t hv, cif_t (by omega)], τ, by rw [sWork, cif_t ⟨hv, by omega⟩], hT⟩
                    · refine r_bipush hx hb dX8_work_122 (by decide +kernel) ?_
                      exact k_iret hx hb hr hlocks hP hS dX8_work_124 ⟨by rw [aWork, cif_t hv, cif_f (by omega)], τ, by rw [sWork, cif_f (fun z => by omega)], hT⟩
                  · rw [← hWg]
                    exact join108  _ _ _ hP hS hl (fun q => by unfold vW at q; omega)
              · rw [← hWg]
                exact join81  _ _ _ hP hS hl (fun q => by unfold vW at q; omega)
          · rw [← hWg]
            exact join51  _ _ _ hP hS hl (fun q => by unfold vW at q; omega)
      · rw [← hWg]
        exact join19  _ _ _ hP hS hl (fun q => by unfold vW at q; omega)
abbrev rmX8_more : Room := { frames := 1, cells := 0, slots := 0, locals := 22 }
set_option maxRecDepth 100000 in
set_option maxHeartbeats 4000000 in
theorem c_X8_more {l : Launch} {D : va_G} {G : Nat → ClassId} {ad : Nat → Nat} {σ τ : Tb} (hi : kInj 189 ad) {w p : Int} (hI : InvS σ) (hT : TI τ) (hw : (-2147483648 ≤ w ∧ w < 2147483648)) (hp : (-2147483648 ≤ p ∧ p < 2147483648)) : Met l yX8_more wsX8_more rmX8_more (kPc D (tysG G) 189 ad (CE G ad σ τ) [.ref (ad 0), .int (iI w), .int (iI p)]) (kQi D 189 ad (fun z E' => z = aMore σ w p ∧ ∃ τ', E' = CE G ad (sMore σ w p) τ' ∧ TI τ')) 0 0 (kA 189 ad) := by
  refine k_met (cc := cX8_more) (maxL := 4) (ret := (some .int)) (by decide) (Nat.le_of_ble_eq_true rfl) ?_
  intro P0 e0 s m0 below meth c0 ls hx hb hr hlocks hml hown hts hK hP hS hl
  replace hl : lv_has ls 4 [(0, _), (1, _), (2, _)] := hl
  replace hown : s.vm.findClass RX8 = some m0.cls := hown
  refine k_abs (fun Wg hWg => ?_)
  have h0 := Inv_0 hI.1
  have hbad : ¬ vM σ w p → (-1 : Int) = aMore σ w p ∧ ∃ τ', CE G ad σ τ = CE G ad (sMore σ w p) τ' ∧ TI τ' := fun q => ⟨by rw [aMore, cif_f q], τ, by rw [sMore, cif_f (fun z => q z.1)], hT⟩
  refine lv_aload_n hx hb dX8_more_0 rfl (lv_at hl 0 rfl) ?_
  refine r_get (C := RX8) (T := TX8) (N := 8) (ci := 8) hx hb hts hi_X8 hown hK hP 0 rfl (by decide) lk_X8_10 (fun _ h9 => h9) dX8_more_1 (by omega) CE_0 rfl ?_
  refine lv_iload_n hx hb dX8_more_4 rfl (lv_at hl 1 rfl) ?_
  refine k_calliV (nL := 4) (C := RX5) (T := TX5) (N := 8) (ci := 5) hx hb hml hown hts hK hP hS hl.1 (c_X5_hasWork hi hw h0.2.2.1) rfl (Nat.le_of_ble_eq_true rfl) rfl (cwV 1 hts (gV lm_X8_143 ti_X5_hasWork tl_X5_hasWork tn_X5 tc_X5_hasWork) rfl rfl rfl (by decide +kernel) ⟨Nat.le_of_ble_eq_true rfl, Nat.le_of_ble_eq_true rfl⟩) rfl dX8_more_5 ⟨Nat.zero_le _, Nat.zero_le _⟩ (by omega) CE_1 (fun r5 E1 H locs hq hP hS => ?_)
  obtain ⟨rfl, rfl⟩ := hq
  refine r_ifB_eq (tgt := 22) hx hb dX8_more_8 (by decide) (fun c8 => ?_) (fun c8 => ?_)
  · refine r_const hx hb dX8_more_22 ?_
    exact k_iret hx hb hr hlocks hP hS dX8_more_23 (hbad (fun q => c8 q.1))
  · refine lv_aload_n hx hb dX8_more_11 rfl (lv_at hl 0 rfl) ?_
    refine r_get (C := RX8) (T := TX8) (N := 8) (ci := 8) hx hb hts hi_X8 hown hK hP 0 rfl (by decide) lk_X8_10 (fun _ h9 => h9) dX8_more_12 (by omega) CE_0 rfl ?_
    refine lv_iload_n hx hb dX8_more_15 rfl (lv_at hl 2 rfl) ?_
    refine k_calliV (nL := 4) (C := RX5) (T := TX5) (N := 8) (ci := 5) hx hb hml hown hts hK hP hS hl.1 (c_X5_hasPiece hi hp hI.1) rfl (Nat.le_of_ble_eq_true rfl) rfl (cwV 1 hts (gV lm_X8_108 ti_X5_hasPiece tl_X5_hasPiece tn_X5 tc_X5_hasPiece) rfl rfl rfl (by decide +kernel) ⟨Nat.le_of_ble_eq_true rfl, Nat.le_of_ble_eq_true rfl⟩) rfl dX8_more_16 ⟨Nat.zero_le _, Nat.zero_le _⟩ (by omega) CE_1 (fun r16 E1 H locs hq hP hS => ?_)
    obtain ⟨rfl, rfl⟩ := hq
    refine r_ifB_ne (tgt := 24) hx hb dX8_more_19 (by decide) (fun c19 => ?_) (fun c19 => ?_)
    · obtain ⟨hN, ⟨b1, b2, b3, b4, b5⟩, _⟩ := Inv_w hI.1 c8
      have hJ := IJ_r hI.1 c8
      unfold IN at hN
      refine lv_aload_n hx hb dX8_more_24 rfl (lv_at hl 0 rfl) ?_
      refine r_get (C := RX8) (T := TX8) (N := 8) (ci := 8) hx hb hts hi_X8 hown hK hP 0 rfl (by decide) lk_X8_10 (fun _ h9 => h9) dX8_more_25 (by omega) CE_0 rfl ?_
      refine r_get (C := RX5) (T := TX5) (N := 8) (ci := 5) hx hb hts hi_X5 hown hK hP 2 rfl (by decide) lk_X8_114 (fun _ h9 => h9) dX8_more_28 (by omega) CE_1 rfl ?_
      refine lv_iload_n hx hb dX8_more_31 rfl (lv_at hl 1 rfl) ?_
      refine r_aald hx hb hK hP 5 rfl dX8_more_32 (by omega) rfl (by omega) (by omega) rfl ?_
      refine lv_astore_n hx hb dX8_more_33 rfl hl (by decide) rfl (fun ls hl => ?_)
      replace hl : lv_has ls 4 [(0, _), (1, _), (2, _), (3, _)] := lv_sub hl [1, 2, 3, 0] rfl
      refine lv_aload_n hx hb dX8_more_34 rfl (lv_at hl 3 rfl) ?_
      refine lv_iload_n hx hb dX8_more_35 rfl (lv_at hl 2 rfl) ?_
      refine k_calliV (nL := 4) (C := RX7) (T := TX7) (N := 16) (ci := 7) hx hb hml hown hts hK hP hS hl.1 (c_X7_uses hi (by omega) (by omega) b1) rfl (Nat.le_of_ble_eq_true rfl) rfl (cwV 1 hts (gV lm_X8_146 ti_X7_uses tl_X7_uses tn_X7 tc_X7_uses) rfl rfl rfl (by decide +kernel) ⟨Nat.le_of_ble_eq_true rfl, Nat.le_of_ble_eq_true rfl⟩) rfl dX8_more_36 ⟨Nat.zero_le _, Nat.zero_le _⟩ (by omega) (CE_w (by omega)) (fun r36 E1 H locs hq hP hS => ?_)
      obtain ⟨rfl, rfl⟩ := hq
      refine r_ifB_eq (tgt := 44) hx hb dX8_more_39 (by decide) (fun c39 => ?_) (fun c39 => ?_)
      · have hv : vM σ w p := ⟨c8, c19, c39⟩
        have join58 : ∀  (H : Heap) (locs : List Loc) (ls : Array Slot), va_P D vwCl (kw 189 ad (CE G ad σ τ)) H → va_S (kA 189 ad) s.heap H locs → lv_has ls 4 [(0, .ref (ad 0)), (1, .int (iI w)), (2, .int (iI p)), (3, .ref (ad (69 + w.toNat)))] → (¬ (σ 19 w = 0 ∧ σ 23 w < 0)) → Wg H locs (F0 m0 58 ls []) := by
          intro  H locs ls hP hS hl hv58
          rw [hWg]
          refine r_bipush hx hb dX8_more_58 (by decide +kernel) ?_
          exact k_iret hx hb hr hlocks hP hS dX8_more_60 ⟨by rw [aMore, cif_t hv, cif_f hv58], τ, by rw [sMore, cif_f (fun z => hv58 z.2.1)], hT⟩
        refine lv_aload_n hx hb dX8_more_44 rfl (lv_at hl 3 rfl) ?_
        refine r_get (C := RX7) (T := TX7) (N := 16) (ci := 7) hx hb hts hi_X7 hown hK hP 10 rfl (by decide) lk_X8_149 (fun _ h9 => h9) dX8_more_45 (by omega) (CE_w (by omega)) rfl ?_
        refine r_if_ne (tgt := 58) hx hb (by omega) dX8_more_48 (by decide) (fun c48 => ?_) (fun c48 => ?_)
        · rw [← hWg]
          exact join58  _ _ _ hP hS hl (by omega)
        · refine lv_aload_n hx hb dX8_more_51 rfl (lv_at hl 3 rfl) ?_
          refine r_get (C := RX7) (T := TX7) (N := 16) (ci := 7) hx hb hts hi_X7 hown hK hP 14 rfl (by decide) lk_X8_152 (fun _ h9 => h9) dX8_more_52 (by omega) (CE_w (by omega)) rfl ?_
          refine r_if_lt (tgt := 61) hx hb (by omega) dX8_more_55 (by decide) (fun c55 => ?_) (fun c55 => ?_)
          · refine lv_aload_n hx hb dX8_more_61 rfl (lv_at hl 3 rfl) ?_
            refine r_get (C := RX7) (T := TX7) (N := 16) (ci := 7) hx hb hts hi_X7 hown hK hP 2 rfl (by decide) lk_X8_155 (fun _ h9 => h9) dX8_more_62 (by omega) (CE_w (by omega)) rfl ?_
            refine r_const hx hb dX8_more_65 ?_
            refine r_icmp_lt (tgt := 72) hx hb (by omega) (by omega) dX8_more_66 (by decide) (fun c66 => ?_) (fun c66 => ?_)
            · refine lv_aload_n hx hb dX8_more_72 rfl (lv_at hl 3 rfl) ?_
              refine lv_iload_n hx hb dX8_more_73 rfl (lv_at hl 2 rfl) ?_
              refine k_callvV (nL := 4) (C := RX7) (T := TX7) (N := 16) (ci := 7) hx hb hml hown hts hK hP hS hl.1 (c_X7_take hi (by omega) (by omega) (by omega) b1 (fun k k1 k2 => by have := (b3 k k1 k2).1; omega) b4) rfl (Nat.le_of_ble_eq_true rfl) rfl (cwV 1 hts (gV lm_X8_136 ti_X7_take tl_X7_take tn_X7 tc_X7_take) rfl rfl rfl (by decide +kernel) ⟨Nat.le_of_ble_eq_true rfl, Nat.le_of_ble_eq_true rfl⟩) rfl dX8_more_74 ⟨Nat.zero_le _, Nat.zero_le _⟩ (by omega) (CE_w (by omega)) (fun E1 H locs hq hP hS => ?_)
              subst hq
              obtain ⟨a0, hins⟩ := insOk_ex (σ := σ) (w := w) (p := p) (by omega) b4
              refine lv_aload_n hx hb dX8_more_77 rfl (lv_at hl 3 rfl) ?_
              refine r_get (C := RX7) (T := TX7) (N := 16) (ci := 7) hx hb hts hi_X7 hown hK hP 2 rfl (by decide) lk_X8_155 (fun _ h9 => h9) dX8_more_78 (by omega) (CE_w (by omega)) rfl ?_
              rw [(insQ_18 hins)]
              exact k_iret hx hb hr hlocks hP hS dX8_more_81 ⟨by rw [aMore, cif_t hv, cif_t (by omega), cif_t (by omega)], τ, by rw [sMore, cif_t ⟨hv, by omega, by omega⟩], hT⟩
            · refine r_bipush hx hb dX8_more_69 (by decide +kernel) ?_
              exact k_iret hx hb hr hlocks hP hS dX8_more_71 ⟨by rw [aMore, cif_t hv, cif_t (by omega), cif_f (by omega)], τ, by rw [sMore, cif_f (fun z => by omega)], hT⟩
          · rw [← hWg]
            exact join58  _ _ _ hP hS hl (by omega)
      · refine r_const hx hb dX8_more_42 ?_
        exact k_iret hx hb hr hlocks hP hS dX8_more_43 (hbad (fun q => q.2.2 c39))
    · refine r_const hx hb dX8_more_22 ?_
      exact k_iret hx hb hr hlocks hP hS dX8_more_23 (hbad (fun q => c19 q.2.1))

