theorem RT_ut {σ τ : Tb} {t : Nat} {i v : Int} (h : t ≠ 0) (hR : RT σ τ) : RT (up σ t i v) τ := RT_c0 (fun _ => up_t (by omega)) hR
theorem RT_u0 {σ τ : Tb} {i v : Int} (h : i = 0 ∨ i = 1) (hR : RT σ τ) : RT (up σ 0 i v) τ := RT_c (up_i (by omega)) (up_i (by omega)) (up_i (by omega)) (up_i (by omega)) hR
theorem up_cg {σ σ' : Tb} {t a : Nat} {i b c : Int} (h : σ t i = σ' t i) : up σ a b c t i = up σ' a b c t i := by unfold up; rw [h]
abbrev rmX9_piece : Room := { frames := 1, cells := 0, slots := 0, locals := 22 }
set_option maxRecDepth 100000 in
set_option maxHeartbeats 4000000 in
theorem c_X9_piece {l : Launch} {D : va_G} {G : Nat → ClassId} {ad : Nat → Nat} {σ τ : Tb} (hi : kInj 27 ad) {e l0 r m1 t : Int} (hI : InvS σ) (hT : RT σ τ) (he : (-2147483648 ≤ e ∧ e < 2147483648)) (hl0 : (-2147483648 ≤ l0 ∧ l0 < 2147483648)) (hr0 : (-2147483648 ≤ r ∧ r < 2147483648)) (hm1 : (-2147483648 ≤ m1 ∧ m1 < 2147483648)) (ht0 : (-2147483648 ≤ t ∧ t < 2147483648)) : Met l yX9_piece wsX9_piece rmX9_piece (kPc D (tysG G) 27 ad (RE G ad σ τ) [.ref (ad 0), .int (iI e), .int (iI l0), .int (iI r), .int (iI m1), .int (iI t)]) (kQi D 27 ad (fun z E' => z = aPiece σ e l0 r m1 t ∧ ∃ τ', E' = RE G ad (sPiece σ e l0 r m1 t) τ' ∧ RT (sPiece σ e l0 r m1 t) τ')) 0 0 (kA 27 ad) := by
  refine k_met (cc := cX9_piece) (maxL := 6) (ret := (some .int)) (by decide) (Nat.le_of_ble_eq_true rfl) ?_
  intro P0 e0 s m0 below meth c0 ls hx hb hr hlocks hml hown hts hK hP hS hl
  replace hl : lv_has ls 6 [(0, _), (1, _), (2, _), (3, _), (4, _), (5, _)] := hl
  replace hown : s.vm.findClass RX9 = some m0.cls := hown
  refine k_abs (fun Wg hWg => ?_)
  have h0 := Inv_0 hI.1
  have join73 : ∀  (H : Heap) (locs : List Loc) (ls : Array Slot), va_P D vwCl (kw 27 ad (RE G ad σ τ)) H → va_S (kA 27 ad) s.heap H locs → lv_has ls 6 [(0, .ref (ad 0))] → (¬ vP e l0 r m1 t) → Wg H locs (F0 m0 73 ls []) := by
    intro  H locs ls hP hS hl hv73
    rw [hWg]
    have e2 : sPiece σ e l0 r m1 t = σ := by rw [sPiece, cif_f (fun q => hv73 q.1)]
    refine r_const hx hb dX9_piece_73 ?_
    exact k_iret hx hb hr hlocks hP hS dX9_piece_74 ⟨by rw [aPiece, cif_f hv73], τ, by rw [e2], by rw [e2]; exact hT⟩
  refine lv_iload_n hx hb dX9_piece_0 rfl (lv_at hl 1 rfl) ?_
  refine r_if_lt (tgt := 73) hx hb (by omega) dX9_piece_1 (by decide) (fun c1 => ?_) (fun c1 => ?_)
  · rw [← hWg]
    exact join73  _ _ _ hP hS (lv_sub hl [0] rfl) (fun q => by unfold vP at q; omega)
  · refine lv_iload_n hx hb dX9_piece_4 rfl (lv_at hl 1 rfl) ?_
    refine r_bipush hx hb dX9_piece_5 (by decide +kernel) ?_
    refine r_div hx hb (by omega) (by omega) dX9_piece_7 ?_
    refine r_bipush hx hb dX9_piece_8 (by decide +kernel) ?_
    refine r_icmp_ge (tgt := 73) hx hb (by omega) (by omega) dX9_piece_10 (by decide) (fun c10 => ?_) (fun c10 => ?_)
    · rw [← hWg]
      exact join73  _ _ _ hP hS (lv_sub hl [0] rfl) (fun q => by unfold vP at q; omega)
    · refine lv_iload_n hx hb dX9_piece_13 rfl (lv_at hl 1 rfl) ?_
      refine r_bipush hx hb dX9_piece_14 (by decide +kernel) ?_
      refine r_rem hx hb (by omega) (by omega) dX9_piece_16 ?_
      refine r_bipush hx hb dX9_piece_17 (by decide +kernel) ?_
      refine r_icmp_ge (tgt := 73) hx hb (by omega) (by omega) dX9_piece_19 (by decide) (fun c19 => ?_) (fun c19 => ?_)
      · rw [← hWg]
        exact join73  _ _ _ hP hS (lv_sub hl [0] rfl) (fun q => by unfold vP at q; omega)
      · refine lv_iload_n hx hb dX9_piece_22 rfl (lv_at hl 1 rfl) ?_
        refine r_bipush hx hb dX9_piece_23 (by decide +kernel) ?_
        refine r_div hx hb (by omega) (by omega) dX9_piece_25 ?_
        refine lv_iload_n hx hb dX9_piece_26 rfl (lv_at hl 1 rfl) ?_
        refine r_bipush hx hb dX9_piece_27 (by decide +kernel) ?_
        refine r_rem hx hb (by omega) (by omega) dX9_piece_29 ?_
        refine r_icmp_eq (tgt := 73) hx hb (by omega) (by omega) dX9_piece_30 (by decide) (fun c30 => ?_) (fun c30 => ?_)
        · rw [← hWg]
          exact join73  _ _ _ hP hS (lv_sub hl [0] rfl) (fun q => by unfold vP at q; omega)
        · refine lv_iload_n hx hb dX9_piece_33 rfl (lv_at hl 2 rfl) ?_
          refine r_const hx hb dX9_piece_34 ?_
          refine r_const hx hb dX9_piece_35 ?_
          refine k_calliS (nL := 6) hx hb hml hown hts hK hP hS hl.1 (c_X9_within hi hl0 (by omega) (by omega)) rfl (Nat.le_of_ble_eq_true rfl) (va_cwS 3 hts (gS lm_X9_97 ts_X9_within tn_X9 tc_X9_within) rfl rfl rfl (by decide +kernel) ⟨Nat.le_of_ble_eq_true rfl, Nat.le_of_ble_eq_true rfl⟩) rfl dX9_piece_36 ⟨Nat.zero_le _, Nat.zero_le _⟩ (fun r36 E1 H locs hq hP hS => ?_)
          obtain ⟨rfl, rfl⟩ := hq
          refine r_ifB_eq (tgt := 73) hx hb dX9_piece_39 (by decide) (fun c39 => ?_) (fun c39 => ?_)
          · rw [← hWg]
            exact join73  _ _ _ hP hS (lv_sub hl [0] rfl) (fun q => c39 q.2.1)
          · refine lv_iload_n hx hb dX9_piece_42 rfl (lv_at hl 3 rfl) ?_
            refine r_const hx hb dX9_piece_43 ?_
            refine r_const hx hb dX9_piece_44 ?_
            refine k_calliS (nL := 6) hx hb hml hown hts hK hP hS hl.1 (c_X9_within hi hr0 (by omega) (by omega)) rfl (Nat.le_of_ble_eq_true rfl) (va_cwS 3 hts (gS lm_X9_97 ts_X9_within tn_X9 tc_X9_within) rfl rfl rfl (by decide +kernel) ⟨Nat.le_of_ble_eq_true rfl, Nat.le_of_ble_eq_true rfl⟩) rfl dX9_piece_45 ⟨Nat.zero_le _, Nat.zero_le _⟩ (fun r45 E1 H locs hq hP hS => ?_)
            obtain ⟨rfl, rfl⟩ := hq
            refine r_ifB_eq (tgt := 73) hx hb dX9_piece_48 (by decide) (fun c48 => ?_) (fun c48 => ?_)
            · rw [← hWg]
              exact join73  _ _ _ hP hS (lv_sub hl [0] rfl) (fun q => c48 q.2.2.1)
            · refine lv_iload hx hb dX9_piece_51 (lv_at hl 4 rfl) ?_
              refine r_const hx hb dX9_piece_53 ?_
              refine r_bipush hx hb dX9_piece_54 (by decide +kernel) ?_
              refine k_calliS (nL := 6) hx hb hml hown hts hK hP hS hl.1 (c_X9_within hi hm1 (by omega) (by omega)) rfl (Nat.le_of_ble_eq_true rfl) (va_cwS 3 hts (gS lm_X9_97 ts_X9_within tn_X9 tc_X9_within) rfl rfl rfl (by decide +kernel) ⟨Nat.le_of_ble_eq_true rfl, Nat.le_of_ble_eq_true rfl⟩) rfl dX9_piece_56 ⟨Nat.zero_le _, Nat.zero_le _⟩ (fun r56 E1 H locs hq hP hS => ?_)
              obtain ⟨rfl, rfl⟩ := hq
              refine r_ifB_eq (tgt := 73) hx hb dX9_piece_59 (by decide) (fun c59 => ?_) (fun c59 => ?_)
              · rw [← hWg]
                exact join73  _ _ _ hP hS (lv_sub hl [0] rfl) (fun q => c59 q.2.2.2.1)
              · refine lv_iload hx hb dX9_piece_62 (lv_at hl 5 rfl) ?_
                refine r_const hx hb dX9_piece_64 ?_
                refine r_bipush hx hb dX9_piece_65 (by decide +kernel) ?_
                refine k_calliS (nL := 6) hx hb hml hown hts hK hP hS hl.1 (c_X9_within hi ht0 (by omega) (by omega)) rfl (Nat.le_of_ble_eq_true rfl) (va_cwS 3 hts (gS lm_X9_97 ts_X9_within tn_X9 tc_X9_within) rfl rfl rfl (by decide +kernel) ⟨Nat.le_of_ble_eq_true rfl, Nat.le_of_ble_eq_true rfl⟩) rfl dX9_piece_67 ⟨Nat.zero_le _, Nat.zero_le _⟩ (fun r67 E1 H locs hq hP hS => ?_)
                obtain ⟨rfl, rfl⟩ := hq
                refine r_ifB_ne (tgt := 75) hx hb dX9_piece_70 (by decide) (fun c70 => ?_) (fun c70 => ?_)
                · have hv : vP e l0 r m1 t := ⟨by omega, c39, c48, c59, c70⟩
                  refine lv_aload_n hx hb dX9_piece_75 rfl (lv_at hl 0 rfl) ?_
                  refine r_get (C := RX9) (T := TX9) (N := 34) (ci := 9) hx hb hts hi_X9 hown hK hP 6 rfl (by decide) lk_X9_101 (fun _ h9 => h9) dX9_piece_76 (by omega) RE_0 rfl ?_
                  refine r_bipush hx hb dX9_piece_79 (by decide +kernel) ?_
                  refine r_icmp_ne (tgt := 87) hx hb (by omega) (by omega) dX9_piece_81 (by decide) (fun c81 => ?_) (fun c81 => ?_)
                  · have hlt : σ 0 0 < 40 := by omega
                    have e2 : sPiece σ e l0 r m1 t = up (up (up (up (up (up (up σ 1 (σ 0 0) (e / 100)) 2 (σ 0 0) (e % 100)) 3 (σ 0 0) l0) 4 (σ 0 0) r) 5 (σ 0 0) m1) 6 (σ 0 0) t) 0 0 (σ 0 0 + 1) := by rw [sPiece, cif_t ⟨hv, hlt⟩]
                    have hRT : RT (sPiece σ e l0 r m1 t) τ := by
                      rw [e2]
                      exact RT_u0 (Or.inl rfl) (RT_ut (by decide) (RT_ut (by decide) (RT_ut (by decide) (RT_ut (by decide) (RT_ut (by decide) (RT_ut (by decide) hT))))))
                    refine lv_aload_n hx hb dX9_piece_87 rfl (lv_at hl 0 rfl) ?_
                    refine r_get (C := RX9) (T := TX9) (N := 34) (ci := 9) hx hb hts hi_X9 hown hK hP 0 rfl (by decide) lk_X9_9 (fun _ h9 => h9) dX9_piece_88 (by omega) RE_0 rfl ?_
                    refine lv_aload_n hx hb dX9_piece_91 rfl (lv_at hl 0 rfl) ?_
                    refine r_get (C := RX9) (T := TX9) (N := 34) (ci := 9) hx hb hts hi_X9 hown hK hP 6 rfl (by decide) lk_X9_101 (fun _ h9 => h9) dX9_piece_92 (by omega) RE_0 rfl ?_
                    refine lv_iload_n hx hb dX9_piece_95 rfl (lv_at hl 1 rfl) ?_
                    refine r_bipush hx hb dX9_piece_96 (by decide +kernel) ?_
                    refine r_div hx hb (by omega) (by omega) dX9_piece_98 ?_
                    refine r_iast hx hb hi hK hP hS 0 rfl dX9_piece_99 (by omega) rfl (by omega) (by omega) (ru_from (by omega)) (fun H locs hP hS => ?_)
                    refine lv_aload_n hx hb dX9_piece_100 rfl (lv_at hl 0 rfl) ?_
                    refine r_get (C := RX9) (T := TX9) (N := 34) (ci := 9) hx hb hts hi_X9 hown hK hP 1 rfl (by decide) lk_X9_13 (fun _ h9 => h9) dX9_piece_101 (by omega) RE_0 rfl ?_
                    refine lv_aload_n hx hb dX9_piece_104 rfl (lv_at hl 0 rfl) ?_
                    refine r_get (C := RX9) (T := TX9) (N := 34) (ci := 9) hx hb hts hi_X9 hown hK hP 6 rfl (by decide) lk_X9_101 (fun _ h9 => h9) dX9_piece_105 (by omega) RE_0 rfl ?_
                    rw [up_t (by decide)]
                    refine lv_iload_n hx hb dX9_piece_108 rfl (lv_at hl 1 rfl) ?_
                    refine r_bipush hx hb dX9_piece_109 (by decide +kernel) ?_
                    refine r_rem hx hb (by omega) (by omega) dX9_piece_111 ?_
                    refine r_iast hx hb hi hK hP hS 0 rfl dX9_piece_112 (by omega) rfl (by omega) (by omega) (ru_to (by omega)) (fun H locs hP hS => ?_)
                    refine lv_aload_n hx hb dX9_piece_113 rfl (lv_at hl 0 rfl) ?_
                    refine r_get (C := RX9) (T := TX9) (N := 34) (ci := 9) hx hb hts hi_X9 hown hK hP 2 rfl (by decide) lk_X9_16 (fun _ h9 => h9) dX9_piece_114 (by omega) RE_0 rfl ?_
                    refine lv_aload_n hx hb dX9_piece_117 rfl (lv_at hl 0 rfl) ?_
                    refine r_get (C := RX9) (T := TX9) (N := 34) (ci := 9) hx hb hts hi_X9 hown hK hP 6 rfl (by decide) lk_X9_101 (fun _ h9 => h9) dX9_piece_118 (by omega) RE_0 rfl ?_
                    rw [up_t (by decide), up_t (by decide)]
                    refine lv_iload_n hx hb dX9_piece_121 rfl (lv_at hl 2 rfl) ?_
                    refine r_iast hx hb hi hK hP hS 0 rfl dX9_piece_122 (by omega) rfl (by omega) (by omega) (ru_lanes (by omega)) (fun H locs hP hS => ?_)
                    refine lv_aload_n hx hb dX9_piece_123 rfl (lv_at hl 0 rfl) ?_
                    refine r_get (C := RX9) (T := TX9) (N := 34) (ci := 9) hx hb hts hi_X9 hown hK hP 3 rfl (by decide) lk_X9_19 (fun _ h9 => h9) dX9_piece_124 (by omega) RE_0 rfl ?_
                    refine lv_aload_n hx hb dX9_piece_127 rfl (lv_at hl 0 rfl) ?_
                    refine r_get (C := RX9) (T := TX9) (N := 34) (ci := 9) hx hb hts hi_X9 hown hK hP 6 rfl (by decide) lk_X9_101 (fun _ h9 => h9) dX9_piece_128 (by omega) RE_0 rfl ?_
                    refine lv_iload_n hx hb dX9_piece_131 rfl (lv_at hl 3 rfl) ?_
                    rw [up_t (by decide), up_t (by decide), up_t (by decide)]
                    refine r_iast hx hb hi hK hP hS 0 rfl dX9_piece_132 (by omega) rfl (by omega) (by omega) (ru_rank (by omega)) (fun H locs hP hS => ?_)
                    refine lv_aload_n hx hb dX9_piece_133 rfl (lv_at hl 0 rfl) ?_
                    refine r_get (C := RX9) (T := TX9) (N := 34) (ci := 9) hx hb hts hi_X9 hown hK hP 4 rfl (by decide) lk_X9_22 (fun _ h9 => h9) dX9_piece_134 (by omega) RE_0 rfl ?_
                    refine lv_aload_n hx hb dX9_piece_137 rfl (lv_at hl 0 rfl) ?_
                    refine r_get (C := RX9) (T := TX9) (N := 34) (ci := 9) hx hb hts hi_X9 hown hK hP 6 rfl (by decide) lk_X9_101 (fun _ h9 => h9) dX9_piece_138 (by omega) RE_0 rfl ?_
                    rw [up_t (by decide), up_t (by decide), up_t (by decide), up_t (by decide)]
                    refine lv_iload hx hb dX9_piece_141 (lv_at hl 4 rfl) ?_
                    refine r_iast hx hb hi hK hP hS 0 rfl dX9_piece_143 (by omega) rfl (by omega) (by omega) (ru_minutes (by omega)) (fun H locs hP hS => ?_)
                    refine lv_aload_n hx hb dX9_piece_144 rfl (lv_at hl 0 rfl) ?_
                    refine r_get (C := RX9) (T := TX9) (N := 34) (ci := 9) hx hb hts hi_X9 hown hK hP 5 rfl (by decide) lk_X9_25 (fun _ h9 => h9) dX9_piece_145 (by omega) RE_0 rfl ?_
                    refine lv_aload_n hx hb dX9_piece_148 rfl (lv_at hl 0 rfl) ?_
                    refine r_get (C := RX9) (T := TX9) (N := 34) (ci := 9) hx hb hts hi_X9 hown hK hP 6 rfl (by decide) lk_X9_101 (fun _ h9 => h9) dX9_piece_149 (by omega) RE_0 rfl ?_
                    rw [up_t (by decide), up_t (by decide), up_t (by decide), up_t (by decide), up_t (by decide)]
                    refine lv_iload hx hb dX9_piece_152 (lv_at hl 5 rfl) ?_
                    refine r_iast hx hb hi hK hP hS 0 rfl dX9_piece_154 (by omega) rfl (by omega) (by omega) (ru_rest (by omega)) (fun H locs hP hS => ?_)
                    refine lv_aload_n hx hb dX9_piece_155 rfl (lv_at hl 0 rfl) ?_
                    refine lv_dup hx hb dX9_piece_156 rfl ?_
                    refine r_get (C := RX9) (T := TX9) (N := 34) (ci := 9) hx hb hts hi_X9 hown hK hP 6 rfl (by decide) lk_X9_101 (fun _ h9 => h9) dX9_piece_157 (by omega) RE_0 rfl ?_
                    rw [up_t (by decide), up_t (by decide), up_t (by decide), up_t (by decide), up_t (by decide), up_t (by decide)]
                    refine r_const hx hb dX9_piece_160 ?_
                    refine r_add hx hb dX9_piece_161 ?_
                    refine r_put (C := RX9) (T := TX9) (N := 34) (ci := 9) hx hb hi hts hi_X9 tyX9 tyX9_ok nmX9 hown hK hP hS 6 rfl (by decide) lk_X9_101 (fun _ h9 => h9) rfl (ty := .int) (by decide +kernel) rfl rfl dX9_piece_162 (by omega) RE_0 (Nat.le_of_ble_eq_true rfl) ru_pieces (fun H locs hP hS => ?_)
                    refine lv_aload_n hx hb dX9_piece_165 rfl (lv_at hl 0 rfl) ?_
                    refine r_get (C := RX9) (T := TX9) (N := 34) (ci := 9) hx hb hts hi_X9 hown hK hP 6 rfl (by decide) lk_X9_101 (fun _ h9 => h9) dX9_piece_166 (by omega) RE_0 rfl ?_
                    rw [up_self]
                    refine r_const hx hb dX9_piece_169 ?_
                    refine r_sub hx hb dX9_piece_170 ?_
                    exact k_iret hx hb hr hlocks hP hS dX9_piece_171 ⟨by rw [aPiece, cif_t hv, cif_t hlt]; omega, τ, by rw [e2], hRT⟩
                  · have hlt : ¬ σ 0 0 < 40 := by omega
                    have e2 : sPiece σ e l0 r m1 t = σ := by rw [sPiece, cif_f (fun q => hlt q.2)]
                    refine r_bipush hx hb dX9_piece_84 (by decide +kernel) ?_
                    exact k_iret hx hb hr hlocks hP hS dX9_piece_86 ⟨by rw [aPiece, cif_t hv, cif_f hlt], τ, by rw [e2], by rw [e2]; exact hT⟩
                · rw [← hWg]
                  exact join73  _ _ _ hP hS (lv_sub hl [0] rfl) (fun q => c70 q.2.2.2.2)
abbrev rmX9_pair : Room := { frames := 1, cells := 0, slots := 0, locals := 22 }
set_option maxRecDepth 100000 in
set_option maxHeartbeats 4000000 in
theorem c_X9_pair {l : Launch} {D : va_G} {G : Nat → ClassId} {ad : Nat → Nat} {σ τ : Tb} (hi : kInj 27 ad) {a b m1 : Int} (hI : InvS σ) (hT : RT σ τ) (ha : (-2147483648 ≤ a ∧ a < 2147483648)) (hb0 : (-2147483648 ≤ b ∧ b < 2147483648)) (hm1 : (-2147483648 ≤ m1 ∧ m1 < 2147483648)) : Met l yX9_pair wsX9_pair rmX9_pair (kPc D (tysG G) 27 ad (RE G ad σ τ) [.ref (ad 0), .int (iI a), .int (iI b), .int (iI m1)]) (kQi D 27 ad (fun z E' => z = aPair σ a b m1 ∧ ∃ τ', E' = RE G ad (sPair σ a b m1) τ' ∧ RT (sPair σ a b m1) τ')) 0 0 (kA 27 ad) := by
  refine k_met (cc := cX9_pair) (maxL := 4) (ret := (some .int)) (by decide) (Nat.le_of_ble_eq_true rfl) ?_
  intro P0 e0 s m0 below meth c0 ls hx hb hr hlocks hml hown hts hK hP hS hl
  replace hl : lv_has ls 4 [(0, _), (1, _), (2, _), (3, _)] := hl
  replace hown : s.vm.findClass RX9 = some m0.cls := hown
  refine k_abs (fun Wg hWg => ?_)
  have h0 := Inv_0 hI.1
  have join36 : ∀  (H : Heap) (locs : List Loc) (ls : Array Slot), va_P D vwCl (kw 27 ad (RE G ad σ τ)) H → va_S (kA 27 ad) s.heap H locs → lv_has ls 4 [(0, .ref (ad 0))] → (¬ vR a b m1) → Wg H locs (F0 m0 36 ls []) := by
    intro  H locs ls hP hS hl hv36
    rw [hWg]
    have e2 : sPair σ a b m1 = σ := by rw [sPair, cif_f (fun q => hv36 q.1)]
    refine r_const hx hb dX9_pair_36 ?_
    exact k_iret hx hb hr hlocks hP hS dX9_pair_37 ⟨by rw [aPair, cif_f hv36], τ, by rw [e2], by rw [e2]; exact hT⟩
  refine lv_iload_n hx hb dX9_pair_0 rfl (lv_at hl 1 rfl) ?_
  refine r_const hx hb dX9_pair_1 ?_
  refine r_bipush hx hb dX9_pair_2 (by decide +kernel) ?_
  refine k_calliS (nL := 4) hx hb hml hown hts hK hP hS hl.1 (c_X9_within hi ha (by omega) (by omega)) rfl (Nat.le_of_ble_eq_true rfl) (va_cwS 3 hts (gS lm_X9_97 ts_X9_within tn_X9 tc_X9_within) rfl rfl rfl (by decide +kernel) ⟨Nat.le_of_ble_eq_true rfl, Nat.le_of_ble_eq_true rfl⟩) rfl dX9_pair_4 ⟨Nat.zero_le _, Nat.zero_le _⟩ (fun r4 E1 H locs hq hP hS => ?_)
  obtain ⟨rfl, rfl⟩ := hq
  refine r_ifB_eq (tgt := 36) hx hb dX9_pair_7 (by decide) (fun c7 => ?_) (fun c7 => ?_)
  · rw [← hWg]
    exact join36  _ _ _ hP hS (lv_sub hl [0] rfl) (fun q => c7 q.1)
  · refine lv_iload_n hx hb dX9_pair_10 rfl (lv_at hl 2 rfl) ?_
    refine r_const hx hb dX9_pair_11 ?_
    refine r_bipush hx hb dX9_pair_12 (by decide +kernel) ?_
    refine k_calliS (nL := 4) hx hb hml hown hts hK hP hS hl.1 (c_X9_within hi hb0 (by omega) (by omega)) rfl (Nat.le_of_ble_eq_true rfl) (va_cwS 3 hts (gS lm_X9_97 ts_X9_within tn_X9 tc_X9_within) rfl rfl rfl (by decide +kernel) ⟨Nat.le_of_ble_eq_true rfl, Nat.le_of_ble_eq_true rfl⟩) rfl dX9_pair_14 ⟨Nat.zero_le _, Nat.zero_le _⟩ (fun r14 E1 H locs hq hP hS => ?_)
    obtain ⟨rfl, rfl⟩ := hq
    refine r_ifB_eq (tgt := 36) hx hb dX9_pair_17 (by decide) (fun c17 => ?_) (fun c17 => ?_)
    · rw [← hWg]
      exact join36  _ _ _ hP hS (lv_sub hl [0] rfl) (fun q => c17 q.2.1)
    · refine lv_iload_n hx hb dX9_pair_20 rfl (lv_at hl 1 rfl) ?_
      refine lv_iload_n hx hb dX9_pair_21 rfl (lv_at hl 2 rfl) ?_
      refine r_icmp_eq (tgt := 36) hx hb (by omega) (by omega) dX9_pair_22 (by decide) (fun c22 => ?_) (fun c22 => ?_)
      · rw [← hWg]
        exact join36  _ _ _ hP hS (lv_sub hl [0] rfl) (fun q => q.2.2.1 c22)
      · refine lv_iload_n hx hb dX9_pair_25 rfl (lv_at hl 3 rfl) ?_
        refine r_const hx hb dX9_pair_26 ?_
        refine r_sipush hx hb dX9_pair_27 (by decide +kernel) ?_
        refine k_calliS (nL := 4) hx hb hml hown hts hK hP hS hl.1 (c_X9_within hi hm1 (by omega) (by omega)) rfl (Nat.le_of_ble_eq_true rfl) (va_cwS 3 hts (gS lm_X9_97 ts_X9_within tn_X9 tc_X9_within) rfl rfl rfl (by decide +kernel) ⟨Nat.le_of_ble_eq_true rfl, Nat.le_of_ble_eq_true rfl⟩) rfl dX9_pair_30 ⟨Nat.zero_le _, Nat.zero_le _⟩ (fun r30 E1 H locs hq hP hS => ?_)
        obtain ⟨rfl, rfl⟩ := hq
        refine r_ifB_ne (tgt := 38) hx hb dX9_pair_33 (by decide) (fun c33 => ?_) (fun c33 => ?_)
        · have hv : vR a b m1 := ⟨c7, c17, c22, c33⟩
          refine lv_aload_n hx hb dX9_pair_38 rfl (lv_at hl 0 rfl) ?_
          refine r_get (C := RX9) (T := TX9) (N := 34) (ci := 9) hx hb hts hi_X9 hown hK hP 10 rfl (by decide) lk_X9_104 (fun _ h9 => h9) dX9_pair_39 (by omega) RE_0 rfl ?_
          refine r_bipush hx hb dX9_pair_42 (by decide +kernel) ?_
          refine r_icmp_ne (tgt := 50) hx hb (by omega) (by omega) dX9_pair_44 (by decide) (fun c44 => ?_) (fun c44 => ?_)
          · have hlt : σ 0 1 < 8 := by omega
            have e2 : sPair σ a b m1 = up (up (up (up σ 7 (σ 0 1) a) 8 (σ 0 1) b) 9 (σ 0 1) m1) 0 1 (σ 0 1 + 1) := by rw [sPair, cif_t ⟨hv, hlt⟩]
            have hRT : RT (sPair σ a b m1) τ := by
              rw [e2]
              exact RT_u0 (Or.inr rfl) (RT_ut (by decide) (RT_ut (by decide) (RT_ut (by decide) hT)))
            refine lv_aload_n hx hb dX9_pair_50 rfl (lv_at hl 0 rfl) ?_
            refine r_get (C := RX9) (T := TX9) (N := 34) (ci := 9) hx hb hts hi_X9 hown hK hP 7 rfl (by decide) lk_X9_28 (fun _ h9 => h9) dX9_pair_51 (by omega) RE_0 rfl ?_
            refine lv_aload_n hx hb dX9_pair_54 rfl (lv_at hl 0 rfl) ?_
            refine r_get (C := RX9) (T := TX9) (N := 34) (ci := 9) hx hb hts hi_X9 hown hK hP 10 rfl (by decide) lk_X9_104 (fun _ h9 => h9) dX9_pair_55 (by omega) RE_0 rfl ?_
            refine lv_iload_n hx hb dX9_pair_58 rfl (lv_at hl 1 rfl) ?_
            refine r_iast hx hb hi hK hP hS 0 rfl dX9_pair_59 (by omega) rfl (by omega) (by omega) (ru_pairA (by omega)) (fun H locs hP hS => ?_)
            refine lv_aload_n hx hb dX9_pair_60 rfl (lv_at hl 0 rfl) ?_
            refine r_get (C := RX9) (T := TX9) (N := 34) (ci := 9) hx hb hts hi_X9 hown hK hP 8 rfl (by decide) lk_X9_31 (fun _ h9 => h9) dX9_pair_61 (by omega) RE_0 rfl ?_
            refine lv_aload_n hx hb dX9_pair_64 rfl (lv_at hl 0 rfl) ?_
            refine r_get (C := RX9) (T := TX9) (N := 34) (ci := 9) hx hb hts hi_X9 hown hK hP 10 rfl (by decide) lk_X9_104 (fun _ h9 => h9) dX9_pair_65 (by omega) RE_0 rfl ?_
            rw [up_t (by decide)]
            refine lv_iload_n hx hb dX9_pair_68 rfl (lv_at hl 2 rfl) ?_
            refine r_iast hx hb hi hK hP hS 0 rfl dX9_pair_69 (by omega) rfl (by omega) (by omega) (ru_pairB (by omega)) (fun H locs hP hS => ?_)
            refine lv_aload_n hx hb dX9_pair_70 rfl (lv_at hl 0 rfl) ?_
            refine r_get (C := RX9) (T := TX9) (N := 34) (ci := 9) hx hb hts hi_X9 hown hK hP 9 rfl (by decide) lk_X9_34 (fun _ h9 => h9) dX9_pair_71 (by omega) RE_0 rfl ?_
            refine lv_aload_n hx hb dX9_pair_74 rfl (lv_at hl 0 rfl) ?_
            refine r_get (C := RX9) (T := TX9) (N := 34) (ci := 9) hx hb hts hi_X9 hown hK hP 10 rfl (by decide) lk_X9_104 (fun _ h9 => h9) dX9_pair_75 (by omega) RE_0 rfl ?_
            rw [up_t (by decide), up_t (by decide)]
            refine lv_iload_n hx hb dX9_pair_78 rfl (lv_at hl 3 rfl) ?_
            refine r_iast hx hb hi hK hP hS 0 rfl dX9_pair_79 (by omega) rfl (by omega) (by omega) (ru_limit (by omega)) (fun H locs hP hS => ?_)
            refine lv_aload_n hx hb dX9_pair_80 rfl (lv_at hl 0 rfl) ?_
            refine lv_dup hx hb dX9_pair_81 rfl ?_
            refine r_get (C := RX9) (T := TX9) (N := 34) (ci := 9) hx hb hts hi_X9 hown hK hP 10 rfl (by decide) lk_X9_104 (fun _ h9 => h9) dX9_pair_82 (by omega) RE_0 rfl ?_
            rw [up_t (by decide), up_t (by decide), up_t (by decide)]
            refine r_const hx hb dX9_pair_85 ?_
            refine r_add hx hb dX9_pair_86 ?_
            refine r_put (C := RX9) (T := TX9) (N := 34) (ci := 9) hx hb hi hts hi_X9 tyX9 tyX9_ok nmX9 hown hK hP hS 10 rfl (by decide) lk_X9_104 (fun _ h9 => h9) rfl (ty := .int) (by decide +kernel) rfl rfl dX9_pair_87 (by omega) RE_0 (Nat.le_of_ble_eq_true rfl) ru_pairs (fun H locs hP hS => ?_)
            refine lv_aload_n hx hb dX9_pair_90 rfl (lv_at hl 0 rfl) ?_
            refine r_get (C := RX9) (T := TX9) (N := 34) (ci := 9) hx hb hts hi_X9 hown hK hP 10 rfl (by decide) lk_X9_104 (fun _ h9 => h9) dX9_pair_91 (by omega) RE_0 rfl ?_
            rw [up_self]
            refine r_const hx hb dX9_pair_94 ?_
            refine r_sub hx hb dX9_pair_95 ?_
            exact k_iret hx hb hr hlocks hP hS dX9_pair_96 ⟨by rw [aPair, cif_t hv, cif_t hlt]; omega, τ, by rw [e2], hRT⟩
          · have hlt : ¬ σ 0 1 < 8 := by omega
            have e2 : sPair σ a b m1 = σ := by rw [sPair, cif_f (fun q => hlt q.2)]
            refine r_bipush hx hb dX9_pair_47 (by decide +kernel) ?_
            exact k_iret hx hb hr hlocks hP hS dX9_pair_49 ⟨by rw [aPair, cif_t hv, cif_f hlt], τ, by rw [e2], by rw [e2]; exact hT⟩
        · rw [← hWg]
          exact join36  _ _ _ hP hS (lv_sub hl [0] rfl) (fun q => c33 q.2.2.2)
abbrev rmX9_feast : Room := { frames := 1, cells := 0, slots := 0, locals := 22 }
set_option maxRecDepth 100000 in
set_option maxHeartbeats 4000000 in
theorem c_X9_feast {l : Launch} {D : va_G} {G : Nat → ClassId} {ad : Nat → Nat} {σ τ : Tb} (hi : kInj 27 ad) {d i : Int} (hI : InvS σ) (hT : RT σ τ) (hd : (-2147483648 ≤ d ∧ d < 2147483648)) (hi0 : (-2147483648 ≤ i ∧ i < 2147483648)) : Met l yX9_feast wsX9_feast rmX9_feast (kPc D (tysG G) 27 ad (RE G ad σ τ) [.ref (ad 0), .int (iI d), .int (iI i)]) (kQi D 27 ad (fun z E' => z = aFeast σ d i ∧ ∃ τ', E' = RE G ad (sFeast σ d i) τ' ∧ RT (sFeast σ d i) τ')) 0 0 (kA 27 ad) := by
  refine k_met (cc := cX9_feast) (maxL := 4) (ret := (some .int)) (by decide) (Nat.le_of_ble_eq_true rfl) ?_
  intro P0 e0 s m0 below meth c0 ls hx hb hr hlocks hml hown hts hK hP hS hl
  replace hl : lv_has ls 4 [(0, _), (1, _), (2, _)] := hl
  replace hown : s.vm.findClass RX9 = some m0.cls := hown
  refine k_abs (fun Wg hWg => ?_)
  have h0 := Inv_0 hI.1
  have join20 : ∀  (H : Heap) (locs : List Loc) (ls : Array Slot), va_P D vwCl (kw 27 ad (RE G ad σ τ)) H → va_S (kA 27 ad) s.heap H locs → lv_has ls 4 [(0, .ref (ad 0))] → (¬ vF d i) → Wg H locs (F0 m0 20 ls []) := by
    intro  H locs ls hP hS hl hv20
    rw [hWg]
    have e2 : sFeast σ d i = σ := by rw [sFeast, cif_f hv20]
    refine r_const hx hb dX9_feast_20 ?_
    exact k_iret hx hb hr hlocks hP hS dX9_feast_21 ⟨by rw [aFeast, cif_f hv20], τ, by rw [e2], by rw [e2]; exact hT⟩
  refine lv_iload_n hx hb dX9_feast_0 rfl (lv_at hl 1 rfl) ?_
  refine r_const hx hb dX9_feast_1 ?_
  refine r_sipush hx hb dX9_feast_2 (by decide +kernel) ?_
  refine k_calliS (nL := 4) hx hb hml hown hts hK hP hS hl.1 (c_X9_within hi hd (by omega) (by omega)) rfl (Nat.le_of_ble_eq_true rfl) (va_cwS 3 hts (gS lm_X9_97 ts_X9_within tn_X9 tc_X9_within) rfl rfl rfl (by decide +kernel) ⟨Nat.le_of_ble_eq_true rfl, Nat.le_of_ble_eq_true rfl⟩) rfl dX9_feast_5 ⟨Nat.zero_le _, Nat.zero_le _⟩ (fun r5 E1 H locs hq hP hS => ?_)
  obtain ⟨rfl, rfl⟩ := hq
  refine r_ifB_eq (tgt := 20) hx hb dX9_feast_8 (by decide) (fun c8 => ?_) (fun c8 => ?_)
  · rw [← hWg]
    exact join20  _ _ _ hP hS (lv_sub hl [0] rfl) (fun q => c8 q.1)
  · refine lv_iload_n hx hb dX9_feast_11 rfl (lv_at hl 2 rfl) ?_
    refine r_const hx hb dX9_feast_12 ?_
    refine r_const hx hb dX9_feast_13 ?_
    refine k_calliS (nL := 4) hx hb hml hown hts hK hP hS hl.1 (c_X9_within hi hi0 (by omega) (by omega)) rfl (Nat.le_of_ble_eq_true rfl) (va_cwS 3 hts (gS lm_X9_97 ts_X9_within tn_X9 tc_X9_within) rfl rfl rfl (by decide +kernel) ⟨Nat.le_of_ble_eq_true rfl, Nat.le_of_ble_eq_true rfl⟩) rfl dX9_feast_14 ⟨Nat.zero_le _, Nat.zero_le _⟩ (fun r14 E1 H locs hq hP hS => ?_)
    obtain ⟨rfl, rfl⟩ := hq
    refine r_ifB_ne (tgt := 22) hx hb dX9_feast_17 (by decide) (fun c17 => ?_) (fun c17 => ?_)
    · have hv : vF d i := ⟨c8, c17⟩
      have hf := Inv_f hI.1 (d := d) (by omega)
      have e2 : sFeast σ d i = up σ 10 d i := by rw [sFeast, cif_t hv]
      have hRT : RT (sFeast σ d i) τ := by rw [e2]; exact RT_ut (by decide) hT
      have join36 : ∀ (x : Int) (H : Heap) (locs : List Loc) (ls : Array Slot), va_P D vwCl (kw 27 ad (RE G ad σ τ)) H → va_S (kA 27 ad) s.heap H locs → lv_has ls 4 [(0, .ref (ad 0)), (1, .int (iI d)), (2, .int (iI i))] → (x = σ 10 d) → Wg H locs (F0 m0 36 ls [.int (iI x)]) := by
        intro x H locs ls hP hS hl hv36
        rw [hWg]
        refine lv_istore_n hx hb dX9_feast_36 rfl hl (by decide) rfl (fun ls hl => ?_)
        replace hl : lv_has ls 4 [(0, _), (1, _), (2, _), (3, _)] := lv_sub hl [1, 2, 3, 0] rfl
        refine lv_aload_n hx hb dX9_feast_37 rfl (lv_at hl 0 rfl) ?_
        refine r_get (C := RX9) (T := TX9) (N := 34) (ci := 9) hx hb hts hi_X9 hown hK hP 11 rfl (by decide) lk_X9_37 (fun _ h9 => h9) dX9_feast_38 (by omega) RE_0 rfl ?_
        refine lv_iload_n hx hb dX9_feast_41 rfl (lv_at hl 1 rfl) ?_
        refine lv_iload_n hx hb dX9_feast_42 rfl (lv_at hl 2 rfl) ?_
        refine r_const hx hb dX9_feast_43 ?_
        refine r_icmp_ne (tgt := 51) hx hb (by omega) (by omega) dX9_feast_44 (by decide) (fun c44 => ?_) (fun c44 => ?_)
        · obtain rfl : i = 0 := by omega
          refine r_const hx hb dX9_feast_51 ?_
          refine r_zast hx hb hi hK hP hS 2 rfl dX9_feast_52 (by omega) rfl (by omega) (by omega) (by omega) (ru_feast (by omega)) (fun H locs hP hS => ?_)
          refine lv_iload_n hx hb dX9_feast_53 rfl (lv_at hl 3 rfl) ?_
          exact k_iret hx hb hr hlocks hP hS dX9_feast_54 ⟨by rw [aFeast, cif_t hv, hv36], τ, by rw [e2], hRT⟩
        · obtain rfl : i = 1 := by omega
          refine r_const hx hb dX9_feast_47 ?_
          refine lv_goto (tgt := 52) hx hb dX9_feast_48 (by decide) ?_
          refine r_zast hx hb hi hK hP hS 2 rfl dX9_feast_52 (by omega) rfl (by omega) (by omega) (by omega) (ru_feast (by omega)) (fun H locs hP hS => ?_)
          refine lv_iload_n hx hb dX9_feast_53 rfl (lv_at hl 3 rfl) ?_
          exact k_iret hx hb hr hlocks hP hS dX9_feast_54 ⟨by rw [aFeast, cif_t hv, hv36], τ, by rw [e2], hRT⟩
      refine lv_aload_n hx hb dX9_feast_22 rfl (lv_at hl 0 rfl) ?_
      refine r_get (C := RX9) (T := TX9) (N := 34) (ci := 9) hx hb hts hi_X9 hown hK hP 11 rfl (by decide) lk_X9_37 (fun _ h9 => h9) dX9_feast_23 (by omega) RE_0 rfl ?_
      refine lv_iload_n hx hb dX9_feast_26 rfl (lv_at hl 1 rfl) ?_
      refine r_zald hx hb hK hP 2 rfl dX9_feast_27 (by omega) rfl (by omega) (by omega) (tI_at (by omega)) ?_
      refine r_if_eq (tgt := 35) hx hb (by omega) dX9_feast_28 (by decide) (fun c28 => ?_) (fun c28 => ?_)
      · refine r_const hx hb dX9_feast_35 ?_
        rw [← hWg]
        exact join36 0 _ _ _ hP hS hl (by omega)
      · refine r_const hx hb dX9_feast_31 ?_
        refine lv_goto (tgt := 36) hx hb dX9_feast_32 (by decide) ?_
        rw [← hWg]
        exact join36 1 _ _ _ hP hS hl (by omega)
    · rw [← hWg]
      exact join20  _ _ _ hP hS (lv_sub hl [0] rfl) (fun q => c17 q.2)
abbrev rmX9_work : Room := { frames := 1, cells := 0, slots := 0, locals := 22 }
set_option maxRecDepth 100000 in
set_option maxHeartbeats 4000000 in
theorem c_X9_work {l : Launch} {D : va_G} {G : Nat → ClassId} {ad : Nat → Nat} {σ τ : Tb} (hi : kInj 27 ad) {a b p : Int} (hI : InvS σ) (hT : RT σ τ) (ha : (-2147483648 ≤ a ∧ a < 2147483648)) (hb0 : (-2147483648 ≤ b ∧ b < 2147483648)) (hp : (-2147483648 ≤ p ∧ p < 2147483648)) : Met l yX9_work wsX9_work rmX9_work (kPc D (tysG G) 27 ad (RE G ad σ τ) [.ref (ad 0), .int (iI a), .int (iI b), .int (iI p)]) (kQi D 27 ad (fun z E' => z = aWork σ a b p ∧ ∃ τ', E' = RE G ad (sWork σ a b p) τ' ∧ RT (sWork σ a b p) τ')) 0 0 (kA 27 ad) := by
  refine k_met (cc := cX9_work) (maxL := 5) (ret := (some .int)) (by decide) (Nat.le_of_ble_eq_true rfl) ?_
  intro P0 e0 s m0 below meth c0 ls hx hb hr hlocks hml hown hts hK hP hS hl
  replace hl : lv_has ls 5 [(0, _), (1, _), (2, _), (3, _)] := hl
  replace hown : s.vm.findClass RX9 = some m0.cls := hown
  refine k_abs (fun Wg hWg => ?_)
  have h0 := Inv_0 hI.1
  obtain ⟨hR2, hR3, hR4⟩ := hT.1
  have join103 : ∀  (H : Heap) (locs : List Loc) (ls : Array Slot), va_P D vwCl (kw 27 ad (RE G ad σ τ)) H → va_S (kA 27 ad) s.heap H locs → lv_has ls 5 [(0, .ref (ad 0))] → (¬ vW σ a b p) → Wg H locs (F0 m0 103 ls []) := by
    intro  H locs ls hP hS hl hv103
    rw [hWg]
    have e2 : sWork σ a b p = σ := by rw [sWork, cif_f (fun q => hv103 q.1)]
    refine r_const hx hb dX9_work_103 ?_
    exact k_iret hx hb hr hlocks hP hS dX9_work_104 ⟨by rw [aWork, cif_f hv103], τ, by rw [e2], by rw [e2]; exact hT⟩
  refine lv_iload_n hx hb dX9_work_0 rfl (lv_at hl 1 rfl) ?_
  refine r_if_lt (tgt := 103) hx hb (by omega) dX9_work_1 (by decide) (fun c1 => ?_) (fun c1 => ?_)
  · rw [← hWg]
    exact join103  _ _ _ hP hS (lv_sub hl [0] rfl) (fun q => by unfold vW at q; omega)
  · refine lv_iload_n hx hb dX9_work_4 rfl (lv_at hl 2 rfl) ?_
    refine r_if_lt (tgt := 103) hx hb (by omega) dX9_work_5 (by decide) (fun c5 => ?_) (fun c5 => ?_)
    · rw [← hWg]
      exact join103  _ _ _ hP hS (lv_sub hl [0] rfl) (fun q => by unfold vW at q; omega)
    · refine lv_iload_n hx hb dX9_work_8 rfl (lv_at hl 1 rfl) ?_
      refine r_sipush hx hb dX9_work_9 (by decide +kernel) ?_
      refine r_div hx hb (by omega) (by omega) dX9_work_12 ?_
      refine r_const hx hb dX9_work_13 ?_
      refine r_bipush hx hb dX9_work_14 (by decide +kernel) ?_
      refine k_calliS (nL := 5) hx hb hml hown hts hK hP hS hl.1 (c_X9_within hi (by omega) (by omega) (by omega)) rfl (Nat.le_of_ble_eq_true rfl) (va_cwS 3 hts (gS lm_X9_97 ts_X9_within tn_X9 tc_X9_within) rfl rfl rfl (by decide +kernel) ⟨Nat.le_of_ble_eq_true rfl, Nat.le_of_ble_eq_true rfl⟩) rfl dX9_work_16 ⟨Nat.zero_le _, Nat.zero_le _⟩ (fun r16 E1 H locs hq hP hS => ?_)
      obtain ⟨rfl, rfl⟩ := hq
      refine r_ifB_eq (tgt := 103) hx hb dX9_work_19 (by decide) (fun c19 => ?_) (fun c19 => ?_)
      · rw [← hWg]
        exact join103  _ _ _ hP hS (lv_sub hl [0] rfl) (fun q => by unfold vW at q; omega)
      · refine lv_iload_n hx hb dX9_work_22 rfl (lv_at hl 1 rfl) ?_
        refine r_sipush hx hb dX9_work_23 (by decide +kernel) ?_
        refine r_div hx hb (by omega) (by omega) dX9_work_26 ?_
        refine r_bipush hx hb dX9_work_27 (by decide +kernel) ?_
        refine r_rem hx hb (by omega) (by omega) dX9_work_29 ?_
        refine r_const hx hb dX9_work_30 ?_
        refine r_const hx hb dX9_work_31 ?_
        refine k_calliS (nL := 5) hx hb hml hown hts hK hP hS hl.1 (c_X9_within hi (by omega) (by omega) (by omega)) rfl (Nat.le_of_ble_eq_true rfl) (va_cwS 3 hts (gS lm_X9_97 ts_X9_within tn_X9 tc_X9_within) rfl rfl rfl (by decide +kernel) ⟨Nat.le_of_ble_eq_true rfl, Nat.le_of_ble_eq_true rfl⟩) rfl dX9_work_32 ⟨Nat.zero_le _, Nat.zero_le _⟩ (fun r32 E1 H locs hq hP hS => ?_)
        obtain ⟨rfl, rfl⟩ := hq
        refine r_ifB_eq (tgt := 103) hx hb dX9_work_35 (by decide) (fun c35 => ?_) (fun c35 => ?_)
        · rw [← hWg]
          exact join103  _ _ _ hP hS (lv_sub hl [0] rfl) (fun q => by unfold vW at q; omega)
        · refine lv_iload_n hx hb dX9_work_38 rfl (lv_at hl 1 rfl) ?_
          refine r_bipush hx hb dX9_work_39 (by decide +kernel) ?_
          refine r_div hx hb (by omega) (by omega) dX9_work_41 ?_
          refine r_bipush hx hb dX9_work_42 (by decide +kernel) ?_
          refine r_rem hx hb (by omega) (by omega) dX9_work_44 ?_
          refine r_const hx hb dX9_work_45 ?_
          refine r_const hx hb dX9_work_46 ?_
          refine k_calliS (nL := 5) hx hb hml hown hts hK hP hS hl.1 (c_X9_within hi (by omega) (by omega) (by omega)) rfl (Nat.le_of_ble_eq_true rfl) (va_cwS 3 hts (gS lm_X9_97 ts_X9_within tn_X9 tc_X9_within) rfl rfl rfl (by decide +kernel) ⟨Nat.le_of_ble_eq_true rfl, Nat.le_of_ble_eq_true rfl⟩) rfl dX9_work_47 ⟨Nat.zero_le _, Nat.zero_le _⟩ (fun r47 E1 H locs hq hP hS => ?_)
          obtain ⟨rfl, rfl⟩ := hq
          refine r_ifB_eq (tgt := 103) hx hb dX9_work_50 (by decide) (fun c50 => ?_) (fun c50 => ?_)
          · rw [← hWg]
            exact join103  _ _ _ hP hS (lv_sub hl [0] rfl) (fun q => by unfold vW at q; omega)
          · refine lv_iload_n hx hb dX9_work_53 rfl (lv_at hl 1 rfl) ?_
            refine r_bipush hx hb dX9_work_54 (by decide +kernel) ?_
            refine r_rem hx hb (by omega) (by omega) dX9_work_56 ?_
            refine r_const hx hb dX9_work_57 ?_
            refine r_bipush hx hb dX9_work_58 (by decide +kernel) ?_
            refine k_calliS (nL := 5) hx hb hml hown hts hK hP hS hl.1 (c_X9_within hi (by omega) (by omega) (by omega)) rfl (Nat.le_of_ble_eq_true rfl) (va_cwS 3 hts (gS lm_X9_97 ts_X9_within tn_X9 tc_X9_within) rfl rfl rfl (by decide +kernel) ⟨Nat.le_of_ble_eq_true rfl, Nat.le_of_ble_eq_true rfl⟩) rfl dX9_work_60 ⟨Nat.zero_le _, Nat.zero_le _⟩ (fun r60 E1 H locs hq hP hS => ?_)
            obtain ⟨rfl, rfl⟩ := hq
            refine r_ifB_eq (tgt := 103) hx hb dX9_work_63 (by decide) (fun c63 => ?_) (fun c63 => ?_)
            · rw [← hWg]
              exact join103  _ _ _ hP hS (lv_sub hl [0] rfl) (fun q => by unfold vW at q; omega)
            · refine lv_iload_n hx hb dX9_work_66 rfl (lv_at hl 2 rfl) ?_
              refine r_sipush hx hb dX9_work_67 (by decide +kernel) ?_
              refine r_div hx hb (by omega) (by omega) dX9_work_70 ?_
              refine r_const hx hb dX9_work_71 ?_
              refine r_bipush hx hb dX9_work_72 (by decide +kernel) ?_
              refine k_calliS (nL := 5) hx hb hml hown hts hK hP hS hl.1 (c_X9_within hi (by omega) (by omega) (by omega)) rfl (Nat.le_of_ble_eq_true rfl) (va_cwS 3 hts (gS lm_X9_97 ts_X9_within tn_X9 tc_X9_within) rfl rfl rfl (by decide +kernel) ⟨Nat.le_of_ble_eq_true rfl, Nat.le_of_ble_eq_true rfl⟩) rfl dX9_work_74 ⟨Nat.zero_le _, Nat.zero_le _⟩ (fun r74 E1 H locs hq hP hS => ?_)
              obtain ⟨rfl, rfl⟩ := hq
              refine r_ifB_eq (tgt := 103) hx hb dX9_work_77 (by decide) (fun c77 => ?_) (fun c77 => ?_)
              · rw [← hWg]
                exact join103  _ _ _ hP hS (lv_sub hl [0] rfl) (fun q => by unfold vW at q; omega)
              · refine lv_iload_n hx hb dX9_work_80 rfl (lv_at hl 2 rfl) ?_
                refine r_sipush hx hb dX9_work_81 (by decide +kernel) ?_
                refine r_rem hx hb (by omega) (by omega) dX9_work_84 ?_
                refine r_const hx hb dX9_work_85 ?_
                refine r_sipush hx hb dX9_work_86 (by decide +kernel) ?_
                refine k_calliS (nL := 5) hx hb hml hown hts hK hP hS hl.1 (c_X9_within hi (by omega) (by omega) (by omega)) rfl (Nat.le_of_ble_eq_true rfl) (va_cwS 3 hts (gS lm_X9_97 ts_X9_within tn_X9 tc_X9_within) rfl rfl rfl (by decide +kernel) ⟨Nat.le_of_ble_eq_true rfl, Nat.le_of_ble_eq_true rfl⟩) rfl dX9_work_89 ⟨Nat.zero_le _, Nat.zero_le _⟩ (fun r89 E1 H locs hq hP hS => ?_)
                obtain ⟨rfl, rfl⟩ := hq
                refine r_ifB_eq (tgt := 103) hx hb dX9_work_92 (by decide) (fun c92 => ?_) (fun c92 => ?_)
                · rw [← hWg]
                  exact join103  _ _ _ hP hS (lv_sub hl [0] rfl) (fun q => by unfold vW at q; omega)
                · refine lv_aload_n hx hb dX9_work_95 rfl (lv_at hl 0 rfl) ?_
                  refine lv_iload_n hx hb dX9_work_96 rfl (lv_at hl 3 rfl) ?_
                  refine k_calliV (nL := 5) (C := RX9) (T := TX9) (N := 34) (ci := 9) hx hb hml hown hts hK hP hS hl.1 (c_X9_isPiece hi hI.1 hp) rfl (Nat.le_of_ble_eq_true rfl) rfl (cwV 1 hts (gV lm_X9_110 ti_X9_isPiece tl_X9_isPiece tn_X9 tc_X9_isPiece) rfl rfl rfl (by decide +kernel) ⟨Nat.le_of_ble_eq_true rfl, Nat.le_of_ble_eq_true rfl⟩) rfl dX9_work_97 ⟨Nat.zero_le _, Nat.zero_le _⟩ (by omega) RE_0 (fun r97 E1 H locs hq hP hS => ?_)
                  obtain ⟨rfl, rfl⟩ := hq
                  refine r_ifB_ne (tgt := 105) hx hb dX9_work_100 (by decide) (fun c100 => ?_) (fun c100 => ?_)
                  · have hv : vW σ a b p := by unfold vW; omega
                    refine lv_aload_n hx hb dX9_work_105 rfl (lv_at hl 0 rfl) ?_
                    refine r_get (C := RX9) (T := TX9) (N := 34) (ci := 9) hx hb hts hi_X9 hown hK hP 28 rfl (by decide) lk_X9_107 (fun _ h9 => h9) dX9_work_106 (by omega) RE_0 rfl ?_
                    refine r_bipush hx hb dX9_work_109 (by decide +kernel) ?_
                    refine r_icmp_ne (tgt := 117) hx hb (by omega) (by omega) dX9_work_111 (by decide) (fun c111 => ?_) (fun c111 => ?_)
                    · have hlt : σ 0 2 < 60 := by omega
                      have hDD : ID σ (σ 0 2) := hI.1.2.2.2.2.2 _ (by omega) (by omega)
                      obtain ⟨d17, d18, d19, d20, d21, d22, d23, d24⟩ := id hDD
                      have hins := nW_ins (a := a) (b := b) (p := p) hDD
                      have n20 : up (up (nW σ (σ 0 2) a b) 17 (σ 0 2) ((2 ^ p.toNat : Nat) : Int)) 18 (σ 0 2) 1 20 (σ 0 2) = -1 := by rw [up_t (by decide), up_t (by decide), nW_o (by right; omega)]; exact d20
                      have n21 : up (up (nW σ (σ 0 2) a b) 17 (σ 0 2) ((2 ^ p.toNat : Nat) : Int)) 18 (σ 0 2) 1 21 (σ 0 2) = -1 := by rw [up_t (by decide), up_t (by decide), nW_o (by right; omega)]; exact d21
                      have n23 : up (up (nW σ (σ 0 2) a b) 17 (σ 0 2) ((2 ^ p.toNat : Nat) : Int)) 18 (σ 0 2) 1 23 (σ 0 2) = -1 := by rw [up_t (by decide), up_t (by decide), nW_o (by right; omega)]; exact d23
                      have n02 : ∀ i, up (up (nW σ (σ 0 2) a b) 17 (σ 0 2) ((2 ^ p.toNat : Nat) : Int)) 18 (σ 0 2) 1 0 i = σ 0 i := fun i => by rw [up_t (by decide), up_t (by decide), nW_o (by right; omega)]
                      have m17 : nW σ (σ 0 2) a b 17 (σ 0 2) = 0 := (nW_o (by right; omega)).trans d17
                      have m18 : nW σ (σ 0 2) a b 18 (σ 0 2) = 0 := (nW_o (by right; omega)).trans d18
                      have hE : ∀ τ2 : Tb, RE G ad (sWork σ a b p) τ2 = RE G ad (up (up (up (nW σ (σ 0 2) a b) 17 (σ 0 2) ((2 ^ p.toNat : Nat) : Int)) 18 (σ 0 2) 1) 0 2 (σ 0 2 + 1)) τ2 := fun τ2 => RE_s (fun t i h1 h2 => by
                        rw [sWork, cif_t ⟨hv, hlt⟩, insQ_a hins, m17, m18]
                        show up _ 0 2 _ t i = up _ 0 2 _ t i
                        refine up_cg ?_
                        rw [show (0 : Int) + 1 = 1 from rfl, show (((0 : Int).toNat ||| 2 ^ p.toNat : Nat) : Int) = ((2 ^ p.toNat : Nat) : Int) by rw [show (0 : Int).toNat = 0 from rfl, Nat.zero_or]]
                        refine up_cg (up_cg ?_)
                        rw [up_t (by omega), shf_o (by omega)])
                      have hs0 : ∀ i, i ≠ 2 → sWork σ a b p 0 i = σ 0 i := fun i hi2 => by
                        rw [sWork, cif_t ⟨hv, hlt⟩, up_i hi2, insQ_o hins (by omega), nW_o (by right; omega)]
                      have hs2 : sWork σ a b p 0 2 = σ 0 2 + 1 := by rw [sWork, cif_t ⟨hv, hlt⟩, up_self]
                      refine lv_aload_n hx hb dX9_work_117 rfl (lv_at hl 0 rfl) ?_
                      refine r_get (C := RX9) (T := TX9) (N := 34) (ci := 9) hx hb hts hi_X9 hown hK hP 28 rfl (by decide) lk_X9_107 (fun _ h9 => h9) dX9_work_118 (by omega) RE_0 rfl ?_
                      refine lv_istore hx hb dX9_work_121 hl (by decide) rfl (fun ls hl => ?_)
                      replace hl : lv_has ls 5 [(0, _), (1, _), (2, _), (3, _), (4, _)] := lv_sub hl [1, 2, 3, 4, 0] rfl
                      refine lv_aload_n hx hb dX9_work_123 rfl (lv_at hl 0 rfl) ?_
                      refine r_get (C := RX9) (T := TX9) (N := 34) (ci := 9) hx hb hts hi_X9 hown hK hP 13 rfl (by decide) lk_X9_41 (fun _ h9 => h9) dX9_work_124 (by omega) RE_0 rfl ?_
                      refine lv_iload hx hb dX9_work_127 (lv_at hl 4 rfl) ?_
                      refine lv_iload_n hx hb dX9_work_129 rfl (lv_at hl 1 rfl) ?_
                      refine r_sipush hx hb dX9_work_130 (by decide +kernel) ?_
                      refine r_div hx hb (by omega) (by omega) dX9_work_133 ?_
                      refine r_iast hx hb hi hK hP hS 0 rfl dX9_work_134 (by omega) rfl (by omega) (by omega) (ru_house (by omega)) (fun H locs hP hS => ?_)
                      refine lv_aload_n hx hb dX9_work_135 rfl (lv_at hl 0 rfl) ?_
                      refine r_get (C := RX9) (T := TX9) (N := 34) (ci := 9) hx hb hts hi_X9 hown hK hP 14 rfl (by decide) lk_X9_44 (fun _ h9 => h9) dX9_work_136 (by omega) RE_0 rfl ?_
                      refine lv_iload hx hb dX9_work_139 (lv_at hl 4 rfl) ?_
                      refine lv_iload_n hx hb dX9_work_141 rfl (lv_at hl 1 rfl) ?_
                      refine r_sipush hx hb dX9_work_142 (by decide +kernel) ?_
                      refine r_div hx hb (by omega) (by omega) dX9_work_145 ?_
                      refine r_bipush hx hb dX9_work_146 (by decide +kernel) ?_
                      refine r_rem hx hb (by omega) (by omega) dX9_work_148 ?_
                      refine r_iast hx hb hi hK hP hS 0 rfl dX9_work_149 (by omega) rfl (by omega) (by omega) (ru_sort (by omega)) (fun H locs hP hS => ?_)
                      refine lv_aload_n hx hb dX9_work_150 rfl (lv_at hl 0 rfl) ?_
                      refine r_get (C := RX9) (T := TX9) (N := 34) (ci := 9) hx hb hts hi_X9 hown hK hP 15 rfl (by decide) lk_X9_47 (fun _ h9 => h9) dX9_work_151 (by omega) RE_0 rfl ?_
                      refine lv_iload hx hb dX9_work_154 (lv_at hl 4 rfl) ?_
                      refine lv_iload_n hx hb dX9_work_156 rfl (lv_at hl 1 rfl) ?_
                      refine r_bipush hx hb dX9_work_157 (by decide +kernel) ?_
                      refine r_div hx hb (by omega) (by omega) dX9_work_159 ?_
                      refine r_bipush hx hb dX9_work_160 (by decide +kernel) ?_
                      refine r_rem hx hb (by omega) (by omega) dX9_work_162 ?_
                      refine r_iast hx hb hi hK hP hS 0 rfl dX9_work_163 (by omega) rfl (by omega) (by omega) (ru_takes (by omega)) (fun H locs hP hS => ?_)
                      refine lv_aload_n hx hb dX9_work_164 rfl (lv_at hl 0 rfl) ?_
                      refine r_get (C := RX9) (T := TX9) (N := 34) (ci := 9) hx hb hts hi_X9 hown hK hP 16 rfl (by decide) lk_X9_50 (fun _ h9 => h9) dX9_work_165 (by omega) RE_0 rfl ?_
                      refine lv_iload hx hb dX9_work_168 (lv_at hl 4 rfl) ?_
                      refine lv_iload_n hx hb dX9_work_170 rfl (lv_at hl 1 rfl) ?_
                      refine r_bipush hx hb dX9_work_171 (by decide +kernel) ?_
                      refine r_rem hx hb (by omega) (by omega) dX9_work_173 ?_
                      refine r_iast hx hb hi hK hP hS 0 rfl dX9_work_174 (by omega) rfl (by omega) (by omega) (ru_days (by omega)) (fun H locs hP hS => ?_)
                      refine lv_aload_n hx hb dX9_work_175 rfl (lv_at hl 0 rfl) ?_
                      refine r_get (C := RX9) (T := TX9) (N := 34) (ci := 9) hx hb hts hi_X9 hown hK hP 17 rfl (by decide) lk_X9_53 (fun _ h9 => h9) dX9_work_176 (by omega) RE_0 rfl ?_
                      refine lv_iload hx hb dX9_work_179 (lv_at hl 4 rfl) ?_
                      refine lv_iload_n hx hb dX9_work_181 rfl (lv_at hl 2 rfl) ?_
                      refine r_sipush hx hb dX9_work_182 (by decide +kernel) ?_
                      refine r_div hx hb (by omega) (by omega) dX9_work_185 ?_
                      refine r_iast hx hb hi hK hP hS 0 rfl dX9_work_186 (by omega) rfl (by omega) (by omega) (ru_depth (by omega)) (fun H locs hP hS => ?_)
                      refine lv_aload_n hx hb dX9_work_187 rfl (lv_at hl 0 rfl) ?_
                      refine r_get (C := RX9) (T := TX9) (N := 34) (ci := 9) hx hb hts hi_X9 hown hK hP 18 rfl (by decide) lk_X9_56 (fun _ h9 => h9) dX9_work_188 (by omega) RE_0 rfl ?_
                      refine lv_iload hx hb dX9_work_191 (lv_at hl 4 rfl) ?_
                      refine lv_iload_n hx hb dX9_work_193 rfl (lv_at hl 2 rfl) ?_
                      refine r_sipush hx hb dX9_work_194 (by decide +kernel) ?_
                      refine r_rem hx hb (by omega) (by omega) dX9_work_197 ?_
                      refine r_iast hx hb hi hK hP hS 0 rfl dX9_work_198 (by omega) rfl (by omega) (by omega) (ru_wanted (by omega)) (fun H locs hP hS => ?_)
                      replace hP : va_P D vwCl (kw 27 ad (RE G ad (nW σ (σ 0 2) a b) τ)) H := hP
                      have k2 : σ 0 2 = up τ 1 (σ 0 2) p 0 2 := by rw [up_t (by decide)]; omega
                      have k3 : σ 0 2 = up (up τ 1 (σ 0 2) p) 0 2 (σ 0 2 + 1) 0 3 := by rw [up_i (by decide), up_t (by decide)]; omega
                      have k4 : σ 0 2 = up (up (up τ 1 (σ 0 2) p) 0 2 (σ 0 2 + 1)) 0 3 (σ 0 2 + 1) 0 4 := by rw [up_i (by decide), up_i (by decide), up_t (by decide)]; omega
                      refine lv_aload_n hx hb dX9_work_199 rfl (lv_at hl 0 rfl) ?_
                      refine r_get (C := RX9) (T := TX9) (N := 34) (ci := 9) hx hb hts hi_X9 hown hK hP 19 rfl (by decide) lk_X9_59 (fun _ h9 => h9) dX9_work_200 (by omega) RE_0 rfl ?_
                      refine lv_iload hx hb dX9_work_203 (lv_at hl 4 rfl) ?_
                      refine r_lconst1 hx hb dX9_work_205 ?_
                      refine lv_iload_n hx hb dX9_work_206 rfl (lv_at hl 3 rfl) ?_
                      refine r_lshl1 hx hb dX9_work_207 (by omega) ?_
                      refine r_last hx hb hi hK hP hS 1 rfl dX9_work_208 (by omega) rfl (by omega) (by omega) (ru_on (by omega)) (fun H locs hP hS => ?_)
                      refine lv_aload_n hx hb dX9_work_209 rfl (lv_at hl 0 rfl) ?_
                      refine r_get (C := RX9) (T := TX9) (N := 34) (ci := 9) hx hb hts hi_X9 hown hK hP 20 rfl (by decide) lk_X9_63 (fun _ h9 => h9) dX9_work_210 (by omega) RE_0 rfl ?_
                      refine lv_iload hx hb dX9_work_213 (lv_at hl 4 rfl) ?_
                      refine lv_iload_n hx hb dX9_work_215 rfl (lv_at hl 3 rfl) ?_
                      refine r_iast hx hb hi hK hP hS 0 rfl dX9_work_216 (by omega) rfl (by omega) (by omega) (ru_firstPiece (by omega)) (fun H locs hP hS => ?_)
                      refine lv_aload_n hx hb dX9_work_217 rfl (lv_at hl 0 rfl) ?_
                      refine r_get (C := RX9) (T := TX9) (N := 34) (ci := 9) hx hb hts hi_X9 hown hK hP 21 rfl (by decide) lk_X9_66 (fun _ h9 => h9) dX9_work_218 (by omega) RE_0 rfl ?_
                      refine lv_iload hx hb dX9_work_221 (lv_at hl 4 rfl) ?_
                      refine r_const hx hb dX9_work_223 ?_
                      refine r_iast hx hb hi hK hP hS 0 rfl dX9_work_224 (by omega) rfl (by omega) (by omega) (ru_pieceMany (by omega)) (fun H locs hP hS => ?_)
                      refine lv_aload_n hx hb dX9_work_225 rfl (lv_at hl 0 rfl) ?_
                      refine r_get (C := RX9) (T := TX9) (N := 34) (ci := 9) hx hb hts hi_X9 hown hK hP 23 rfl (by decide) lk_X9_72 (fun _ h9 => h9) dX9_work_226 (by omega) RE_0 rfl ?_
                      refine lv_iload hx hb dX9_work_229 (lv_at hl 4 rfl) ?_
                      refine r_const hx hb dX9_work_231 ?_
                      refine r_iast hx hb hi hK hP hS 0 rfl dX9_work_232 (by omega) rfl (by omega) (by omega) (rn_begins (by omega) k2 n20) (fun H locs hP hS => ?_)
                      refine lv_aload_n hx hb dX9_work_233 rfl (lv_at hl 0 rfl) ?_
                      refine r_get (C := RX9) (T := TX9) (N := 34) (ci := 9) hx hb hts hi_X9 hown hK hP 24 rfl (by decide) lk_X9_75 (fun _ h9 => h9) dX9_work_234 (by omega) RE_0 rfl ?_
                      refine lv_iload hx hb dX9_work_237 (lv_at hl 4 rfl) ?_
                      refine r_const hx hb dX9_work_239 ?_
                      refine r_iast hx hb hi hK hP hS 0 rfl dX9_work_240 (by omega) rfl (by omega) (by omega) (rn_ends (by omega) k3 n21) (fun H locs hP hS => ?_)
                      refine lv_aload_n hx hb dX9_work_241 rfl (lv_at hl 0 rfl) ?_
                      refine r_get (C := RX9) (T := TX9) (N := 34) (ci := 9) hx hb hts hi_X9 hown hK hP 26 rfl (by decide) lk_X9_81 (fun _ h9 => h9) dX9_work_242 (by omega) RE_0 rfl ?_
                      refine lv_iload hx hb dX9_work_245 (lv_at hl 4 rfl) ?_
                      refine r_const hx hb dX9_work_247 ?_
                      refine r_iast hx hb hi hK hP hS 0 rfl dX9_work_248 (by omega) rfl (by omega) (by omega) (rn_joined (by omega) k4 n23) (fun H locs hP hS => ?_)
                      refine lv_aload_n hx hb dX9_work_249 rfl (lv_at hl 0 rfl) ?_
                      refine lv_dup hx hb dX9_work_250 rfl ?_
                      refine r_get (C := RX9) (T := TX9) (N := 34) (ci := 9) hx hb hts hi_X9 hown hK hP 28 rfl (by decide) lk_X9_107 (fun _ h9 => h9) dX9_work_251 (by omega) RE_0 rfl ?_
                      rw [n02]
                      refine r_const hx hb dX9_work_254 ?_
                      refine r_add hx hb dX9_work_255 ?_
                      refine r_put (C := RX9) (T := TX9) (N := 34) (ci := 9) hx hb hi hts hi_X9 tyX9 tyX9_ok nmX9 hown hK hP hS 28 rfl (by decide) lk_X9_107 (fun _ h9 => h9) rfl (ty := .int) (by decide +kernel) rfl rfl dX9_work_256 (by omega) RE_0 (Nat.le_of_ble_eq_true rfl) ru_works (fun H locs hP hS => ?_)
                      refine lv_iload hx hb dX9_work_259 (lv_at hl 4 rfl) ?_
                      have hRT : RT (sWork σ a b p) (up (up (up (up τ 1 (σ 0 2) p) 0 2 (σ 0 2 + 1)) 0 3 (σ 0 2 + 1)) 0 4 (σ 0 2 + 1)) := by
                        refine ⟨⟨?_, ?_, ?_⟩, ?_, ?_⟩
                        · rw [hs2]; simp [up]
                        · rw [hs2]; simp [up]
                        · rw [hs2]; simp [up]
                        · rw [hs0 4 (by decide), hs0 5 (by decide)]; simp [up]; exact hT.2.1
                        · rw [hs0 4 (by decide), hs0 6 (by decide)]; simp [up]; exact hT.2.2
                      exact k_iret hx hb hr hlocks hP hS dX9_work_261 ⟨by rw [aWork, cif_t hv, cif_t hlt], _, (hE _).symm, hRT⟩
                    · have hlt : ¬ σ 0 2 < 60 := by omega
                      have e2 : sWork σ a b p = σ := by rw [sWork, cif_f (fun q => hlt q.2)]
                      refine r_bipush hx hb dX9_work_114 (by decide +kernel) ?_
                      exact k_iret hx hb hr hlocks hP hS dX9_work_116 ⟨by rw [aWork, cif_t hv, cif_f hlt], τ, by rw [e2], by rw [e2]; exact hT⟩
                  · rw [← hWg]
                    exact join103  _ _ _ hP hS (lv_sub hl [0] rfl) (fun q => by unfold vW at q; omega)
abbrev rmX9_more : Room := { frames := 1, cells := 0, slots := 0, locals := 22 }
set_option maxRecDepth 100000 in
set_option maxHeartbeats 4000000 in
theorem c_X9_more {l : Launch} {D : va_G} {G : Nat → ClassId} {ad : Nat → Nat} {σ τ : Tb} (hi : kInj 27 ad) {w p : Int} (hI : InvS σ) (hT : RT σ τ) (hw : (-2147483648 ≤ w ∧ w < 2147483648)) (hp : (-2147483648 ≤ p ∧ p < 2147483648)) : Met l yX9_more wsX9_more rmX9_more (kPc D (tysG G) 27 ad (RE G ad σ τ) [.ref (ad 0), .int (iI w), .int (iI p)]) (kQi D 27 ad (fun z E' => z = aMore σ w p ∧ ∃ τ', E' = RE G ad (sMore σ w p) τ' ∧ RT (sMore σ w p) τ')) 0 0 (kA 27 ad) := by
  refine k_met (cc := cX9_more) (maxL := 3) (ret := (some .int)) (by decide) (Nat.le_of_ble_eq_true rfl) ?_
  intro P0 e0 s m0 below meth c0 ls hx hb hr hlocks hml hown hts hK hP hS hl
  replace hl : lv_has ls 3 [(0, _), (1, _), (2, _)] := hl
  replace hown : s.vm.findClass RX9 = some m0.cls := hown
  refine k_abs (fun Wg hWg => ?_)
  have h0 := Inv_0 hI.1
  obtain ⟨hR2, hR3, hR4⟩ := hT.1
  have join25 : ∀  (H : Heap) (locs : List Loc) (ls : Array Slot), va_P D vwCl (kw 27 ad (RE G ad σ τ)) H → va_S (kA 27 ad) s.heap H locs → lv_has ls 3 [(0, .ref (ad 0))] → (¬ vM σ w p) → Wg H locs (F0 m0 25 ls []) := by
    intro  H locs ls hP hS hl hv25
    rw [hWg]
    have e2 : sMore σ w p = σ := by rw [sMore, cif_f (fun q => hv25 q.1)]
    refine r_const hx hb dX9_more_25 ?_
    exact k_iret hx hb hr hlocks hP hS dX9_more_26 ⟨by rw [aMore, cif_f hv25], τ, by rw [e2], by rw [e2]; exact hT⟩
  refine lv_aload_n hx hb dX9_more_0 rfl (lv_at hl 0 rfl) ?_
  refine lv_iload_n hx hb dX9_more_1 rfl (lv_at hl 1 rfl) ?_
  refine k_calliV (nL := 3) (C := RX9) (T := TX9) (N := 34) (ci := 9) hx hb hml hown hts hK hP hS hl.1 (c_X9_isWork hi hI.1 hw) rfl (Nat.le_of_ble_eq_true rfl) rfl (cwV 1 hts (gV lm_X9_114 ti_X9_isWork tl_X9_isWork tn_X9 tc_X9_isWork) rfl rfl rfl (by decide +kernel) ⟨Nat.le_of_ble_eq_true rfl, Nat.le_of_ble_eq_true rfl⟩) rfl dX9_more_2 ⟨Nat.zero_le _, Nat.zero_le _⟩ (by omega) RE_0 (fun r2 E1 H locs hq hP hS => ?_)
  obtain ⟨rfl, rfl⟩ := hq
  refine r_ifB_eq (tgt := 25) hx hb dX9_more_5 (by decide) (fun c5 => ?_) (fun c5 => ?_)
  · rw [← hWg]
    exact join25  _ _ _ hP hS (lv_sub hl [0] rfl) (fun q => c5 q.1)
  · have c5' : 0 ≤ w ∧ w < σ 0 2 := c5
    refine lv_aload_n hx hb dX9_more_8 rfl (lv_at hl 0 rfl) ?_
    refine lv_iload_n hx hb dX9_more_9 rfl (lv_at hl 2 rfl) ?_
    refine k_calliV (nL := 3) (C := RX9) (T := TX9) (N := 34) (ci := 9) hx hb hml hown hts hK hP hS hl.1 (c_X9_isPiece hi hI.1 hp) rfl (Nat.le_of_ble_eq_true rfl) rfl (cwV 1 hts (gV lm_X9_110 ti_X9_isPiece tl_X9_isPiece tn_X9 tc_X9_isPiece) rfl rfl rfl (by decide +kernel) ⟨Nat.le_of_ble_eq_true rfl, Nat.le_of_ble_eq_true rfl⟩) rfl dX9_more_10 ⟨Nat.zero_le _, Nat.zero_le _⟩ (by omega) RE_0 (fun r10 E1 H locs hq hP hS => ?_)
    obtain ⟨rfl, rfl⟩ := hq
    refine r_ifB_eq (tgt := 25) hx hb dX9_more_13 (by decide) (fun c13 => ?_) (fun c13 => ?_)
    · rw [← hWg]
      exact join25  _ _ _ hP hS (lv_sub hl [0] rfl) (fun q => c13 q.2.1)
    · refine lv_aload_n hx hb dX9_more_16 rfl (lv_at hl 0 rfl) ?_
      refine lv_iload_n hx hb dX9_more_17 rfl (lv_at hl 1 rfl) ?_
      refine lv_iload_n hx hb dX9_more_18 rfl (lv_at hl 2 rfl) ?_
      refine k_calliV (nL := 3) (C := RX9) (T := TX9) (N := 34) (ci := 9) hx hb hml hown hts hK hP hS hl.1 (c_X9_isOn hi hI.1 c5 (p := p) (by omega)) rfl (Nat.le_of_ble_eq_true rfl) rfl (cwV 2 hts (gV lm_X9_117 ti_X9_isOn tl_X9_isOn tn_X9 tc_X9_isOn) rfl rfl rfl (by decide +kernel) ⟨Nat.le_of_ble_eq_true rfl, Nat.le_of_ble_eq_true rfl⟩) rfl dX9_more_19 ⟨Nat.zero_le _, Nat.zero_le _⟩ (by omega) RE_0 (fun r19 E1 H locs hq hP hS => ?_)
      obtain ⟨rfl, rfl⟩ := hq
      refine r_ifB_eq (tgt := 27) hx hb dX9_more_22 (by decide) (fun c22 => ?_) (fun c22 => ?_)
      · have hv : vM σ w p := ⟨c5, c13, c22⟩
        obtain ⟨hN, hQ, _⟩ := Inv_w hI.1 c5
        have hj := IJ_r hI.1 c5
        obtain ⟨h18, h17, _⟩ := IQ_0 hI.1 c5
        have hpw : 2 ^ p.toNat < 2 ^ 63 := Nat.pow_lt_pow_right (by decide) (by omega)
        unfold IN at hN
        have join45 : ∀  (H : Heap) (locs : List Loc) (ls : Array Slot), va_P D vwCl (kw 27 ad (RE G ad σ τ)) H → va_S (kA 27 ad) s.heap H locs → lv_has ls 3 [(0, .ref (ad 0))] → (¬ (σ 19 w = 0 ∧ σ 23 w < 0)) → Wg H locs (F0 m0 45 ls []) := by
          intro  H locs ls hP hS hl hv45
          rw [hWg]
          have e2 : sMore σ w p = σ := by rw [sMore, cif_f (fun q => hv45 q.2.1)]
          refine r_bipush hx hb dX9_more_45 (by decide +kernel) ?_
          exact k_iret hx hb hr hlocks hP hS dX9_more_47 ⟨by rw [aMore, cif_t hv, cif_f hv45], τ, by rw [e2], by rw [e2]; exact hT⟩
        refine lv_aload_n hx hb dX9_more_27 rfl (lv_at hl 0 rfl) ?_
        refine r_get (C := RX9) (T := TX9) (N := 34) (ci := 9) hx hb hts hi_X9 hown hK hP 22 rfl (by decide) lk_X9_69 (fun _ h9 => h9) dX9_more_28 (by omega) RE_0 rfl ?_
        refine lv_iload_n hx hb dX9_more_31 rfl (lv_at hl 1 rfl) ?_
        refine r_iald hx hb hK hP 0 rfl dX9_more_32 (by omega) rfl (by omega) (by omega) (tI_at (by omega)) ?_
        refine r_if_ne (tgt := 45) hx hb (by omega) dX9_more_33 (by decide) (fun c33 => ?_) (fun c33 => ?_)
        · rw [← hWg]
          exact join45  _ _ _ hP hS (lv_sub hl [0] rfl) (fun q => c33 q.1)
        · refine lv_aload_n hx hb dX9_more_36 rfl (lv_at hl 0 rfl) ?_
          refine r_get (C := RX9) (T := TX9) (N := 34) (ci := 9) hx hb hts hi_X9 hown hK hP 26 rfl (by decide) lk_X9_81 (fun _ h9 => h9) dX9_more_37 (by omega) RE_0 rfl ?_
          refine lv_iload_n hx hb dX9_more_40 rfl (lv_at hl 1 rfl) ?_
          refine r_iald hx hb hK hP 0 rfl dX9_more_41 (by omega) rfl (by omega) (by omega) (tD_at (by omega) (by omega)) ?_
          refine r_if_lt (tgt := 48) hx hb (by omega) dX9_more_42 (by decide) (fun c42 => ?_) (fun c42 => ?_)
          · have hok : σ 19 w = 0 ∧ σ 23 w < 0 := ⟨by omega, c42⟩
            refine lv_aload_n hx hb dX9_more_48 rfl (lv_at hl 0 rfl) ?_
            refine r_get (C := RX9) (T := TX9) (N := 34) (ci := 9) hx hb hts hi_X9 hown hK hP 21 rfl (by decide) lk_X9_66 (fun _ h9 => h9) dX9_more_49 (by omega) RE_0 rfl ?_
            refine lv_iload_n hx hb dX9_more_52 rfl (lv_at hl 1 rfl) ?_
            refine r_iald hx hb hK hP 0 rfl dX9_more_53 (by omega) rfl (by omega) (by omega) (tI_at (by omega)) ?_
            refine r_const hx hb dX9_more_54 ?_
            refine r_icmp_ne (tgt := 61) hx hb (by omega) (by omega) dX9_more_55 (by decide) (fun c55 => ?_) (fun c55 => ?_)
            · have hlt : σ 18 w < 4 := by omega
              have e2 : sMore σ w p = insQ σ w p := by rw [sMore, cif_t ⟨hv, hok, hlt⟩]
              obtain ⟨a0, hins⟩ := insOk_ex (p := p) (by omega) hQ.2.2.2.1
              have ha0 := hins.1
              have hE : ∀ τ2 : Tb, RE G ad (sMore σ w p) τ2 = RE G ad (up (up σ 17 w (((σ 17 w).toNat ||| 2 ^ p.toNat : Nat) : Int)) 18 w (σ 18 w + 1)) τ2 := fun τ2 => RE_s (fun t i h1 h2 => by
                rw [e2, insQ_a hins]
                refine up_cg (up_cg ?_)
                rw [up_t (by omega), shf_o (by omega)])
              have hRT : RT (sMore σ w p) τ := by
                rw [e2]; exact RT_c0 (fun _ => insQ_o hins (by omega)) hT
              have f18 : up σ 17 w (((σ 17 w).toNat ||| 2 ^ p.toNat : Nat) : Int) 18 w = σ 18 w := up_t (by decide)
              refine lv_aload_n hx hb dX9_more_61 rfl (lv_at hl 0 rfl) ?_
              refine r_get (C := RX9) (T := TX9) (N := 34) (ci := 9) hx hb hts hi_X9 hown hK hP 19 rfl (by decide) lk_X9_59 (fun _ h9 => h9) dX9_more_62 (by omega) RE_0 rfl ?_
              refine lv_iload_n hx hb dX9_more_65 rfl (lv_at hl 1 rfl) ?_
              refine lv_dup2_11 hx hb dX9_more_66 rfl rfl ?_
              refine r_lald hx hb hK hP 1 rfl dX9_more_67 (by omega) rfl (by omega) (by omega) (tL_at (by omega)) ?_
              refine r_lconst1 hx hb dX9_more_68 ?_
              refine lv_iload_n hx hb dX9_more_69 rfl (lv_at hl 2 rfl) ?_
              refine r_lshl1 hx hb dX9_more_70 (by omega) ?_
              refine r_lor hx hb dX9_more_71 (by omega) (by omega) ?_
              refine r_last hx hb hi hK hP hS 1 rfl dX9_more_72 (by omega) rfl (by omega) (by omega) (ru_on (by omega)) (fun H locs hP hS => ?_)
              refine lv_aload_n hx hb dX9_more_73 rfl (lv_at hl 0 rfl) ?_
              refine r_get (C := RX9) (T := TX9) (N := 34) (ci := 9) hx hb hts hi_X9 hown hK hP 21 rfl (by decide) lk_X9_66 (fun _ h9 => h9) dX9_more_74 (by omega) RE_0 rfl ?_
              refine lv_iload_n hx hb dX9_more_77 rfl (lv_at hl 1 rfl) ?_
              refine lv_dup2_11 hx hb dX9_more_78 rfl rfl ?_
              refine r_iald hx hb hK hP 0 rfl dX9_more_79 (by omega) rfl (by omega) (by omega) (tI_at (by omega)) ?_
              rw [f18]
              refine r_const hx hb dX9_more_80 ?_
              refine r_add hx hb dX9_more_81 ?_
              refine r_iast hx hb hi hK hP hS 0 rfl dX9_more_82 (by omega) rfl (by omega) (by omega) (ru_pieceMany (by omega)) (fun H locs hP hS => ?_)
              refine lv_aload_n hx hb dX9_more_83 rfl (lv_at hl 0 rfl) ?_
              refine r_get (C := RX9) (T := TX9) (N := 34) (ci := 9) hx hb hts hi_X9 hown hK hP 21 rfl (by decide) lk_X9_66 (fun _ h9 => h9) dX9_more_84 (by omega) RE_0 rfl ?_
              refine lv_iload_n hx hb dX9_more_87 rfl (lv_at hl 1 rfl) ?_
              refine r_iald hx hb hK hP 0 rfl dX9_more_88 (by omega) rfl (by omega) (by omega) (tI_at (by omega)) ?_
              rw [up_self]
              exact k_iret hx hb hr hlocks hP hS dX9_more_89 ⟨by rw [aMore, cif_t hv, cif_t hok, cif_t hlt], τ, (hE _).symm, hRT⟩
            · have hlt : ¬ σ 18 w < 4 := by omega
              have e2 : sMore σ w p = σ := by rw [sMore, cif_f (fun q => hlt q.2.2)]
              refine r_bipush hx hb dX9_more_58 (by decide +kernel) ?_
              exact k_iret hx hb hr hlocks hP hS dX9_more_60 ⟨by rw [aMore, cif_t hv, cif_t hok, cif_f hlt], τ, by rw [e2], by rw [e2]; exact hT⟩
          · rw [← hWg]
            exact join45  _ _ _ hP hS (lv_sub hl [0] rfl) (fun q => by omega)
      · rw [← hWg]
        exact join25  _ _ _ hP hS (lv_sub hl [0] rfl) (fun q => q.2.2 c22)

