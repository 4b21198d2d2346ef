/-! ===== lists of works by number ===== -/
def Lst (f : Int → Int) (n : Int) (P : Int → Prop) (N : Int) : Prop := (0 ≤ n ∧ n ≤ N) ∧ (∀ k, 0 ≤ k → k < n → (0 ≤ f k ∧ f k < N) ∧ P (f k)) ∧ (∀ o, 0 ≤ o → o < N → P o → ∃ k, 0 ≤ k ∧ k < n ∧ f k = o) ∧ (∀ g : Int → Int, sumI (fun k => g (f k)) n = sumI (fun o => cif (P o) (g o) 0) N)
theorem Lst_0 {f : Int → Int} {P : Int → Prop} : Lst f 0 P 0 := ⟨by omega, fun k h1 h2 => by omega, fun o h1 h2 => by omega, fun g => rfl⟩
theorem Lst_c {f f' : Int → Int} {n : Int} {P : Int → Prop} {N : Int} (h : Lst f n P N) (e : ∀ k, 0 ≤ k → k < n → f' k = f k) : Lst f' n P N := by
  obtain ⟨h1, h2, h3, h4⟩ := h
  refine ⟨h1, fun k a b => by rw [e k a b]; exact h2 k a b, fun o a b c => ?_, fun g => ?_⟩
  · obtain ⟨k, k1, k2, k3⟩ := h3 o a b c
    exact ⟨k, k1, k2, by rw [e k k1 k2]; exact k3⟩
  · rw [← h4 g]
    exact sumI_c (fun k a b => by rw [e k a b])
theorem Lst_a {f f' : Int → Int} {n : Int} {P : Int → Prop} {i : Int} (hi : 0 ≤ i) (h : Lst f n P i) (hp : P i) (e : ∀ k, 0 ≤ k → k < n → f' k = f k) (e2 : f' n = i) : Lst f' (n + 1) P (i + 1) := by
  obtain ⟨h1, h2, h3, h4⟩ := Lst_c h e
  refine ⟨by omega, fun k a b => ?_, fun o a b c => ?_, fun g => ?_⟩
  · rcases (show k < n ∨ k = n by omega) with q | q
    · obtain ⟨x, y⟩ := h2 k a q
      exact ⟨by omega, y⟩
    · subst q
      rw [e2]
      exact ⟨by omega, hp⟩
  · rcases (show o < i ∨ o = i by omega) with q | q
    · obtain ⟨k, k1, k2, k3⟩ := h3 o a q c
      exact ⟨k, k1, by omega, k3⟩
    · exact ⟨n, by omega, by omega, by rw [e2, q]⟩
  · rw [sumI_s h1.1, sumI_s hi, h4 g, cif_t hp, e2]
theorem Lst_k {f : Int → Int} {n : Int} {P : Int → Prop} {i : Int} (hi : 0 ≤ i) (h : Lst f n P i) (hp : ¬ P i) : Lst f n P (i + 1) := by
  obtain ⟨h1, h2, h3, h4⟩ := h
  refine ⟨by omega, fun k a b => ?_, fun o a b c => ?_, fun g => ?_⟩
  · obtain ⟨x, y⟩ := h2 k a b
    exact ⟨by omega, y⟩
  · rcases (show o < i ∨ o = i by omega) with q | q
    · exact h3 o a q c
    · subst q
      exact absurd c hp
  · rw [sumI_s hi, h4 g, cif_f hp]
    omega
def Gth (σ τ : Tb) (C N : Int → Prop) : Prop := Cnt σ τ C ∧ Lst (τ 1) (τ 2 0) C (σ 0 2) ∧ Lst (τ 3) (τ 2 1) N (σ 0 2)
/-- of the scratch, only the lists of the company are other -/
def Fr1 (τ τ' : Tb) : Prop := (∀ t i, 4 ≤ t → τ' t i = τ t i) ∧ ∀ i, 2 ≤ i → τ' 2 i = τ 2 i
def nrP (σ : Tb) (C : Int → Prop) (M : Nat) (o : Int) : Prop := C o ∧ (σ 17 o).toNat &&& M ≠ 0
abbrev rmX0_gather : Room := { frames := 1, cells := 0, slots := 0, locals := 20 }
set_option maxRecDepth 100000 in
set_option maxHeartbeats 4000000 in
theorem c_X0_gather {l : Launch} {D : va_G} {G : Nat → ClassId} {ad : Nat → Nat} {σ τ : Tb} (hi : kInj 189 ad) {w bel : Int} {M : Nat} {les : Prop} (hI : Inv σ) (hw : -1 ≤ w ∧ w < 60) (hM : M < 1099511627776) (hb1 : (bel = 60 ∧ ¬ les) ∨ (bel = w ∧ les)) : Met l yX0_gather wsX0_gather rmX0_gather (kPc D (tysG G) 189 ad (CE G ad σ τ) [.ref (ad 2), .int (iI w), .long (lN M), .int (iI bel)]) (kQv D 189 ad (fun E' => ∃ τ', E' = CE G ad σ τ' ∧ Gth σ τ' (cnts σ w les) (nrP σ (cnts σ w les) M) ∧ Fr1 τ τ')) 0 0 (kA 189 ad) := by
  refine k_met (cc := cX0_gather) (maxL := 7) (ret := none) (by decide) (Nat.le_of_ble_eq_true rfl) ?_
  intro P0 e0 s m0 below meth c0 ls hx hb hr hlocks hml hown hts hK hP hS hl
  replace hl : lv_has ls 7 [(0, _), (1, _), (2, _), (4, _)] := hl
  replace hown : s.vm.findClass RX0 = some m0.cls := hown
  refine k_abs (fun Wg hWg => ?_)
  have h0 := Inv_0 hI
  refine lv_aload_n hx hb dX0_gather_0 rfl (lv_at hl 0 rfl) ?_
  refine r_const hx hb dX0_gather_1 ?_
  refine r_put (C := RX0) (T := TX0) (N := 9) (ci := 0) hx hb hi hts hi_X0 tyX0 tyX0_ok nmX0 hown hK hP hS 3 rfl (by decide) lk_X0_41 (fun _ h9 => h9) rfl (ty := .int) (by decide +kernel) rfl rfl dX0_gather_2 (by omega) CE_2 (Nat.le_of_ble_eq_true rfl) cu_memberCount (fun H locs hP hS => ?_)
  refine lv_aload_n hx hb dX0_gather_5 rfl (lv_at hl 0 rfl) ?_
  refine r_const hx hb dX0_gather_6 ?_
  refine r_put (C := RX0) (T := TX0) (N := 9) (ci := 0) hx hb hi hts hi_X0 tyX0 tyX0_ok nmX0 hown hK hP hS 5 rfl (by decide) lk_X0_45 (fun _ h9 => h9) rfl (ty := .int) (by decide +kernel) rfl rfl dX0_gather_7 (by omega) CE_2 (Nat.le_of_ble_eq_true rfl) cu_nearCount (fun H locs hP hS => ?_)
  refine r_const hx hb dX0_gather_10 ?_
  refine lv_istore hx hb dX0_gather_11 hl (by decide) rfl (fun ls hl => ?_)
  replace hl : lv_has ls 7 [(0, _), (1, _), (2, _), (4, _), (5, _)] := lv_sub hl [1, 2, 3, 4, 0] rfl
  have loop13 : ∀ (n : Nat) (i : Int) (τ1 : Tb) (H : Heap) (locs : List Loc) (ls : Array Slot), va_P D vwCl (kw 189 ad (CE G ad σ τ1)) H → va_S (kA 189 ad) s.heap H locs → lv_has ls 7 [(0, .ref (ad 2)), (1, .int (iI w)), (2, .long (lN M)), (4, .int (iI bel)), (5, .int (iI i))] → ((0 ≤ i ∧ i ≤ σ 0 2) ∧ (∀ k, 0 ≤ k → k < i → τ1 0 k = bI (cnts σ w les k)) ∧ Lst (τ1 1) (τ1 2 0) (cnts σ w les) i ∧ Lst (τ1 3) (τ1 2 1) (nrP σ (cnts σ w les) M) i ∧ Fr1 τ τ1) → (σ 0 2 - i).toNat < n → Wg H locs (F0 m0 13 ls []) := by
    intro n
    induction n with
    | zero => intro i τ1 H locs ls _ _ _ _ hn; omega
    | succ n ih13 =>
      intro i τ1 H locs ls hP hS hl hv13 hn13
      rw [hWg]
      obtain ⟨hv, hcn, hL1, hL3, hF⟩ := hv13
      have hn1 := hL1.1
      have hn3 := hL3.1
      refine lv_iload hx hb dX0_gather_13 (lv_at hl 4 rfl) ?_
      refine lv_aload_n hx hb dX0_gather_15 rfl (lv_at hl 0 rfl) ?_
      refine r_get (C := RX0) (T := TX0) (N := 9) (ci := 0) hx hb hts hi_X0 hown hK hP 0 rfl (by decide) lk_X0_33 (fun _ h9 => h9) dX0_gather_16 (by omega) CE_2 rfl ?_
      refine r_get (C := RX5) (T := TX5) (N := 8) (ci := 5) hx hb hts hi_X5 hown hK hP 6 rfl (by decide) lk_X0_48 (fun _ h9 => h9) dX0_gather_19 (by omega) CE_1 rfl ?_
      refine r_icmp_ge (tgt := 152) hx hb (by omega) (by omega) dX0_gather_22 (by decide) (fun c22 => ?_) (fun c22 => ?_)
      · obtain rfl : i = σ 0 2 := by omega
        exact k_vret hx hb hr hlocks hP hS dX0_gather_152 ⟨τ1, rfl, ⟨hcn, hL1, hL3⟩, hF⟩
      · obtain ⟨hN, hQ, _⟩ := Inv_w hI (w := i) (by omega)
        unfold IN at hN
        unfold IQ at hQ
        have join78 : ∀  (H : Heap) (locs : List Loc) (ls : Array Slot), va_P D vwCl (kw 189 ad (CE G ad σ τ1)) H → va_S (kA 189 ad) s.heap H locs → lv_has ls 7 [(0, .ref (ad 2)), (1, .int (iI w)), (2, .long (lN M)), (4, .int (iI bel)), (5, .int (iI i)), (6, .ref (ad (69 + i.toNat)))] → (True) → Wg H locs (F0 m0 78 ls [.int (iI (bI (cnts σ w les i))), .int (iI i), .ref (ad 10)]) := by
          intro  H locs ls hP hS hl hv78
          rw [hWg]
          have hz1 : bI (cnts σ w les i) = 0 ∨ bI (cnts σ w les i) = 1 := bI_01 _
          refine r_zast hx hb hi hK hP hS 2 rfl dX0_gather_78 (by omega) rfl (by omega) (by omega) hz1 (cu_counted (by omega)) (fun H locs hP hS => ?_)
          refine lv_aload_n hx hb dX0_gather_79 rfl (lv_at hl 0 rfl) ?_
          refine r_get (C := RX0) (T := TX0) (N := 9) (ci := 0) hx hb hts hi_X0 hown hK hP 1 rfl (by decide) lk_X0_9 (fun _ h9 => h9) dX0_gather_80 (by omega) CE_2 rfl ?_
          refine lv_iload hx hb dX0_gather_83 (lv_at hl 4 rfl) ?_
          refine r_zald hx hb hK hP 2 rfl dX0_gather_85 (by omega) rfl (by omega) (by omega) ((tI_at (by omega)).trans (by rw [up_self])) ?_
          have hcn2 : ∀ k, 0 ≤ k → k < i + 1 → up τ1 0 i (bI (cnts σ w les i)) 0 k = bI (cnts σ w les k) := by
            intro k k1 k2
            rcases (show k < i ∨ k = i by omega) with q | q
            · rw [up_i (by omega)]; exact hcn k k1 q
            · rw [q, up_self]
          have hF2 : Fr1 τ (up τ1 0 i (bI (cnts σ w les i))) := ⟨fun t j ht => by rw [up_t (by omega)]; exact hF.1 t j ht, fun j hj => by rw [up_t (by omega)]; exact hF.2 j hj⟩
          have join146 : ∀ (τ2 : Tb) (H : Heap) (locs : List Loc) (ls : Array Slot), va_P D vwCl (kw 189 ad (CE G ad σ τ2)) H → va_S (kA 189 ad) s.heap H locs → lv_has ls 7 [(0, .ref (ad 2)), (1, .int (iI w)), (2, .long (lN M)), (4, .int (iI bel)), (5, .int (iI i))] → ((∀ k, 0 ≤ k → k < i + 1 → τ2 0 k = bI (cnts σ w les k)) ∧ Lst (τ2 1) (τ2 2 0) (cnts σ w les) (i + 1) ∧ Lst (τ2 3) (τ2 2 1) (nrP σ (cnts σ w les) M) (i + 1) ∧ Fr1 τ τ2) → Wg H locs (F0 m0 146 ls []) := by
            intro τ2 H locs ls hP hS hl hv146
            rw [hWg]
            refine r_iinc hx hb dX0_gather_146 hl (k := 4) rfl (by decide) (fun ls hl => ?_)
            replace hl : lv_has ls 7 [(0, _), (1, _), (2, _), (4, _), (5, _)] := lv_sub hl [1, 2, 3, 4, 0] rfl
            refine lv_goto (tgt := 13) hx hb dX0_gather_149 (by decide) ?_
            rw [← hWg]
            exact ih13 (i + 1) τ2 _ _ _ hP hS hl ⟨by omega, hv146.1, hv146.2.1, hv146.2.2.1, hv146.2.2.2⟩ (by omega)
          refine r_ifB_ne (tgt := 92) hx hb dX0_gather_86 (by decide) (fun c86 => ?_) (fun c86 => ?_)
          · have hL1' : Lst (up (up (up τ1 0 i (bI (cnts σ w les i))) 1 (τ1 2 0) i) 2 0 (τ1 2 0 + 1) 1) (τ1 2 0 + 1) (cnts σ w les) (i + 1) := by
              refine Lst_a hv.1 hL1 c86 (fun k k1 k2 => ?_) ?_
              · rw [up_t (by decide), up_i (by omega), up_t (by decide)]
              · rw [up_t (by decide), up_self]
            have e20 : up τ1 0 i (bI (cnts σ w les i)) 2 0 = τ1 2 0 := up_t (by decide)
            have e21 : up (up τ1 0 i (bI (cnts σ w les i))) 1 (τ1 2 0) i 2 0 = τ1 2 0 := by rw [up_t (by decide), up_t (by decide)]
            have e22 : up (up (up τ1 0 i (bI (cnts σ w les i))) 1 (τ1 2 0) i) 2 0 (τ1 2 0 + 1) 2 1 = τ1 2 1 := by rw [up_i (by decide), up_t (by decide), up_t (by decide)]
            have e23 : up (up (up (up τ1 0 i (bI (cnts σ w les i))) 1 (τ1 2 0) i) 2 0 (τ1 2 0 + 1)) 3 (τ1 2 1) i 2 1 = τ1 2 1 := by rw [up_t (by decide)]; exact e22
            have h3 : (σ 17 i).toNat < 2 ^ 63 := by omega
            have hand : (σ 17 i).toNat &&& M < 2 ^ 63 := Nat.lt_of_le_of_lt Nat.and_le_left h3
            refine lv_aload_n hx hb dX0_gather_92 rfl (lv_at hl 0 rfl) ?_
            refine r_get (C := RX0) (T := TX0) (N := 9) (ci := 0) hx hb hts hi_X0 hown hK hP 2 rfl (by decide) lk_X0_15 (fun _ h9 => h9) dX0_gather_93 (by omega) CE_2 rfl ?_
            refine lv_aload_n hx hb dX0_gather_96 rfl (lv_at hl 0 rfl) ?_
            refine r_get (C := RX0) (T := TX0) (N := 9) (ci := 0) hx hb hts hi_X0 hown hK hP 3 rfl (by decide) lk_X0_41 (fun _ h9 => h9) dX0_gather_97 (by omega) CE_2 rfl ?_
            rw [e20]
            refine lv_iload hx hb dX0_gather_100 (lv_at hl 4 rfl) ?_
            refine r_iast hx hb hi hK hP hS 0 rfl dX0_gather_102 (by omega) rfl (by omega) (by omega) (cu_members (by omega)) (fun H locs hP hS => ?_)
            refine lv_aload_n hx hb dX0_gather_103 rfl (lv_at hl 0 rfl) ?_
            refine lv_dup hx hb dX0_gather_104 rfl ?_
            refine r_get (C := RX0) (T := TX0) (N := 9) (ci := 0) hx hb hts hi_X0 hown hK hP 3 rfl (by decide) lk_X0_41 (fun _ h9 => h9) dX0_gather_105 (by omega) CE_2 rfl ?_
            rw [e21]
            refine r_const hx hb dX0_gather_108 ?_
            refine r_add hx hb dX0_gather_109 ?_
            refine r_put (C := RX0) (T := TX0) (N := 9) (ci := 0) hx hb hi hts hi_X0 tyX0 tyX0_ok nmX0 hown hK hP hS 3 rfl (by decide) lk_X0_41 (fun _ h9 => h9) rfl (ty := .int) (by decide +kernel) rfl rfl dX0_gather_110 (by omega) CE_2 (Nat.le_of_ble_eq_true rfl) cu_memberCount (fun H locs hP hS => ?_)
            refine lv_aload hx hb dX0_gather_113 (lv_at hl 5 rfl) ?_
            refine r_get (C := RX7) (T := TX7) (N := 16) (ci := 7) hx hb hts hi_X7 hown hK hP 3 rfl (by decide) lk_X0_66 (fun _ h9 => h9) dX0_gather_115 (by omega) (CE_w (by omega)) rfl ?_
            refine lv_lload_n hx hb dX0_gather_118 rfl (lv_at hl 2 rfl) ?_
            refine r_land hx hb dX0_gather_119 (by omega) (by omega) ?_
            refine r_lconst0 hx hb dX0_gather_120 ?_
            refine r_lcmp hx hb dX0_gather_121 hand (by decide) ?_
            refine r_if_eq (tgt := 146) hx hb (cmpN_r _ _) dX0_gather_122 (by decide) (fun c122 => ?_) (fun c122 => ?_)
            · have hz2 : (σ 17 i).toNat &&& M = 0 := cmpN_0.mp c122
              have hL3' : Lst (up (up (up τ1 0 i (bI (cnts σ w les i))) 1 (τ1 2 0) i) 2 0 (τ1 2 0 + 1) 3) (τ1 2 1) (nrP σ (cnts σ w les) M) (i + 1) := Lst_c (Lst_k hv.1 hL3 (fun q => q.2 hz2)) (fun k k1 k2 => by rw [up_t (by decide), up_t (by decide), up_t (by decide)])
              rw [← hWg]
              exact join146 _ _ _ _ hP hS (lv_sub hl [0, 1, 2, 3, 4] rfl) ⟨fun k k1 k2 => by rw [up_t (by decide), up_t (by decide)]; exact hcn2 k k1 k2, by rw [up_self]; exact hL1', by rw [e22]; exact hL3', ⟨fun t j ht => by rw [up_t (by omega), up_t (by omega)]; exact hF2.1 t j ht, fun j hj => by rw [up_i (by omega), up_t (by decide)]; exact hF2.2 j hj⟩⟩
            · have hz2 : (σ 17 i).toNat &&& M ≠ 0 := fun q => c122 (cmpN_0.mpr q)
              have hL3' : Lst (up (up (up (up (up τ1 0 i (bI (cnts σ w les i))) 1 (τ1 2 0) i) 2 0 (τ1 2 0 + 1)) 3 (τ1 2 1) i) 2 1 (τ1 2 1 + 1) 3) (τ1 2 1 + 1) (nrP σ (cnts σ w les) M) (i + 1) := by
                refine Lst_a hv.1 hL3 ⟨c86, hz2⟩ (fun k k1 k2 => ?_) ?_
                · rw [up_t (by decide), up_i (by omega), up_t (by decide), up_t (by decide), up_t (by decide)]
                · rw [up_t (by decide), up_self]
              have hL1'' : Lst (up (up (up (up (up τ1 0 i (bI (cnts σ w les i))) 1 (τ1 2 0) i) 2 0 (τ1 2 0 + 1)) 3 (τ1 2 1) i) 2 1 (τ1 2 1 + 1) 1) (τ1 2 0 + 1) (cnts σ w les) (i + 1) := Lst_c hL1' (fun k k1 k2 => by rw [up_t (by decide), up_t (by decide)])
              refine lv_aload_n hx hb dX0_gather_125 rfl (lv_at hl 0 rfl) ?_
              refine r_get (C := RX0) (T := TX0) (N := 9) (ci := 0) hx hb hts hi_X0 hown hK hP 4 rfl (by decide) lk_X0_19 (fun _ h9 => h9) dX0_gather_126 (by omega) CE_2 rfl ?_
              refine lv_aload_n hx hb dX0_gather_129 rfl (lv_at hl 0 rfl) ?_
              refine r_get (C := RX0) (T := TX0) (N := 9) (ci := 0) hx hb hts hi_X0 hown hK hP 5 rfl (by decide) lk_X0_45 (fun _ h9 => h9) dX0_gather_130 (by omega) CE_2 rfl ?_
              rw [e22]
              refine lv_iload hx hb dX0_gather_133 (lv_at hl 4 rfl) ?_
              refine r_iast hx hb hi hK hP hS 0 rfl dX0_gather_135 (by omega) rfl (by omega) (by omega) (cu_near (by omega)) (fun H locs hP hS => ?_)
              refine lv_aload_n hx hb dX0_gather_136 rfl (lv_at hl 0 rfl) ?_
              refine lv_dup hx hb dX0_gather_137 rfl ?_
              refine r_get (C := RX0) (T := TX0) (N := 9) (ci := 0) hx hb hts hi_X0 hown hK hP 5 rfl (by decide) lk_X0_45 (fun _ h9 => h9) dX0_gather_138 (by omega) CE_2 rfl ?_
              rw [e23]
              refine r_const hx hb dX0_gather_141 ?_
              refine r_add hx hb dX0_gather_142 ?_
              refine r_put (C := RX0) (T := TX0) (N := 9) (ci := 0) hx hb hi hts hi_X0 tyX0 tyX0_ok nmX0 hown hK hP hS 5 rfl (by decide) lk_X0_45 (fun _ h9 => h9) rfl (ty := .int) (by decide +kernel) rfl rfl dX0_gather_143 (by omega) CE_2 (Nat.le_of_ble_eq_true rfl) cu_nearCount (fun H locs hP hS => ?_)
              rw [← hWg]
              exact join146 _ _ _ _ hP hS (lv_sub hl [0, 1, 2, 3, 4] rfl) ⟨fun k k1 k2 => by rw [up_t (by decide), up_t (by decide), up_t (by decide), up_t (by decide)]; exact hcn2 k k1 k2, by rw [up_i (by decide), up_t (by decide), up_self]; exact hL1'', by rw [up_self]; exact hL3', ⟨fun t j ht => by rw [up_t (by omega), up_t (by omega), up_t (by omega), up_t (by omega)]; exact hF2.1 t j ht, fun j hj => by rw [up_i (by omega), up_t (by decide), up_i (by omega), up_t (by decide)]; exact hF2.2 j hj⟩⟩
          · have hL1' : Lst (up τ1 0 i (bI (cnts σ w les i)) 1) (up τ1 0 i (bI (cnts σ w les i)) 2 0) (cnts σ w les) (i + 1) := by
              rw [up_t (by decide)]
              exact Lst_c (Lst_k hv.1 hL1 c86) (fun k k1 k2 => up_t (by decide))
            have hL3' : Lst (up τ1 0 i (bI (cnts σ w les i)) 3) (up τ1 0 i (bI (cnts σ w les i)) 2 1) (nrP σ (cnts σ w les) M) (i + 1) := by
              rw [up_t (by decide)]
              exact Lst_c (Lst_k hv.1 hL3 (fun q => c86 q.1)) (fun k k1 k2 => up_t (by decide))
            refine lv_goto (tgt := 146) hx hb dX0_gather_89 (by decide) ?_
            rw [← hWg]
            exact join146 _ _ _ _ hP hS (lv_sub hl [0, 1, 2, 3, 4] rfl) ⟨hcn2, hL1', hL3', hF2⟩
        refine lv_aload_n hx hb dX0_gather_25 rfl (lv_at hl 0 rfl) ?_
        refine r_get (C := RX0) (T := TX0) (N := 9) (ci := 0) hx hb hts hi_X0 hown hK hP 0 rfl (by decide) lk_X0_33 (fun _ h9 => h9) dX0_gather_26 (by omega) CE_2 rfl ?_
        refine r_get (C := RX5) (T := TX5) (N := 8) (ci := 5) hx hb hts hi_X5 hown hK hP 2 rfl (by decide) lk_X0_53 (fun _ h9 => h9) dX0_gather_29 (by omega) CE_1 rfl ?_
        refine lv_iload hx hb dX0_gather_32 (lv_at hl 4 rfl) ?_
        refine r_aald hx hb hK hP 5 rfl dX0_gather_34 (by omega) rfl (by omega) (by omega) rfl ?_
        refine lv_astore hx hb dX0_gather_35 hl (by decide) rfl (fun ls hl => ?_)
        replace hl : lv_has ls 7 [(0, _), (1, _), (2, _), (4, _), (5, _), (6, _)] := lv_sub hl [1, 2, 3, 4, 5, 0] rfl
        refine lv_aload_n hx hb dX0_gather_37 rfl (lv_at hl 0 rfl) ?_
        refine r_get (C := RX0) (T := TX0) (N := 9) (ci := 0) hx hb hts hi_X0 hown hK hP 1 rfl (by decide) lk_X0_9 (fun _ h9 => h9) dX0_gather_38 (by omega) CE_2 rfl ?_
        refine lv_iload hx hb dX0_gather_41 (lv_at hl 4 rfl) ?_
        refine lv_iload hx hb dX0_gather_43 (lv_at hl 4 rfl) ?_
        refine lv_iload_n hx hb dX0_gather_45 rfl (lv_at hl 1 rfl) ?_
        refine r_icmp_eq (tgt := 77) hx hb (by omega) (by omega) dX0_gather_46 (by decide) (fun c46 => ?_) (fun c46 => ?_)
        · refine r_const hx hb dX0_gather_77 ?_
          rw [show (0 : Int) = bI (cnts σ w les i) from (bI_f (fun q => q.1 c46)).symm]
          rw [← hWg]
          exact join78  _ _ _ hP hS hl trivial
        · refine lv_aload hx hb dX0_gather_49 (lv_at hl 5 rfl) ?_
          refine k_calliV (nL := 7) (C := RX7) (T := TX7) (N := 16) (ci := 7) hx hb hml hown hts hK hP hS hl.1 (c_X7_stands hi (by omega) (by omega)) rfl (Nat.le_of_ble_eq_true rfl) rfl (cwV 0 hts (gV lm_X0_57 ti_X7_stands tl_X7_stands tn_X7 tc_X7_stands) rfl rfl rfl (by decide +kernel) ⟨Nat.le_of_ble_eq_true rfl, Nat.le_of_ble_eq_true rfl⟩) rfl dX0_gather_51 ⟨Nat.zero_le _, Nat.zero_le _⟩ (by omega) (CE_w (by omega)) (fun r51 E1 H locs hq hP hS => ?_)
          obtain ⟨rfl, rfl⟩ := hq
          refine r_ifB_eq (tgt := 77) hx hb dX0_gather_54 (by decide) (fun c54 => ?_) (fun c54 => ?_)
          · refine r_const hx hb dX0_gather_77 ?_
            rw [show (0 : Int) = bI (cnts σ w les i) from (bI_f (fun q => c54 q.2.1)).symm]
            rw [← hWg]
            exact join78  _ _ _ hP hS hl trivial
          · refine lv_aload hx hb dX0_gather_57 (lv_at hl 5 rfl) ?_
            refine r_get (C := RX7) (T := TX7) (N := 16) (ci := 7) hx hb hts hi_X7 hown hK hP 10 rfl (by decide) lk_X0_63 (fun _ h9 => h9) dX0_gather_59 (by omega) (CE_w (by omega)) rfl ?_
            refine r_const hx hb dX0_gather_62 ?_
            refine r_icmp_ne (tgt := 73) hx hb (by omega) (by omega) dX0_gather_63 (by decide) (fun c63 => ?_) (fun c63 => ?_)
            · refine r_const hx hb dX0_gather_73 ?_
              refine lv_goto (tgt := 78) hx hb dX0_gather_74 (by decide) ?_
              rw [show (1 : Int) = bI (cnts σ w les i) from (bI_t ⟨c46, c54, fun _ => Or.inl c63⟩).symm]
              rw [← hWg]
              exact join78  _ _ _ hP hS hl trivial
            · refine lv_iload hx hb dX0_gather_66 (lv_at hl 4 rfl) ?_
              refine lv_iload hx hb dX0_gather_68 (lv_at hl 3 rfl) ?_
              refine r_icmp_ge (tgt := 77) hx hb (by omega) (by omega) dX0_gather_70 (by decide) (fun c70 => ?_) (fun c70 => ?_)
              · refine r_const hx hb dX0_gather_77 ?_
                rw [show (0 : Int) = bI (cnts σ w les i) from (bI_f (fun q => hb1.elim (fun z => by omega) (fun z => (q.2.2 z.2).elim (fun y => by omega) (fun y => by omega)))).symm]
                rw [← hWg]
                exact join78  _ _ _ hP hS hl trivial
              · refine r_const hx hb dX0_gather_73 ?_
                refine lv_goto (tgt := 78) hx hb dX0_gather_74 (by decide) ?_
                rw [show (1 : Int) = bI (cnts σ w les i) from (bI_t ⟨c46, c54, fun z => hb1.elim (fun y => absurd z y.2) (fun y => Or.inr (by omega))⟩).symm]
                rw [← hWg]
                exact join78  _ _ _ hP hS hl trivial
  rw [← hWg]
  exact loop13 _ 0 _ _ _ _ hP hS hl ⟨by omega, fun k k1 k2 => by omega, by rw [up_i (by decide), up_self]; exact Lst_0, by rw [up_self]; exact Lst_0, ⟨fun t j ht => by rw [up_t (by omega), up_t (by omega)], fun j hj => by rw [up_i (by omega), up_i (by omega)]⟩⟩ (Nat.lt_succ_self _)
abbrev rmX0_gatherAll : Room := { frames := 2, cells := 0, slots := 0, locals := 46 }
set_option maxRecDepth 100000 in
set_option maxHeartbeats 4000000 in
theorem c_X0_gatherAll {l : Launch} {D : va_G} {G : Nat → ClassId} {ad : Nat → Nat} {σ τ : Tb} (hi : kInj 189 ad) (hI : Inv σ) : Met l yX0_gatherAll wsX0_gatherAll rmX0_gatherAll (kPc D (tysG G) 189 ad (CE G ad σ τ) [.ref (ad 2)]) (kQv D 189 ad (fun E' => ∃ τ', E' = CE G ad σ τ' ∧ Gth σ τ' (cnts σ (-1) False) (nrP σ (cnts σ (-1) False) 0) ∧ Fr1 τ τ')) 0 0 (kA 189 ad) := by
  refine k_met (cc := cX0_gatherAll) (maxL := 1) (ret := none) (by decide) (Nat.le_of_ble_eq_true rfl) ?_
  intro P0 e0 s m0 below meth c0 ls hx hb hr hlocks hml hown hts hK hP hS hl
  replace hl : lv_has ls 1 [(0, _)] := hl
  replace hown : s.vm.findClass RX0 = some m0.cls := hown
  refine k_abs (fun Wg hWg => ?_)
  refine lv_aload_n hx hb dX0_gatherAll_0 rfl (lv_at hl 0 rfl) ?_
  refine r_const hx hb dX0_gatherAll_1 ?_
  refine r_lconst0 hx hb dX0_gatherAll_2 ?_
  refine r_bipush hx hb dX0_gatherAll_3 (by decide +kernel) ?_
  refine k_callvV (nL := 1) (C := RX0) (T := TX0) (N := 9) (ci := 0) hx hb hml hown hts hK hP hS hl.1 (c_X0_gather (les := False) hi hI (by omega) (by omega) (Or.inl ⟨rfl, id⟩)) rfl (Nat.le_of_ble_eq_true rfl) rfl (cwV 3 hts (gV lm_X0_37 ti_X0_gather tl_X0_gather tn_X0 tc_X0_gather) rfl rfl rfl (by decide +kernel) ⟨Nat.le_of_ble_eq_true rfl, Nat.le_of_ble_eq_true rfl⟩) rfl dX0_gatherAll_5 ⟨Nat.zero_le _, Nat.zero_le _⟩ (by omega) CE_2 (fun E1 H locs hq hP hS => ?_)
  exact k_vret hx hb hr hlocks hP hS dX0_gatherAll_8 hq

