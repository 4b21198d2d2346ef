/-! ===== pays, take ===== -/
theorem mulb {a b A B : Int} (ha : 0 ≤ a ∧ a ≤ A) (hb : 0 ≤ b ∧ b ≤ B) : 0 ≤ a * b ∧ a * b ≤ A * B :=
  ⟨Int.mul_nonneg ha.1 hb.1, Int.mul_le_mul ha.2 hb.2 hb.1 (by omega)⟩
theorem rnk_r {σ : Tb} (h : Inv σ) {w : Int} (hw : 0 ≤ w ∧ w < σ 0 2) : 0 ≤ rnkC σ w ∧ rnkC σ w ≤ 8 := by
  obtain ⟨_, ⟨_, hs, hq, _⟩, _⟩ := Inv_w h hw
  have := sumI_b (f := fun k => σ 4 (PQ σ w k)) (n := σ 18 w) (M := 2) (by omega) (fun k h1 h2 => by
    have hp := Inv_p h (hq k h1 h2).1
    unfold IP at hp
    show 0 ≤ σ 4 (PQ σ w k) ∧ σ 4 (PQ σ w k) ≤ 2
    omega)
  unfold rnkC
  omega
theorem cst_r {σ : Tb} (h : Inv σ) {w : Int} (hw : 0 ≤ w ∧ w < σ 0 2) : 1 ≤ cstC σ w ∧ cstC σ w ≤ 7200 := by
  obtain ⟨hN, ⟨_, hs, _⟩, _⟩ := Inv_w h hw
  have hr := rnk_r h hw
  unfold IN at hN
  unfold cstC
  have h1 : 25 ≤ σ 18 w * (20 + 5 * σ 13 w) ∧ σ 18 w * (20 + 5 * σ 13 w) ≤ 160 := by
    rcases (show σ 18 w = 1 ∨ σ 18 w = 2 ∨ σ 18 w = 3 ∨ σ 18 w = 4 by omega) with e | e | e | e <;> rw [e] <;> omega
  generalize σ 18 w * (20 + 5 * σ 13 w) = X at h1 ⊢
  have h2 := mulb (a := σ 14 w) (b := X + 10 * rnkC σ w) (A := 30) (B := 240) (by omega) (by omega)
  have h3 := Int.mul_le_mul (show 1 ≤ σ 14 w by omega) (show 1 ≤ X + 10 * rnkC σ w by omega) (by omega) (by omega)
  omega
noncomputable def payF (w j a b : Int) : Int := cif (w < j) (((if a < b then b else a) + (if b < a then b else a) / 4) - b * ((if a < b then b else a) + (if b < a then b else a) / 4) / (a + b)) (a * ((if a < b then b else a) + (if b < a then b else a) / 4) / (a + b))
noncomputable def payC (σ : Tb) (w : Int) : Int := cif (0 ≤ σ 23 w) (payF w (σ 23 w) (cstC σ w) (cstC σ (σ 23 w))) (cstC σ w)
theorem IJ_r {σ : Tb} (h : Inv σ) {w : Int} (hw : 0 ≤ w ∧ w < σ 0 2) : σ 23 w = -1 ∨ (0 ≤ σ 23 w ∧ σ 23 w < σ 0 2) := by
  obtain ⟨_, _, hJ⟩ := Inv_w h hw
  rcases hJ with e | e
  · exact Or.inl e
  · exact Or.inr e.1
abbrev rmX5_pays : Room := { frames := 2, cells := 0, slots := 0, locals := 44 }
set_option maxRecDepth 100000 in
set_option maxHeartbeats 4000000 in
theorem c_X5_pays {l : Launch} {D : va_G} {G : Nat → ClassId} {ad : Nat → Nat} {σ τ : Tb} (hi : kInj 189 ad) {w : Int} (hI : Inv σ) (hw : 0 ≤ w ∧ w < σ 0 2) : Met l yX5_pays wsX5_pays rmX5_pays (kPc D (tysG G) 189 ad (CE G ad σ τ) [.ref (ad 1), .ref (ad (69 + w.toNat))]) (kQi D 189 ad (fun r E' => r = payC σ w ∧ E' = CE G ad σ τ)) 0 0 (kA 189 ad) := by
  refine k_met (cc := cX5_pays) (maxL := 6) (ret := (some .int)) (by decide) (Nat.le_of_ble_eq_true rfl) ?_
  intro P0 e0 s m0 below meth c0 ls hx hb hr hlocks hml hown hts hK hP hS hl
  replace hl : lv_has ls 6 [(0, _), (1, _)] := hl
  replace hown : s.vm.findClass RX5 = some m0.cls := hown
  refine k_abs (fun Wg hWg => ?_)
  have h0 := Inv_0 hI
  have hJ := IJ_r hI hw
  have hc := cst_r hI hw
  refine lv_aload_n hx hb dX5_pays_0 rfl (lv_at hl 0 rfl) ?_
  refine lv_aload_n hx hb dX5_pays_1 rfl (lv_at hl 1 rfl) ?_
  refine k_calliV (nL := 6) (C := RX5) (T := TX5) (N := 8) (ci := 5) hx hb hml hown hts hK hP hS hl.1 (c_X5_costAlone hi hI hw) rfl (Nat.le_of_ble_eq_true rfl) rfl (cwV 1 hts (gV lm_X5_92 ti_X5_costAlone tl_X5_costAlone tn_X5 tc_X5_costAlone) rfl rfl rfl (by decide +kernel) ⟨Nat.le_of_ble_eq_true rfl, Nat.le_of_ble_eq_true rfl⟩) rfl dX5_pays_2 ⟨Nat.zero_le _, Nat.zero_le _⟩ (by omega) CE_1 (fun r2 E1 H locs hq hP hS => ?_)
  obtain ⟨rfl, rfl⟩ := hq
  refine lv_istore_n hx hb dX5_pays_5 rfl hl (by decide) rfl (fun ls hl => ?_)
  replace hl : lv_has ls 6 [(0, _), (1, _), (2, _)] := lv_sub hl [1, 2, 0] rfl
  refine lv_aload_n hx hb dX5_pays_6 rfl (lv_at hl 0 rfl) ?_
  refine lv_aload_n hx hb dX5_pays_7 rfl (lv_at hl 1 rfl) ?_
  refine r_get (C := RX7) (T := TX7) (N := 16) (ci := 7) hx hb hts hi_X7 hown hK hP 14 rfl (by decide) lk_X5_63 (fun _ h9 => h9) dX5_pays_8 (by omega) (CE_w (by omega)) rfl ?_
  refine k_calliV (nL := 6) (C := RX5) (T := TX5) (N := 8) (ci := 5) hx hb hml hown hts hK hP hS hl.1 (c_X5_hasWork hi (by omega) h0.2.2.1) rfl (Nat.le_of_ble_eq_true rfl) rfl (cwV 1 hts (gV lm_X5_66 ti_X5_hasWork tl_X5_hasWork tn_X5 tc_X5_hasWork) rfl rfl rfl (by decide +kernel) ⟨Nat.le_of_ble_eq_true rfl, Nat.le_of_ble_eq_true rfl⟩) rfl dX5_pays_11 ⟨Nat.zero_le _, Nat.zero_le _⟩ (by omega) CE_1 (fun r11 E1 H locs hq hP hS => ?_)
  obtain ⟨rfl, rfl⟩ := hq
  refine r_ifB_ne (tgt := 19) hx hb dX5_pays_14 (by decide) (fun c14 => ?_) (fun c14 => ?_)
  · have hcj := cst_r hI c14
    refine lv_aload_n hx hb dX5_pays_19 rfl (lv_at hl 0 rfl) ?_
    refine lv_aload_n hx hb dX5_pays_20 rfl (lv_at hl 0 rfl) ?_
    refine r_get (C := RX5) (T := TX5) (N := 8) (ci := 5) hx hb hts hi_X5 hown hK hP 2 rfl (by decide) lk_X5_25 (fun _ h9 => h9) dX5_pays_21 (by omega) CE_1 rfl ?_
    refine lv_aload_n hx hb dX5_pays_24 rfl (lv_at hl 1 rfl) ?_
    refine r_get (C := RX7) (T := TX7) (N := 16) (ci := 7) hx hb hts hi_X7 hown hK hP 14 rfl (by decide) lk_X5_63 (fun _ h9 => h9) dX5_pays_25 (by omega) (CE_w (by omega)) rfl ?_
    refine r_aald hx hb hK hP 5 rfl dX5_pays_28 (by omega) rfl (by omega) (by omega) rfl ?_
    refine k_calliV (nL := 6) (C := RX5) (T := TX5) (N := 8) (ci := 5) hx hb hml hown hts hK hP hS hl.1 (c_X5_costAlone hi hI c14) rfl (Nat.le_of_ble_eq_true rfl) rfl (cwV 1 hts (gV lm_X5_92 ti_X5_costAlone tl_X5_costAlone tn_X5 tc_X5_costAlone) rfl rfl rfl (by decide +kernel) ⟨Nat.le_of_ble_eq_true rfl, Nat.le_of_ble_eq_true rfl⟩) rfl dX5_pays_29 ⟨Nat.zero_le _, Nat.zero_le _⟩ (by omega) CE_1 (fun r29 E1 H locs hq hP hS => ?_)
    obtain ⟨rfl, rfl⟩ := hq
    refine lv_istore_n hx hb dX5_pays_32 rfl hl (by decide) rfl (fun ls hl => ?_)
    replace hl : lv_has ls 6 [(0, _), (1, _), (2, _), (3, _)] := lv_sub hl [1, 2, 3, 0] rfl
    refine lv_iload_n hx hb dX5_pays_33 rfl (lv_at hl 2 rfl) ?_
    refine lv_iload_n hx hb dX5_pays_34 rfl (lv_at hl 3 rfl) ?_
    refine r_add hx hb dX5_pays_35 ?_
    refine lv_istore hx hb dX5_pays_36 hl (by decide) rfl (fun ls hl => ?_)
    replace hl : lv_has ls 6 [(0, _), (1, _), (2, _), (3, _), (4, _)] := lv_sub hl [1, 2, 3, 4, 0] rfl
    refine lv_iload hx hb dX5_pays_38 (lv_at hl 4 rfl) ?_
    refine r_if_gt (tgt := 45) hx hb (by omega) dX5_pays_40 (by decide) (fun c40 => ?_) (fun c40 => ?_)
    · refine lv_iload_n hx hb dX5_pays_45 rfl (lv_at hl 2 rfl) ?_
      refine lv_iload_n hx hb dX5_pays_46 rfl (lv_at hl 3 rfl) ?_
      refine r_mmax hx hb hml hl.1 hown hts mm_X5_95 (Nat.le_of_ble_eq_true rfl) (Nat.le_of_ble_eq_true rfl) ⟨Nat.zero_le _, Nat.zero_le _⟩ (by omega) (by omega) dX5_pays_47 ?_
      refine lv_iload_n hx hb dX5_pays_50 rfl (lv_at hl 2 rfl) ?_
      refine lv_iload_n hx hb dX5_pays_51 rfl (lv_at hl 3 rfl) ?_
      refine r_mmin hx hb hml hl.1 hown hts mm_X5_101 (Nat.le_of_ble_eq_true rfl) (Nat.le_of_ble_eq_true rfl) ⟨Nat.zero_le _, Nat.zero_le _⟩ (by omega) (by omega) dX5_pays_52 ?_
      have hm1 : 0 ≤ (if cstC σ (σ 23 w) < cstC σ w then cstC σ (σ 23 w) else cstC σ w) ∧ (if cstC σ (σ 23 w) < cstC σ w then cstC σ (σ 23 w) else cstC σ w) ≤ 7200 := by split <;> omega
      have hm2 : 0 ≤ (if cstC σ w < cstC σ (σ 23 w) then cstC σ (σ 23 w) else cstC σ w) ∧ (if cstC σ w < cstC σ (σ 23 w) then cstC σ (σ 23 w) else cstC σ w) ≤ 7200 := by split <;> omega
      refine r_const hx hb dX5_pays_55 ?_
      refine r_div hx hb (by omega) (by omega) dX5_pays_56 ?_
      refine r_add hx hb dX5_pays_57 ?_
      refine lv_istore hx hb dX5_pays_58 hl (by decide) rfl (fun ls hl => ?_)
      replace hl : lv_has ls 6 [(0, _), (1, _), (2, _), (3, _), (4, _), (5, _)] := lv_sub hl [1, 2, 3, 4, 5, 0] rfl
      refine lv_aload_n hx hb dX5_pays_60 rfl (lv_at hl 1 rfl) ?_
      refine r_get (C := RX7) (T := TX7) (N := 16) (ci := 7) hx hb hts hi_X7 hown hK hP 0 rfl (by decide) lk_X5_104 (fun _ h9 => h9) dX5_pays_61 (by omega) (CE_w (by omega)) rfl ?_
      refine lv_aload_n hx hb dX5_pays_64 rfl (lv_at hl 1 rfl) ?_
      refine r_get (C := RX7) (T := TX7) (N := 16) (ci := 7) hx hb hts hi_X7 hown hK hP 14 rfl (by decide) lk_X5_63 (fun _ h9 => h9) dX5_pays_65 (by omega) (CE_w (by omega)) rfl ?_
      have hm3 := mulb (a := cstC σ (σ 23 w)) (b := (if cstC σ w < cstC σ (σ 23 w) then cstC σ (σ 23 w) else cstC σ w) + (if cstC σ (σ 23 w) < cstC σ w then cstC σ (σ 23 w) else cstC σ w) / 4) (A := 7200) (B := 9000) (by omega) (by omega)
      have hm4 := mulb (a := cstC σ w) (b := (if cstC σ w < cstC σ (σ 23 w) then cstC σ (σ 23 w) else cstC σ w) + (if cstC σ (σ 23 w) < cstC σ w then cstC σ (σ 23 w) else cstC σ w) / 4) (A := 7200) (B := 9000) (by omega) (by omega)
      refine r_icmp_ge (tgt := 84) hx hb (by omega) (by omega) dX5_pays_68 (by decide) (fun c68 => ?_) (fun c68 => ?_)
      · refine lv_iload_n hx hb dX5_pays_84 rfl (lv_at hl 2 rfl) ?_
        refine lv_iload hx hb dX5_pays_85 (lv_at hl 5 rfl) ?_
        refine r_mul hx hb dX5_pays_87 ?_
        refine lv_iload hx hb dX5_pays_88 (lv_at hl 4 rfl) ?_
        refine r_div hx hb (by omega) (by omega) dX5_pays_90 ?_
        exact k_iret hx hb hr hlocks hP hS dX5_pays_91 ⟨by rw [payC, cif_t (by omega), payF, cif_f (by omega)], rfl⟩
      · refine lv_iload hx hb dX5_pays_71 (lv_at hl 5 rfl) ?_
        refine lv_iload_n hx hb dX5_pays_73 rfl (lv_at hl 3 rfl) ?_
        refine lv_iload hx hb dX5_pays_74 (lv_at hl 5 rfl) ?_
        refine r_mul hx hb dX5_pays_76 ?_
        refine lv_iload hx hb dX5_pays_77 (lv_at hl 4 rfl) ?_
        refine r_div hx hb (by omega) (by omega) dX5_pays_79 ?_
        refine r_sub hx hb dX5_pays_80 ?_
        refine lv_goto (tgt := 91) hx hb dX5_pays_81 (by decide) ?_
        exact k_iret hx hb hr hlocks hP hS dX5_pays_91 ⟨by rw [payC, cif_t (by omega), payF, cif_t (by omega)], rfl⟩
    · omega
  · refine lv_iload_n hx hb dX5_pays_17 rfl (lv_at hl 2 rfl) ?_
    exact k_iret hx hb hr hlocks hP hS dX5_pays_18 ⟨by rw [payC, cif_f (by omega)], rfl⟩
/-- the places above a, up to the n-th, moved on by one -/
def shf (σ : Tb) (w a n : Int) : Tb := fun t i => if i = w ∧ 25 + a < (t : Int) ∧ (t : Int) ≤ 25 + n then σ (t - 1) w else σ t i
theorem shf_0 (σ : Tb) (w n : Int) : shf σ w n n = σ := by
  funext t i
  unfold shf
  rw [if_neg (by omega)]
theorem shf_s {σ : Tb} {w a n : Int} (h : 0 < a ∧ a ≤ n) : up (shf σ w a n) (25 + a.toNat) w (PQ (shf σ w a n) w (a - 1)) = shf σ w (a - 1) n := by
  have e1 : PQ (shf σ w a n) w (a - 1) = σ (25 + (a - 1).toNat) w := by
    unfold PQ shf
    rw [if_neg (by omega)]
  rw [e1]
  funext t i
  unfold up
  by_cases h1 : t = 25 + a.toNat ∧ i = w
  · obtain ⟨rfl, rfl⟩ := h1
    rw [if_pos ⟨rfl, rfl⟩]
    unfold shf
    rw [if_pos (by omega), show 25 + a.toNat - 1 = 25 + (a - 1).toNat by omega]
  · rw [if_neg h1]
    unfold shf
    by_cases h2 : i = w ∧ 25 + a < (t : Int) ∧ (t : Int) ≤ 25 + n
    · rw [if_pos h2, if_pos (by omega)]
    · rw [if_neg h2, if_neg (by omega)]
theorem shf_o {σ : Tb} {w a n i : Int} {t : Nat} (h : i ≠ w ∨ (t : Int) ≤ 25 + a ∨ 25 + n < (t : Int)) : shf σ w a n t i = σ t i := by
  unfold shf
  rw [if_neg (by omega)]
/-- where a piece goes among a work's own -/
def insOk (σ : Tb) (w p a : Int) : Prop := (0 ≤ a ∧ a ≤ σ 18 w) ∧ (∀ k, 0 ≤ k → k < a → PQ σ w k ≤ p) ∧ (∀ k, a ≤ k → k < σ 18 w → p < PQ σ w k)
noncomputable def insA (σ : Tb) (w p : Int) : Int := Classical.epsilon (insOk σ w p)
theorem insA_eq {σ : Tb} {w p a : Int} (h : insOk σ w p a) : insA σ w p = a := by
  have h2 : insOk σ w p (insA σ w p) := Classical.epsilon_spec (p := insOk σ w p) ⟨a, h⟩
  generalize insA σ w p = b at h2
  obtain ⟨a1, a2, a3⟩ := h
  obtain ⟨b1, b2, b3⟩ := h2
  rcases Int.lt_trichotomy a b with e | e | e
  · have := b2 a (by omega) e; have := a3 a (by omega) (by omega); omega
  · exact e.symm
  · have := a2 b (by omega) e; have := b3 b (by omega) (by omega); omega
noncomputable def insQ (σ : Tb) (w p : Int) : Tb := up (up (up (shf σ w (insA σ w p) (σ 18 w)) (25 + (insA σ w p).toNat) w p) 17 w (((σ 17 w).toNat ||| 2 ^ p.toNat : Nat) : Int)) 18 w (σ 18 w + 1)
abbrev rmX7_take : Room := { frames := 0, cells := 0, slots := 0, locals := 0 }
set_option maxRecDepth 100000 in
set_option maxHeartbeats 4000000 in
theorem c_X7_take {l : Launch} {D : va_G} {G : Nat → ClassId} {ad : Nat → Nat} {σ τ : Tb} (hi : kInj 189 ad) {w p : Int} (hw : 0 ≤ w ∧ w < 60) (hp : 0 ≤ p ∧ p < 40) (hn : 0 ≤ σ 18 w ∧ σ 18 w ≤ 3) (hm : 0 ≤ σ 17 w ∧ σ 17 w < 1099511627776) (hq0 : ∀ k, 0 ≤ k → k < σ 18 w → 0 ≤ PQ σ w k ∧ PQ σ w k < 40) (hs0 : ∀ j k, 0 ≤ j → j < k → k < σ 18 w → PQ σ w j < PQ σ w k) : Met l yX7_take wsX7_take rmX7_take (kPc D (tysG G) 189 ad (CE G ad σ τ) [.ref (ad (69 + w.toNat)), .int (iI p)]) (kQv D 189 ad (fun E' => E' = CE G ad (insQ σ w p) τ)) 0 0 (kA 189 ad) := by
  refine k_met (cc := cX7_take) (maxL := 3) (ret := none) (by decide) (Nat.le_of_ble_eq_true rfl) ?_
  intro P0 e0 s m0 below meth c0 ls hx hb hr hlocks hml hown hts hK hP hS hl
  replace hl : lv_has ls 3 [(0, _), (1, _)] := hl
  replace hown : s.vm.findClass RX7 = some m0.cls := hown
  refine k_abs (fun Wg hWg => ?_)
  have h1 : (σ 17 w).toNat < 2 ^ 63 := by omega
  have h2 : 2 ^ p.toNat < 2 ^ 63 := Nat.pow_lt_pow_right (by decide) (by omega)
  refine lv_aload_n hx hb dX7_take_0 rfl (lv_at hl 0 rfl) ?_
  refine r_get (C := RX7) (T := TX7) (N := 16) (ci := 7) hx hb hts hi_X7 hown hK hP 2 rfl (by decide) lk_X7_28 (fun _ h9 => h9) dX7_take_1 (by omega) (CE_w (by omega)) rfl ?_
  refine r_const hx hb dX7_take_4 ?_
  refine r_icmp_lt (tgt := 9) hx hb (by omega) (by omega) dX7_take_5 (by decide) (fun c5 => ?_) (fun c5 => ?_)
  · refine lv_aload_n hx hb dX7_take_9 rfl (lv_at hl 0 rfl) ?_
    refine r_get (C := RX7) (T := TX7) (N := 16) (ci := 7) hx hb hts hi_X7 hown hK hP 2 rfl (by decide) lk_X7_28 (fun _ h9 => h9) dX7_take_10 (by omega) (CE_w (by omega)) rfl ?_
    refine lv_istore_n hx hb dX7_take_13 rfl hl (by decide) rfl (fun ls hl => ?_)
    replace hl : lv_has ls 3 [(0, _), (1, _), (2, _)] := lv_sub hl [1, 2, 0] rfl
    have join50 : ∀ (a : Int) (H : Heap) (locs : List Loc) (ls : Array Slot), va_P D vwCl (kw 189 ad (CE G ad (shf σ w a (σ 18 w)) τ)) H → va_S (kA 189 ad) s.heap H locs → lv_has ls 3 [(0, .ref (ad (69 + w.toNat))), (1, .int (iI p)), (2, .int (iI a))] → (insOk σ w p a) → Wg H locs (F0 m0 50 ls []) := by
      intro a H locs ls hP hS hl hv50
      rw [hWg]
      have hv := hv50.1
      have e17 : up (shf σ w a (σ 18 w)) (25 + a.toNat) w p 17 w = σ 17 w := by rw [up_t (by omega)]; exact shf_o (by omega)
      have e18 : up (up (shf σ w a (σ 18 w)) (25 + a.toNat) w p) 17 w (((σ 17 w).toNat ||| 2 ^ p.toNat : Nat) : Int) 18 w = σ 18 w := by rw [up_t (by omega), up_t (by omega)]; exact shf_o (by omega)
      refine lv_aload_n hx hb dX7_take_50 rfl (lv_at hl 0 rfl) ?_
      refine r_get (C := RX7) (T := TX7) (N := 16) (ci := 7) hx hb hts hi_X7 hown hK hP 1 rfl (by decide) lk_X7_9 (fun _ h9 => h9) dX7_take_51 (by omega) (CE_w (by omega)) rfl ?_
      refine lv_iload_n hx hb dX7_take_54 rfl (lv_at hl 2 rfl) ?_
      refine lv_iload_n hx hb dX7_take_55 rfl (lv_at hl 1 rfl) ?_
      refine r_iast hx hb hi hK hP hS 0 rfl dX7_take_56 (by omega) (CE_q (by omega)) (by omega) (by omega) (cu_q (by omega) (by omega)) (fun H locs hP hS => ?_)
      refine lv_aload_n hx hb dX7_take_57 rfl (lv_at hl 0 rfl) ?_
      refine lv_dup hx hb dX7_take_58 rfl ?_
      refine r_get (C := RX7) (T := TX7) (N := 16) (ci := 7) hx hb hts hi_X7 hown hK hP 3 rfl (by decide) lk_X7_31 (fun _ h9 => h9) dX7_take_59 (by omega) (CE_w (by omega)) rfl ?_
      rw [e17]
      refine r_lconst1 hx hb dX7_take_62 ?_
      refine lv_iload_n hx hb dX7_take_63 rfl (lv_at hl 1 rfl) ?_
      refine r_lshl1 hx hb dX7_take_64 (by omega) ?_
      refine r_lor hx hb dX7_take_65 (by omega) (by omega) ?_
      refine r_put (C := RX7) (T := TX7) (N := 16) (ci := 7) hx hb hi hts hi_X7 tyX7 tyX7_ok nmX7 hown hK hP hS 3 rfl (by decide) lk_X7_31 (fun _ h9 => h9) rfl (ty := .long) (by decide +kernel) rfl rfl dX7_take_66 (by omega) (CE_w (by omega)) (Nat.le_of_ble_eq_true rfl) (cu_w_mask (by omega)) (fun H locs hP hS => ?_)
      refine lv_aload_n hx hb dX7_take_69 rfl (lv_at hl 0 rfl) ?_
      refine lv_dup hx hb dX7_take_70 rfl ?_
      refine r_get (C := RX7) (T := TX7) (N := 16) (ci := 7) hx hb hts hi_X7 hown hK hP 2 rfl (by decide) lk_X7_28 (fun _ h9 => h9) dX7_take_71 (by omega) (CE_w (by omega)) rfl ?_
      rw [e18]
      refine r_const hx hb dX7_take_74 ?_
      refine r_add hx hb dX7_take_75 ?_
      refine r_put (C := RX7) (T := TX7) (N := 16) (ci := 7) hx hb hi hts hi_X7 tyX7 tyX7_ok nmX7 hown hK hP hS 2 rfl (by decide) lk_X7_28 (fun _ h9 => h9) rfl (ty := .int) (by decide +kernel) rfl rfl dX7_take_76 (by omega) (CE_w (by omega)) (Nat.le_of_ble_eq_true rfl) (cu_w_size (by omega)) (fun H locs hP hS => ?_)
      exact k_vret hx hb hr hlocks hP hS dX7_take_79 (by rw [insQ, insA_eq hv50])
    have hP : va_P D vwCl (kw 189 ad (CE G ad (shf σ w (σ 18 w) (σ 18 w)) τ)) s.heap := by rw [shf_0]; exact hP
    have loop14 : ∀ (n : Nat) (a : Int) (H : Heap) (locs : List Loc) (ls : Array Slot), va_P D vwCl (kw 189 ad (CE G ad (shf σ w a (σ 18 w)) τ)) H → va_S (kA 189 ad) s.heap H locs → lv_has ls 3 [(0, .ref (ad (69 + w.toNat))), (1, .int (iI p)), (2, .int (iI a))] → ((0 ≤ a ∧ a ≤ σ 18 w) ∧ (∀ k, a ≤ k → k < σ 18 w → p < PQ σ w k)) → (a).toNat < n → Wg H locs (F0 m0 14 ls []) := by
      intro n
      induction n with
      | zero => intro a H locs ls _ _ _ _ hn; omega
      | succ n ih14 =>
        intro a H locs ls hP hS hl hv14 hn14
        rw [hWg]
        have hv := hv14.1
        refine lv_iload_n hx hb dX7_take_14 rfl (lv_at hl 2 rfl) ?_
        refine r_if_le (tgt := 50) hx hb (by omega) dX7_take_15 (by decide) (fun c15 => ?_) (fun c15 => ?_)
        · rw [← hWg]
          exact join50 a _ _ _ hP hS hl ⟨hv, fun k h1 h2 => by omega, hv14.2⟩
        · have e1 : PQ (shf σ w a (σ 18 w)) w (a - 1) = PQ σ w (a - 1) := shf_o (by omega)
          have hq1 := hq0 (a - 1) (by omega) (by omega)
          refine lv_aload_n hx hb dX7_take_18 rfl (lv_at hl 0 rfl) ?_
          refine r_get (C := RX7) (T := TX7) (N := 16) (ci := 7) hx hb hts hi_X7 hown hK hP 1 rfl (by decide) lk_X7_9 (fun _ h9 => h9) dX7_take_19 (by omega) (CE_w (by omega)) rfl ?_
          refine lv_iload_n hx hb dX7_take_22 rfl (lv_at hl 2 rfl) ?_
          refine r_const hx hb dX7_take_23 ?_
          refine r_sub hx hb dX7_take_24 ?_
          refine r_iald hx hb hK hP 0 rfl dX7_take_25 (by omega) (CE_q (by omega)) (by omega) (by omega) tQ_PQ ?_
          refine lv_iload_n hx hb dX7_take_26 rfl (lv_at hl 1 rfl) ?_
          rw [e1]
          refine r_icmp_le (tgt := 50) hx hb (by omega) (by omega) dX7_take_27 (by decide) (fun c27 => ?_) (fun c27 => ?_)
          · have hk : ∀ k, 0 ≤ k → k < a → PQ σ w k ≤ p := by
              intro k k1 k2
              rcases (show k = a - 1 ∨ k < a - 1 by omega) with e | e
              · rw [e]; exact c27
              · have := hs0 k (a - 1) k1 e (by omega)
                omega
            rw [← hWg]
            exact join50 a _ _ _ hP hS hl ⟨hv, hk, hv14.2⟩
          · refine lv_aload_n hx hb dX7_take_30 rfl (lv_at hl 0 rfl) ?_
            refine r_get (C := RX7) (T := TX7) (N := 16) (ci := 7) hx hb hts hi_X7 hown hK hP 1 rfl (by decide) lk_X7_9 (fun _ h9 => h9) dX7_take_31 (by omega) (CE_w (by omega)) rfl ?_
            refine lv_iload_n hx hb dX7_take_34 rfl (lv_at hl 2 rfl) ?_
            refine lv_aload_n hx hb dX7_take_35 rfl (lv_at hl 0 rfl) ?_
            refine r_get (C := RX7) (T := TX7) (N := 16) (ci := 7) hx hb hts hi_X7 hown hK hP 1 rfl (by decide) lk_X7_9 (fun _ h9 => h9) dX7_take_36 (by omega) (CE_w (by omega)) rfl ?_
            refine lv_iload_n hx hb dX7_take_39 rfl (lv_at hl 2 rfl) ?_
            refine r_const hx hb dX7_take_40 ?_
            refine r_sub hx hb dX7_take_41 ?_
            refine r_iald hx hb hK hP 0 rfl dX7_take_42 (by omega) (CE_q (by omega)) (by omega) (by omega) tQ_PQ ?_
            refine r_iast hx hb hi hK hP hS 0 rfl dX7_take_43 (by omega) (CE_q (by omega)) (by omega) (by omega) (cu_q (by omega) (by omega)) (fun H locs hP hS => ?_)
            rw [shf_s (by omega)] at hP
            refine r_iinc hx hb dX7_take_44 hl (k := 2) rfl (by decide) (fun ls hl => ?_)
            replace hl : lv_has ls 3 [(0, _), (1, _), (2, _)] := lv_sub hl [1, 2, 0] rfl
            refine lv_goto (tgt := 14) hx hb dX7_take_47 (by decide) ?_
            have hk : ∀ k, a - 1 ≤ k → k < σ 18 w → p < PQ σ w k := by
              intro k k1 k2
              rcases (show k = a - 1 ∨ a ≤ k by omega) with e | e
              · rw [e]; omega
              · exact hv14.2 k e k2
            rw [← hWg]
            exact ih14 (a - 1) _ _ _ hP hS hl ⟨by omega, hk⟩ (by omega)
    rw [← hWg]
    exact loop14 _ (σ 18 w) _ _ _ hP hS hl ⟨by omega, fun k k1 k2 => by omega⟩ (Nat.lt_succ_self _)
  · omega
/-! ===== the company ===== -/
noncomputable def lnO (σ : Tb) (C : Int → Prop) (o day : Int) : Int := cif (σ 20 o ≤ day ∧ day ≤ σ 21 o) (cif (0 ≤ σ 23 o ∧ C (σ 23 o) ∧ (σ 20 (σ 23 o) ≤ day ∧ day ≤ σ 21 (σ 23 o)) ∧ (σ 13 o < σ 13 (σ 23 o) ∨ (σ 13 (σ 23 o) = σ 13 o ∧ σ 23 o < o))) 0 (σ 13 o)) 0
noncomputable def lnA (σ : Tb) (C : Int → Prop) (w day : Int) : Int := cif (0 ≤ σ 23 w ∧ C (σ 23 w) ∧ (σ 20 (σ 23 w) ≤ day ∧ day ≤ σ 21 (σ 23 w))) (cif (σ 13 (σ 23 w) < σ 13 w) (σ 13 w - σ 13 (σ 23 w)) 0) (σ 13 w)
def Cnt (σ τ : Tb) (C : Int → Prop) : Prop := ∀ i, 0 ≤ i → i < σ 0 2 → τ 0 i = bI (C i)
theorem lnO_r {σ : Tb} {C : Int → Prop} (h : Inv σ) {o day : Int} (ho : 0 ≤ o ∧ o < σ 0 2) : 0 ≤ lnO σ C o day ∧ lnO σ C o day ≤ 4 := by
  obtain ⟨hN, _⟩ := Inv_w h ho
  unfold IN at hN
  unfold lnO
  by_cases h1 : σ 20 o ≤ day ∧ day ≤ σ 21 o
  · rw [cif_t h1]
    by_cases h2 : 0 ≤ σ 23 o ∧ C (σ 23 o) ∧ (σ 20 (σ 23 o) ≤ day ∧ day ≤ σ 21 (σ 23 o)) ∧ (σ 13 o < σ 13 (σ 23 o) ∨ (σ 13 (σ 23 o) = σ 13 o ∧ σ 23 o < o))
    · rw [cif_t h2]; omega
    · rw [cif_f h2]; omega
  · rw [cif_f h1]; omega
abbrev rmX0_lanesOf : Room := { frames := 0, cells := 0, slots := 0, locals := 0 }
set_option maxRecDepth 100000 in
set_option maxHeartbeats 4000000 in
theorem c_X0_lanesOf {l : Launch} {D : va_G} {G : Nat → ClassId} {ad : Nat → Nat} {σ τ : Tb} (hi : kInj 189 ad) {C : Int → Prop} {o day : Int} (hI : Inv σ) (ho : 0 ≤ o ∧ o < σ 0 2) (hd : (-2147483648 ≤ day ∧ day < 2147483648)) (hC : Cnt σ τ C) : Met l yX0_lanesOf wsX0_lanesOf rmX0_lanesOf (kPc D (tysG G) 189 ad (CE G ad σ τ) [.ref (ad 2), .ref (ad (69 + o.toNat)), .int (iI day)]) (kQi D 189 ad (fun z E' => z = lnO σ C o day ∧ E' = CE G ad σ τ)) 0 0 (kA 189 ad) := by
  refine k_met (cc := cX0_lanesOf) (maxL := 5) (ret := (some .int)) (by decide) (Nat.le_of_ble_eq_true rfl) ?_
  intro P0 e0 s m0 below meth c0 ls hx hb hr hlocks hml hown hts hK hP hS hl
  replace hl : lv_has ls 5 [(0, _), (1, _), (2, _)] := hl
  replace hown : s.vm.findClass RX0 = some m0.cls := hown
  refine k_abs (fun Wg hWg => ?_)
  have h0 := Inv_0 hI
  obtain ⟨hN, hQ, _⟩ := Inv_w hI ho
  have hB := IN_b hI ho
  have hJ := IJ_r hI ho
  unfold IN at hN
  refine lv_iload_n hx hb dX0_lanesOf_0 rfl (lv_at hl 2 rfl) ?_
  refine lv_aload_n hx hb dX0_lanesOf_1 rfl (lv_at hl 1 rfl) ?_
  refine r_get (C := RX7) (T := TX7) (N := 16) (ci := 7) hx hb hts hi_X7 hown hK hP 11 rfl (by decide) lk_X0_103 (fun _ h9 => h9) dX0_lanesOf_2 (by omega) (CE_w (by omega)) rfl ?_
  refine r_icmp_lt (tgt := 16) hx hb (by omega) (by omega) dX0_lanesOf_5 (by decide) (fun c5 => ?_) (fun c5 => ?_)
  · refine r_const hx hb dX0_lanesOf_16 ?_
    exact k_iret hx hb hr hlocks hP hS dX0_lanesOf_17 ⟨by rw [lnO, cif_f (by omega)], rfl⟩
  · refine lv_iload_n hx hb dX0_lanesOf_8 rfl (lv_at hl 2 rfl) ?_
    refine lv_aload_n hx hb dX0_lanesOf_9 rfl (lv_at hl 1 rfl) ?_
    refine r_get (C := RX7) (T := TX7) (N := 16) (ci := 7) hx hb hts hi_X7 hown hK hP 12 rfl (by decide) lk_X0_94 (fun _ h9 => h9) dX0_lanesOf_10 (by omega) (CE_w (by omega)) rfl ?_
    refine r_icmp_le (tgt := 18) hx hb (by omega) (by omega) dX0_lanesOf_13 (by decide) (fun c13 => ?_) (fun c13 => ?_)
    · refine lv_aload_n hx hb dX0_lanesOf_18 rfl (lv_at hl 1 rfl) ?_
      refine r_get (C := RX7) (T := TX7) (N := 16) (ci := 7) hx hb hts hi_X7 hown hK hP 14 rfl (by decide) lk_X0_113 (fun _ h9 => h9) dX0_lanesOf_19 (by omega) (CE_w (by omega)) rfl ?_
      refine lv_istore_n hx hb dX0_lanesOf_22 rfl hl (by decide) rfl (fun ls hl => ?_)
      replace hl : lv_has ls 5 [(0, _), (1, _), (2, _), (3, _)] := lv_sub hl [1, 2, 3, 0] rfl
      refine lv_iload_n hx hb dX0_lanesOf_23 rfl (lv_at hl 3 rfl) ?_
      refine r_if_lt (tgt := 47) hx hb (by omega) dX0_lanesOf_24 (by decide) (fun c24 => ?_) (fun c24 => ?_)
      · refine lv_aload_n hx hb dX0_lanesOf_47 rfl (lv_at hl 1 rfl) ?_
        refine r_get (C := RX7) (T := TX7) (N := 16) (ci := 7) hx hb hts hi_X7 hown hK hP 6 rfl (by decide) lk_X0_116 (fun _ h9 => h9) dX0_lanesOf_48 (by omega) (CE_w (by omega)) rfl ?_
        exact k_iret hx hb hr hlocks hP hS dX0_lanesOf_51 ⟨by rw [lnO, cif_t (by omega), cif_f (by omega)], rfl⟩
      · refine lv_iload_n hx hb dX0_lanesOf_27 rfl (lv_at hl 3 rfl) ?_
        refine lv_aload_n hx hb dX0_lanesOf_28 rfl (lv_at hl 0 rfl) ?_
        refine r_get (C := RX0) (T := TX0) (N := 9) (ci := 0) hx hb hts hi_X0 hown hK hP 0 rfl (by decide) lk_X0_33 (fun _ h9 => h9) dX0_lanesOf_29 (by omega) CE_2 rfl ?_
        refine r_get (C := RX5) (T := TX5) (N := 8) (ci := 5) hx hb hts hi_X5 hown hK hP 6 rfl (by decide) lk_X0_48 (fun _ h9 => h9) dX0_lanesOf_32 (by omega) CE_1 rfl ?_
        refine r_icmp_ge (tgt := 47) hx hb (by omega) (by omega) dX0_lanesOf_35 (by decide) (fun c35 => ?_) (fun c35 => ?_)
        · omega
        · have hc := hC (σ 23 o) (by omega) (by omega)
          refine lv_aload_n hx hb dX0_lanesOf_38 rfl (lv_at hl 0 rfl) ?_
          refine r_get (C := RX0) (T := TX0) (N := 9) (ci := 0) hx hb hts hi_X0 hown hK hP 1 rfl (by decide) lk_X0_9 (fun _ h9 => h9) dX0_lanesOf_39 (by omega) CE_2 rfl ?_
          refine lv_iload_n hx hb dX0_lanesOf_42 rfl (lv_at hl 3 rfl) ?_
          refine r_zald hx hb hK hP 2 rfl dX0_lanesOf_43 (by omega) rfl (by omega) (by omega) (tI_at (by omega)) ?_
          rw [hc]
          refine r_ifB_ne (tgt := 52) hx hb dX0_lanesOf_44 (by decide) (fun c44 => ?_) (fun c44 => ?_)
          · obtain ⟨hNj, _, _⟩ := Inv_w hI (w := σ 23 o) (by omega)
            have hBj := IN_b hI (w := σ 23 o) (by omega)
            unfold IN at hNj
            refine lv_aload_n hx hb dX0_lanesOf_52 rfl (lv_at hl 0 rfl) ?_
            refine r_get (C := RX0) (T := TX0) (N := 9) (ci := 0) hx hb hts hi_X0 hown hK hP 0 rfl (by decide) lk_X0_33 (fun _ h9 => h9) dX0_lanesOf_53 (by omega) CE_2 rfl ?_
            refine r_get (C := RX5) (T := TX5) (N := 8) (ci := 5) hx hb hts hi_X5 hown hK hP 2 rfl (by decide) lk_X0_53 (fun _ h9 => h9) dX0_lanesOf_56 (by omega) CE_1 rfl ?_
            refine lv_iload_n hx hb dX0_lanesOf_59 rfl (lv_at hl 3 rfl) ?_
            refine r_aald hx hb hK hP 5 rfl dX0_lanesOf_60 (by omega) rfl (by omega) (by omega) rfl ?_
            refine lv_astore hx hb dX0_lanesOf_61 hl (by decide) rfl (fun ls hl => ?_)
            replace hl : lv_has ls 5 [(0, _), (1, _), (2, _), (3, _), (4, _)] := lv_sub hl [1, 2, 3, 4, 0] rfl
            refine lv_iload_n hx hb dX0_lanesOf_63 rfl (lv_at hl 2 rfl) ?_
            refine lv_aload hx hb dX0_lanesOf_64 (lv_at hl 4 rfl) ?_
            refine r_get (C := RX7) (T := TX7) (N := 16) (ci := 7) hx hb hts hi_X7 hown hK hP 11 rfl (by decide) lk_X0_103 (fun _ h9 => h9) dX0_lanesOf_66 (by omega) (CE_w (by omega)) rfl ?_
            refine r_icmp_lt (tgt := 81) hx hb (by omega) (by omega) dX0_lanesOf_69 (by decide) (fun c69 => ?_) (fun c69 => ?_)
            · refine lv_aload_n hx hb dX0_lanesOf_81 rfl (lv_at hl 1 rfl) ?_
              refine r_get (C := RX7) (T := TX7) (N := 16) (ci := 7) hx hb hts hi_X7 hown hK hP 6 rfl (by decide) lk_X0_116 (fun _ h9 => h9) dX0_lanesOf_82 (by omega) (CE_w (by omega)) rfl ?_
              exact k_iret hx hb hr hlocks hP hS dX0_lanesOf_85 ⟨by rw [lnO, cif_t (by omega), cif_f (by omega)], rfl⟩
            · refine lv_iload_n hx hb dX0_lanesOf_72 rfl (lv_at hl 2 rfl) ?_
              refine lv_aload hx hb dX0_lanesOf_73 (lv_at hl 4 rfl) ?_
              refine r_get (C := RX7) (T := TX7) (N := 16) (ci := 7) hx hb hts hi_X7 hown hK hP 12 rfl (by decide) lk_X0_94 (fun _ h9 => h9) dX0_lanesOf_75 (by omega) (CE_w (by omega)) rfl ?_
              refine r_icmp_le (tgt := 86) hx hb (by omega) (by omega) dX0_lanesOf_78 (by decide) (fun c78 => ?_) (fun c78 => ?_)
              · refine lv_aload_n hx hb dX0_lanesOf_86 rfl (lv_at hl 1 rfl) ?_
                refine r_get (C := RX7) (T := TX7) (N := 16) (ci := 7) hx hb hts hi_X7 hown hK hP 6 rfl (by decide) lk_X0_116 (fun _ h9 => h9) dX0_lanesOf_87 (by omega) (CE_w (by omega)) rfl ?_
                refine lv_aload hx hb dX0_lanesOf_90 (lv_at hl 4 rfl) ?_
                refine r_get (C := RX7) (T := TX7) (N := 16) (ci := 7) hx hb hts hi_X7 hown hK hP 6 rfl (by decide) lk_X0_116 (fun _ h9 => h9) dX0_lanesOf_92 (by omega) (CE_w (by omega)) rfl ?_
                refine r_icmp_eq (tgt := 119) hx hb (by omega) (by omega) dX0_lanesOf_95 (by decide) (fun c95 => ?_) (fun c95 => ?_)
                · refine lv_aload_n hx hb dX0_lanesOf_119 rfl (lv_at hl 1 rfl) ?_
                  refine r_get (C := RX7) (T := TX7) (N := 16) (ci := 7) hx hb hts hi_X7 hown hK hP 0 rfl (by decide) lk_X0_117 (fun _ h9 => h9) dX0_lanesOf_120 (by omega) (CE_w (by omega)) rfl ?_
                  refine lv_iload_n hx hb dX0_lanesOf_123 rfl (lv_at hl 3 rfl) ?_
                  refine r_icmp_ge (tgt := 134) hx hb (by omega) (by omega) dX0_lanesOf_124 (by decide) (fun c124 => ?_) (fun c124 => ?_)
                  · refine r_const hx hb dX0_lanesOf_134 ?_
                    have hne : σ 23 o ≠ o := by
                      obtain ⟨_, _, hJ2⟩ := Inv_w hI ho
                      rcases hJ2 with q | q
                      · omega
                      · exact q.2.1
                    exact k_iret hx hb hr hlocks hP hS dX0_lanesOf_135 ⟨by rw [lnO, cif_t (by omega), cif_t ⟨by omega, c44, by omega, by omega⟩], rfl⟩
                  · refine lv_aload_n hx hb dX0_lanesOf_127 rfl (lv_at hl 1 rfl) ?_
                    refine r_get (C := RX7) (T := TX7) (N := 16) (ci := 7) hx hb hts hi_X7 hown hK hP 6 rfl (by decide) lk_X0_116 (fun _ h9 => h9) dX0_lanesOf_128 (by omega) (CE_w (by omega)) rfl ?_
                    refine lv_goto (tgt := 135) hx hb dX0_lanesOf_131 (by decide) ?_
                    exact k_iret hx hb hr hlocks hP hS dX0_lanesOf_135 ⟨by rw [lnO, cif_t (by omega), cif_f (by omega)], rfl⟩
                · refine lv_aload_n hx hb dX0_lanesOf_98 rfl (lv_at hl 1 rfl) ?_
                  refine r_get (C := RX7) (T := TX7) (N := 16) (ci := 7) hx hb hts hi_X7 hown hK hP 6 rfl (by decide) lk_X0_116 (fun _ h9 => h9) dX0_lanesOf_99 (by omega) (CE_w (by omega)) rfl ?_
                  refine lv_aload hx hb dX0_lanesOf_102 (lv_at hl 4 rfl) ?_
                  refine r_get (C := RX7) (T := TX7) (N := 16) (ci := 7) hx hb hts hi_X7 hown hK hP 6 rfl (by decide) lk_X0_116 (fun _ h9 => h9) dX0_lanesOf_104 (by omega) (CE_w (by omega)) rfl ?_
                  refine r_icmp_le (tgt := 117) hx hb (by omega) (by omega) dX0_lanesOf_107 (by decide) (fun c107 => ?_) (fun c107 => ?_)
                  · refine r_const hx hb dX0_lanesOf_117 ?_
                    exact k_iret hx hb hr hlocks hP hS dX0_lanesOf_118 ⟨by rw [lnO, cif_t (by omega), cif_t ⟨by omega, c44, by omega, by omega⟩], rfl⟩
                  · refine lv_aload_n hx hb dX0_lanesOf_110 rfl (lv_at hl 1 rfl) ?_
                    refine r_get (C := RX7) (T := TX7) (N := 16) (ci := 7) hx hb hts hi_X7 hown hK hP 6 rfl (by decide) lk_X0_116 (fun _ h9 => h9) dX0_lanesOf_111 (by omega) (CE_w (by omega)) rfl ?_
                    refine lv_goto (tgt := 118) hx hb dX0_lanesOf_114 (by decide) ?_
                    exact k_iret hx hb hr hlocks hP hS dX0_lanesOf_118 ⟨by rw [lnO, cif_t (by omega), cif_f (by omega)], rfl⟩
              · refine lv_aload_n hx hb dX0_lanesOf_81 rfl (lv_at hl 1 rfl) ?_
                refine r_get (C := RX7) (T := TX7) (N := 16) (ci := 7) hx hb hts hi_X7 hown hK hP 6 rfl (by decide) lk_X0_116 (fun _ h9 => h9) dX0_lanesOf_82 (by omega) (CE_w (by omega)) rfl ?_
                exact k_iret hx hb hr hlocks hP hS dX0_lanesOf_85 ⟨by rw [lnO, cif_t (by omega), cif_f (by omega)], rfl⟩
          · refine lv_aload_n hx hb dX0_lanesOf_47 rfl (lv_at hl 1 rfl) ?_
            refine r_get (C := RX7) (T := TX7) (N := 16) (ci := 7) hx hb hts hi_X7 hown hK hP 6 rfl (by decide) lk_X0_116 (fun _ h9 => h9) dX0_lanesOf_48 (by omega) (CE_w (by omega)) rfl ?_
            exact k_iret hx hb hr hlocks hP hS dX0_lanesOf_51 ⟨by rw [lnO, cif_t (by omega), cif_f (fun q => c44 q.2.1)], rfl⟩
    · refine r_const hx hb dX0_lanesOf_16 ?_
      exact k_iret hx hb hr hlocks hP hS dX0_lanesOf_17 ⟨by rw [lnO, cif_f (by omega)], rfl⟩
abbrev rmX0_lanesAddedBy : Room := { frames := 0, cells := 0, slots := 0, locals := 0 }
set_option maxRecDepth 100000 in
set_option maxHeartbeats 4000000 in
theorem c_X0_lanesAddedBy {l : Launch} {D : va_G} {G : Nat → ClassId} {ad : Nat → Nat} {σ τ : Tb} (hi : kInj 189 ad) {C : Int → Prop} {w day : Int} (hI : Inv σ) (hw : 0 ≤ w ∧ w < σ 0 2) (hd : (-2147483648 ≤ day ∧ day < 2147483648)) (hC : Cnt σ τ C) : Met l yX0_lanesAddedBy wsX0_lanesAddedBy rmX0_lanesAddedBy (kPc D (tysG G) 189 ad (CE G ad σ τ) [.ref (ad 2), .ref (ad (69 + w.toNat)), .int (iI day)]) (kQi D 189 ad (fun z E' => z = lnA σ C w day ∧ E' = CE G ad σ τ)) 0 0 (kA 189 ad) := by
  refine k_met (cc := cX0_lanesAddedBy) (maxL := 5) (ret := (some .int)) (by decide) (Nat.le_of_ble_eq_true rfl) ?_
  intro P0 e0 s m0 below meth c0 ls hx hb hr hlocks hml hown hts hK hP hS hl
  replace hl : lv_has ls 5 [(0, _), (1, _), (2, _)] := hl
  replace hown : s.vm.findClass RX0 = some m0.cls := hown
  refine k_abs (fun Wg hWg => ?_)
  have h0 := Inv_0 hI
  obtain ⟨hN, hQ, _⟩ := Inv_w hI hw
  have hB := IN_b hI hw
  have hJ := IJ_r hI hw
  unfold IN at hN
  refine lv_aload_n hx hb dX0_lanesAddedBy_0 rfl (lv_at hl 1 rfl) ?_
  refine r_get (C := RX7) (T := TX7) (N := 16) (ci := 7) hx hb hts hi_X7 hown hK hP 14 rfl (by decide) lk_X0_113 (fun _ h9 => h9) dX0_lanesAddedBy_1 (by omega) (CE_w (by omega)) rfl ?_
  refine lv_istore_n hx hb dX0_lanesAddedBy_4 rfl hl (by decide) rfl (fun ls hl => ?_)
  replace hl : lv_has ls 5 [(0, _), (1, _), (2, _), (3, _)] := lv_sub hl [1, 2, 3, 0] rfl
  refine lv_iload_n hx hb dX0_lanesAddedBy_5 rfl (lv_at hl 3 rfl) ?_
  refine r_if_lt (tgt := 29) hx hb (by omega) dX0_lanesAddedBy_6 (by decide) (fun c6 => ?_) (fun c6 => ?_)
  · refine lv_aload_n hx hb dX0_lanesAddedBy_29 rfl (lv_at hl 1 rfl) ?_
    refine r_get (C := RX7) (T := TX7) (N := 16) (ci := 7) hx hb hts hi_X7 hown hK hP 6 rfl (by decide) lk_X0_116 (fun _ h9 => h9) dX0_lanesAddedBy_30 (by omega) (CE_w (by omega)) rfl ?_
    exact k_iret hx hb hr hlocks hP hS dX0_lanesAddedBy_33 ⟨by rw [lnA, cif_f (by omega)], rfl⟩
  · refine lv_iload_n hx hb dX0_lanesAddedBy_9 rfl (lv_at hl 3 rfl) ?_
    refine lv_aload_n hx hb dX0_lanesAddedBy_10 rfl (lv_at hl 0 rfl) ?_
    refine r_get (C := RX0) (T := TX0) (N := 9) (ci := 0) hx hb hts hi_X0 hown hK hP 0 rfl (by decide) lk_X0_33 (fun _ h9 => h9) dX0_lanesAddedBy_11 (by omega) CE_2 rfl ?_
    refine r_get (C := RX5) (T := TX5) (N := 8) (ci := 5) hx hb hts hi_X5 hown hK hP 6 rfl (by decide) lk_X0_48 (fun _ h9 => h9) dX0_lanesAddedBy_14 (by omega) CE_1 rfl ?_
    refine r_icmp_ge (tgt := 29) hx hb (by omega) (by omega) dX0_lanesAddedBy_17 (by decide) (fun c17 => ?_) (fun c17 => ?_)
    · omega
    · have hc := hC (σ 23 w) (by omega) (by omega)
      refine lv_aload_n hx hb dX0_lanesAddedBy_20 rfl (lv_at hl 0 rfl) ?_
      refine r_get (C := RX0) (T := TX0) (N := 9) (ci := 0) hx hb hts hi_X0 hown hK hP 1 rfl (by decide) lk_X0_9 (fun _ h9 => h9) dX0_lanesAddedBy_21 (by omega) CE_2 rfl ?_
      refine lv_iload_n hx hb dX0_lanesAddedBy_24 rfl (lv_at hl 3 rfl) ?_
      refine r_zald hx hb hK hP 2 rfl dX0_lanesAddedBy_25 (by omega) rfl (by omega) (by omega) (tI_at (by omega)) ?_
      rw [hc]
      refine r_ifB_ne (tgt := 34) hx hb dX0_lanesAddedBy_26 (by decide) (fun c26 => ?_) (fun c26 => ?_)
      · obtain ⟨hNj, _, _⟩ := Inv_w hI (w := σ 23 w) (by omega)
        have hBj := IN_b hI (w := σ 23 w) (by omega)
        unfold IN at hNj
        refine lv_aload_n hx hb dX0_lanesAddedBy_34 rfl (lv_at hl 0 rfl) ?_
        refine r_get (C := RX0) (T := TX0) (N := 9) (ci := 0) hx hb hts hi_X0 hown hK hP 0 rfl (by decide) lk_X0_33 (fun _ h9 => h9) dX0_lanesAddedBy_35 (by omega) CE_2 rfl ?_
        refine r_get (C := RX5) (T := TX5) (N := 8) (ci := 5) hx hb hts hi_X5 hown hK hP 2 rfl (by decide) lk_X0_53 (fun _ h9 => h9) dX0_lanesAddedBy_38 (by omega) CE_1 rfl ?_
        refine lv_iload_n hx hb dX0_lanesAddedBy_41 rfl (lv_at hl 3 rfl) ?_
        refine r_aald hx hb hK hP 5 rfl dX0_lanesAddedBy_42 (by omega) rfl (by omega) (by omega) rfl ?_
        refine lv_astore hx hb dX0_lanesAddedBy_43 hl (by decide) rfl (fun ls hl => ?_)
        replace hl : lv_has ls 5 [(0, _), (1, _), (2, _), (3, _), (4, _)] := lv_sub hl [1, 2, 3, 4, 0] rfl
        refine lv_iload_n hx hb dX0_lanesAddedBy_45 rfl (lv_at hl 2 rfl) ?_
        refine lv_aload hx hb dX0_lanesAddedBy_46 (lv_at hl 4 rfl) ?_
        refine r_get (C := RX7) (T := TX7) (N := 16) (ci := 7) hx hb hts hi_X7 hown hK hP 11 rfl (by decide) lk_X0_103 (fun _ h9 => h9) dX0_lanesAddedBy_48 (by omega) (CE_w (by omega)) rfl ?_
        refine r_icmp_lt (tgt := 63) hx hb (by omega) (by omega) dX0_lanesAddedBy_51 (by decide) (fun c51 => ?_) (fun c51 => ?_)
        · refine lv_aload_n hx hb dX0_lanesAddedBy_63 rfl (lv_at hl 1 rfl) ?_
          refine r_get (C := RX7) (T := TX7) (N := 16) (ci := 7) hx hb hts hi_X7 hown hK hP 6 rfl (by decide) lk_X0_116 (fun _ h9 => h9) dX0_lanesAddedBy_64 (by omega) (CE_w (by omega)) rfl ?_
          exact k_iret hx hb hr hlocks hP hS dX0_lanesAddedBy_67 ⟨by rw [lnA, cif_f (by omega)], rfl⟩
        · refine lv_iload_n hx hb dX0_lanesAddedBy_54 rfl (lv_at hl 2 rfl) ?_
          refine lv_aload hx hb dX0_lanesAddedBy_55 (lv_at hl 4 rfl) ?_
          refine r_get (C := RX7) (T := TX7) (N := 16) (ci := 7) hx hb hts hi_X7 hown hK hP 12 rfl (by decide) lk_X0_94 (fun _ h9 => h9) dX0_lanesAddedBy_57 (by omega) (CE_w (by omega)) rfl ?_
          refine r_icmp_le (tgt := 68) hx hb (by omega) (by omega) dX0_lanesAddedBy_60 (by decide) (fun c60 => ?_) (fun c60 => ?_)
          · refine lv_aload_n hx hb dX0_lanesAddedBy_68 rfl (lv_at hl 1 rfl) ?_
            refine r_get (C := RX7) (T := TX7) (N := 16) (ci := 7) hx hb hts hi_X7 hown hK hP 6 rfl (by decide) lk_X0_116 (fun _ h9 => h9) dX0_lanesAddedBy_69 (by omega) (CE_w (by omega)) rfl ?_
            refine lv_aload hx hb dX0_lanesAddedBy_72 (lv_at hl 4 rfl) ?_
            refine r_get (C := RX7) (T := TX7) (N := 16) (ci := 7) hx hb hts hi_X7 hown hK hP 6 rfl (by decide) lk_X0_116 (fun _ h9 => h9) dX0_lanesAddedBy_74 (by omega) (CE_w (by omega)) rfl ?_
            refine r_icmp_le (tgt := 93) hx hb (by omega) (by omega) dX0_lanesAddedBy_77 (by decide) (fun c77 => ?_) (fun c77 => ?_)
            · refine r_const hx hb dX0_lanesAddedBy_93 ?_
              exact k_iret hx hb hr hlocks hP hS dX0_lanesAddedBy_94 ⟨by rw [lnA, cif_t ⟨by omega, c26, by omega⟩, cif_f (by omega)], rfl⟩
            · refine lv_aload_n hx hb dX0_lanesAddedBy_80 rfl (lv_at hl 1 rfl) ?_
              refine r_get (C := RX7) (T := TX7) (N := 16) (ci := 7) hx hb hts hi_X7 hown hK hP 6 rfl (by decide) lk_X0_116 (fun _ h9 => h9) dX0_lanesAddedBy_81 (by omega) (CE_w (by omega)) rfl ?_
              refine lv_aload hx hb dX0_lanesAddedBy_84 (lv_at hl 4 rfl) ?_
              refine r_get (C := RX7) (T := TX7) (N := 16) (ci := 7) hx hb hts hi_X7 hown hK hP 6 rfl (by decide) lk_X0_116 (fun _ h9 => h9) dX0_lanesAddedBy_86 (by omega) (CE_w (by omega)) rfl ?_
              refine r_sub hx hb dX0_lanesAddedBy_89 ?_
              refine lv_goto (tgt := 94) hx hb dX0_lanesAddedBy_90 (by decide) ?_
              exact k_iret hx hb hr hlocks hP hS dX0_lanesAddedBy_94 ⟨by rw [lnA, cif_t ⟨by omega, c26, by omega⟩, cif_t (by omega)], rfl⟩
          · refine lv_aload_n hx hb dX0_lanesAddedBy_63 rfl (lv_at hl 1 rfl) ?_
            refine r_get (C := RX7) (T := TX7) (N := 16) (ci := 7) hx hb hts hi_X7 hown hK hP 6 rfl (by decide) lk_X0_116 (fun _ h9 => h9) dX0_lanesAddedBy_64 (by omega) (CE_w (by omega)) rfl ?_
            exact k_iret hx hb hr hlocks hP hS dX0_lanesAddedBy_67 ⟨by rw [lnA, cif_f (by omega)], rfl⟩
      · refine lv_aload_n hx hb dX0_lanesAddedBy_29 rfl (lv_at hl 1 rfl) ?_
        refine r_get (C := RX7) (T := TX7) (N := 16) (ci := 7) hx hb hts hi_X7 hown hK hP 6 rfl (by decide) lk_X0_116 (fun _ h9 => h9) dX0_lanesAddedBy_30 (by omega) (CE_w (by omega)) rfl ?_
        exact k_iret hx hb hr hlocks hP hS dX0_lanesAddedBy_33 ⟨by rw [lnA, cif_f (fun q => c26 q.2.1)], rfl⟩

