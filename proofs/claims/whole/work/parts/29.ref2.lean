theorem brF {B : Int → Int → Prop} {t p : Int} (hB : B t p) (h1 : ∀ t' p', t' < t → ¬ B t' p') (h2 : ∀ p', p' < p → ¬ B t p') : isFst B t p :=
  fst_mk hB (fun t' p' q => Int.not_lt.mp (fun y => h1 t' p' y q)) (fun p' q => Int.not_lt.mp (fun y => h2 p' y q))
theorem brS {B : Int → Int → Prop} {t n : Int} (h1 : ∀ t' p', t' < t → ¬ B t' p') (h2 : ∀ p', p' < n → ¬ B t p') (h3 : ∀ p', B t p' → p' < n) : ∀ t' p', t' < t + 1 → ¬ B t' p' := by
  intro t' p' q1 q2
  rcases (show t' < t ∨ t' = t by omega) with y | y
  · exact h1 t' p' y q2
  · rw [y] at q2; exact h2 p' (h3 p' q2) q2
theorem brI {B : Int → Int → Prop} {t p : Int} (h2 : ∀ p', p' < p → ¬ B t p') (h : ¬ B t p) : ∀ p', p' < p + 1 → ¬ B t p' := by
  intro p' q1 q2
  rcases (show p' < p ∨ p' = p by omega) with y | y
  · exact h2 p' y q2
  · exact h (y ▸ q2)
def chgd (m : Int) (f g : Int → Int) : Prop := m = 1 → ∃ v, 0 ≤ v ∧ v < 20 ∧ f v < g v
abbrev rmX9_minutesOf : Room := { frames := 0, cells := 0, slots := 0, locals := 0 }
set_option maxRecDepth 100000 in
set_option maxHeartbeats 4000000 in
theorem c_X9_minutesOf {l : Launch} {D : va_G} {G : Nat → ClassId} {ad : Nat → Nat} {σ τ : Tb} (hi : kInj 27 ad) {a b : Int} {S : Nat} (hI : Inv σ) (ha : 0 ≤ a ∧ a < 20) (hb0 : 0 ≤ b ∧ b < 20) (hS0 : S < 1099511627776) : Met l yX9_minutesOf wsX9_minutesOf rmX9_minutesOf (kPc D (tysG G) 27 ad (RE G ad σ τ) [.ref (ad 0), .int (iI a), .int (iI b), .long (lN S)]) (kQi D 27 ad (fun z E' => z = dst σ S a b ∧ ∃ τ', E' = RE G ad σ τ' ∧ FrR τ τ')) 0 0 (kA 27 ad) := by
  refine k_met (cc := cX9_minutesOf) (maxL := 9) (ret := (some .int)) (by decide) (Nat.le_of_ble_eq_true rfl) ?_
  intro P0 e0 s m0 below meth c0 ls hx hb hr hlocks hml hown hts hK hP hS hl
  replace hl : lv_has ls 9 [(0, _), (1, _), (2, _), (3, _)] := hl
  replace hown : s.vm.findClass RX9 = some m0.cls := hown
  refine k_abs (fun Wg hWg => ?_)
  have h0 := Inv_0 hI
  obtain ⟨Ds, hDs⟩ := isDs_ex hI (S := S) ha
  refine r_const hx hb dX9_minutesOf_0 ?_
  refine lv_istore hx hb dX9_minutesOf_1 hl (by decide) rfl (fun ls hl => ?_)
  replace hl : lv_has ls 9 [(0, _), (1, _), (2, _), (3, _), (5, _)] := lv_sub hl [1, 2, 3, 4, 0] rfl
  have loop38 : ∀ (nn : Nat) (m : Int) (τ2 : Tb) (H : Heap) (locs : List Loc) (ls : Array Slot), va_P D vwCl (kw 27 ad (RE G ad σ τ2)) H → va_S (kA 27 ad) s.heap H locs → lv_has ls 9 [(0, .ref (ad 0)), (1, .int (iI a)), (2, .int (iI b)), (3, .long (lN S)), (5, .int (iI m))] → ((m = 0 ∨ m = 1) ∧ wfD σ S a (τ2 2) ∧ (m = 0 → slk σ S (τ2 2) (τ2 2) (σ 0 0)) ∧ (∀ t i, t ≠ 2 → τ2 t i = τ t i)) → (bad Ds (τ2 2) + m).toNat < nn → Wg H locs (F0 m0 38 ls []) := by
    intro nn
    induction nn with
    | zero => intro m τ2 H locs ls _ _ _ _ hn; omega
    | succ nn ih38 =>
      intro m τ2 H locs ls hP hS hl hv38 hn38
      rw [hWg]
      obtain ⟨hv, hwf, hsl, hF⟩ := hv38
      have hbr := bad_r (D := Ds) (f := τ2 2)
      refine lv_iload hx hb dX9_minutesOf_38 (lv_at hl 4 rfl) ?_
      refine r_if_eq (tgt := 275) hx hb (by omega) dX9_minutesOf_40 (by decide) (fun c40 => ?_) (fun c40 => ?_)
      · have he := isDs_of hwf (hsl (by omega))
        refine lv_aload_n hx hb dX9_minutesOf_275 rfl (lv_at hl 0 rfl) ?_
        refine r_get (C := RX9) (T := TX9) (N := 34) (ci := 9) hx hb hts hi_X9 hown hK hP 33 rfl (by decide) lk_X9_94 (fun _ h9 => h9) dX9_minutesOf_276 (by omega) RE_0 rfl ?_
        refine lv_iload_n hx hb dX9_minutesOf_279 rfl (lv_at hl 2 rfl) ?_
        refine r_iald hx hb hK hP 0 rfl dX9_minutesOf_280 (by omega) rfl (by omega) (by omega) (tI_at (by omega)) ?_
        exact k_iret hx hb hr hlocks hP hS dX9_minutesOf_281 ⟨(dst_of hI ha hb0 he).symm, τ2, rfl, fun i q => hF 0 i (by decide), fun i => hF 1 i (by decide)⟩
      · obtain rfl : m = 1 := by omega
        refine r_const hx hb dX9_minutesOf_43 ?_
        refine lv_istore hx hb dX9_minutesOf_44 hl (by decide) rfl (fun ls hl => ?_)
        replace hl : lv_has ls 9 [(0, _), (1, _), (2, _), (3, _), (5, _)] := lv_sub hl [1, 2, 3, 4, 0] rfl
        refine r_const hx hb dX9_minutesOf_46 ?_
        refine lv_istore hx hb dX9_minutesOf_47 hl (by decide) rfl (fun ls hl => ?_)
        replace hl : lv_has ls 9 [(0, _), (1, _), (2, _), (3, _), (5, _), (6, _)] := lv_sub hl [1, 2, 3, 4, 5, 0] rfl
        have loop49 : ∀ (nn : Nat) (p m' : Int) (τ3 : Tb) (H : Heap) (locs : List Loc) (ls : Array Slot), va_P D vwCl (kw 27 ad (RE G ad σ τ3)) H → va_S (kA 27 ad) s.heap H locs → lv_has ls 9 [(0, .ref (ad 0)), (1, .int (iI a)), (2, .int (iI b)), (3, .long (lN S)), (5, .int (iI m')), (6, .int (iI p))] → (((0 ≤ p ∧ p ≤ σ 0 0) ∧ (m' = 0 ∨ m' = 1)) ∧ wfD σ S a (τ3 2) ∧ (∀ v, 0 ≤ v → v < 20 → τ3 2 v ≤ τ2 2 v) ∧ (m' = 0 → ∀ v, 0 ≤ v → v < 20 → τ3 2 v = τ2 2 v) ∧ slk σ S (τ3 2) (τ2 2) p ∧ (∀ t i, t ≠ 2 → τ3 t i = τ t i) ∧ chgd m' (τ3 2) (τ2 2)) → (σ 0 0 - p).toNat < nn → Wg H locs (F0 m0 49 ls []) := by
          intro nn
          induction nn with
          | zero => intro p m' τ3 H locs ls _ _ _ _ hn; omega
          | succ nn ih49 =>
            intro p m' τ3 H locs ls hP hS hl hv49 hn49
            rw [hWg]
            obtain ⟨hv3, hwf3, hle3, heq3, hsl3, hF3, hch⟩ := hv49
            refine lv_iload hx hb dX9_minutesOf_49 (lv_at hl 5 rfl) ?_
            refine lv_aload_n hx hb dX9_minutesOf_51 rfl (lv_at hl 0 rfl) ?_
            refine r_get (C := RX9) (T := TX9) (N := 34) (ci := 9) hx hb hts hi_X9 hown hK hP 6 rfl (by decide) lk_X9_101 (fun _ h9 => h9) dX9_minutesOf_52 (by omega) RE_0 rfl ?_
            refine r_icmp_ge (tgt := 272) hx hb (by omega) (by omega) dX9_minutesOf_55 (by decide) (fun c55 => ?_) (fun c55 => ?_)
            · obtain rfl : p = σ 0 0 := by omega
              have hs4 : m' = 0 → slk σ S (τ3 2) (τ3 2) (σ 0 0) := by
                intro q p p1 p2 p3
                have hip := Inv_p hI ⟨p1, p2⟩
                unfold IP at hip
                have a1 := hsl3 p p1 p2 p3
                have a2 := heq3 q (σ 1 p) (by omega) (by omega)
                have a3 := heq3 q (σ 2 p) (by omega) (by omega)
                omega
              have hms : bad Ds (τ3 2) + m' < bad Ds (τ2 2) + 1 := by
                by_cases q : bad Ds (τ2 2) = 0
                · have e : bad Ds (τ3 2) = sumI (fun _ => 0) 20 := sumI_c (fun i i1 i2 => bI_f (fun y => y (by
                    have a1 := bad_0 q ⟨i1, i2⟩
                    have a2 := hle3 i i1 i2
                    have a3 := wfD_ge hI (by omega) hDs hwf3 i i1 i2
                    omega)))
                  have e2 : sumI (fun _ => 0) 20 = 0 := rfl
                  have hm0 : m' = 0 := by
                    rcases hv3.2 with y | y
                    · exact y
                    · obtain ⟨v, v1, v2, v3⟩ := hch y
                      have a1 := bad_0 q ⟨v1, v2⟩
                      have a3 := wfD_ge hI (by omega) hDs hwf3 v v1 v2
                      omega
                  omega
                · have := bad_st hI (by omega) hDs hwf hwf3 hle3 hsl3 q
                  omega
              have hb3 := bad_r (D := Ds) (f := τ3 2)
              refine lv_goto (tgt := 38) hx hb dX9_minutesOf_272 (by decide) ?_
              rw [← hWg]
              exact ih38 m' _ _ _ _ hP hS (lv_sub hl [0, 1, 2, 3, 4] rfl) ⟨hv3.2, hwf3, hs4, hF3⟩ (by omega)
            · have hip := Inv_p hI (p := p) (by omega)
              unfold IP at hip
              have m1 := hwf3.2.1 (σ 1 p) (by omega) (by omega)
              have m2 := hwf3.2.1 (σ 2 p) (by omega) (by omega)
              have n1 := hle3 (σ 1 p) (by omega) (by omega)
              have n2 := hle3 (σ 2 p) (by omega) (by omega)
              have join266 : ∀ (sh2 : Int) (τ5 : Tb) (H : Heap) (locs : List Loc) (ls : Array Slot), va_P D vwCl (kw 27 ad (RE G ad σ τ5)) H → va_S (kA 27 ad) s.heap H locs → lv_has ls 9 [(0, .ref (ad 0)), (1, .int (iI a)), (2, .int (iI b)), (3, .long (lN S)), (5, .int (iI sh2)), (6, .int (iI p))] → ((sh2 = 0 ∨ sh2 = 1) ∧ wfD σ S a (τ5 2) ∧ (∀ v, 0 ≤ v → v < 20 → τ5 2 v ≤ τ2 2 v) ∧ (sh2 = 0 → ∀ v, 0 ≤ v → v < 20 → τ5 2 v = τ2 2 v) ∧ slk σ S (τ5 2) (τ2 2) (p + 1) ∧ (∀ t i, t ≠ 2 → τ5 t i = τ t i) ∧ chgd sh2 (τ5 2) (τ2 2)) → Wg H locs (F0 m0 266 ls []) := by
                intro sh2 τ5 H locs ls hP hS hl hv266
                rw [hWg]
                obtain ⟨g1, g2, g3, g4, g5, g6, g7⟩ := hv266
                refine r_iinc hx hb dX9_minutesOf_266 hl (k := 5) rfl (by decide) (fun ls hl => ?_)
                replace hl : lv_has ls 9 [(0, _), (1, _), (2, _), (3, _), (5, _), (6, _)] := lv_sub hl [1, 2, 3, 4, 5, 0] rfl
                refine lv_goto (tgt := 49) hx hb dX9_minutesOf_269 (by decide) ?_
                rw [← hWg]
                exact ih49 (p + 1) sh2 _ _ _ _ hP hS hl ⟨by omega, g2, g3, g4, g5, g6, g7⟩ (by omega)
              have hsn : ∀ g : Int → Int, (∀ v, 0 ≤ v → v < 20 → g v ≤ τ3 2 v) → (¬ S.testBit p.toNat = true → g (σ 1 p) ≤ τ2 2 (σ 2 p) + σ 5 p ∧ g (σ 2 p) ≤ τ2 2 (σ 1 p) + σ 5 p) → slk σ S g (τ2 2) (p + 1) := by
                intro g hg hg2 q q1 q2 q3
                rcases (show q < p ∨ q = p by omega) with y | y
                · have hiq := Inv_p hI (p := q) (by omega)
                  unfold IP at hiq
                  have a1 := hsl3 q q1 y q3
                  have a2 := hg (σ 1 q) (by omega) (by omega)
                  have a3 := hg (σ 2 q) (by omega) (by omega)
                  omega
                · subst y
                  exact hg2 q3
              have h1 : S < 2 ^ 63 := by omega
              have h2 : S / 2 ^ p.toNat < 2 ^ 63 := Nat.lt_of_le_of_lt (Nat.div_le_self _ _) h1
              have h3 : S / 2 ^ p.toNat &&& 1 < 2 ^ 63 := Nat.lt_of_le_of_lt Nat.and_le_left h2
              refine lv_lload_n hx hb dX9_minutesOf_58 rfl (lv_at hl 3 rfl) ?_
              refine lv_iload hx hb dX9_minutesOf_59 (lv_at hl 5 rfl) ?_
              refine r_lshr hx hb dX9_minutesOf_61 (by omega) h1 ?_
              refine r_lconst1 hx hb dX9_minutesOf_62 ?_
              refine r_land hx hb dX9_minutesOf_63 (Nat.lt_trans h2 (by decide)) (by decide) ?_
              refine r_lconst0 hx hb dX9_minutesOf_64 ?_
              refine r_lcmp hx hb dX9_minutesOf_65 h3 (by decide) ?_
              refine r_if_ne (tgt := 266) hx hb (cmpN_r _ _) dX9_minutesOf_66 (by decide) (fun c66 => ?_) (fun c66 => ?_)
              · rw [← hWg]
                exact join266 m' _ _ _ _ hP hS hl ⟨hv3.2, hwf3, hle3, heq3, hsn _ (fun v _ _ => Int.le_refl _) (fun q => absurd (cmpN_0.mpr (tb_div0.mpr q)) c66), hF3, hch⟩
              · have hop : ¬ S.testBit p.toNat = true := tb_div0.mp (cmpN_0.mp c66)
                refine lv_aload_n hx hb dX9_minutesOf_69 rfl (lv_at hl 0 rfl) ?_
                refine r_get (C := RX9) (T := TX9) (N := 34) (ci := 9) hx hb hts hi_X9 hown hK hP 33 rfl (by decide) lk_X9_94 (fun _ h9 => h9) dX9_minutesOf_70 (by omega) RE_0 rfl ?_
                refine lv_aload_n hx hb dX9_minutesOf_73 rfl (lv_at hl 0 rfl) ?_
                refine r_get (C := RX9) (T := TX9) (N := 34) (ci := 9) hx hb hts hi_X9 hown hK hP 0 rfl (by decide) lk_X9_9 (fun _ h9 => h9) dX9_minutesOf_74 (by omega) RE_0 rfl ?_
                refine lv_iload hx hb dX9_minutesOf_77 (lv_at hl 5 rfl) ?_
                refine r_iald hx hb hK hP 0 rfl dX9_minutesOf_79 (by omega) rfl (by omega) (by omega) (tI_at (by omega)) ?_
                refine r_iald hx hb hK hP 0 rfl dX9_minutesOf_80 (by omega) rfl (by omega) (by omega) (tI_at (by omega)) ?_
                refine lv_aload_n hx hb dX9_minutesOf_81 rfl (lv_at hl 0 rfl) ?_
                refine r_get (C := RX9) (T := TX9) (N := 34) (ci := 9) hx hb hts hi_X9 hown hK hP 33 rfl (by decide) lk_X9_94 (fun _ h9 => h9) dX9_minutesOf_82 (by omega) RE_0 rfl ?_
                refine lv_aload_n hx hb dX9_minutesOf_85 rfl (lv_at hl 0 rfl) ?_
                refine r_get (C := RX9) (T := TX9) (N := 34) (ci := 9) hx hb hts hi_X9 hown hK hP 1 rfl (by decide) lk_X9_13 (fun _ h9 => h9) dX9_minutesOf_86 (by omega) RE_0 rfl ?_
                refine lv_iload hx hb dX9_minutesOf_89 (lv_at hl 5 rfl) ?_
                refine r_iald hx hb hK hP 0 rfl dX9_minutesOf_91 (by omega) rfl (by omega) (by omega) (tI_at (by omega)) ?_
                refine r_iald hx hb hK hP 0 rfl dX9_minutesOf_92 (by omega) rfl (by omega) (by omega) (tI_at (by omega)) ?_
                refine r_icmp_ge (tgt := 111) hx hb (by omega) (by omega) dX9_minutesOf_93 (by decide) (fun c93 => ?_) (fun c93 => ?_)
                · refine lv_aload_n hx hb dX9_minutesOf_111 rfl (lv_at hl 0 rfl) ?_
                  refine r_get (C := RX9) (T := TX9) (N := 34) (ci := 9) hx hb hts hi_X9 hown hK hP 33 rfl (by decide) lk_X9_94 (fun _ h9 => h9) dX9_minutesOf_112 (by omega) RE_0 rfl ?_
                  refine lv_aload_n hx hb dX9_minutesOf_115 rfl (lv_at hl 0 rfl) ?_
                  refine r_get (C := RX9) (T := TX9) (N := 34) (ci := 9) hx hb hts hi_X9 hown hK hP 1 rfl (by decide) lk_X9_13 (fun _ h9 => h9) dX9_minutesOf_116 (by omega) RE_0 rfl ?_
                  refine lv_iload hx hb dX9_minutesOf_119 (lv_at hl 5 rfl) ?_
                  refine r_iald hx hb hK hP 0 rfl dX9_minutesOf_121 (by omega) rfl (by omega) (by omega) (tI_at (by omega)) ?_
                  refine r_iald hx hb hK hP 0 rfl dX9_minutesOf_122 (by omega) rfl (by omega) (by omega) (tI_at (by omega)) ?_
                  refine lv_istore hx hb dX9_minutesOf_123 hl (by decide) rfl (fun ls hl => ?_)
                  replace hl : lv_has ls 9 [(0, _), (1, _), (2, _), (3, _), (5, _), (6, _), (7, _)] := lv_sub hl [1, 2, 3, 4, 5, 6, 0] rfl
                  refine lv_iload hx hb dX9_minutesOf_125 (lv_at hl 6 rfl) ?_
                  refine lv_aload_n hx hb dX9_minutesOf_127 rfl (lv_at hl 0 rfl) ?_
                  refine r_get (C := RX9) (T := TX9) (N := 34) (ci := 9) hx hb hts hi_X9 hown hK hP 4 rfl (by decide) lk_X9_22 (fun _ h9 => h9) dX9_minutesOf_128 (by omega) RE_0 rfl ?_
                  refine lv_iload hx hb dX9_minutesOf_131 (lv_at hl 5 rfl) ?_
                  refine r_iald hx hb hK hP 0 rfl dX9_minutesOf_133 (by omega) rfl (by omega) (by omega) (tI_at (by omega)) ?_
                  refine r_add hx hb dX9_minutesOf_134 ?_
                  refine lv_istore hx hb dX9_minutesOf_135 hl (by decide) rfl (fun ls hl => ?_)
                  replace hl : lv_has ls 9 [(0, _), (1, _), (2, _), (3, _), (5, _), (6, _), (7, _), (8, _)] := lv_sub hl [1, 2, 3, 4, 5, 6, 7, 0] rfl
                  refine lv_aload_n hx hb dX9_minutesOf_137 rfl (lv_at hl 0 rfl) ?_
                  refine r_get (C := RX9) (T := TX9) (N := 34) (ci := 9) hx hb hts hi_X9 hown hK hP 33 rfl (by decide) lk_X9_94 (fun _ h9 => h9) dX9_minutesOf_138 (by omega) RE_0 rfl ?_
                  refine lv_aload_n hx hb dX9_minutesOf_141 rfl (lv_at hl 0 rfl) ?_
                  refine r_get (C := RX9) (T := TX9) (N := 34) (ci := 9) hx hb hts hi_X9 hown hK hP 0 rfl (by decide) lk_X9_9 (fun _ h9 => h9) dX9_minutesOf_142 (by omega) RE_0 rfl ?_
                  refine lv_iload hx hb dX9_minutesOf_145 (lv_at hl 5 rfl) ?_
                  refine r_iald hx hb hK hP 0 rfl dX9_minutesOf_147 (by omega) rfl (by omega) (by omega) (tI_at (by omega)) ?_
                  refine r_iald hx hb hK hP 0 rfl dX9_minutesOf_148 (by omega) rfl (by omega) (by omega) (tI_at (by omega)) ?_
                  refine lv_iload hx hb dX9_minutesOf_149 (lv_at hl 7 rfl) ?_
                  refine r_icmp_gt (tgt := 171) hx hb (by omega) (by omega) dX9_minutesOf_151 (by decide) (fun c151 => ?_) (fun c151 => ?_)
                  · refine lv_aload_n hx hb dX9_minutesOf_171 rfl (lv_at hl 0 rfl) ?_
                    refine r_get (C := RX9) (T := TX9) (N := 34) (ci := 9) hx hb hts hi_X9 hown hK hP 33 rfl (by decide) lk_X9_94 (fun _ h9 => h9) dX9_minutesOf_172 (by omega) RE_0 rfl ?_
                    refine lv_aload_n hx hb dX9_minutesOf_175 rfl (lv_at hl 0 rfl) ?_
                    refine r_get (C := RX9) (T := TX9) (N := 34) (ci := 9) hx hb hts hi_X9 hown hK hP 0 rfl (by decide) lk_X9_9 (fun _ h9 => h9) dX9_minutesOf_176 (by omega) RE_0 rfl ?_
                    refine lv_iload hx hb dX9_minutesOf_179 (lv_at hl 5 rfl) ?_
                    refine r_iald hx hb hK hP 0 rfl dX9_minutesOf_181 (by omega) rfl (by omega) (by omega) (tI_at (by omega)) ?_
                    refine lv_aload_n hx hb dX9_minutesOf_182 rfl (lv_at hl 0 rfl) ?_
                    refine r_get (C := RX9) (T := TX9) (N := 34) (ci := 9) hx hb hts hi_X9 hown hK hP 33 rfl (by decide) lk_X9_94 (fun _ h9 => h9) dX9_minutesOf_183 (by omega) RE_0 rfl ?_
                    refine lv_aload_n hx hb dX9_minutesOf_186 rfl (lv_at hl 0 rfl) ?_
                    refine r_get (C := RX9) (T := TX9) (N := 34) (ci := 9) hx hb hts hi_X9 hown hK hP 0 rfl (by decide) lk_X9_9 (fun _ h9 => h9) dX9_minutesOf_187 (by omega) RE_0 rfl ?_
                    refine lv_iload hx hb dX9_minutesOf_190 (lv_at hl 5 rfl) ?_
                    refine r_iald hx hb hK hP 0 rfl dX9_minutesOf_192 (by omega) rfl (by omega) (by omega) (tI_at (by omega)) ?_
                    refine r_iald hx hb hK hP 0 rfl dX9_minutesOf_193 (by omega) rfl (by omega) (by omega) (tI_at (by omega)) ?_
                    refine lv_iload hx hb dX9_minutesOf_194 (lv_at hl 7 rfl) ?_
                    refine r_icmp_le (tgt := 204) hx hb (by omega) (by omega) dX9_minutesOf_196 (by decide) (fun c196 => ?_) (fun c196 => ?_)
                    · omega
                    · refine lv_iload hx hb dX9_minutesOf_199 (lv_at hl 7 rfl) ?_
                      refine lv_goto (tgt := 216) hx hb dX9_minutesOf_201 (by decide) ?_
                      refine r_iast hx hb hi hK hP hS 0 rfl dX9_minutesOf_216 (by omega) rfl (by omega) (by omega) (ru_far (by omega)) (fun H locs hP hS => ?_)
                      refine lv_aload_n hx hb dX9_minutesOf_217 rfl (lv_at hl 0 rfl) ?_
                      refine r_get (C := RX9) (T := TX9) (N := 34) (ci := 9) hx hb hts hi_X9 hown hK hP 33 rfl (by decide) lk_X9_94 (fun _ h9 => h9) dX9_minutesOf_218 (by omega) RE_0 rfl ?_
                      refine lv_aload_n hx hb dX9_minutesOf_221 rfl (lv_at hl 0 rfl) ?_
                      refine r_get (C := RX9) (T := TX9) (N := 34) (ci := 9) hx hb hts hi_X9 hown hK hP 1 rfl (by decide) lk_X9_13 (fun _ h9 => h9) dX9_minutesOf_222 (by omega) RE_0 rfl ?_
                      refine lv_iload hx hb dX9_minutesOf_225 (lv_at hl 5 rfl) ?_
                      refine r_iald hx hb hK hP 0 rfl dX9_minutesOf_227 (by omega) rfl (by omega) (by omega) (tI_at (by omega)) ?_
                      refine lv_aload_n hx hb dX9_minutesOf_228 rfl (lv_at hl 0 rfl) ?_
                      refine r_get (C := RX9) (T := TX9) (N := 34) (ci := 9) hx hb hts hi_X9 hown hK hP 33 rfl (by decide) lk_X9_94 (fun _ h9 => h9) dX9_minutesOf_229 (by omega) RE_0 rfl ?_
                      refine lv_aload_n hx hb dX9_minutesOf_232 rfl (lv_at hl 0 rfl) ?_
                      refine r_get (C := RX9) (T := TX9) (N := 34) (ci := 9) hx hb hts hi_X9 hown hK hP 1 rfl (by decide) lk_X9_13 (fun _ h9 => h9) dX9_minutesOf_233 (by omega) RE_0 rfl ?_
                      refine lv_iload hx hb dX9_minutesOf_236 (lv_at hl 5 rfl) ?_
                      refine r_iald hx hb hK hP 0 rfl dX9_minutesOf_238 (by omega) rfl (by omega) (by omega) (tI_at (by omega)) ?_
                      refine r_iald hx hb hK hP 0 rfl dX9_minutesOf_239 (by omega) rfl (by omega) (by omega) (tI_at (by omega)) ?_
                      refine lv_iload hx hb dX9_minutesOf_240 (lv_at hl 7 rfl) ?_
                      have hw2 : wfD σ S a (up τ3 2 (σ 1 p) (τ3 2 (σ 2 p) + σ 5 p) 2) := wfD_rx hI hwf3 ⟨by omega, by omega, hop⟩ (Or.inr ⟨rfl, rfl⟩) (by omega) (up_self _ _ _ _) (fun i q => up_i q)
                      have hle4 : ∀ v, 0 ≤ v → v < 20 → up τ3 2 (σ 1 p) (τ3 2 (σ 2 p) + σ 5 p) 2 v ≤ τ3 2 v := by
                        intro v v1 v2
                        by_cases q : v = σ 1 p
                        · rw [q, up_self]; omega
                        · rw [up_i q]; omega
                      have e1 : up τ3 2 (σ 1 p) (τ3 2 (σ 2 p) + σ 5 p) 2 (σ 1 p) = τ3 2 (σ 2 p) + σ 5 p := up_self _ _ _ _
                      have e2 : up τ3 2 (σ 1 p) (τ3 2 (σ 2 p) + σ 5 p) 2 (σ 2 p) = τ3 2 (σ 2 p) := up_i (by omega)
                      refine r_icmp_le (tgt := 250) hx hb (by omega) (by omega) dX9_minutesOf_242 (by decide) (fun c242 => ?_) (fun c242 => ?_)
                      · refine lv_aload_n hx hb dX9_minutesOf_250 rfl (lv_at hl 0 rfl) ?_
                        refine r_get (C := RX9) (T := TX9) (N := 34) (ci := 9) hx hb hts hi_X9 hown hK hP 33 rfl (by decide) lk_X9_94 (fun _ h9 => h9) dX9_minutesOf_251 (by omega) RE_0 rfl ?_
                        refine lv_aload_n hx hb dX9_minutesOf_254 rfl (lv_at hl 0 rfl) ?_
                        refine r_get (C := RX9) (T := TX9) (N := 34) (ci := 9) hx hb hts hi_X9 hown hK hP 1 rfl (by decide) lk_X9_13 (fun _ h9 => h9) dX9_minutesOf_255 (by omega) RE_0 rfl ?_
                        refine lv_iload hx hb dX9_minutesOf_258 (lv_at hl 5 rfl) ?_
                        refine r_iald hx hb hK hP 0 rfl dX9_minutesOf_260 (by omega) rfl (by omega) (by omega) (tI_at (by omega)) ?_
                        refine r_iald hx hb hK hP 0 rfl dX9_minutesOf_261 (by omega) rfl (by omega) (by omega) (tI_at (by omega)) ?_
                        refine r_iast hx hb hi hK hP hS 0 rfl dX9_minutesOf_262 (by omega) rfl (by omega) (by omega) (ru_far (by omega)) (fun H locs hP hS => ?_)
                        refine r_const hx hb dX9_minutesOf_263 ?_
                        refine lv_istore hx hb dX9_minutesOf_264 hl (by decide) rfl (fun ls hl => ?_)
                        replace hl : lv_has ls 9 [(0, _), (1, _), (2, _), (3, _), (5, _), (6, _), (7, _), (8, _)] := lv_sub hl [1, 2, 3, 4, 0, 5, 6, 7] rfl
                        rw [up_same rfl] at hP
                        rw [← hWg]
                        exact join266 1 _ _ _ _ hP hS (lv_sub hl [0, 1, 2, 3, 4, 5] rfl) ⟨by omega, hw2, fun v v1 v2 => Int.le_trans (hle4 v v1 v2) (hle3 v v1 v2), fun q => by omega, hsn _ hle4 (fun _ => by omega), fun t i q => by rw [up_t q]; exact hF3 t i q, fun _ => ⟨σ 1 p, by omega, by omega, by omega⟩⟩
                      · omega
                  · refine lv_aload_n hx hb dX9_minutesOf_154 rfl (lv_at hl 0 rfl) ?_
                    refine r_get (C := RX9) (T := TX9) (N := 34) (ci := 9) hx hb hts hi_X9 hown hK hP 33 rfl (by decide) lk_X9_94 (fun _ h9 => h9) dX9_minutesOf_155 (by omega) RE_0 rfl ?_
                    refine lv_aload_n hx hb dX9_minutesOf_158 rfl (lv_at hl 0 rfl) ?_
                    refine r_get (C := RX9) (T := TX9) (N := 34) (ci := 9) hx hb hts hi_X9 hown hK hP 1 rfl (by decide) lk_X9_13 (fun _ h9 => h9) dX9_minutesOf_159 (by omega) RE_0 rfl ?_
                    refine lv_iload hx hb dX9_minutesOf_162 (lv_at hl 5 rfl) ?_
                    refine r_iald hx hb hK hP 0 rfl dX9_minutesOf_164 (by omega) rfl (by omega) (by omega) (tI_at (by omega)) ?_
                    refine r_iald hx hb hK hP 0 rfl dX9_minutesOf_165 (by omega) rfl (by omega) (by omega) (tI_at (by omega)) ?_
                    refine lv_iload hx hb dX9_minutesOf_166 (lv_at hl 7 rfl) ?_
                    refine r_icmp_le (tgt := 266) hx hb (by omega) (by omega) dX9_minutesOf_168 (by decide) (fun c168 => ?_) (fun c168 => ?_)
                    · rw [← hWg]
                      exact join266 m' _ _ _ _ hP hS (lv_sub hl [0, 1, 2, 3, 4, 5] rfl) ⟨hv3.2, hwf3, hle3, heq3, hsn _ (fun v _ _ => Int.le_refl _) (fun _ => by omega), hF3, hch⟩
                    · omega
                · refine lv_aload_n hx hb dX9_minutesOf_96 rfl (lv_at hl 0 rfl) ?_
                  refine r_get (C := RX9) (T := TX9) (N := 34) (ci := 9) hx hb hts hi_X9 hown hK hP 33 rfl (by decide) lk_X9_94 (fun _ h9 => h9) dX9_minutesOf_97 (by omega) RE_0 rfl ?_
                  refine lv_aload_n hx hb dX9_minutesOf_100 rfl (lv_at hl 0 rfl) ?_
                  refine r_get (C := RX9) (T := TX9) (N := 34) (ci := 9) hx hb hts hi_X9 hown hK hP 0 rfl (by decide) lk_X9_9 (fun _ h9 => h9) dX9_minutesOf_101 (by omega) RE_0 rfl ?_
                  refine lv_iload hx hb dX9_minutesOf_104 (lv_at hl 5 rfl) ?_
                  refine r_iald hx hb hK hP 0 rfl dX9_minutesOf_106 (by omega) rfl (by omega) (by omega) (tI_at (by omega)) ?_
                  refine r_iald hx hb hK hP 0 rfl dX9_minutesOf_107 (by omega) rfl (by omega) (by omega) (tI_at (by omega)) ?_
                  refine lv_goto (tgt := 123) hx hb dX9_minutesOf_108 (by decide) ?_
                  refine lv_istore hx hb dX9_minutesOf_123 hl (by decide) rfl (fun ls hl => ?_)
                  replace hl : lv_has ls 9 [(0, _), (1, _), (2, _), (3, _), (5, _), (6, _), (7, _)] := lv_sub hl [1, 2, 3, 4, 5, 6, 0] rfl
                  refine lv_iload hx hb dX9_minutesOf_125 (lv_at hl 6 rfl) ?_
                  refine lv_aload_n hx hb dX9_minutesOf_127 rfl (lv_at hl 0 rfl) ?_
                  refine r_get (C := RX9) (T := TX9) (N := 34) (ci := 9) hx hb hts hi_X9 hown hK hP 4 rfl (by decide) lk_X9_22 (fun _ h9 => h9) dX9_minutesOf_128 (by omega) RE_0 rfl ?_
                  refine lv_iload hx hb dX9_minutesOf_131 (lv_at hl 5 rfl) ?_
                  refine r_iald hx hb hK hP 0 rfl dX9_minutesOf_133 (by omega) rfl (by omega) (by omega) (tI_at (by omega)) ?_
                  refine r_add hx hb dX9_minutesOf_134 ?_
                  refine lv_istore hx hb dX9_minutesOf_135 hl (by decide) rfl (fun ls hl => ?_)
                  replace hl : lv_has ls 9 [(0, _), (1, _), (2, _), (3, _), (5, _), (6, _), (7, _), (8, _)] := lv_sub hl [1, 2, 3, 4, 5, 6, 7, 0] rfl
                  refine lv_aload_n hx hb dX9_minutesOf_137 rfl (lv_at hl 0 rfl) ?_
                  refine r_get (C := RX9) (T := TX9) (N := 34) (ci := 9) hx hb hts hi_X9 hown hK hP 33 rfl (by decide) lk_X9_94 (fun _ h9 => h9) dX9_minutesOf_138 (by omega) RE_0 rfl ?_
                  refine lv_aload_n hx hb dX9_minutesOf_141 rfl (lv_at hl 0 rfl) ?_
                  refine r_get (C := RX9) (T := TX9) (N := 34) (ci := 9) hx hb hts hi_X9 hown hK hP 0 rfl (by decide) lk_X9_9 (fun _ h9 => h9) dX9_minutesOf_142 (by omega) RE_0 rfl ?_
                  refine lv_iload hx hb dX9_minutesOf_145 (lv_at hl 5 rfl) ?_
                  refine r_iald hx hb hK hP 0 rfl dX9_minutesOf_147 (by omega) rfl (by omega) (by omega) (tI_at (by omega)) ?_
                  refine r_iald hx hb hK hP 0 rfl dX9_minutesOf_148 (by omega) rfl (by omega) (by omega) (tI_at (by omega)) ?_
                  refine lv_iload hx hb dX9_minutesOf_149 (lv_at hl 7 rfl) ?_
                  refine r_icmp_gt (tgt := 171) hx hb (by omega) (by omega) dX9_minutesOf_151 (by decide) (fun c151 => ?_) (fun c151 => ?_)
                  · omega
                  · refine lv_aload_n hx hb dX9_minutesOf_154 rfl (lv_at hl 0 rfl) ?_
                    refine r_get (C := RX9) (T := TX9) (N := 34) (ci := 9) hx hb hts hi_X9 hown hK hP 33 rfl (by decide) lk_X9_94 (fun _ h9 => h9) dX9_minutesOf_155 (by omega) RE_0 rfl ?_
                    refine lv_aload_n hx hb dX9_minutesOf_158 rfl (lv_at hl 0 rfl) ?_
                    refine r_get (C := RX9) (T := TX9) (N := 34) (ci := 9) hx hb hts hi_X9 hown hK hP 1 rfl (by decide) lk_X9_13 (fun _ h9 => h9) dX9_minutesOf_159 (by omega) RE_0 rfl ?_
                    refine lv_iload hx hb dX9_minutesOf_162 (lv_at hl 5 rfl) ?_
                    refine r_iald hx hb hK hP 0 rfl dX9_minutesOf_164 (by omega) rfl (by omega) (by omega) (tI_at (by omega)) ?_
                    refine r_iald hx hb hK hP 0 rfl dX9_minutesOf_165 (by omega) rfl (by omega) (by omega) (tI_at (by omega)) ?_
                    refine lv_iload hx hb dX9_minutesOf_166 (lv_at hl 7 rfl) ?_
                    refine r_icmp_le (tgt := 266) hx hb (by omega) (by omega) dX9_minutesOf_168 (by decide) (fun c168 => ?_) (fun c168 => ?_)
                    · rw [← hWg]
                      exact join266 m' _ _ _ _ hP hS (lv_sub hl [0, 1, 2, 3, 4, 5] rfl) ⟨hv3.2, hwf3, hle3, heq3, hsn _ (fun v _ _ => Int.le_refl _) (fun _ => by omega), hF3, hch⟩
                    · refine lv_aload_n hx hb dX9_minutesOf_171 rfl (lv_at hl 0 rfl) ?_
                      refine r_get (C := RX9) (T := TX9) (N := 34) (ci := 9) hx hb hts hi_X9 hown hK hP 33 rfl (by decide) lk_X9_94 (fun _ h9 => h9) dX9_minutesOf_172 (by omega) RE_0 rfl ?_
                      refine lv_aload_n hx hb dX9_minutesOf_175 rfl (lv_at hl 0 rfl) ?_
                      refine r_get (C := RX9) (T := TX9) (N := 34) (ci := 9) hx hb hts hi_X9 hown hK hP 0 rfl (by decide) lk_X9_9 (fun _ h9 => h9) dX9_minutesOf_176 (by omega) RE_0 rfl ?_
                      refine lv_iload hx hb dX9_minutesOf_179 (lv_at hl 5 rfl) ?_
                      refine r_iald hx hb hK hP 0 rfl dX9_minutesOf_181 (by omega) rfl (by omega) (by omega) (tI_at (by omega)) ?_
                      refine lv_aload_n hx hb dX9_minutesOf_182 rfl (lv_at hl 0 rfl) ?_
                      refine r_get (C := RX9) (T := TX9) (N := 34) (ci := 9) hx hb hts hi_X9 hown hK hP 33 rfl (by decide) lk_X9_94 (fun _ h9 => h9) dX9_minutesOf_183 (by omega) RE_0 rfl ?_
                      refine lv_aload_n hx hb dX9_minutesOf_186 rfl (lv_at hl 0 rfl) ?_
                      refine r_get (C := RX9) (T := TX9) (N := 34) (ci := 9) hx hb hts hi_X9 hown hK hP 0 rfl (by decide) lk_X9_9 (fun _ h9 => h9) dX9_minutesOf_187 (by omega) RE_0 rfl ?_
                      refine lv_iload hx hb dX9_minutesOf_190 (lv_at hl 5 rfl) ?_
                      refine r_iald hx hb hK hP 0 rfl dX9_minutesOf_192 (by omega) rfl (by omega) (by omega) (tI_at (by omega)) ?_
                      refine r_iald hx hb hK hP 0 rfl dX9_minutesOf_193 (by omega) rfl (by omega) (by omega) (tI_at (by omega)) ?_
                      refine lv_iload hx hb dX9_minutesOf_194 (lv_at hl 7 rfl) ?_
                      refine r_icmp_le (tgt := 204) hx hb (by omega) (by omega) dX9_minutesOf_196 (by decide) (fun c196 => ?_) (fun c196 => ?_)
                      · refine lv_aload_n hx hb dX9_minutesOf_204 rfl (lv_at hl 0 rfl) ?_
                        refine r_get (C := RX9) (T := TX9) (N := 34) (ci := 9) hx hb hts hi_X9 hown hK hP 33 rfl (by decide) lk_X9_94 (fun _ h9 => h9) dX9_minutesOf_205 (by omega) RE_0 rfl ?_
                        refine lv_aload_n hx hb dX9_minutesOf_208 rfl (lv_at hl 0 rfl) ?_
                        refine r_get (C := RX9) (T := TX9) (N := 34) (ci := 9) hx hb hts hi_X9 hown hK hP 0 rfl (by decide) lk_X9_9 (fun _ h9 => h9) dX9_minutesOf_209 (by omega) RE_0 rfl ?_
                        refine lv_iload hx hb dX9_minutesOf_212 (lv_at hl 5 rfl) ?_
                        refine r_iald hx hb hK hP 0 rfl dX9_minutesOf_214 (by omega) rfl (by omega) (by omega) (tI_at (by omega)) ?_
                        refine r_iald hx hb hK hP 0 rfl dX9_minutesOf_215 (by omega) rfl (by omega) (by omega) (tI_at (by omega)) ?_
                        refine r_iast hx hb hi hK hP hS 0 rfl dX9_minutesOf_216 (by omega) rfl (by omega) (by omega) (ru_far (by omega)) (fun H locs hP hS => ?_)
                        rw [up_same rfl] at hP
                        refine lv_aload_n hx hb dX9_minutesOf_217 rfl (lv_at hl 0 rfl) ?_
                        refine r_get (C := RX9) (T := TX9) (N := 34) (ci := 9) hx hb hts hi_X9 hown hK hP 33 rfl (by decide) lk_X9_94 (fun _ h9 => h9) dX9_minutesOf_218 (by omega) RE_0 rfl ?_
                        refine lv_aload_n hx hb dX9_minutesOf_221 rfl (lv_at hl 0 rfl) ?_
                        refine r_get (C := RX9) (T := TX9) (N := 34) (ci := 9) hx hb hts hi_X9 hown hK hP 1 rfl (by decide) lk_X9_13 (fun _ h9 => h9) dX9_minutesOf_222 (by omega) RE_0 rfl ?_
                        refine lv_iload hx hb dX9_minutesOf_225 (lv_at hl 5 rfl) ?_
                        refine r_iald hx hb hK hP 0 rfl dX9_minutesOf_227 (by omega) rfl (by omega) (by omega) (tI_at (by omega)) ?_
                        refine lv_aload_n hx hb dX9_minutesOf_228 rfl (lv_at hl 0 rfl) ?_
                        refine r_get (C := RX9) (T := TX9) (N := 34) (ci := 9) hx hb hts hi_X9 hown hK hP 33 rfl (by decide) lk_X9_94 (fun _ h9 => h9) dX9_minutesOf_229 (by omega) RE_0 rfl ?_
                        refine lv_aload_n hx hb dX9_minutesOf_232 rfl (lv_at hl 0 rfl) ?_
                        refine r_get (C := RX9) (T := TX9) (N := 34) (ci := 9) hx hb hts hi_X9 hown hK hP 1 rfl (by decide) lk_X9_13 (fun _ h9 => h9) dX9_minutesOf_233 (by omega) RE_0 rfl ?_
                        refine lv_iload hx hb dX9_minutesOf_236 (lv_at hl 5 rfl) ?_
                        refine r_iald hx hb hK hP 0 rfl dX9_minutesOf_238 (by omega) rfl (by omega) (by omega) (tI_at (by omega)) ?_
                        refine r_iald hx hb hK hP 0 rfl dX9_minutesOf_239 (by omega) rfl (by omega) (by omega) (tI_at (by omega)) ?_
                        refine lv_iload hx hb dX9_minutesOf_240 (lv_at hl 7 rfl) ?_
                        refine r_icmp_le (tgt := 250) hx hb (by omega) (by omega) dX9_minutesOf_242 (by decide) (fun c242 => ?_) (fun c242 => ?_)
                        · omega
                        · refine lv_iload hx hb dX9_minutesOf_245 (lv_at hl 7 rfl) ?_
                          refine lv_goto (tgt := 262) hx hb dX9_minutesOf_247 (by decide) ?_
                          refine r_iast hx hb hi hK hP hS 0 rfl dX9_minutesOf_262 (by omega) rfl (by omega) (by omega) (ru_far (by omega)) (fun H locs hP hS => ?_)
                          refine r_const hx hb dX9_minutesOf_263 ?_
                          refine lv_istore hx hb dX9_minutesOf_264 hl (by decide) rfl (fun ls hl => ?_)
                          replace hl : lv_has ls 9 [(0, _), (1, _), (2, _), (3, _), (5, _), (6, _), (7, _), (8, _)] := lv_sub hl [1, 2, 3, 4, 0, 5, 6, 7] rfl
                          have hw2 : wfD σ S a (up τ3 2 (σ 2 p) (τ3 2 (σ 1 p) + σ 5 p) 2) := wfD_rx hI hwf3 ⟨by omega, by omega, hop⟩ (Or.inl ⟨rfl, rfl⟩) (by omega) (up_self _ _ _ _) (fun i q => up_i q)
                          have hle4 : ∀ v, 0 ≤ v → v < 20 → up τ3 2 (σ 2 p) (τ3 2 (σ 1 p) + σ 5 p) 2 v ≤ τ3 2 v := by
                            intro v v1 v2
                            by_cases q : v = σ 2 p
                            · rw [q, up_self]; omega
                            · rw [up_i q]; omega
                          have e1 : up τ3 2 (σ 2 p) (τ3 2 (σ 1 p) + σ 5 p) 2 (σ 2 p) = τ3 2 (σ 1 p) + σ 5 p := up_self _ _ _ _
                          have e2 : up τ3 2 (σ 2 p) (τ3 2 (σ 1 p) + σ 5 p) 2 (σ 1 p) = τ3 2 (σ 1 p) := up_i (by omega)
                          rw [← hWg]
                          exact join266 1 _ _ _ _ hP hS (lv_sub hl [0, 1, 2, 3, 4, 5] rfl) ⟨by omega, hw2, fun v v1 v2 => Int.le_trans (hle4 v v1 v2) (hle3 v v1 v2), fun q => by omega, hsn _ hle4 (fun _ => by omega), fun t i q => by rw [up_t q]; exact hF3 t i q, fun _ => ⟨σ 2 p, by omega, by omega, by omega⟩⟩
                      · omega
        rw [← hWg]
        exact loop49 _ 0 0 _ _ _ _ hP hS hl ⟨by omega, hwf, fun v _ _ => Int.le_refl _, fun _ v _ _ => rfl, fun p p1 p2 => by omega, hF, fun q => by omega⟩ (Nat.lt_succ_self _)
  have loop3 : ∀ (nn : Nat) (i : Int) (τ1 : Tb) (H : Heap) (locs : List Loc) (ls : Array Slot), va_P D vwCl (kw 27 ad (RE G ad σ τ1)) H → va_S (kA 27 ad) s.heap H locs → lv_has ls 9 [(0, .ref (ad 0)), (1, .int (iI a)), (2, .int (iI b)), (3, .long (lN S)), (5, .int (iI i))] → ((0 ≤ i ∧ i ≤ 20) ∧ (∀ v, 0 ≤ v → v < i → (v = a → τ1 2 v = 0) ∧ (v ≠ a → τ1 2 v = 1000000)) ∧ (∀ t i, t ≠ 2 → τ1 t i = τ t i)) → (20 - i).toNat < nn → Wg H locs (F0 m0 3 ls []) := by
    intro nn
    induction nn with
    | zero => intro i τ1 H locs ls _ _ _ _ hn; omega
    | succ nn ih3 =>
      intro i τ1 H locs ls hP hS hl hv3 hn3
      rw [hWg]
      obtain ⟨hv, hT, hF⟩ := hv3
      refine lv_iload hx hb dX9_minutesOf_3 (lv_at hl 4 rfl) ?_
      refine r_bipush hx hb dX9_minutesOf_5 (by decide +kernel) ?_
      refine r_icmp_ge (tgt := 35) hx hb (by omega) (by omega) dX9_minutesOf_7 (by decide) (fun c7 => ?_) (fun c7 => ?_)
      · obtain rfl : i = 20 := by omega
        refine r_const hx hb dX9_minutesOf_35 ?_
        refine lv_istore hx hb dX9_minutesOf_36 hl (by decide) rfl (fun ls hl => ?_)
        replace hl : lv_has ls 9 [(0, _), (1, _), (2, _), (3, _), (5, _)] := lv_sub hl [1, 2, 3, 4, 0] rfl
        rw [← hWg]
        exact loop38 _ 1 _ _ _ _ hP hS hl ⟨by omega, wfD_0 ((hT a ha.1 ha.2).1 rfl) (fun v v1 v2 v3 => (hT v v1 v2).2 v3), fun q => by omega, hF⟩ (Nat.lt_succ_self _)
      · refine lv_aload_n hx hb dX9_minutesOf_10 rfl (lv_at hl 0 rfl) ?_
        refine r_get (C := RX9) (T := TX9) (N := 34) (ci := 9) hx hb hts hi_X9 hown hK hP 33 rfl (by decide) lk_X9_94 (fun _ h9 => h9) dX9_minutesOf_11 (by omega) RE_0 rfl ?_
        refine lv_iload hx hb dX9_minutesOf_14 (lv_at hl 4 rfl) ?_
        refine lv_iload hx hb dX9_minutesOf_16 (lv_at hl 4 rfl) ?_
        refine lv_iload_n hx hb dX9_minutesOf_18 rfl (lv_at hl 1 rfl) ?_
        refine r_icmp_ne (tgt := 26) hx hb (by omega) (by omega) dX9_minutesOf_19 (by decide) (fun c19 => ?_) (fun c19 => ?_)
        · refine r_ldc hx hb hown (hts _ lc_X9_136) (show (1000000 : Int32) = iI 1000000 by decide +kernel) dX9_minutesOf_26 ?_
          refine r_iast hx hb hi hK hP hS 0 rfl dX9_minutesOf_28 (by omega) rfl (by omega) (by omega) (ru_far (by omega)) (fun H locs hP hS => ?_)
          refine r_iinc hx hb dX9_minutesOf_29 hl (k := 4) rfl (by decide) (fun ls hl => ?_)
          replace hl : lv_has ls 9 [(0, _), (1, _), (2, _), (3, _), (5, _)] := lv_sub hl [1, 2, 3, 4, 0] rfl
          refine lv_goto (tgt := 3) hx hb dX9_minutesOf_32 (by decide) ?_
          have hT2 : ∀ v, 0 ≤ v → v < i + 1 → (v = a → up τ1 2 i 1000000 2 v = 0) ∧ (v ≠ a → up τ1 2 i 1000000 2 v = 1000000) := by
            intro v v1 v2
            by_cases q : v = i
            · rw [q, up_self]; exact ⟨fun y => absurd y c19, fun _ => rfl⟩
            · rw [up_i q]; exact hT v v1 (by omega)
          rw [← hWg]
          exact ih3 (i + 1) _ _ _ _ hP hS (lv_sub hl [0, 1, 2, 3, 4] rfl) ⟨by omega, hT2, fun t j q => by rw [up_t q]; exact hF t j q⟩ (by omega)
        · refine r_const hx hb dX9_minutesOf_22 ?_
          refine lv_goto (tgt := 28) hx hb dX9_minutesOf_23 (by decide) ?_
          refine r_iast hx hb hi hK hP hS 0 rfl dX9_minutesOf_28 (by omega) rfl (by omega) (by omega) (ru_far (by omega)) (fun H locs hP hS => ?_)
          refine r_iinc hx hb dX9_minutesOf_29 hl (k := 4) rfl (by decide) (fun ls hl => ?_)
          replace hl : lv_has ls 9 [(0, _), (1, _), (2, _), (3, _), (5, _)] := lv_sub hl [1, 2, 3, 4, 0] rfl
          refine lv_goto (tgt := 3) hx hb dX9_minutesOf_32 (by decide) ?_
          have hT2 : ∀ v, 0 ≤ v → v < i + 1 → (v = a → up τ1 2 i 0 2 v = 0) ∧ (v ≠ a → up τ1 2 i 0 2 v = 1000000) := by
            intro v v1 v2
            by_cases q : v = i
            · rw [q, up_self]; exact ⟨fun _ => rfl, fun y => absurd c19 y⟩
            · rw [up_i q]; exact hT v v1 (by omega)
          rw [← hWg]
          exact ih3 (i + 1) _ _ _ _ hP hS (lv_sub hl [0, 1, 2, 3, 4] rfl) ⟨by omega, hT2, fun t j q => by rw [up_t q]; exact hF t j q⟩ (by omega)
  rw [← hWg]
  exact loop3 _ 0 _ _ _ _ hP hS hl ⟨by omega, fun v v1 v2 => by omega, fun t i q => rfl⟩ (Nat.lt_succ_self _)
abbrev rmX9_breaksFeast : Room := { frames := 1, cells := 0, slots := 0, locals := 22 }
set_option maxRecDepth 100000 in
set_option maxHeartbeats 4000000 in
theorem c_X9_breaksFeast {l : Launch} {D : va_G} {G : Nat → ClassId} {ad : Nat → Nat} {σ τ : Tb} (hi : kInj 27 ad) {w d : Int} (hI : Inv σ) (hw : 0 ≤ w ∧ w < σ 0 2) (hd : 0 ≤ d) (he : d + σ 14 w - 1 ≤ 399) : Met l yX9_breaksFeast wsX9_breaksFeast rmX9_breaksFeast (kPc D (tysG G) 27 ad (RE G ad σ τ) [.ref (ad 0), .int (iI w), .int (iI d)]) (kQi D 27 ad (fun z E' => z = bI (ex2 (B3 σ w d)) ∧ ∃ τ', E' = RE G ad σ τ' ∧ (ex2 (B3 σ w d) → isFst (B3 σ w d) (τ' 0 0) (τ' 0 1)) ∧ FrR τ τ')) 0 0 (kA 27 ad) := by
  refine k_met (cc := cX9_breaksFeast) (maxL := 5) (ret := (some .boolean)) (by decide) (Nat.le_of_ble_eq_true rfl) ?_
  intro P0 e0 s m0 below meth c0 ls hx hb hr hlocks hml hown hts hK hP hS hl
  replace hl : lv_has ls 5 [(0, _), (1, _), (2, _)] := hl
  replace hown : s.vm.findClass RX9 = some m0.cls := hown
  refine k_abs (fun Wg hWg => ?_)
  have h0 := Inv_0 hI
  obtain ⟨hN, _, _⟩ := Inv_w hI hw
  unfold IN at hN
  refine lv_iload_n hx hb dX9_breaksFeast_0 rfl (lv_at hl 2 rfl) ?_
  refine lv_istore_n hx hb dX9_breaksFeast_1 rfl hl (by decide) rfl (fun ls hl => ?_)
  replace hl : lv_has ls 5 [(0, _), (1, _), (2, _), (3, _)] := lv_sub hl [1, 2, 3, 0] rfl
  have loop2 : ∀ (nn : Nat) (t : Int) (H : Heap) (locs : List Loc) (ls : Array Slot), va_P D vwCl (kw 27 ad (RE G ad σ τ)) H → va_S (kA 27 ad) s.heap H locs → lv_has ls 5 [(0, .ref (ad 0)), (1, .int (iI w)), (2, .int (iI d)), (3, .int (iI t))] → ((d ≤ t ∧ t ≤ d + σ 14 w) ∧ (∀ t' p, t' < t → ¬ B3 σ w d t' p)) → (d + σ 14 w - t).toNat < nn → Wg H locs (F0 m0 2 ls []) := by
    intro nn
    induction nn with
    | zero => intro t H locs ls _ _ _ _ hn; omega
    | succ nn ih2 =>
      intro t H locs ls hP hS hl hv2 hn2
      rw [hWg]
      obtain ⟨hv, hno⟩ := hv2
      refine lv_iload_n hx hb dX9_breaksFeast_2 rfl (lv_at hl 3 rfl) ?_
      refine lv_iload_n hx hb dX9_breaksFeast_3 rfl (lv_at hl 2 rfl) ?_
      refine lv_aload_n hx hb dX9_breaksFeast_4 rfl (lv_at hl 0 rfl) ?_
      refine r_get (C := RX9) (T := TX9) (N := 34) (ci := 9) hx hb hts hi_X9 hown hK hP 16 rfl (by decide) lk_X9_50 (fun _ h9 => h9) dX9_breaksFeast_5 (by omega) RE_0 rfl ?_
      refine lv_iload_n hx hb dX9_breaksFeast_8 rfl (lv_at hl 1 rfl) ?_
      refine r_iald hx hb hK hP 0 rfl dX9_breaksFeast_9 (by omega) rfl (by omega) (by omega) (tI_at (by omega)) ?_
      refine r_add hx hb dX9_breaksFeast_10 ?_
      refine r_icmp_ge (tgt := 76) hx hb (by omega) (by omega) dX9_breaksFeast_11 (by decide) (fun c11 => ?_) (fun c11 => ?_)
      · have hn2 : ¬ ex2 (B3 σ w d) := fun ⟨a, b, q⟩ => hno a b (by have := q.1; unfold inW at this; omega) q
        refine r_const hx hb dX9_breaksFeast_76 ?_
        exact k_zret hx hb hr hlocks hP hS dX9_breaksFeast_77 (by omega) ⟨(bI_f hn2).symm, τ, rfl, fun q => absurd q hn2, FrR_rf⟩
      · have hf := Inv_f hI (d := t) (by omega)
        have join70 : ∀  (H : Heap) (locs : List Loc) (ls : Array Slot), va_P D vwCl (kw 27 ad (RE G ad σ τ)) H → va_S (kA 27 ad) s.heap H locs → lv_has ls 5 [(0, .ref (ad 0)), (1, .int (iI w)), (2, .int (iI d)), (3, .int (iI t))] → (∀ t' p, t' < t + 1 → ¬ B3 σ w d t' p) → Wg H locs (F0 m0 70 ls []) := by
          intro  H locs ls hP hS hl hv70
          rw [hWg]
          refine r_iinc hx hb dX9_breaksFeast_70 hl (k := 3) rfl (by decide) (fun ls hl => ?_)
          replace hl : lv_has ls 5 [(0, _), (1, _), (2, _), (3, _)] := lv_sub hl [1, 2, 3, 0] rfl
          refine lv_goto (tgt := 2) hx hb dX9_breaksFeast_73 (by decide) ?_
          rw [← hWg]
          exact ih2 (t + 1) _ _ _ hP hS hl ⟨by omega, hv70⟩ (by omega)
        refine r_const hx hb dX9_breaksFeast_14 ?_
        refine lv_istore hx hb dX9_breaksFeast_15 hl (by decide) rfl (fun ls hl => ?_)
        replace hl : lv_has ls 5 [(0, _), (1, _), (2, _), (3, _), (4, _)] := lv_sub hl [1, 2, 3, 4, 0] rfl
        have loop17 : ∀ (nn : Nat) (p : Int) (H : Heap) (locs : List Loc) (ls : Array Slot), va_P D vwCl (kw 27 ad (RE G ad σ τ)) H → va_S (kA 27 ad) s.heap H locs → lv_has ls 5 [(0, .ref (ad 0)), (1, .int (iI w)), (2, .int (iI d)), (3, .int (iI t)), (4, .int (iI p))] → ((0 ≤ p ∧ p ≤ σ 0 0) ∧ (∀ p', p' < p → ¬ B3 σ w d t p')) → (σ 0 0 - p).toNat < nn → Wg H locs (F0 m0 17 ls []) := by
          intro nn
          induction nn with
          | zero => intro p H locs ls _ _ _ _ hn; omega
          | succ nn ih17 =>
            intro p H locs ls hP hS hl hv17 hn17
            rw [hWg]
            obtain ⟨hv2, hno2⟩ := hv17
            refine lv_iload hx hb dX9_breaksFeast_17 (lv_at hl 4 rfl) ?_
            refine lv_aload_n hx hb dX9_breaksFeast_19 rfl (lv_at hl 0 rfl) ?_
            refine r_get (C := RX9) (T := TX9) (N := 34) (ci := 9) hx hb hts hi_X9 hown hK hP 6 rfl (by decide) lk_X9_101 (fun _ h9 => h9) dX9_breaksFeast_20 (by omega) RE_0 rfl ?_
            refine r_icmp_ge (tgt := 70) hx hb (by omega) (by omega) dX9_breaksFeast_23 (by decide) (fun c23 => ?_) (fun c23 => ?_)
            · rw [← hWg]
              exact join70  _ _ _ hP hS (lv_sub hl [0, 1, 2, 3] rfl) (brS hno hno2 (fun p' q => by have := q.2.1.2; omega))
            · refine lv_aload_n hx hb dX9_breaksFeast_26 rfl (lv_at hl 0 rfl) ?_
              refine r_get (C := RX9) (T := TX9) (N := 34) (ci := 9) hx hb hts hi_X9 hown hK hP 11 rfl (by decide) lk_X9_37 (fun _ h9 => h9) dX9_breaksFeast_27 (by omega) RE_0 rfl ?_
              refine lv_iload_n hx hb dX9_breaksFeast_30 rfl (lv_at hl 3 rfl) ?_
              refine r_zald hx hb hK hP 2 rfl dX9_breaksFeast_31 (by omega) rfl (by omega) (by omega) (tI_at (by omega)) ?_
              refine r_if_eq (tgt := 70) hx hb (by omega) dX9_breaksFeast_32 (by decide) (fun c32 => ?_) (fun c32 => ?_)
              · rw [← hWg]
                exact join70  _ _ _ hP hS (lv_sub hl [0, 1, 2, 3] rfl) (brS (n := σ 0 0) hno (fun p' _ q => by have := q.2.2.2.1; omega) (fun p' q => q.2.1.2))
              · have hp : 0 ≤ p ∧ p < σ 0 0 := by omega
                have hip := Inv_p hI hp
                unfold IP at hip
                have join64 : ∀  (H : Heap) (locs : List Loc) (ls : Array Slot), va_P D vwCl (kw 27 ad (RE G ad σ τ)) H → va_S (kA 27 ad) s.heap H locs → lv_has ls 5 [(0, .ref (ad 0)), (1, .int (iI w)), (2, .int (iI d)), (3, .int (iI t)), (4, .int (iI p))] → (¬ B3 σ w d t p) → Wg H locs (F0 m0 64 ls []) := by
                  intro  H locs ls hP hS hl hv64
                  rw [hWg]
                  refine r_iinc hx hb dX9_breaksFeast_64 hl (k := 4) rfl (by decide) (fun ls hl => ?_)
                  replace hl : lv_has ls 5 [(0, _), (1, _), (2, _), (3, _), (4, _)] := lv_sub hl [1, 2, 3, 4, 0] rfl
                  refine lv_goto (tgt := 17) hx hb dX9_breaksFeast_67 (by decide) ?_
                  rw [← hWg]
                  exact ih17 (p + 1) _ _ _ hP hS hl ⟨by omega, brI hno2 hv64⟩ (by omega)
                refine lv_aload_n hx hb dX9_breaksFeast_35 rfl (lv_at hl 0 rfl) ?_
                refine lv_iload_n hx hb dX9_breaksFeast_36 rfl (lv_at hl 1 rfl) ?_
                refine lv_iload hx hb dX9_breaksFeast_37 (lv_at hl 4 rfl) ?_
                refine k_calliV (nL := 5) (C := RX9) (T := TX9) (N := 34) (ci := 9) hx hb hml hown hts hK hP hS hl.1 (c_X9_isOn hi hI hw (by omega)) rfl (Nat.le_of_ble_eq_true rfl) rfl (cwV 2 hts (gV lm_X9_117 ti_X9_isOn tl_X9_isOn tn_X9 tc_X9_isOn) rfl rfl rfl (by decide +kernel) ⟨Nat.le_of_ble_eq_true rfl, Nat.le_of_ble_eq_true rfl⟩) rfl dX9_breaksFeast_39 ⟨Nat.zero_le _, Nat.zero_le _⟩ (by omega) RE_0 (fun r39 E1 H locs hq hP hS => ?_)
                obtain ⟨rfl, rfl⟩ := hq
                refine r_ifB_eq (tgt := 64) hx hb dX9_breaksFeast_42 (by decide) (fun c42 => ?_) (fun c42 => ?_)
                · rw [← hWg]
                  exact join64  _ _ _ hP hS hl (fun q => c42 q.2.2.1)
                · refine lv_aload_n hx hb dX9_breaksFeast_45 rfl (lv_at hl 0 rfl) ?_
                  refine r_get (C := RX9) (T := TX9) (N := 34) (ci := 9) hx hb hts hi_X9 hown hK hP 3 rfl (by decide) lk_X9_19 (fun _ h9 => h9) dX9_breaksFeast_46 (by omega) RE_0 rfl ?_
                  refine lv_iload hx hb dX9_breaksFeast_49 (lv_at hl 4 rfl) ?_
                  refine r_iald hx hb hK hP 0 rfl dX9_breaksFeast_51 (by omega) rfl (by omega) (by omega) (tI_at (by omega)) ?_
                  refine r_const hx hb dX9_breaksFeast_52 ?_
                  refine r_icmp_ne (tgt := 64) hx hb (by omega) (by omega) dX9_breaksFeast_53 (by decide) (fun c53 => ?_) (fun c53 => ?_)
                  · rw [← hWg]
                    exact join64  _ _ _ hP hS hl (fun q => c53 q.2.2.2.2)
                  · have hB : B3 σ w d t p := ⟨⟨by omega, by omega⟩, hp, c42, by omega, by omega⟩
                    refine lv_aload_n hx hb dX9_breaksFeast_56 rfl (lv_at hl 0 rfl) ?_
                    refine lv_iload_n hx hb dX9_breaksFeast_57 rfl (lv_at hl 3 rfl) ?_
                    refine lv_iload hx hb dX9_breaksFeast_58 (lv_at hl 4 rfl) ?_
                    refine k_calliV (nL := 5) (C := RX9) (T := TX9) (N := 34) (ci := 9) hx hb hml hown hts hK hP hS hl.1 (c_X9_broken hi) rfl (Nat.le_of_ble_eq_true rfl) rfl (cwV 2 hts (gV lm_X9_143 ti_X9_broken tl_X9_broken tn_X9 tc_X9_broken) rfl rfl rfl (by decide +kernel) ⟨Nat.le_of_ble_eq_true rfl, Nat.le_of_ble_eq_true rfl⟩) rfl dX9_breaksFeast_60 ⟨Nat.zero_le _, Nat.zero_le _⟩ (by omega) RE_0 (fun r60 E1 H locs hq hP hS => ?_)
                    obtain ⟨rfl, rfl⟩ := hq
                    exact k_zret hx hb hr hlocks hP hS dX9_breaksFeast_63 (by omega) ⟨(bI_t ⟨t, _, hB⟩).symm, _, rfl, fun q => by rw [brk_2.1, brk_2.2]; exact brF hB hno hno2, brk_F FrR_rf⟩
        rw [← hWg]
        exact loop17 _ 0 _ _ _ hP hS hl ⟨by omega, fun p' q1 q2 => by have := q2.2.1.1; omega⟩ (Nat.lt_succ_self _)
  rw [← hWg]
  exact loop2 _ d _ _ _ hP hS hl ⟨by omega, fun t' p q1 q2 => by have := q2.1; unfold inW at this; omega⟩ (Nat.lt_succ_self _)
abbrev rmX9_breaksLanes : Room := { frames := 4, cells := 0, slots := 0, locals := 99 }
set_option maxRecDepth 100000 in
set_option maxHeartbeats 4000000 in
theorem c_X9_breaksLanes {l : Launch} {D : va_G} {G : Nat → ClassId} {ad : Nat → Nat} {σ τ : Tb} (hi : kInj 27 ad) {w d : Int} {les : Prop} (hI : Inv σ) (hR : RD σ τ) (hw : 0 ≤ w ∧ w < σ 0 2) (hd : 0 ≤ d) (he : d + σ 14 w - 1 ≤ 399) : Met l yX9_breaksLanes wsX9_breaksLanes rmX9_breaksLanes (kPc D (tysG G) 27 ad (RE G ad σ τ) [.ref (ad 0), .int (iI w), .int (iI d), .int (iI (bI les))]) (kQi D 27 ad (fun z E' => z = bI (ex2 (B4 σ w d les)) ∧ ∃ τ', E' = RE G ad σ τ' ∧ (ex2 (B4 σ w d les) → isFst (B4 σ w d les) (τ' 0 0) (τ' 0 1)) ∧ FrR τ τ')) 0 0 (kA 27 ad) := by
  refine k_met (cc := cX9_breaksLanes) (maxL := 6) (ret := (some .boolean)) (by decide) (Nat.le_of_ble_eq_true rfl) ?_
  intro P0 e0 s m0 below meth c0 ls hx hb hr hlocks hml hown hts hK hP hS hl
  replace hl : lv_has ls 6 [(0, _), (1, _), (2, _), (3, _)] := hl
  replace hown : s.vm.findClass RX9 = some m0.cls := hown
  refine k_abs (fun Wg hWg => ?_)
  have h0 := Inv_0 hI
  obtain ⟨hN, _, _⟩ := Inv_w hI hw
  unfold IN at hN
  refine lv_iload_n hx hb dX9_breaksLanes_0 rfl (lv_at hl 2 rfl) ?_
  refine lv_istore hx hb dX9_breaksLanes_1 hl (by decide) rfl (fun ls hl => ?_)
  replace hl : lv_has ls 6 [(0, _), (1, _), (2, _), (3, _), (4, _)] := lv_sub hl [1, 2, 3, 4, 0] rfl
  have loop3 : ∀ (nn : Nat) (t : Int) (H : Heap) (locs : List Loc) (ls : Array Slot), va_P D vwCl (kw 27 ad (RE G ad σ τ)) H → va_S (kA 27 ad) s.heap H locs → lv_has ls 6 [(0, .ref (ad 0)), (1, .int (iI w)), (2, .int (iI d)), (3, .int (iI (bI les))), (4, .int (iI t))] → ((d ≤ t ∧ t ≤ d + σ 14 w) ∧ (∀ t' p, t' < t → ¬ B4 σ w d les t' p)) → (d + σ 14 w - t).toNat < nn → Wg H locs (F0 m0 3 ls []) := by
    intro nn
    induction nn with
    | zero => intro t H locs ls _ _ _ _ hn; omega
    | succ nn ih3 =>
      intro t H locs ls hP hS hl hv3 hn3
      rw [hWg]
      obtain ⟨hv, hno⟩ := hv3
      refine lv_iload hx hb dX9_breaksLanes_3 (lv_at hl 4 rfl) ?_
      refine lv_iload_n hx hb dX9_breaksLanes_5 rfl (lv_at hl 2 rfl) ?_
      refine lv_aload_n hx hb dX9_breaksLanes_6 rfl (lv_at hl 0 rfl) ?_
      refine r_get (C := RX9) (T := TX9) (N := 34) (ci := 9) hx hb hts hi_X9 hown hK hP 16 rfl (by decide) lk_X9_50 (fun _ h9 => h9) dX9_breaksLanes_7 (by omega) RE_0 rfl ?_
      refine lv_iload_n hx hb dX9_breaksLanes_10 rfl (lv_at hl 1 rfl) ?_
      refine r_iald hx hb hK hP 0 rfl dX9_breaksLanes_11 (by omega) rfl (by omega) (by omega) (tI_at (by omega)) ?_
      refine r_add hx hb dX9_breaksLanes_12 ?_
      refine r_icmp_ge (tgt := 80) hx hb (by omega) (by omega) dX9_breaksLanes_13 (by decide) (fun c13 => ?_) (fun c13 => ?_)
      · have hn2 : ¬ ex2 (B4 σ w d les) := fun ⟨a, b, q⟩ => hno a b (by have := q.1; unfold inW at this; omega) q
        refine r_const hx hb dX9_breaksLanes_80 ?_
        exact k_zret hx hb hr hlocks hP hS dX9_breaksLanes_81 (by omega) ⟨(bI_f hn2).symm, τ, rfl, fun q => absurd q hn2, FrR_rf⟩
      · refine r_const hx hb dX9_breaksLanes_16 ?_
        refine lv_istore hx hb dX9_breaksLanes_17 hl (by decide) rfl (fun ls hl => ?_)
        replace hl : lv_has ls 6 [(0, _), (1, _), (2, _), (3, _), (4, _), (5, _)] := lv_sub hl [1, 2, 3, 4, 5, 0] rfl
        have loop19 : ∀ (nn : Nat) (p : Int) (H : Heap) (locs : List Loc) (ls : Array Slot), va_P D vwCl (kw 27 ad (RE G ad σ τ)) H → va_S (kA 27 ad) s.heap H locs → lv_has ls 6 [(0, .ref (ad 0)), (1, .int (iI w)), (2, .int (iI d)), (3, .int (iI (bI les))), (4, .int (iI t)), (5, .int (iI p))] → ((0 ≤ p ∧ p ≤ σ 0 0) ∧ (∀ p', p' < p → ¬ B4 σ w d les t p')) → (σ 0 0 - p).toNat < nn → Wg H locs (F0 m0 19 ls []) := by
          intro nn
          induction nn with
          | zero => intro p H locs ls _ _ _ _ hn; omega
          | succ nn ih19 =>
            intro p H locs ls hP hS hl hv19 hn19
            rw [hWg]
            obtain ⟨hv2, hno2⟩ := hv19
            refine lv_iload hx hb dX9_breaksLanes_19 (lv_at hl 5 rfl) ?_
            refine lv_aload_n hx hb dX9_breaksLanes_21 rfl (lv_at hl 0 rfl) ?_
            refine r_get (C := RX9) (T := TX9) (N := 34) (ci := 9) hx hb hts hi_X9 hown hK hP 6 rfl (by decide) lk_X9_101 (fun _ h9 => h9) dX9_breaksLanes_22 (by omega) RE_0 rfl ?_
            refine r_icmp_ge (tgt := 74) hx hb (by omega) (by omega) dX9_breaksLanes_25 (by decide) (fun c25 => ?_) (fun c25 => ?_)
            · refine r_iinc hx hb dX9_breaksLanes_74 hl (k := 4) rfl (by decide) (fun ls hl => ?_)
              replace hl : lv_has ls 6 [(0, _), (1, _), (2, _), (3, _), (4, _), (5, _)] := lv_sub hl [1, 2, 3, 4, 0, 5] rfl
              refine lv_goto (tgt := 3) hx hb dX9_breaksLanes_77 (by decide) ?_
              rw [← hWg]
              exact ih3 (t + 1) _ _ _ hP hS (lv_sub hl [0, 1, 2, 3, 4] rfl) ⟨by omega, brS hno hno2 (fun p' q => by have := q.2.1.2; omega)⟩ (by omega)
            · have hp : 0 ≤ p ∧ p < σ 0 0 := by omega
              have hip := Inv_p hI hp
              unfold IP at hip
              have join68 : ∀  (H : Heap) (locs : List Loc) (ls : Array Slot), va_P D vwCl (kw 27 ad (RE G ad σ τ)) H → va_S (kA 27 ad) s.heap H locs → lv_has ls 6 [(0, .ref (ad 0)), (1, .int (iI w)), (2, .int (iI d)), (3, .int (iI (bI les))), (4, .int (iI t)), (5, .int (iI p))] → (¬ B4 σ w d les t p) → Wg H locs (F0 m0 68 ls []) := by
                intro  H locs ls hP hS hl hv68
                rw [hWg]
                refine r_iinc hx hb dX9_breaksLanes_68 hl (k := 5) rfl (by decide) (fun ls hl => ?_)
                replace hl : lv_has ls 6 [(0, _), (1, _), (2, _), (3, _), (4, _), (5, _)] := lv_sub hl [1, 2, 3, 4, 5, 0] rfl
                refine lv_goto (tgt := 19) hx hb dX9_breaksLanes_71 (by decide) ?_
                rw [← hWg]
                exact ih19 (p + 1) _ _ _ hP hS hl ⟨by omega, brI hno2 hv68⟩ (by omega)
              refine lv_aload_n hx hb dX9_breaksLanes_28 rfl (lv_at hl 0 rfl) ?_
              refine lv_iload_n hx hb dX9_breaksLanes_29 rfl (lv_at hl 1 rfl) ?_
              refine lv_iload hx hb dX9_breaksLanes_30 (lv_at hl 5 rfl) ?_
              refine k_calliV (nL := 6) (C := RX9) (T := TX9) (N := 34) (ci := 9) hx hb hml hown hts hK hP hS hl.1 (c_X9_isOn hi hI hw (by omega)) rfl (Nat.le_of_ble_eq_true rfl) rfl (cwV 2 hts (gV lm_X9_117 ti_X9_isOn tl_X9_isOn tn_X9 tc_X9_isOn) rfl rfl rfl (by decide +kernel) ⟨Nat.le_of_ble_eq_true rfl, Nat.le_of_ble_eq_true rfl⟩) rfl dX9_breaksLanes_32 ⟨Nat.zero_le _, Nat.zero_le _⟩ (by omega) RE_0 (fun r32 E1 H locs hq hP hS => ?_)
              obtain ⟨rfl, rfl⟩ := hq
              refine r_ifB_eq (tgt := 68) hx hb dX9_breaksLanes_35 (by decide) (fun c35 => ?_) (fun c35 => ?_)
              · rw [← hWg]
                exact join68  _ _ _ hP hS hl (fun q => c35 q.2.2.1)
              · have ht := tkn_r hI (p := p) (w := w) (d := d) (les := les) (day := t)
                refine lv_aload_n hx hb dX9_breaksLanes_38 rfl (lv_at hl 0 rfl) ?_
                refine lv_iload hx hb dX9_breaksLanes_39 (lv_at hl 5 rfl) ?_
                refine lv_iload_n hx hb dX9_breaksLanes_41 rfl (lv_at hl 1 rfl) ?_
                refine lv_iload_n hx hb dX9_breaksLanes_42 rfl (lv_at hl 2 rfl) ?_
                refine lv_iload_n hx hb dX9_breaksLanes_43 rfl (lv_at hl 3 rfl) ?_
                refine lv_iload hx hb dX9_breaksLanes_44 (lv_at hl 4 rfl) ?_
                refine k_calliV (nL := 6) (C := RX9) (T := TX9) (N := 34) (ci := 9) hx hb hml hown hts hK hP hS hl.1 (c_X9_taken hi hI hR (p := p) (by omega) (by omega) (by omega) (by omega)) rfl (Nat.le_of_ble_eq_true rfl) rfl (cwV 5 hts (gV lm_X9_132 ti_X9_taken tl_X9_taken tn_X9 tc_X9_taken) rfl rfl rfl (by decide +kernel) ⟨Nat.le_of_ble_eq_true rfl, Nat.le_of_ble_eq_true rfl⟩) rfl dX9_breaksLanes_46 ⟨Nat.zero_le _, Nat.zero_le _⟩ (by omega) RE_0 (fun r46 E1 H locs hq hP hS => ?_)
                obtain ⟨rfl, rfl⟩ := hq
                refine lv_aload_n hx hb dX9_breaksLanes_49 rfl (lv_at hl 0 rfl) ?_
                refine r_get (C := RX9) (T := TX9) (N := 34) (ci := 9) hx hb hts hi_X9 hown hK hP 2 rfl (by decide) lk_X9_16 (fun _ h9 => h9) dX9_breaksLanes_50 (by omega) RE_0 rfl ?_
                refine lv_iload hx hb dX9_breaksLanes_53 (lv_at hl 5 rfl) ?_
                refine r_iald hx hb hK hP 0 rfl dX9_breaksLanes_55 (by omega) rfl (by omega) (by omega) (tI_at (by omega)) ?_
                refine r_icmp_le (tgt := 68) hx hb (by omega) (by omega) dX9_breaksLanes_56 (by decide) (fun c56 => ?_) (fun c56 => ?_)
                · rw [← hWg]
                  exact join68  _ _ _ hP hS hl (fun q => by have := q.2.2.2; omega)
                · have hB : B4 σ w d les t p := ⟨⟨by omega, by omega⟩, hp, c35, by omega⟩
                  refine lv_aload_n hx hb dX9_breaksLanes_59 rfl (lv_at hl 0 rfl) ?_
                  refine lv_iload hx hb dX9_breaksLanes_60 (lv_at hl 4 rfl) ?_
                  refine lv_iload hx hb dX9_breaksLanes_62 (lv_at hl 5 rfl) ?_
                  refine k_calliV (nL := 6) (C := RX9) (T := TX9) (N := 34) (ci := 9) hx hb hml hown hts hK hP hS hl.1 (c_X9_broken hi) rfl (Nat.le_of_ble_eq_true rfl) rfl (cwV 2 hts (gV lm_X9_143 ti_X9_broken tl_X9_broken tn_X9 tc_X9_broken) rfl rfl rfl (by decide +kernel) ⟨Nat.le_of_ble_eq_true rfl, Nat.le_of_ble_eq_true rfl⟩) rfl dX9_breaksLanes_64 ⟨Nat.zero_le _, Nat.zero_le _⟩ (by omega) RE_0 (fun r64 E1 H locs hq hP hS => ?_)
                  obtain ⟨rfl, rfl⟩ := hq
                  exact k_zret hx hb hr hlocks hP hS dX9_breaksLanes_67 (by omega) ⟨(bI_t ⟨t, _, hB⟩).symm, _, rfl, fun q => by rw [brk_2.1, brk_2.2]; exact brF hB hno hno2, brk_F FrR_rf⟩
        rw [← hWg]
        exact loop19 _ 0 _ _ _ hP hS hl ⟨by omega, fun p' q1 q2 => by have := q2.2.1.1; omega⟩ (Nat.lt_succ_self _)
  rw [← hWg]
  exact loop3 _ d _ _ _ hP hS hl ⟨by omega, fun t' p q1 q2 => by have := q2.1; unfold inW at this; omega⟩ (Nat.lt_succ_self _)

