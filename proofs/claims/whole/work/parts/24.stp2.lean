theorem ntc_r {σ : Tb} {w : Int} : 0 ≤ ntc σ w ∧ ntc σ w ≤ 30 := by
  unfold ntc
  by_cases q : σ 12 w = 1
  · rw [cif_t q]; omega
  · rw [cif_f q]
    by_cases q2 : σ 12 w = 3
    · rw [cif_t q2]; omega
    · rw [cif_f q2]; omega
theorem InvS_pmt {σ : Tb} (h : InvS σ) {w d : Int} (hw : 0 ≤ w ∧ w < σ 0 2) (h4 : σ 19 w ≠ 4) (hd : σ 0 3 ≤ d) (hd2 : d ≤ 399) (hl : d ≠ σ 0 3 → d + σ 14 w - 1 ≤ 399) (h12 : d ≠ σ 0 3 → σ 12 w ≠ 2) : InvS (pmt σ w d) := by
  refine ⟨pmt_Inv h.1 hw h4 hd hl hd2 h12, fun v v1 v2 v3 => ?_⟩
  rw [pmt_t (t := 0) (by decide) (by decide) (by decide)] at v2 ⊢
  by_cases q : v = w
  · subst q
    rw [pmt_e, up_self] at v3
    rw [pmt_e, up_t (by decide), plB_20]
    by_cases z : d = σ 0 3
    · rw [cif_t z] at v3; omega
    · omega
  · rw [pmt_i q] at v3 ⊢
    exact h.2 v v1 v2 v3
theorem InvS_drp {σ : Tb} (h : InvS σ) {w : Int} (hw : 0 ≤ w ∧ w < σ 0 2) : InvS (drp σ w) := by
  refine ⟨drp_Inv h.1 hw, fun v v1 v2 v3 => ?_⟩
  rw [drp_t (t := 0) (by decide)] at v2 ⊢
  by_cases q : v = w
  · rw [q, (drp_w (σ := σ) (w := w)).1] at v3; omega
  · rw [drp_i h.1 hw q 19 (by decide)] at v3
    rw [drp_i h.1 hw q 20 (by decide)]
    exact h.2 v v1 v2 v3
theorem plM_o {σ : Tb} {w d v : Int} {t : Nat} (h : t ≠ 24) : plM σ w d t v = plB σ w d t v := up_t h
theorem InvS_mvW {σ : Tb} (h : InvS σ) {w : Int} (hw : 0 ≤ w ∧ w < σ 0 2) (h1 : σ 19 w = 1) : InvS (mvW σ w) := by
  by_cases q : ∃ d, fdOk σ w (σ 20 w) d
  · obtain ⟨d, hd⟩ := q
    have hI := mvW_Inv h.1 hw h1
    refine ⟨hI, fun v v1 v2 v3 => ?_⟩
    rw [mvW_02] at v2 ⊢
    rw [mvW_t hd] at v3 ⊢
    rw [plM_o (by decide)] at v3 ⊢
    have hs := h.2 w hw.1 hw.2 h1
    by_cases z : v = w
    · rw [z, plB_20]; have := hd.1; omega
    · rw [plB_i z] at v3 ⊢
      exact h.2 v v1 v2 v3
  · unfold mvW
    rw [cif_f q]
    exact InvS_drp h hw
theorem InvS_mvN {σ : Tb} (h : InvS σ) : ∀ k : Nat, (k : Int) ≤ σ 0 2 → InvS (mvN σ k)
  | 0, _ => h
  | k + 1, hk => by
    have ih := InvS_mvN h k (by omega)
    show InvS (cif (mvB (mvN σ k) (k : Int)) (mvW (mvN σ k) (k : Int)) (mvN σ k))
    by_cases q : mvB (mvN σ k) (k : Int)
    · rw [cif_t q]
      exact InvS_mvW ih (by rw [mvN_02]; omega) q.1
    · rw [cif_f q]; exact ih
theorem InvS_ovr {σ : Tb} (h : InvS σ) {w n : Int} (hw : 0 ≤ w ∧ w < σ 0 2) (h2 : σ 19 w = 2) (hn : 1 ≤ n ∧ n ≤ 30) : InvS (ovr σ w n) := by
  have h0 := Inv_0 h.1
  have hs := (IN_s h.1 hw).2.2.2.2.1 h2
  obtain ⟨l, hl, hl2⟩ : ∃ l, l = (if σ 21 w + n < 399 then σ 21 w + n else 399) ∧ σ 21 w ≤ l ∧ l ≤ 399 := ⟨_, rfl, by split <;> omega⟩
  have e : ovr σ w n = up (up σ 22 w (σ 22 w + (l - σ 21 w))) 21 w l := by unfold ovr; rw [← hl]
  rw [e]
  have ht : ∀ t v, t ≠ 21 → t ≠ 22 → up (up σ 22 w (σ 22 w + (l - σ 21 w))) 21 w l t v = σ t v := fun t v a b => by rw [up_t a, up_t b]
  have hi : ∀ t v, v ≠ w → up (up σ 22 w (σ 22 w + (l - σ 21 w))) 21 w l t v = σ t v := fun t v a => by rw [up_i a, up_i a]
  refine ⟨Inv_st h.1 (fun t i q => ht t i (by omega) (by omega)) (fun t i q1 q2 => hi t i (by omega)) (fun v v1 v2 => ?_) (fun v v1 v2 => ?_), fun v v1 v2 v3 => ?_⟩
  · have hv := IN_s h.1 ⟨v1, v2⟩
    unfold INs at hv ⊢
    rw [ht 19 v (by decide) (by decide), ht 20 v (by decide) (by decide), ht 14 v (by decide) (by decide), ht 12 v (by decide) (by decide), ht 0 3 (by decide) (by decide)]
    by_cases q : v = w
    · rw [q, up_self]; omega
    · rw [hi 21 v q]; exact hv
  · exact IJ_c (σ := σ) (fun t i q => ht t i (by omega) (by omega)) (by rw [ht 19 v (by decide) (by decide)]; exact id) (h.1.2.2.2.2.1 v v1 v2).2.2
  · rw [ht 0 2 (by decide) (by decide)] at v2
    rw [ht 19 v (by decide) (by decide)] at v3
    rw [ht 0 3 (by decide) (by decide), ht 20 v (by decide) (by decide)]
    exact h.2 v v1 v2 v3
theorem InvS_psD {σ : Tb} (h : InvS σ) (ht : σ 0 3 + 1 ≤ 399) : InvS (psN σ (σ 0 2)) := by
  have h0 := Inv_0 h.1
  have hu : ∀ t v, ¬ (t = 0 ∧ v = 3) → t ≠ 19 → psN σ (σ 0 2) t v = σ t v := fun t v a b => psN_o a (by omega)
  have hd : ∀ t v, ¬ (t = 0 ∧ v = 3) → σ 0 2 ≤ v → psN σ (σ 0 2) t v = σ t v := fun t v a b => psN_o a (by omega)
  have h19 : ∀ v, 0 ≤ v → v < σ 0 2 → psN σ (σ 0 2) 19 v = psS σ v := fun v a b => by unfold psN; rw [cif_f (by omega), cif_t (by omega)]
  have hS : ∀ v, 0 ≤ v → v < σ 0 2 → (σ 19 v = 2 ∧ σ 21 v < σ 0 3 + 1 ∧ psS σ v = 3) ∨ (σ 19 v = 2 ∧ σ 0 3 + 1 ≤ σ 21 v ∧ psS σ v = 2) ∨ (σ 19 v = 1 ∧ σ 20 v = σ 0 3 + 1 ∧ psS σ v = 2) ∨ (σ 19 v = 1 ∧ σ 0 3 + 1 < σ 20 v ∧ psS σ v = 1) ∨ (σ 19 v ≠ 1 ∧ σ 19 v ≠ 2 ∧ psS σ v = σ 19 v) := by
    intro v v1 v2
    unfold psS
    by_cases q : σ 19 v = 2 ∧ σ 21 v < σ 0 3 + 1
    · rw [cif_t q]; omega
    · rw [cif_f q]
      by_cases q2 : σ 19 v = 1 ∧ σ 20 v = σ 0 3 + 1
      · rw [cif_t q2]; omega
      · rw [cif_f q2]
        by_cases q3 : σ 19 v = 1
        · have := h.2 v v1 v2 q3; omega
        · omega
  have e0 : ∀ i, i ≠ 3 → psN σ (σ 0 2) 0 i = σ 0 i := fun i hi => hu 0 i (by omega) (by decide)
  refine ⟨⟨?_, fun x y1 y2 => ?_, fun k k1 k2 => ?_, fun d d1 d2 => ?_, fun v w1 w2 => ?_, fun v w1 w2 => ?_⟩, fun v w1 w2 w3 => ?_⟩
  · rw [e0 0 (by decide), e0 1 (by decide), e0 2 (by decide), e0 4 (by decide), psN_d]
    omega
  · rw [e0 0 (by decide)] at y2
    have := Inv_p h.1 (p := x) (by omega)
    unfold IP at this ⊢
    rw [hu 1 x (by omega) (by decide), hu 2 x (by omega) (by decide), hu 3 x (by omega) (by decide), hu 4 x (by omega) (by decide), hu 5 x (by omega) (by decide), hu 6 x (by omega) (by decide)]
    exact this
  · rw [e0 1 (by decide)] at k2
    have := Inv_r h.1 (k := k) (by omega)
    unfold IR at this ⊢
    rw [hu 7 k (by omega) (by decide), hu 8 k (by omega) (by decide), hu 9 k (by omega) (by decide)]
    exact this
  · rw [hu 10 d (by omega) (by decide)]; exact Inv_f h.1 (by omega)
  · rw [e0 2 (by decide)] at w2
    obtain ⟨z1, z2, z3⟩ := Inv_w h.1 (w := v) ⟨w1, w2⟩
    have hs := hS v w1 w2
    refine ⟨?_, ?_, ?_⟩
    · unfold IN at z1 ⊢
      rw [hu 11 v (by omega) (by decide), hu 12 v (by omega) (by decide), hu 13 v (by omega) (by decide), hu 14 v (by omega) (by decide), hu 15 v (by omega) (by decide), hu 16 v (by omega) (by decide), h19 v w1 w2, hu 20 v (by omega) (by decide), hu 21 v (by omega) (by decide), psN_d]
      obtain ⟨a1, a2, a3, a4, a5, a6, a7, a8, a9, a10, a11, a12⟩ := z1
      refine ⟨a1, a2, a3, a4, a5, a6, ?_⟩
      rcases hs with ⟨q1, q2, q3⟩ | ⟨q1, q2, q3⟩ | ⟨q1, q2, q3⟩ | ⟨q1, q2, q3⟩ | ⟨q1, q2, q3⟩ <;> rw [q3] <;> omega
    · obtain ⟨b1, b2, b3, b4, b5⟩ := z2
      have eP : ∀ k, PQ (psN σ (σ 0 2)) v k = PQ σ v k := fun k => hu (25 + k.toNat) v (by omega) (by omega)
      have eO : ∀ p', isOn (psN σ (σ 0 2)) v p' ↔ isOn σ v p' := fun p' => by unfold isOn; rw [hu 17 v (by omega) (by decide)]
      unfold IQ
      rw [hu 17 v (by omega) (by decide), hu 18 v (by omega) (by decide), e0 0 (by decide)]
      refine ⟨b1, b2, fun k k1 k2 => ?_, fun j k j1 j2 j3 => ?_, fun p' p1 p2 => ?_⟩
      · rw [eP]; exact ⟨(b3 k k1 k2).1, (eO _).mpr (b3 k k1 k2).2⟩
      · rw [eP, eP]; exact b4 j k j1 j2 j3
      · obtain ⟨k, k1, k2, k3⟩ := b5 p' p1 ((eO p').mp p2)
        exact ⟨k, k1, k2, by rw [eP]; exact k3⟩
    · unfold IJ at z3 ⊢
      rw [hu 23 v (by omega) (by decide)]
      rcases z3 with y | ⟨y1, y2, y3, y4, y5, y6, y7⟩
      · exact Or.inl y
      · right
        rw [e0 2 (by decide), hu 23 (σ 23 v) (by omega) (by decide), hu 17 (σ 23 v) (by omega) (by decide), hu 17 v (by omega) (by decide), hu 11 (σ 23 v) (by omega) (by decide), hu 11 v (by omega) (by decide), hu 15 (σ 23 v) (by omega) (by decide), hu 15 v (by omega) (by decide), h19 v w1 w2]
        exact ⟨y1, y2, y3, y4, y5, y6, by omega⟩
  · rw [e0 2 (by decide)] at w1
    have := h.1.2.2.2.2.2 v w1 w2
    unfold ID at this ⊢
    rw [hd 17 v (by omega) w1, hd 18 v (by omega) w1, hd 19 v (by omega) w1, hd 20 v (by omega) w1, hd 21 v (by omega) w1, hd 22 v (by omega) w1, hd 23 v (by omega) w1, hd 24 v (by omega) w1]
    exact this
  · rw [e0 2 (by decide)] at w2
    rw [h19 v w1 w2] at w3
    rw [psN_d, hu 20 v (by omega) (by decide)]
    have := hS v w1 w2
    omega
theorem itD_0 {σ : Tb} : ∀ n : Nat, itD σ n 0 2 = σ 0 2 ∧ itD σ n 0 3 = σ 0 3 + (n : Int)
  | 0 => ⟨rfl, by show σ 0 3 = σ 0 3 + 0; omega⟩
  | n + 1 => by
    obtain ⟨h1, h2⟩ := itD_0 (σ := σ) n
    refine ⟨?_, ?_⟩
    · show psN (itD σ n) (itD σ n 0 2) 0 2 = _
      rw [psN_o (by decide) (by omega)]; exact h1
    · show psN (itD σ n) (itD σ n 0 2) 0 3 = _
      rw [psN_d, h2]; omega
theorem InvS_itD {σ : Tb} (h : InvS σ) : ∀ n : Nat, σ 0 3 + (n : Int) ≤ 399 → InvS (itD σ n)
  | 0, _ => h
  | n + 1, hn => by
    have ih := InvS_itD h n (by omega)
    exact InvS_psD ih (by rw [(itD_0 n).2]; omega)
theorem InvS_join {σ : Tb} (h : InvS σ) {a b : Int} : InvS (sJoin σ a b) := by
  unfold sJoin
  by_cases q : (lvW σ a ∧ lvW σ b ∧ a ≠ b) ∧ jnO σ a b
  · rw [cif_t q]
    obtain ⟨⟨q1, q2, q3⟩, ⟨j1, j2, j3⟩, ⟨k1, k2, k3⟩, q4, q5, q6⟩ := q
    unfold lvW at q1 q2
    have ht : ∀ t v, t ≠ 23 → up (up σ 23 a b) 23 b a t v = σ t v := fun t v e => by rw [up_t e, up_t e]
    have hi : ∀ v, v ≠ a → v ≠ b → up (up σ 23 a b) 23 b a 23 v = σ 23 v := fun v e1 e2 => by rw [up_i e2, up_i e1]
    have ea : up (up σ 23 a b) 23 b a 23 a = b := by rw [up_i q3, up_self]
    have eb : up (up σ 23 a b) 23 b a 23 b = a := up_self _ _ _ _
    refine ⟨Inv_st h.1 (fun t i z => ht t i (by omega)) (fun t i z1 z2 => ?_) (fun v v1 v2 => ?_) (fun v v1 v2 => ?_), fun v v1 v2 v3 => ?_⟩
    · by_cases e : t = 23
      · rw [e]; exact hi i (by omega) (by omega)
      · exact ht t i e
    · have := IN_s h.1 ⟨v1, v2⟩
      unfold INs at this ⊢
      rw [ht 19 v (by decide), ht 20 v (by decide), ht 21 v (by decide), ht 14 v (by decide), ht 12 v (by decide), ht 0 3 (by decide)]
      exact this
    · unfold IJ
      by_cases e1 : v = a
      · right
        rw [e1, ea, eb, ht 0 2 (by decide), ht 17 b (by decide), ht 17 a (by decide), ht 11 b (by decide), ht 11 a (by decide), ht 15 b (by decide), ht 15 a (by decide), ht 19 a (by decide)]
        omega
      · by_cases e2 : v = b
        · right
          rw [e2, eb, ea, ht 0 2 (by decide), ht 17 b (by decide), ht 17 a (by decide), ht 11 b (by decide), ht 11 a (by decide), ht 15 b (by decide), ht 15 a (by decide), ht 19 b (by decide)]
          omega
        · have hv := (h.1.2.2.2.2.1 v v1 v2).2.2
          unfold IJ at hv
          rw [hi v e1 e2]
          rcases hv with y | ⟨y1, y2, y3, y4, y5, y6, y7⟩
          · exact Or.inl y
          · right
            have n1 : σ 23 v ≠ a := fun e => by rw [e] at y3; omega
            have n2 : σ 23 v ≠ b := fun e => by rw [e] at y3; omega
            rw [hi (σ 23 v) n1 n2, ht 0 2 (by decide), ht 17 (σ 23 v) (by decide), ht 17 v (by decide), ht 11 (σ 23 v) (by decide), ht 11 v (by decide), ht 15 (σ 23 v) (by decide), ht 15 v (by decide), ht 19 v (by decide)]
            exact ⟨y1, y2, y3, y4, y5, y6, y7⟩
    · rw [ht 0 2 (by decide)] at v2
      rw [ht 19 v (by decide)] at v3
      rw [ht 0 3 (by decide), ht 20 v (by decide)]
      exact h.2 v v1 v2 v3
  · rw [cif_f q]; exact h
theorem bet1_c {σ : Tb} (h : ex2 (betP σ)) : ∃ w d, isFst (betP σ) w d := by
  obtain ⟨w, d, hw⟩ := h
  have key1 : ∀ n : Nat, ∀ w d, betP σ w d → w.toNat < n → ∃ w, (∃ d, betP σ w d) ∧ ∀ w' d', betP σ w' d' → w ≤ w' := by
    intro n
    induction n with
    | zero => intro w d _ h; omega
    | succ n ih =>
      intro w d hp hn
      by_cases q : ∀ w' d', betP σ w' d' → w ≤ w'
      · exact ⟨w, ⟨d, hp⟩, q⟩
      · have : ∃ w' d', betP σ w' d' ∧ w' < w := by
          apply Classical.byContradiction
          intro z
          exact q (fun w' d' y => Classical.byContradiction (fun x => z ⟨w', d', y, by omega⟩))
        obtain ⟨w', d', y, y2⟩ := this
        have hy := y.1
        exact ih w' d' y (by omega)
  obtain ⟨w1, ⟨d1, h1⟩, hmin⟩ := key1 _ w d hw (Nat.lt_succ_self _)
  have key2 : ∀ n : Nat, ∀ d, betP σ w1 d → (d - σ 0 3).toNat < n → ∃ d, betP σ w1 d ∧ ∀ d', betP σ w1 d' → d ≤ d' := by
    intro n
    induction n with
    | zero => intro d _ h; omega
    | succ n ih =>
      intro d hp hn
      by_cases q : ∀ d', betP σ w1 d' → d ≤ d'
      · exact ⟨d, hp, q⟩
      · have : ∃ d', betP σ w1 d' ∧ d' < d := by
          apply Classical.byContradiction
          intro z
          exact q (fun d' y => Classical.byContradiction (fun x => z ⟨d', y, by omega⟩))
        obtain ⟨d', y, y2⟩ := this
        have hy := y.2.2.2.1
        exact ih d' y (by omega)
  obtain ⟨d2, h2, hmin2⟩ := key2 _ d1 h1 (Nat.lt_succ_self _)
  exact ⟨w1, d2, fst_mk h2 hmin hmin2⟩
theorem InvS_bet1 {σ : Tb} (h : InvS σ) : InvS (bet1 σ) := by
  by_cases q : ex2 (betP σ)
  · obtain ⟨w, d, hf⟩ := bet1_c q
    rw [bet1_t hf]
    obtain ⟨h1, h2, h3, h4, h5⟩ := hf.1
    have hr1 := rul1_le h5.1
    have hr2 := rul2_le hr1.2
    have hx := (IN_s h.1 h1).2.2.2.1 h2
    have hB := IN_b h.1 h1
    exact InvS_pmt h h1 (by omega) h4.1 (by omega) (fun _ => hr2.1) (fun _ => hx.2.2.2)
  · unfold bet1
    rw [cif_f q]
    exact h
theorem InvS_itB {σ : Tb} (h : InvS σ) : ∀ n : Nat, InvS (itB σ n)
  | 0 => h
  | n + 1 => InvS_bet1 (InvS_itB h n)
/-- what all BEGINNINGS together are: each better day makes it less -/
noncomputable def sumB (σ : Tb) : Int := sumI (fun w => σ 20 w + 1) (σ 0 2)
theorem sumB_r {σ : Tb} (h : Inv σ) : 0 ≤ sumB σ ∧ sumB σ ≤ 24000 := by
  have h0 := Inv_0 h
  have := sumI_b (f := fun w => σ 20 w + 1) (n := σ 0 2) (M := 400) (by omega) (fun w w1 w2 => by
    have := IN_b h (w := w) ⟨w1, w2⟩
    show 0 ≤ σ 20 w + 1 ∧ σ 20 w + 1 ≤ 400
    omega)
  unfold sumB
  omega
theorem bet1_02 {σ : Tb} : bet1 σ 0 2 = σ 0 2 := by
  unfold bet1
  by_cases q : ex2 (betP σ)
  · rw [cif_t q, pmt_t (by decide) (by decide) (by decide)]
  · rw [cif_f q]
theorem sumB_lt {σ : Tb} (h : ex2 (betP σ)) : sumB (bet1 σ) + 1 ≤ sumB σ := by
  obtain ⟨w, d, hf⟩ := bet1_c h
  unfold sumB
  rw [bet1_02]
  rw [bet1_t hf]
  obtain ⟨h1, h2, h3, h4, h5⟩ := hf.1
  refine sumI_lt h1 (fun v v1 v2 => ?_) ?_
  · by_cases q : v = w
    · show pmt σ w d 20 v + 1 ≤ σ 20 v + 1
      rw [q, pmt_e, up_t (by decide), plB_20]; omega
    · show pmt σ w d 20 v + 1 ≤ σ 20 v + 1
      rw [pmt_i q]; omega
  · show pmt σ w d 20 w + 1 + 1 ≤ σ 20 w + 1
    rw [pmt_e, up_t (by decide), plB_20]; omega
theorem btE_ex {σ : Tb} (h : InvS σ) : ∃ n, btE σ n ∧ n ≤ 24000 := by
  have hn : ∃ n, ¬ ex2 (betP (itB σ n)) := by
    apply Classical.byContradiction
    intro hc
    have hall : ∀ n, ex2 (betP (itB σ n)) := fun n => Classical.byContradiction (fun z => hc ⟨n, z⟩)
    have hle : ∀ n : Nat, sumB (itB σ n) + (n : Int) ≤ 24000 := by
      intro n
      induction n with
      | zero => have := sumB_r h.1; show sumB σ + 0 ≤ 24000; omega
      | succ n ih =>
        have := sumB_lt (hall n)
        show sumB (bet1 (itB σ n)) + ((n + 1 : Nat) : Int) ≤ 24000
        omega
    have h1 := hle 24001
    have h2 := sumB_r (InvS_itB h 24001).1
    omega
  obtain ⟨n, h1, h2⟩ := pk_least (fun n => ¬ ex2 (betP (itB σ n))) hn
  have h3 : ∀ m, m < n → ex2 (betP (itB σ m)) := fun m hm => Classical.not_not.mp (h2 m hm)
  have hle : ∀ m : Nat, m ≤ n → sumB (itB σ m) + (m : Int) ≤ 24000 := by
    intro m
    induction m with
    | zero => intro _; have := sumB_r h.1; show sumB σ + 0 ≤ 24000; omega
    | succ m ih =>
      intro hm
      have := ih (by omega)
      have := sumB_lt (h3 m (by omega))
      show sumB (bet1 (itB σ m)) + ((m + 1 : Nat) : Int) ≤ 24000
      omega
  have := hle n (Nat.le_refl _)
  have := sumB_r (InvS_itB h n).1
  exact ⟨n, ⟨h1, h3⟩, by omega⟩
theorem InvS_permit {σ : Tb} (h : InvS σ) {w d : Int} : InvS (sPermit σ w d) := by
  unfold sPermit
  by_cases q : rfs σ w d = 0
  · rw [cif_t q]
    by_cases q2 : rul1 σ w d False = 0
    · rw [cif_t q2]
      obtain ⟨⟨a1, a2⟩, a3, a4⟩ := rfs_0.mp q
      have hr1 := rul1_le q2
      have hr2 := rul2_le hr1.2
      have hn := ntc_r (σ := σ) (w := w)
      exact InvS_pmt h a1 (by omega) (by omega) (by omega) (fun _ => hr2.1) (fun _ => a4)
    · rw [cif_f q2]; exact InvS_lok h
  · rw [cif_f q]; exact h
theorem InvS_may {σ : Tb} (h : InvS σ) {w d : Int} : InvS (sMay σ w d) := by
  unfold sMay
  by_cases q : rfs σ w d = 0
  · rw [cif_t q]; exact InvS_lok h
  · rw [cif_f q]; exact h
theorem InvS_first {σ : Tb} (h : InvS σ) {w d n : Int} : InvS (sFirst σ w d n) := by
  unfold sFirst
  by_cases q : (1 ≤ n ∧ n ≤ 200) ∧ rfs σ w d = 0
  · rw [cif_t q]; exact InvS_lok h
  · rw [cif_f q]; exact h
theorem InvS_wdr {σ : Tb} (h : InvS σ) {w : Int} : InvS (sWdr σ w) := by
  unfold sWdr
  by_cases q : lvW σ w ∧ (σ 19 w = 0 ∨ σ 19 w = 1)
  · rw [cif_t q]; exact InvS_drp h q.1
  · rw [cif_f q]; exact h
theorem InvS_day {σ : Tb} (h : InvS σ) {n : Int} : InvS (sDay σ n) := by
  unfold sDay
  by_cases q : vD σ n
  · rw [cif_t q]
    obtain ⟨q1, q2⟩ := q
    exact InvS_itD h n.toNat (by omega)
  · rw [cif_f q]; exact h
theorem ovr_02 {σ : Tb} {w n i : Int} : ovr σ w n 0 i = σ 0 i := by unfold ovr; rw [up_t (by decide), up_t (by decide)]
theorem InvS_over {σ : Tb} (h : InvS σ) {w n : Int} : InvS (sOver σ w n) := by
  have h0 := Inv_0 h.1
  unfold sOver
  by_cases q : (lvW σ w ∧ (1 ≤ n ∧ n ≤ 30)) ∧ σ 19 w = 2
  · rw [cif_t q]; exact InvS_mvN (InvS_ovr h q.1.1 q.2 q.1.2) _ (by rw [ovr_02]; omega)
  · rw [cif_f q]; exact h
theorem InvS_crash {σ : Tb} (h : InvS σ) {w : Int} : InvS (sCrash σ w) := by
  have h0 := Inv_0 h.1
  unfold sCrash
  by_cases q : lvW σ w ∧ (σ 12 w = 2 ∧ σ 19 w = 0)
  · rw [cif_t q]; exact InvS_mvN (InvS_pmt h q.1 (by omega) (by omega) (by omega) (fun z => absurd rfl z) (fun z => absurd rfl z)) _ (by rw [pmt_t (by decide) (by decide) (by decide)]; omega)
  · rw [cif_f q]; exact h

