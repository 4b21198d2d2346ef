/-! ===== lanes with and without a work ===== -/
theorem IJ_j {σ : Tb} (h : Inv σ) {w : Int} (hw : 0 ≤ w ∧ w < σ 0 2) (hj : 0 ≤ σ 23 w) : (0 ≤ σ 23 w ∧ σ 23 w < σ 0 2) ∧ σ 23 w ≠ w ∧ σ 23 (σ 23 w) = w ∧ σ 17 (σ 23 w) = σ 17 w := by
  obtain ⟨_, _, hJ⟩ := Inv_w h hw
  rcases hJ with e | ⟨h1, h2, h3, h4, _⟩
  · omega
  · exact ⟨h1, h2, h3, h4⟩
theorem on_j {σ : Tb} (h : Inv σ) {w : Int} (hw : 0 ≤ w ∧ w < σ 0 2) (hj : 0 ≤ σ 23 w) (p : Int) : isOn σ (σ 23 w) p ↔ isOn σ w p := by
  unfold isOn
  rw [(IJ_j h hw hj).2.2.2]
theorem lsts_wo {σ : Tb} {w : Int} {les : Prop} {day o : Int} : lsts σ w (-1) les day o ↔ cnts σ w les o ∧ (σ 20 o ≤ day ∧ day ≤ σ 21 o) := by
  unfold lsts
  constructor
  · rintro (⟨_, h, _⟩ | ⟨_, h1, h2, h3⟩)
    · omega
    · exact ⟨h1, h2, h3⟩
  · rintro ⟨h1, h2, h3⟩
    exact Or.inr ⟨h1.1, h1, h2, h3⟩
theorem lsts_o {σ : Tb} {w d : Int} {les : Prop} {day o : Int} (ho : o ≠ w) : lsts σ w d les day o ↔ cnts σ w les o ∧ (σ 20 o ≤ day ∧ day ≤ σ 21 o) := by
  unfold lsts
  constructor
  · rintro (⟨h, _⟩ | ⟨_, h1, h2, h3⟩)
    · exact absurd h ho
    · exact ⟨h1, h2, h3⟩
  · rintro ⟨h1, h2, h3⟩
    exact Or.inr ⟨ho, h1, h2, h3⟩
theorem tkF_wo {σ : Tb} (hI : Inv σ) {p w : Int} {les : Prop} {day o : Int} (ho : 0 ≤ o ∧ o < σ 0 2) : tkF σ p w (-1) les day o = cif (cnts σ w les o) (cif (isOn σ o p) (lnO σ (cnts σ w les) o day) 0) 0 := by
  unfold tkF lnO
  by_cases h1 : cnts σ w les o
  · by_cases h2 : isOn σ o p
    · by_cases h3 : σ 20 o ≤ day ∧ day ≤ σ 21 o
      · rw [cif_t ⟨h2, lsts_wo.mpr ⟨h1, h3⟩⟩, cif_t h1, cif_t h2, cif_t h3]
        refine cif_c ?_ (fun _ => rfl) (fun _ => rfl)
        unfold lss
        constructor
        · rintro ⟨a1, a2, a3, a4⟩
          obtain ⟨b1, b2⟩ := lsts_wo.mp a3
          exact ⟨a1, b1, b2, a4⟩
        · rintro ⟨a1, a2, a3, a4⟩
          exact ⟨a1, (on_j hI ho a1 p).mpr h2, lsts_wo.mpr ⟨a2, a3⟩, a4⟩
      · rw [cif_f (fun q => h3 (lsts_wo.mp q.2).2), cif_t h1, cif_t h2, cif_f h3]
    · rw [cif_f (fun q => h2 q.1), cif_t h1, cif_f h2]
  · rw [cif_f (fun q => h1 (lsts_wo.mp q.2).1), cif_f h1]
theorem tkn_wo {σ : Tb} (hI : Inv σ) {p w : Int} {les : Prop} {day : Int} : tkn σ p w (-1) les day = tkC σ (cnts σ w les) p day := sumI_c (fun o h1 h2 => tkF_wo hI ⟨h1, h2⟩)
theorem tkF_off {σ : Tb} {p w d : Int} {les : Prop} {day o : Int} (h : ¬ isOn σ o p) : tkF σ p w d les day o = 0 := cif_f (fun q => h q.1)
/-- the difference that a work makes, work by work -/
theorem tkF_o {σ : Tb} (hI : Inv σ) {p w d : Int} {les : Prop} {day o : Int} (ho : 0 ≤ o ∧ o < σ 0 2) (hne : o ≠ w) (hj : σ 23 w ≠ o) : tkF σ p w d les day o = tkF σ p w (-1) les day o := by
  unfold tkF
  by_cases h1 : isOn σ o p ∧ cnts σ w les o ∧ (σ 20 o ≤ day ∧ day ≤ σ 21 o)
  · rw [cif_t (P := isOn σ o p ∧ lsts σ w d les day o) ⟨h1.1, (lsts_o hne).mpr h1.2⟩, cif_t (P := isOn σ o p ∧ lsts σ w (-1) les day o) ⟨h1.1, lsts_wo.mpr h1.2⟩]
    refine cif_c ?_ (fun _ => rfl) (fun _ => rfl)
    unfold lss
    by_cases hjo : 0 ≤ σ 23 o
    · have hjw : σ 23 o ≠ w := fun e => hj (by rw [← e]; exact (IJ_j hI ho hjo).2.2.1)
      constructor
      · rintro ⟨a1, a2, a3, a4⟩
        exact ⟨a1, a2, lsts_wo.mpr ((lsts_o hjw).mp a3), a4⟩
      · rintro ⟨a1, a2, a3, a4⟩
        exact ⟨a1, a2, (lsts_o hjw).mpr (lsts_wo.mp a3), a4⟩
    · constructor
      · rintro ⟨a1, _⟩; omega
      · rintro ⟨a1, _⟩; omega
  · rw [cif_f (fun q => h1 ⟨q.1, (lsts_o hne).mp q.2⟩), cif_f (fun q => h1 ⟨q.1, lsts_wo.mp q.2⟩)]
theorem lsts_w {σ : Tb} {w d : Int} {les : Prop} {day : Int} (hd : 0 ≤ d ∧ d ≤ day ∧ day < d + σ 14 w) : lsts σ w d les day w := Or.inl ⟨rfl, hd.1, hd.2.1, hd.2.2⟩
theorem tkn_wi {σ : Tb} (hI : Inv σ) {p w d : Int} {les : Prop} {day : Int} (hw : 0 ≤ w ∧ w < σ 0 2) (hd : 0 ≤ d ∧ d ≤ day ∧ day < d + σ 14 w) : tkn σ p w d les day = tkC σ (cnts σ w les) p day + cif (isOn σ w p) (lnA σ (cnts σ w les) w day) 0 := by
  rw [← tkn_wo hI]
  unfold tkn
  have hw0 : tkF σ p w (-1) les day w = 0 := cif_f (fun q => (lsts_wo.mp q.2).1.1 rfl)
  by_cases hon : isOn σ w p
  · rw [cif_t hon]
    have hwA : tkF σ p w d les day w = cif (lss σ p w d les day w) 0 (σ 13 w) := cif_t ⟨hon, lsts_w hd⟩
    by_cases hj : 0 ≤ σ 23 w
    · obtain ⟨j1, j2, j3, j4⟩ := IJ_j hI hw hj
      have honj : isOn σ (σ 23 w) p := (on_j hI hw hj p).mpr hon
      have e : ∀ o, 0 ≤ o → o < σ 0 2 → tkF σ p w d les day o = (tkF σ p w (-1) les day o + cif (o = w) (tkF σ p w d les day w) 0) + cif (o = σ 23 w) (tkF σ p w d les day (σ 23 w) - tkF σ p w (-1) les day (σ 23 w)) 0 := by
        intro o o1 o2
        by_cases q1 : o = w
        · rw [q1, hw0, cif_t rfl, cif_f (Ne.symm j2)]; omega
        · by_cases q2 : o = σ 23 w
          · rw [q2, cif_f j2, cif_t rfl]; omega
          · rw [cif_f q1, cif_f q2, tkF_o hI ⟨o1, o2⟩ q1 (Ne.symm q2)]; omega
      rw [sumI_c e, sumI_add, sumI_add, sumI_pt hw, sumI_pt j1]
      have hlj := lsts_o (σ := σ) (d := d) (les := les) (day := day) j2
      by_cases hc : cnts σ w les (σ 23 w) ∧ (σ 20 (σ 23 w) ≤ day ∧ day ≤ σ 21 (σ 23 w))
      · have hjw : tkF σ p w d les day (σ 23 w) = cif (lss σ p w d les day (σ 23 w)) 0 (σ 13 (σ 23 w)) := cif_t ⟨honj, hlj.mpr hc⟩
        have hj0 : tkF σ p w (-1) les day (σ 23 w) = σ 13 (σ 23 w) := by
          unfold tkF
          rw [cif_t ⟨honj, lsts_wo.mpr hc⟩, cif_f]
          rintro ⟨_, _, a3, _⟩
          rw [j3] at a3
          exact (lsts_wo.mp a3).1.1 rfl
        have e1 : lss σ p w d les day w ↔ (σ 13 w < σ 13 (σ 23 w) ∨ (σ 13 (σ 23 w) = σ 13 w ∧ σ 23 w < w)) := ⟨fun q => q.2.2.2, fun q => ⟨hj, honj, hlj.mpr hc, q⟩⟩
        have e2 : lss σ p w d les day (σ 23 w) ↔ (σ 13 (σ 23 w) < σ 13 w ∨ (σ 13 w = σ 13 (σ 23 w) ∧ w < σ 23 w)) := by
          unfold lss
          rw [j3]
          exact ⟨fun q => q.2.2.2, fun q => ⟨hw.1, hon, lsts_w hd, q⟩⟩
        have e3 : lnA σ (cnts σ w les) w day = cif (σ 13 (σ 23 w) < σ 13 w) (σ 13 w - σ 13 (σ 23 w)) 0 := cif_t ⟨hj, hc.1, hc.2⟩
        rw [hwA, hjw, hj0, e3]
        rcases Int.lt_trichotomy (σ 13 w) (σ 13 (σ 23 w)) with q | q | q
        · rw [cif_t (e1.mpr (by omega)), cif_f (fun z => by have := e2.mp z; omega), cif_f (by omega)]; omega
        · by_cases y : w < σ 23 w
          · rw [cif_f (fun z => by have := e1.mp z; omega), cif_t (e2.mpr (by omega)), cif_f (by omega)]; omega
          · rw [cif_t (e1.mpr (by omega)), cif_f (fun z => by have := e2.mp z; omega), cif_f (by omega)]; omega
        · rw [cif_f (fun z => by have := e1.mp z; omega), cif_t (e2.mpr (by omega)), cif_t q]; omega
      · have hjw : tkF σ p w d les day (σ 23 w) = 0 := cif_f (fun q => hc (hlj.mp q.2))
        have hj0 : tkF σ p w (-1) les day (σ 23 w) = 0 := cif_f (fun q => hc (lsts_wo.mp q.2))
        have e1 : ¬ lss σ p w d les day w := fun q => hc (hlj.mp q.2.2.1)
        have e3 : lnA σ (cnts σ w les) w day = σ 13 w := cif_f (fun q => hc ⟨q.2.1, q.2.2⟩)
        rw [hwA, hjw, hj0, e3, cif_f e1]; omega
    · have e : ∀ o, 0 ≤ o → o < σ 0 2 → tkF σ p w d les day o = tkF σ p w (-1) les day o + cif (o = w) (tkF σ p w d les day w) 0 := by
        intro o o1 o2
        by_cases q1 : o = w
        · rw [q1, hw0, cif_t rfl]; omega
        · rw [cif_f q1, tkF_o hI ⟨o1, o2⟩ q1 (by omega)]; omega
      have e1 : ¬ lss σ p w d les day w := fun q => hj q.1
      have e3 : lnA σ (cnts σ w les) w day = σ 13 w := cif_f (fun q => hj q.1)
      rw [sumI_c e, sumI_add, sumI_pt hw, hwA, e3, cif_f e1]
  · rw [cif_f hon, Int.add_zero]
    refine sumI_c (fun o o1 o2 => ?_)
    by_cases q1 : o = w
    · rw [q1, tkF_off hon, tkF_off hon]
    · by_cases q2 : σ 23 w = o
      · have : ¬ isOn σ o p := fun z => hon ((on_j hI hw (by omega) p).mp (by rw [q2]; exact z))
        rw [tkF_off this, tkF_off this]
      · exact tkF_o hI ⟨o1, o2⟩ q1 q2
theorem lnA_r {σ : Tb} {C : Int → Prop} (h : Inv σ) {w day : Int} (hw : 0 ≤ w ∧ w < σ 0 2) : 0 ≤ lnA σ C w day ∧ lnA σ C w day ≤ 4 := by
  obtain ⟨hN, _⟩ := Inv_w h hw
  unfold IN at hN
  unfold lnA
  by_cases h1 : 0 ≤ σ 23 w ∧ C (σ 23 w) ∧ (σ 20 (σ 23 w) ≤ day ∧ day ≤ σ 21 (σ 23 w))
  · obtain ⟨hNj, _⟩ := Inv_w h (IJ_j h hw h1.1).1
    unfold IN at hNj
    rw [cif_t h1]
    by_cases h2 : σ 13 (σ 23 w) < σ 13 w
    · rw [cif_t h2]; omega
    · rw [cif_f h2]; omega
  · rw [cif_f h1]; omega
/-- two masks that meet, meet in a piece -/
theorem and_ne {a b : Nat} : a &&& b ≠ 0 ↔ ∃ k, a.testBit k = true ∧ b.testBit k = true := by
  constructor
  · intro h
    apply Classical.byContradiction
    intro hc
    apply h
    apply Nat.eq_of_testBit_eq
    intro i
    rw [Nat.testBit_and, Nat.zero_testBit]
    cases e1 : a.testBit i
    · rfl
    · cases e2 : b.testBit i
      · rfl
      · exact absurd ⟨i, e1, e2⟩ hc
  · rintro ⟨k, h1, h2⟩ h
    have := congrArg (fun x => x.testBit k) h
    simp [Nat.testBit_and, h1, h2] at this
theorem nrP_on {σ : Tb} {C : Int → Prop} {w o : Int} : nrP σ C (σ 17 w).toNat o ↔ C o ∧ ∃ p, 0 ≤ p ∧ isOn σ o p ∧ isOn σ w p := by
  unfold nrP isOn
  rw [and_ne]
  constructor
  · rintro ⟨h1, k, h2, h3⟩
    exact ⟨h1, (k : Int), by omega, by simpa using h2, by simpa using h3⟩
  · rintro ⟨h1, p, _, h2, h3⟩
    exact ⟨h1, p.toNat, h2, h3⟩
theorem bsF_eq {σ : Tb} {C : Int → Prop} {w p t : Int} (hp : 0 ≤ p) (hon : isOn σ w p) : bsF σ C (nrP σ C (σ 17 w).toNat) p t = tkC σ C p t := by
  refine sumI_c (fun o o1 o2 => ?_)
  by_cases h1 : C o
  · rw [cif_t h1]
    by_cases h2 : isOn σ o p
    · rw [cif_t (nrP_on.mpr ⟨h1, p, hp, h2, hon⟩)]
    · rw [cif_f h2]
      by_cases h3 : nrP σ C (σ 17 w).toNat o
      · rw [cif_t h3]
      · rw [cif_f h3]
  · rw [cif_f h1, cif_f (fun q => h1 q.1)]
/-- of the scratch, the lists and the breaker stay -/
def Fr2 (τ τ' : Tb) : Prop := (∀ t i, t = 0 ∨ t = 1 ∨ t = 3 → τ' t i = τ t i) ∧ ∀ i, i ≠ 2 → i ≠ 3 → τ' 2 i = τ 2 i
theorem Fr2_rf {τ : Tb} : Fr2 τ τ := ⟨fun _ _ _ => rfl, fun _ _ _ => rfl⟩
theorem Fr2_tr {a b c : Tb} (h : Fr2 a b) (h2 : Fr2 b c) : Fr2 a c := ⟨fun t i q => (h2.1 t i q).trans (h.1 t i q), fun i q1 q2 => (h2.2 i q1 q2).trans (h.2 i q1 q2)⟩
theorem Gth_fr {σ τ τ' : Tb} {C N : Int → Prop} (h : Gth σ τ C N) (f : Fr2 τ τ') : Gth σ τ' C N := by
  obtain ⟨h1, h2, h3⟩ := h
  refine ⟨fun i i1 i2 => by rw [f.1 0 i (Or.inl rfl)]; exact h1 i i1 i2, ?_, ?_⟩
  · rw [f.2 0 (by decide) (by decide)]
    exact Lst_c h2 (fun k _ _ => f.1 1 k (Or.inr (Or.inl rfl)))
  · rw [f.2 1 (by decide) (by decide)]
    exact Lst_c h3 (fun k _ _ => f.1 3 k (Or.inr (Or.inr rfl)))
/-- only what was found is other -/
def FrF (τ τ' : Tb) : Prop := (∀ t i, t ≠ 2 → τ' t i = τ t i) ∧ ∀ i, i ≠ 2 → i ≠ 3 → τ' 2 i = τ 2 i
theorem FrF_rf {τ : Tb} : FrF τ τ := ⟨fun _ _ _ => rfl, fun _ _ _ => rfl⟩
theorem FrF_2 {τ τ' : Tb} (h : FrF τ τ') : Fr2 τ τ' := ⟨fun t i q => h.1 t i (by omega), h.2⟩
def SB (σ τ : Tb) (C : Int → Prop) (w b e : Int) : Prop := (∀ t, b ≤ t → t ≤ e → τ 9 t = lnA σ C w t) ∧ ∀ k t, 0 ≤ k → k < σ 18 w → b ≤ t → t ≤ e → τ (5 + k.toNat) t = tkC σ C (PQ σ w k) t
theorem SB_fr {σ τ τ' : Tb} {C : Int → Prop} {w b e : Int} (h : SB σ τ C w b e) (f : ∀ t i, 5 ≤ t → t ≤ 9 → τ' t i = τ t i) (hs : σ 18 w ≤ 4) : SB σ τ' C w b e :=
  ⟨fun t h1 h2 => by rw [f 9 t (by decide) (by decide)]; exact h.1 t h1 h2, fun k t k1 k2 h1 h2 => by rw [f (5 + k.toNat) t (by omega) (by omega)]; exact h.2 k t k1 k2 h1 h2⟩
theorem fst_mk {P : Int → Int → Prop} {a b : Int} (h : P a b) (h1 : ∀ a' b', P a' b' → a ≤ a') (h2 : ∀ b', P a b' → b ≤ b') : isFst P a b := by
  refine ⟨h, fun a' b' q => ?_⟩
  have := h1 a' b' q
  rcases (show a < a' ∨ a = a' by omega) with e | e
  · exact Or.inl e
  · subst e
    exact Or.inr ⟨rfl, h2 b' q⟩
theorem isFst_c {P Q : Int → Int → Prop} (h : ∀ a b, P a b ↔ Q a b) {a b : Int} (hp : isFst P a b) : isFst Q a b := ⟨(h a b).mp hp.1, fun a' b' q => hp.2 a' b' ((h a' b').mpr q)⟩

