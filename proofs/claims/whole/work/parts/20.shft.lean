/-! ===== Inv kept by changes of works' days ===== -/
theorem IQ_c {σ σ' : Tb} {w : Int} (he : ∀ t i, t = 0 ∨ t = 17 ∨ t = 18 ∨ 25 ≤ t → σ' t i = σ t i) (h : IQ σ w) : IQ σ' w := by
  have e0 := he 0 0 (by omega)
  have e17 := he 17 w (by omega)
  have e18 := he 18 w (by omega)
  have eP : ∀ k, PQ σ' w k = PQ σ w k := fun k => he (25 + k.toNat) w (by omega)
  have eO : ∀ p, isOn σ' w p ↔ isOn σ w p := fun p => by unfold isOn; rw [e17]
  obtain ⟨h1, h2, h3, h4, h5⟩ := h
  refine ⟨by rw [e17]; exact h1, by rw [e18]; exact h2, fun k k1 k2 => ?_, fun j k j1 j2 j3 => ?_, fun p p1 p2 => ?_⟩
  · rw [e18] at k2
    rw [eP, e0]
    exact ⟨(h3 k k1 k2).1, (eO _).mpr (h3 k k1 k2).2⟩
  · rw [e18] at j3
    rw [eP, eP]
    exact h4 j k j1 j2 j3
  · obtain ⟨k, k1, k2, k3⟩ := h5 p p1 ((eO p).mp p2)
    exact ⟨k, k1, by rw [e18]; exact k2, by rw [eP]; exact k3⟩
/-- of IN, what speaks of state and days -/
def INs (σ : Tb) (w : Int) : Prop := (0 ≤ σ 19 w ∧ σ 19 w ≤ 4) ∧ (σ 19 w = 0 → σ 20 w = -1 ∧ σ 21 w = -1) ∧ (σ 19 w = 4 → σ 20 w = -1 ∧ σ 21 w = -1) ∧ (σ 19 w = 1 → σ 0 3 ≤ σ 20 w ∧ σ 21 w = σ 20 w + σ 14 w - 1 ∧ σ 21 w ≤ 399 ∧ σ 12 w ≠ 2) ∧ (σ 19 w = 2 → 0 ≤ σ 20 w ∧ σ 20 w ≤ σ 0 3 ∧ σ 0 3 ≤ σ 21 w ∧ σ 21 w ≤ 399) ∧ (σ 19 w = 3 → 0 ≤ σ 20 w ∧ σ 20 w ≤ σ 21 w ∧ σ 21 w < σ 0 3)
theorem IN_s {σ : Tb} (h : Inv σ) {w : Int} (hw : 0 ≤ w ∧ w < σ 0 2) : INs σ w := by
  obtain ⟨⟨_, _, _, _, _, _, h7, h8, h9, h10, h11, h12⟩, _⟩ := Inv_w h hw
  exact ⟨h7, h8, h9, h10, h11, h12⟩
theorem Inv_st {σ σ' : Tb} (h : Inv σ) (he : ∀ t i, ¬ (19 ≤ t ∧ t ≤ 24) → σ' t i = σ t i) (hd : ∀ t i, σ 0 2 ≤ i → i < 60 → σ' t i = σ t i) (hN : ∀ w, 0 ≤ w → w < σ 0 2 → INs σ' w) (hJ : ∀ w, 0 ≤ w → w < σ 0 2 → IJ σ' w) : Inv σ' := by
  have e0 : ∀ i, σ' 0 i = σ 0 i := fun i => he 0 i (by omega)
  refine ⟨?_, fun p p1 p2 => ?_, fun k k1 k2 => ?_, fun d d1 d2 => ?_, fun w w1 w2 => ?_, fun w w1 w2 => ?_⟩
  · rw [e0, e0, e0, e0, e0]; exact h.1
  · rw [e0] at p2
    have := h.2.1 p p1 p2
    unfold IP at this ⊢
    rw [he 1 p (by omega), he 2 p (by omega), he 3 p (by omega), he 4 p (by omega), he 5 p (by omega), he 6 p (by omega)]
    exact this
  · rw [e0] at k2
    have := h.2.2.1 k k1 k2
    unfold IR at this ⊢
    rw [he 7 k (by omega), he 8 k (by omega), he 9 k (by omega)]
    exact this
  · rw [he 10 d (by omega)]; exact h.2.2.2.1 d d1 d2
  · rw [e0] at w2
    obtain ⟨⟨a1, a2, a3, a4, a5, a6, _⟩, b, _⟩ := h.2.2.2.2.1 w w1 w2
    obtain ⟨c1, c2, c3, c4, c5, c6⟩ := hN w w1 w2
    refine ⟨⟨?_, ?_, ?_, ?_, ?_, ?_, c1, c2, c3, c4, c5, c6⟩, IQ_c (fun t i q => he t i (by omega)) b, hJ w w1 w2⟩
    · rw [he 11 w (by omega)]; exact a1
    · rw [he 12 w (by omega)]; exact a2
    · rw [he 13 w (by omega)]; exact a3
    · rw [he 14 w (by omega)]; exact a4
    · rw [he 15 w (by omega)]; exact a5
    · rw [he 16 w (by omega)]; exact a6
  · rw [e0] at w1
    have := h.2.2.2.2.2 w w1 w2
    unfold ID at this ⊢
    rw [hd 17 w w1 w2, hd 18 w w1 w2, hd 19 w w1 w2, hd 20 w w1 w2, hd 21 w w1 w2, hd 22 w w1 w2, hd 23 w w1 w2, hd 24 w w1 w2]
    exact this
/-- IJ speaks of 23, 17, 11, 15 and of a state that isn't 4 -/
theorem IJ_c {σ σ' : Tb} {w : Int} (he : ∀ t i, t = 0 ∨ t = 23 ∨ t = 17 ∨ t = 11 ∨ t = 15 → σ' t i = σ t i) (h4 : σ 19 w ≠ 4 → σ' 19 w ≠ 4) (h : IJ σ w) : IJ σ' w := by
  unfold IJ at h ⊢
  rw [he 23 w (by omega), he 0 2 (by omega), he 23 (σ 23 w) (by omega), he 17 (σ 23 w) (by omega), he 17 w (by omega), he 11 (σ 23 w) (by omega), he 11 w (by omega), he 15 (σ 23 w) (by omega), he 15 w (by omega)]
  rcases h with h | ⟨a1, a2, a3, a4, a5, a6, a7⟩
  · exact Or.inl h
  · exact Or.inr ⟨a1, a2, a3, a4, a5, a6, h4 a7⟩
/-- a work's days and state told anew -/
theorem Inv_day {σ : Tb} (h : Inv σ) {w b e s : Int} (hw : 0 ≤ w ∧ w < σ 0 2) (h19 : σ 19 w ≠ 4 → s ≠ 4) (hs : INs (up (up (up σ 20 w b) 21 w e) 19 w s) w) : Inv (up (up (up σ 20 w b) 21 w e) 19 w s) := by
  have h0 := Inv_0 h
  refine Inv_st h (fun t i q => by rw [up_t (by omega), up_t (by omega), up_t (by omega)]) (fun t i q1 q2 => by rw [up_i (by omega), up_i (by omega), up_i (by omega)]) (fun v v1 v2 => ?_) (fun v v1 v2 => ?_)
  · by_cases q : v = w
    · rw [q]; exact hs
    · have := IN_s h ⟨v1, v2⟩
      unfold INs at this ⊢
      simp only [up_i q, up_t (show (14 : Nat) ≠ 19 by decide), up_t (show (14 : Nat) ≠ 21 by decide), up_t (show (14 : Nat) ≠ 20 by decide), up_t (show (12 : Nat) ≠ 19 by decide), up_t (show (12 : Nat) ≠ 21 by decide), up_t (show (12 : Nat) ≠ 20 by decide), up_t (show (0 : Nat) ≠ 19 by decide), up_t (show (0 : Nat) ≠ 21 by decide), up_t (show (0 : Nat) ≠ 20 by decide)]
      exact this
  · refine IJ_c (σ := σ) (fun t i q => by rw [up_t (by omega), up_t (by omega), up_t (by omega)]) ?_ (h.2.2.2.2.1 v v1 v2).2.2
    by_cases q : v = w
    · subst q; rw [up_self]; exact h19
    · rw [up_i q, up_i q, up_i q]; exact id
theorem up_same {σ : Tb} {t : Nat} {i v : Int} (h : σ t i = v) : up σ t i v = σ := by
  funext t' i'
  unfold up
  by_cases q : t' = t ∧ i' = i
  · rw [if_pos q, q.1, q.2, h]
  · rw [if_neg q]
theorem up_up {σ : Tb} {t : Nat} {i v x : Int} : up (up σ t i x) t i v = up σ t i v := by
  funext t' i'
  unfold up
  by_cases q : t' = t ∧ i' = i
  · rw [if_pos q, if_pos q]
  · rw [if_neg q, if_neg q, if_neg q]
theorem up_sw {σ : Tb} {t u : Nat} {i j v x : Int} (h : t ≠ u) : up (up σ t i v) u j x = up (up σ u j x) t i v := by
  funext t' i'
  unfold up
  by_cases q : t' = u ∧ i' = j
  · rw [if_pos q, if_neg (by omega), if_pos q]
  · rw [if_neg q, if_neg q]
/-- placed, its state as it was -/
noncomputable def plB (σ : Tb) (w d : Int) : Tb := up (up σ 20 w d) 21 w (lstF σ w d)
theorem plB_i {σ : Tb} {w d v : Int} (h : v ≠ w) (t : Nat) : plB σ w d t v = σ t v := by unfold plB; rw [up_i h, up_i h]
theorem plB_t {σ : Tb} {w d v : Int} {t : Nat} (h : t ≠ 20) (h2 : t ≠ 21) : plB σ w d t v = σ t v := by unfold plB; rw [up_t h2, up_t h]
theorem plB_20 {σ : Tb} {w d : Int} : plB σ w d 20 w = d := by unfold plB; rw [up_t (by decide), up_self]
theorem plB_21 {σ : Tb} {w d : Int} : plB σ w d 21 w = lstF σ w d := up_self _ _ _ _
theorem plB_Inv {σ : Tb} (h : Inv σ) {w d : Int} (hw : 0 ≤ w ∧ w < σ 0 2) (h1 : σ 19 w = 1) (hd : σ 0 3 ≤ d) (hl : d + σ 14 w - 1 ≤ 399) : Inv (plB σ w d) := by
  have hs := IN_s h hw
  have e : plB σ w d = up (up (up σ 20 w d) 21 w (lstF σ w d)) 19 w 1 := by
    rw [up_same]
    · rfl
    · rw [up_t (by decide), up_t (by decide)]; exact h1
  rw [e]
  refine Inv_day h hw (fun _ => by omega) ?_
  have hx := hs.2.2.2.1 h1
  have hlf : lstF σ w d = d + σ 14 w - 1 := by unfold lstF; split <;> omega
  unfold INs
  simp only [up_self, up_t (show (20 : Nat) ≠ 19 by decide), up_t (show (21 : Nat) ≠ 19 by decide), up_t (show (20 : Nat) ≠ 21 by decide), up_t (show (14 : Nat) ≠ 19 by decide), up_t (show (14 : Nat) ≠ 21 by decide), up_t (show (14 : Nat) ≠ 20 by decide), up_t (show (12 : Nat) ≠ 19 by decide), up_t (show (12 : Nat) ≠ 21 by decide), up_t (show (12 : Nat) ≠ 20 by decide), up_t (show (0 : Nat) ≠ 19 by decide), up_t (show (0 : Nat) ≠ 21 by decide), up_t (show (0 : Nat) ≠ 20 by decide)]
  omega
theorem pmt_e {σ : Tb} {w d : Int} : pmt σ w d = up (plB σ w d) 19 w (cif (d = σ 0 3) 2 1) := rfl
theorem pmt_Inv {σ : Tb} (h : Inv σ) {w d : Int} (hw : 0 ≤ w ∧ w < σ 0 2) (h4 : σ 19 w ≠ 4) (hd : σ 0 3 ≤ d) (hl : d ≠ σ 0 3 → d + σ 14 w - 1 ≤ 399) (hd2 : d ≤ 399) (h12 : d ≠ σ 0 3 → σ 12 w ≠ 2) : Inv (pmt σ w d) := by
  obtain ⟨hN, _⟩ := Inv_w h hw
  have h0 := Inv_0 h
  unfold IN at hN
  have hlf : d ≤ lstF σ w d ∧ lstF σ w d ≤ 399 ∧ (d ≠ σ 0 3 → lstF σ w d = d + σ 14 w - 1) := by unfold lstF; split <;> omega
  have hc : (d = σ 0 3 ∧ cif (d = σ 0 3) (2 : Int) 1 = 2) ∨ (d ≠ σ 0 3 ∧ cif (d = σ 0 3) (2 : Int) 1 = 1) := by
    by_cases q : d = σ 0 3
    · exact Or.inl ⟨q, cif_t q⟩
    · exact Or.inr ⟨q, cif_f q⟩
  refine Inv_day h hw (fun _ => by omega) ?_
  unfold INs
  simp only [up_self, up_t (show (20 : Nat) ≠ 19 by decide), up_t (show (21 : Nat) ≠ 19 by decide), up_t (show (20 : Nat) ≠ 21 by decide), up_t (show (14 : Nat) ≠ 19 by decide), up_t (show (14 : Nat) ≠ 21 by decide), up_t (show (14 : Nat) ≠ 20 by decide), up_t (show (12 : Nat) ≠ 19 by decide), up_t (show (12 : Nat) ≠ 21 by decide), up_t (show (12 : Nat) ≠ 20 by decide), up_t (show (0 : Nat) ≠ 19 by decide), up_t (show (0 : Nat) ≠ 21 by decide), up_t (show (0 : Nat) ≠ 20 by decide)]
  rcases hc with ⟨q1, q2⟩ | ⟨q1, q2⟩ <;> rw [q2] <;> omega
theorem pmt_i {σ : Tb} {w d v : Int} (h : v ≠ w) (t : Nat) : pmt σ w d t v = σ t v := by rw [pmt_e, up_i h, plB_i h]
theorem pmt_t {σ : Tb} {w d v : Int} {t : Nat} (h : t ≠ 20) (h2 : t ≠ 21) (h3 : t ≠ 19) : pmt σ w d t v = σ t v := by rw [pmt_e, up_t h3, plB_t h h2]
theorem drp_r {σ : Tb} (h : Inv σ) {w : Int} (hw : 0 ≤ w ∧ w < σ 0 2) : drp σ w = up (cif (0 ≤ σ 23 w) (up (up (up (up σ 19 w 4) 20 w (-1)) 21 w (-1)) 23 (σ 23 w) (-1)) (up (up (up σ 19 w 4) 20 w (-1)) 21 w (-1))) 23 w (-1) := by
  have hJ := IJ_r h hw
  unfold drp
  congr 1
  exact cif_c (by omega) (fun _ => rfl) (fun _ => rfl)
theorem drp_i {σ : Tb} (h : Inv σ) {w v : Int} (hw : 0 ≤ w ∧ w < σ 0 2) (hv : v ≠ w) (t : Nat) (ht : t ≠ 23) : drp σ w t v = σ t v := by
  rw [drp_r h hw, up_i hv]
  by_cases q : 0 ≤ σ 23 w
  · rw [cif_t q, up_t ht, up_i hv, up_i hv, up_i hv]
  · rw [cif_f q, up_i hv, up_i hv, up_i hv]
theorem drp_t {σ : Tb} {w v : Int} {t : Nat} (h : ¬ (19 ≤ t ∧ t ≤ 23)) : drp σ w t v = σ t v := by
  unfold drp
  rw [up_t (by omega)]
  by_cases q : 0 ≤ σ 23 w ∧ σ 23 w < σ 0 2
  · rw [cif_t q, up_t (by omega), up_t (by omega), up_t (by omega), up_t (by omega)]
  · rw [cif_f q, up_t (by omega), up_t (by omega), up_t (by omega)]
theorem drp_w {σ : Tb} {w : Int} : drp σ w 19 w = 4 ∧ drp σ w 20 w = -1 ∧ drp σ w 21 w = -1 ∧ drp σ w 23 w = -1 ∧ drp σ w 22 w = σ 22 w := by
  unfold drp
  by_cases q : 0 ≤ σ 23 w ∧ σ 23 w < σ 0 2
  · rw [cif_t q]; simp [up]
  · rw [cif_f q]; simp [up]
theorem drp_23 {σ : Tb} (h : Inv σ) {w v : Int} (hw : 0 ≤ w ∧ w < σ 0 2) : drp σ w 23 v = cif (v = w ∨ (0 ≤ σ 23 w ∧ v = σ 23 w)) (-1) (σ 23 v) := by
  rw [drp_r h hw]
  by_cases q1 : v = w
  · rw [q1, up_self, cif_t (Or.inl rfl)]
  · rw [up_i q1]
    by_cases q : 0 ≤ σ 23 w
    · rw [cif_t q]
      by_cases q2 : v = σ 23 w
      · rw [q2, up_self, cif_t (Or.inr ⟨q, rfl⟩)]
      · rw [up_i q2, up_t (by decide), up_t (by decide), up_t (by decide), cif_f (by omega)]
    · rw [cif_f q, up_t (by decide), up_t (by decide), up_t (by decide), cif_f (by omega)]
theorem drp_Inv {σ : Tb} (h : Inv σ) {w : Int} (hw : 0 ≤ w ∧ w < σ 0 2) : Inv (drp σ w) := by
  have h0 := Inv_0 h
  have hJ := IJ_r h hw
  refine Inv_st h (fun t i q => drp_t (by omega)) (fun t i q1 q2 => ?_) (fun v v1 v2 => ?_) (fun v v1 v2 => ?_)
  · by_cases ht : t = 23
    · rw [ht, drp_23 h hw, cif_f (by omega)]
    · exact drp_i h hw (by omega) t ht
  · by_cases q : v = w
    · rw [q]
      obtain ⟨a, b, c, _⟩ := drp_w (σ := σ) (w := w)
      unfold INs
      rw [a, b, c]
      omega
    · have := IN_s h ⟨v1, v2⟩
      unfold INs at this ⊢
      rw [drp_i h hw q 19 (by decide), drp_i h hw q 20 (by decide), drp_i h hw q 21 (by decide), drp_t (t := 14) (by decide), drp_t (t := 12) (by decide), drp_t (t := 0) (by decide)]
      exact this
  · unfold IJ
    by_cases q : v = w ∨ (0 ≤ σ 23 w ∧ v = σ 23 w)
    · left
      rw [drp_23 h hw, cif_t q]
    · have hv := (h.2.2.2.2.1 v v1 v2).2.2
      unfold IJ at hv
      have e1 : drp σ w 23 v = σ 23 v := by rw [drp_23 h hw, cif_f q]
      rw [e1]
      rcases hv with hv | ⟨a1, a2, a3, a4, a5, a6, a7⟩
      · exact Or.inl hv
      · right
        have q2 : σ 23 v ≠ w := by
          intro z
          apply q
          right
          rw [z] at a3
          omega
        have q3 : ¬ (σ 23 v = w ∨ (0 ≤ σ 23 w ∧ σ 23 v = σ 23 w)) := by
          rintro (z | ⟨z1, z2⟩)
          · exact q2 z
          · have := (IJ_j h hw z1).2.2.1
            rw [← z2, a3] at this
            exact q (Or.inl this)
        rw [drp_t (t := 0) (by decide), drp_23 h hw, cif_f q3, drp_t (t := 17) (by decide), drp_t (t := 17) (by decide), drp_t (t := 11) (by decide), drp_t (t := 11) (by decide), drp_t (t := 15) (by decide), drp_t (t := 15) (by decide), drp_i h hw (fun z => q (Or.inl z)) 19 (by decide)]
        exact ⟨a1, a2, a3, a4, a5, a6, a7⟩
/-! ===== what a move does ===== -/
def fdOk (σ : Tb) (w b d : Int) : Prop := (b ≤ d ∧ d ≤ 399) ∧ rul2 σ w d True = 0 ∧ ∀ x, b ≤ x → x < d → rul2 σ w x True ≠ 0
theorem fdOk_eq {σ : Tb} {w b d d' : Int} (h : fdOk σ w b d) (h' : fdOk σ w b d') : d = d' := by
  obtain ⟨a1, a2, a3⟩ := h
  obtain ⟨b1, b2, b3⟩ := h'
  rcases Int.lt_trichotomy d d' with e | e | e
  · exact absurd a2 (b3 d a1.1 e)
  · exact e
  · exact absurd b2 (a3 d' b1.1 e)
noncomputable def plM (σ : Tb) (w d : Int) : Tb := up (plB σ w d) 24 w (σ 24 w + 1)
noncomputable def mvW (σ : Tb) (w : Int) : Tb := cif (∃ d, fdOk σ w (σ 20 w) d) (plM σ w (Classical.epsilon (fdOk σ w (σ 20 w)))) (drp σ w)
theorem mvW_t {σ : Tb} {w d : Int} (h : fdOk σ w (σ 20 w) d) : mvW σ w = plM σ w d := by
  have e : Classical.epsilon (fdOk σ w (σ 20 w)) = d := fdOk_eq (Classical.epsilon_spec (p := fdOk σ w (σ 20 w)) ⟨d, h⟩) h
  unfold mvW
  rw [cif_t ⟨d, h⟩, e]
theorem mvW_f {σ : Tb} {w : Int} (h : ∀ d, σ 20 w ≤ d → d ≤ 399 → rul2 σ w d True ≠ 0) : mvW σ w = drp σ w := by
  unfold mvW
  rw [cif_f]
  rintro ⟨d, h1, h2, _⟩
  exact h d h1.1 h1.2 h2
theorem rul2_le {σ : Tb} {w d : Int} {les : Prop} (h : rul2 σ w d les = 0) : d + σ 14 w - 1 ≤ 399 ∧ rul3 σ w d les = 0 := by
  unfold rul2 at h
  by_cases q : 399 < d + σ 14 w - 1
  · rw [cif_t q] at h; omega
  · rw [cif_f q] at h; exact ⟨by omega, h⟩
theorem rul1_le {σ : Tb} {w d : Int} {les : Prop} (h : rul1 σ w d les = 0) : σ 0 3 + ntc σ w ≤ d ∧ rul2 σ w d les = 0 := by
  unfold rul1 at h
  by_cases q : d < σ 0 3 + ntc σ w
  · rw [cif_t q] at h; omega
  · rw [cif_f q] at h; exact ⟨by omega, h⟩
theorem plM_Inv {σ : Tb} (h : Inv σ) {w d : Int} (hw : 0 ≤ w ∧ w < σ 0 2) (h1 : σ 19 w = 1) (hd : σ 0 3 ≤ d) (hl : d + σ 14 w - 1 ≤ 399) : Inv (plM σ w d) := by
  have h2 := plB_Inv h hw h1 hd hl
  have hw2 : 0 ≤ w ∧ w < plB σ w d 0 2 := by rw [plB_t (by decide) (by decide)]; exact hw
  have h0 := Inv_0 h2
  unfold plM
  refine Inv_st h2 (fun t i q => up_t (by omega)) (fun t i q1 q2 => up_i (by omega)) (fun v v1 v2 => ?_) (fun v v1 v2 => ?_)
  · have := IN_s h2 ⟨v1, v2⟩
    unfold INs at this ⊢
    simp only [up_t (show (19 : Nat) ≠ 24 by decide), up_t (show (20 : Nat) ≠ 24 by decide), up_t (show (21 : Nat) ≠ 24 by decide), up_t (show (14 : Nat) ≠ 24 by decide), up_t (show (12 : Nat) ≠ 24 by decide), up_t (show (0 : Nat) ≠ 24 by decide)]
    exact this
  · exact IJ_c (σ := plB σ w d) (fun t i q => up_t (by omega)) (by rw [up_t (by decide)]; exact id) (h2.2.2.2.2.1 v v1 v2).2.2
theorem mvW_Inv {σ : Tb} (h : Inv σ) {w : Int} (hw : 0 ≤ w ∧ w < σ 0 2) (h1 : σ 19 w = 1) : Inv (mvW σ w) := by
  have hs := (IN_s h hw).2.2.2.1 h1
  by_cases q : ∃ d, fdOk σ w (σ 20 w) d
  · obtain ⟨d, hd⟩ := q
    rw [mvW_t hd]
    exact plM_Inv h hw h1 (by have := hd.1; omega) (rul2_le hd.2.1).1
  · unfold mvW
    rw [cif_f q]
    exact drp_Inv h hw
theorem mvW_02 {σ : Tb} {w i : Int} : mvW σ w 0 i = σ 0 i := by
  unfold mvW
  by_cases q : ∃ d, fdOk σ w (σ 20 w) d
  · rw [cif_t q, plM, up_t (by decide), plB_t (by decide) (by decide)]
  · rw [cif_f q, drp_t (by decide)]
/-- works that move, up to the k-th: the tables behind it, and how many -/
def mvB (σ : Tb) (w : Int) : Prop := σ 19 w = 1 ∧ rul3 σ w (σ 20 w) True ≠ 0
noncomputable def mvN (σ : Tb) : Nat → Tb
  | 0 => σ
  | k + 1 => cif (mvB (mvN σ k) (k : Int)) (mvW (mvN σ k) (k : Int)) (mvN σ k)
noncomputable def mvC (σ : Tb) : Nat → Int
  | 0 => 0
  | k + 1 => mvC σ k + bI (mvB (mvN σ k) (k : Int))
theorem mvN_02 {σ : Tb} {i : Int} : ∀ k : Nat, mvN σ k 0 i = σ 0 i
  | 0 => rfl
  | k + 1 => by
    show cif (mvB (mvN σ k) (k : Int)) (mvW (mvN σ k) (k : Int)) (mvN σ k) 0 i = _
    by_cases q : mvB (mvN σ k) (k : Int)
    · rw [cif_t q, mvW_02, mvN_02 k]
    · rw [cif_f q, mvN_02 k]
theorem mvN_Inv {σ : Tb} (h : Inv σ) : ∀ k : Nat, (k : Int) ≤ σ 0 2 → Inv (mvN σ k)
  | 0, _ => h
  | k + 1, hk => by
    have ih := mvN_Inv h k (by omega)
    show Inv (cif (mvB (mvN σ k) (k : Int)) (mvW (mvN σ k) (k : Int)) (mvN σ k))
    by_cases q : mvB (mvN σ k) (k : Int)
    · rw [cif_t q]
      exact mvW_Inv ih (by rw [mvN_02]; omega) q.1
    · rw [cif_f q]; exact ih
theorem mvN_s {σ : Tb} {i : Int} (h : 0 ≤ i) : mvN σ (i + 1).toNat = cif (mvB (mvN σ i.toNat) i) (mvW (mvN σ i.toNat) i) (mvN σ i.toNat) ∧ mvC σ (i + 1).toNat = mvC σ i.toNat + bI (mvB (mvN σ i.toNat) i) := by
  rw [show (i + 1).toNat = i.toNat + 1 by omega]
  constructor
  · show cif (mvB (mvN σ i.toNat) ((i.toNat : Nat) : Int)) (mvW (mvN σ i.toNat) ((i.toNat : Nat) : Int)) (mvN σ i.toNat) = _
    rw [Int.toNat_of_nonneg h]
  · show mvC σ i.toNat + bI (mvB (mvN σ i.toNat) ((i.toNat : Nat) : Int)) = _
    rw [Int.toNat_of_nonneg h]
abbrev rmX4_moveOn : Room := { frames := 4, cells := 0, slots := 0, locals := 111 }
set_option maxRecDepth 100000 in
set_option maxHeartbeats 4000000 in
theorem c_X4_moveOn {l : Launch} {D : va_G} {G : Nat → ClassId} {ad : Nat → Nat} {σ τ : Tb} (hi : kInj 189 ad) {w : Int} (hI : Inv σ) (hw : 0 ≤ w ∧ w < σ 0 2) (h1 : σ 19 w = 1) (hG : Gth σ τ (cnts σ w True) (nrP σ (cnts σ w True) (σ 17 w).toNat)) : Met l yX4_moveOn wsX4_moveOn rmX4_moveOn (kPc D (tysG G) 189 ad (CE G ad σ τ) [.ref (ad 5), .ref (ad (69 + w.toNat))]) (kQv D 189 ad (fun E' => ∃ τ', E' = CE G ad (mvW σ w) τ' ∧ τ' 2 4 = τ 2 4)) 0 0 (kA 189 ad) := by
  refine k_met (cc := cX4_moveOn) (maxL := 3) (ret := none) (by decide) (Nat.le_of_ble_eq_true rfl) ?_
  intro P0 e0 s m0 below meth c0 ls hx hb hr hlocks hml hown hts hK hP hS hl
  replace hl : lv_has ls 3 [(0, _), (1, _)] := hl
  replace hown : s.vm.findClass RX4 = some m0.cls := hown
  refine k_abs (fun Wg hWg => ?_)
  have h0 := Inv_0 hI
  obtain ⟨hN, _, _⟩ := Inv_w hI hw
  have hs := (IN_s hI hw).2.2.2.1 h1
  have hJ := IJ_r hI hw
  unfold IN at hN
  refine lv_aload_n hx hb dX4_moveOn_0 rfl (lv_at hl 1 rfl) ?_
  refine r_get (C := RX7) (T := TX7) (N := 16) (ci := 7) hx hb hts hi_X7 hown hK hP 11 rfl (by decide) lk_X4_43 (fun _ h9 => h9) dX4_moveOn_1 (by omega) (CE_w (by omega)) rfl ?_
  refine lv_istore_n hx hb dX4_moveOn_4 rfl hl (by decide) rfl (fun ls hl => ?_)
  replace hl : lv_has ls 3 [(0, _), (1, _), (2, _)] := lv_sub hl [1, 2, 0] rfl
  have loop5 : ∀ (nn : Nat) (d : Int) (τ1 : Tb) (H : Heap) (locs : List Loc) (ls : Array Slot), va_P D vwCl (kw 189 ad (CE G ad σ τ1)) H → va_S (kA 189 ad) s.heap H locs → lv_has ls 3 [(0, .ref (ad 5)), (1, .ref (ad (69 + w.toNat))), (2, .int (iI d))] → ((σ 20 w ≤ d ∧ d ≤ 400) ∧ (∀ x, σ 20 w ≤ x → x < d → rul2 σ w x True ≠ 0) ∧ Fr2 τ τ1) → (400 - d).toNat < nn → Wg H locs (F0 m0 5 ls []) := by
    intro nn
    induction nn with
    | zero => intro d τ1 H locs ls _ _ _ _ hn; omega
    | succ nn ih5 =>
      intro d τ1 H locs ls hP hS hl hv5 hn5
      rw [hWg]
      obtain ⟨hv, hno, hF⟩ := hv5
      refine lv_iload_n hx hb dX4_moveOn_5 rfl (lv_at hl 2 rfl) ?_
      refine r_sipush hx hb dX4_moveOn_6 (by decide +kernel) ?_
      refine r_icmp_gt (tgt := 50) hx hb (by omega) (by omega) dX4_moveOn_9 (by decide) (fun c9 => ?_) (fun c9 => ?_)
      · refine lv_aload_n hx hb dX4_moveOn_50 rfl (lv_at hl 0 rfl) ?_
        refine r_get (C := RX4) (T := TX4) (N := 3) (ci := 4) hx hb hts hi_X4 hown hK hP 0 rfl (by decide) lk_X4_15 (fun _ h9 => h9) dX4_moveOn_51 (by omega) CE_5 rfl ?_
        refine lv_aload_n hx hb dX4_moveOn_54 rfl (lv_at hl 1 rfl) ?_
        refine k_callvV (nL := 3) (C := RX5) (T := TX5) (N := 8) (ci := 5) hx hb hml hown hts hK hP hS hl.1 (c_X5_drop hi (by omega) (by omega) (by omega)) rfl (Nat.le_of_ble_eq_true rfl) rfl (cwV 1 hts (gV lm_X4_61 ti_X5_drop tl_X5_drop tn_X5 tc_X5_drop) rfl rfl rfl (by decide +kernel) ⟨Nat.le_of_ble_eq_true rfl, Nat.le_of_ble_eq_true rfl⟩) rfl dX4_moveOn_55 ⟨Nat.zero_le _, Nat.zero_le _⟩ (by omega) CE_1 (fun E1 H locs hq hP hS => ?_)
        subst hq
        exact k_vret hx hb hr hlocks hP hS dX4_moveOn_58 ⟨τ1, by rw [mvW_f (fun x x1 x2 => hno x x1 (by omega))], hF.2 4 (by decide) (by decide)⟩
      · refine lv_aload_n hx hb dX4_moveOn_12 rfl (lv_at hl 0 rfl) ?_
        refine r_get (C := RX4) (T := TX4) (N := 3) (ci := 4) hx hb hts hi_X4 hown hK hP 1 rfl (by decide) lk_X4_19 (fun _ h9 => h9) dX4_moveOn_13 (by omega) CE_5 rfl ?_
        refine lv_aload_n hx hb dX4_moveOn_16 rfl (lv_at hl 1 rfl) ?_
        refine lv_iload_n hx hb dX4_moveOn_17 rfl (lv_at hl 2 rfl) ?_
        refine r_const hx hb dX4_moveOn_18 ?_
        refine k_calliV (nL := 3) (C := RX3) (T := TX3) (N := 5) (ci := 3) hx hb hml hown hts hK hP hS hl.1 (c_X3_broken hi hI hw (by omega) (by omega) (by omega) (by omega) (Gth_fr hG hF)) rfl (Nat.le_of_ble_eq_true rfl) rfl (cwV 3 hts (gV lm_X4_46 ti_X3_broken tl_X3_broken tn_X3 tc_X3_broken) rfl rfl rfl (by decide +kernel) ⟨Nat.le_of_ble_eq_true rfl, Nat.le_of_ble_eq_true rfl⟩) rfl dX4_moveOn_19 ⟨Nat.zero_le _, Nat.zero_le _⟩ (by omega) CE_4 (fun r19 E1 H locs hq hP hS => ?_)
        obtain ⟨hz, τ2, rfl, _, hF2⟩ := hq
        have hz2 : r19 = rul2 σ w d True := by rw [hz, rulF, cif_f (by omega), cif_t (by omega)]
        have hF3 := Fr2_tr hF hF2
        have hrr := rul3_r (σ := σ) (w := w) (d := d) (les := True)
        have hrg : -2147483648 ≤ r19 ∧ r19 < 2147483648 := by
          rw [hz2, rul2]
          by_cases q : 399 < d + σ 14 w - 1
          · rw [cif_t q]; omega
          · rw [cif_f q]; omega
        refine r_if_eq (tgt := 28) hx hb (by omega) dX4_moveOn_22 (by decide) (fun c22 => ?_) (fun c22 => ?_)
        · have hok : fdOk σ w (σ 20 w) d := ⟨by omega, by omega, hno⟩
          refine lv_aload_n hx hb dX4_moveOn_28 rfl (lv_at hl 1 rfl) ?_
          refine lv_iload_n hx hb dX4_moveOn_29 rfl (lv_at hl 2 rfl) ?_
          refine k_callvV (nL := 3) (C := RX7) (T := TX7) (N := 16) (ci := 7) hx hb hml hown hts hK hP hS hl.1 (c_X7_placeAt hi (by omega) (by omega) (by omega)) rfl (Nat.le_of_ble_eq_true rfl) rfl (cwV 1 hts (gV lm_X4_54 ti_X7_placeAt tl_X7_placeAt tn_X7 tc_X7_placeAt) rfl rfl rfl (by decide +kernel) ⟨Nat.le_of_ble_eq_true rfl, Nat.le_of_ble_eq_true rfl⟩) rfl dX4_moveOn_30 ⟨Nat.zero_le _, Nat.zero_le _⟩ (by omega) (CE_w (by omega)) (fun E1 H locs hq hP hS => ?_)
          subst hq
          have e24 : up (up σ 20 w d) 21 w (lstF σ w d) 24 w = σ 24 w := by rw [up_t (by decide), up_t (by decide)]
          refine lv_aload_n hx hb dX4_moveOn_33 rfl (lv_at hl 1 rfl) ?_
          refine lv_dup hx hb dX4_moveOn_34 rfl ?_
          refine r_get (C := RX7) (T := TX7) (N := 16) (ci := 7) hx hb hts hi_X7 hown hK hP 15 rfl (by decide) lk_X4_58 (fun _ h9 => h9) dX4_moveOn_35 (by omega) (CE_w (by omega)) rfl ?_
          rw [e24]
          refine r_const hx hb dX4_moveOn_38 ?_
          refine r_add hx hb dX4_moveOn_39 ?_
          refine r_put (C := RX7) (T := TX7) (N := 16) (ci := 7) hx hb hi hts hi_X7 tyX7 tyX7_ok nmX7 hown hK hP hS 15 rfl (by decide) lk_X4_58 (fun _ h9 => h9) rfl (ty := .int) (by decide +kernel) rfl rfl dX4_moveOn_40 (by omega) (CE_w (by omega)) (Nat.le_of_ble_eq_true rfl) (cu_w_moves (by omega)) (fun H locs hP hS => ?_)
          exact k_vret hx hb hr hlocks hP hS dX4_moveOn_43 ⟨τ2, by rw [mvW_t hok]; rfl, hF3.2 4 (by decide) (by decide)⟩
        · have hno2 : ∀ x, σ 20 w ≤ x → x < d + 1 → rul2 σ w x True ≠ 0 := by
            intro x x1 x2
            rcases (show x < d ∨ x = d by omega) with y | y
            · exact hno x x1 y
            · rw [y]; omega
          refine lv_goto (tgt := 44) hx hb dX4_moveOn_25 (by decide) ?_
          refine r_iinc hx hb dX4_moveOn_44 hl (k := 2) rfl (by decide) (fun ls hl => ?_)
          replace hl : lv_has ls 3 [(0, _), (1, _), (2, _)] := lv_sub hl [1, 2, 0] rfl
          refine lv_goto (tgt := 5) hx hb dX4_moveOn_47 (by decide) ?_
          rw [← hWg]
          exact ih5 (d + 1) _ _ _ _ hP hS hl ⟨by omega, hno2, hF3⟩ (by omega)
  rw [← hWg]
  exact loop5 _ (σ 20 w) _ _ _ _ hP hS hl ⟨by omega, fun x x1 x2 => by omega, Fr2_rf⟩ (Nat.lt_succ_self _)
abbrev rmX4_moveBroken : Room := { frames := 5, cells := 0, slots := 0, locals := 133 }
set_option maxRecDepth 100000 in
set_option maxHeartbeats 4000000 in
theorem c_X4_moveBroken {l : Launch} {D : va_G} {G : Nat → ClassId} {ad : Nat → Nat} {σ τ : Tb} (hi : kInj 189 ad) (hI : Inv σ) : Met l yX4_moveBroken wsX4_moveBroken rmX4_moveBroken (kPc D (tysG G) 189 ad (CE G ad σ τ) [.ref (ad 5)]) (kQi D 189 ad (fun z E' => z = mvC σ (σ 0 2).toNat ∧ ∃ τ', E' = CE G ad (mvN σ (σ 0 2).toNat) τ' ∧ τ' 2 4 = τ 2 4)) 0 0 (kA 189 ad) := by
  refine k_met (cc := cX4_moveBroken) (maxL := 4) (ret := (some .int)) (by decide) (Nat.le_of_ble_eq_true rfl) ?_
  intro P0 e0 s m0 below meth c0 ls hx hb hr hlocks hml hown hts hK hP hS hl
  replace hl : lv_has ls 4 [(0, _)] := hl
  replace hown : s.vm.findClass RX4 = some m0.cls := hown
  refine k_abs (fun Wg hWg => ?_)
  have h0 := Inv_0 hI
  refine r_const hx hb dX4_moveBroken_0 ?_
  refine lv_istore_n hx hb dX4_moveBroken_1 rfl hl (by decide) rfl (fun ls hl => ?_)
  replace hl : lv_has ls 4 [(0, _), (1, _)] := lv_sub hl [1, 0] rfl
  refine r_const hx hb dX4_moveBroken_2 ?_
  refine lv_istore_n hx hb dX4_moveBroken_3 rfl hl (by decide) rfl (fun ls hl => ?_)
  replace hl : lv_has ls 4 [(0, _), (1, _), (2, _)] := lv_sub hl [1, 2, 0] rfl
  have loop4 : ∀ (nn : Nat) (i : Int) (τ1 : Tb) (H : Heap) (locs : List Loc) (ls : Array Slot), va_P D vwCl (kw 189 ad (CE G ad (mvN σ i.toNat) τ1)) H → va_S (kA 189 ad) s.heap H locs → lv_has ls 4 [(0, .ref (ad 5)), (1, .int (iI (mvC σ i.toNat))), (2, .int (iI i))] → ((0 ≤ i ∧ i ≤ σ 0 2) ∧ τ1 2 4 = τ 2 4) → (σ 0 2 - i).toNat < nn → Wg H locs (F0 m0 4 ls []) := by
    intro nn
    induction nn with
    | zero => intro i τ1 H locs ls _ _ _ _ hn; omega
    | succ nn ih4 =>
      intro i τ1 H locs ls hP hS hl hv4 hn4
      rw [hWg]
      obtain ⟨hv, hb4⟩ := hv4
      have e02 : mvN σ i.toNat 0 2 = σ 0 2 := mvN_02 _
      have hI2 := mvN_Inv hI i.toNat (by omega)
      obtain ⟨es1, es2⟩ := mvN_s (σ := σ) hv.1
      refine lv_iload_n hx hb dX4_moveBroken_4 rfl (lv_at hl 2 rfl) ?_
      refine lv_aload_n hx hb dX4_moveBroken_5 rfl (lv_at hl 0 rfl) ?_
      refine r_get (C := RX4) (T := TX4) (N := 3) (ci := 4) hx hb hts hi_X4 hown hK hP 0 rfl (by decide) lk_X4_15 (fun _ h9 => h9) dX4_moveBroken_6 (by omega) CE_5 rfl ?_
      refine r_get (C := RX5) (T := TX5) (N := 8) (ci := 5) hx hb hts hi_X5 hown hK hP 6 rfl (by decide) lk_X4_23 (fun _ h9 => h9) dX4_moveBroken_9 (by omega) CE_1 rfl ?_
      rw [e02]
      refine r_icmp_ge (tgt := 78) hx hb (by omega) (by omega) dX4_moveBroken_12 (by decide) (fun c12 => ?_) (fun c12 => ?_)
      · obtain rfl : i = σ 0 2 := by omega
        refine lv_iload_n hx hb dX4_moveBroken_78 rfl (lv_at hl 1 rfl) ?_
        exact k_iret hx hb hr hlocks hP hS dX4_moveBroken_79 ⟨rfl, τ1, rfl, hb4⟩
      · have hwi : 0 ≤ i ∧ i < mvN σ i.toNat 0 2 := by rw [e02]; omega
        obtain ⟨hN, _, _⟩ := Inv_w hI2 hwi
        have hs := IN_s hI2 hwi
        have h02 := Inv_0 hI2
        unfold IN at hN
        have hskip : ¬ mvB (mvN σ i.toNat) i → mvN σ (i + 1).toNat = mvN σ i.toNat ∧ mvC σ (i + 1).toNat = mvC σ i.toNat := fun q => ⟨by rw [es1, cif_f q], by rw [es2, bI_f q]; omega⟩
        have join72 : ∀ (τ2 : Tb) (H : Heap) (locs : List Loc) (ls : Array Slot), va_P D vwCl (kw 189 ad (CE G ad (mvN σ (i + 1).toNat) τ2)) H → va_S (kA 189 ad) s.heap H locs → lv_has ls 4 [(0, .ref (ad 5)), (1, .int (iI (mvC σ (i + 1).toNat))), (2, .int (iI i))] → (τ2 2 4 = τ 2 4) → Wg H locs (F0 m0 72 ls []) := by
          intro τ2 H locs ls hP hS hl hv72
          rw [hWg]
          refine r_iinc hx hb dX4_moveBroken_72 hl (k := 2) rfl (by decide) (fun ls hl => ?_)
          replace hl : lv_has ls 4 [(0, _), (1, _), (2, _)] := lv_sub hl [1, 2, 0] rfl
          refine lv_goto (tgt := 4) hx hb dX4_moveBroken_75 (by decide) ?_
          rw [← hWg]
          exact ih4 (i + 1) _ _ _ _ hP hS hl ⟨by omega, hv72⟩ (by omega)
        refine lv_aload_n hx hb dX4_moveBroken_15 rfl (lv_at hl 0 rfl) ?_
        refine r_get (C := RX4) (T := TX4) (N := 3) (ci := 4) hx hb hts hi_X4 hown hK hP 0 rfl (by decide) lk_X4_15 (fun _ h9 => h9) dX4_moveBroken_16 (by omega) CE_5 rfl ?_
        refine r_get (C := RX5) (T := TX5) (N := 8) (ci := 5) hx hb hts hi_X5 hown hK hP 2 rfl (by decide) lk_X4_28 (fun _ h9 => h9) dX4_moveBroken_19 (by omega) CE_1 rfl ?_
        refine lv_iload_n hx hb dX4_moveBroken_22 rfl (lv_at hl 2 rfl) ?_
        refine r_aald hx hb hK hP 5 rfl dX4_moveBroken_23 (by omega) rfl (by omega) (by omega) rfl ?_
        refine lv_astore_n hx hb dX4_moveBroken_24 rfl hl (by decide) rfl (fun ls hl => ?_)
        replace hl : lv_has ls 4 [(0, _), (1, _), (2, _), (3, _)] := lv_sub hl [1, 2, 3, 0] rfl
        refine lv_aload_n hx hb dX4_moveBroken_25 rfl (lv_at hl 3 rfl) ?_
        refine r_get (C := RX7) (T := TX7) (N := 16) (ci := 7) hx hb hts hi_X7 hown hK hP 10 rfl (by decide) lk_X4_32 (fun _ h9 => h9) dX4_moveBroken_26 (by omega) (CE_w (by omega)) rfl ?_
        refine r_const hx hb dX4_moveBroken_29 ?_
        refine r_icmp_eq (tgt := 36) hx hb (by omega) (by omega) dX4_moveBroken_30 (by decide) (fun c30 => ?_) (fun c30 => ?_)
        · have hsx := hs.2.2.2.1 c30
          refine lv_aload_n hx hb dX4_moveBroken_36 rfl (lv_at hl 0 rfl) ?_
          refine r_get (C := RX4) (T := TX4) (N := 3) (ci := 4) hx hb hts hi_X4 hown hK hP 1 rfl (by decide) lk_X4_19 (fun _ h9 => h9) dX4_moveBroken_37 (by omega) CE_5 rfl ?_
          refine lv_aload_n hx hb dX4_moveBroken_40 rfl (lv_at hl 3 rfl) ?_
          refine lv_iload_n hx hb dX4_moveBroken_41 rfl (lv_at hl 2 rfl) ?_
          refine k_callvV (nL := 4) (C := RX3) (T := TX3) (N := 5) (ci := 3) hx hb hml hown hts hK hP hS hl.1 (c_X3_lookAt (les := True) hi hI2 hwi (Or.inr ⟨rfl, trivial⟩)) rfl (Nat.le_of_ble_eq_true rfl) rfl (cwV 2 hts (gV lm_X4_37 ti_X3_lookAt tl_X3_lookAt tn_X3 tc_X3_lookAt) rfl rfl rfl (by decide +kernel) ⟨Nat.le_of_ble_eq_true rfl, Nat.le_of_ble_eq_true rfl⟩) rfl dX4_moveBroken_42 ⟨Nat.zero_le _, Nat.zero_le _⟩ (by omega) CE_4 (fun E1 H locs hq hP hS => ?_)
          obtain ⟨τ2, rfl, hG, hF1⟩ := hq
          refine lv_aload_n hx hb dX4_moveBroken_45 rfl (lv_at hl 0 rfl) ?_
          refine r_get (C := RX4) (T := TX4) (N := 3) (ci := 4) hx hb hts hi_X4 hown hK hP 1 rfl (by decide) lk_X4_19 (fun _ h9 => h9) dX4_moveBroken_46 (by omega) CE_5 rfl ?_
          refine lv_aload_n hx hb dX4_moveBroken_49 rfl (lv_at hl 3 rfl) ?_
          refine lv_aload_n hx hb dX4_moveBroken_50 rfl (lv_at hl 3 rfl) ?_
          refine r_get (C := RX7) (T := TX7) (N := 16) (ci := 7) hx hb hts hi_X7 hown hK hP 11 rfl (by decide) lk_X4_43 (fun _ h9 => h9) dX4_moveBroken_51 (by omega) (CE_w (by omega)) rfl ?_
          refine r_const hx hb dX4_moveBroken_54 ?_
          refine k_calliV (nL := 4) (C := RX3) (T := TX3) (N := 5) (ci := 3) hx hb hml hown hts hK hP hS hl.1 (c_X3_broken hi hI2 hwi (by omega) (by omega) (by omega) (by omega) hG) rfl (Nat.le_of_ble_eq_true rfl) rfl (cwV 3 hts (gV lm_X4_46 ti_X3_broken tl_X3_broken tn_X3 tc_X3_broken) rfl rfl rfl (by decide +kernel) ⟨Nat.le_of_ble_eq_true rfl, Nat.le_of_ble_eq_true rfl⟩) rfl dX4_moveBroken_55 ⟨Nat.zero_le _, Nat.zero_le _⟩ (by omega) CE_4 (fun r55 E1 H locs hq hP hS => ?_)
          obtain ⟨hz, τ3, rfl, _, hF2⟩ := hq
          have hz2 : r55 = rul3 (mvN σ i.toNat) i (mvN σ i.toNat 20 i) True := by rw [hz, rulF, cif_f (by omega), cif_f (by omega)]
          have hrr := rul3_r (σ := mvN σ i.toNat) (w := i) (d := mvN σ i.toNat 20 i) (les := True)
          have hb5 : τ3 2 4 = τ 2 4 := by rw [hF2.2 4 (by decide) (by decide), hF1.2 4 (by decide)]; exact hb4
          refine r_if_ne (tgt := 64) hx hb (by omega) dX4_moveBroken_58 (by decide) (fun c58 => ?_) (fun c58 => ?_)
          · have hyes : mvB (mvN σ i.toNat) i := ⟨c30, by omega⟩
            refine lv_aload_n hx hb dX4_moveBroken_64 rfl (lv_at hl 0 rfl) ?_
            refine lv_aload_n hx hb dX4_moveBroken_65 rfl (lv_at hl 3 rfl) ?_
            refine k_callvV (nL := 4) (C := RX4) (T := TX4) (N := 3) (ci := 4) hx hb hml hown hts hK hP hS hl.1 (c_X4_moveOn hi hI2 hwi c30 (Gth_fr hG hF2)) rfl (Nat.le_of_ble_eq_true rfl) rfl (cwV 1 hts (gV lm_X4_50 ti_X4_moveOn tl_X4_moveOn tn_X4 tc_X4_moveOn) rfl rfl rfl (by decide +kernel) ⟨Nat.le_of_ble_eq_true rfl, Nat.le_of_ble_eq_true rfl⟩) rfl dX4_moveBroken_66 ⟨Nat.zero_le _, Nat.zero_le _⟩ (by omega) CE_5 (fun E1 H locs hq hP hS => ?_)
            obtain ⟨τ4, rfl, hb6⟩ := hq
            refine r_iinc hx hb dX4_moveBroken_69 hl (k := 1) rfl (by decide) (fun ls hl => ?_)
            replace hl : lv_has ls 4 [(0, _), (1, _), (2, _), (3, _)] := lv_sub hl [1, 0, 2, 3] rfl
            rw [show mvW (mvN σ i.toNat) i = mvN σ (i + 1).toNat by rw [es1, cif_t hyes]] at hP
            rw [show mvC σ i.toNat + 1 = mvC σ (i + 1).toNat by rw [es2, bI_t hyes]] at hl
            rw [← hWg]
            exact join72 _ _ _ _ hP hS (lv_sub hl [0, 1, 2] rfl) (hb6.trans hb5)
          · obtain ⟨k1, k2⟩ := hskip (fun q => q.2 (by omega))
            refine lv_goto (tgt := 72) hx hb dX4_moveBroken_61 (by decide) ?_
            rw [← k1] at hP
            rw [← k2] at hl
            rw [← hWg]
            exact join72 _ _ _ _ hP hS (lv_sub hl [0, 1, 2] rfl) hb5
        · obtain ⟨k1, k2⟩ := hskip (fun q => c30 q.1)
          refine lv_goto (tgt := 72) hx hb dX4_moveBroken_33 (by decide) ?_
          rw [← k1] at hP
          rw [← k2] at hl
          rw [← hWg]
          exact join72 _ _ _ _ hP hS (lv_sub hl [0, 1, 2] rfl) hb4
  rw [← hWg]
  exact loop4 _ 0 _ _ _ _ hP hS hl ⟨by omega, rfl⟩ (Nat.lt_succ_self _)

