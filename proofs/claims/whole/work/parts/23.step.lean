/-! ===== InvS kept by every call ===== -/
theorem Inv_lo {σ σ' : Tb} (h : Inv σ) (he : ∀ t i, 11 ≤ t → σ' t i = σ t i) (h2 : σ' 0 2 = σ 0 2) (h3 : σ' 0 3 = σ 0 3) (h0 : σ 0 0 ≤ σ' 0 0 ∧ σ' 0 0 ≤ 40) (h1 : 0 ≤ σ' 0 1 ∧ σ' 0 1 ≤ 8) (h4 : σ' 0 4 = 0 ∨ σ' 0 4 = 1) (hp : ∀ p, 0 ≤ p → p < σ' 0 0 → IP σ' p) (hr : ∀ k, 0 ≤ k → k < σ' 0 1 → IR σ' k) (hf : ∀ d, 0 ≤ d → d < 400 → σ' 10 d = 0 ∨ σ' 10 d = 1) : Inv σ' := by
  have hI0 := Inv_0 h
  refine ⟨⟨by omega, h1, by omega, by omega, h4⟩, hp, hr, hf, fun w w1 w2 => ?_, fun w w1 w2 => ?_⟩
  · rw [h2] at w2
    obtain ⟨a, b, c⟩ := h.2.2.2.2.1 w w1 w2
    refine ⟨?_, ?_, ?_⟩
    · unfold IN at a ⊢
      rw [he 11 w (by omega), he 12 w (by omega), he 13 w (by omega), he 14 w (by omega), he 15 w (by omega), he 16 w (by omega), he 19 w (by omega), he 20 w (by omega), he 21 w (by omega), h3]
      exact a
    · obtain ⟨b1, b2, b3, b4, b5⟩ := b
      have eP : ∀ k, PQ σ' w k = PQ σ w k := fun k => he (25 + k.toNat) w (by omega)
      have eO : ∀ p, isOn σ' w p ↔ isOn σ w p := fun p => by unfold isOn; rw [he 17 w (by omega)]
      unfold IQ
      rw [he 17 w (by omega), he 18 w (by omega)]
      refine ⟨b1, b2, fun k k1 k2 => ?_, fun j k j1 j2 j3 => ?_, fun p p1 p2 => ?_⟩
      · rw [eP]
        have := b3 k k1 k2
        exact ⟨by omega, (eO _).mpr this.2⟩
      · rw [eP, eP]; exact b4 j k j1 j2 j3
      · obtain ⟨k, k1, k2, k3⟩ := b5 p p1 ((eO p).mp p2)
        exact ⟨k, k1, k2, by rw [eP]; exact k3⟩
    · unfold IJ at c ⊢
      rw [h2, he 23 w (by omega), he 23 (σ 23 w) (by omega), he 17 (σ 23 w) (by omega), he 17 w (by omega), he 11 (σ 23 w) (by omega), he 11 w (by omega), he 15 (σ 23 w) (by omega), he 15 w (by omega), he 19 w (by omega)]
      exact c
  · rw [h2] at w1
    have := h.2.2.2.2.2 w w1 w2
    unfold ID at this ⊢
    rw [he 17 w (by omega), he 18 w (by omega), he 19 w (by omega), he 20 w (by omega), he 21 w (by omega), he 22 w (by omega), he 23 w (by omega), he 24 w (by omega)]
    exact this
theorem InvS_lo {σ σ' : Tb} (h : InvS σ) (hI : Inv σ') (he : ∀ t i, 11 ≤ t → σ' t i = σ t i) (h2 : σ' 0 2 = σ 0 2) (h3 : σ' 0 3 = σ 0 3) : InvS σ' :=
  ⟨hI, fun w w1 w2 w3 => by rw [h3, he 20 w (by omega)]; rw [he 19 w (by omega)] at w3; exact h.2 w w1 (by omega) w3⟩
theorem InvS_piece {σ : Tb} (h : InvS σ) {e l r m t : Int} : InvS (sPiece σ e l r m t) := by
  unfold sPiece
  by_cases q : vP e l r m t ∧ σ 0 0 < 40
  · rw [cif_t q]
    obtain ⟨⟨q1, q2, q3, q4, q5⟩, q6⟩ := q
    have h0 := Inv_0 h.1
    have he : ∀ t' i, 11 ≤ t' → up (up (up (up (up (up (up σ 1 (σ 0 0) (e / 100)) 2 (σ 0 0) (e % 100)) 3 (σ 0 0) l) 4 (σ 0 0) r) 5 (σ 0 0) m) 6 (σ 0 0) t) 0 0 (σ 0 0 + 1) t' i = σ t' i := fun t' i ht => by rw [up_t (by omega), up_t (by omega), up_t (by omega), up_t (by omega), up_t (by omega), up_t (by omega), up_t (by omega)]
    have e0 : ∀ i, i ≠ 0 → up (up (up (up (up (up (up σ 1 (σ 0 0) (e / 100)) 2 (σ 0 0) (e % 100)) 3 (σ 0 0) l) 4 (σ 0 0) r) 5 (σ 0 0) m) 6 (σ 0 0) t) 0 0 (σ 0 0 + 1) 0 i = σ 0 i := fun i hi => by rw [up_i hi, up_t (by decide), up_t (by decide), up_t (by decide), up_t (by decide), up_t (by decide), up_t (by decide)]
    refine InvS_lo h (Inv_lo h.1 he (e0 2 (by decide)) (e0 3 (by decide)) (by rw [up_self]; omega) (by rw [e0 1 (by decide)]; exact h0.2.1) (by rw [e0 4 (by decide)]; exact h0.2.2.2.2) (fun p p1 p2 => ?_) (fun k k1 k2 => ?_) (fun d d1 d2 => ?_)) he (e0 2 (by decide)) (e0 3 (by decide))
    · rw [up_self] at p2
      by_cases z : p = σ 0 0
      · rw [z]
        unfold IP
        simp [up]
        omega
      · have := Inv_p h.1 (p := p) (by omega)
        unfold IP at this ⊢
        simp [up, z]
        omega
    · rw [e0 1 (by decide)] at k2
      have := Inv_r h.1 (k := k) (by omega)
      unfold IR at this ⊢
      simp [up]
      omega
    · have := Inv_f h.1 (d := d) (by omega)
      simpa [up] using this
  · rw [cif_f q]; exact h
theorem InvS_pair {σ : Tb} (h : InvS σ) {a b m : Int} : InvS (sPair σ a b m) := by
  unfold sPair
  by_cases q : vR a b m ∧ σ 0 1 < 8
  · rw [cif_t q]
    obtain ⟨⟨q1, q2, q3, q4⟩, q6⟩ := q
    have h0 := Inv_0 h.1
    have he : ∀ t' i, 11 ≤ t' → up (up (up (up σ 7 (σ 0 1) a) 8 (σ 0 1) b) 9 (σ 0 1) m) 0 1 (σ 0 1 + 1) t' i = σ t' i := fun t' i ht => by rw [up_t (by omega), up_t (by omega), up_t (by omega), up_t (by omega)]
    have e0 : ∀ i, i ≠ 1 → up (up (up (up σ 7 (σ 0 1) a) 8 (σ 0 1) b) 9 (σ 0 1) m) 0 1 (σ 0 1 + 1) 0 i = σ 0 i := fun i hi => by rw [up_i hi, up_t (by decide), up_t (by decide), up_t (by decide)]
    refine InvS_lo h (Inv_lo h.1 he (e0 2 (by decide)) (e0 3 (by decide)) (by rw [e0 0 (by decide)]; omega) (by rw [up_self]; omega) (by rw [e0 4 (by decide)]; exact h0.2.2.2.2) (fun p p1 p2 => ?_) (fun k k1 k2 => ?_) (fun d d1 d2 => ?_)) he (e0 2 (by decide)) (e0 3 (by decide))
    · rw [e0 0 (by decide)] at p2
      have := Inv_p h.1 (p := p) (by omega)
      unfold IP at this ⊢
      simp [up]
      omega
    · rw [up_self] at k2
      by_cases z : k = σ 0 1
      · rw [z]
        unfold IR
        simp [up]
        omega
      · have := Inv_r h.1 (k := k) (by omega)
        unfold IR at this ⊢
        simp [up, z]
        omega
    · have := Inv_f h.1 (d := d) (by omega)
      simpa [up] using this
  · rw [cif_f q]; exact h
theorem InvS_feast {σ : Tb} (h : InvS σ) {d i : Int} : InvS (sFeast σ d i) := by
  unfold sFeast
  by_cases q : vF d i
  · rw [cif_t q]
    obtain ⟨q1, q2⟩ := q
    have h0 := Inv_0 h.1
    have he : ∀ t' j, 11 ≤ t' → up σ 10 d i t' j = σ t' j := fun t' j ht => up_t (by omega)
    have e0 : ∀ j, up σ 10 d i 0 j = σ 0 j := fun j => up_t (by decide)
    refine InvS_lo h (Inv_lo h.1 he (e0 2) (e0 3) (by rw [e0 0]; omega) (by rw [e0 1]; exact h0.2.1) (by rw [e0 4]; exact h0.2.2.2.2) (fun p p1 p2 => ?_) (fun k k1 k2 => ?_) (fun x x1 x2 => ?_)) he (e0 2) (e0 3)
    · rw [e0] at p2
      have := Inv_p h.1 (p := p) (by omega)
      unfold IP at this ⊢
      simp only [up_t (show (1 : Nat) ≠ 10 by decide), up_t (show (2 : Nat) ≠ 10 by decide), up_t (show (3 : Nat) ≠ 10 by decide), up_t (show (4 : Nat) ≠ 10 by decide), up_t (show (5 : Nat) ≠ 10 by decide), up_t (show (6 : Nat) ≠ 10 by decide)]
      exact this
    · rw [e0] at k2
      have := Inv_r h.1 (k := k) (by omega)
      unfold IR at this ⊢
      simp only [up_t (show (7 : Nat) ≠ 10 by decide), up_t (show (8 : Nat) ≠ 10 by decide), up_t (show (9 : Nat) ≠ 10 by decide)]
      exact this
    · by_cases z : x = d
      · rw [z, up_self]; omega
      · rw [up_i z]; exact Inv_f h.1 (by omega)
  · rw [cif_f q]; exact h
theorem InvS_lok {σ : Tb} (h : InvS σ) {w d : Int} : InvS (lok σ w d) := by
  unfold lok
  by_cases q : rul1 σ w d False = 0
  · rw [cif_t q]; exact h
  · rw [cif_f q]
    have h0 := Inv_0 h.1
    have he : ∀ t' j, 11 ≤ t' → up (up (up σ 0 4 1) 0 5 (wD σ w d)) 0 6 (wP σ w d) t' j = σ t' j := fun t' j ht => by rw [up_t (by omega), up_t (by omega), up_t (by omega)]
    have hu : ∀ t' j, t' ≠ 0 → up (up (up σ 0 4 1) 0 5 (wD σ w d)) 0 6 (wP σ w d) t' j = σ t' j := fun t' j ht => by rw [up_t ht, up_t ht, up_t ht]
    have e0 : ∀ j, j ≠ 4 → j ≠ 5 → j ≠ 6 → up (up (up σ 0 4 1) 0 5 (wD σ w d)) 0 6 (wP σ w d) 0 j = σ 0 j := fun j a b c => by rw [up_i c, up_i b, up_i a]
    refine InvS_lo h (Inv_lo h.1 he (e0 2 (by decide) (by decide) (by decide)) (e0 3 (by decide) (by decide) (by decide)) (by rw [e0 0 (by decide) (by decide) (by decide)]; omega) (by rw [e0 1 (by decide) (by decide) (by decide)]; exact h0.2.1) (by right; rw [up_i (by decide), up_i (by decide), up_self]) (fun p p1 p2 => ?_) (fun k k1 k2 => ?_) (fun x x1 x2 => ?_)) he (e0 2 (by decide) (by decide) (by decide)) (e0 3 (by decide) (by decide) (by decide))
    · rw [e0 0 (by decide) (by decide) (by decide)] at p2
      have := Inv_p h.1 (p := p) (by omega)
      unfold IP at this ⊢
      rw [hu 1 p (by decide), hu 2 p (by decide), hu 3 p (by decide), hu 4 p (by decide), hu 5 p (by decide), hu 6 p (by decide)]
      exact this
    · rw [e0 1 (by decide) (by decide) (by decide)] at k2
      have := Inv_r h.1 (k := k) (by omega)
      unfold IR at this ⊢
      rw [hu 7 k (by decide), hu 8 k (by decide), hu 9 k (by decide)]
      exact this
    · rw [hu 10 x (by decide)]; exact Inv_f h.1 (by omega)
/-! a work's pieces, one more -/
theorem insOk_ex {σ : Tb} {w p : Int} (hn : 0 ≤ σ 18 w) (hs : ∀ j k, 0 ≤ j → j < k → k < σ 18 w → PQ σ w j < PQ σ w k) : ∃ a, insOk σ w p a := by
  obtain ⟨k, hk, hl⟩ := pk_least (fun k => σ 18 w ≤ (k : Int) ∨ p < PQ σ w (k : Int)) ⟨(σ 18 w).toNat, Or.inl (by omega)⟩
  by_cases q : σ 18 w ≤ (k : Int)
  · have hle : ∀ j : Int, 0 ≤ j → j < σ 18 w → PQ σ w j ≤ p := by
      intro j j1 j2
      have := hl j.toNat (by omega)
      rw [show ((j.toNat : Nat) : Int) = j by omega] at this
      omega
    exact ⟨σ 18 w, by omega, hle, fun x x1 x2 => by omega⟩
  · refine ⟨(k : Int), by omega, fun j j1 j2 => ?_, fun j j1 j2 => ?_⟩
    · have := hl j.toNat (by omega)
      rw [show ((j.toNat : Nat) : Int) = j by omega] at this
      omega
    · rcases hk with z | z
      · omega
      · rcases (show j = (k : Int) ∨ (k : Int) < j by omega) with y | y
        · rw [y]; exact z
        · have := hs (k : Int) j (by omega) y j2
          omega
theorem insQ_a {σ : Tb} {w p a : Int} (h : insOk σ w p a) : insQ σ w p = up (up (up (shf σ w a (σ 18 w)) (25 + a.toNat) w p) 17 w (((σ 17 w).toNat ||| 2 ^ p.toNat : Nat) : Int)) 18 w (σ 18 w + 1) := by
  unfold insQ
  rw [insA_eq h]
theorem insQ_o {σ : Tb} {w p a v : Int} {t : Nat} (h : insOk σ w p a) (hv : v ≠ w ∨ t < 17 ∨ (19 ≤ t ∧ t < 25)) : insQ σ w p t v = σ t v := by
  have ha := h.1
  rw [insQ_a h]
  by_cases q : v = w
  · rw [up_t (by omega), up_t (by omega), up_t (by omega)]
    exact shf_o (by omega)
  · rw [up_i q, up_i q, up_i q]
    exact shf_o (Or.inl q)
theorem insQ_17 {σ : Tb} {w p a : Int} (h : insOk σ w p a) : insQ σ w p 17 w = (((σ 17 w).toNat ||| 2 ^ p.toNat : Nat) : Int) := by
  rw [insQ_a h, up_t (by decide), up_self]
theorem insQ_18 {σ : Tb} {w p a : Int} (h : insOk σ w p a) : insQ σ w p 18 w = σ 18 w + 1 := by
  rw [insQ_a h, up_self]
theorem insQ_P {σ : Tb} {w p a k : Int} (h : insOk σ w p a) (hk : 0 ≤ k ∧ k ≤ σ 18 w) : (k < a ∧ PQ (insQ σ w p) w k = PQ σ w k) ∨ (k = a ∧ PQ (insQ σ w p) w k = p) ∨ (a < k ∧ PQ (insQ σ w p) w k = PQ σ w (k - 1)) := by
  have ha := h.1
  rcases (show k < a ∨ k = a ∨ a < k by omega) with q | q | q
  · left
    refine ⟨q, ?_⟩
    show insQ σ w p (25 + k.toNat) w = _
    rw [insQ_a h, up_t (by omega), up_t (by omega), up_t (by omega)]
    exact shf_o (by omega)
  · right; left
    refine ⟨q, ?_⟩
    show insQ σ w p (25 + k.toNat) w = _
    rw [insQ_a h, up_t (by omega), up_t (by omega), q, up_self]
  · right; right
    refine ⟨q, ?_⟩
    show insQ σ w p (25 + k.toNat) w = σ (25 + (k - 1).toNat) w
    rw [insQ_a h, up_t (by omega), up_t (by omega), up_t (by omega)]
    unfold shf
    rw [if_pos (by omega), show 25 + k.toNat - 1 = 25 + (k - 1).toNat by omega]
theorem insQ_on {σ : Tb} {w p a x : Int} (h : insOk σ w p a) (hp : 0 ≤ p) (hx : 0 ≤ x) : isOn (insQ σ w p) w x ↔ isOn σ w x ∨ p = x := by
  unfold isOn
  rw [insQ_17 h, Int.toNat_natCast, or_bit]
  constructor
  · rintro (q | q)
    · exact Or.inl q
    · exact Or.inr (by omega)
  · rintro (q | q)
    · exact Or.inl q
    · exact Or.inr (by omega)
theorem insQ_IQ {σ : Tb} {w p a : Int} (h : insOk σ w p a) (hn : 0 ≤ σ 18 w ∧ σ 18 w ≤ 3) (hm : 0 ≤ σ 17 w ∧ σ 17 w < 1099511627776) (hp : (0 ≤ p ∧ p < σ 0 0) ∧ σ 0 0 ≤ 40) (hno : ¬ isOn σ w p) (h3 : ∀ k, 0 ≤ k → k < σ 18 w → (0 ≤ PQ σ w k ∧ PQ σ w k < σ 0 0) ∧ isOn σ w (PQ σ w k)) (h4 : ∀ j k, 0 ≤ j → j < k → k < σ 18 w → PQ σ w j < PQ σ w k) (h5 : ∀ x, 0 ≤ x → isOn σ w x → ∃ k, 0 ≤ k ∧ k < σ 18 w ∧ PQ σ w k = x) : IQ (insQ σ w p) w := by
  obtain ⟨ha, hl, hr⟩ := h
  have h : insOk σ w p a := ⟨ha, hl, hr⟩
  have h2 : 2 ^ p.toNat < 2 ^ 40 := Nat.pow_lt_pow_right (by decide) (by omega)
  have h1 : (σ 17 w).toNat < 2 ^ 40 := by omega
  have hor := Nat.or_lt_two_pow h1 h2
  have e0 : insQ σ w p 0 0 = σ 0 0 := insQ_o h (by omega)
  have hl2 : ∀ k, 0 ≤ k → k < a → PQ σ w k < p := by
    intro k k1 k2
    have x1 := hl k k1 k2
    have x2 := (h3 k k1 (by omega)).2
    rcases (show PQ σ w k < p ∨ PQ σ w k = p by omega) with q | q
    · exact q
    · rw [q] at x2; exact absurd x2 hno
  refine ⟨?_, ?_, fun k k1 k2 => ?_, fun j k j1 j2 j3 => ?_, fun x x1 x2 => ?_⟩
  · rw [insQ_17 h]; omega
  · rw [insQ_18 h]; omega
  · rw [insQ_18 h] at k2
    rw [e0]
    rcases insQ_P h (k := k) (by omega) with ⟨q, e⟩ | ⟨q, e⟩ | ⟨q, e⟩
    · rw [e]
      have := h3 k k1 (by omega)
      exact ⟨this.1, (insQ_on h hp.1.1 this.1.1).mpr (Or.inl this.2)⟩
    · rw [e]
      exact ⟨hp.1, (insQ_on h hp.1.1 hp.1.1).mpr (Or.inr rfl)⟩
    · rw [e]
      have := h3 (k - 1) (by omega) (by omega)
      exact ⟨this.1, (insQ_on h hp.1.1 this.1.1).mpr (Or.inl this.2)⟩
  · rw [insQ_18 h] at j3
    rcases insQ_P h (k := j) (by omega) with ⟨q, e⟩ | ⟨q, e⟩ | ⟨q, e⟩ <;> rcases insQ_P h (k := k) (by omega) with ⟨q', e'⟩ | ⟨q', e'⟩ | ⟨q', e'⟩ <;> rw [e, e']
    · exact h4 j k j1 j2 (by omega)
    · exact hl2 j j1 q
    · rcases (show j < k - 1 ∨ j = k - 1 by omega) with z | z
      · exact h4 j (k - 1) j1 z (by omega)
      · omega
    · omega
    · omega
    · exact hr (k - 1) (by omega) (by omega)
    · omega
    · omega
    · exact h4 (j - 1) (k - 1) (by omega) (by omega) (by omega)
  · rcases (insQ_on h hp.1.1 x1).mp x2 with q | q
    · obtain ⟨k, k1, k2, k3⟩ := h5 x x1 q
      rcases (show k < a ∨ a ≤ k by omega) with z | z
      · refine ⟨k, k1, by rw [insQ_18 h]; omega, ?_⟩
        rcases insQ_P h (k := k) (by omega) with ⟨y, e⟩ | ⟨y, e⟩ | ⟨y, e⟩
        · rw [e]; exact k3
        · omega
        · omega
      · refine ⟨k + 1, by omega, by rw [insQ_18 h]; omega, ?_⟩
        rcases insQ_P h (k := k + 1) (by omega) with ⟨y, e⟩ | ⟨y, e⟩ | ⟨y, e⟩
        · omega
        · omega
        · rw [e, show k + 1 - 1 = k by omega]; exact k3
    · refine ⟨a, by omega, by rw [insQ_18 h]; omega, ?_⟩
      rcases insQ_P h (k := a) (by omega) with ⟨y, e⟩ | ⟨y, e⟩ | ⟨y, e⟩
      · omega
      · rw [e]; exact q
      · omega
theorem ID_IQ0 {σ : Tb} {w : Int} (h : ID σ w) : (0 ≤ σ 18 w ∧ σ 18 w ≤ 3) ∧ (0 ≤ σ 17 w ∧ σ 17 w < 1099511627776) ∧ (∀ x, ¬ isOn σ w x) ∧ σ 18 w = 0 := by
  obtain ⟨h1, h2, _⟩ := h
  refine ⟨by omega, by omega, fun x => ?_, h2⟩
  unfold isOn
  rw [h1]
  simp
/-- the new work's insertion, on tables that are told for it -/
theorem nW_o {σ : Tb} {n a b v : Int} {t : Nat} (h : v ≠ n ∨ ¬ (11 ≤ t ∧ t ≤ 16)) : nW σ n a b t v = σ t v := by
  unfold nW
  by_cases q : v = n
  · rw [up_t (by omega), up_t (by omega), up_t (by omega), up_t (by omega), up_t (by omega), up_t (by omega)]
  · rw [up_i q, up_i q, up_i q, up_i q, up_i q, up_i q]
theorem nW_PQ {σ : Tb} {n a b w k : Int} : PQ (nW σ n a b) w k = PQ σ w k := nW_o (by right; omega)
theorem nW_ins {σ : Tb} {n a b p : Int} (h : ID σ n) : insOk (nW σ n a b) n p 0 := by
  have e : nW σ n a b 18 n = 0 := by rw [nW_o (by right; omega)]; exact h.2.1
  refine ⟨by omega, fun k k1 k2 => by omega, fun k k1 k2 => by omega⟩
theorem InvS_work {σ : Tb} (h : InvS σ) {a b p : Int} : InvS (sWork σ a b p) := by
  unfold sWork
  by_cases q : vW σ a b p ∧ σ 0 2 < 60
  · rw [cif_t q]
    obtain ⟨⟨q1, q2, q3, q4, q5, q6, q7, q8, q9⟩, q10⟩ := q
    have h0 := Inv_0 h.1
    have hID := h.1.2.2.2.2.2 (σ 0 2) (by omega) (by omega)
    have hins := nW_ins (a := a) (b := b) (p := p) hID
    obtain ⟨g1, g2, g3, g4⟩ := ID_IQ0 hID
    have hu : ∀ t v, ¬ (t = 0 ∧ v = 2) → (v ≠ σ 0 2 ∨ t < 11 ∨ (19 ≤ t ∧ t < 25)) → up (insQ (nW σ (σ 0 2) a b) (σ 0 2) p) 0 2 (σ 0 2 + 1) t v = σ t v := by
      intro t v z1 z2
      have e1 : up (insQ (nW σ (σ 0 2) a b) (σ 0 2) p) 0 2 (σ 0 2 + 1) t v = insQ (nW σ (σ 0 2) a b) (σ 0 2) p t v := by
        by_cases y : t = 0
        · exact up_i (fun x => z1 ⟨y, x⟩)
        · exact up_t y
      rw [e1, insQ_o hins (by omega), nW_o (by omega)]
    have hn : ∀ t, 11 ≤ t → up (insQ (nW σ (σ 0 2) a b) (σ 0 2) p) 0 2 (σ 0 2 + 1) t (σ 0 2) = insQ (nW σ (σ 0 2) a b) (σ 0 2) p t (σ 0 2) := fun t ht => up_t (by omega)
    have hn2 : ∀ t, 11 ≤ t → t ≤ 16 → up (insQ (nW σ (σ 0 2) a b) (σ 0 2) p) 0 2 (σ 0 2 + 1) t (σ 0 2) = nW σ (σ 0 2) a b t (σ 0 2) := fun t ht ht2 => by rw [hn t ht, insQ_o hins (by omega)]
    have hIQ : IQ (insQ (nW σ (σ 0 2) a b) (σ 0 2) p) (σ 0 2) := by
      have e18 : nW σ (σ 0 2) a b 18 (σ 0 2) = σ 18 (σ 0 2) := nW_o (by right; omega)
      have e17 : nW σ (σ 0 2) a b 17 (σ 0 2) = σ 17 (σ 0 2) := nW_o (by right; omega)
      have e00 : nW σ (σ 0 2) a b 0 0 = σ 0 0 := nW_o (by right; omega)
      have eon : ∀ x, ¬ isOn (nW σ (σ 0 2) a b) (σ 0 2) x := fun x => by unfold isOn; rw [e17]; exact g3 x
      exact insQ_IQ hins (by omega) (by omega) (by omega) (eon p) (fun k k1 k2 => by omega) (fun j k k1 k2 k3 => by omega) (fun x x1 x2 => absurd x2 (eon x))
    refine ⟨⟨?_, fun x x1 x2 => ?_, fun k k1 k2 => ?_, fun d d1 d2 => ?_, fun w w1 w2 => ?_, fun w w1 w2 => ?_⟩, fun w w1 w2 w3 => ?_⟩
    · rw [up_self, hu 0 0 (by omega) (by omega), hu 0 1 (by omega) (by omega), hu 0 3 (by omega) (by omega), hu 0 4 (by omega) (by omega)]
      omega
    · rw [hu 0 0 (by omega) (by omega)] at x2
      have := Inv_p h.1 (p := x) (by omega)
      unfold IP at this ⊢
      rw [hu 1 x (by omega) (by omega), hu 2 x (by omega) (by omega), hu 3 x (by omega) (by omega), hu 4 x (by omega) (by omega), hu 5 x (by omega) (by omega), hu 6 x (by omega) (by omega)]
      exact this
    · rw [hu 0 1 (by omega) (by omega)] at k2
      have := Inv_r h.1 (k := k) (by omega)
      unfold IR at this ⊢
      rw [hu 7 k (by omega) (by omega), hu 8 k (by omega) (by omega), hu 9 k (by omega) (by omega)]
      exact this
    · rw [hu 10 d (by omega) (by omega)]; exact Inv_f h.1 (by omega)
    · rw [up_self] at w2
      by_cases z : w = σ 0 2
      · rw [z]
        refine ⟨?_, ?_, ?_⟩
        · unfold IN
          rw [hn2 11 (by omega) (by omega), hn2 12 (by omega) (by omega), hn2 13 (by omega) (by omega), hn2 14 (by omega) (by omega), hn2 15 (by omega) (by omega), hn2 16 (by omega) (by omega), hu 19 _ (by omega) (by omega), hu 20 _ (by omega) (by omega), hu 21 _ (by omega) (by omega)]
          unfold ID at hID
          have n1 : nW σ (σ 0 2) a b 11 (σ 0 2) = a / 10000 := by simp [nW, up]
          have n2 : nW σ (σ 0 2) a b 12 (σ 0 2) = a / 1000 % 10 := by simp [nW, up]
          have n3 : nW σ (σ 0 2) a b 13 (σ 0 2) = a / 100 % 10 := by simp [nW, up]
          have n4 : nW σ (σ 0 2) a b 14 (σ 0 2) = a % 100 := by simp [nW, up]
          have n5 : nW σ (σ 0 2) a b 15 (σ 0 2) = b / 1000 := by simp [nW, up]
          have n6 : nW σ (σ 0 2) a b 16 (σ 0 2) = b % 1000 := by simp [nW, up]
          rw [n1, n2, n3, n4, n5, n6]
          omega
        · refine ⟨?_, ?_, ?_, ?_, ?_⟩
          · rw [hn 17 (by omega)]; exact hIQ.1
          · rw [hn 18 (by omega)]; exact hIQ.2.1
          · intro k k1 k2
            rw [hn 18 (by omega)] at k2
            have := hIQ.2.2.1 k k1 k2
            have e1 : PQ (up (insQ (nW σ (σ 0 2) a b) (σ 0 2) p) 0 2 (σ 0 2 + 1)) (σ 0 2) k = PQ (insQ (nW σ (σ 0 2) a b) (σ 0 2) p) (σ 0 2) k := hn (25 + k.toNat) (by omega)
            rw [e1]
            refine ⟨by rw [up_i (by decide)]; exact this.1, ?_⟩
            have := this.2
            unfold isOn at this ⊢
            rw [hn 17 (by omega)]
            exact this
          · intro j k j1 j2 j3
            rw [hn 18 (by omega)] at j3
            have e1 : ∀ k, PQ (up (insQ (nW σ (σ 0 2) a b) (σ 0 2) p) 0 2 (σ 0 2 + 1)) (σ 0 2) k = PQ (insQ (nW σ (σ 0 2) a b) (σ 0 2) p) (σ 0 2) k := fun k => hn (25 + k.toNat) (by omega)
            rw [e1, e1]
            exact hIQ.2.2.2.1 j k j1 j2 j3
          · intro x x1 x2
            have e1 : ∀ k, PQ (up (insQ (nW σ (σ 0 2) a b) (σ 0 2) p) 0 2 (σ 0 2 + 1)) (σ 0 2) k = PQ (insQ (nW σ (σ 0 2) a b) (σ 0 2) p) (σ 0 2) k := fun k => hn (25 + k.toNat) (by omega)
            have x3 : isOn (insQ (nW σ (σ 0 2) a b) (σ 0 2) p) (σ 0 2) x := by
              unfold isOn at x2 ⊢
              rw [hn 17 (by omega)] at x2
              exact x2
            obtain ⟨k, k1, k2, k3⟩ := hIQ.2.2.2.2 x x1 x3
            exact ⟨k, k1, by rw [hn 18 (by omega)]; exact k2, by rw [e1]; exact k3⟩
        · left
          rw [hu 23 _ (by omega) (by omega)]
          exact hID.2.2.2.2.2.2.1
      · obtain ⟨x1, x2, x3⟩ := Inv_w h.1 (w := w) (by omega)
        refine ⟨?_, ?_, ?_⟩
        · unfold IN at x1 ⊢
          rw [hu 11 w (by omega) (by omega), hu 12 w (by omega) (by omega), hu 13 w (by omega) (by omega), hu 14 w (by omega) (by omega), hu 15 w (by omega) (by omega), hu 16 w (by omega) (by omega), hu 19 w (by omega) (by omega), hu 20 w (by omega) (by omega), hu 21 w (by omega) (by omega), hu 0 3 (by omega) (by omega)]
          exact x1
        · obtain ⟨b1, b2, b3, b4, b5⟩ := x2
          have eP : ∀ k, PQ (up (insQ (nW σ (σ 0 2) a b) (σ 0 2) p) 0 2 (σ 0 2 + 1)) w k = PQ σ w k := fun k => hu (25 + k.toNat) w (by omega) (by omega)
          have eO : ∀ p', isOn (up (insQ (nW σ (σ 0 2) a b) (σ 0 2) p) 0 2 (σ 0 2 + 1)) w p' ↔ isOn σ w p' := fun p' => by unfold isOn; rw [hu 17 w (by omega) (by omega)]
          unfold IQ
          rw [hu 17 w (by omega) (by omega), hu 18 w (by omega) (by omega), hu 0 0 (by omega) (by omega)]
          refine ⟨b1, b2, fun k k1 k2 => ?_, fun j k j1 j2 j3 => ?_, fun p' p1 p2 => ?_⟩
          · rw [eP]; exact ⟨(b3 k k1 k2).1, (eO _).mpr (b3 k k1 k2).2⟩
          · rw [eP, eP]; exact b4 j k j1 j2 j3
          · obtain ⟨k, k1, k2, k3⟩ := b5 p' p1 ((eO p').mp p2)
            exact ⟨k, k1, k2, by rw [eP]; exact k3⟩
        · unfold IJ at x3 ⊢
          rw [hu 23 w (by omega) (by omega)]
          rcases x3 with y | ⟨y1, y2, y3, y4, y5, y6, y7⟩
          · exact Or.inl y
          · right
            rw [up_self, hu 23 (σ 23 w) (by omega) (by omega), hu 17 (σ 23 w) (by omega) (by omega), hu 17 w (by omega) (by omega), hu 11 (σ 23 w) (by omega) (by omega), hu 11 w (by omega) (by omega), hu 15 (σ 23 w) (by omega) (by omega), hu 15 w (by omega) (by omega), hu 19 w (by omega) (by omega)]
            exact ⟨by omega, y2, y3, y4, y5, y6, y7⟩
    · rw [up_self] at w1
      have := h.1.2.2.2.2.2 w (by omega) w2
      unfold ID at this ⊢
      rw [hu 17 w (by omega) (by omega), hu 18 w (by omega) (by omega), hu 19 w (by omega) (by omega), hu 20 w (by omega) (by omega), hu 21 w (by omega) (by omega), hu 22 w (by omega) (by omega), hu 23 w (by omega) (by omega), hu 24 w (by omega) (by omega)]
      exact this
    · rw [up_self] at w2
      rw [hu 19 w (by omega) (by omega)] at w3
      rw [hu 0 3 (by omega) (by omega), hu 20 w (by omega) (by omega)]
      by_cases z : w = σ 0 2
      · rw [z] at w3
        have := hID.2.2.1
        omega
      · exact h.2 w w1 (by omega) w3
  · rw [cif_f q]; exact h
theorem IQ_c2 {σ σ' : Tb} {w : Int} (h0 : ∀ t i, t = 0 → σ' t i = σ t i) (he : ∀ t, σ' t w = σ t w) (h : IQ σ w) : IQ σ' w := by
  have e0 := h0 0 0 rfl
  have eP : ∀ k, PQ σ' w k = PQ σ w k := fun k => he (25 + k.toNat)
  have eO : ∀ p, isOn σ' w p ↔ isOn σ w p := fun p => by unfold isOn; rw [he 17]
  obtain ⟨h1, h2, h3, h4, h5⟩ := h
  unfold IQ
  rw [he 17, he 18, e0]
  refine ⟨h1, h2, fun k k1 k2 => ?_, fun j k j1 j2 j3 => ?_, fun p p1 p2 => ?_⟩
  · rw [eP]; exact ⟨(h3 k k1 k2).1, (eO _).mpr (h3 k k1 k2).2⟩
  · rw [eP, eP]; exact h4 j k j1 j2 j3
  · obtain ⟨k, k1, k2, k3⟩ := h5 p p1 ((eO p).mp p2)
    exact ⟨k, k1, k2, by rw [eP]; exact k3⟩
theorem InvS_more {σ : Tb} (h : InvS σ) {w p : Int} : InvS (sMore σ w p) := by
  unfold sMore
  by_cases q : vM σ w p ∧ (σ 19 w = 0 ∧ σ 23 w < 0) ∧ σ 18 w < 4
  · rw [cif_t q]
    obtain ⟨⟨q1, q2, q3⟩, q4, q5⟩ := q
    have h0 := Inv_0 h.1
    obtain ⟨x1, x2, x3⟩ := Inv_w h.1 q1
    obtain ⟨b1, b2, b3, b4, b5⟩ := x2
    obtain ⟨a, hins⟩ := insOk_ex (σ := σ) (w := w) (p := p) (by omega) b4
    have hIQ := insQ_IQ hins (by omega) b1 (by omega) q3 b3 b4 b5
    have hu : ∀ t v, (v ≠ w ∨ t < 17 ∨ (19 ≤ t ∧ t < 25)) → insQ σ w p t v = σ t v := fun t v z => insQ_o hins z
    refine ⟨⟨?_, fun x y1 y2 => ?_, fun k k1 k2 => ?_, fun d d1 d2 => ?_, fun v w1 w2 => ?_, fun v w1 w2 => ?_⟩, fun v w1 w2 w3 => ?_⟩
    · rw [hu 0 0 (by omega), hu 0 1 (by omega), hu 0 2 (by omega), hu 0 3 (by omega), hu 0 4 (by omega)]
      exact h.1.1
    · rw [hu 0 0 (by omega)] at y2
      have := Inv_p h.1 (p := x) (by omega)
      unfold IP at this ⊢
      rw [hu 1 x (by omega), hu 2 x (by omega), hu 3 x (by omega), hu 4 x (by omega), hu 5 x (by omega), hu 6 x (by omega)]
      exact this
    · rw [hu 0 1 (by omega)] at k2
      have := Inv_r h.1 (k := k) (by omega)
      unfold IR at this ⊢
      rw [hu 7 k (by omega), hu 8 k (by omega), hu 9 k (by omega)]
      exact this
    · rw [hu 10 d (by omega)]; exact Inv_f h.1 (by omega)
    · rw [hu 0 2 (by omega)] at w2
      obtain ⟨z1, z2, z3⟩ := Inv_w h.1 (w := v) ⟨w1, w2⟩
      refine ⟨?_, ?_, ?_⟩
      · unfold IN at z1 ⊢
        rw [hu 11 v (by omega), hu 12 v (by omega), hu 13 v (by omega), hu 14 v (by omega), hu 15 v (by omega), hu 16 v (by omega), hu 19 v (by omega), hu 20 v (by omega), hu 21 v (by omega), hu 0 3 (by omega)]
        exact z1
      · by_cases y : v = w
        · rw [y]; exact hIQ
        · exact IQ_c2 (fun t i ht => hu t i (by omega)) (fun t => hu t v (Or.inl y)) z2
      · unfold IJ at z3 ⊢
        rw [hu 23 v (by omega)]
        rcases z3 with y | ⟨y1, y2, y3, y4, y5, y6, y7⟩
        · exact Or.inl y
        · right
          have hv : v ≠ w := fun e => by rw [e] at y1; omega
          have hv2 : σ 23 v ≠ w := fun e => by rw [e] at y3; omega
          rw [hu 0 2 (by omega), hu 23 (σ 23 v) (by omega), hu 17 (σ 23 v) (Or.inl hv2), hu 17 v (Or.inl hv), hu 11 (σ 23 v) (by omega), hu 11 v (by omega), hu 15 (σ 23 v) (by omega), hu 15 v (by omega), hu 19 v (by omega)]
          exact ⟨y1, y2, y3, y4, y5, y6, y7⟩
    · rw [hu 0 2 (by omega)] at w1
      have := h.1.2.2.2.2.2 v w1 w2
      have hv : v ≠ w := fun e => by unfold lvW at q1; omega
      unfold ID at this ⊢
      rw [hu 17 v (Or.inl hv), hu 18 v (Or.inl hv), hu 19 v (Or.inl hv), hu 20 v (Or.inl hv), hu 21 v (Or.inl hv), hu 22 v (Or.inl hv), hu 23 v (Or.inl hv), hu 24 v (Or.inl hv)]
      exact this
    · rw [hu 0 2 (by omega)] at w2
      rw [hu 19 v (by omega)] at w3
      rw [hu 0 3 (by omega), hu 20 v (by omega)]
      exact h.2 v w1 w2 w3
  · rw [cif_f q]; exact h

