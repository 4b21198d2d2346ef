/-! ===== the reference's start ===== -/
def τR : Tb := fun t i => if t = 0 ∧ (i = 5 ∨ i = 6) then -1 else 0
def pi9 (k : Nat) : Nat := if k < 18 then k else if k < 25 then k + 1 else if k = 25 then 18 else 26
theorem pi9_lt (k : Nat) (h : k < 27) : pi9 k < 27 := by
  have e : ∀ k, k < 27 → pi9 k < 27 := by decide +kernel
  exact e k h
theorem pi9_inj {i j : Nat} (hi : i < 27) (hj : j < 27) (h : pi9 i = pi9 j) : i = j := by
  have e : ∀ i, i < 27 → ∀ j, j < 27 → pi9 i = pi9 j → i = j := by decide +kernel
  exact e i hi j hj h
theorem tD_0 {σ : Tb} {t : Nat} : tD σ t 0 = fun _ => iI 0 := funext fun j => by
  show iI (if (j : Int) < 0 then _ else 0) = _
  rw [if_neg (by omega)]
set_option maxRecDepth 100000 in
set_option maxHeartbeats 2000000 in
theorem X9_fin {D : va_G} {G : Nat → ClassId} {A : Nat → Prop} {ad : Nat → Nat} {H : Heap} (hP : va_P D vwCl (kw 27 ad (IE9 G ad)) H) (hD : va_D A (kw 27 ad (IE9 G ad))) :
    va_P D vwCl (kw 27 (fun k => ad (pi9 k)) (RE G (fun k => ad (pi9 k)) σ0 τR)) H ∧ va_D A (kw 27 (fun k => ad (pi9 k)) (RE G (fun k => ad (pi9 k)) σ0 τR)) := by
  constructor
  · refine kw_pi pi9 pi9_lt (fun k hk => ?_) hP
    have e20 : RE G (fun k => ad (pi9 k)) σ0 τR 20 = .inl (G 0, 60, .inl (fun _ => iI 0)) := by
      show (Sum.inl (G 0, 60, .inl (tD σ0 20 0)) : va_E) = _
      rw [tD_0]
    have e21 : RE G (fun k => ad (pi9 k)) σ0 τR 21 = .inl (G 0, 60, .inl (fun _ => iI 0)) := by
      show (Sum.inl (G 0, 60, .inl (tD σ0 21 0)) : va_E) = _
      rw [tD_0]
    have e23 : RE G (fun k => ad (pi9 k)) σ0 τR 23 = .inl (G 0, 60, .inl (fun _ => iI 0)) := by
      show (Sum.inl (G 0, 60, .inl (tD σ0 23 0)) : va_E) = _
      rw [tD_0]
    rcases (show k = 0 ∨ k = 1 ∨ k = 2 ∨ k = 3 ∨ k = 4 ∨ k = 5 ∨ k = 6 ∨ k = 7 ∨ k = 8 ∨ k = 9 ∨ k = 10 ∨ k = 11 ∨ k = 12 ∨ k = 13 ∨ k = 14 ∨ k = 15 ∨ k = 16 ∨ k = 17 ∨ k = 18 ∨ k = 19 ∨ k = 20 ∨ k = 21 ∨ k = 22 ∨ k = 23 ∨ k = 24 ∨ k = 25 ∨ k = 26 by omega) with rfl | rfl | rfl | rfl | rfl | rfl | rfl | rfl | rfl | rfl | rfl | rfl | rfl | rfl | rfl | rfl | rfl | rfl | rfl | rfl | rfl | rfl | rfl | rfl | rfl | rfl | rfl <;> first | (rw [e20]; rfl) | (rw [e21]; rfl) | (rw [e23]; rfl) | rfl
  · exact kw_D (fun i j hi hj e => pi9_inj hi hj (kInj_of hD _ _ (pi9_lt i hi) (pi9_lt j hj) e)) (fun k hk => kAd_of hD _ (pi9_lt k hk)) _
theorem InvS_0 : InvS σ0 := by
  have z : ∀ t i, t ≠ 20 → t ≠ 21 → t ≠ 23 → σ0 t i = 0 := fun t i h1 h2 h3 => if_neg (by omega)
  have z2 : ∀ t i, (t = 20 ∨ t = 21 ∨ t = 23) → σ0 t i = -1 := fun t i h => if_pos h
  have e0 : ∀ i, σ0 0 i = 0 := fun i => z 0 i (by decide) (by decide) (by decide)
  refine ⟨⟨?_, ?_, ?_, ?_, ?_, ?_⟩, ?_⟩
  · rw [e0, e0, e0, e0, e0]; omega
  · intro p h1 h2; rw [e0] at h2; omega
  · intro p h1 h2; rw [e0] at h2; omega
  · intro d _ _; exact Or.inl (z 10 d (by decide) (by decide) (by decide))
  · intro w h1 h2; rw [e0] at h2; omega
  · intro w _ _
    exact ⟨z 17 w (by decide) (by decide) (by decide), z 18 w (by decide) (by decide) (by decide), z 19 w (by decide) (by decide) (by decide), z2 20 w (by decide), z2 21 w (by decide), z 22 w (by decide) (by decide) (by decide), z2 23 w (by decide), z 24 w (by decide) (by decide) (by decide)⟩
  · intro w h1 h2; rw [e0] at h2; omega
theorem TI_0 : TI τ0 := by
  have e : τ0 2 4 = -1 := rfl
  unfold TI
  rw [e]
  omega
theorem RT_0 : RT σ0 τR := by
  refine ⟨⟨rfl, rfl, rfl⟩, ?_, ?_⟩
  · rw [cif_f (show ¬ σ0 0 4 = 1 by decide)]; rfl
  · rw [cif_f (show ¬ σ0 0 4 = 1 by decide)]; rfl
