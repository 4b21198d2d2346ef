/-! ===== the start: the keys of the whole ===== -/
def σ0 : Tb := fun t _ => if t = 20 ∨ t = 21 ∨ t = 23 then -1 else 0
def τ0 : Tb := fun t i => if t = 2 ∧ i = 4 then -1 else 0
def pi8 (k : Nat) : Nat := if k = 0 then 0 else if k = 1 then 1 else if k = 2 then 174 else if k = 3 then 185 else if k = 4 then 187 else if k = 5 then 188 else if k < 10 then k - 4 else if k < 20 then k + 165 else if k = 20 then 186 else if k < 69 then k - 15 else if k < 129 then 54 + 2 * (k - 69) else 55 + 2 * (k - 129)
theorem pi8_lt (k : Nat) (h : k < 189) : pi8 k < 189 := by
  have e : ∀ k, k < 189 → pi8 k < 189 := by decide +kernel
  exact e k h
theorem pi8_inj {i j : Nat} (hi : i < 189) (hj : j < 189) (h : pi8 i = pi8 j) : i = j := by
  have e : ∀ i, i < 189 → ∀ j, j < 189 → pi8 i = pi8 j → i = j := by decide +kernel
  exact e i hi j hj h
theorem pi8_d {k : Nat} (h : 10 ≤ k ∧ k < 20) : pi8 k = k + 165 := by
  unfold pi8
  rw [if_neg (by omega), if_neg (by omega), if_neg (by omega), if_neg (by omega), if_neg (by omega), if_neg (by omega), if_neg (by omega), if_pos (by omega)]
theorem pi8_m {k : Nat} (h : 21 ≤ k ∧ k < 69) : pi8 k = k - 15 := by
  unfold pi8
  rw [if_neg (by omega), if_neg (by omega), if_neg (by omega), if_neg (by omega), if_neg (by omega), if_neg (by omega), if_neg (by omega), if_neg (by omega), if_neg (by omega), if_pos (by omega)]
theorem pi8_w {k : Nat} (h : 69 ≤ k ∧ k < 129) : pi8 k = 54 + 2 * (k - 69) := by
  unfold pi8
  rw [if_neg (by omega), if_neg (by omega), if_neg (by omega), if_neg (by omega), if_neg (by omega), if_neg (by omega), if_neg (by omega), if_neg (by omega), if_neg (by omega), if_neg (by omega), if_pos (by omega)]
theorem pi8_b {k : Nat} (h : 129 ≤ k) : pi8 k = 55 + 2 * (k - 129) := by
  unfold pi8
  rw [if_neg (by omega), if_neg (by omega), if_neg (by omega), if_neg (by omega), if_neg (by omega), if_neg (by omega), if_neg (by omega), if_neg (by omega), if_neg (by omega), if_neg (by omega), if_neg (by omega)]
def AD8 (a0 : Nat) (t c y r h : Nat → Nat) : Nat → Nat := jn (jn (jn (jn (jn (fun _ => a0) 1 t) 174 c) 185 y) 187 r) 188 h
def EE8 (G : Nat → ClassId) (x : va_E) (t c y r h : Nat → Nat) : Nat → va_E := jn (jn (jn (jn (jn (fun _ => x) 1 (IE5 G t)) 174 (IE0 G (t 0) c)) 185 (IE6 G (t 0) y)) 187 (IE3 G (t 0) (c 0) (y 0) r)) 188 (IE4 G (t 0) (r 0) h)
theorem EE8_t {G : Nat → ClassId} {x : va_E} {t c y r h : Nat → Nat} {k : Nat} (h1 : 1 ≤ k) (h2 : k < 174) : EE8 G x t c y r h k = IE5 G t (k - 1) := by
  unfold EE8
  rw [jn_l (by omega), jn_l (by omega), jn_l (by omega), jn_l (by omega), jn_r (by omega)]
theorem AD8_t {a0 : Nat} {t c y r h : Nat → Nat} {k : Nat} (h1 : 1 ≤ k) (h2 : k < 174) : AD8 a0 t c y r h k = t (k - 1) := by
  unfold AD8
  rw [jn_l (by omega), jn_l (by omega), jn_l (by omega), jn_l (by omega), jn_r (by omega)]
theorem AD8_c {a0 : Nat} {t c y r h : Nat → Nat} {k : Nat} (h1 : 174 ≤ k) (h2 : k < 185) : AD8 a0 t c y r h k = c (k - 174) := by
  unfold AD8
  rw [jn_l (by omega), jn_l (by omega), jn_l (by omega), jn_r (by omega)]
theorem X8_kw {G : Nat → ClassId} {a0 : Nat} {x : va_E} {t c y r h : Nat → Nat} : (((([(a0, x)] ++ kw 173 t (IE5 G t)) ++ kw 11 c (IE0 G (t 0) c)) ++ kw 2 y (IE6 G (t 0) y)) ++ kw 1 r (IE3 G (t 0) (c 0) (y 0) r)) ++ kw 1 h (IE4 G (t 0) (r 0) h) = kw 189 (AD8 a0 t c y r h) (EE8 G x t c y r h) := by
  rw [kw_1, kw_jn, kw_jn, kw_jn, kw_jn, kw_jn]
  rfl
set_option maxRecDepth 100000 in
set_option maxHeartbeats 2000000 in
theorem X8_k {G : Nat → ClassId} {a0 : Nat} {t c y r h : Nat → Nat} {k : Nat} (hk : k < 189) (h6 : k ≠ 6) (h7 : k ≠ 7) (h8 : k ≠ 8) (h14 : k ≠ 14) : EE8 G (.inr (8, [.ref (t 0), .ref (c 0), .ref (y 0), .ref (r 0), .ref (h 0), .int (iI 0), .int (iI 0), .int (iI 0)])) t c y r h (pi8 k) = CE G (fun k => AD8 a0 t c y r h (pi8 k)) σ0 τ0 k := by
  rcases (show (k = 0 ∨ k = 1 ∨ k = 2 ∨ k = 3 ∨ k = 4 ∨ k = 5 ∨ k = 9 ∨ k = 10 ∨ k = 11 ∨ k = 12 ∨ k = 13 ∨ k = 15 ∨ k = 16 ∨ k = 17 ∨ k = 18 ∨ k = 19 ∨ k = 20) ∨ (21 ≤ k ∧ k < 61) ∨ (61 ≤ k ∧ k < 69) ∨ (69 ≤ k ∧ k < 129) ∨ 129 ≤ k by omega) with q | q | q | q | q
  · rcases q with rfl | rfl | rfl | rfl | rfl | rfl | rfl | rfl | rfl | rfl | rfl | rfl | rfl | rfl | rfl | rfl | rfl <;> rfl
  · have e : pi8 k = k - 15 := pi8_m (by omega)
    rw [e, EE8_t (by omega) (by omega), show k - 15 - 1 = (k - 21) + 5 by omega]
    show TP G t (k - 21) = _
    unfold TP CE
    rw [if_pos (by omega), if_neg (by omega), if_pos (by omega)]
    rfl
  · have e : pi8 k = k - 15 := pi8_m (by omega)
    rw [e, EE8_t (by omega) (by omega), show k - 15 - 1 = (k - 21) + 5 by omega]
    show TP G t (k - 21) = _
    unfold TP CE
    rw [if_neg (by omega), if_pos (by omega), if_neg (by omega), if_neg (by omega), if_pos (by omega)]
    rfl
  · have e : pi8 k = 54 + 2 * (k - 69) := pi8_w (by omega)
    have e2 : pi8 (129 + (k - 69)) = 55 + 2 * (k - 69) := by rw [pi8_b (by omega)]; omega
    rw [e, EE8_t (by omega) (by omega), show 54 + 2 * (k - 69) - 1 = (48 + 2 * (k - 69)) + 5 by omega]
    show TP G t (48 + 2 * (k - 69)) = _
    unfold TP CE
    rw [if_neg (by omega), if_neg (by omega), if_pos (by omega), if_neg (by omega), if_neg (by omega), if_neg (by omega), if_pos (by omega)]
    have e3 : AD8 a0 t c y r h (pi8 (129 + (((k - 69 : Nat) : Int)).toNat)) = t (48 + 2 * (k - 69) + 6) := by
      rw [Int.toNat_natCast, e2, AD8_t (by omega) (by omega)]
      congr 1
      omega
    show (Sum.inr (7, [.int (iI (((48 + 2 * (k - 69) - 48) / 2 : Nat) : Int)), .ref (t (48 + 2 * (k - 69) + 6)), .int (iI 0), .long (lN 0), .int (iI 0), .int (iI 0), .int (iI 0), .int (iI 0), .int (iI 0), .int (iI 0), .int (iI 0), .int (iI (-1)), .int (iI (-1)), .int (iI 0), .int (iI (-1)), .int (iI 0)]) : va_E) = _
    rw [← e3, show (48 + 2 * (k - 69) - 48) / 2 = k - 69 by omega]
    rfl
  · have e : pi8 k = 55 + 2 * (k - 129) := pi8_b (by omega)
    rw [e, EE8_t (by omega) (by omega), show 55 + 2 * (k - 129) - 1 = (49 + 2 * (k - 129)) + 5 by omega]
    show TP G t (49 + 2 * (k - 129)) = _
    unfold TP CE
    rw [if_neg (by omega), if_neg (by omega), if_neg (by omega), if_neg (by omega), if_neg (by omega), if_neg (by omega), if_neg (by omega)]
    refine congrArg (fun f => (Sum.inl (G 0, 4, .inl f) : va_E)) (funext fun j => ?_)
    show iI 0 = iI (if 25 + j = 20 ∨ 25 + j = 21 ∨ 25 + j = 23 then -1 else 0)
    rw [if_neg (by omega)]
set_option maxRecDepth 100000 in
set_option maxHeartbeats 2000000 in
theorem X8_fin {D : va_G} {G : Nat → ClassId} {A : Nat → Prop} {a0 : Nat} {t c y r h : Nat → Nat} {H : Heap} (hP : va_P D vwCl (kw 189 (AD8 a0 t c y r h) (EE8 G (.inr (8, [.ref (t 0), .ref (c 0), .ref (y 0), .ref (r 0), .ref (h 0), .int (iI 0), .int (iI 0), .int (iI 0)])) t c y r h)) H) (hD : va_D A (kw 189 (AD8 a0 t c y r h) (EE8 G (.inr (8, [.ref (t 0), .ref (c 0), .ref (y 0), .ref (r 0), .ref (h 0), .int (iI 0), .int (iI 0), .int (iI 0)])) t c y r h))) :
    va_P D vwCl (kw 189 (fun k => AD8 a0 t c y r h (pi8 k)) (CE G (fun k => AD8 a0 t c y r h (pi8 k)) σ0 τ0)) H ∧ va_D A (kw 189 (fun k => AD8 a0 t c y r h (pi8 k)) (CE G (fun k => AD8 a0 t c y r h (pi8 k)) σ0 τ0)) := by
  constructor
  · generalize hE : EE8 G (.inr (8, [.ref (t 0), .ref (c 0), .ref (y 0), .ref (r 0), .ref (h 0), .int (iI 0), .int (iI 0), .int (iI 0)])) t c y r h = E at hP
    generalize hC : CE G (fun k => AD8 a0 t c y r h (pi8 k)) σ0 τ0 = C
    have p1 := kw_pi (E' := fun k => E (pi8 k)) pi8 pi8_lt (fun k _ => rfl) hP
    have p2 := n_cgq (E' := fun k => if k = 6 then C 6 else E (pi8 k)) 6 (by rw [← hE]; rfl) (by rw [← hC]; rfl) (fun j hj => by
      rw [show (fun k => AD8 a0 t c y r h (pi8 k)) (21 + j) = t (5 + j) from by
        have e : pi8 (21 + j) = 6 + j := by rw [pi8_m (by omega)]; omega
        show AD8 a0 t c y r h (pi8 (21 + j)) = _
        rw [e, AD8_t (by omega) (by omega)]; congr 1; omega]) (fun k _ q => (if_neg q).symm) p1
    have p3 := n_cgq (E' := fun k => if k = 7 then C 7 else if k = 6 then C 6 else E (pi8 k)) 7 (by rw [← hE]; rfl) (by rw [← hC]; rfl) (fun j hj => by
      rw [show (fun k => AD8 a0 t c y r h (pi8 k)) (61 + j) = t (45 + j) from by
        have e : pi8 (61 + j) = 46 + j := by rw [pi8_m (by omega)]; omega
        show AD8 a0 t c y r h (pi8 (61 + j)) = _
        rw [e, AD8_t (by omega) (by omega)]; congr 1; omega]) (fun k _ q => (if_neg q).symm) p2
    have p4 := n_cgq (E' := fun k => if k = 8 then C 8 else if k = 7 then C 7 else if k = 6 then C 6 else E (pi8 k)) 8 (by rw [← hE]; rfl) (by rw [← hC]; rfl) (fun j hj => by
      rw [show (fun k => AD8 a0 t c y r h (pi8 k)) (69 + j) = t (53 + 2 * j) from by
        have e : pi8 (69 + j) = 54 + 2 * j := by rw [pi8_w (by omega)]; omega
        show AD8 a0 t c y r h (pi8 (69 + j)) = _
        rw [e, AD8_t (by omega) (by omega)]; congr 1; omega]) (fun k _ q => (if_neg q).symm) p3
    refine n_cgq (E' := C) 14 (by rw [← hE]; rfl) (by rw [← hC]; rfl) (fun j hj => by
      rw [show (fun k => AD8 a0 t c y r h (pi8 k)) (15 + j) = c (6 + j) from by
        have e : pi8 (15 + j) = 180 + j := by rw [pi8_d (by omega)]; omega
        show AD8 a0 t c y r h (pi8 (15 + j)) = _
        rw [e, AD8_c (by omega) (by omega)]; congr 1; omega]) (fun k hk q => ?_) p4
    by_cases q8 : k = 8
    · rw [if_pos q8, q8]
    by_cases q7 : k = 7
    · rw [if_neg q8, if_pos q7, q7]
    by_cases q6 : k = 6
    · rw [if_neg q8, if_neg q7, if_pos q6, q6]
    rw [if_neg q8, if_neg q7, if_neg q6, ← hE, ← hC]
    exact X8_k hk q6 q7 q8 q
  · refine kw_D (fun i j hi hj e => pi8_inj hi hj (kInj_of hD _ _ (pi8_lt i hi) (pi8_lt j hj) e)) (fun k hk => kAd_of hD _ (pi8_lt k hk)) _
