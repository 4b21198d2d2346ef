/-! the arrays' kinds: G 0 int, 1 long, 2 boolean, 3 Pair, 4 Piece, 5 Work, 6 rows of int -/
abbrev tysG (G : Nat → ClassId) : List (ClassId × FieldType) := [(G 0, .int), (G 1, .long), (G 2, .boolean), (G 3, .object "RoadWorks$Pair"), (G 4, .object "RoadWorks$Piece"), (G 5, .object "RoadWorks$Work"), (G 6, .array .int)]
/-- a table as an array of ints -/
def tI (σ : Tb) (t : Nat) : Nat → Int32 := fun j => iI (σ t (j : Int))
theorem tI_at {σ : Tb} {t : Nat} {z : Int} (h : 0 ≤ z) : tI σ t z.toNat = iI (σ t z) := by show iI (σ t ((z.toNat : Nat) : Int)) = _; rw [Int.toNat_of_nonneg h]
theorem tI_up {σ : Tb} {t : Nat} {z v : Int} (h : 0 ≤ z) : upd (tI σ t) z.toNat (iI v) = tI (up σ t z v) t := by
  funext j
  by_cases hj : j = z.toNat
  · subst hj
    simp [upd, tI, up, Int.toNat_of_nonneg h]
  · have h2 : ¬ (j : Int) = z := by omega
    simp [upd, tI, up, hj, h2]
theorem tI_o {σ : Tb} {t t' : Nat} {z v : Int} (h : t' ≠ t) : tI (up σ t z v) t' = tI σ t' := by funext j; simp [tI, up_t h]
/-- a table of masks as an array of longs -/
def tL (σ : Tb) (t : Nat) : Nat → Int64 := fun j => lN (σ t (j : Int)).toNat
theorem tL_at {σ : Tb} {t : Nat} {z : Int} (h : 0 ≤ z) : tL σ t z.toNat = lN (σ t z).toNat := by show lN (σ t ((z.toNat : Nat) : Int)).toNat = _; rw [Int.toNat_of_nonneg h]
theorem tL_up {σ : Tb} {t : Nat} {z : Int} {v : Nat} (h : 0 ≤ z) : vp_updL (tL σ t) z.toNat (lN v) = tL (up σ t z (v : Int)) t := by
  funext j
  by_cases hj : j = z.toNat
  · subst hj
    simp [vp_updL, tL, up, Int.toNat_of_nonneg h]
  · have h2 : ¬ (j : Int) = z := by omega
    simp [vp_updL, tL, up, hj, h2]
theorem tL_o {σ : Tb} {t t' : Nat} {z v : Int} (h : t' ≠ t) : tL (up σ t z v) t' = tL σ t' := by funext j; simp [tL, up_t h]
/-- a table whose places from n on hold 0 -/
def tD (σ : Tb) (t : Nat) (n : Int) : Nat → Int32 := fun j => iI (if (j : Int) < n then σ t (j : Int) else 0)
theorem tD_at {σ : Tb} {t : Nat} {n z : Int} (h : 0 ≤ z) (h2 : z < n) : tD σ t n z.toNat = iI (σ t z) := by show iI (if ((z.toNat : Nat) : Int) < n then _ else _) = _; rw [Int.toNat_of_nonneg h, if_pos h2]
theorem tD_up {σ : Tb} {t : Nat} {n z v : Int} (h : 0 ≤ z) (h2 : z < n) : upd (tD σ t n) z.toNat (iI v) = tD (up σ t z v) t n := by
  funext j
  by_cases hj : j = z.toNat
  · subst hj
    simp [upd, tD, up, Int.toNat_of_nonneg h, h2]
  · have h2 : ¬ (j : Int) = z := by omega
    simp [upd, tD, up, hj, h2]
theorem tD_new {σ : Tb} {t : Nat} {n z v : Int} (h : 0 ≤ z) (h2 : z = n) (h3 : σ t z = v) : upd (tD σ t n) z.toNat (iI v) = tD σ t (z + 1) := by
  subst h2
  funext j
  by_cases hj : j = z.toNat
  · subst hj
    simp [upd, tD, Int.toNat_of_nonneg h, h3, show z < z + 1 by omega]
  · have e : ((j : Int) < z) ↔ ((j : Int) < z + 1) := by omega
    simp [upd, tD, hj, e]
theorem tD_o {σ : Tb} {t t' : Nat} {n z v : Int} (h : t' ≠ t) : tD (up σ t z v) t' n = tD σ t' n := by funext j; simp [tD, up_t h]
abbrev FP (σ : Tb) (i : Int) : List Value := [.int (iI (σ 1 i)), .int (iI (σ 2 i)), .int (iI (σ 3 i)), .int (iI (σ 4 i)), .int (iI (σ 5 i)), .int (iI (σ 6 i))]
abbrev FR (σ : Tb) (i : Int) : List Value := [.int (iI (σ 7 i)), .int (iI (σ 8 i)), .int (iI (σ 9 i))]
abbrev FW (ad : Nat → Nat) (σ : Tb) (i : Int) : List Value := [.int (iI i), .ref (ad (129 + i.toNat)), .int (iI (σ 18 i)), .long (lN (σ 17 i).toNat), .int (iI (σ 11 i)), .int (iI (σ 12 i)), .int (iI (σ 13 i)), .int (iI (σ 14 i)), .int (iI (σ 15 i)), .int (iI (σ 16 i)), .int (iI (σ 19 i)), .int (iI (σ 20 i)), .int (iI (σ 21 i)), .int (iI (σ 22 i)), .int (iI (σ 23 i)), .int (iI (σ 24 i))]
/-- the four places of a work's own array -/
def tQ (σ : Tb) (i : Int) : Nat → Int32 := fun j => iI (σ (25 + j) i)
/-- the system's fixed cells: 0 the object, 1 town, 2 company, 3 ways, 4 rules, 5 shifts, 6 pieces, 7 pairs, 8 works, 9 feasts, 10 counted, 11 members, 12 near, 13 taken, 14 takenBeside, 15..18 its rows, 19 added, 20 minutes -/
def CE0 (G : Nat → ClassId) (ad : Nat → Nat) (σ τ : Tb) (k : Nat) : va_E := match k with
  | 0 => .inr (8, [.ref (ad 1), .ref (ad 2), .ref (ad 3), .ref (ad 4), .ref (ad 5), .int (iI (σ 0 4)), .int (iI (σ 0 5)), .int (iI (σ 0 6))])
  | 1 => .inr (5, [.ref (ad 6), .ref (ad 7), .ref (ad 8), .ref (ad 9), .int (iI (σ 0 0)), .int (iI (σ 0 1)), .int (iI (σ 0 2)), .int (iI (σ 0 3))])
  | 2 => .inr (0, [.ref (ad 1), .ref (ad 10), .ref (ad 11), .int (iI (τ 2 0)), .ref (ad 12), .int (iI (τ 2 1)), .ref (ad 13), .ref (ad 14), .ref (ad 19)])
  | 3 => .inr (6, [.ref (ad 1), .ref (ad 20)])
  | 4 => .inr (3, [.ref (ad 1), .ref (ad 2), .ref (ad 3), .int (iI (τ 2 2)), .int (iI (τ 2 3))])
  | 5 => .inr (4, [.ref (ad 1), .ref (ad 4), .int (iI (τ 2 4))])
  | 6 => .inl (G 4, 40, .inr (.inr (.inr (.inr (fun j => some (ad (21 + j)))))))
  | 7 => .inl (G 3, 8, .inr (.inr (.inr (.inr (fun j => some (ad (61 + j)))))))
  | 8 => .inl (G 5, 60, .inr (.inr (.inr (.inr (fun j => some (ad (69 + j)))))))
  | 9 => .inl (G 2, 400, .inl (tI σ 10))
  | 10 => .inl (G 2, 60, .inl (tI τ 0))
  | 11 => .inl (G 0, 60, .inl (tI τ 1))
  | 12 => .inl (G 0, 60, .inl (tI τ 3))
  | 13 => .inl (G 0, 40, .inl (tI τ 4))
  | 14 => .inl (G 6, 4, .inr (.inr (.inr (.inr (fun j => some (ad (15 + j)))))))
  | 15 => .inl (G 0, 400, .inl (tI τ 5))
  | 16 => .inl (G 0, 400, .inl (tI τ 6))
  | 17 => .inl (G 0, 400, .inl (tI τ 7))
  | 18 => .inl (G 0, 400, .inl (tI τ 8))
  | 19 => .inl (G 0, 400, .inl (tI τ 9))
  | _ => .inl (G 0, 20, .inl (tI τ 10))
/-- the system's cells: 21.. pieces, 61.. pairs, 69.. works, 129.. the works' own arrays -/
def CE (G : Nat → ClassId) (ad : Nat → Nat) (σ τ : Tb) (k : Nat) : va_E := if k < 21 then CE0 G ad σ τ k else if k < 61 then .inr (2, FP σ ((k - 21 : Nat) : Int)) else if k < 69 then .inr (1, FR σ ((k - 61 : Nat) : Int)) else if k < 129 then .inr (7, FW ad σ ((k - 69 : Nat) : Int)) else .inl (G 0, 4, .inl (tQ σ ((k - 129 : Nat) : Int)))
section ST
variable {G : Nat → ClassId} {ad : Nat → Nat} {σ τ : Tb}
theorem CE_0 : CE G ad σ τ 0 = .inr (8, [.ref (ad 1), .ref (ad 2), .ref (ad 3), .ref (ad 4), .ref (ad 5), .int (iI (σ 0 4)), .int (iI (σ 0 5)), .int (iI (σ 0 6))]) := rfl
theorem CE_1 : CE G ad σ τ 1 = .inr (5, [.ref (ad 6), .ref (ad 7), .ref (ad 8), .ref (ad 9), .int (iI (σ 0 0)), .int (iI (σ 0 1)), .int (iI (σ 0 2)), .int (iI (σ 0 3))]) := rfl
theorem CE_2 : CE G ad σ τ 2 = .inr (0, [.ref (ad 1), .ref (ad 10), .ref (ad 11), .int (iI (τ 2 0)), .ref (ad 12), .int (iI (τ 2 1)), .ref (ad 13), .ref (ad 14), .ref (ad 19)]) := rfl
theorem CE_3 : CE G ad σ τ 3 = .inr (6, [.ref (ad 1), .ref (ad 20)]) := rfl
theorem CE_4 : CE G ad σ τ 4 = .inr (3, [.ref (ad 1), .ref (ad 2), .ref (ad 3), .int (iI (τ 2 2)), .int (iI (τ 2 3))]) := rfl
theorem CE_5 : CE G ad σ τ 5 = .inr (4, [.ref (ad 1), .ref (ad 4), .int (iI (τ 2 4))]) := rfl
theorem CE_6 : CE G ad σ τ 6 = .inl (G 4, 40, .inr (.inr (.inr (.inr (fun j => some (ad (21 + j))))))) := rfl
theorem CE_7 : CE G ad σ τ 7 = .inl (G 3, 8, .inr (.inr (.inr (.inr (fun j => some (ad (61 + j))))))) := rfl
theorem CE_8 : CE G ad σ τ 8 = .inl (G 5, 60, .inr (.inr (.inr (.inr (fun j => some (ad (69 + j))))))) := rfl
theorem CE_9 : CE G ad σ τ 9 = .inl (G 2, 400, .inl (tI σ 10)) := rfl
theorem CE_10 : CE G ad σ τ 10 = .inl (G 2, 60, .inl (tI τ 0)) := rfl
theorem CE_11 : CE G ad σ τ 11 = .inl (G 0, 60, .inl (tI τ 1)) := rfl
theorem CE_12 : CE G ad σ τ 12 = .inl (G 0, 60, .inl (tI τ 3)) := rfl
theorem CE_13 : CE G ad σ τ 13 = .inl (G 0, 40, .inl (tI τ 4)) := rfl
theorem CE_14 : CE G ad σ τ 14 = .inl (G 6, 4, .inr (.inr (.inr (.inr (fun j => some (ad (15 + j))))))) := rfl
theorem CE_15 : CE G ad σ τ 15 = .inl (G 0, 400, .inl (tI τ 5)) := rfl
theorem CE_16 : CE G ad σ τ 16 = .inl (G 0, 400, .inl (tI τ 6)) := rfl
theorem CE_17 : CE G ad σ τ 17 = .inl (G 0, 400, .inl (tI τ 7)) := rfl
theorem CE_18 : CE G ad σ τ 18 = .inl (G 0, 400, .inl (tI τ 8)) := rfl
theorem CE_19 : CE G ad σ τ 19 = .inl (G 0, 400, .inl (tI τ 9)) := rfl
theorem CE_20 : CE G ad σ τ 20 = .inl (G 0, 20, .inl (tI τ 10)) := rfl
theorem CE_p {i : Int} (h : 0 ≤ i ∧ i < 40) : CE G ad σ τ (21 + i.toNat) = .inr (2, FP σ i) := by
  unfold CE
  rw [if_neg (by omega), if_pos (by omega), show (((21 + i.toNat - 21 : Nat)) : Int) = i by omega]
theorem CE_r {i : Int} (h : 0 ≤ i ∧ i < 8) : CE G ad σ τ (61 + i.toNat) = .inr (1, FR σ i) := by
  unfold CE
  rw [if_neg (by omega), if_neg (by omega), if_pos (by omega), show (((61 + i.toNat - 61 : Nat)) : Int) = i by omega]
theorem CE_w {i : Int} (h : 0 ≤ i ∧ i < 60) : CE G ad σ τ (69 + i.toNat) = .inr (7, FW ad σ i) := by
  unfold CE
  rw [if_neg (by omega), if_neg (by omega), if_neg (by omega), if_pos (by omega), show (((69 + i.toNat - 69 : Nat)) : Int) = i by omega]
theorem CE_q {i : Int} (h : 0 ≤ i ∧ i < 60) : CE G ad σ τ (129 + i.toNat) = .inl (G 0, 4, .inl (tQ σ i)) := by
  unfold CE
  rw [if_neg (by omega), if_neg (by omega), if_neg (by omega), if_neg (by omega), show (((129 + i.toNat - 129 : Nat)) : Int) = i by omega]
theorem CE_ext {σ' τ' : Tb} {key : Nat} {e : va_E} (h0 : ∀ k, k < 21 → k ≠ key → CE0 G ad σ τ k = CE0 G ad σ' τ' k) (hp : ∀ i : Int, 0 ≤ i → i < 40 → 21 + i.toNat ≠ key → FP σ i = FP σ' i) (hr : ∀ i : Int, 0 ≤ i → i < 8 → 61 + i.toNat ≠ key → FR σ i = FR σ' i) (hw : ∀ i : Int, 0 ≤ i → i < 60 → 69 + i.toNat ≠ key → FW ad σ i = FW ad σ' i) (hq : ∀ i : Int, 0 ≤ i → 129 + i.toNat ≠ key → tQ σ i = tQ σ' i) (he : CE G ad σ' τ' key = e) : va_up (CE G ad σ τ) key e = CE G ad σ' τ' := by
  funext k
  by_cases hk : k = key
  · subst hk
    rw [va_up_self, he]
  · rw [va_up_ne _ _ hk]
    unfold CE
    by_cases h1 : k < 21
    · rw [if_pos h1, if_pos h1, h0 k h1 hk]
    · rw [if_neg h1, if_neg h1]
      by_cases h2 : k < 61
      · rw [if_pos h2, if_pos h2, hp _ (by omega) (by omega) (by omega)]
      · rw [if_neg h2, if_neg h2]
        by_cases h3 : k < 69
        · rw [if_pos h3, if_pos h3, hr _ (by omega) (by omega) (by omega)]
        · rw [if_neg h3, if_neg h3]
          by_cases h4 : k < 129
          · rw [if_pos h4, if_pos h4, hw _ (by omega) (by omega) (by omega)]
          · rw [if_neg h4, if_neg h4, hq _ (by omega) (by omega)]
theorem cu_whyKnown {v : Int} : va_up (CE G ad σ τ) 0 (.inr (8, ([.ref (ad 1), .ref (ad 2), .ref (ad 3), .ref (ad 4), .ref (ad 5), .int (iI (σ 0 4)), .int (iI (σ 0 5)), .int (iI (σ 0 6))] : List Value).set 5 (.int (iI v)))) = CE G ad (up σ 0 4 v) τ := by
  refine CE_ext (fun k hk hne => ?_) (fun i _ _ _ => ?_) (fun i _ _ _ => ?_) (fun i _ _ _ => ?_) (fun i _ _ => ?_) ?_
  · rcases (show k = 0 ∨ k = 1 ∨ k = 2 ∨ k = 3 ∨ k = 4 ∨ k = 5 ∨ k = 6 ∨ k = 7 ∨ k = 8 ∨ k = 9 ∨ k = 10 ∨ k = 11 ∨ k = 12 ∨ k = 13 ∨ k = 14 ∨ k = 15 ∨ k = 16 ∨ k = 17 ∨ k = 18 ∨ k = 19 ∨ k = 20 by omega) with rfl | rfl | rfl | rfl | rfl | rfl | rfl | rfl | rfl | rfl | rfl | rfl | rfl | rfl | rfl | rfl | rfl | rfl | rfl | rfl | rfl <;> first | exact absurd rfl hne | rfl | (simp only [CE0]; simp [tI, up]; done)
  · first | rfl | simp [FP, up]
  · first | rfl | simp [FR, up]
  · first | rfl | simp [FW, up]
  · first | rfl | (funext j; simp [tQ, up])
  · rw [CE_0]; simp [up]
theorem cu_whyDay {v : Int} : va_up (CE G ad σ τ) 0 (.inr (8, ([.ref (ad 1), .ref (ad 2), .ref (ad 3), .ref (ad 4), .ref (ad 5), .int (iI (σ 0 4)), .int (iI (σ 0 5)), .int (iI (σ 0 6))] : List Value).set 6 (.int (iI v)))) = CE G ad (up σ 0 5 v) τ := by
  refine CE_ext (fun k hk hne => ?_) (fun i _ _ _ => ?_) (fun i _ _ _ => ?_) (fun i _ _ _ => ?_) (fun i _ _ => ?_) ?_
  · rcases (show k = 0 ∨ k = 1 ∨ k = 2 ∨ k = 3 ∨ k = 4 ∨ k = 5 ∨ k = 6 ∨ k = 7 ∨ k = 8 ∨ k = 9 ∨ k = 10 ∨ k = 11 ∨ k = 12 ∨ k = 13 ∨ k = 14 ∨ k = 15 ∨ k = 16 ∨ k = 17 ∨ k = 18 ∨ k = 19 ∨ k = 20 by omega) with rfl | rfl | rfl | rfl | rfl | rfl | rfl | rfl | rfl | rfl | rfl | rfl | rfl | rfl | rfl | rfl | rfl | rfl | rfl | rfl | rfl <;> first | exact absurd rfl hne | rfl | (simp only [CE0]; simp [tI, up]; done)
  · first | rfl | simp [FP, up]
  · first | rfl | simp [FR, up]
  · first | rfl | simp [FW, up]
  · first | rfl | (funext j; simp [tQ, up])
  · rw [CE_0]; simp [up]
theorem cu_whyPlace {v : Int} : va_up (CE G ad σ τ) 0 (.inr (8, ([.ref (ad 1), .ref (ad 2), .ref (ad 3), .ref (ad 4), .ref (ad 5), .int (iI (σ 0 4)), .int (iI (σ 0 5)), .int (iI (σ 0 6))] : List Value).set 7 (.int (iI v)))) = CE G ad (up σ 0 6 v) τ := by
  refine CE_ext (fun k hk hne => ?_) (fun i _ _ _ => ?_) (fun i _ _ _ => ?_) (fun i _ _ _ => ?_) (fun i _ _ => ?_) ?_
  · rcases (show k = 0 ∨ k = 1 ∨ k = 2 ∨ k = 3 ∨ k = 4 ∨ k = 5 ∨ k = 6 ∨ k = 7 ∨ k = 8 ∨ k = 9 ∨ k = 10 ∨ k = 11 ∨ k = 12 ∨ k = 13 ∨ k = 14 ∨ k = 15 ∨ k = 16 ∨ k = 17 ∨ k = 18 ∨ k = 19 ∨ k = 20 by omega) with rfl | rfl | rfl | rfl | rfl | rfl | rfl | rfl | rfl | rfl | rfl | rfl | rfl | rfl | rfl | rfl | rfl | rfl | rfl | rfl | rfl <;> first | exact absurd rfl hne | rfl | (simp only [CE0]; simp [tI, up]; done)
  · first | rfl | simp [FP, up]
  · first | rfl | simp [FR, up]
  · first | rfl | simp [FW, up]
  · first | rfl | (funext j; simp [tQ, up])
  · rw [CE_0]; simp [up]
theorem cu_pieceCount {v : Int} : va_up (CE G ad σ τ) 1 (.inr (5, ([.ref (ad 6), .ref (ad 7), .ref (ad 8), .ref (ad 9), .int (iI (σ 0 0)), .int (iI (σ 0 1)), .int (iI (σ 0 2)), .int (iI (σ 0 3))] : List Value).set 4 (.int (iI v)))) = CE G ad (up σ 0 0 v) τ := by
  refine CE_ext (fun k hk hne => ?_) (fun i _ _ _ => ?_) (fun i _ _ _ => ?_) (fun i _ _ _ => ?_) (fun i _ _ => ?_) ?_
  · rcases (show k = 0 ∨ k = 1 ∨ k = 2 ∨ k = 3 ∨ k = 4 ∨ k = 5 ∨ k = 6 ∨ k = 7 ∨ k = 8 ∨ k = 9 ∨ k = 10 ∨ k = 11 ∨ k = 12 ∨ k = 13 ∨ k = 14 ∨ k = 15 ∨ k = 16 ∨ k = 17 ∨ k = 18 ∨ k = 19 ∨ k = 20 by omega) with rfl | rfl | rfl | rfl | rfl | rfl | rfl | rfl | rfl | rfl | rfl | rfl | rfl | rfl | rfl | rfl | rfl | rfl | rfl | rfl | rfl <;> first | exact absurd rfl hne | rfl | (simp only [CE0]; simp [tI, up]; done)
  · first | rfl | simp [FP, up]
  · first | rfl | simp [FR, up]
  · first | rfl | simp [FW, up]
  · first | rfl | (funext j; simp [tQ, up])
  · rw [CE_1]; simp [up]
theorem cu_pairCount {v : Int} : va_up (CE G ad σ τ) 1 (.inr (5, ([.ref (ad 6), .ref (ad 7), .ref (ad 8), .ref (ad 9), .int (iI (σ 0 0)), .int (iI (σ 0 1)), .int (iI (σ 0 2)), .int (iI (σ 0 3))] : List Value).set 5 (.int (iI v)))) = CE G ad (up σ 0 1 v) τ := by
  refine CE_ext (fun k hk hne => ?_) (fun i _ _ _ => ?_) (fun i _ _ _ => ?_) (fun i _ _ _ => ?_) (fun i _ _ => ?_) ?_
  · rcases (show k = 0 ∨ k = 1 ∨ k = 2 ∨ k = 3 ∨ k = 4 ∨ k = 5 ∨ k = 6 ∨ k = 7 ∨ k = 8 ∨ k = 9 ∨ k = 10 ∨ k = 11 ∨ k = 12 ∨ k = 13 ∨ k = 14 ∨ k = 15 ∨ k = 16 ∨ k = 17 ∨ k = 18 ∨ k = 19 ∨ k = 20 by omega) with rfl | rfl | rfl | rfl | rfl | rfl | rfl | rfl | rfl | rfl | rfl | rfl | rfl | rfl | rfl | rfl | rfl | rfl | rfl | rfl | rfl <;> first | exact absurd rfl hne | rfl | (simp only [CE0]; simp [tI, up]; done)
  · first | rfl | simp [FP, up]
  · first | rfl | simp [FR, up]
  · first | rfl | simp [FW, up]
  · first | rfl | (funext j; simp [tQ, up])
  · rw [CE_1]; simp [up]
theorem cu_workCount {v : Int} : va_up (CE G ad σ τ) 1 (.inr (5, ([.ref (ad 6), .ref (ad 7), .ref (ad 8), .ref (ad 9), .int (iI (σ 0 0)), .int (iI (σ 0 1)), .int (iI (σ 0 2)), .int (iI (σ 0 3))] : List Value).set 6 (.int (iI v)))) = CE G ad (up σ 0 2 v) τ := by
  refine CE_ext (fun k hk hne => ?_) (fun i _ _ _ => ?_) (fun i _ _ _ => ?_) (fun i _ _ _ => ?_) (fun i _ _ => ?_) ?_
  · rcases (show k = 0 ∨ k = 1 ∨ k = 2 ∨ k = 3 ∨ k = 4 ∨ k = 5 ∨ k = 6 ∨ k = 7 ∨ k = 8 ∨ k = 9 ∨ k = 10 ∨ k = 11 ∨ k = 12 ∨ k = 13 ∨ k = 14 ∨ k = 15 ∨ k = 16 ∨ k = 17 ∨ k = 18 ∨ k = 19 ∨ k = 20 by omega) with rfl | rfl | rfl | rfl | rfl | rfl | rfl | rfl | rfl | rfl | rfl | rfl | rfl | rfl | rfl | rfl | rfl | rfl | rfl | rfl | rfl <;> first | exact absurd rfl hne | rfl | (simp only [CE0]; simp [tI, up]; done)
  · first | rfl | simp [FP, up]
  · first | rfl | simp [FR, up]
  · first | rfl | simp [FW, up]
  · first | rfl | (funext j; simp [tQ, up])
  · rw [CE_1]; simp [up]
theorem cu_today {v : Int} : va_up (CE G ad σ τ) 1 (.inr (5, ([.ref (ad 6), .ref (ad 7), .ref (ad 8), .ref (ad 9), .int (iI (σ 0 0)), .int (iI (σ 0 1)), .int (iI (σ 0 2)), .int (iI (σ 0 3))] : List Value).set 7 (.int (iI v)))) = CE G ad (up σ 0 3 v) τ := by
  refine CE_ext (fun k hk hne => ?_) (fun i _ _ _ => ?_) (fun i _ _ _ => ?_) (fun i _ _ _ => ?_) (fun i _ _ => ?_) ?_
  · rcases (show k = 0 ∨ k = 1 ∨ k = 2 ∨ k = 3 ∨ k = 4 ∨ k = 5 ∨ k = 6 ∨ k = 7 ∨ k = 8 ∨ k = 9 ∨ k = 10 ∨ k = 11 ∨ k = 12 ∨ k = 13 ∨ k = 14 ∨ k = 15 ∨ k = 16 ∨ k = 17 ∨ k = 18 ∨ k = 19 ∨ k = 20 by omega) with rfl | rfl | rfl | rfl | rfl | rfl | rfl | rfl | rfl | rfl | rfl | rfl | rfl | rfl | rfl | rfl | rfl | rfl | rfl | rfl | rfl <;> first | exact absurd rfl hne | rfl | (simp only [CE0]; simp [tI, up]; done)
  · first | rfl | simp [FP, up]
  · first | rfl | simp [FR, up]
  · first | rfl | simp [FW, up]
  · first | rfl | (funext j; simp [tQ, up])
  · rw [CE_1]; simp [up]
theorem cu_memberCount {v : Int} : va_up (CE G ad σ τ) 2 (.inr (0, ([.ref (ad 1), .ref (ad 10), .ref (ad 11), .int (iI (τ 2 0)), .ref (ad 12), .int (iI (τ 2 1)), .ref (ad 13), .ref (ad 14), .ref (ad 19)] : List Value).set 3 (.int (iI v)))) = CE G ad σ (up τ 2 0 v) := by
  refine CE_ext (fun k hk hne => ?_) (fun i _ _ _ => ?_) (fun i _ _ _ => ?_) (fun i _ _ _ => ?_) (fun i _ _ => ?_) ?_
  · rcases (show k = 0 ∨ k = 1 ∨ k = 2 ∨ k = 3 ∨ k = 4 ∨ k = 5 ∨ k = 6 ∨ k = 7 ∨ k = 8 ∨ k = 9 ∨ k = 10 ∨ k = 11 ∨ k = 12 ∨ k = 13 ∨ k = 14 ∨ k = 15 ∨ k = 16 ∨ k = 17 ∨ k = 18 ∨ k = 19 ∨ k = 20 by omega) with rfl | rfl | rfl | rfl | rfl | rfl | rfl | rfl | rfl | rfl | rfl | rfl | rfl | rfl | rfl | rfl | rfl | rfl | rfl | rfl | rfl <;> first | exact absurd rfl hne | rfl | (simp only [CE0]; simp [tI, up]; done)
  · first | rfl | simp [FP, up]
  · first | rfl | simp [FR, up]
  · first | rfl | simp [FW, up]
  · first | rfl | (funext j; simp [tQ, up])
  · rw [CE_2]; simp [up]
theorem cu_nearCount {v : Int} : va_up (CE G ad σ τ) 2 (.inr (0, ([.ref (ad 1), .ref (ad 10), .ref (ad 11), .int (iI (τ 2 0)), .ref (ad 12), .int (iI (τ 2 1)), .ref (ad 13), .ref (ad 14), .ref (ad 19)] : List Value).set 5 (.int (iI v)))) = CE G ad σ (up τ 2 1 v) := by
  refine CE_ext (fun k hk hne => ?_) (fun i _ _ _ => ?_) (fun i _ _ _ => ?_) (fun i _ _ _ => ?_) (fun i _ _ => ?_) ?_
  · rcases (show k = 0 ∨ k = 1 ∨ k = 2 ∨ k = 3 ∨ k = 4 ∨ k = 5 ∨ k = 6 ∨ k = 7 ∨ k = 8 ∨ k = 9 ∨ k = 10 ∨ k = 11 ∨ k = 12 ∨ k = 13 ∨ k = 14 ∨ k = 15 ∨ k = 16 ∨ k = 17 ∨ k = 18 ∨ k = 19 ∨ k = 20 by omega) with rfl | rfl | rfl | rfl | rfl | rfl | rfl | rfl | rfl | rfl | rfl | rfl | rfl | rfl | rfl | rfl | rfl | rfl | rfl | rfl | rfl <;> first | exact absurd rfl hne | rfl | (simp only [CE0]; simp [tI, up]; done)
  · first | rfl | simp [FP, up]
  · first | rfl | simp [FR, up]
  · first | rfl | simp [FW, up]
  · first | rfl | (funext j; simp [tQ, up])
  · rw [CE_2]; simp [up]
theorem cu_foundDay {v : Int} : va_up (CE G ad σ τ) 4 (.inr (3, ([.ref (ad 1), .ref (ad 2), .ref (ad 3), .int (iI (τ 2 2)), .int (iI (τ 2 3))] : List Value).set 3 (.int (iI v)))) = CE G ad σ (up τ 2 2 v) := by
  refine CE_ext (fun k hk hne => ?_) (fun i _ _ _ => ?_) (fun i _ _ _ => ?_) (fun i _ _ _ => ?_) (fun i _ _ => ?_) ?_
  · rcases (show k = 0 ∨ k = 1 ∨ k = 2 ∨ k = 3 ∨ k = 4 ∨ k = 5 ∨ k = 6 ∨ k = 7 ∨ k = 8 ∨ k = 9 ∨ k = 10 ∨ k = 11 ∨ k = 12 ∨ k = 13 ∨ k = 14 ∨ k = 15 ∨ k = 16 ∨ k = 17 ∨ k = 18 ∨ k = 19 ∨ k = 20 by omega) with rfl | rfl | rfl | rfl | rfl | rfl | rfl | rfl | rfl | rfl | rfl | rfl | rfl | rfl | rfl | rfl | rfl | rfl | rfl | rfl | rfl <;> first | exact absurd rfl hne | rfl | (simp only [CE0]; simp [tI, up]; done)
  · first | rfl | simp [FP, up]
  · first | rfl | simp [FR, up]
  · first | rfl | simp [FW, up]
  · first | rfl | (funext j; simp [tQ, up])
  · rw [CE_4]; simp [up]
theorem cu_foundPlace {v : Int} : va_up (CE G ad σ τ) 4 (.inr (3, ([.ref (ad 1), .ref (ad 2), .ref (ad 3), .int (iI (τ 2 2)), .int (iI (τ 2 3))] : List Value).set 4 (.int (iI v)))) = CE G ad σ (up τ 2 3 v) := by
  refine CE_ext (fun k hk hne => ?_) (fun i _ _ _ => ?_) (fun i _ _ _ => ?_) (fun i _ _ _ => ?_) (fun i _ _ => ?_) ?_
  · rcases (show k = 0 ∨ k = 1 ∨ k = 2 ∨ k = 3 ∨ k = 4 ∨ k = 5 ∨ k = 6 ∨ k = 7 ∨ k = 8 ∨ k = 9 ∨ k = 10 ∨ k = 11 ∨ k = 12 ∨ k = 13 ∨ k = 14 ∨ k = 15 ∨ k = 16 ∨ k = 17 ∨ k = 18 ∨ k = 19 ∨ k = 20 by omega) with rfl | rfl | rfl | rfl | rfl | rfl | rfl | rfl | rfl | rfl | rfl | rfl | rfl | rfl | rfl | rfl | rfl | rfl | rfl | rfl | rfl <;> first | exact absurd rfl hne | rfl | (simp only [CE0]; simp [tI, up]; done)
  · first | rfl | simp [FP, up]
  · first | rfl | simp [FR, up]
  · first | rfl | simp [FW, up]
  · first | rfl | (funext j; simp [tQ, up])
  · rw [CE_4]; simp [up]
theorem cu_breaker {v : Int} : va_up (CE G ad σ τ) 5 (.inr (4, ([.ref (ad 1), .ref (ad 4), .int (iI (τ 2 4))] : List Value).set 2 (.int (iI v)))) = CE G ad σ (up τ 2 4 v) := by
  refine CE_ext (fun k hk hne => ?_) (fun i _ _ _ => ?_) (fun i _ _ _ => ?_) (fun i _ _ _ => ?_) (fun i _ _ => ?_) ?_
  · rcases (show k = 0 ∨ k = 1 ∨ k = 2 ∨ k = 3 ∨ k = 4 ∨ k = 5 ∨ k = 6 ∨ k = 7 ∨ k = 8 ∨ k = 9 ∨ k = 10 ∨ k = 11 ∨ k = 12 ∨ k = 13 ∨ k = 14 ∨ k = 15 ∨ k = 16 ∨ k = 17 ∨ k = 18 ∨ k = 19 ∨ k = 20 by omega) with rfl | rfl | rfl | rfl | rfl | rfl | rfl | rfl | rfl | rfl | rfl | rfl | rfl | rfl | rfl | rfl | rfl | rfl | rfl | rfl | rfl <;> first | exact absurd rfl hne | rfl | (simp only [CE0]; simp [tI, up]; done)
  · first | rfl | simp [FP, up]
  · first | rfl | simp [FR, up]
  · first | rfl | simp [FW, up]
  · first | rfl | (funext j; simp [tQ, up])
  · rw [CE_5]; simp [up]
theorem cu_feast {z v : Int} (h : 0 ≤ z) : va_up (CE G ad σ τ) 9 (.inl (G 2, 400, .inl (upd (tI σ 10) z.toNat (iI v)))) = CE G ad (up σ 10 z v) τ := by
  refine CE_ext (fun k hk hne => ?_) (fun i _ _ _ => ?_) (fun i _ _ _ => ?_) (fun i _ _ _ => ?_) (fun i _ _ => ?_) ?_
  · rcases (show k = 0 ∨ k = 1 ∨ k = 2 ∨ k = 3 ∨ k = 4 ∨ k = 5 ∨ k = 6 ∨ k = 7 ∨ k = 8 ∨ k = 9 ∨ k = 10 ∨ k = 11 ∨ k = 12 ∨ k = 13 ∨ k = 14 ∨ k = 15 ∨ k = 16 ∨ k = 17 ∨ k = 18 ∨ k = 19 ∨ k = 20 by omega) with rfl | rfl | rfl | rfl | rfl | rfl | rfl | rfl | rfl | rfl | rfl | rfl | rfl | rfl | rfl | rfl | rfl | rfl | rfl | rfl | rfl <;> first | exact absurd rfl hne | rfl | (simp only [CE0]; simp [up]; done) | (simp only [CE0]; rw [tI_o (by decide)])
  · first | rfl | simp [FP, up]
  · first | rfl | simp [FR, up]
  · first | rfl | simp [FW, up]
  · first | rfl | (funext j; simp [tQ, up, show 25 + j ≠ 10 by omega])
  · rw [CE_9, tI_up h]
theorem cu_counted {z v : Int} (h : 0 ≤ z) : va_up (CE G ad σ τ) 10 (.inl (G 2, 60, .inl (upd (tI τ 0) z.toNat (iI v)))) = CE G ad σ (up τ 0 z v) := by
  refine CE_ext (fun k hk hne => ?_) (fun i _ _ _ => ?_) (fun i _ _ _ => ?_) (fun i _ _ _ => ?_) (fun i _ _ => ?_) ?_
  · rcases (show k = 0 ∨ k = 1 ∨ k = 2 ∨ k = 3 ∨ k = 4 ∨ k = 5 ∨ k = 6 ∨ k = 7 ∨ k = 8 ∨ k = 9 ∨ k = 10 ∨ k = 11 ∨ k = 12 ∨ k = 13 ∨ k = 14 ∨ k = 15 ∨ k = 16 ∨ k = 17 ∨ k = 18 ∨ k = 19 ∨ k = 20 by omega) with rfl | rfl | rfl | rfl | rfl | rfl | rfl | rfl | rfl | rfl | rfl | rfl | rfl | rfl | rfl | rfl | rfl | rfl | rfl | rfl | rfl <;> first | exact absurd rfl hne | rfl | (simp only [CE0]; simp [up]; done) | (simp only [CE0]; rw [tI_o (by decide)])
  · first | rfl | simp [FP, up]
  · first | rfl | simp [FR, up]
  · first | rfl | simp [FW, up]
  · first | rfl | (funext j; simp [tQ, up, show 25 + j ≠ 10 by omega])
  · rw [CE_10, tI_up h]
theorem cu_members {z v : Int} (h : 0 ≤ z) : va_up (CE G ad σ τ) 11 (.inl (G 0, 60, .inl (upd (tI τ 1) z.toNat (iI v)))) = CE G ad σ (up τ 1 z v) := by
  refine CE_ext (fun k hk hne => ?_) (fun i _ _ _ => ?_) (fun i _ _ _ => ?_) (fun i _ _ _ => ?_) (fun i _ _ => ?_) ?_
  · rcases (show k = 0 ∨ k = 1 ∨ k = 2 ∨ k = 3 ∨ k = 4 ∨ k = 5 ∨ k = 6 ∨ k = 7 ∨ k = 8 ∨ k = 9 ∨ k = 10 ∨ k = 11 ∨ k = 12 ∨ k = 13 ∨ k = 14 ∨ k = 15 ∨ k = 16 ∨ k = 17 ∨ k = 18 ∨ k = 19 ∨ k = 20 by omega) with rfl | rfl | rfl | rfl | rfl | rfl | rfl | rfl | rfl | rfl | rfl | rfl | rfl | rfl | rfl | rfl | rfl | rfl | rfl | rfl | rfl <;> first | exact absurd rfl hne | rfl | (simp only [CE0]; simp [up]; done) | (simp only [CE0]; rw [tI_o (by decide)])
  · first | rfl | simp [FP, up]
  · first | rfl | simp [FR, up]
  · first | rfl | simp [FW, up]
  · first | rfl | (funext j; simp [tQ, up, show 25 + j ≠ 10 by omega])
  · rw [CE_11, tI_up h]
theorem cu_near {z v : Int} (h : 0 ≤ z) : va_up (CE G ad σ τ) 12 (.inl (G 0, 60, .inl (upd (tI τ 3) z.toNat (iI v)))) = CE G ad σ (up τ 3 z v) := by
  refine CE_ext (fun k hk hne => ?_) (fun i _ _ _ => ?_) (fun i _ _ _ => ?_) (fun i _ _ _ => ?_) (fun i _ _ => ?_) ?_
  · rcases (show k = 0 ∨ k = 1 ∨ k = 2 ∨ k = 3 ∨ k = 4 ∨ k = 5 ∨ k = 6 ∨ k = 7 ∨ k = 8 ∨ k = 9 ∨ k = 10 ∨ k = 11 ∨ k = 12 ∨ k = 13 ∨ k = 14 ∨ k = 15 ∨ k = 16 ∨ k = 17 ∨ k = 18 ∨ k = 19 ∨ k = 20 by omega) with rfl | rfl | rfl | rfl | rfl | rfl | rfl | rfl | rfl | rfl | rfl | rfl | rfl | rfl | rfl | rfl | rfl | rfl | rfl | rfl | rfl <;> first | exact absurd rfl hne | rfl | (simp only [CE0]; simp [up]; done) | (simp only [CE0]; rw [tI_o (by decide)])
  · first | rfl | simp [FP, up]
  · first | rfl | simp [FR, up]
  · first | rfl | simp [FW, up]
  · first | rfl | (funext j; simp [tQ, up, show 25 + j ≠ 10 by omega])
  · rw [CE_12, tI_up h]
theorem cu_taken {z v : Int} (h : 0 ≤ z) : va_up (CE G ad σ τ) 13 (.inl (G 0, 40, .inl (upd (tI τ 4) z.toNat (iI v)))) = CE G ad σ (up τ 4 z v) := by
  refine CE_ext (fun k hk hne => ?_) (fun i _ _ _ => ?_) (fun i _ _ _ => ?_) (fun i _ _ _ => ?_) (fun i _ _ => ?_) ?_
  · rcases (show k = 0 ∨ k = 1 ∨ k = 2 ∨ k = 3 ∨ k = 4 ∨ k = 5 ∨ k = 6 ∨ k = 7 ∨ k = 8 ∨ k = 9 ∨ k = 10 ∨ k = 11 ∨ k = 12 ∨ k = 13 ∨ k = 14 ∨ k = 15 ∨ k = 16 ∨ k = 17 ∨ k = 18 ∨ k = 19 ∨ k = 20 by omega) with rfl | rfl | rfl | rfl | rfl | rfl | rfl | rfl | rfl | rfl | rfl | rfl | rfl | rfl | rfl | rfl | rfl | rfl | rfl | rfl | rfl <;> first | exact absurd rfl hne | rfl | (simp only [CE0]; simp [up]; done) | (simp only [CE0]; rw [tI_o (by decide)])
  · first | rfl | simp [FP, up]
  · first | rfl | simp [FR, up]
  · first | rfl | simp [FW, up]
  · first | rfl | (funext j; simp [tQ, up, show 25 + j ≠ 10 by omega])
  · rw [CE_13, tI_up h]
theorem cu_beside0 {z v : Int} (h : 0 ≤ z) : va_up (CE G ad σ τ) 15 (.inl (G 0, 400, .inl (upd (tI τ 5) z.toNat (iI v)))) = CE G ad σ (up τ 5 z v) := by
  refine CE_ext (fun k hk hne => ?_) (fun i _ _ _ => ?_) (fun i _ _ _ => ?_) (fun i _ _ _ => ?_) (fun i _ _ => ?_) ?_
  · rcases (show k = 0 ∨ k = 1 ∨ k = 2 ∨ k = 3 ∨ k = 4 ∨ k = 5 ∨ k = 6 ∨ k = 7 ∨ k = 8 ∨ k = 9 ∨ k = 10 ∨ k = 11 ∨ k = 12 ∨ k = 13 ∨ k = 14 ∨ k = 15 ∨ k = 16 ∨ k = 17 ∨ k = 18 ∨ k = 19 ∨ k = 20 by omega) with rfl | rfl | rfl | rfl | rfl | rfl | rfl | rfl | rfl | rfl | rfl | rfl | rfl | rfl | rfl | rfl | rfl | rfl | rfl | rfl | rfl <;> first | exact absurd rfl hne | rfl | (simp only [CE0]; simp [up]; done) | (simp only [CE0]; rw [tI_o (by decide)])
  · first | rfl | simp [FP, up]
  · first | rfl | simp [FR, up]
  · first | rfl | simp [FW, up]
  · first | rfl | (funext j; simp [tQ, up, show 25 + j ≠ 10 by omega])
  · rw [CE_15, tI_up h]
theorem cu_beside1 {z v : Int} (h : 0 ≤ z) : va_up (CE G ad σ τ) 16 (.inl (G 0, 400, .inl (upd (tI τ 6) z.toNat (iI v)))) = CE G ad σ (up τ 6 z v) := by
  refine CE_ext (fun k hk hne => ?_) (fun i _ _ _ => ?_) (fun i _ _ _ => ?_) (fun i _ _ _ => ?_) (fun i _ _ => ?_) ?_
  · rcases (show k = 0 ∨ k = 1 ∨ k = 2 ∨ k = 3 ∨ k = 4 ∨ k = 5 ∨ k = 6 ∨ k = 7 ∨ k = 8 ∨ k = 9 ∨ k = 10 ∨ k = 11 ∨ k = 12 ∨ k = 13 ∨ k = 14 ∨ k = 15 ∨ k = 16 ∨ k = 17 ∨ k = 18 ∨ k = 19 ∨ k = 20 by omega) with rfl | rfl | rfl | rfl | rfl | rfl | rfl | rfl | rfl | rfl | rfl | rfl | rfl | rfl | rfl | rfl | rfl | rfl | rfl | rfl | rfl <;> first | exact absurd rfl hne | rfl | (simp only [CE0]; simp [up]; done) | (simp only [CE0]; rw [tI_o (by decide)])
  · first | rfl | simp [FP, up]
  · first | rfl | simp [FR, up]
  · first | rfl | simp [FW, up]
  · first | rfl | (funext j; simp [tQ, up, show 25 + j ≠ 10 by omega])
  · rw [CE_16, tI_up h]
theorem cu_beside2 {z v : Int} (h : 0 ≤ z) : va_up (CE G ad σ τ) 17 (.inl (G 0, 400, .inl (upd (tI τ 7) z.toNat (iI v)))) = CE G ad σ (up τ 7 z v) := by
  refine CE_ext (fun k hk hne => ?_) (fun i _ _ _ => ?_) (fun i _ _ _ => ?_) (fun i _ _ _ => ?_) (fun i _ _ => ?_) ?_
  · rcases (show k = 0 ∨ k = 1 ∨ k = 2 ∨ k = 3 ∨ k = 4 ∨ k = 5 ∨ k = 6 ∨ k = 7 ∨ k = 8 ∨ k = 9 ∨ k = 10 ∨ k = 11 ∨ k = 12 ∨ k = 13 ∨ k = 14 ∨ k = 15 ∨ k = 16 ∨ k = 17 ∨ k = 18 ∨ k = 19 ∨ k = 20 by omega) with rfl | rfl | rfl | rfl | rfl | rfl | rfl | rfl | rfl | rfl | rfl | rfl | rfl | rfl | rfl | rfl | rfl | rfl | rfl | rfl | rfl <;> first | exact absurd rfl hne | rfl | (simp only [CE0]; simp [up]; done) | (simp only [CE0]; rw [tI_o (by decide)])
  · first | rfl | simp [FP, up]
  · first | rfl | simp [FR, up]
  · first | rfl | simp [FW, up]
  · first | rfl | (funext j; simp [tQ, up, show 25 + j ≠ 10 by omega])
  · rw [CE_17, tI_up h]
theorem cu_beside3 {z v : Int} (h : 0 ≤ z) : va_up (CE G ad σ τ) 18 (.inl (G 0, 400, .inl (upd (tI τ 8) z.toNat (iI v)))) = CE G ad σ (up τ 8 z v) := by
  refine CE_ext (fun k hk hne => ?_) (fun i _ _ _ => ?_) (fun i _ _ _ => ?_) (fun i _ _ _ => ?_) (fun i _ _ => ?_) ?_
  · rcases (show k = 0 ∨ k = 1 ∨ k = 2 ∨ k = 3 ∨ k = 4 ∨ k = 5 ∨ k = 6 ∨ k = 7 ∨ k = 8 ∨ k = 9 ∨ k = 10 ∨ k = 11 ∨ k = 12 ∨ k = 13 ∨ k = 14 ∨ k = 15 ∨ k = 16 ∨ k = 17 ∨ k = 18 ∨ k = 19 ∨ k = 20 by omega) with rfl | rfl | rfl | rfl | rfl | rfl | rfl | rfl | rfl | rfl | rfl | rfl | rfl | rfl | rfl | rfl | rfl | rfl | rfl | rfl | rfl <;> first | exact absurd rfl hne | rfl | (simp only [CE0]; simp [up]; done) | (simp only [CE0]; rw [tI_o (by decide)])
  · first | rfl | simp [FP, up]
  · first | rfl | simp [FR, up]
  · first | rfl | simp [FW, up]
  · first | rfl | (funext j; simp [tQ, up, show 25 + j ≠ 10 by omega])
  · rw [CE_18, tI_up h]
theorem cu_added {z v : Int} (h : 0 ≤ z) : va_up (CE G ad σ τ) 19 (.inl (G 0, 400, .inl (upd (tI τ 9) z.toNat (iI v)))) = CE G ad σ (up τ 9 z v) := by
  refine CE_ext (fun k hk hne => ?_) (fun i _ _ _ => ?_) (fun i _ _ _ => ?_) (fun i _ _ _ => ?_) (fun i _ _ => ?_) ?_
  · rcases (show k = 0 ∨ k = 1 ∨ k = 2 ∨ k = 3 ∨ k = 4 ∨ k = 5 ∨ k = 6 ∨ k = 7 ∨ k = 8 ∨ k = 9 ∨ k = 10 ∨ k = 11 ∨ k = 12 ∨ k = 13 ∨ k = 14 ∨ k = 15 ∨ k = 16 ∨ k = 17 ∨ k = 18 ∨ k = 19 ∨ k = 20 by omega) with rfl | rfl | rfl | rfl | rfl | rfl | rfl | rfl | rfl | rfl | rfl | rfl | rfl | rfl | rfl | rfl | rfl | rfl | rfl | rfl | rfl <;> first | exact absurd rfl hne | rfl | (simp only [CE0]; simp [up]; done) | (simp only [CE0]; rw [tI_o (by decide)])
  · first | rfl | simp [FP, up]
  · first | rfl | simp [FR, up]
  · first | rfl | simp [FW, up]
  · first | rfl | (funext j; simp [tQ, up, show 25 + j ≠ 10 by omega])
  · rw [CE_19, tI_up h]
theorem cu_minutes {z v : Int} (h : 0 ≤ z) : va_up (CE G ad σ τ) 20 (.inl (G 0, 20, .inl (upd (tI τ 10) z.toNat (iI v)))) = CE G ad σ (up τ 10 z v) := by
  refine CE_ext (fun k hk hne => ?_) (fun i _ _ _ => ?_) (fun i _ _ _ => ?_) (fun i _ _ _ => ?_) (fun i _ _ => ?_) ?_
  · rcases (show k = 0 ∨ k = 1 ∨ k = 2 ∨ k = 3 ∨ k = 4 ∨ k = 5 ∨ k = 6 ∨ k = 7 ∨ k = 8 ∨ k = 9 ∨ k = 10 ∨ k = 11 ∨ k = 12 ∨ k = 13 ∨ k = 14 ∨ k = 15 ∨ k = 16 ∨ k = 17 ∨ k = 18 ∨ k = 19 ∨ k = 20 by omega) with rfl | rfl | rfl | rfl | rfl | rfl | rfl | rfl | rfl | rfl | rfl | rfl | rfl | rfl | rfl | rfl | rfl | rfl | rfl | rfl | rfl <;> first | exact absurd rfl hne | rfl | (simp only [CE0]; simp [up]; done) | (simp only [CE0]; rw [tI_o (by decide)])
  · first | rfl | simp [FP, up]
  · first | rfl | simp [FR, up]
  · first | rfl | simp [FW, up]
  · first | rfl | (funext j; simp [tQ, up, show 25 + j ≠ 10 by omega])
  · rw [CE_20, tI_up h]
theorem cu_beside {k z v : Int} (hk : 0 ≤ k ∧ k < 4) (h : 0 ≤ z) : va_up (CE G ad σ τ) (15 + k.toNat) (.inl (G 0, 400, .inl (upd (tI τ (5 + k.toNat)) z.toNat (iI v)))) = CE G ad σ (up τ (5 + k.toNat) z v) := by
  rcases (show k = 0 ∨ k = 1 ∨ k = 2 ∨ k = 3 by omega) with rfl | rfl | rfl | rfl
  · exact cu_beside0 h
  · exact cu_beside1 h
  · exact cu_beside2 h
  · exact cu_beside3 h
theorem CE_b {k : Int} (hk : 0 ≤ k ∧ k < 4) : CE G ad σ τ (15 + k.toNat) = .inl (G 0, 400, .inl (tI τ (5 + k.toNat))) := by
  rcases (show k = 0 ∨ k = 1 ∨ k = 2 ∨ k = 3 by omega) with rfl | rfl | rfl | rfl <;> rfl
theorem cu_p_from {i : Int} {v : Int} (h : 0 ≤ i ∧ i < 40) : va_up (CE G ad σ τ) (21 + i.toNat) (.inr (2, (FP σ i).set 0 (.int (iI v)))) = CE G ad (up σ 1 i v) τ := by
  refine CE_ext (fun k hk hne => ?_) (fun i' a1 a2 a3 => ?_) (fun i' a1 a2 a3 => ?_) (fun i' a1 a2 a3 => ?_) (fun i' a1 a2 => ?_) ?_
  · rcases (show k = 0 ∨ k = 1 ∨ k = 2 ∨ k = 3 ∨ k = 4 ∨ k = 5 ∨ k = 6 ∨ k = 7 ∨ k = 8 ∨ k = 9 ∨ k = 10 ∨ k = 11 ∨ k = 12 ∨ k = 13 ∨ k = 14 ∨ k = 15 ∨ k = 16 ∨ k = 17 ∨ k = 18 ∨ k = 19 ∨ k = 20 by omega) with rfl | rfl | rfl | rfl | rfl | rfl | rfl | rfl | rfl | rfl | rfl | rfl | rfl | rfl | rfl | rfl | rfl | rfl | rfl | rfl | rfl <;> first | rfl | (simp only [CE0]; simp [up]; done) | (simp only [CE0]; rw [tI_o (by decide)])
  · have h2 : ¬ i' = i := by omega
    simp [FP, up, h2]
  · first | rfl | simp [FR, up]
  · first | rfl | simp [FW, up]
  · first | rfl | (funext j; simp [tQ, up, show 25 + j ≠ 1 by omega])
  · rw [CE_p h]; simp [FP, up]
theorem cu_p_to {i : Int} {v : Int} (h : 0 ≤ i ∧ i < 40) : va_up (CE G ad σ τ) (21 + i.toNat) (.inr (2, (FP σ i).set 1 (.int (iI v)))) = CE G ad (up σ 2 i v) τ := by
  refine CE_ext (fun k hk hne => ?_) (fun i' a1 a2 a3 => ?_) (fun i' a1 a2 a3 => ?_) (fun i' a1 a2 a3 => ?_) (fun i' a1 a2 => ?_) ?_
  · rcases (show k = 0 ∨ k = 1 ∨ k = 2 ∨ k = 3 ∨ k = 4 ∨ k = 5 ∨ k = 6 ∨ k = 7 ∨ k = 8 ∨ k = 9 ∨ k = 10 ∨ k = 11 ∨ k = 12 ∨ k = 13 ∨ k = 14 ∨ k = 15 ∨ k = 16 ∨ k = 17 ∨ k = 18 ∨ k = 19 ∨ k = 20 by omega) with rfl | rfl | rfl | rfl | rfl | rfl | rfl | rfl | rfl | rfl | rfl | rfl | rfl | rfl | rfl | rfl | rfl | rfl | rfl | rfl | rfl <;> first | rfl | (simp only [CE0]; simp [up]; done) | (simp only [CE0]; rw [tI_o (by decide)])
  · have h2 : ¬ i' = i := by omega
    simp [FP, up, h2]
  · first | rfl | simp [FR, up]
  · first | rfl | simp [FW, up]
  · first | rfl | (funext j; simp [tQ, up, show 25 + j ≠ 2 by omega])
  · rw [CE_p h]; simp [FP, up]
theorem cu_p_lanes {i : Int} {v : Int} (h : 0 ≤ i ∧ i < 40) : va_up (CE G ad σ τ) (21 + i.toNat) (.inr (2, (FP σ i).set 2 (.int (iI v)))) = CE G ad (up σ 3 i v) τ := by
  refine CE_ext (fun k hk hne => ?_) (fun i' a1 a2 a3 => ?_) (fun i' a1 a2 a3 => ?_) (fun i' a1 a2 a3 => ?_) (fun i' a1 a2 => ?_) ?_
  · rcases (show k = 0 ∨ k = 1 ∨ k = 2 ∨ k = 3 ∨ k = 4 ∨ k = 5 ∨ k = 6 ∨ k = 7 ∨ k = 8 ∨ k = 9 ∨ k = 10 ∨ k = 11 ∨ k = 12 ∨ k = 13 ∨ k = 14 ∨ k = 15 ∨ k = 16 ∨ k = 17 ∨ k = 18 ∨ k = 19 ∨ k = 20 by omega) with rfl | rfl | rfl | rfl | rfl | rfl | rfl | rfl | rfl | rfl | rfl | rfl | rfl | rfl | rfl | rfl | rfl | rfl | rfl | rfl | rfl <;> first | rfl | (simp only [CE0]; simp [up]; done) | (simp only [CE0]; rw [tI_o (by decide)])
  · have h2 : ¬ i' = i := by omega
    simp [FP, up, h2]
  · first | rfl | simp [FR, up]
  · first | rfl | simp [FW, up]
  · first | rfl | (funext j; simp [tQ, up, show 25 + j ≠ 3 by omega])
  · rw [CE_p h]; simp [FP, up]
theorem cu_p_rank {i : Int} {v : Int} (h : 0 ≤ i ∧ i < 40) : va_up (CE G ad σ τ) (21 + i.toNat) (.inr (2, (FP σ i).set 3 (.int (iI v)))) = CE G ad (up σ 4 i v) τ := by
  refine CE_ext (fun k hk hne => ?_) (fun i' a1 a2 a3 => ?_) (fun i' a1 a2 a3 => ?_) (fun i' a1 a2 a3 => ?_) (fun i' a1 a2 => ?_) ?_
  · rcases (show k = 0 ∨ k = 1 ∨ k = 2 ∨ k = 3 ∨ k = 4 ∨ k = 5 ∨ k = 6 ∨ k = 7 ∨ k = 8 ∨ k = 9 ∨ k = 10 ∨ k = 11 ∨ k = 12 ∨ k = 13 ∨ k = 14 ∨ k = 15 ∨ k = 16 ∨ k = 17 ∨ k = 18 ∨ k = 19 ∨ k = 20 by omega) with rfl | rfl | rfl | rfl | rfl | rfl | rfl | rfl | rfl | rfl | rfl | rfl | rfl | rfl | rfl | rfl | rfl | rfl | rfl | rfl | rfl <;> first | rfl | (simp only [CE0]; simp [up]; done) | (simp only [CE0]; rw [tI_o (by decide)])
  · have h2 : ¬ i' = i := by omega
    simp [FP, up, h2]
  · first | rfl | simp [FR, up]
  · first | rfl | simp [FW, up]
  · first | rfl | (funext j; simp [tQ, up, show 25 + j ≠ 4 by omega])
  · rw [CE_p h]; simp [FP, up]
theorem cu_p_minutes {i : Int} {v : Int} (h : 0 ≤ i ∧ i < 40) : va_up (CE G ad σ τ) (21 + i.toNat) (.inr (2, (FP σ i).set 4 (.int (iI v)))) = CE G ad (up σ 5 i v) τ := by
  refine CE_ext (fun k hk hne => ?_) (fun i' a1 a2 a3 => ?_) (fun i' a1 a2 a3 => ?_) (fun i' a1 a2 a3 => ?_) (fun i' a1 a2 => ?_) ?_
  · rcases (show k = 0 ∨ k = 1 ∨ k = 2 ∨ k = 3 ∨ k = 4 ∨ k = 5 ∨ k = 6 ∨ k = 7 ∨ k = 8 ∨ k = 9 ∨ k = 10 ∨ k = 11 ∨ k = 12 ∨ k = 13 ∨ k = 14 ∨ k = 15 ∨ k = 16 ∨ k = 17 ∨ k = 18 ∨ k = 19 ∨ k = 20 by omega) with rfl | rfl | rfl | rfl | rfl | rfl | rfl | rfl | rfl | rfl | rfl | rfl | rfl | rfl | rfl | rfl | rfl | rfl | rfl | rfl | rfl <;> first | rfl | (simp only [CE0]; simp [up]; done) | (simp only [CE0]; rw [tI_o (by decide)])
  · have h2 : ¬ i' = i := by omega
    simp [FP, up, h2]
  · first | rfl | simp [FR, up]
  · first | rfl | simp [FW, up]
  · first | rfl | (funext j; simp [tQ, up, show 25 + j ≠ 5 by omega])
  · rw [CE_p h]; simp [FP, up]
theorem cu_p_rest {i : Int} {v : Int} (h : 0 ≤ i ∧ i < 40) : va_up (CE G ad σ τ) (21 + i.toNat) (.inr (2, (FP σ i).set 5 (.int (iI v)))) = CE G ad (up σ 6 i v) τ := by
  refine CE_ext (fun k hk hne => ?_) (fun i' a1 a2 a3 => ?_) (fun i' a1 a2 a3 => ?_) (fun i' a1 a2 a3 => ?_) (fun i' a1 a2 => ?_) ?_
  · rcases (show k = 0 ∨ k = 1 ∨ k = 2 ∨ k = 3 ∨ k = 4 ∨ k = 5 ∨ k = 6 ∨ k = 7 ∨ k = 8 ∨ k = 9 ∨ k = 10 ∨ k = 11 ∨ k = 12 ∨ k = 13 ∨ k = 14 ∨ k = 15 ∨ k = 16 ∨ k = 17 ∨ k = 18 ∨ k = 19 ∨ k = 20 by omega) with rfl | rfl | rfl | rfl | rfl | rfl | rfl | rfl | rfl | rfl | rfl | rfl | rfl | rfl | rfl | rfl | rfl | rfl | rfl | rfl | rfl <;> first | rfl | (simp only [CE0]; simp [up]; done) | (simp only [CE0]; rw [tI_o (by decide)])
  · have h2 : ¬ i' = i := by omega
    simp [FP, up, h2]
  · first | rfl | simp [FR, up]
  · first | rfl | simp [FW, up]
  · first | rfl | (funext j; simp [tQ, up, show 25 + j ≠ 6 by omega])
  · rw [CE_p h]; simp [FP, up]
theorem cu_r_from {i : Int} {v : Int} (h : 0 ≤ i ∧ i < 8) : va_up (CE G ad σ τ) (61 + i.toNat) (.inr (1, (FR σ i).set 0 (.int (iI v)))) = CE G ad (up σ 7 i v) τ := by
  refine CE_ext (fun k hk hne => ?_) (fun i' a1 a2 a3 => ?_) (fun i' a1 a2 a3 => ?_) (fun i' a1 a2 a3 => ?_) (fun i' a1 a2 => ?_) ?_
  · rcases (show k = 0 ∨ k = 1 ∨ k = 2 ∨ k = 3 ∨ k = 4 ∨ k = 5 ∨ k = 6 ∨ k = 7 ∨ k = 8 ∨ k = 9 ∨ k = 10 ∨ k = 11 ∨ k = 12 ∨ k = 13 ∨ k = 14 ∨ k = 15 ∨ k = 16 ∨ k = 17 ∨ k = 18 ∨ k = 19 ∨ k = 20 by omega) with rfl | rfl | rfl | rfl | rfl | rfl | rfl | rfl | rfl | rfl | rfl | rfl | rfl | rfl | rfl | rfl | rfl | rfl | rfl | rfl | rfl <;> first | rfl | (simp only [CE0]; simp [up]; done) | (simp only [CE0]; rw [tI_o (by decide)])
  · first | rfl | simp [FP, up]
  · have h2 : ¬ i' = i := by omega
    simp [FR, up, h2]
  · first | rfl | simp [FW, up]
  · first | rfl | (funext j; simp [tQ, up, show 25 + j ≠ 7 by omega])
  · rw [CE_r h]; simp [FR, up]
theorem cu_r_to {i : Int} {v : Int} (h : 0 ≤ i ∧ i < 8) : va_up (CE G ad σ τ) (61 + i.toNat) (.inr (1, (FR σ i).set 1 (.int (iI v)))) = CE G ad (up σ 8 i v) τ := by
  refine CE_ext (fun k hk hne => ?_) (fun i' a1 a2 a3 => ?_) (fun i' a1 a2 a3 => ?_) (fun i' a1 a2 a3 => ?_) (fun i' a1 a2 => ?_) ?_
  · rcases (show k = 0 ∨ k = 1 ∨ k = 2 ∨ k = 3 ∨ k = 4 ∨ k = 5 ∨ k = 6 ∨ k = 7 ∨ k = 8 ∨ k = 9 ∨ k = 10 ∨ k = 11 ∨ k = 12 ∨ k = 13 ∨ k = 14 ∨ k = 15 ∨ k = 16 ∨ k = 17 ∨ k = 18 ∨ k = 19 ∨ k = 20 by omega) with rfl | rfl | rfl | rfl | rfl | rfl | rfl | rfl | rfl | rfl | rfl | rfl | rfl | rfl | rfl | rfl | rfl | rfl | rfl | rfl | rfl <;> first | rfl | (simp only [CE0]; simp [up]; done) | (simp only [CE0]; rw [tI_o (by decide)])
  · first | rfl | simp [FP, up]
  · have h2 : ¬ i' = i := by omega
    simp [FR, up, h2]
  · first | rfl | simp [FW, up]
  · first | rfl | (funext j; simp [tQ, up, show 25 + j ≠ 8 by omega])
  · rw [CE_r h]; simp [FR, up]
theorem cu_r_limit {i : Int} {v : Int} (h : 0 ≤ i ∧ i < 8) : va_up (CE G ad σ τ) (61 + i.toNat) (.inr (1, (FR σ i).set 2 (.int (iI v)))) = CE G ad (up σ 9 i v) τ := by
  refine CE_ext (fun k hk hne => ?_) (fun i' a1 a2 a3 => ?_) (fun i' a1 a2 a3 => ?_) (fun i' a1 a2 a3 => ?_) (fun i' a1 a2 => ?_) ?_
  · rcases (show k = 0 ∨ k = 1 ∨ k = 2 ∨ k = 3 ∨ k = 4 ∨ k = 5 ∨ k = 6 ∨ k = 7 ∨ k = 8 ∨ k = 9 ∨ k = 10 ∨ k = 11 ∨ k = 12 ∨ k = 13 ∨ k = 14 ∨ k = 15 ∨ k = 16 ∨ k = 17 ∨ k = 18 ∨ k = 19 ∨ k = 20 by omega) with rfl | rfl | rfl | rfl | rfl | rfl | rfl | rfl | rfl | rfl | rfl | rfl | rfl | rfl | rfl | rfl | rfl | rfl | rfl | rfl | rfl <;> first | rfl | (simp only [CE0]; simp [up]; done) | (simp only [CE0]; rw [tI_o (by decide)])
  · first | rfl | simp [FP, up]
  · have h2 : ¬ i' = i := by omega
    simp [FR, up, h2]
  · first | rfl | simp [FW, up]
  · first | rfl | (funext j; simp [tQ, up, show 25 + j ≠ 9 by omega])
  · rw [CE_r h]; simp [FR, up]
theorem cu_w_size {i : Int} {v : Int} (h : 0 ≤ i ∧ i < 60) : va_up (CE G ad σ τ) (69 + i.toNat) (.inr (7, (FW ad σ i).set 2 (.int (iI v)))) = CE G ad (up σ 18 i v) τ := by
  refine CE_ext (fun k hk hne => ?_) (fun i' a1 a2 a3 => ?_) (fun i' a1 a2 a3 => ?_) (fun i' a1 a2 a3 => ?_) (fun i' a1 a2 => ?_) ?_
  · rcases (show k = 0 ∨ k = 1 ∨ k = 2 ∨ k = 3 ∨ k = 4 ∨ k = 5 ∨ k = 6 ∨ k = 7 ∨ k = 8 ∨ k = 9 ∨ k = 10 ∨ k = 11 ∨ k = 12 ∨ k = 13 ∨ k = 14 ∨ k = 15 ∨ k = 16 ∨ k = 17 ∨ k = 18 ∨ k = 19 ∨ k = 20 by omega) with rfl | rfl | rfl | rfl | rfl | rfl | rfl | rfl | rfl | rfl | rfl | rfl | rfl | rfl | rfl | rfl | rfl | rfl | rfl | rfl | rfl <;> first | rfl | (simp only [CE0]; simp [up]; done) | (simp only [CE0]; rw [tI_o (by decide)])
  · first | rfl | simp [FP, up]
  · first | rfl | simp [FR, up]
  · have h2 : ¬ i' = i := by omega
    simp [FW, up, h2]
  · first | rfl | (funext j; simp [tQ, up, show 25 + j ≠ 18 by omega])
  · rw [CE_w h]; simp [FW, up]
theorem cu_w_house {i : Int} {v : Int} (h : 0 ≤ i ∧ i < 60) : va_up (CE G ad σ τ) (69 + i.toNat) (.inr (7, (FW ad σ i).set 4 (.int (iI v)))) = CE G ad (up σ 11 i v) τ := by
  refine CE_ext (fun k hk hne => ?_) (fun i' a1 a2 a3 => ?_) (fun i' a1 a2 a3 => ?_) (fun i' a1 a2 a3 => ?_) (fun i' a1 a2 => ?_) ?_
  · rcases (show k = 0 ∨ k = 1 ∨ k = 2 ∨ k = 3 ∨ k = 4 ∨ k = 5 ∨ k = 6 ∨ k = 7 ∨ k = 8 ∨ k = 9 ∨ k = 10 ∨ k = 11 ∨ k = 12 ∨ k = 13 ∨ k = 14 ∨ k = 15 ∨ k = 16 ∨ k = 17 ∨ k = 18 ∨ k = 19 ∨ k = 20 by omega) with rfl | rfl | rfl | rfl | rfl | rfl | rfl | rfl | rfl | rfl | rfl | rfl | rfl | rfl | rfl | rfl | rfl | rfl | rfl | rfl | rfl <;> first | rfl | (simp only [CE0]; simp [up]; done) | (simp only [CE0]; rw [tI_o (by decide)])
  · first | rfl | simp [FP, up]
  · first | rfl | simp [FR, up]
  · have h2 : ¬ i' = i := by omega
    simp [FW, up, h2]
  · first | rfl | (funext j; simp [tQ, up, show 25 + j ≠ 11 by omega])
  · rw [CE_w h]; simp [FW, up]
theorem cu_w_sort {i : Int} {v : Int} (h : 0 ≤ i ∧ i < 60) : va_up (CE G ad σ τ) (69 + i.toNat) (.inr (7, (FW ad σ i).set 5 (.int (iI v)))) = CE G ad (up σ 12 i v) τ := by
  refine CE_ext (fun k hk hne => ?_) (fun i' a1 a2 a3 => ?_) (fun i' a1 a2 a3 => ?_) (fun i' a1 a2 a3 => ?_) (fun i' a1 a2 => ?_) ?_
  · rcases (show k = 0 ∨ k = 1 ∨ k = 2 ∨ k = 3 ∨ k = 4 ∨ k = 5 ∨ k = 6 ∨ k = 7 ∨ k = 8 ∨ k = 9 ∨ k = 10 ∨ k = 11 ∨ k = 12 ∨ k = 13 ∨ k = 14 ∨ k = 15 ∨ k = 16 ∨ k = 17 ∨ k = 18 ∨ k = 19 ∨ k = 20 by omega) with rfl | rfl | rfl | rfl | rfl | rfl | rfl | rfl | rfl | rfl | rfl | rfl | rfl | rfl | rfl | rfl | rfl | rfl | rfl | rfl | rfl <;> first | rfl | (simp only [CE0]; simp [up]; done) | (simp only [CE0]; rw [tI_o (by decide)])
  · first | rfl | simp [FP, up]
  · first | rfl | simp [FR, up]
  · have h2 : ¬ i' = i := by omega
    simp [FW, up, h2]
  · first | rfl | (funext j; simp [tQ, up, show 25 + j ≠ 12 by omega])
  · rw [CE_w h]; simp [FW, up]
theorem cu_w_lanes {i : Int} {v : Int} (h : 0 ≤ i ∧ i < 60) : va_up (CE G ad σ τ) (69 + i.toNat) (.inr (7, (FW ad σ i).set 6 (.int (iI v)))) = CE G ad (up σ 13 i v) τ := by
  refine CE_ext (fun k hk hne => ?_) (fun i' a1 a2 a3 => ?_) (fun i' a1 a2 a3 => ?_) (fun i' a1 a2 a3 => ?_) (fun i' a1 a2 => ?_) ?_
  · rcases (show k = 0 ∨ k = 1 ∨ k = 2 ∨ k = 3 ∨ k = 4 ∨ k = 5 ∨ k = 6 ∨ k = 7 ∨ k = 8 ∨ k = 9 ∨ k = 10 ∨ k = 11 ∨ k = 12 ∨ k = 13 ∨ k = 14 ∨ k = 15 ∨ k = 16 ∨ k = 17 ∨ k = 18 ∨ k = 19 ∨ k = 20 by omega) with rfl | rfl | rfl | rfl | rfl | rfl | rfl | rfl | rfl | rfl | rfl | rfl | rfl | rfl | rfl | rfl | rfl | rfl | rfl | rfl | rfl <;> first | rfl | (simp only [CE0]; simp [up]; done) | (simp only [CE0]; rw [tI_o (by decide)])
  · first | rfl | simp [FP, up]
  · first | rfl | simp [FR, up]
  · have h2 : ¬ i' = i := by omega
    simp [FW, up, h2]
  · first | rfl | (funext j; simp [tQ, up, show 25 + j ≠ 13 by omega])
  · rw [CE_w h]; simp [FW, up]
theorem cu_w_days {i : Int} {v : Int} (h : 0 ≤ i ∧ i < 60) : va_up (CE G ad σ τ) (69 + i.toNat) (.inr (7, (FW ad σ i).set 7 (.int (iI v)))) = CE G ad (up σ 14 i v) τ := by
  refine CE_ext (fun k hk hne => ?_) (fun i' a1 a2 a3 => ?_) (fun i' a1 a2 a3 => ?_) (fun i' a1 a2 a3 => ?_) (fun i' a1 a2 => ?_) ?_
  · rcases (show k = 0 ∨ k = 1 ∨ k = 2 ∨ k = 3 ∨ k = 4 ∨ k = 5 ∨ k = 6 ∨ k = 7 ∨ k = 8 ∨ k = 9 ∨ k = 10 ∨ k = 11 ∨ k = 12 ∨ k = 13 ∨ k = 14 ∨ k = 15 ∨ k = 16 ∨ k = 17 ∨ k = 18 ∨ k = 19 ∨ k = 20 by omega) with rfl | rfl | rfl | rfl | rfl | rfl | rfl | rfl | rfl | rfl | rfl | rfl | rfl | rfl | rfl | rfl | rfl | rfl | rfl | rfl | rfl <;> first | rfl | (simp only [CE0]; simp [up]; done) | (simp only [CE0]; rw [tI_o (by decide)])
  · first | rfl | simp [FP, up]
  · first | rfl | simp [FR, up]
  · have h2 : ¬ i' = i := by omega
    simp [FW, up, h2]
  · first | rfl | (funext j; simp [tQ, up, show 25 + j ≠ 14 by omega])
  · rw [CE_w h]; simp [FW, up]
theorem cu_w_depth {i : Int} {v : Int} (h : 0 ≤ i ∧ i < 60) : va_up (CE G ad σ τ) (69 + i.toNat) (.inr (7, (FW ad σ i).set 8 (.int (iI v)))) = CE G ad (up σ 15 i v) τ := by
  refine CE_ext (fun k hk hne => ?_) (fun i' a1 a2 a3 => ?_) (fun i' a1 a2 a3 => ?_) (fun i' a1 a2 a3 => ?_) (fun i' a1 a2 => ?_) ?_
  · rcases (show k = 0 ∨ k = 1 ∨ k = 2 ∨ k = 3 ∨ k = 4 ∨ k = 5 ∨ k = 6 ∨ k = 7 ∨ k = 8 ∨ k = 9 ∨ k = 10 ∨ k = 11 ∨ k = 12 ∨ k = 13 ∨ k = 14 ∨ k = 15 ∨ k = 16 ∨ k = 17 ∨ k = 18 ∨ k = 19 ∨ k = 20 by omega) with rfl | rfl | rfl | rfl | rfl | rfl | rfl | rfl | rfl | rfl | rfl | rfl | rfl | rfl | rfl | rfl | rfl | rfl | rfl | rfl | rfl <;> first | rfl | (simp only [CE0]; simp [up]; done) | (simp only [CE0]; rw [tI_o (by decide)])
  · first | rfl | simp [FP, up]
  · first | rfl | simp [FR, up]
  · have h2 : ¬ i' = i := by omega
    simp [FW, up, h2]
  · first | rfl | (funext j; simp [tQ, up, show 25 + j ≠ 15 by omega])
  · rw [CE_w h]; simp [FW, up]
theorem cu_w_wanted {i : Int} {v : Int} (h : 0 ≤ i ∧ i < 60) : va_up (CE G ad σ τ) (69 + i.toNat) (.inr (7, (FW ad σ i).set 9 (.int (iI v)))) = CE G ad (up σ 16 i v) τ := by
  refine CE_ext (fun k hk hne => ?_) (fun i' a1 a2 a3 => ?_) (fun i' a1 a2 a3 => ?_) (fun i' a1 a2 a3 => ?_) (fun i' a1 a2 => ?_) ?_
  · rcases (show k = 0 ∨ k = 1 ∨ k = 2 ∨ k = 3 ∨ k = 4 ∨ k = 5 ∨ k = 6 ∨ k = 7 ∨ k = 8 ∨ k = 9 ∨ k = 10 ∨ k = 11 ∨ k = 12 ∨ k = 13 ∨ k = 14 ∨ k = 15 ∨ k = 16 ∨ k = 17 ∨ k = 18 ∨ k = 19 ∨ k = 20 by omega) with rfl | rfl | rfl | rfl | rfl | rfl | rfl | rfl | rfl | rfl | rfl | rfl | rfl | rfl | rfl | rfl | rfl | rfl | rfl | rfl | rfl <;> first | rfl | (simp only [CE0]; simp [up]; done) | (simp only [CE0]; rw [tI_o (by decide)])
  · first | rfl | simp [FP, up]
  · first | rfl | simp [FR, up]
  · have h2 : ¬ i' = i := by omega
    simp [FW, up, h2]
  · first | rfl | (funext j; simp [tQ, up, show 25 + j ≠ 16 by omega])
  · rw [CE_w h]; simp [FW, up]
theorem cu_w_state {i : Int} {v : Int} (h : 0 ≤ i ∧ i < 60) : va_up (CE G ad σ τ) (69 + i.toNat) (.inr (7, (FW ad σ i).set 10 (.int (iI v)))) = CE G ad (up σ 19 i v) τ := by
  refine CE_ext (fun k hk hne => ?_) (fun i' a1 a2 a3 => ?_) (fun i' a1 a2 a3 => ?_) (fun i' a1 a2 a3 => ?_) (fun i' a1 a2 => ?_) ?_
  · rcases (show k = 0 ∨ k = 1 ∨ k = 2 ∨ k = 3 ∨ k = 4 ∨ k = 5 ∨ k = 6 ∨ k = 7 ∨ k = 8 ∨ k = 9 ∨ k = 10 ∨ k = 11 ∨ k = 12 ∨ k = 13 ∨ k = 14 ∨ k = 15 ∨ k = 16 ∨ k = 17 ∨ k = 18 ∨ k = 19 ∨ k = 20 by omega) with rfl | rfl | rfl | rfl | rfl | rfl | rfl | rfl | rfl | rfl | rfl | rfl | rfl | rfl | rfl | rfl | rfl | rfl | rfl | rfl | rfl <;> first | rfl | (simp only [CE0]; simp [up]; done) | (simp only [CE0]; rw [tI_o (by decide)])
  · first | rfl | simp [FP, up]
  · first | rfl | simp [FR, up]
  · have h2 : ¬ i' = i := by omega
    simp [FW, up, h2]
  · first | rfl | (funext j; simp [tQ, up, show 25 + j ≠ 19 by omega])
  · rw [CE_w h]; simp [FW, up]
theorem cu_w_begin {i : Int} {v : Int} (h : 0 ≤ i ∧ i < 60) : va_up (CE G ad σ τ) (69 + i.toNat) (.inr (7, (FW ad σ i).set 11 (.int (iI v)))) = CE G ad (up σ 20 i v) τ := by
  refine CE_ext (fun k hk hne => ?_) (fun i' a1 a2 a3 => ?_) (fun i' a1 a2 a3 => ?_) (fun i' a1 a2 a3 => ?_) (fun i' a1 a2 => ?_) ?_
  · rcases (show k = 0 ∨ k = 1 ∨ k = 2 ∨ k = 3 ∨ k = 4 ∨ k = 5 ∨ k = 6 ∨ k = 7 ∨ k = 8 ∨ k = 9 ∨ k = 10 ∨ k = 11 ∨ k = 12 ∨ k = 13 ∨ k = 14 ∨ k = 15 ∨ k = 16 ∨ k = 17 ∨ k = 18 ∨ k = 19 ∨ k = 20 by omega) with rfl | rfl | rfl | rfl | rfl | rfl | rfl | rfl | rfl | rfl | rfl | rfl | rfl | rfl | rfl | rfl | rfl | rfl | rfl | rfl | rfl <;> first | rfl | (simp only [CE0]; simp [up]; done) | (simp only [CE0]; rw [tI_o (by decide)])
  · first | rfl | simp [FP, up]
  · first | rfl | simp [FR, up]
  · have h2 : ¬ i' = i := by omega
    simp [FW, up, h2]
  · first | rfl | (funext j; simp [tQ, up, show 25 + j ≠ 20 by omega])
  · rw [CE_w h]; simp [FW, up]
theorem cu_w_last {i : Int} {v : Int} (h : 0 ≤ i ∧ i < 60) : va_up (CE G ad σ τ) (69 + i.toNat) (.inr (7, (FW ad σ i).set 12 (.int (iI v)))) = CE G ad (up σ 21 i v) τ := by
  refine CE_ext (fun k hk hne => ?_) (fun i' a1 a2 a3 => ?_) (fun i' a1 a2 a3 => ?_) (fun i' a1 a2 a3 => ?_) (fun i' a1 a2 => ?_) ?_
  · rcases (show k = 0 ∨ k = 1 ∨ k = 2 ∨ k = 3 ∨ k = 4 ∨ k = 5 ∨ k = 6 ∨ k = 7 ∨ k = 8 ∨ k = 9 ∨ k = 10 ∨ k = 11 ∨ k = 12 ∨ k = 13 ∨ k = 14 ∨ k = 15 ∨ k = 16 ∨ k = 17 ∨ k = 18 ∨ k = 19 ∨ k = 20 by omega) with rfl | rfl | rfl | rfl | rfl | rfl | rfl | rfl | rfl | rfl | rfl | rfl | rfl | rfl | rfl | rfl | rfl | rfl | rfl | rfl | rfl <;> first | rfl | (simp only [CE0]; simp [up]; done) | (simp only [CE0]; rw [tI_o (by decide)])
  · first | rfl | simp [FP, up]
  · first | rfl | simp [FR, up]
  · have h2 : ¬ i' = i := by omega
    simp [FW, up, h2]
  · first | rfl | (funext j; simp [tQ, up, show 25 + j ≠ 21 by omega])
  · rw [CE_w h]; simp [FW, up]
theorem cu_w_over {i : Int} {v : Int} (h : 0 ≤ i ∧ i < 60) : va_up (CE G ad σ τ) (69 + i.toNat) (.inr (7, (FW ad σ i).set 13 (.int (iI v)))) = CE G ad (up σ 22 i v) τ := by
  refine CE_ext (fun k hk hne => ?_) (fun i' a1 a2 a3 => ?_) (fun i' a1 a2 a3 => ?_) (fun i' a1 a2 a3 => ?_) (fun i' a1 a2 => ?_) ?_
  · rcases (show k = 0 ∨ k = 1 ∨ k = 2 ∨ k = 3 ∨ k = 4 ∨ k = 5 ∨ k = 6 ∨ k = 7 ∨ k = 8 ∨ k = 9 ∨ k = 10 ∨ k = 11 ∨ k = 12 ∨ k = 13 ∨ k = 14 ∨ k = 15 ∨ k = 16 ∨ k = 17 ∨ k = 18 ∨ k = 19 ∨ k = 20 by omega) with rfl | rfl | rfl | rfl | rfl | rfl | rfl | rfl | rfl | rfl | rfl | rfl | rfl | rfl | rfl | rfl | rfl | rfl | rfl | rfl | rfl <;> first | rfl | (simp only [CE0]; simp [up]; done) | (simp only [CE0]; rw [tI_o (by decide)])
  · first | rfl | simp [FP, up]
  · first | rfl | simp [FR, up]
  · have h2 : ¬ i' = i := by omega
    simp [FW, up, h2]
  · first | rfl | (funext j; simp [tQ, up, show 25 + j ≠ 22 by omega])
  · rw [CE_w h]; simp [FW, up]
theorem cu_w_partner {i : Int} {v : Int} (h : 0 ≤ i ∧ i < 60) : va_up (CE G ad σ τ) (69 + i.toNat) (.inr (7, (FW ad σ i).set 14 (.int (iI v)))) = CE G ad (up σ 23 i v) τ := by
  refine CE_ext (fun k hk hne => ?_) (fun i' a1 a2 a3 => ?_) (fun i' a1 a2 a3 => ?_) (fun i' a1 a2 a3 => ?_) (fun i' a1 a2 => ?_) ?_
  · rcases (show k = 0 ∨ k = 1 ∨ k = 2 ∨ k = 3 ∨ k = 4 ∨ k = 5 ∨ k = 6 ∨ k = 7 ∨ k = 8 ∨ k = 9 ∨ k = 10 ∨ k = 11 ∨ k = 12 ∨ k = 13 ∨ k = 14 ∨ k = 15 ∨ k = 16 ∨ k = 17 ∨ k = 18 ∨ k = 19 ∨ k = 20 by omega) with rfl | rfl | rfl | rfl | rfl | rfl | rfl | rfl | rfl | rfl | rfl | rfl | rfl | rfl | rfl | rfl | rfl | rfl | rfl | rfl | rfl <;> first | rfl | (simp only [CE0]; simp [up]; done) | (simp only [CE0]; rw [tI_o (by decide)])
  · first | rfl | simp [FP, up]
  · first | rfl | simp [FR, up]
  · have h2 : ¬ i' = i := by omega
    simp [FW, up, h2]
  · first | rfl | (funext j; simp [tQ, up, show 25 + j ≠ 23 by omega])
  · rw [CE_w h]; simp [FW, up]
theorem cu_w_moves {i : Int} {v : Int} (h : 0 ≤ i ∧ i < 60) : va_up (CE G ad σ τ) (69 + i.toNat) (.inr (7, (FW ad σ i).set 15 (.int (iI v)))) = CE G ad (up σ 24 i v) τ := by
  refine CE_ext (fun k hk hne => ?_) (fun i' a1 a2 a3 => ?_) (fun i' a1 a2 a3 => ?_) (fun i' a1 a2 a3 => ?_) (fun i' a1 a2 => ?_) ?_
  · rcases (show k = 0 ∨ k = 1 ∨ k = 2 ∨ k = 3 ∨ k = 4 ∨ k = 5 ∨ k = 6 ∨ k = 7 ∨ k = 8 ∨ k = 9 ∨ k = 10 ∨ k = 11 ∨ k = 12 ∨ k = 13 ∨ k = 14 ∨ k = 15 ∨ k = 16 ∨ k = 17 ∨ k = 18 ∨ k = 19 ∨ k = 20 by omega) with rfl | rfl | rfl | rfl | rfl | rfl | rfl | rfl | rfl | rfl | rfl | rfl | rfl | rfl | rfl | rfl | rfl | rfl | rfl | rfl | rfl <;> first | rfl | (simp only [CE0]; simp [up]; done) | (simp only [CE0]; rw [tI_o (by decide)])
  · first | rfl | simp [FP, up]
  · first | rfl | simp [FR, up]
  · have h2 : ¬ i' = i := by omega
    simp [FW, up, h2]
  · first | rfl | (funext j; simp [tQ, up, show 25 + j ≠ 24 by omega])
  · rw [CE_w h]; simp [FW, up]
theorem cu_w_mask {i : Int} {v : Nat} (h : 0 ≤ i ∧ i < 60) : va_up (CE G ad σ τ) (69 + i.toNat) (.inr (7, (FW ad σ i).set 3 (.long (lN v)))) = CE G ad (up σ 17 i (v : Int)) τ := by
  refine CE_ext (fun k hk hne => ?_) (fun i' a1 a2 a3 => ?_) (fun i' a1 a2 a3 => ?_) (fun i' a1 a2 a3 => ?_) (fun i' a1 a2 => ?_) ?_
  · rcases (show k = 0 ∨ k = 1 ∨ k = 2 ∨ k = 3 ∨ k = 4 ∨ k = 5 ∨ k = 6 ∨ k = 7 ∨ k = 8 ∨ k = 9 ∨ k = 10 ∨ k = 11 ∨ k = 12 ∨ k = 13 ∨ k = 14 ∨ k = 15 ∨ k = 16 ∨ k = 17 ∨ k = 18 ∨ k = 19 ∨ k = 20 by omega) with rfl | rfl | rfl | rfl | rfl | rfl | rfl | rfl | rfl | rfl | rfl | rfl | rfl | rfl | rfl | rfl | rfl | rfl | rfl | rfl | rfl <;> first | rfl | (simp only [CE0]; simp [up]; done) | (simp only [CE0]; rw [tI_o (by decide)])
  · first | rfl | simp [FP, up]
  · first | rfl | simp [FR, up]
  · have h2 : ¬ i' = i := by omega
    simp [FW, up, h2]
  · first | rfl | (funext j; simp [tQ, up, show 25 + j ≠ 17 by omega])
  · rw [CE_w h]; simp [FW, up]
theorem cu_q {i k v : Int} (h : 0 ≤ i ∧ i < 60) (hk : 0 ≤ k ∧ k < 4) : va_up (CE G ad σ τ) (129 + i.toNat) (.inl (G 0, 4, .inl (upd (tQ σ i) k.toNat (iI v)))) = CE G ad (up σ (25 + k.toNat) i v) τ := by
  refine CE_ext (fun k' hk' hne => ?_) (fun i' a1 a2 a3 => ?_) (fun i' a1 a2 a3 => ?_) (fun i' a1 a2 a3 => ?_) (fun i' a1 a2 => ?_) ?_
  · have e1 : tI σ 10 = tI (up σ (25 + k.toNat) i v) 10 := (tI_o (by omega)).symm
    have e2 : ∀ x, σ 0 x = up σ (25 + k.toNat) i v 0 x := fun x => (up_t (by omega)).symm
    unfold CE0
    simp only [e1, e2]
  · have e : ∀ t, t < 25 → σ t i' = up σ (25 + k.toNat) i v t i' := fun t ht => (up_t (by omega)).symm
    show FP _ _ = FP _ _
    unfold FP
    rw [e 1 (by omega), e 2 (by omega), e 3 (by omega), e 4 (by omega), e 5 (by omega), e 6 (by omega)]
  · have e : ∀ t, t < 25 → σ t i' = up σ (25 + k.toNat) i v t i' := fun t ht => (up_t (by omega)).symm
    unfold FR
    rw [e 7 (by omega), e 8 (by omega), e 9 (by omega)]
  · have e : ∀ t, t < 25 → σ t i' = up σ (25 + k.toNat) i v t i' := fun t ht => (up_t (by omega)).symm
    unfold FW
    rw [e 11 (by omega), e 12 (by omega), e 13 (by omega), e 14 (by omega), e 15 (by omega), e 16 (by omega), e 17 (by omega), e 18 (by omega), e 19 (by omega), e 20 (by omega), e 21 (by omega), e 22 (by omega), e 23 (by omega), e 24 (by omega)]
  · have h2 : ¬ i' = i := by omega
    funext j
    simp [tQ, up, h2]
  · rw [CE_q h]
    congr 4
    funext j
    by_cases hj : j = k.toNat
    · subst hj
      simp [tQ, up, upd]
    · simp [tQ, up, upd, hj]
theorem tQ_at {i k : Int} {t : Nat} (h : 0 ≤ k) (ht : 25 + k.toNat = t) : tQ σ i k.toNat = iI (σ t i) := by subst ht; rfl
end ST
abbrev FM (ad : Nat → Nat) (σ τ : Tb) : List Value := [.ref (ad 1), .ref (ad 2), .ref (ad 3), .ref (ad 4), .ref (ad 5), .ref (ad 6), .int (iI (σ 0 0)), .ref (ad 7), .ref (ad 8), .ref (ad 9), .int (iI (σ 0 1)), .ref (ad 10), .int (iI (σ 0 3)), .ref (ad 11), .ref (ad 12), .ref (ad 13), .ref (ad 14), .ref (ad 15), .ref (ad 16), .ref (ad 17), .ref (ad 25), .ref (ad 18), .ref (ad 19), .ref (ad 20), .ref (ad 21), .ref (ad 22), .ref (ad 23), .ref (ad 24), .int (iI (σ 0 2)), .int (iI (τ 0 0)), .int (iI (τ 0 1)), .int (iI (τ 0 5)), .int (iI (τ 0 6)), .ref (ad 26)]
/-- the reference's cells: 0 the object, 1..24 its rows by the shared tables' numbers, 25 firstPiece, 26 far -/
def RE (G : Nat → ClassId) (ad : Nat → Nat) (σ τ : Tb) (k : Nat) : va_E := match k with
  | 0 => .inr (9, FM ad σ τ)
  | 1 => .inl (G 0, 40, .inl (tI σ 1))
  | 2 => .inl (G 0, 40, .inl (tI σ 2))
  | 3 => .inl (G 0, 40, .inl (tI σ 3))
  | 4 => .inl (G 0, 40, .inl (tI σ 4))
  | 5 => .inl (G 0, 40, .inl (tI σ 5))
  | 6 => .inl (G 0, 40, .inl (tI σ 6))
  | 7 => .inl (G 0, 8, .inl (tI σ 7))
  | 8 => .inl (G 0, 8, .inl (tI σ 8))
  | 9 => .inl (G 0, 8, .inl (tI σ 9))
  | 10 => .inl (G 2, 400, .inl (tI σ 10))
  | 11 => .inl (G 0, 60, .inl (tI σ 11))
  | 12 => .inl (G 0, 60, .inl (tI σ 12))
  | 13 => .inl (G 0, 60, .inl (tI σ 13))
  | 14 => .inl (G 0, 60, .inl (tI σ 14))
  | 15 => .inl (G 0, 60, .inl (tI σ 15))
  | 16 => .inl (G 0, 60, .inl (tI σ 16))
  | 17 => .inl (G 1, 60, .inr (.inl (tL σ 17)))
  | 18 => .inl (G 0, 60, .inl (tI σ 18))
  | 19 => .inl (G 0, 60, .inl (tI σ 19))
  | 20 => .inl (G 0, 60, .inl (tD σ 20 (τ 0 2)))
  | 21 => .inl (G 0, 60, .inl (tD σ 21 (τ 0 3)))
  | 22 => .inl (G 0, 60, .inl (tI σ 22))
  | 23 => .inl (G 0, 60, .inl (tD σ 23 (τ 0 4)))
  | 24 => .inl (G 0, 60, .inl (tI σ 24))
  | 25 => .inl (G 0, 60, .inl (tI τ 1))
  | 26 => .inl (G 0, 20, .inl (tI τ 2))
  | _ => .inr (9, [])
section SR
variable {G : Nat → ClassId} {ad : Nat → Nat} {σ τ : Tb}
theorem RE_0 : RE G ad σ τ 0 = .inr (9, FM ad σ τ) := rfl
theorem RE_1 : RE G ad σ τ 1 = .inl (G 0, 40, .inl (tI σ 1)) := rfl
theorem RE_2 : RE G ad σ τ 2 = .inl (G 0, 40, .inl (tI σ 2)) := rfl
theorem RE_3 : RE G ad σ τ 3 = .inl (G 0, 40, .inl (tI σ 3)) := rfl
theorem RE_4 : RE G ad σ τ 4 = .inl (G 0, 40, .inl (tI σ 4)) := rfl
theorem RE_5 : RE G ad σ τ 5 = .inl (G 0, 40, .inl (tI σ 5)) := rfl
theorem RE_6 : RE G ad σ τ 6 = .inl (G 0, 40, .inl (tI σ 6)) := rfl
theorem RE_7 : RE G ad σ τ 7 = .inl (G 0, 8, .inl (tI σ 7)) := rfl
theorem RE_8 : RE G ad σ τ 8 = .inl (G 0, 8, .inl (tI σ 8)) := rfl
theorem RE_9 : RE G ad σ τ 9 = .inl (G 0, 8, .inl (tI σ 9)) := rfl
theorem RE_10 : RE G ad σ τ 10 = .inl (G 2, 400, .inl (tI σ 10)) := rfl
theorem RE_11 : RE G ad σ τ 11 = .inl (G 0, 60, .inl (tI σ 11)) := rfl
theorem RE_12 : RE G ad σ τ 12 = .inl (G 0, 60, .inl (tI σ 12)) := rfl
theorem RE_13 : RE G ad σ τ 13 = .inl (G 0, 60, .inl (tI σ 13)) := rfl
theorem RE_14 : RE G ad σ τ 14 = .inl (G 0, 60, .inl (tI σ 14)) := rfl
theorem RE_15 : RE G ad σ τ 15 = .inl (G 0, 60, .inl (tI σ 15)) := rfl
theorem RE_16 : RE G ad σ τ 16 = .inl (G 0, 60, .inl (tI σ 16)) := rfl
theorem RE_17 : RE G ad σ τ 17 = .inl (G 1, 60, .inr (.inl (tL σ 17))) := rfl
theorem RE_18 : RE G ad σ τ 18 = .inl (G 0, 60, .inl (tI σ 18)) := rfl
theorem RE_19 : RE G ad σ τ 19 = .inl (G 0, 60, .inl (tI σ 19)) := rfl
theorem RE_20 : RE G ad σ τ 20 = .inl (G 0, 60, .inl (tD σ 20 (τ 0 2))) := rfl
theorem RE_21 : RE G ad σ τ 21 = .inl (G 0, 60, .inl (tD σ 21 (τ 0 3))) := rfl
theorem RE_22 : RE G ad σ τ 22 = .inl (G 0, 60, .inl (tI σ 22)) := rfl
theorem RE_23 : RE G ad σ τ 23 = .inl (G 0, 60, .inl (tD σ 23 (τ 0 4))) := rfl
theorem RE_24 : RE G ad σ τ 24 = .inl (G 0, 60, .inl (tI σ 24)) := rfl
theorem RE_25 : RE G ad σ τ 25 = .inl (G 0, 60, .inl (tI τ 1)) := rfl
theorem RE_26 : RE G ad σ τ 26 = .inl (G 0, 20, .inl (tI τ 2)) := rfl
theorem RE_ext {σ' τ' : Tb} {key : Nat} {e : va_E} (hk : key < 27) (h : ∀ k, k < 27 → k ≠ key → RE G ad σ τ k = RE G ad σ' τ' k) (he : RE G ad σ' τ' key = e) : va_up (RE G ad σ τ) key e = RE G ad σ' τ' := by
  funext k
  by_cases hkk : k = key
  · subst hkk
    rw [va_up_self, he]
  · rw [va_up_ne _ _ hkk]
    by_cases h27 : k < 27
    · exact h k h27 hkk
    · obtain ⟨j, rfl⟩ : ∃ j, k = j + 27 := ⟨k - 27, by omega⟩
      rfl
theorem ru_from {z v : Int} (h : 0 ≤ z) : va_up (RE G ad σ τ) 1 (.inl (G 0, 40, .inl (upd (tI σ 1) z.toNat (iI v)))) = RE G ad (up σ 1 z v) τ := by
  refine RE_ext (by decide) (fun k hk hne => ?_) ?_
  · rcases (show k = 0 ∨ k = 1 ∨ k = 2 ∨ k = 3 ∨ k = 4 ∨ k = 5 ∨ k = 6 ∨ k = 7 ∨ k = 8 ∨ k = 9 ∨ k = 10 ∨ k = 11 ∨ k = 12 ∨ k = 13 ∨ k = 14 ∨ k = 15 ∨ k = 16 ∨ k = 17 ∨ k = 18 ∨ k = 19 ∨ k = 20 ∨ k = 21 ∨ k = 22 ∨ k = 23 ∨ k = 24 ∨ k = 25 ∨ k = 26 by omega) with rfl | rfl | rfl | rfl | rfl | rfl | rfl | rfl | rfl | rfl | rfl | rfl | rfl | rfl | rfl | rfl | rfl | rfl | rfl | rfl | rfl | rfl | rfl | rfl | rfl | rfl | rfl <;> first | exact absurd rfl hne | rfl | (simp only [RE]; simp [FM, up]; done) | (simp only [RE]; simp [tD, up]; done) | (simp only [RE]; rw [tI_o (by decide)]) | (simp only [RE]; rw [tL_o (by decide)])
  · rw [RE_1]; rw [tI_up h]
theorem ru_to {z v : Int} (h : 0 ≤ z) : va_up (RE G ad σ τ) 2 (.inl (G 0, 40, .inl (upd (tI σ 2) z.toNat (iI v)))) = RE G ad (up σ 2 z v) τ := by
  refine RE_ext (by decide) (fun k hk hne => ?_) ?_
  · rcases (show k = 0 ∨ k = 1 ∨ k = 2 ∨ k = 3 ∨ k = 4 ∨ k = 5 ∨ k = 6 ∨ k = 7 ∨ k = 8 ∨ k = 9 ∨ k = 10 ∨ k = 11 ∨ k = 12 ∨ k = 13 ∨ k = 14 ∨ k = 15 ∨ k = 16 ∨ k = 17 ∨ k = 18 ∨ k = 19 ∨ k = 20 ∨ k = 21 ∨ k = 22 ∨ k = 23 ∨ k = 24 ∨ k = 25 ∨ k = 26 by omega) with rfl | rfl | rfl | rfl | rfl | rfl | rfl | rfl | rfl | rfl | rfl | rfl | rfl | rfl | rfl | rfl | rfl | rfl | rfl | rfl | rfl | rfl | rfl | rfl | rfl | rfl | rfl <;> first | exact absurd rfl hne | rfl | (simp only [RE]; simp [FM, up]; done) | (simp only [RE]; simp [tD, up]; done) | (simp only [RE]; rw [tI_o (by decide)]) | (simp only [RE]; rw [tL_o (by decide)])
  · rw [RE_2]; rw [tI_up h]
theorem ru_lanes {z v : Int} (h : 0 ≤ z) : va_up (RE G ad σ τ) 3 (.inl (G 0, 40, .inl (upd (tI σ 3) z.toNat (iI v)))) = RE G ad (up σ 3 z v) τ := by
  refine RE_ext (by decide) (fun k hk hne => ?_) ?_
  · rcases (show k = 0 ∨ k = 1 ∨ k = 2 ∨ k = 3 ∨ k = 4 ∨ k = 5 ∨ k = 6 ∨ k = 7 ∨ k = 8 ∨ k = 9 ∨ k = 10 ∨ k = 11 ∨ k = 12 ∨ k = 13 ∨ k = 14 ∨ k = 15 ∨ k = 16 ∨ k = 17 ∨ k = 18 ∨ k = 19 ∨ k = 20 ∨ k = 21 ∨ k = 22 ∨ k = 23 ∨ k = 24 ∨ k = 25 ∨ k = 26 by omega) with rfl | rfl | rfl | rfl | rfl | rfl | rfl | rfl | rfl | rfl | rfl | rfl | rfl | rfl | rfl | rfl | rfl | rfl | rfl | rfl | rfl | rfl | rfl | rfl | rfl | rfl | rfl <;> first | exact absurd rfl hne | rfl | (simp only [RE]; simp [FM, up]; done) | (simp only [RE]; simp [tD, up]; done) | (simp only [RE]; rw [tI_o (by decide)]) | (simp only [RE]; rw [tL_o (by decide)])
  · rw [RE_3]; rw [tI_up h]
theorem ru_rank {z v : Int} (h : 0 ≤ z) : va_up (RE G ad σ τ) 4 (.inl (G 0, 40, .inl (upd (tI σ 4) z.toNat (iI v)))) = RE G ad (up σ 4 z v) τ := by
  refine RE_ext (by decide) (fun k hk hne => ?_) ?_
  · rcases (show k = 0 ∨ k = 1 ∨ k = 2 ∨ k = 3 ∨ k = 4 ∨ k = 5 ∨ k = 6 ∨ k = 7 ∨ k = 8 ∨ k = 9 ∨ k = 10 ∨ k = 11 ∨ k = 12 ∨ k = 13 ∨ k = 14 ∨ k = 15 ∨ k = 16 ∨ k = 17 ∨ k = 18 ∨ k = 19 ∨ k = 20 ∨ k = 21 ∨ k = 22 ∨ k = 23 ∨ k = 24 ∨ k = 25 ∨ k = 26 by omega) with rfl | rfl | rfl | rfl | rfl | rfl | rfl | rfl | rfl | rfl | rfl | rfl | rfl | rfl | rfl | rfl | rfl | rfl | rfl | rfl | rfl | rfl | rfl | rfl | rfl | rfl | rfl <;> first | exact absurd rfl hne | rfl | (simp only [RE]; simp [FM, up]; done) | (simp only [RE]; simp [tD, up]; done) | (simp only [RE]; rw [tI_o (by decide)]) | (simp only [RE]; rw [tL_o (by decide)])
  · rw [RE_4]; rw [tI_up h]
theorem ru_minutes {z v : Int} (h : 0 ≤ z) : va_up (RE G ad σ τ) 5 (.inl (G 0, 40, .inl (upd (tI σ 5) z.toNat (iI v)))) = RE G ad (up σ 5 z v) τ := by
  refine RE_ext (by decide) (fun k hk hne => ?_) ?_
  · rcases (show k = 0 ∨ k = 1 ∨ k = 2 ∨ k = 3 ∨ k = 4 ∨ k = 5 ∨ k = 6 ∨ k = 7 ∨ k = 8 ∨ k = 9 ∨ k = 10 ∨ k = 11 ∨ k = 12 ∨ k = 13 ∨ k = 14 ∨ k = 15 ∨ k = 16 ∨ k = 17 ∨ k = 18 ∨ k = 19 ∨ k = 20 ∨ k = 21 ∨ k = 22 ∨ k = 23 ∨ k = 24 ∨ k = 25 ∨ k = 26 by omega) with rfl | rfl | rfl | rfl | rfl | rfl | rfl | rfl | rfl | rfl | rfl | rfl | rfl | rfl | rfl | rfl | rfl | rfl | rfl | rfl | rfl | rfl | rfl | rfl | rfl | rfl | rfl <;> first | exact absurd rfl hne | rfl | (simp only [RE]; simp [FM, up]; done) | (simp only [RE]; simp [tD, up]; done) | (simp only [RE]; rw [tI_o (by decide)]) | (simp only [RE]; rw [tL_o (by decide)])
  · rw [RE_5]; rw [tI_up h]
theorem ru_rest {z v : Int} (h : 0 ≤ z) : va_up (RE G ad σ τ) 6 (.inl (G 0, 40, .inl (upd (tI σ 6) z.toNat (iI v)))) = RE G ad (up σ 6 z v) τ := by
  refine RE_ext (by decide) (fun k hk hne => ?_) ?_
  · rcases (show k = 0 ∨ k = 1 ∨ k = 2 ∨ k = 3 ∨ k = 4 ∨ k = 5 ∨ k = 6 ∨ k = 7 ∨ k = 8 ∨ k = 9 ∨ k = 10 ∨ k = 11 ∨ k = 12 ∨ k = 13 ∨ k = 14 ∨ k = 15 ∨ k = 16 ∨ k = 17 ∨ k = 18 ∨ k = 19 ∨ k = 20 ∨ k = 21 ∨ k = 22 ∨ k = 23 ∨ k = 24 ∨ k = 25 ∨ k = 26 by omega) with rfl | rfl | rfl | rfl | rfl | rfl | rfl | rfl | rfl | rfl | rfl | rfl | rfl | rfl | rfl | rfl | rfl | rfl | rfl | rfl | rfl | rfl | rfl | rfl | rfl | rfl | rfl <;> first | exact absurd rfl hne | rfl | (simp only [RE]; simp [FM, up]; done) | (simp only [RE]; simp [tD, up]; done) | (simp only [RE]; rw [tI_o (by decide)]) | (simp only [RE]; rw [tL_o (by decide)])
  · rw [RE_6]; rw [tI_up h]
theorem ru_pieces {v : Int} : va_up (RE G ad σ τ) 0 (.inr (9, (FM ad σ τ).set 6 (.int (iI v)))) = RE G ad (up σ 0 0 v) τ := by
  refine RE_ext (by decide) (fun k hk hne => ?_) ?_
  · rcases (show k = 0 ∨ k = 1 ∨ k = 2 ∨ k = 3 ∨ k = 4 ∨ k = 5 ∨ k = 6 ∨ k = 7 ∨ k = 8 ∨ k = 9 ∨ k = 10 ∨ k = 11 ∨ k = 12 ∨ k = 13 ∨ k = 14 ∨ k = 15 ∨ k = 16 ∨ k = 17 ∨ k = 18 ∨ k = 19 ∨ k = 20 ∨ k = 21 ∨ k = 22 ∨ k = 23 ∨ k = 24 ∨ k = 25 ∨ k = 26 by omega) with rfl | rfl | rfl | rfl | rfl | rfl | rfl | rfl | rfl | rfl | rfl | rfl | rfl | rfl | rfl | rfl | rfl | rfl | rfl | rfl | rfl | rfl | rfl | rfl | rfl | rfl | rfl <;> first | exact absurd rfl hne | rfl | (simp only [RE]; simp [FM, up]; done) | (simp only [RE]; simp [tD, up]; done) | (simp only [RE]; rw [tI_o (by decide)]) | (simp only [RE]; rw [tL_o (by decide)])
  · rw [RE_0]; simp [FM, up]
theorem ru_pairA {z v : Int} (h : 0 ≤ z) : va_up (RE G ad σ τ) 7 (.inl (G 0, 8, .inl (upd (tI σ 7) z.toNat (iI v)))) = RE G ad (up σ 7 z v) τ := by
  refine RE_ext (by decide) (fun k hk hne => ?_) ?_
  · rcases (show k = 0 ∨ k = 1 ∨ k = 2 ∨ k = 3 ∨ k = 4 ∨ k = 5 ∨ k = 6 ∨ k = 7 ∨ k = 8 ∨ k = 9 ∨ k = 10 ∨ k = 11 ∨ k = 12 ∨ k = 13 ∨ k = 14 ∨ k = 15 ∨ k = 16 ∨ k = 17 ∨ k = 18 ∨ k = 19 ∨ k = 20 ∨ k = 21 ∨ k = 22 ∨ k = 23 ∨ k = 24 ∨ k = 25 ∨ k = 26 by omega) with rfl | rfl | rfl | rfl | rfl | rfl | rfl | rfl | rfl | rfl | rfl | rfl | rfl | rfl | rfl | rfl | rfl | rfl | rfl | rfl | rfl | rfl | rfl | rfl | rfl | rfl | rfl <;> first | exact absurd rfl hne | rfl | (simp only [RE]; simp [FM, up]; done) | (simp only [RE]; simp [tD, up]; done) | (simp only [RE]; rw [tI_o (by decide)]) | (simp only [RE]; rw [tL_o (by decide)])
  · rw [RE_7]; rw [tI_up h]
theorem ru_pairB {z v : Int} (h : 0 ≤ z) : va_up (RE G ad σ τ) 8 (.inl (G 0, 8, .inl (upd (tI σ 8) z.toNat (iI v)))) = RE G ad (up σ 8 z v) τ := by
  refine RE_ext (by decide) (fun k hk hne => ?_) ?_
  · rcases (show k = 0 ∨ k = 1 ∨ k = 2 ∨ k = 3 ∨ k = 4 ∨ k = 5 ∨ k = 6 ∨ k = 7 ∨ k = 8 ∨ k = 9 ∨ k = 10 ∨ k = 11 ∨ k = 12 ∨ k = 13 ∨ k = 14 ∨ k = 15 ∨ k = 16 ∨ k = 17 ∨ k = 18 ∨ k = 19 ∨ k = 20 ∨ k = 21 ∨ k = 22 ∨ k = 23 ∨ k = 24 ∨ k = 25 ∨ k = 26 by omega) with rfl | rfl | rfl | rfl | rfl | rfl | rfl | rfl | rfl | rfl | rfl | rfl | rfl | rfl | rfl | rfl | rfl | rfl | rfl | rfl | rfl | rfl | rfl | rfl | rfl | rfl | rfl <;> first | exact absurd rfl hne | rfl | (simp only [RE]; simp [FM, up]; done) | (simp only [RE]; simp [tD, up]; done) | (simp only [RE]; rw [tI_o (by decide)]) | (simp only [RE]; rw [tL_o (by decide)])
  · rw [RE_8]; rw [tI_up h]
theorem ru_limit {z v : Int} (h : 0 ≤ z) : va_up (RE G ad σ τ) 9 (.inl (G 0, 8, .inl (upd (tI σ 9) z.toNat (iI v)))) = RE G ad (up σ 9 z v) τ := by
  refine RE_ext (by decide) (fun k hk hne => ?_) ?_
  · rcases (show k = 0 ∨ k = 1 ∨ k = 2 ∨ k = 3 ∨ k = 4 ∨ k = 5 ∨ k = 6 ∨ k = 7 ∨ k = 8 ∨ k = 9 ∨ k = 10 ∨ k = 11 ∨ k = 12 ∨ k = 13 ∨ k = 14 ∨ k = 15 ∨ k = 16 ∨ k = 17 ∨ k = 18 ∨ k = 19 ∨ k = 20 ∨ k = 21 ∨ k = 22 ∨ k = 23 ∨ k = 24 ∨ k = 25 ∨ k = 26 by omega) with rfl | rfl | rfl | rfl | rfl | rfl | rfl | rfl | rfl | rfl | rfl | rfl | rfl | rfl | rfl | rfl | rfl | rfl | rfl | rfl | rfl | rfl | rfl | rfl | rfl | rfl | rfl <;> first | exact absurd rfl hne | rfl | (simp only [RE]; simp [FM, up]; done) | (simp only [RE]; simp [tD, up]; done) | (simp only [RE]; rw [tI_o (by decide)]) | (simp only [RE]; rw [tL_o (by decide)])
  · rw [RE_9]; rw [tI_up h]
theorem ru_pairs {v : Int} : va_up (RE G ad σ τ) 0 (.inr (9, (FM ad σ τ).set 10 (.int (iI v)))) = RE G ad (up σ 0 1 v) τ := by
  refine RE_ext (by decide) (fun k hk hne => ?_) ?_
  · rcases (show k = 0 ∨ k = 1 ∨ k = 2 ∨ k = 3 ∨ k = 4 ∨ k = 5 ∨ k = 6 ∨ k = 7 ∨ k = 8 ∨ k = 9 ∨ k = 10 ∨ k = 11 ∨ k = 12 ∨ k = 13 ∨ k = 14 ∨ k = 15 ∨ k = 16 ∨ k = 17 ∨ k = 18 ∨ k = 19 ∨ k = 20 ∨ k = 21 ∨ k = 22 ∨ k = 23 ∨ k = 24 ∨ k = 25 ∨ k = 26 by omega) with rfl | rfl | rfl | rfl | rfl | rfl | rfl | rfl | rfl | rfl | rfl | rfl | rfl | rfl | rfl | rfl | rfl | rfl | rfl | rfl | rfl | rfl | rfl | rfl | rfl | rfl | rfl <;> first | exact absurd rfl hne | rfl | (simp only [RE]; simp [FM, up]; done) | (simp only [RE]; simp [tD, up]; done) | (simp only [RE]; rw [tI_o (by decide)]) | (simp only [RE]; rw [tL_o (by decide)])
  · rw [RE_0]; simp [FM, up]
theorem ru_feast {z v : Int} (h : 0 ≤ z) : va_up (RE G ad σ τ) 10 (.inl (G 2, 400, .inl (upd (tI σ 10) z.toNat (iI v)))) = RE G ad (up σ 10 z v) τ := by
  refine RE_ext (by decide) (fun k hk hne => ?_) ?_
  · rcases (show k = 0 ∨ k = 1 ∨ k = 2 ∨ k = 3 ∨ k = 4 ∨ k = 5 ∨ k = 6 ∨ k = 7 ∨ k = 8 ∨ k = 9 ∨ k = 10 ∨ k = 11 ∨ k = 12 ∨ k = 13 ∨ k = 14 ∨ k = 15 ∨ k = 16 ∨ k = 17 ∨ k = 18 ∨ k = 19 ∨ k = 20 ∨ k = 21 ∨ k = 22 ∨ k = 23 ∨ k = 24 ∨ k = 25 ∨ k = 26 by omega) with rfl | rfl | rfl | rfl | rfl | rfl | rfl | rfl | rfl | rfl | rfl | rfl | rfl | rfl | rfl | rfl | rfl | rfl | rfl | rfl | rfl | rfl | rfl | rfl | rfl | rfl | rfl <;> first | exact absurd rfl hne | rfl | (simp only [RE]; simp [FM, up]; done) | (simp only [RE]; simp [tD, up]; done) | (simp only [RE]; rw [tI_o (by decide)]) | (simp only [RE]; rw [tL_o (by decide)])
  · rw [RE_10]; rw [tI_up h]
theorem ru_today {v : Int} : va_up (RE G ad σ τ) 0 (.inr (9, (FM ad σ τ).set 12 (.int (iI v)))) = RE G ad (up σ 0 3 v) τ := by
  refine RE_ext (by decide) (fun k hk hne => ?_) ?_
  · rcases (show k = 0 ∨ k = 1 ∨ k = 2 ∨ k = 3 ∨ k = 4 ∨ k = 5 ∨ k = 6 ∨ k = 7 ∨ k = 8 ∨ k = 9 ∨ k = 10 ∨ k = 11 ∨ k = 12 ∨ k = 13 ∨ k = 14 ∨ k = 15 ∨ k = 16 ∨ k = 17 ∨ k = 18 ∨ k = 19 ∨ k = 20 ∨ k = 21 ∨ k = 22 ∨ k = 23 ∨ k = 24 ∨ k = 25 ∨ k = 26 by omega) with rfl | rfl | rfl | rfl | rfl | rfl | rfl | rfl | rfl | rfl | rfl | rfl | rfl | rfl | rfl | rfl | rfl | rfl | rfl | rfl | rfl | rfl | rfl | rfl | rfl | rfl | rfl <;> first | exact absurd rfl hne | rfl | (simp only [RE]; simp [FM, up]; done) | (simp only [RE]; simp [tD, up]; done) | (simp only [RE]; rw [tI_o (by decide)]) | (simp only [RE]; rw [tL_o (by decide)])
  · rw [RE_0]; simp [FM, up]
theorem ru_house {z v : Int} (h : 0 ≤ z) : va_up (RE G ad σ τ) 11 (.inl (G 0, 60, .inl (upd (tI σ 11) z.toNat (iI v)))) = RE G ad (up σ 11 z v) τ := by
  refine RE_ext (by decide) (fun k hk hne => ?_) ?_
  · rcases (show k = 0 ∨ k = 1 ∨ k = 2 ∨ k = 3 ∨ k = 4 ∨ k = 5 ∨ k = 6 ∨ k = 7 ∨ k = 8 ∨ k = 9 ∨ k = 10 ∨ k = 11 ∨ k = 12 ∨ k = 13 ∨ k = 14 ∨ k = 15 ∨ k = 16 ∨ k = 17 ∨ k = 18 ∨ k = 19 ∨ k = 20 ∨ k = 21 ∨ k = 22 ∨ k = 23 ∨ k = 24 ∨ k = 25 ∨ k = 26 by omega) with rfl | rfl | rfl | rfl | rfl | rfl | rfl | rfl | rfl | rfl | rfl | rfl | rfl | rfl | rfl | rfl | rfl | rfl | rfl | rfl | rfl | rfl | rfl | rfl | rfl | rfl | rfl <;> first | exact absurd rfl hne | rfl | (simp only [RE]; simp [FM, up]; done) | (simp only [RE]; simp [tD, up]; done) | (simp only [RE]; rw [tI_o (by decide)]) | (simp only [RE]; rw [tL_o (by decide)])
  · rw [RE_11]; rw [tI_up h]
theorem ru_sort {z v : Int} (h : 0 ≤ z) : va_up (RE G ad σ τ) 12 (.inl (G 0, 60, .inl (upd (tI σ 12) z.toNat (iI v)))) = RE G ad (up σ 12 z v) τ := by
  refine RE_ext (by decide) (fun k hk hne => ?_) ?_
  · rcases (show k = 0 ∨ k = 1 ∨ k = 2 ∨ k = 3 ∨ k = 4 ∨ k = 5 ∨ k = 6 ∨ k = 7 ∨ k = 8 ∨ k = 9 ∨ k = 10 ∨ k = 11 ∨ k = 12 ∨ k = 13 ∨ k = 14 ∨ k = 15 ∨ k = 16 ∨ k = 17 ∨ k = 18 ∨ k = 19 ∨ k = 20 ∨ k = 21 ∨ k = 22 ∨ k = 23 ∨ k = 24 ∨ k = 25 ∨ k = 26 by omega) with rfl | rfl | rfl | rfl | rfl | rfl | rfl | rfl | rfl | rfl | rfl | rfl | rfl | rfl | rfl | rfl | rfl | rfl | rfl | rfl | rfl | rfl | rfl | rfl | rfl | rfl | rfl <;> first | exact absurd rfl hne | rfl | (simp only [RE]; simp [FM, up]; done) | (simp only [RE]; simp [tD, up]; done) | (simp only [RE]; rw [tI_o (by decide)]) | (simp only [RE]; rw [tL_o (by decide)])
  · rw [RE_12]; rw [tI_up h]
theorem ru_takes {z v : Int} (h : 0 ≤ z) : va_up (RE G ad σ τ) 13 (.inl (G 0, 60, .inl (upd (tI σ 13) z.toNat (iI v)))) = RE G ad (up σ 13 z v) τ := by
  refine RE_ext (by decide) (fun k hk hne => ?_) ?_
  · rcases (show k = 0 ∨ k = 1 ∨ k = 2 ∨ k = 3 ∨ k = 4 ∨ k = 5 ∨ k = 6 ∨ k = 7 ∨ k = 8 ∨ k = 9 ∨ k = 10 ∨ k = 11 ∨ k = 12 ∨ k = 13 ∨ k = 14 ∨ k = 15 ∨ k = 16 ∨ k = 17 ∨ k = 18 ∨ k = 19 ∨ k = 20 ∨ k = 21 ∨ k = 22 ∨ k = 23 ∨ k = 24 ∨ k = 25 ∨ k = 26 by omega) with rfl | rfl | rfl | rfl | rfl | rfl | rfl | rfl | rfl | rfl | rfl | rfl | rfl | rfl | rfl | rfl | rfl | rfl | rfl | rfl | rfl | rfl | rfl | rfl | rfl | rfl | rfl <;> first | exact absurd rfl hne | rfl | (simp only [RE]; simp [FM, up]; done) | (simp only [RE]; simp [tD, up]; done) | (simp only [RE]; rw [tI_o (by decide)]) | (simp only [RE]; rw [tL_o (by decide)])
  · rw [RE_13]; rw [tI_up h]
theorem ru_days {z v : Int} (h : 0 ≤ z) : va_up (RE G ad σ τ) 14 (.inl (G 0, 60, .inl (upd (tI σ 14) z.toNat (iI v)))) = RE G ad (up σ 14 z v) τ := by
  refine RE_ext (by decide) (fun k hk hne => ?_) ?_
  · rcases (show k = 0 ∨ k = 1 ∨ k = 2 ∨ k = 3 ∨ k = 4 ∨ k = 5 ∨ k = 6 ∨ k = 7 ∨ k = 8 ∨ k = 9 ∨ k = 10 ∨ k = 11 ∨ k = 12 ∨ k = 13 ∨ k = 14 ∨ k = 15 ∨ k = 16 ∨ k = 17 ∨ k = 18 ∨ k = 19 ∨ k = 20 ∨ k = 21 ∨ k = 22 ∨ k = 23 ∨ k = 24 ∨ k = 25 ∨ k = 26 by omega) with rfl | rfl | rfl | rfl | rfl | rfl | rfl | rfl | rfl | rfl | rfl | rfl | rfl | rfl | rfl | rfl | rfl | rfl | rfl | rfl | rfl | rfl | rfl | rfl | rfl | rfl | rfl <;> first | exact absurd rfl hne | rfl | (simp only [RE]; simp [FM, up]; done) | (simp only [RE]; simp [tD, up]; done) | (simp only [RE]; rw [tI_o (by decide)]) | (simp only [RE]; rw [tL_o (by decide)])
  · rw [RE_14]; rw [tI_up h]
theorem ru_depth {z v : Int} (h : 0 ≤ z) : va_up (RE G ad σ τ) 15 (.inl (G 0, 60, .inl (upd (tI σ 15) z.toNat (iI v)))) = RE G ad (up σ 15 z v) τ := by
  refine RE_ext (by decide) (fun k hk hne => ?_) ?_
  · rcases (show k = 0 ∨ k = 1 ∨ k = 2 ∨ k = 3 ∨ k = 4 ∨ k = 5 ∨ k = 6 ∨ k = 7 ∨ k = 8 ∨ k = 9 ∨ k = 10 ∨ k = 11 ∨ k = 12 ∨ k = 13 ∨ k = 14 ∨ k = 15 ∨ k = 16 ∨ k = 17 ∨ k = 18 ∨ k = 19 ∨ k = 20 ∨ k = 21 ∨ k = 22 ∨ k = 23 ∨ k = 24 ∨ k = 25 ∨ k = 26 by omega) with rfl | rfl | rfl | rfl | rfl | rfl | rfl | rfl | rfl | rfl | rfl | rfl | rfl | rfl | rfl | rfl | rfl | rfl | rfl | rfl | rfl | rfl | rfl | rfl | rfl | rfl | rfl <;> first | exact absurd rfl hne | rfl | (simp only [RE]; simp [FM, up]; done) | (simp only [RE]; simp [tD, up]; done) | (simp only [RE]; rw [tI_o (by decide)]) | (simp only [RE]; rw [tL_o (by decide)])
  · rw [RE_15]; rw [tI_up h]
theorem ru_wanted {z v : Int} (h : 0 ≤ z) : va_up (RE G ad σ τ) 16 (.inl (G 0, 60, .inl (upd (tI σ 16) z.toNat (iI v)))) = RE G ad (up σ 16 z v) τ := by
  refine RE_ext (by decide) (fun k hk hne => ?_) ?_
  · rcases (show k = 0 ∨ k = 1 ∨ k = 2 ∨ k = 3 ∨ k = 4 ∨ k = 5 ∨ k = 6 ∨ k = 7 ∨ k = 8 ∨ k = 9 ∨ k = 10 ∨ k = 11 ∨ k = 12 ∨ k = 13 ∨ k = 14 ∨ k = 15 ∨ k = 16 ∨ k = 17 ∨ k = 18 ∨ k = 19 ∨ k = 20 ∨ k = 21 ∨ k = 22 ∨ k = 23 ∨ k = 24 ∨ k = 25 ∨ k = 26 by omega) with rfl | rfl | rfl | rfl | rfl | rfl | rfl | rfl | rfl | rfl | rfl | rfl | rfl | rfl | rfl | rfl | rfl | rfl | rfl | rfl | rfl | rfl | rfl | rfl | rfl | rfl | rfl <;> first | exact absurd rfl hne | rfl | (simp only [RE]; simp [FM, up]; done) | (simp only [RE]; simp [tD, up]; done) | (simp only [RE]; rw [tI_o (by decide)]) | (simp only [RE]; rw [tL_o (by decide)])
  · rw [RE_16]; rw [tI_up h]
theorem ru_on {z : Int} {v : Nat} (h : 0 ≤ z) : va_up (RE G ad σ τ) 17 (.inl (G 1, 60, .inr (.inl (vp_updL (tL σ 17) z.toNat (lN v))))) = RE G ad (up σ 17 z (v : Int)) τ := by
  refine RE_ext (by decide) (fun k hk hne => ?_) ?_
  · rcases (show k = 0 ∨ k = 1 ∨ k = 2 ∨ k = 3 ∨ k = 4 ∨ k = 5 ∨ k = 6 ∨ k = 7 ∨ k = 8 ∨ k = 9 ∨ k = 10 ∨ k = 11 ∨ k = 12 ∨ k = 13 ∨ k = 14 ∨ k = 15 ∨ k = 16 ∨ k = 17 ∨ k = 18 ∨ k = 19 ∨ k = 20 ∨ k = 21 ∨ k = 22 ∨ k = 23 ∨ k = 24 ∨ k = 25 ∨ k = 26 by omega) with rfl | rfl | rfl | rfl | rfl | rfl | rfl | rfl | rfl | rfl | rfl | rfl | rfl | rfl | rfl | rfl | rfl | rfl | rfl | rfl | rfl | rfl | rfl | rfl | rfl | rfl | rfl <;> first | exact absurd rfl hne | rfl | (simp only [RE]; simp [FM, up]; done) | (simp only [RE]; simp [tD, up]; done) | (simp only [RE]; rw [tI_o (by decide)]) | (simp only [RE]; rw [tL_o (by decide)])
  · rw [RE_17]; rw [tL_up h]
theorem ru_firstPiece {z v : Int} (h : 0 ≤ z) : va_up (RE G ad σ τ) 25 (.inl (G 0, 60, .inl (upd (tI τ 1) z.toNat (iI v)))) = RE G ad σ (up τ 1 z v) := by
  refine RE_ext (by decide) (fun k hk hne => ?_) ?_
  · rcases (show k = 0 ∨ k = 1 ∨ k = 2 ∨ k = 3 ∨ k = 4 ∨ k = 5 ∨ k = 6 ∨ k = 7 ∨ k = 8 ∨ k = 9 ∨ k = 10 ∨ k = 11 ∨ k = 12 ∨ k = 13 ∨ k = 14 ∨ k = 15 ∨ k = 16 ∨ k = 17 ∨ k = 18 ∨ k = 19 ∨ k = 20 ∨ k = 21 ∨ k = 22 ∨ k = 23 ∨ k = 24 ∨ k = 25 ∨ k = 26 by omega) with rfl | rfl | rfl | rfl | rfl | rfl | rfl | rfl | rfl | rfl | rfl | rfl | rfl | rfl | rfl | rfl | rfl | rfl | rfl | rfl | rfl | rfl | rfl | rfl | rfl | rfl | rfl <;> first | exact absurd rfl hne | rfl | (simp only [RE]; simp [FM, up]; done) | (simp only [RE]; simp [tD, up]; done) | (simp only [RE]; rw [tI_o (by decide)]) | (simp only [RE]; rw [tL_o (by decide)])
  · rw [RE_25]; rw [tI_up h]
theorem ru_pieceMany {z v : Int} (h : 0 ≤ z) : va_up (RE G ad σ τ) 18 (.inl (G 0, 60, .inl (upd (tI σ 18) z.toNat (iI v)))) = RE G ad (up σ 18 z v) τ := by
  refine RE_ext (by decide) (fun k hk hne => ?_) ?_
  · rcases (show k = 0 ∨ k = 1 ∨ k = 2 ∨ k = 3 ∨ k = 4 ∨ k = 5 ∨ k = 6 ∨ k = 7 ∨ k = 8 ∨ k = 9 ∨ k = 10 ∨ k = 11 ∨ k = 12 ∨ k = 13 ∨ k = 14 ∨ k = 15 ∨ k = 16 ∨ k = 17 ∨ k = 18 ∨ k = 19 ∨ k = 20 ∨ k = 21 ∨ k = 22 ∨ k = 23 ∨ k = 24 ∨ k = 25 ∨ k = 26 by omega) with rfl | rfl | rfl | rfl | rfl | rfl | rfl | rfl | rfl | rfl | rfl | rfl | rfl | rfl | rfl | rfl | rfl | rfl | rfl | rfl | rfl | rfl | rfl | rfl | rfl | rfl | rfl <;> first | exact absurd rfl hne | rfl | (simp only [RE]; simp [FM, up]; done) | (simp only [RE]; simp [tD, up]; done) | (simp only [RE]; rw [tI_o (by decide)]) | (simp only [RE]; rw [tL_o (by decide)])
  · rw [RE_18]; rw [tI_up h]
theorem ru_state {z v : Int} (h : 0 ≤ z) : va_up (RE G ad σ τ) 19 (.inl (G 0, 60, .inl (upd (tI σ 19) z.toNat (iI v)))) = RE G ad (up σ 19 z v) τ := by
  refine RE_ext (by decide) (fun k hk hne => ?_) ?_
  · rcases (show k = 0 ∨ k = 1 ∨ k = 2 ∨ k = 3 ∨ k = 4 ∨ k = 5 ∨ k = 6 ∨ k = 7 ∨ k = 8 ∨ k = 9 ∨ k = 10 ∨ k = 11 ∨ k = 12 ∨ k = 13 ∨ k = 14 ∨ k = 15 ∨ k = 16 ∨ k = 17 ∨ k = 18 ∨ k = 19 ∨ k = 20 ∨ k = 21 ∨ k = 22 ∨ k = 23 ∨ k = 24 ∨ k = 25 ∨ k = 26 by omega) with rfl | rfl | rfl | rfl | rfl | rfl | rfl | rfl | rfl | rfl | rfl | rfl | rfl | rfl | rfl | rfl | rfl | rfl | rfl | rfl | rfl | rfl | rfl | rfl | rfl | rfl | rfl <;> first | exact absurd rfl hne | rfl | (simp only [RE]; simp [FM, up]; done) | (simp only [RE]; simp [tD, up]; done) | (simp only [RE]; rw [tI_o (by decide)]) | (simp only [RE]; rw [tL_o (by decide)])
  · rw [RE_19]; rw [tI_up h]
theorem ru_begins {z v : Int} (h : 0 ≤ z) (h2 : z < τ 0 2) : va_up (RE G ad σ τ) 20 (.inl (G 0, 60, .inl (upd (tD σ 20 (τ 0 2)) z.toNat (iI v)))) = RE G ad (up σ 20 z v) τ := by
  refine RE_ext (by decide) (fun k hk hne => ?_) ?_
  · rcases (show k = 0 ∨ k = 1 ∨ k = 2 ∨ k = 3 ∨ k = 4 ∨ k = 5 ∨ k = 6 ∨ k = 7 ∨ k = 8 ∨ k = 9 ∨ k = 10 ∨ k = 11 ∨ k = 12 ∨ k = 13 ∨ k = 14 ∨ k = 15 ∨ k = 16 ∨ k = 17 ∨ k = 18 ∨ k = 19 ∨ k = 20 ∨ k = 21 ∨ k = 22 ∨ k = 23 ∨ k = 24 ∨ k = 25 ∨ k = 26 by omega) with rfl | rfl | rfl | rfl | rfl | rfl | rfl | rfl | rfl | rfl | rfl | rfl | rfl | rfl | rfl | rfl | rfl | rfl | rfl | rfl | rfl | rfl | rfl | rfl | rfl | rfl | rfl <;> first | exact absurd rfl hne | rfl | (simp only [RE]; simp [FM, up]; done) | (simp only [RE]; simp [tD, up]; done) | (simp only [RE]; rw [tI_o (by decide)]) | (simp only [RE]; rw [tL_o (by decide)])
  · rw [RE_20]; rw [tD_up h h2]
theorem rn_begins {z v : Int} (h : 0 ≤ z) (h2 : z = τ 0 2) (h3 : σ 20 z = v) : va_up (RE G ad σ τ) 20 (.inl (G 0, 60, .inl (upd (tD σ 20 (τ 0 2)) z.toNat (iI v)))) = RE G ad σ (up τ 0 2 (z + 1)) := by
  refine RE_ext (by decide) (fun k hk hne => ?_) ?_
  · rcases (show k = 0 ∨ k = 1 ∨ k = 2 ∨ k = 3 ∨ k = 4 ∨ k = 5 ∨ k = 6 ∨ k = 7 ∨ k = 8 ∨ k = 9 ∨ k = 10 ∨ k = 11 ∨ k = 12 ∨ k = 13 ∨ k = 14 ∨ k = 15 ∨ k = 16 ∨ k = 17 ∨ k = 18 ∨ k = 19 ∨ k = 20 ∨ k = 21 ∨ k = 22 ∨ k = 23 ∨ k = 24 ∨ k = 25 ∨ k = 26 by omega) with rfl | rfl | rfl | rfl | rfl | rfl | rfl | rfl | rfl | rfl | rfl | rfl | rfl | rfl | rfl | rfl | rfl | rfl | rfl | rfl | rfl | rfl | rfl | rfl | rfl | rfl | rfl <;> first | exact absurd rfl hne | rfl | (simp only [RE]; simp [FM, up]; done) | (simp only [RE]; simp [tD, up]; done) | (simp only [RE]; rw [tI_o (by decide)]) | (simp only [RE]; rw [tL_o (by decide)])
  · rw [RE_20]; rw [tD_new h h2 h3, up_self]
theorem ru_ends {z v : Int} (h : 0 ≤ z) (h2 : z < τ 0 3) : va_up (RE G ad σ τ) 21 (.inl (G 0, 60, .inl (upd (tD σ 21 (τ 0 3)) z.toNat (iI v)))) = RE G ad (up σ 21 z v) τ := by
  refine RE_ext (by decide) (fun k hk hne => ?_) ?_
  · rcases (show k = 0 ∨ k = 1 ∨ k = 2 ∨ k = 3 ∨ k = 4 ∨ k = 5 ∨ k = 6 ∨ k = 7 ∨ k = 8 ∨ k = 9 ∨ k = 10 ∨ k = 11 ∨ k = 12 ∨ k = 13 ∨ k = 14 ∨ k = 15 ∨ k = 16 ∨ k = 17 ∨ k = 18 ∨ k = 19 ∨ k = 20 ∨ k = 21 ∨ k = 22 ∨ k = 23 ∨ k = 24 ∨ k = 25 ∨ k = 26 by omega) with rfl | rfl | rfl | rfl | rfl | rfl | rfl | rfl | rfl | rfl | rfl | rfl | rfl | rfl | rfl | rfl | rfl | rfl | rfl | rfl | rfl | rfl | rfl | rfl | rfl | rfl | rfl <;> first | exact absurd rfl hne | rfl | (simp only [RE]; simp [FM, up]; done) | (simp only [RE]; simp [tD, up]; done) | (simp only [RE]; rw [tI_o (by decide)]) | (simp only [RE]; rw [tL_o (by decide)])
  · rw [RE_21]; rw [tD_up h h2]
theorem rn_ends {z v : Int} (h : 0 ≤ z) (h2 : z = τ 0 3) (h3 : σ 21 z = v) : va_up (RE G ad σ τ) 21 (.inl (G 0, 60, .inl (upd (tD σ 21 (τ 0 3)) z.toNat (iI v)))) = RE G ad σ (up τ 0 3 (z + 1)) := by
  refine RE_ext (by decide) (fun k hk hne => ?_) ?_
  · rcases (show k = 0 ∨ k = 1 ∨ k = 2 ∨ k = 3 ∨ k = 4 ∨ k = 5 ∨ k = 6 ∨ k = 7 ∨ k = 8 ∨ k = 9 ∨ k = 10 ∨ k = 11 ∨ k = 12 ∨ k = 13 ∨ k = 14 ∨ k = 15 ∨ k = 16 ∨ k = 17 ∨ k = 18 ∨ k = 19 ∨ k = 20 ∨ k = 21 ∨ k = 22 ∨ k = 23 ∨ k = 24 ∨ k = 25 ∨ k = 26 by omega) with rfl | rfl | rfl | rfl | rfl | rfl | rfl | rfl | rfl | rfl | rfl | rfl | rfl | rfl | rfl | rfl | rfl | rfl | rfl | rfl | rfl | rfl | rfl | rfl | rfl | rfl | rfl <;> first | exact absurd rfl hne | rfl | (simp only [RE]; simp [FM, up]; done) | (simp only [RE]; simp [tD, up]; done) | (simp only [RE]; rw [tI_o (by decide)]) | (simp only [RE]; rw [tL_o (by decide)])
  · rw [RE_21]; rw [tD_new h h2 h3, up_self]
theorem ru_overs {z v : Int} (h : 0 ≤ z) : va_up (RE G ad σ τ) 22 (.inl (G 0, 60, .inl (upd (tI σ 22) z.toNat (iI v)))) = RE G ad (up σ 22 z v) τ := by
  refine RE_ext (by decide) (fun k hk hne => ?_) ?_
  · rcases (show k = 0 ∨ k = 1 ∨ k = 2 ∨ k = 3 ∨ k = 4 ∨ k = 5 ∨ k = 6 ∨ k = 7 ∨ k = 8 ∨ k = 9 ∨ k = 10 ∨ k = 11 ∨ k = 12 ∨ k = 13 ∨ k = 14 ∨ k = 15 ∨ k = 16 ∨ k = 17 ∨ k = 18 ∨ k = 19 ∨ k = 20 ∨ k = 21 ∨ k = 22 ∨ k = 23 ∨ k = 24 ∨ k = 25 ∨ k = 26 by omega) with rfl | rfl | rfl | rfl | rfl | rfl | rfl | rfl | rfl | rfl | rfl | rfl | rfl | rfl | rfl | rfl | rfl | rfl | rfl | rfl | rfl | rfl | rfl | rfl | rfl | rfl | rfl <;> first | exact absurd rfl hne | rfl | (simp only [RE]; simp [FM, up]; done) | (simp only [RE]; simp [tD, up]; done) | (simp only [RE]; rw [tI_o (by decide)]) | (simp only [RE]; rw [tL_o (by decide)])
  · rw [RE_22]; rw [tI_up h]
theorem ru_joined {z v : Int} (h : 0 ≤ z) (h2 : z < τ 0 4) : va_up (RE G ad σ τ) 23 (.inl (G 0, 60, .inl (upd (tD σ 23 (τ 0 4)) z.toNat (iI v)))) = RE G ad (up σ 23 z v) τ := by
  refine RE_ext (by decide) (fun k hk hne => ?_) ?_
  · rcases (show k = 0 ∨ k = 1 ∨ k = 2 ∨ k = 3 ∨ k = 4 ∨ k = 5 ∨ k = 6 ∨ k = 7 ∨ k = 8 ∨ k = 9 ∨ k = 10 ∨ k = 11 ∨ k = 12 ∨ k = 13 ∨ k = 14 ∨ k = 15 ∨ k = 16 ∨ k = 17 ∨ k = 18 ∨ k = 19 ∨ k = 20 ∨ k = 21 ∨ k = 22 ∨ k = 23 ∨ k = 24 ∨ k = 25 ∨ k = 26 by omega) with rfl | rfl | rfl | rfl | rfl | rfl | rfl | rfl | rfl | rfl | rfl | rfl | rfl | rfl | rfl | rfl | rfl | rfl | rfl | rfl | rfl | rfl | rfl | rfl | rfl | rfl | rfl <;> first | exact absurd rfl hne | rfl | (simp only [RE]; simp [FM, up]; done) | (simp only [RE]; simp [tD, up]; done) | (simp only [RE]; rw [tI_o (by decide)]) | (simp only [RE]; rw [tL_o (by decide)])
  · rw [RE_23]; rw [tD_up h h2]
theorem rn_joined {z v : Int} (h : 0 ≤ z) (h2 : z = τ 0 4) (h3 : σ 23 z = v) : va_up (RE G ad σ τ) 23 (.inl (G 0, 60, .inl (upd (tD σ 23 (τ 0 4)) z.toNat (iI v)))) = RE G ad σ (up τ 0 4 (z + 1)) := by
  refine RE_ext (by decide) (fun k hk hne => ?_) ?_
  · rcases (show k = 0 ∨ k = 1 ∨ k = 2 ∨ k = 3 ∨ k = 4 ∨ k = 5 ∨ k = 6 ∨ k = 7 ∨ k = 8 ∨ k = 9 ∨ k = 10 ∨ k = 11 ∨ k = 12 ∨ k = 13 ∨ k = 14 ∨ k = 15 ∨ k = 16 ∨ k = 17 ∨ k = 18 ∨ k = 19 ∨ k = 20 ∨ k = 21 ∨ k = 22 ∨ k = 23 ∨ k = 24 ∨ k = 25 ∨ k = 26 by omega) with rfl | rfl | rfl | rfl | rfl | rfl | rfl | rfl | rfl | rfl | rfl | rfl | rfl | rfl | rfl | rfl | rfl | rfl | rfl | rfl | rfl | rfl | rfl | rfl | rfl | rfl | rfl <;> first | exact absurd rfl hne | rfl | (simp only [RE]; simp [FM, up]; done) | (simp only [RE]; simp [tD, up]; done) | (simp only [RE]; rw [tI_o (by decide)]) | (simp only [RE]; rw [tL_o (by decide)])
  · rw [RE_23]; rw [tD_new h h2 h3, up_self]
theorem ru_moved {z v : Int} (h : 0 ≤ z) : va_up (RE G ad σ τ) 24 (.inl (G 0, 60, .inl (upd (tI σ 24) z.toNat (iI v)))) = RE G ad (up σ 24 z v) τ := by
  refine RE_ext (by decide) (fun k hk hne => ?_) ?_
  · rcases (show k = 0 ∨ k = 1 ∨ k = 2 ∨ k = 3 ∨ k = 4 ∨ k = 5 ∨ k = 6 ∨ k = 7 ∨ k = 8 ∨ k = 9 ∨ k = 10 ∨ k = 11 ∨ k = 12 ∨ k = 13 ∨ k = 14 ∨ k = 15 ∨ k = 16 ∨ k = 17 ∨ k = 18 ∨ k = 19 ∨ k = 20 ∨ k = 21 ∨ k = 22 ∨ k = 23 ∨ k = 24 ∨ k = 25 ∨ k = 26 by omega) with rfl | rfl | rfl | rfl | rfl | rfl | rfl | rfl | rfl | rfl | rfl | rfl | rfl | rfl | rfl | rfl | rfl | rfl | rfl | rfl | rfl | rfl | rfl | rfl | rfl | rfl | rfl <;> first | exact absurd rfl hne | rfl | (simp only [RE]; simp [FM, up]; done) | (simp only [RE]; simp [tD, up]; done) | (simp only [RE]; rw [tI_o (by decide)]) | (simp only [RE]; rw [tL_o (by decide)])
  · rw [RE_24]; rw [tI_up h]
theorem ru_works {v : Int} : va_up (RE G ad σ τ) 0 (.inr (9, (FM ad σ τ).set 28 (.int (iI v)))) = RE G ad (up σ 0 2 v) τ := by
  refine RE_ext (by decide) (fun k hk hne => ?_) ?_
  · rcases (show k = 0 ∨ k = 1 ∨ k = 2 ∨ k = 3 ∨ k = 4 ∨ k = 5 ∨ k = 6 ∨ k = 7 ∨ k = 8 ∨ k = 9 ∨ k = 10 ∨ k = 11 ∨ k = 12 ∨ k = 13 ∨ k = 14 ∨ k = 15 ∨ k = 16 ∨ k = 17 ∨ k = 18 ∨ k = 19 ∨ k = 20 ∨ k = 21 ∨ k = 22 ∨ k = 23 ∨ k = 24 ∨ k = 25 ∨ k = 26 by omega) with rfl | rfl | rfl | rfl | rfl | rfl | rfl | rfl | rfl | rfl | rfl | rfl | rfl | rfl | rfl | rfl | rfl | rfl | rfl | rfl | rfl | rfl | rfl | rfl | rfl | rfl | rfl <;> first | exact absurd rfl hne | rfl | (simp only [RE]; simp [FM, up]; done) | (simp only [RE]; simp [tD, up]; done) | (simp only [RE]; rw [tI_o (by decide)]) | (simp only [RE]; rw [tL_o (by decide)])
  · rw [RE_0]; simp [FM, up]
theorem ru_brokenDay {v : Int} : va_up (RE G ad σ τ) 0 (.inr (9, (FM ad σ τ).set 29 (.int (iI v)))) = RE G ad σ (up τ 0 0 v) := by
  refine RE_ext (by decide) (fun k hk hne => ?_) ?_
  · rcases (show k = 0 ∨ k = 1 ∨ k = 2 ∨ k = 3 ∨ k = 4 ∨ k = 5 ∨ k = 6 ∨ k = 7 ∨ k = 8 ∨ k = 9 ∨ k = 10 ∨ k = 11 ∨ k = 12 ∨ k = 13 ∨ k = 14 ∨ k = 15 ∨ k = 16 ∨ k = 17 ∨ k = 18 ∨ k = 19 ∨ k = 20 ∨ k = 21 ∨ k = 22 ∨ k = 23 ∨ k = 24 ∨ k = 25 ∨ k = 26 by omega) with rfl | rfl | rfl | rfl | rfl | rfl | rfl | rfl | rfl | rfl | rfl | rfl | rfl | rfl | rfl | rfl | rfl | rfl | rfl | rfl | rfl | rfl | rfl | rfl | rfl | rfl | rfl <;> first | exact absurd rfl hne | rfl | (simp only [RE]; simp [FM, up]; done) | (simp only [RE]; simp [tD, up]; done) | (simp only [RE]; rw [tI_o (by decide)]) | (simp only [RE]; rw [tL_o (by decide)])
  · rw [RE_0]; simp [FM, up]
theorem ru_brokenAt {v : Int} : va_up (RE G ad σ τ) 0 (.inr (9, (FM ad σ τ).set 30 (.int (iI v)))) = RE G ad σ (up τ 0 1 v) := by
  refine RE_ext (by decide) (fun k hk hne => ?_) ?_
  · rcases (show k = 0 ∨ k = 1 ∨ k = 2 ∨ k = 3 ∨ k = 4 ∨ k = 5 ∨ k = 6 ∨ k = 7 ∨ k = 8 ∨ k = 9 ∨ k = 10 ∨ k = 11 ∨ k = 12 ∨ k = 13 ∨ k = 14 ∨ k = 15 ∨ k = 16 ∨ k = 17 ∨ k = 18 ∨ k = 19 ∨ k = 20 ∨ k = 21 ∨ k = 22 ∨ k = 23 ∨ k = 24 ∨ k = 25 ∨ k = 26 by omega) with rfl | rfl | rfl | rfl | rfl | rfl | rfl | rfl | rfl | rfl | rfl | rfl | rfl | rfl | rfl | rfl | rfl | rfl | rfl | rfl | rfl | rfl | rfl | rfl | rfl | rfl | rfl <;> first | exact absurd rfl hne | rfl | (simp only [RE]; simp [FM, up]; done) | (simp only [RE]; simp [tD, up]; done) | (simp only [RE]; rw [tI_o (by decide)]) | (simp only [RE]; rw [tL_o (by decide)])
  · rw [RE_0]; simp [FM, up]
theorem ru_toldDay {v : Int} : va_up (RE G ad σ τ) 0 (.inr (9, (FM ad σ τ).set 31 (.int (iI v)))) = RE G ad σ (up τ 0 5 v) := by
  refine RE_ext (by decide) (fun k hk hne => ?_) ?_
  · rcases (show k = 0 ∨ k = 1 ∨ k = 2 ∨ k = 3 ∨ k = 4 ∨ k = 5 ∨ k = 6 ∨ k = 7 ∨ k = 8 ∨ k = 9 ∨ k = 10 ∨ k = 11 ∨ k = 12 ∨ k = 13 ∨ k = 14 ∨ k = 15 ∨ k = 16 ∨ k = 17 ∨ k = 18 ∨ k = 19 ∨ k = 20 ∨ k = 21 ∨ k = 22 ∨ k = 23 ∨ k = 24 ∨ k = 25 ∨ k = 26 by omega) with rfl | rfl | rfl | rfl | rfl | rfl | rfl | rfl | rfl | rfl | rfl | rfl | rfl | rfl | rfl | rfl | rfl | rfl | rfl | rfl | rfl | rfl | rfl | rfl | rfl | rfl | rfl <;> first | exact absurd rfl hne | rfl | (simp only [RE]; simp [FM, up]; done) | (simp only [RE]; simp [tD, up]; done) | (simp only [RE]; rw [tI_o (by decide)]) | (simp only [RE]; rw [tL_o (by decide)])
  · rw [RE_0]; simp [FM, up]
theorem ru_toldAt {v : Int} : va_up (RE G ad σ τ) 0 (.inr (9, (FM ad σ τ).set 32 (.int (iI v)))) = RE G ad σ (up τ 0 6 v) := by
  refine RE_ext (by decide) (fun k hk hne => ?_) ?_
  · rcases (show k = 0 ∨ k = 1 ∨ k = 2 ∨ k = 3 ∨ k = 4 ∨ k = 5 ∨ k = 6 ∨ k = 7 ∨ k = 8 ∨ k = 9 ∨ k = 10 ∨ k = 11 ∨ k = 12 ∨ k = 13 ∨ k = 14 ∨ k = 15 ∨ k = 16 ∨ k = 17 ∨ k = 18 ∨ k = 19 ∨ k = 20 ∨ k = 21 ∨ k = 22 ∨ k = 23 ∨ k = 24 ∨ k = 25 ∨ k = 26 by omega) with rfl | rfl | rfl | rfl | rfl | rfl | rfl | rfl | rfl | rfl | rfl | rfl | rfl | rfl | rfl | rfl | rfl | rfl | rfl | rfl | rfl | rfl | rfl | rfl | rfl | rfl | rfl <;> first | exact absurd rfl hne | rfl | (simp only [RE]; simp [FM, up]; done) | (simp only [RE]; simp [tD, up]; done) | (simp only [RE]; rw [tI_o (by decide)]) | (simp only [RE]; rw [tL_o (by decide)])
  · rw [RE_0]; simp [FM, up]
theorem ru_far {z v : Int} (h : 0 ≤ z) : va_up (RE G ad σ τ) 26 (.inl (G 0, 20, .inl (upd (tI τ 2) z.toNat (iI v)))) = RE G ad σ (up τ 2 z v) := by
  refine RE_ext (by decide) (fun k hk hne => ?_) ?_
  · rcases (show k = 0 ∨ k = 1 ∨ k = 2 ∨ k = 3 ∨ k = 4 ∨ k = 5 ∨ k = 6 ∨ k = 7 ∨ k = 8 ∨ k = 9 ∨ k = 10 ∨ k = 11 ∨ k = 12 ∨ k = 13 ∨ k = 14 ∨ k = 15 ∨ k = 16 ∨ k = 17 ∨ k = 18 ∨ k = 19 ∨ k = 20 ∨ k = 21 ∨ k = 22 ∨ k = 23 ∨ k = 24 ∨ k = 25 ∨ k = 26 by omega) with rfl | rfl | rfl | rfl | rfl | rfl | rfl | rfl | rfl | rfl | rfl | rfl | rfl | rfl | rfl | rfl | rfl | rfl | rfl | rfl | rfl | rfl | rfl | rfl | rfl | rfl | rfl <;> first | exact absurd rfl hne | rfl | (simp only [RE]; simp [FM, up]; done) | (simp only [RE]; simp [tD, up]; done) | (simp only [RE]; rw [tI_o (by decide)]) | (simp only [RE]; rw [tL_o (by decide)])
  · rw [RE_26]; rw [tI_up h]
end SR
