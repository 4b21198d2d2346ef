theorem kn_ex {args : Array Value} {s : State} (hts : ∀ w ∈ lw_tbl, w.before args s = true) : ∃ (D : va_G) (G : Nat → ClassId), va_K D vwCl (tysG G) s ∧ NX s := by
  have ht : ∀ w ∈ wT, w.before args s = true := fun w h => hts w (wT_tbl h)
  have hD : ∀ c, ∃ x : ClassId × (Nat → Nat), ∀ q : vw_C, vwCl[c]? = some q → u_Kn s q.1 q.2.1 q.2.2 x.1 x.2 := fun c => match c with
    | 0 => by obtain ⟨a, b, h⟩ := u_known ht hi_X0 (ht _ lj_X0); exact ⟨(a, b), fun q hq => by cases hq; exact h⟩
    | 1 => by obtain ⟨a, b, h⟩ := u_known ht hi_X1 (ht _ lj_X1); exact ⟨(a, b), fun q hq => by cases hq; exact h⟩
    | 2 => by obtain ⟨a, b, h⟩ := u_known ht hi_X2 (ht _ lj_X2); exact ⟨(a, b), fun q hq => by cases hq; exact h⟩
    | 3 => by obtain ⟨a, b, h⟩ := u_known ht hi_X3 (ht _ lj_X3); exact ⟨(a, b), fun q hq => by cases hq; exact h⟩
    | 4 => by obtain ⟨a, b, h⟩ := u_known ht hi_X4 (ht _ lj_X4); exact ⟨(a, b), fun q hq => by cases hq; exact h⟩
    | 5 => by obtain ⟨a, b, h⟩ := u_known ht hi_X5 (ht _ lj_X5); exact ⟨(a, b), fun q hq => by cases hq; exact h⟩
    | 6 => by obtain ⟨a, b, h⟩ := u_known ht hi_X6 (ht _ lj_X6); exact ⟨(a, b), fun q hq => by cases hq; exact h⟩
    | 7 => by obtain ⟨a, b, h⟩ := u_known ht hi_X7 (ht _ lj_X7); exact ⟨(a, b), fun q hq => by cases hq; exact h⟩
    | 8 => by obtain ⟨a, b, h⟩ := u_known ht hi_X8 (ht _ lj_X8); exact ⟨(a, b), fun q hq => by cases hq; exact h⟩
    | 9 => by obtain ⟨a, b, h⟩ := u_known ht hi_X9 (ht _ lj_X9); exact ⟨(a, b), fun q hq => by cases hq; exact h⟩
    | c + 10 => ⟨(0, fun _ => 0), fun q hq => by simp [vwCl] at hq⟩
  have hT : ∀ c, ∃ g : ClassId, ∀ ty, [FieldType.int, .long, .boolean, .object "RoadWorks$Pair", .object "RoadWorks$Piece", .object "RoadWorks$Work", .array .int][c]? = some ty → ArrOfT s g ty ∧ va_RA s g ty := fun c => match c with
    | 0 => by obtain ⟨cA, kA, comp, h1, h2, h3⟩ := Cond.arrayClass_spec (ht _ ac_int); exact ⟨cA, fun ty hq => by cases hq; exact ⟨fun n z => ⟨fun k h => (by cases h), kA, h2, comp, h3⟩, h1⟩⟩
    | 1 => by obtain ⟨cA, kA, comp, h1, h2, h3⟩ := Cond.arrayClass_spec (ht _ ac_long); exact ⟨cA, fun ty hq => by cases hq; exact ⟨fun n z => ⟨fun k h => (by cases h), kA, h2, comp, h3⟩, h1⟩⟩
    | 2 => by obtain ⟨cA, kA, comp, h1, h2, h3⟩ := Cond.arrayClass_spec (ht _ ac_boolean); exact ⟨cA, fun ty hq => by cases hq; exact ⟨fun n z => ⟨fun k h => (by cases h), kA, h2, comp, h3⟩, h1⟩⟩
    | 3 => by obtain ⟨comp, c, k, h1, h2, h3, h4, h5⟩ := Cond.arrayOver_spec (hts _ ao_X1); exact ⟨c, fun ty hq => by cases hq; exact ⟨fun N z => ⟨(fun k h => by cases h), k, h3, comp, h4⟩, ⟨k, comp, h3, h4, h1, h5⟩⟩⟩
    | 4 => by obtain ⟨comp, c, k, h1, h2, h3, h4, h5⟩ := Cond.arrayOver_spec (hts _ ao_X2); exact ⟨c, fun ty hq => by cases hq; exact ⟨fun N z => ⟨(fun k h => by cases h), k, h3, comp, h4⟩, ⟨k, comp, h3, h4, h1, h5⟩⟩⟩
    | 5 => by obtain ⟨comp, c, k, h1, h2, h3, h4, h5⟩ := Cond.arrayOver_spec (hts _ ao_X7); exact ⟨c, fun ty hq => by cases hq; exact ⟨fun N z => ⟨(fun k h => by cases h), k, h3, comp, h4⟩, ⟨k, comp, h3, h4, h1, h5⟩⟩⟩
    | 6 => by obtain ⟨comp, c, k, h1, h3, h4, h5⟩ := Cond.arrayOver_specA (hts _ ao_rows); exact ⟨c, fun ty hq => by cases hq; exact ⟨fun N z => ⟨(fun k h => by cases h), k, h3, comp, h4⟩, h5⟩⟩
    | c + 7 => ⟨0, fun q hq => by simp at hq⟩
  refine ⟨(fun c => (Classical.choose (hD c)).1, fun c => (Classical.choose (hD c)).2), fun c => Classical.choose (hT c), ⟨fun c q hq => Classical.choose_spec (hD c) q hq, fun k q hq => ?_⟩, ⟨hts _ ao_X2, hts _ ao_X1, hts _ ao_X7, hts _ ao_rows, va_Nw.of rfl (hts _ ln_X5_33), va_Nw.of rfl (hts _ ln_X5_34)⟩⟩
  match k, hq with
  | 0, hq => cases hq; exact Classical.choose_spec (hT 0) _ rfl
  | 1, hq => cases hq; exact Classical.choose_spec (hT 1) _ rfl
  | 2, hq => cases hq; exact Classical.choose_spec (hT 2) _ rfl
  | 3, hq => cases hq; exact Classical.choose_spec (hT 3) _ rfl
  | 4, hq => cases hq; exact Classical.choose_spec (hT 4) _ rfl
  | 5, hq => cases hq; exact Classical.choose_spec (hT 5) _ rfl
  | 6, hq => cases hq; exact Classical.choose_spec (hT 6) _ rfl
  | k + 7, hq => simp [tysG] at hq
theorem P_l {D : va_G} {cl : List vw_C} {w1 w2 : va_W} {H : Heap} (h : va_P D cl (w1 ++ w2) H) : va_P D cl w1 H := fun k q hq => h k q (by rw [List.getElem?_append_left (List.getElem?_eq_some_iff.mp hq).1]; exact hq)
theorem P_r {D : va_G} {cl : List vw_C} {w1 w2 : va_W} {H : Heap} (h : va_P D cl (w1 ++ w2) H) : va_P D cl w2 H := fun k q hq => h (w1.length + k) q (by rw [List.getElem?_append_right (Nat.le_add_right _ _), Nat.add_sub_cancel_left]; exact hq)
theorem D_l {A : Nat → Prop} {w1 w2 : va_W} (h : va_D A (w1 ++ w2)) : va_D A w1 :=
  have g : ∀ (k : Nat) (q : Nat × va_E), w1[k]? = some q → (w1 ++ w2)[k]? = some q := fun k q hq => by rw [List.getElem?_append_left (List.getElem?_eq_some_iff.mp hq).1]; exact hq
  ⟨fun i j p q hp hq e => h.1 i j p q (g i p hp) (g j q hq) e, fun k q hq => h.2 k q (g k q hq)⟩
theorem D_r {A : Nat → Prop} {w1 w2 : va_W} (h : va_D A (w1 ++ w2)) : va_D A w2 :=
  have g : ∀ (k : Nat) (q : Nat × va_E), w2[k]? = some q → (w1 ++ w2)[w1.length + k]? = some q := fun k q hq => by rw [List.getElem?_append_right (Nat.le_add_right _ _), Nat.add_sub_cancel_left]; exact hq
  ⟨fun i j p q hp hq e => by have := h.1 _ _ p q (g i p hp) (g j q hq) e; omega, fun k q hq => h.2 _ q (g k q hq)⟩
theorem D_d {A : Nat → Prop} {K n : Nat} {ad bd : Nat → Nat} {E F : Nat → va_E} (h : va_D A (kw K ad E ++ kw n bd F)) {i j : Nat} (hi : i < K) (hj : j < n) : ad i ≠ bd j := fun e => by
  have := h.1 i (K + j) (ad i, E i) (bd j, F j) (by rw [List.getElem?_append_left (by rw [kw_len]; exact hi), kw_get hi]) (by rw [List.getElem?_append_right (by rw [kw_len]; omega), kw_len, Nat.add_sub_cancel_left, kw_get hj]) e
  omega
set_option maxRecDepth 100000 in
set_option maxHeartbeats 4000000 in
/-- from the entry, for every script of at most 3072 ints, the law comes to its end with true -/
theorem whole_start {p : Program} {e : Env} {s : State} {m : MethodId} {below : List Frame} {meth : Method} {c : Code} (l : Launch) (hflags : l.flags = flags0) {b L : Nat} {xs : Nat → Int32} (hL : L ≤ 3072) (C0 : lw_At p s m meth c b L xs) : W p l e room_1 s m #[Value.ref b] below meth c s.heap [] 0 0 (lw_Z below #[Value.ref b] s) (entryFrame m ([Value.ref b] : List Value).toArray 4) := by
  obtain ⟨hx, hb, hr, hml, hown, hts0, hX, hbl, hlocks, hgv⟩ := id C0
  have hts : ∀ w ∈ wT, w.before #[Value.ref b] s = true := fun w h => hts0 w (wT_tbl h)
  obtain ⟨D, G, hK, hNX⟩ := kn_ex hts0
  have hA : ∀ q : Nat, s.heap.size ≤ q → (fun q : Nat => s.heap.size ≤ q) q := fun _ h => h
  have hS : va_S (fun q : Nat => s.heap.size ≤ q) s.heap s.heap [] := va_S.rf
  have hP : va_P D vwCl [] s.heap := fun k q h => by simp at h
  have hD : va_D (fun q : Nat => s.heap.size ≤ q) [] := ⟨fun i j p q h => by simp at h, fun k q h => by simp at h⟩
  have hl := lv_entry ([.ref b]) (n := 4) (Nat.le_of_ble_eq_true rfl)
  rw [lg_entry_eq]
  generalize (lg_sl ([.ref b]) ++ List.replicate (4 - (lg_sl ([.ref b])).length) Slot.unset).toArray = ls at hl ⊢
  replace hl : lv_has ls 4 [(0, .ref b)] := hl
  refine va_new (ci := 8) (fs := [.null, .null, .null, .null, .null, .int (iI 0), .int (iI 0), .int (iI 0)]) (C := RX8) (T := TX8) (N := 8) hx hb hts hi_X8 tyX8 tyX8_ok hown (hts _ lq_L_7) (hts _ lj_X8) (hts _ tn_X8) hK hP hD hS hA rfl (fun j hj => by rcases (show j = 0 ∨ j = 1 ∨ j = 2 ∨ j = 3 ∨ j = 4 ∨ j = 5 ∨ j = 6 ∨ j = 7 by omega) with rfl | rfl | rfl | rfl | rfl | rfl | rfl | rfl <;> rfl) (Nat.le_of_ble_eq_true rfl) (Nat.le_of_ble_eq_true rfl) dL_law_0 (fun q H hPn hDn hS => ?_)
  refine W.widen (k := 1) (n := 8) (by decide) (by decide) ?_
  refine lv_dup hx hb dL_law_3 rfl ?_
  refine n_calI (ws := []) (As := []) (rest := [.ref q]) hx hb hml hown hts hK hNX hPn hDn hS hA hl.1 i_X8 rfl (Nat.le_of_ble_eq_true rfl) (cwI 0 hts (gT yX8_init cX8_init 1 none tc_X8_init) rfl rfl rfl (hts _ tn_X8) (hts _ lm_L_9) (hts _ ti_X8_init) rfl (by decide +kernel) ⟨Nat.le_of_ble_eq_true rfl, Nat.le_of_ble_eq_true rfl⟩) rfl dL_law_4 ⟨Nat.le_of_ble_eq_true rfl, Nat.le_of_ble_eq_true rfl⟩ (fun cd H locs hq hP hD hS => ?_)
  subst hq
  refine W.widen (k := 189) (n := 4251) (by decide) (by decide) ?_
  refine lv_astore_n hx hb dL_law_7 rfl hl (by decide) rfl (fun ls hl => ?_)
  refine va_new (ci := 9) (fs := [.null, .null, .null, .null, .null, .null, .int (iI 0), .null, .null, .null, .int (iI 0), .null, .int (iI 0), .null, .null, .null, .null, .null, .null, .null, .null, .null, .null, .null, .null, .null, .null, .null, .int (iI 0), .int (iI 0), .int (iI 0), .int (iI 0), .int (iI 0), .null]) (C := RX9) (T := TX9) (N := 34) hx hb hts hi_X9 tyX9 tyX9_ok hown (hts _ lq_L_10) (hts _ lj_X9) (hts _ tn_X9) hK hP hD hS hA rfl (fun j hj => by rcases (show j = 0 ∨ j = 1 ∨ j = 2 ∨ j = 3 ∨ j = 4 ∨ j = 5 ∨ j = 6 ∨ j = 7 ∨ j = 8 ∨ j = 9 ∨ j = 10 ∨ j = 11 ∨ j = 12 ∨ j = 13 ∨ j = 14 ∨ j = 15 ∨ j = 16 ∨ j = 17 ∨ j = 18 ∨ j = 19 ∨ j = 20 ∨ j = 21 ∨ j = 22 ∨ j = 23 ∨ j = 24 ∨ j = 25 ∨ j = 26 ∨ j = 27 ∨ j = 28 ∨ j = 29 ∨ j = 30 ∨ j = 31 ∨ j = 32 ∨ j = 33 by omega) with rfl | rfl | rfl | rfl | rfl | rfl | rfl | rfl | rfl | rfl | rfl | rfl | rfl | rfl | rfl | rfl | rfl | rfl | rfl | rfl | rfl | rfl | rfl | rfl | rfl | rfl | rfl | rfl | rfl | rfl | rfl | rfl | rfl | rfl <;> rfl) (Nat.le_of_ble_eq_true rfl) (Nat.le_of_ble_eq_true rfl) dL_law_8 (fun q H hPn hDn hS => ?_)
  refine W.widen (k := 190) (n := 4285) (by decide) (by decide) ?_
  refine lv_dup hx hb dL_law_11 rfl ?_
  refine n_calI (ws := kw 189 cd (CE G cd σ0 τ0)) (As := []) (rest := [.ref q]) hx hb hml hown hts hK hNX hPn hDn hS hA hl.1 i_X9 rfl (Nat.le_of_ble_eq_true rfl) (cwI 0 hts (gT yX9_init cX9_init 1 none tc_X9_init) rfl rfl rfl (hts _ tn_X9) (hts _ lm_L_12) (hts _ ti_X9_init) rfl (by decide +kernel) ⟨Nat.le_of_ble_eq_true rfl, Nat.le_of_ble_eq_true rfl⟩) rfl dL_law_12 ⟨Nat.le_of_ble_eq_true rfl, Nat.le_of_ble_eq_true rfl⟩ (fun rd H locs hq hP hD hS => ?_)
  subst hq
  refine lv_astore_n hx hb dL_law_15 rfl hl (by decide) rfl (fun ls hl => ?_)
  refine r_const hx hb dL_law_16 ?_
  refine lv_istore_n hx hb dL_law_17 rfl hl (by decide) rfl (fun ls hl => ?_)
  obtain ⟨hPR, hDR⟩ := X9_fin (P_r hP) (D_r hD)
  refine W.widen (k := 600000) (n := 7302250) (by decide) (by decide) ?_
  refine law_loop hL C0 (adC := cd) (adR := fun k => rd (pi9 k)) hK (kInj_of (D_l hD)) (kInj_of hDR) ?_ ?_ ?_ ?_ _ 0 σ0 τ0 τR _ _ _ InvS_0 TI_0 RT_0 (P_l hP) hPR hS (lv_sub hl [3, 2, 1, 0] rfl) (by omega) (Nat.lt_succ_self _)
  · rintro q ⟨k, hk, rfl⟩; exact kAd_of (D_l hD) k hk
  · rintro q ⟨k, hk, rfl⟩; exact kAd_of hDR k hk
  · rintro j hj ⟨k, hk, e⟩; exact D_d hD hk (pi9_lt j hj) e.symm
  · rintro j hj ⟨k, hk, e⟩; exact D_d hD hj (pi9_lt k hk) e
