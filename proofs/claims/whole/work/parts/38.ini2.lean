theorem va_AO_use {A : Array Value} {U : State} {ty : FieldType} (h : va_Nw (.arrayOver ty) U) : (Cond.arrayOver ty).before A U = true := h
theorem n_De {A : Nat → Prop} {K : Nat} {ad : Nat → Nat} {E E' : Nat → va_E} (h : va_D A (kw K ad E)) : va_D A (kw K ad E') := kw_D (kInj_of h) (kAd_of h) E'
theorem n_cgq {D : va_G} {cl : List vw_C} {K : Nat} {ad : Nat → Nat} {E E' : Nat → va_E} {H : Heap} (k0 : Nat) {c : ClassId} {n : Nat} {f g : Nat → Option Nat} (h1 : E k0 = .inl (c, n, .inr (.inr (.inr (.inr f))))) (h2 : E' k0 = .inl (c, n, .inr (.inr (.inr (.inr g))))) (hfg : ∀ j, j < n → f j = g j) (he : ∀ k, k < K → k ≠ k0 → E k = E' k) (h : va_P D cl (kw K ad E) H) : va_P D cl (kw K ad E') H := fun k q hq => by
  obtain ⟨hk, rfl⟩ := kw_of hq
  have h3 := h k _ (kw_get hk)
  by_cases e : k = k0
  · subst e
    rw [h1] at h3
    rw [h2]
    exact va_at_q hfg h3
  · rw [← he k hk e]
    exact h3
def IE0b (G : Nat → ClassId) (t1 : Nat) (bd : Nat → Nat) (ad : Nat → Nat) (k : Nat) : va_E := match k with
  | 0 => .inr (0, [.ref t1, .ref (ad 1), .ref (ad 2), .int (iI 0), .ref (ad 3), .int (iI 0), .ref (ad 4), .ref (ad 5), .ref (ad 10)])
  | 1 => .inl (G 2, 60, .inl (fun _ => iI 0))
  | 2 => .inl (G 0, 60, .inl (fun _ => iI 0))
  | 3 => .inl (G 0, 60, .inl (fun _ => iI 0))
  | 4 => .inl (G 0, 40, .inl (fun _ => iI 0))
  | 5 => .inl (G 6, 4, .inr (.inr (.inr (.inr (fun j => some (bd (1 + j)))))))
  | 6 => .inl (G 0, 400, .inl (fun _ => iI 0))
  | 7 => .inl (G 0, 400, .inl (fun _ => iI 0))
  | 8 => .inl (G 0, 400, .inl (fun _ => iI 0))
  | 9 => .inl (G 0, 400, .inl (fun _ => iI 0))
  | _ => .inl (G 0, 400, .inl (fun _ => iI 0))
def IE0 (G : Nat → ClassId) (t1 : Nat) (ad : Nat → Nat) (k : Nat) : va_E := match k with
  | 0 => .inr (0, [.ref t1, .ref (ad 1), .ref (ad 2), .int (iI 0), .ref (ad 3), .int (iI 0), .ref (ad 4), .ref (ad 5), .ref (ad 10)])
  | 1 => .inl (G 2, 60, .inl (fun _ => iI 0))
  | 2 => .inl (G 0, 60, .inl (fun _ => iI 0))
  | 3 => .inl (G 0, 60, .inl (fun _ => iI 0))
  | 4 => .inl (G 0, 40, .inl (fun _ => iI 0))
  | 5 => .inl (G 6, 4, .inr (.inr (.inr (.inr (fun j => some (ad (6 + j)))))))
  | 6 => .inl (G 0, 400, .inl (fun _ => iI 0))
  | 7 => .inl (G 0, 400, .inl (fun _ => iI 0))
  | 8 => .inl (G 0, 400, .inl (fun _ => iI 0))
  | 9 => .inl (G 0, 400, .inl (fun _ => iI 0))
  | _ => .inl (G 0, 400, .inl (fun _ => iI 0))
abbrev riX0 : Room := { frames := 1, cells := 10, slots := 2224, locals := 12 }
set_option maxRecDepth 100000 in
set_option maxHeartbeats 1000000 in
theorem i_X0 {l : Launch} {D : va_G} {G : Nat → ClassId} {a0 sz : Nat} {t1 : Nat} : Met l yX0_init wsX0_init riX0 (iPc D G a0 sz 0 [.null, .null, .null, .int (iI 0), .null, .int (iI 0), .null, .null, .null] [.ref t1]) (iQ D 11 (IE0 G t1) a0 sz) 10 2224 (iA a0 sz) := by
  refine k_ini (cc := cX0_init) (maxL := 2) (by decide) rfl (Nat.le_of_ble_eq_true rfl) ?_
  intro p e s m below meth c ls hx hb hr hlocks hml hown hts hin hsz hK hNX hP hD hA hS hl
  subst hsz
  replace hl : lv_has ls 2 [(0, _), (1, _)] := hl
  replace hown : s.vm.findClass RX0 = some m.cls := hown
  refine lv_aload_n hx hb dX0_init_0 rfl (lv_at hl 0 rfl) ?_
  refine W.objInit hx hb hown (hts _ lo_X0) (hts _ oi_inst) (hts _ oi_code) rfl (by rw [hml]; exact hl.1) rfl dX0_init_1 (Nat.le_of_ble_eq_true rfl) (Nat.le_of_ble_eq_true rfl) ?_
  refine W.eq (g2 := F0 m 4 ls []) rfl ?_
  refine lv_aload_n hx hb dX0_init_4 rfl (lv_at hl 0 rfl) ?_
  refine r_bipush hx hb dX0_init_5 (by decide +kernel) ?_
  refine va_newa (atype := .boolean) (N' := 60) (a0 := (60, .inl (fun _ => iI 0))) hx hb (hts _ ac_boolean) rfl hK hP hD hS hA (fun _ => rfl) (by decide +kernel) (by decide +kernel) (by decide) (Nat.le_of_ble_eq_true rfl) (Nat.le_of_ble_eq_true rfl) dX0_init_7 (fun q1 cA H hK2 hP hD hS => ?_)
  obtain rfl : cA = G 2 := ty_eq 2 rfl hK2
  clear hK2
  refine W.widen (k := 1) (n := 60) (by decide) (by decide) ?_
  replace hP : va_P D vwCl [(a0, .inr (0, [.null, .null, .null, .int (iI 0), .null, .int (iI 0), .null, .null, .null])), (q1, .inl (G 2, 60, .inl (fun _ => iI 0)))] H := hP
  replace hD : va_D (iA a0 s.heap.size) [(a0, .inr (0, [.null, .null, .null, .int (iI 0), .null, .int (iI 0), .null, .null, .null])), (q1, .inl (G 2, 60, .inl (fun _ => iI 0)))] := hD
  refine va_putF (ci := 0) (v := .ref q1) (ty := (.array .boolean)) (C := RX0) (T := TX0) (N := 9) hx hb hts hi_X0 tyX0 tyX0_ok nmX0 hown hK hP hD hS 0 rfl rfl 1 (by decide) (hts _ lk_X0_9) (fun _ h9 => h9) rfl hin rfl (by decide +kernel) rfl rfl (Nat.le_of_ble_eq_true rfl) dX0_init_9 (fun H locs hP hD hS => ?_)
  replace hP : va_P D vwCl [(a0, .inr (0, [.null, .ref q1, .null, .int (iI 0), .null, .int (iI 0), .null, .null, .null])), (q1, .inl (G 2, 60, .inl (fun _ => iI 0)))] H := hP
  replace hD : va_D (iA a0 s.heap.size) [(a0, .inr (0, [.null, .ref q1, .null, .int (iI 0), .null, .int (iI 0), .null, .null, .null])), (q1, .inl (G 2, 60, .inl (fun _ => iI 0)))] := hD
  refine lv_aload_n hx hb dX0_init_12 rfl (lv_at hl 0 rfl) ?_
  refine r_bipush hx hb dX0_init_13 (by decide +kernel) ?_
  refine va_newa (atype := .int) (N' := 60) (a0 := (60, .inl (fun _ => iI 0))) hx hb (hts _ ac_int) rfl hK hP hD hS hA (fun _ => rfl) (by decide +kernel) (by decide +kernel) (by decide) (Nat.le_of_ble_eq_true rfl) (Nat.le_of_ble_eq_true rfl) dX0_init_15 (fun q2 cA H hK2 hP hD hS => ?_)
  obtain rfl : cA = G 0 := ty_eq 0 rfl hK2
  clear hK2
  refine W.widen (k := 2) (n := 120) (by decide) (by decide) ?_
  replace hP : va_P D vwCl [(a0, .inr (0, [.null, .ref q1, .null, .int (iI 0), .null, .int (iI 0), .null, .null, .null])), (q1, .inl (G 2, 60, .inl (fun _ => iI 0))), (q2, .inl (G 0, 60, .inl (fun _ => iI 0)))] H := hP
  replace hD : va_D (iA a0 s.heap.size) [(a0, .inr (0, [.null, .ref q1, .null, .int (iI 0), .null, .int (iI 0), .null, .null, .null])), (q1, .inl (G 2, 60, .inl (fun _ => iI 0))), (q2, .inl (G 0, 60, .inl (fun _ => iI 0)))] := hD
  refine va_putF (ci := 0) (v := .ref q2) (ty := (.array .int)) (C := RX0) (T := TX0) (N := 9) hx hb hts hi_X0 tyX0 tyX0_ok nmX0 hown hK hP hD hS 0 rfl rfl 2 (by decide) (hts _ lk_X0_15) (fun _ h9 => h9) rfl hin rfl (by decide +kernel) rfl rfl (Nat.le_of_ble_eq_true rfl) dX0_init_17 (fun H locs hP hD hS => ?_)
  replace hP : va_P D vwCl [(a0, .inr (0, [.null, .ref q1, .ref q2, .int (iI 0), .null, .int (iI 0), .null, .null, .null])), (q1, .inl (G 2, 60, .inl (fun _ => iI 0))), (q2, .inl (G 0, 60, .inl (fun _ => iI 0)))] H := hP
  replace hD : va_D (iA a0 s.heap.size) [(a0, .inr (0, [.null, .ref q1, .ref q2, .int (iI 0), .null, .int (iI 0), .null, .null, .null])), (q1, .inl (G 2, 60, .inl (fun _ => iI 0))), (q2, .inl (G 0, 60, .inl (fun _ => iI 0)))] := hD
  refine lv_aload_n hx hb dX0_init_20 rfl (lv_at hl 0 rfl) ?_
  refine r_bipush hx hb dX0_init_21 (by decide +kernel) ?_
  refine va_newa (atype := .int) (N' := 60) (a0 := (60, .inl (fun _ => iI 0))) hx hb (hts _ ac_int) rfl hK hP hD hS hA (fun _ => rfl) (by decide +kernel) (by decide +kernel) (by decide) (Nat.le_of_ble_eq_true rfl) (Nat.le_of_ble_eq_true rfl) dX0_init_23 (fun q3 cA H hK2 hP hD hS => ?_)
  obtain rfl : cA = G 0 := ty_eq 0 rfl hK2
  clear hK2
  refine W.widen (k := 3) (n := 180) (by decide) (by decide) ?_
  replace hP : va_P D vwCl [(a0, .inr (0, [.null, .ref q1, .ref q2, .int (iI 0), .null, .int (iI 0), .null, .null, .null])), (q1, .inl (G 2, 60, .inl (fun _ => iI 0))), (q2, .inl (G 0, 60, .inl (fun _ => iI 0))), (q3, .inl (G 0, 60, .inl (fun _ => iI 0)))] H := hP
  replace hD : va_D (iA a0 s.heap.size) [(a0, .inr (0, [.null, .ref q1, .ref q2, .int (iI 0), .null, .int (iI 0), .null, .null, .null])), (q1, .inl (G 2, 60, .inl (fun _ => iI 0))), (q2, .inl (G 0, 60, .inl (fun _ => iI 0))), (q3, .inl (G 0, 60, .inl (fun _ => iI 0)))] := hD
  refine va_putF (ci := 0) (v := .ref q3) (ty := (.array .int)) (C := RX0) (T := TX0) (N := 9) hx hb hts hi_X0 tyX0 tyX0_ok nmX0 hown hK hP hD hS 0 rfl rfl 4 (by decide) (hts _ lk_X0_19) (fun _ h9 => h9) rfl hin rfl (by decide +kernel) rfl rfl (Nat.le_of_ble_eq_true rfl) dX0_init_25 (fun H locs hP hD hS => ?_)
  replace hP : va_P D vwCl [(a0, .inr (0, [.null, .ref q1, .ref q2, .int (iI 0), .ref q3, .int (iI 0), .null, .null, .null])), (q1, .inl (G 2, 60, .inl (fun _ => iI 0))), (q2, .inl (G 0, 60, .inl (fun _ => iI 0))), (q3, .inl (G 0, 60, .inl (fun _ => iI 0)))] H := hP
  replace hD : va_D (iA a0 s.heap.size) [(a0, .inr (0, [.null, .ref q1, .ref q2, .int (iI 0), .ref q3, .int (iI 0), .null, .null, .null])), (q1, .inl (G 2, 60, .inl (fun _ => iI 0))), (q2, .inl (G 0, 60, .inl (fun _ => iI 0))), (q3, .inl (G 0, 60, .inl (fun _ => iI 0)))] := hD
  refine lv_aload_n hx hb dX0_init_28 rfl (lv_at hl 0 rfl) ?_
  refine r_bipush hx hb dX0_init_29 (by decide +kernel) ?_
  refine va_newa (atype := .int) (N' := 40) (a0 := (40, .inl (fun _ => iI 0))) hx hb (hts _ ac_int) rfl hK hP hD hS hA (fun _ => rfl) (by decide +kernel) (by decide +kernel) (by decide) (Nat.le_of_ble_eq_true rfl) (Nat.le_of_ble_eq_true rfl) dX0_init_31 (fun q4 cA H hK2 hP hD hS => ?_)
  obtain rfl : cA = G 0 := ty_eq 0 rfl hK2
  clear hK2
  refine W.widen (k := 4) (n := 220) (by decide) (by decide) ?_
  replace hP : va_P D vwCl [(a0, .inr (0, [.null, .ref q1, .ref q2, .int (iI 0), .ref q3, .int (iI 0), .null, .null, .null])), (q1, .inl (G 2, 60, .inl (fun _ => iI 0))), (q2, .inl (G 0, 60, .inl (fun _ => iI 0))), (q3, .inl (G 0, 60, .inl (fun _ => iI 0))), (q4, .inl (G 0, 40, .inl (fun _ => iI 0)))] H := hP
  replace hD : va_D (iA a0 s.heap.size) [(a0, .inr (0, [.null, .ref q1, .ref q2, .int (iI 0), .ref q3, .int (iI 0), .null, .null, .null])), (q1, .inl (G 2, 60, .inl (fun _ => iI 0))), (q2, .inl (G 0, 60, .inl (fun _ => iI 0))), (q3, .inl (G 0, 60, .inl (fun _ => iI 0))), (q4, .inl (G 0, 40, .inl (fun _ => iI 0)))] := hD
  refine va_putF (ci := 0) (v := .ref q4) (ty := (.array .int)) (C := RX0) (T := TX0) (N := 9) hx hb hts hi_X0 tyX0 tyX0_ok nmX0 hown hK hP hD hS 0 rfl rfl 6 (by decide) (hts _ lk_X0_22) (fun _ h9 => h9) rfl hin rfl (by decide +kernel) rfl rfl (Nat.le_of_ble_eq_true rfl) dX0_init_33 (fun H locs hP hD hS => ?_)
  replace hP : va_P D vwCl [(a0, .inr (0, [.null, .ref q1, .ref q2, .int (iI 0), .ref q3, .int (iI 0), .ref q4, .null, .null])), (q1, .inl (G 2, 60, .inl (fun _ => iI 0))), (q2, .inl (G 0, 60, .inl (fun _ => iI 0))), (q3, .inl (G 0, 60, .inl (fun _ => iI 0))), (q4, .inl (G 0, 40, .inl (fun _ => iI 0)))] H := hP
  replace hD : va_D (iA a0 s.heap.size) [(a0, .inr (0, [.null, .ref q1, .ref q2, .int (iI 0), .ref q3, .int (iI 0), .ref q4, .null, .null])), (q1, .inl (G 2, 60, .inl (fun _ => iI 0))), (q2, .inl (G 0, 60, .inl (fun _ => iI 0))), (q3, .inl (G 0, 60, .inl (fun _ => iI 0))), (q4, .inl (G 0, 40, .inl (fun _ => iI 0)))] := hD
  refine lv_aload_n hx hb dX0_init_36 rfl (lv_at hl 0 rfl) ?_
  refine r_const hx hb dX0_init_37 ?_
  refine r_sipush hx hb dX0_init_38 (by decide +kernel) ?_
  refine n_mna hx hb hown (hts _ lq_X0_25) (va_AO_use hNX.2.2.2.1) (hts _ ac_int) hK hP hD hS hA (Nat.le_of_ble_eq_true rfl) (Nat.le_of_ble_eq_true rfl) dX0_init_41 (fun bd H hP hD hS => ?_)
  refine W.widen (k := 9) (n := 1824) (by decide) (by decide) ?_
  replace hP : va_P D vwCl [(a0, .inr (0, [.null, .ref q1, .ref q2, .int (iI 0), .ref q3, .int (iI 0), .ref q4, .null, .null])), (q1, .inl (G 2, 60, .inl (fun _ => iI 0))), (q2, .inl (G 0, 60, .inl (fun _ => iI 0))), (q3, .inl (G 0, 60, .inl (fun _ => iI 0))), (q4, .inl (G 0, 40, .inl (fun _ => iI 0))), (bd 0, .inl (G 6, 4, .inr (.inr (.inr (.inr (fun j => some (bd (1 + j)))))))), (bd 1, .inl (G 0, 400, .inl (fun _ => iI 0))), (bd 2, .inl (G 0, 400, .inl (fun _ => iI 0))), (bd 3, .inl (G 0, 400, .inl (fun _ => iI 0))), (bd 4, .inl (G 0, 400, .inl (fun _ => iI 0)))] H := hP
  replace hD : va_D (iA a0 s.heap.size) [(a0, .inr (0, [.null, .ref q1, .ref q2, .int (iI 0), .ref q3, .int (iI 0), .ref q4, .null, .null])), (q1, .inl (G 2, 60, .inl (fun _ => iI 0))), (q2, .inl (G 0, 60, .inl (fun _ => iI 0))), (q3, .inl (G 0, 60, .inl (fun _ => iI 0))), (q4, .inl (G 0, 40, .inl (fun _ => iI 0))), (bd 0, .inl (G 6, 4, .inr (.inr (.inr (.inr (fun j => some (bd (1 + j)))))))), (bd 1, .inl (G 0, 400, .inl (fun _ => iI 0))), (bd 2, .inl (G 0, 400, .inl (fun _ => iI 0))), (bd 3, .inl (G 0, 400, .inl (fun _ => iI 0))), (bd 4, .inl (G 0, 400, .inl (fun _ => iI 0)))] := hD
  refine va_putF (ci := 0) (v := .ref (bd 0)) (ty := (.array (.array .int))) (C := RX0) (T := TX0) (N := 9) hx hb hts hi_X0 tyX0 tyX0_ok nmX0 hown hK hP hD hS 0 rfl rfl 7 (by decide) (hts _ lk_X0_27) (fun _ h9 => h9) rfl hin rfl (by decide +kernel) rfl rfl (Nat.le_of_ble_eq_true rfl) dX0_init_45 (fun H locs hP hD hS => ?_)
  replace hP : va_P D vwCl [(a0, .inr (0, [.null, .ref q1, .ref q2, .int (iI 0), .ref q3, .int (iI 0), .ref q4, .ref (bd 0), .null])), (q1, .inl (G 2, 60, .inl (fun _ => iI 0))), (q2, .inl (G 0, 60, .inl (fun _ => iI 0))), (q3, .inl (G 0, 60, .inl (fun _ => iI 0))), (q4, .inl (G 0, 40, .inl (fun _ => iI 0))), (bd 0, .inl (G 6, 4, .inr (.inr (.inr (.inr (fun j => some (bd (1 + j)))))))), (bd 1, .inl (G 0, 400, .inl (fun _ => iI 0))), (bd 2, .inl (G 0, 400, .inl (fun _ => iI 0))), (bd 3, .inl (G 0, 400, .inl (fun _ => iI 0))), (bd 4, .inl (G 0, 400, .inl (fun _ => iI 0)))] H := hP
  replace hD : va_D (iA a0 s.heap.size) [(a0, .inr (0, [.null, .ref q1, .ref q2, .int (iI 0), .ref q3, .int (iI 0), .ref q4, .ref (bd 0), .null])), (q1, .inl (G 2, 60, .inl (fun _ => iI 0))), (q2, .inl (G 0, 60, .inl (fun _ => iI 0))), (q3, .inl (G 0, 60, .inl (fun _ => iI 0))), (q4, .inl (G 0, 40, .inl (fun _ => iI 0))), (bd 0, .inl (G 6, 4, .inr (.inr (.inr (.inr (fun j => some (bd (1 + j)))))))), (bd 1, .inl (G 0, 400, .inl (fun _ => iI 0))), (bd 2, .inl (G 0, 400, .inl (fun _ => iI 0))), (bd 3, .inl (G 0, 400, .inl (fun _ => iI 0))), (bd 4, .inl (G 0, 400, .inl (fun _ => iI 0)))] := hD
  refine lv_aload_n hx hb dX0_init_48 rfl (lv_at hl 0 rfl) ?_
  refine r_sipush hx hb dX0_init_49 (by decide +kernel) ?_
  refine va_newa (atype := .int) (N' := 400) (a0 := (400, .inl (fun _ => iI 0))) hx hb (hts _ ac_int) rfl hK hP hD hS hA (fun _ => rfl) (by decide +kernel) (by decide +kernel) (by decide) (Nat.le_of_ble_eq_true rfl) (Nat.le_of_ble_eq_true rfl) dX0_init_52 (fun q10 cA H hK2 hP hD hS => ?_)
  obtain rfl : cA = G 0 := ty_eq 0 rfl hK2
  clear hK2
  refine W.widen (k := 10) (n := 2224) (by decide) (by decide) ?_
  replace hP : va_P D vwCl [(a0, .inr (0, [.null, .ref q1, .ref q2, .int (iI 0), .ref q3, .int (iI 0), .ref q4, .ref (bd 0), .null])), (q1, .inl (G 2, 60, .inl (fun _ => iI 0))), (q2, .inl (G 0, 60, .inl (fun _ => iI 0))), (q3, .inl (G 0, 60, .inl (fun _ => iI 0))), (q4, .inl (G 0, 40, .inl (fun _ => iI 0))), (bd 0, .inl (G 6, 4, .inr (.inr (.inr (.inr (fun j => some (bd (1 + j)))))))), (bd 1, .inl (G 0, 400, .inl (fun _ => iI 0))), (bd 2, .inl (G 0, 400, .inl (fun _ => iI 0))), (bd 3, .inl (G 0, 400, .inl (fun _ => iI 0))), (bd 4, .inl (G 0, 400, .inl (fun _ => iI 0))), (q10, .inl (G 0, 400, .inl (fun _ => iI 0)))] H := hP
  replace hD : va_D (iA a0 s.heap.size) [(a0, .inr (0, [.null, .ref q1, .ref q2, .int (iI 0), .ref q3, .int (iI 0), .ref q4, .ref (bd 0), .null])), (q1, .inl (G 2, 60, .inl (fun _ => iI 0))), (q2, .inl (G 0, 60, .inl (fun _ => iI 0))), (q3, .inl (G 0, 60, .inl (fun _ => iI 0))), (q4, .inl (G 0, 40, .inl (fun _ => iI 0))), (bd 0, .inl (G 6, 4, .inr (.inr (.inr (.inr (fun j => some (bd (1 + j)))))))), (bd 1, .inl (G 0, 400, .inl (fun _ => iI 0))), (bd 2, .inl (G 0, 400, .inl (fun _ => iI 0))), (bd 3, .inl (G 0, 400, .inl (fun _ => iI 0))), (bd 4, .inl (G 0, 400, .inl (fun _ => iI 0))), (q10, .inl (G 0, 400, .inl (fun _ => iI 0)))] := hD
  refine va_putF (ci := 0) (v := .ref q10) (ty := (.array .int)) (C := RX0) (T := TX0) (N := 9) hx hb hts hi_X0 tyX0 tyX0_ok nmX0 hown hK hP hD hS 0 rfl rfl 8 (by decide) (hts _ lk_X0_30) (fun _ h9 => h9) rfl hin rfl (by decide +kernel) rfl rfl (Nat.le_of_ble_eq_true rfl) dX0_init_54 (fun H locs hP hD hS => ?_)
  replace hP : va_P D vwCl [(a0, .inr (0, [.null, .ref q1, .ref q2, .int (iI 0), .ref q3, .int (iI 0), .ref q4, .ref (bd 0), .ref q10])), (q1, .inl (G 2, 60, .inl (fun _ => iI 0))), (q2, .inl (G 0, 60, .inl (fun _ => iI 0))), (q3, .inl (G 0, 60, .inl (fun _ => iI 0))), (q4, .inl (G 0, 40, .inl (fun _ => iI 0))), (bd 0, .inl (G 6, 4, .inr (.inr (.inr (.inr (fun j => some (bd (1 + j)))))))), (bd 1, .inl (G 0, 400, .inl (fun _ => iI 0))), (bd 2, .inl (G 0, 400, .inl (fun _ => iI 0))), (bd 3, .inl (G 0, 400, .inl (fun _ => iI 0))), (bd 4, .inl (G 0, 400, .inl (fun _ => iI 0))), (q10, .inl (G 0, 400, .inl (fun _ => iI 0)))] H := hP
  replace hD : va_D (iA a0 s.heap.size) [(a0, .inr (0, [.null, .ref q1, .ref q2, .int (iI 0), .ref q3, .int (iI 0), .ref q4, .ref (bd 0), .ref q10])), (q1, .inl (G 2, 60, .inl (fun _ => iI 0))), (q2, .inl (G 0, 60, .inl (fun _ => iI 0))), (q3, .inl (G 0, 60, .inl (fun _ => iI 0))), (q4, .inl (G 0, 40, .inl (fun _ => iI 0))), (bd 0, .inl (G 6, 4, .inr (.inr (.inr (.inr (fun j => some (bd (1 + j)))))))), (bd 1, .inl (G 0, 400, .inl (fun _ => iI 0))), (bd 2, .inl (G 0, 400, .inl (fun _ => iI 0))), (bd 3, .inl (G 0, 400, .inl (fun _ => iI 0))), (bd 4, .inl (G 0, 400, .inl (fun _ => iI 0))), (q10, .inl (G 0, 400, .inl (fun _ => iI 0)))] := hD
  refine lv_aload_n hx hb dX0_init_57 rfl (lv_at hl 0 rfl) ?_
  refine lv_aload_n hx hb dX0_init_58 rfl (lv_at hl 1 rfl) ?_
  refine va_putF (ci := 0) (v := .ref t1) (ty := (.object "RoadWorks$Town")) (C := RX0) (T := TX0) (N := 9) hx hb hts hi_X0 tyX0 tyX0_ok nmX0 hown hK hP hD hS 0 rfl rfl 0 (by decide) (hts _ lk_X0_33) (fun _ h9 => h9) rfl hin rfl (by decide +kernel) rfl rfl (Nat.le_of_ble_eq_true rfl) dX0_init_59 (fun H locs hP hD hS => ?_)
  replace hP : va_P D vwCl [(a0, .inr (0, [.ref t1, .ref q1, .ref q2, .int (iI 0), .ref q3, .int (iI 0), .ref q4, .ref (bd 0), .ref q10])), (q1, .inl (G 2, 60, .inl (fun _ => iI 0))), (q2, .inl (G 0, 60, .inl (fun _ => iI 0))), (q3, .inl (G 0, 60, .inl (fun _ => iI 0))), (q4, .inl (G 0, 40, .inl (fun _ => iI 0))), (bd 0, .inl (G 6, 4, .inr (.inr (.inr (.inr (fun j => some (bd (1 + j)))))))), (bd 1, .inl (G 0, 400, .inl (fun _ => iI 0))), (bd 2, .inl (G 0, 400, .inl (fun _ => iI 0))), (bd 3, .inl (G 0, 400, .inl (fun _ => iI 0))), (bd 4, .inl (G 0, 400, .inl (fun _ => iI 0))), (q10, .inl (G 0, 400, .inl (fun _ => iI 0)))] H := hP
  replace hD : va_D (iA a0 s.heap.size) [(a0, .inr (0, [.ref t1, .ref q1, .ref q2, .int (iI 0), .ref q3, .int (iI 0), .ref q4, .ref (bd 0), .ref q10])), (q1, .inl (G 2, 60, .inl (fun _ => iI 0))), (q2, .inl (G 0, 60, .inl (fun _ => iI 0))), (q3, .inl (G 0, 60, .inl (fun _ => iI 0))), (q4, .inl (G 0, 40, .inl (fun _ => iI 0))), (bd 0, .inl (G 6, 4, .inr (.inr (.inr (.inr (fun j => some (bd (1 + j)))))))), (bd 1, .inl (G 0, 400, .inl (fun _ => iI 0))), (bd 2, .inl (G 0, 400, .inl (fun _ => iI 0))), (bd 3, .inl (G 0, 400, .inl (fun _ => iI 0))), (bd 4, .inl (G 0, 400, .inl (fun _ => iI 0))), (q10, .inl (G 0, 400, .inl (fun _ => iI 0)))] := hD
  have hE : kw 11 (adL [a0, q1, q2, q3, q4, bd 0, bd 1, bd 2, bd 3, bd 4, q10]) (IE0b G t1 bd (adL [a0, q1, q2, q3, q4, bd 0, bd 1, bd 2, bd 3, bd 4, q10])) = [(a0, .inr (0, [.ref t1, .ref q1, .ref q2, .int (iI 0), .ref q3, .int (iI 0), .ref q4, .ref (bd 0), .ref q10])), (q1, .inl (G 2, 60, .inl (fun _ => iI 0))), (q2, .inl (G 0, 60, .inl (fun _ => iI 0))), (q3, .inl (G 0, 60, .inl (fun _ => iI 0))), (q4, .inl (G 0, 40, .inl (fun _ => iI 0))), (bd 0, .inl (G 6, 4, .inr (.inr (.inr (.inr (fun j => some (bd (1 + j)))))))), (bd 1, .inl (G 0, 400, .inl (fun _ => iI 0))), (bd 2, .inl (G 0, 400, .inl (fun _ => iI 0))), (bd 3, .inl (G 0, 400, .inl (fun _ => iI 0))), (bd 4, .inl (G 0, 400, .inl (fun _ => iI 0))), (q10, .inl (G 0, 400, .inl (fun _ => iI 0)))] := rfl
  replace hP : va_P D vwCl (kw 11 (adL [a0, q1, q2, q3, q4, bd 0, bd 1, bd 2, bd 3, bd 4, q10]) (IE0 G t1 (adL [a0, q1, q2, q3, q4, bd 0, bd 1, bd 2, bd 3, bd 4, q10]))) H := n_cgq 5 rfl rfl (fun j hj => by rcases (show j = 0 ∨ j = 1 ∨ j = 2 ∨ j = 3 by omega) with rfl | rfl | rfl | rfl <;> rfl) (fun k h1 h2 => by rcases (show k = 0 ∨ k = 1 ∨ k = 2 ∨ k = 3 ∨ k = 4 ∨ k = 5 ∨ k = 6 ∨ k = 7 ∨ k = 8 ∨ k = 9 ∨ k = 10 by omega) with rfl | rfl | rfl | rfl | rfl | rfl | rfl | rfl | rfl | rfl | rfl <;> first | rfl | exact absurd rfl h2) (hE ▸ hP)
  replace hD : va_D (iA a0 s.heap.size) (kw 11 (adL [a0, q1, q2, q3, q4, bd 0, bd 1, bd 2, bd 3, bd 4, q10]) (IE0 G t1 (adL [a0, q1, q2, q3, q4, bd 0, bd 1, bd 2, bd 3, bd 4, q10]))) := n_De (E := IE0b G t1 bd (adL [a0, q1, q2, q3, q4, bd 0, bd 1, bd 2, bd 3, bd 4, q10])) (hE ▸ hD)
  refine W.widen (k := 10) (n := 2224) (Nat.le_refl _) (Nat.le_refl _) ?_
  exact W.vret hx hb hr (fun t ht hW => ⟨⟨adL [a0, q1, q2, q3, q4, bd 0, bd 1, bd 2, bd 3, bd 4, q10], rfl, rfl, by rw [ht]; exact hP, hD⟩, hS.F ht⟩) hS.2.2 dX0_init_62
