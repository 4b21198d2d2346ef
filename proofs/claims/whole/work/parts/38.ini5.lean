abbrev riX8 : Room := { frames := 3, cells := 188, slots := 4243, locals := 54 }
set_option maxRecDepth 100000 in
set_option maxHeartbeats 2000000 in
theorem i_X8 {l : Launch} {D : va_G} {G : Nat → ClassId} {a0 sz : Nat} : Met l yX8_init wsX8_init riX8 (iPc D G a0 sz 8 [.null, .null, .null, .null, .null, .int (iI 0), .int (iI 0), .int (iI 0)] []) (iQ D 189 (fun ad => CE G ad σ0 τ0) a0 sz) 188 4243 (iA a0 sz) := by
  refine k_ini (cc := cX8_init) (maxL := 1) (by decide) rfl (Nat.le_of_ble_eq_true rfl) ?_
  intro p e s m below meth c ls hx hb hr hlocks hml hown hts hin hsz hK hNX hP hD hA hS hl
  subst hsz
  replace hl : lv_has ls 1 [(0, _)] := hl
  replace hown : s.vm.findClass RX8 = some m.cls := hown
  refine lv_aload_n hx hb dX8_init_0 rfl (lv_at hl 0 rfl) ?_
  refine W.objInit hx hb hown (hts _ lo_X8) (hts _ oi_inst) (hts _ oi_code) rfl (by rw [hml]; exact hl.1) rfl dX8_init_1 (Nat.le_of_ble_eq_true rfl) (Nat.le_of_ble_eq_true rfl) ?_
  refine W.eq (g2 := F0 m 4 ls []) rfl ?_
  refine lv_aload_n hx hb dX8_init_4 rfl (lv_at hl 0 rfl) ?_
  refine va_new (ci := 5) (fs := [.null, .null, .null, .null, .int (iI 0), .int (iI 0), .int (iI 0), .int (iI 0)]) (C := RX5) (T := TX5) (N := 8) hx hb hts hi_X5 tyX5 tyX5_ok hown (hts _ lq_X8_7) (hts _ lj_X5) (hts _ tn_X5) hK hP hD hS hA rfl (fun j hj => by rcases (show j = 0 ∨ j = 1 ∨ j = 2 ∨ j = 3 ∨ j = 4 ∨ j = 5 ∨ j = 6 ∨ j = 7 by omega) with rfl | rfl | rfl | rfl | rfl | rfl | rfl | rfl <;> rfl) (Nat.le_of_ble_eq_true rfl) (Nat.le_of_ble_eq_true rfl) dX8_init_5 (fun q H hPn hDn hS => ?_)
  refine W.widen (k := 1) (n := 8) (by decide) (by decide) ?_
  refine lv_dup hx hb dX8_init_8 rfl ?_
  refine n_calI (ws := [(a0, .inr (8, [.null, .null, .null, .null, .null, .int (iI 0), .int (iI 0), .int (iI 0)]))]) (As := []) (rest := [.ref q, .ref a0]) hx hb hml hown hts hK hNX hPn hDn hS hA hl.1 i_X5 rfl (Nat.le_of_ble_eq_true rfl) (cwI 0 hts (gT yX5_init cX5_init 2 none tc_X5_init) rfl rfl rfl (hts _ tn_X5) (hts _ lm_X8_9) (hts _ ti_X5_init) rfl (by decide +kernel) ⟨Nat.le_of_ble_eq_true rfl, Nat.le_of_ble_eq_true rfl⟩) rfl dX8_init_9 ⟨Nat.le_of_ble_eq_true rfl, Nat.le_of_ble_eq_true rfl⟩ (fun t H locs hq hP hD hS => ?_)
  subst hq
  refine W.widen (k := 173) (n := 1980) (by decide) (by decide) ?_
  refine va_putF (ci := 8) (v := .ref (t 0)) (ty := .object "RoadWorks$Town") (C := RX8) (T := TX8) (N := 8) hx hb hts hi_X8 tyX8 tyX8_ok nmX8 hown hK hP hD hS 0 rfl rfl 0 (by decide) (hts _ lk_X8_10) (fun _ h9 => h9) rfl hin rfl (by decide +kernel) rfl rfl (Nat.le_of_ble_eq_true rfl) dX8_init_12 (fun H locs hP hD hS => ?_)
  replace hP : va_P D vwCl ([(a0, .inr (8, [.ref (t 0), .null, .null, .null, .null, .int (iI 0), .int (iI 0), .int (iI 0)]))] ++ kw 173 t (IE5 G t)) H := hP
  replace hD : va_D (iA a0 s.heap.size) ([(a0, .inr (8, [.ref (t 0), .null, .null, .null, .null, .int (iI 0), .int (iI 0), .int (iI 0)]))] ++ kw 173 t (IE5 G t)) := hD
  refine lv_aload_n hx hb dX8_init_15 rfl (lv_at hl 0 rfl) ?_
  refine va_new (ci := 0) (fs := [.null, .null, .null, .int (iI 0), .null, .int (iI 0), .null, .null, .null]) (C := RX0) (T := TX0) (N := 9) hx hb hts hi_X0 tyX0 tyX0_ok hown (hts _ lq_X8_16) (hts _ lj_X0) (hts _ tn_X0) hK hP hD hS hA rfl (fun j hj => by rcases (show j = 0 ∨ j = 1 ∨ j = 2 ∨ j = 3 ∨ j = 4 ∨ j = 5 ∨ j = 6 ∨ j = 7 ∨ j = 8 by omega) with rfl | rfl | rfl | rfl | rfl | rfl | rfl | rfl | rfl <;> rfl) (Nat.le_of_ble_eq_true rfl) (Nat.le_of_ble_eq_true rfl) dX8_init_16 (fun q H hPn hDn hS => ?_)
  refine W.widen (k := 174) (n := 1989) (by decide) (by decide) ?_
  refine lv_dup hx hb dX8_init_19 rfl ?_
  refine lv_aload_n hx hb dX8_init_20 rfl (lv_at hl 0 rfl) ?_
  refine va_get (C := RX8) (T := TX8) (N := 8) (ci := 8) (v := .ref (t 0)) hx hb hts hi_X8 hown hK hPn 0 rfl rfl 0 (by decide) (hts _ lk_X8_10) (fun _ h9 => h9) rfl dX8_init_21 ?_
  refine n_calI (ws := ([(a0, .inr (8, [.ref (t 0), .null, .null, .null, .null, .int (iI 0), .int (iI 0), .int (iI 0)]))] ++ kw 173 t (IE5 G t))) (As := [.ref (t 0)]) (rest := [.ref q, .ref a0]) hx hb hml hown hts hK hNX hPn hDn hS hA hl.1 i_X0 rfl (Nat.le_of_ble_eq_true rfl) (cwI 1 hts (gT yX0_init cX0_init 2 none tc_X0_init) rfl rfl rfl (hts _ tn_X0) (hts _ lm_X8_18) (hts _ ti_X0_init) rfl (by decide +kernel) ⟨Nat.le_of_ble_eq_true rfl, Nat.le_of_ble_eq_true rfl⟩) rfl dX8_init_24 ⟨Nat.le_of_ble_eq_true rfl, Nat.le_of_ble_eq_true rfl⟩ (fun c_1 H locs hq hP hD hS => ?_)
  subst hq
  refine W.widen (k := 184) (n := 4213) (by decide) (by decide) ?_
  refine va_putF (ci := 8) (v := .ref (c_1 0)) (ty := .object "RoadWorks$Company") (C := RX8) (T := TX8) (N := 8) hx hb hts hi_X8 tyX8 tyX8_ok nmX8 hown hK hP hD hS 0 rfl rfl 1 (by decide) (hts _ lk_X8_21) (fun _ h9 => h9) rfl hin rfl (by decide +kernel) rfl rfl (Nat.le_of_ble_eq_true rfl) dX8_init_27 (fun H locs hP hD hS => ?_)
  replace hP : va_P D vwCl (([(a0, .inr (8, [.ref (t 0), .ref (c_1 0), .null, .null, .null, .int (iI 0), .int (iI 0), .int (iI 0)]))] ++ kw 173 t (IE5 G t)) ++ kw 11 c_1 (IE0 G (t 0) c_1)) H := hP
  replace hD : va_D (iA a0 s.heap.size) (([(a0, .inr (8, [.ref (t 0), .ref (c_1 0), .null, .null, .null, .int (iI 0), .int (iI 0), .int (iI 0)]))] ++ kw 173 t (IE5 G t)) ++ kw 11 c_1 (IE0 G (t 0) c_1)) := hD
  refine lv_aload_n hx hb dX8_init_30 rfl (lv_at hl 0 rfl) ?_
  refine va_new (ci := 6) (fs := [.null, .null]) (C := RX6) (T := TX6) (N := 2) hx hb hts hi_X6 tyX6 tyX6_ok hown (hts _ lq_X8_25) (hts _ lj_X6) (hts _ tn_X6) hK hP hD hS hA rfl (fun j hj => by rcases (show j = 0 ∨ j = 1 by omega) with rfl | rfl <;> rfl) (Nat.le_of_ble_eq_true rfl) (Nat.le_of_ble_eq_true rfl) dX8_init_31 (fun q H hPn hDn hS => ?_)
  refine W.widen (k := 185) (n := 4215) (by decide) (by decide) ?_
  refine lv_dup hx hb dX8_init_34 rfl ?_
  refine lv_aload_n hx hb dX8_init_35 rfl (lv_at hl 0 rfl) ?_
  refine va_get (C := RX8) (T := TX8) (N := 8) (ci := 8) (v := .ref (t 0)) hx hb hts hi_X8 hown hK hPn 0 rfl rfl 0 (by decide) (hts _ lk_X8_10) (fun _ h9 => h9) rfl dX8_init_36 ?_
  refine n_calI (ws := (([(a0, .inr (8, [.ref (t 0), .ref (c_1 0), .null, .null, .null, .int (iI 0), .int (iI 0), .int (iI 0)]))] ++ kw 173 t (IE5 G t)) ++ kw 11 c_1 (IE0 G (t 0) c_1))) (As := [.ref (t 0)]) (rest := [.ref q, .ref a0]) hx hb hml hown hts hK hNX hPn hDn hS hA hl.1 i_X6 rfl (Nat.le_of_ble_eq_true rfl) (cwI 1 hts (gT yX6_init cX6_init 2 none tc_X6_init) rfl rfl rfl (hts _ tn_X6) (hts _ lm_X8_27) (hts _ ti_X6_init) rfl (by decide +kernel) ⟨Nat.le_of_ble_eq_true rfl, Nat.le_of_ble_eq_true rfl⟩) rfl dX8_init_39 ⟨Nat.le_of_ble_eq_true rfl, Nat.le_of_ble_eq_true rfl⟩ (fun y H locs hq hP hD hS => ?_)
  subst hq
  refine W.widen (k := 186) (n := 4235) (by decide) (by decide) ?_
  refine va_putF (ci := 8) (v := .ref (y 0)) (ty := .object "RoadWorks$Ways") (C := RX8) (T := TX8) (N := 8) hx hb hts hi_X8 tyX8 tyX8_ok nmX8 hown hK hP hD hS 0 rfl rfl 2 (by decide) (hts _ lk_X8_28) (fun _ h9 => h9) rfl hin rfl (by decide +kernel) rfl rfl (Nat.le_of_ble_eq_true rfl) dX8_init_42 (fun H locs hP hD hS => ?_)
  replace hP : va_P D vwCl ((([(a0, .inr (8, [.ref (t 0), .ref (c_1 0), .ref (y 0), .null, .null, .int (iI 0), .int (iI 0), .int (iI 0)]))] ++ kw 173 t (IE5 G t)) ++ kw 11 c_1 (IE0 G (t 0) c_1)) ++ kw 2 y (IE6 G (t 0) y)) H := hP
  replace hD : va_D (iA a0 s.heap.size) ((([(a0, .inr (8, [.ref (t 0), .ref (c_1 0), .ref (y 0), .null, .null, .int (iI 0), .int (iI 0), .int (iI 0)]))] ++ kw 173 t (IE5 G t)) ++ kw 11 c_1 (IE0 G (t 0) c_1)) ++ kw 2 y (IE6 G (t 0) y)) := hD
  refine lv_aload_n hx hb dX8_init_45 rfl (lv_at hl 0 rfl) ?_
  refine va_new (ci := 3) (fs := [.null, .null, .null, .int (iI 0), .int (iI 0)]) (C := RX3) (T := TX3) (N := 5) hx hb hts hi_X3 tyX3 tyX3_ok hown (hts _ lq_X8_32) (hts _ lj_X3) (hts _ tn_X3) hK hP hD hS hA rfl (fun j hj => by rcases (show j = 0 ∨ j = 1 ∨ j = 2 ∨ j = 3 ∨ j = 4 by omega) with rfl | rfl | rfl | rfl | rfl <;> rfl) (Nat.le_of_ble_eq_true rfl) (Nat.le_of_ble_eq_true rfl) dX8_init_46 (fun q H hPn hDn hS => ?_)
  refine W.widen (k := 187) (n := 4240) (by decide) (by decide) ?_
  refine lv_dup hx hb dX8_init_49 rfl ?_
  refine lv_aload_n hx hb dX8_init_50 rfl (lv_at hl 0 rfl) ?_
  refine va_get (C := RX8) (T := TX8) (N := 8) (ci := 8) (v := .ref (t 0)) hx hb hts hi_X8 hown hK hPn 0 rfl rfl 0 (by decide) (hts _ lk_X8_10) (fun _ h9 => h9) rfl dX8_init_51 ?_
  refine lv_aload_n hx hb dX8_init_54 rfl (lv_at hl 0 rfl) ?_
  refine va_get (C := RX8) (T := TX8) (N := 8) (ci := 8) (v := .ref (c_1 0)) hx hb hts hi_X8 hown hK hPn 0 rfl rfl 1 (by decide) (hts _ lk_X8_21) (fun _ h9 => h9) rfl dX8_init_55 ?_
  refine lv_aload_n hx hb dX8_init_58 rfl (lv_at hl 0 rfl) ?_
  refine va_get (C := RX8) (T := TX8) (N := 8) (ci := 8) (v := .ref (y 0)) hx hb hts hi_X8 hown hK hPn 0 rfl rfl 2 (by decide) (hts _ lk_X8_28) (fun _ h9 => h9) rfl dX8_init_59 ?_
  refine n_calI (ws := ((([(a0, .inr (8, [.ref (t 0), .ref (c_1 0), .ref (y 0), .null, .null, .int (iI 0), .int (iI 0), .int (iI 0)]))] ++ kw 173 t (IE5 G t)) ++ kw 11 c_1 (IE0 G (t 0) c_1)) ++ kw 2 y (IE6 G (t 0) y))) (As := [.ref (t 0), .ref (c_1 0), .ref (y 0)]) (rest := [.ref q, .ref a0]) hx hb hml hown hts hK hNX hPn hDn hS hA hl.1 i_X3 rfl (Nat.le_of_ble_eq_true rfl) (cwI 3 hts (gT yX3_init cX3_init 4 none tc_X3_init) rfl rfl rfl (hts _ tn_X3) (hts _ lm_X8_34) (hts _ ti_X3_init) rfl (by decide +kernel) ⟨Nat.le_of_ble_eq_true rfl, Nat.le_of_ble_eq_true rfl⟩) rfl dX8_init_62 ⟨Nat.le_of_ble_eq_true rfl, Nat.le_of_ble_eq_true rfl⟩ (fun r H locs hq hP hD hS => ?_)
  subst hq
  refine W.widen (k := 187) (n := 4240) (by decide) (by decide) ?_
  refine va_putF (ci := 8) (v := .ref (r 0)) (ty := .object "RoadWorks$Rules") (C := RX8) (T := TX8) (N := 8) hx hb hts hi_X8 tyX8 tyX8_ok nmX8 hown hK hP hD hS 0 rfl rfl 3 (by decide) (hts _ lk_X8_37) (fun _ h9 => h9) rfl hin rfl (by decide +kernel) rfl rfl (Nat.le_of_ble_eq_true rfl) dX8_init_65 (fun H locs hP hD hS => ?_)
  replace hP : va_P D vwCl (((([(a0, .inr (8, [.ref (t 0), .ref (c_1 0), .ref (y 0), .ref (r 0), .null, .int (iI 0), .int (iI 0), .int (iI 0)]))] ++ kw 173 t (IE5 G t)) ++ kw 11 c_1 (IE0 G (t 0) c_1)) ++ kw 2 y (IE6 G (t 0) y)) ++ kw 1 r (IE3 G (t 0) (c_1 0) (y 0) r)) H := hP
  replace hD : va_D (iA a0 s.heap.size) (((([(a0, .inr (8, [.ref (t 0), .ref (c_1 0), .ref (y 0), .ref (r 0), .null, .int (iI 0), .int (iI 0), .int (iI 0)]))] ++ kw 173 t (IE5 G t)) ++ kw 11 c_1 (IE0 G (t 0) c_1)) ++ kw 2 y (IE6 G (t 0) y)) ++ kw 1 r (IE3 G (t 0) (c_1 0) (y 0) r)) := hD
  refine lv_aload_n hx hb dX8_init_68 rfl (lv_at hl 0 rfl) ?_
  refine va_new (ci := 4) (fs := [.null, .null, .int (iI 0)]) (C := RX4) (T := TX4) (N := 3) hx hb hts hi_X4 tyX4 tyX4_ok hown (hts _ lq_X8_41) (hts _ lj_X4) (hts _ tn_X4) hK hP hD hS hA rfl (fun j hj => by rcases (show j = 0 ∨ j = 1 ∨ j = 2 by omega) with rfl | rfl | rfl <;> rfl) (Nat.le_of_ble_eq_true rfl) (Nat.le_of_ble_eq_true rfl) dX8_init_69 (fun q H hPn hDn hS => ?_)
  refine W.widen (k := 188) (n := 4243) (by decide) (by decide) ?_
  refine lv_dup hx hb dX8_init_72 rfl ?_
  refine lv_aload_n hx hb dX8_init_73 rfl (lv_at hl 0 rfl) ?_
  refine va_get (C := RX8) (T := TX8) (N := 8) (ci := 8) (v := .ref (t 0)) hx hb hts hi_X8 hown hK hPn 0 rfl rfl 0 (by decide) (hts _ lk_X8_10) (fun _ h9 => h9) rfl dX8_init_74 ?_
  refine lv_aload_n hx hb dX8_init_77 rfl (lv_at hl 0 rfl) ?_
  refine va_get (C := RX8) (T := TX8) (N := 8) (ci := 8) (v := .ref (r 0)) hx hb hts hi_X8 hown hK hPn 0 rfl rfl 3 (by decide) (hts _ lk_X8_37) (fun _ h9 => h9) rfl dX8_init_78 ?_
  refine n_calI (ws := (((([(a0, .inr (8, [.ref (t 0), .ref (c_1 0), .ref (y 0), .ref (r 0), .null, .int (iI 0), .int (iI 0), .int (iI 0)]))] ++ kw 173 t (IE5 G t)) ++ kw 11 c_1 (IE0 G (t 0) c_1)) ++ kw 2 y (IE6 G (t 0) y)) ++ kw 1 r (IE3 G (t 0) (c_1 0) (y 0) r))) (As := [.ref (t 0), .ref (r 0)]) (rest := [.ref q, .ref a0]) hx hb hml hown hts hK hNX hPn hDn hS hA hl.1 i_X4 rfl (Nat.le_of_ble_eq_true rfl) (cwI 2 hts (gT yX4_init cX4_init 3 none tc_X4_init) rfl rfl rfl (hts _ tn_X4) (hts _ lm_X8_43) (hts _ ti_X4_init) rfl (by decide +kernel) ⟨Nat.le_of_ble_eq_true rfl, Nat.le_of_ble_eq_true rfl⟩) rfl dX8_init_81 ⟨Nat.le_of_ble_eq_true rfl, Nat.le_of_ble_eq_true rfl⟩ (fun h H locs hq hP hD hS => ?_)
  subst hq
  refine W.widen (k := 188) (n := 4243) (by decide) (by decide) ?_
  refine va_putF (ci := 8) (v := .ref (h 0)) (ty := .object "RoadWorks$Shifts") (C := RX8) (T := TX8) (N := 8) hx hb hts hi_X8 tyX8 tyX8_ok nmX8 hown hK hP hD hS 0 rfl rfl 4 (by decide) (hts _ lk_X8_46) (fun _ h9 => h9) rfl hin rfl (by decide +kernel) rfl rfl (Nat.le_of_ble_eq_true rfl) dX8_init_84 (fun H locs hP hD hS => ?_)
  replace hP : va_P D vwCl ((((([(a0, .inr (8, [.ref (t 0), .ref (c_1 0), .ref (y 0), .ref (r 0), .ref (h 0), .int (iI 0), .int (iI 0), .int (iI 0)]))] ++ kw 173 t (IE5 G t)) ++ kw 11 c_1 (IE0 G (t 0) c_1)) ++ kw 2 y (IE6 G (t 0) y)) ++ kw 1 r (IE3 G (t 0) (c_1 0) (y 0) r)) ++ kw 1 h (IE4 G (t 0) (r 0) h)) H := hP
  replace hD : va_D (iA a0 s.heap.size) ((((([(a0, .inr (8, [.ref (t 0), .ref (c_1 0), .ref (y 0), .ref (r 0), .ref (h 0), .int (iI 0), .int (iI 0), .int (iI 0)]))] ++ kw 173 t (IE5 G t)) ++ kw 11 c_1 (IE0 G (t 0) c_1)) ++ kw 2 y (IE6 G (t 0) y)) ++ kw 1 r (IE3 G (t 0) (c_1 0) (y 0) r)) ++ kw 1 h (IE4 G (t 0) (r 0) h)) := hD
  rw [X8_kw] at hP hD
  obtain ⟨hP9, hD9⟩ := X8_fin hP hD
  exact W.vret hx hb hr (fun t9 ht hW => ⟨⟨fun k => AD8 a0 t c_1 y r h (pi8 k), rfl, rfl, by rw [ht]; exact hP9, hD9⟩, hS.F ht⟩) hS.2.2 dX8_init_87
