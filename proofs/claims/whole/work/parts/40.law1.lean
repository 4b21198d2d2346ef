theorem wT_tbl {w : Cond} (h : w ∈ wT) : w ∈ lw_tbl := (List.mem_filter.mp h).1
theorem i32_r (x : Int32) : -2147483648 ≤ x.toInt ∧ x.toInt < 2147483648 := ⟨Int32.le_toInt x, Int32.toInt_lt x⟩
section LL
variable {p : Program} {l : Launch} {e : Env} {R : Room} {s : State} {m : MethodId} {args : Array Value} {below : List Frame} {meth : Method} {c : Code} {H : Heap} {locs : List Loc} {cells slots : Nat} {Q : State → Prop}
variable {cc : ByteArray} {pc : Nat} {ls : Array Slot} {rest : List Value} {D : va_G} {tys : List (ClassId × FieldType)} {A : Nat → Prop} {H0 : Heap}
theorem r_sld (hx : p.tables.exec = Jvm.exec) (hb : c.code = cc) {b L : Nat} {xs : Nat → Int32} (hX : va_X b L xs s H0) (hbl : b < H0.size) (hbA : ¬ A b) (hS : va_S A H0 H locs) {z : Int} (hz : 0 ≤ z ∧ z < L) (hL : L ≤ 3072) (hdg : decode cc pc = .ok (.iaload, 1))
    (k : W p l e R s m args below meth c H locs cells slots Q (F0 m (pc + 1) ls (.int (iI (xs z.toNat).toInt) :: rest))) : W p l e R s m args below meth c H locs cells slots Q (F0 m pc ls (.int (iI z) :: .ref b :: rest)) :=
  va_sld hx hb hX hbl hbA hS (iI_in hz (by omega)) hdg (by rw [iI_clamp hz.1 (by omega)]; rw [iI_eta] at k; exact k)
theorem r_slen (hx : p.tables.exec = Jvm.exec) (hb : c.code = cc) {b L : Nat} {xs : Nat → Int32} (hX : va_X b L xs s H0) (hbl : b < H0.size) (hbA : ¬ A b) (hS : va_S A H0 H locs) (hdg : decode cc pc = .ok (.arraylength, 1))
    (k : W p l e R s m args below meth c H locs cells slots Q (F0 m (pc + 1) ls (.int (iI (L : Int)) :: rest))) : W p l e R s m args below meth c H locs cells slots Q (F0 m pc ls (.ref b :: rest)) :=
  va_slen hx hb hX hbl hbA hS hdg (by rw [show Int32.ofNat L = iI (L : Int) from iI_nat L]; exact k)
/-- a call of the law: one world is the callee's, the other is kept -/
theorem lw_calli (hx : p.tables.exec = Jvm.exec) (hb : c.code = cc) {nL n index maxL : Nat} {y : MethodName} {bytes : ByteArray} {ws Ts : List Cond} {rm : Room} {own : String} {ret : Option FieldType} {As st : List Value} (hml : c.maxLocals = nL) (hown : s.vm.findClass own = some m.cls) (hts : ∀ w ∈ Ts, w.before args s = true) (hK : va_K D vwCl tys s) {K K2 : Nat} {ad ad2 : Nat → Nat} {E E2 : Nat → va_E} (hP : va_P D vwCl (kw K ad E) H) (hP2 : va_P D vwCl (kw K2 ad2 E2) H) (hS : va_S A H0 H locs) (hsz : ls.size = nL) {post : Int → (Nat → va_E) → Prop} {C : String} {T : u_T} {N ci key : Nat} {fs : List Value} (hM : Met l y ws rm (kPc D tys K ad E (.ref (ad key) :: As)) (kQi D K ad post) 0 0 (kA K ad)) (hst : st = As.reverse ++ .ref (ad key) :: rest) (hcat : (rest.map fun v => v.category).sum ≤ 8) (hc : vwCl[ci]? = some (C, T, N)) (cw : CallW R s args own C index y bytes maxL ret ws rm 0 0 n) (hn : As.length = n) (hdg : decode cc pc = .ok (.invokevirtual index, 3)) (hf : cells ≤ R.cells ∧ slots ≤ R.slots) (hk : key < K) (he : E key = .inr (ci, fs)) (hsub : ∀ q, kA K ad q → A q) (hdis : ∀ j, j < K2 → ¬ kA K ad (ad2 j))
    (kk : ∀ (z : Int) (E' : Nat → va_E) (H1 : Heap) (locs1 : List Loc), post z E' → va_P D vwCl (kw K ad E') H1 → va_P D vwCl (kw K2 ad2 E2) H1 → va_S A H0 H1 locs1 → W p l e R s m args below meth c H1 locs1 cells slots Q (F0 m (pc + 3) ls (.int (iI z) :: rest))) : W p l e R s m args below meth c H locs cells slots Q (F0 m pc ls st) :=
  va_calli (va_runV (As := As) (rest := rest) ⟨hx, hb, hml, hown, hts⟩ hM cw ⟨kPc_blind, va_recv hK hP hc ((kw_get hk).trans (by rw [he])), fun U hU hW => ⟨rfl, by rw [hU]; exact hP, va_K.moved hW.alike hK⟩⟩ rfl hn hsz hst (lv_room hcat) hdg hf) hS (fun q _ h => hsub q h) hsub (fun r E' t H1 locs1 ht hvm hw hB hz1 hk1 hS1 => by
    obtain ⟨z, rfl, hw⟩ := hw
    exact kk z E' H1 locs1 hw (by rw [← ht]; exact hB) (hP2.kept (fun k q hq => by
      obtain ⟨h1, rfl⟩ := kw_of hq
      exact hk1 _ ((hP2 k _ hq).lt) (hdis k h1))) hS1)
theorem lw_next (hx : p.tables.exec = Jvm.exec) (hb : c.code = cL_law) {b a1 a2 : Nat} {i : Int} (hl : lv_has ls 4 [(0, .ref b), (1, .ref a1), (2, .ref a2), (3, .int (iI i))]) (k : ∀ ls, lv_has ls 4 [(0, .ref b), (1, .ref a1), (2, .ref a2), (3, .int (iI (i + 6)))] → W p l e R s m args below meth c H locs cells slots Q (F0 m 18 ls [])) : W p l e R s m args below meth c H locs cells slots Q (F0 m 822 ls []) := by
  refine r_iinc hx hb dL_law_822 hl (k := 3) rfl (by decide) (fun ls hl => ?_)
  refine lv_goto (tgt := 18) hx hb dL_law_825 (by decide) ?_
  exact k _ (lv_sub hl [1, 2, 3, 0] rfl)
end LL
set_option maxRecDepth 100000 in
set_option maxHeartbeats 8000000 in
/-- the law's loop, from its head, over the rest of the script -/
theorem law_loop {p : Program} {l : Launch} {e : Env} {s : State} {m : MethodId} {below : List Frame} {meth : Method} {c : Code} {b L : Nat} {xs : Nat → Int32} (hL : L ≤ 3072) (C0 : lw_At p s m meth c b L xs) {D : va_G} {G : Nat → ClassId} {adC adR : Nat → Nat} (hK : va_K D vwCl (tysG G) s) (hiC : kInj 189 adC) (hiR : kInj 27 adR) (hnC : ∀ q, kA 189 adC q → s.heap.size ≤ q) (hnR : ∀ q, kA 27 adR q → s.heap.size ≤ q) (hdC : ∀ j, j < 27 → ¬ kA 189 adC (adR j)) (hdR : ∀ j, j < 189 → ¬ kA 27 adR (adC j)) :
    ∀ (n : Nat) (i : Int) (σ τ τ' : Tb) (H : Heap) (locs : List Loc) (ls : Array Slot), InvS σ → TI τ → RT σ τ' → va_P D vwCl (kw 189 adC (CE G adC σ τ)) H → va_P D vwCl (kw 27 adR (RE G adR σ τ')) H → va_S (fun q : Nat => s.heap.size ≤ q) s.heap H locs → lv_has ls 4 [(0, .ref b), (1, .ref (adC 0)), (2, .ref (adR 0)), (3, .int (iI i))] → (0 ≤ i ∧ i ≤ L) → ((L : Int) + 1 - i).toNat < n → W p l e room_1 s m #[Value.ref b] below meth c H locs 600000 7302250 (lw_Z below #[Value.ref b] s) (F0 m 18 ls []) := by
  obtain ⟨hx, hb, hr, hml, hown, hts, hX, hbl, hlocks, hgv⟩ := id C0
  have hbA : ¬ (fun q : Nat => s.heap.size ≤ q) b := Nat.not_le.mpr hbl
  intro n
  induction n with
  | zero => intro i σ τ τ' H locs ls _ _ _ _ _ _ _ _ hn; omega
  | succ n ih =>
    intro i σ τ τ' H locs ls hI hT hR hPC hPR hS hl hv hn
    refine lv_iload_n hx hb dL_law_18 rfl (lv_at hl 3 rfl) ?_
    refine lv_aload_n hx hb dL_law_19 rfl (lv_at hl 0 rfl) ?_
    refine r_slen hx hb hX hbl hbA hS dL_law_20 ?_
    refine r_bipush hx hb dL_law_21 (by decide +kernel) ?_
    refine r_sub hx hb dL_law_23 ?_
    refine r_icmp_gt (tgt := 828) hx hb (by omega) (by omega) dL_law_24 (by decide) (fun c24 => ?_) (fun c24 => ?_)
    · refine r_const hx hb dL_law_828 ?_
      refine va_forget (fun q hq => hS.2.2 q hq) ?_
      exact lw_ret hx hb hr hlocks dL_law_829
    refine lv_aload_n hx hb dL_law_27 rfl (lv_at hl 0 rfl) ?_
    refine lv_iload_n hx hb dL_law_28 rfl (lv_at hl 3 rfl) ?_
    refine r_sld hx hb hX hbl hbA hS (by omega) hL dL_law_29 ?_
    refine r_bipush hx hb dL_law_30 (by decide +kernel) ?_
    refine lv_iand hx hb dL_law_32 ?_
    obtain ⟨q, hqr, heq⟩ := iI_of (iI (xs i.toNat).toInt &&& iI 31)
    rw [heq]
    clear heq
    rcases (show (q < 0 ∨ 21 < q) ∨ q = 0 ∨ q = 1 ∨ q = 2 ∨ q = 3 ∨ q = 4 ∨ q = 5 ∨ q = 6 ∨ q = 7 ∨ q = 8 ∨ q = 9 ∨ q = 10 ∨ q = 11 ∨ q = 12 ∨ q = 13 ∨ q = 14 ∨ q = 15 ∨ q = 16 ∨ q = 17 ∨ q = 18 ∨ q = 19 ∨ q = 20 ∨ q = 21 by omega) with h | rfl | rfl | rfl | rfl | rfl | rfl | rfl | rfl | rfl | rfl | rfl | rfl | rfl | rfl | rfl | rfl | rfl | rfl | rfl | rfl | rfl | rfl
    · refine r_tabOut (tgt := 822) hx hb dL_law_33 (by omega) (by omega) (by decide) ?_
      exact lw_next hx hb hl (fun n2 hl => ih _ _ _ _ _ _ _ hI hT hR hPC hPR hS hl (by omega) (by omega))
    · refine r_tabIn (z := 0) (off := 103) (tgt := 136) hx hb dL_law_33 (by omega) (by omega) (by omega) rfl (by decide) ?_
      refine lv_aload_n hx hb dL_law_136 rfl (lv_at hl 1 rfl) ?_
      refine lv_aload_n hx hb dL_law_137 rfl (lv_at hl 0 rfl) ?_
      refine lv_iload_n hx hb dL_law_138 rfl (lv_at hl 3 rfl) ?_
      refine r_const hx hb dL_law_139 ?_
      refine r_add hx hb dL_law_140 ?_
      refine r_sld hx hb hX hbl hbA hS (by omega) hL dL_law_141 ?_
      refine lv_aload_n hx hb dL_law_142 rfl (lv_at hl 0 rfl) ?_
      refine lv_iload_n hx hb dL_law_143 rfl (lv_at hl 3 rfl) ?_
      refine r_const hx hb dL_law_144 ?_
      refine r_add hx hb dL_law_145 ?_
      refine r_sld hx hb hX hbl hbA hS (by omega) hL dL_law_146 ?_
      refine lv_aload_n hx hb dL_law_147 rfl (lv_at hl 0 rfl) ?_
      refine lv_iload_n hx hb dL_law_148 rfl (lv_at hl 3 rfl) ?_
      refine r_const hx hb dL_law_149 ?_
      refine r_add hx hb dL_law_150 ?_
      refine r_sld hx hb hX hbl hbA hS (by omega) hL dL_law_151 ?_
      refine lv_aload_n hx hb dL_law_152 rfl (lv_at hl 0 rfl) ?_
      refine lv_iload_n hx hb dL_law_153 rfl (lv_at hl 3 rfl) ?_
      refine r_const hx hb dL_law_154 ?_
      refine r_add hx hb dL_law_155 ?_
      refine r_sld hx hb hX hbl hbA hS (by omega) hL dL_law_156 ?_
      refine lv_aload_n hx hb dL_law_157 rfl (lv_at hl 0 rfl) ?_
      refine lv_iload_n hx hb dL_law_158 rfl (lv_at hl 3 rfl) ?_
      refine r_const hx hb dL_law_159 ?_
      refine r_add hx hb dL_law_160 ?_
      refine r_sld hx hb hX hbl hbA hS (by omega) hL dL_law_161 ?_
      refine lw_calli (Ts := wT) (nL := 4) (C := RX8) (T := TX8) (N := 8) (ci := 8) (K := 189) (key := 0) hx hb hml hown (fun w h => hts w (wT_tbl h)) hK hPC hPR hS hl.1 (c_X8_piece hiC hI hT (i32_r _) (i32_r _) (i32_r _) (i32_r _) (i32_r _)) rfl (Nat.le_of_ble_eq_true rfl) rfl (cwV 5 (fun w h => hts w (wT_tbl h)) (gV lm_L_13 ti_X8_piece tl_X8_piece tn_X8 tc_X8_piece) rfl rfl rfl (by decide +kernel) ⟨Nat.le_of_ble_eq_true rfl, Nat.le_of_ble_eq_true rfl⟩) rfl dL_law_162 ⟨Nat.le_refl _, Nat.le_refl _⟩ (by decide) CE_0 hnC hdC (fun z1 E1 H locs hq hPC hPR hS => ?_)
      obtain ⟨rfl, τ1, rfl, hT1⟩ := hq
      refine lv_aload_n hx hb dL_law_165 rfl (lv_at hl 2 rfl) ?_
      refine lv_aload_n hx hb dL_law_166 rfl (lv_at hl 0 rfl) ?_
      refine lv_iload_n hx hb dL_law_167 rfl (lv_at hl 3 rfl) ?_
      refine r_const hx hb dL_law_168 ?_
      refine r_add hx hb dL_law_169 ?_
      refine r_sld hx hb hX hbl hbA hS (by omega) hL dL_law_170 ?_
      refine lv_aload_n hx hb dL_law_171 rfl (lv_at hl 0 rfl) ?_
      refine lv_iload_n hx hb dL_law_172 rfl (lv_at hl 3 rfl) ?_
      refine r_const hx hb dL_law_173 ?_
      refine r_add hx hb dL_law_174 ?_
      refine r_sld hx hb hX hbl hbA hS (by omega) hL dL_law_175 ?_
      refine lv_aload_n hx hb dL_law_176 rfl (lv_at hl 0 rfl) ?_
      refine lv_iload_n hx hb dL_law_177 rfl (lv_at hl 3 rfl) ?_
      refine r_const hx hb dL_law_178 ?_
      refine r_add hx hb dL_law_179 ?_
      refine r_sld hx hb hX hbl hbA hS (by omega) hL dL_law_180 ?_
      refine lv_aload_n hx hb dL_law_181 rfl (lv_at hl 0 rfl) ?_
      refine lv_iload_n hx hb dL_law_182 rfl (lv_at hl 3 rfl) ?_
      refine r_const hx hb dL_law_183 ?_
      refine r_add hx hb dL_law_184 ?_
      refine r_sld hx hb hX hbl hbA hS (by omega) hL dL_law_185 ?_
      refine lv_aload_n hx hb dL_law_186 rfl (lv_at hl 0 rfl) ?_
      refine lv_iload_n hx hb dL_law_187 rfl (lv_at hl 3 rfl) ?_
      refine r_const hx hb dL_law_188 ?_
      refine r_add hx hb dL_law_189 ?_
      refine r_sld hx hb hX hbl hbA hS (by omega) hL dL_law_190 ?_
      refine lw_calli (Ts := wT) (nL := 4) (C := RX9) (T := TX9) (N := 34) (ci := 9) (K := 27) (key := 0) hx hb hml hown (fun w h => hts w (wT_tbl h)) hK hPR hPC hS hl.1 (c_X9_piece hiR hI hR (i32_r _) (i32_r _) (i32_r _) (i32_r _) (i32_r _)) rfl (Nat.le_of_ble_eq_true rfl) rfl (cwV 5 (fun w h => hts w (wT_tbl h)) (gV lm_L_17 ti_X9_piece tl_X9_piece tn_X9 tc_X9_piece) rfl rfl rfl (by decide +kernel) ⟨Nat.le_of_ble_eq_true rfl, Nat.le_of_ble_eq_true rfl⟩) rfl dL_law_191 ⟨Nat.le_refl _, Nat.le_refl _⟩ (by decide) RE_0 hnR hdR (fun z2 E1 H locs hq hPR hPC hS => ?_)
      obtain ⟨rfl, τ2, rfl, hR1⟩ := hq
      refine lv_icmp_eq (tgt := 822) hx hb dL_law_194 (by decide) (fun _ => ?_) (fun q => absurd rfl q)
      exact lw_next hx hb hl (fun n2 hl => ih _ _ _ _ _ _ _ (InvS_piece hI) hT1 hR1 hPC hPR hS hl (by omega) (by omega))
    · refine r_tabIn (z := 1) (off := 166) (tgt := 199) hx hb dL_law_33 (by omega) (by omega) (by omega) rfl (by decide) ?_
      refine lv_aload_n hx hb dL_law_199 rfl (lv_at hl 1 rfl) ?_
      refine lv_aload_n hx hb dL_law_200 rfl (lv_at hl 0 rfl) ?_
      refine lv_iload_n hx hb dL_law_201 rfl (lv_at hl 3 rfl) ?_
      refine r_const hx hb dL_law_202 ?_
      refine r_add hx hb dL_law_203 ?_
      refine r_sld hx hb hX hbl hbA hS (by omega) hL dL_law_204 ?_
      refine lv_aload_n hx hb dL_law_205 rfl (lv_at hl 0 rfl) ?_
      refine lv_iload_n hx hb dL_law_206 rfl (lv_at hl 3 rfl) ?_
      refine r_const hx hb dL_law_207 ?_
      refine r_add hx hb dL_law_208 ?_
      refine r_sld hx hb hX hbl hbA hS (by omega) hL dL_law_209 ?_
      refine lv_aload_n hx hb dL_law_210 rfl (lv_at hl 0 rfl) ?_
      refine lv_iload_n hx hb dL_law_211 rfl (lv_at hl 3 rfl) ?_
      refine r_const hx hb dL_law_212 ?_
      refine r_add hx hb dL_law_213 ?_
      refine r_sld hx hb hX hbl hbA hS (by omega) hL dL_law_214 ?_
      refine lw_calli (Ts := wT) (nL := 4) (C := RX8) (T := TX8) (N := 8) (ci := 8) (K := 189) (key := 0) hx hb hml hown (fun w h => hts w (wT_tbl h)) hK hPC hPR hS hl.1 (c_X8_pair hiC hI hT (i32_r _) (i32_r _) (i32_r _)) rfl (Nat.le_of_ble_eq_true rfl) rfl (cwV 3 (fun w h => hts w (wT_tbl h)) (gV lm_L_18 ti_X8_pair tl_X8_pair tn_X8 tc_X8_pair) rfl rfl rfl (by decide +kernel) ⟨Nat.le_of_ble_eq_true rfl, Nat.le_of_ble_eq_true rfl⟩) rfl dL_law_215 ⟨Nat.le_refl _, Nat.le_refl _⟩ (by decide) CE_0 hnC hdC (fun z1 E1 H locs hq hPC hPR hS => ?_)
      obtain ⟨rfl, τ1, rfl, hT1⟩ := hq
      refine lv_aload_n hx hb dL_law_218 rfl (lv_at hl 2 rfl) ?_
      refine lv_aload_n hx hb dL_law_219 rfl (lv_at hl 0 rfl) ?_
      refine lv_iload_n hx hb dL_law_220 rfl (lv_at hl 3 rfl) ?_
      refine r_const hx hb dL_law_221 ?_
      refine r_add hx hb dL_law_222 ?_
      refine r_sld hx hb hX hbl hbA hS (by omega) hL dL_law_223 ?_
      refine lv_aload_n hx hb dL_law_224 rfl (lv_at hl 0 rfl) ?_
      refine lv_iload_n hx hb dL_law_225 rfl (lv_at hl 3 rfl) ?_
      refine r_const hx hb dL_law_226 ?_
      refine r_add hx hb dL_law_227 ?_
      refine r_sld hx hb hX hbl hbA hS (by omega) hL dL_law_228 ?_
      refine lv_aload_n hx hb dL_law_229 rfl (lv_at hl 0 rfl) ?_
      refine lv_iload_n hx hb dL_law_230 rfl (lv_at hl 3 rfl) ?_
      refine r_const hx hb dL_law_231 ?_
      refine r_add hx hb dL_law_232 ?_
      refine r_sld hx hb hX hbl hbA hS (by omega) hL dL_law_233 ?_
      refine lw_calli (Ts := wT) (nL := 4) (C := RX9) (T := TX9) (N := 34) (ci := 9) (K := 27) (key := 0) hx hb hml hown (fun w h => hts w (wT_tbl h)) hK hPR hPC hS hl.1 (c_X9_pair hiR hI hR (i32_r _) (i32_r _) (i32_r _)) rfl (Nat.le_of_ble_eq_true rfl) rfl (cwV 3 (fun w h => hts w (wT_tbl h)) (gV lm_L_22 ti_X9_pair tl_X9_pair tn_X9 tc_X9_pair) rfl rfl rfl (by decide +kernel) ⟨Nat.le_of_ble_eq_true rfl, Nat.le_of_ble_eq_true rfl⟩) rfl dL_law_234 ⟨Nat.le_refl _, Nat.le_refl _⟩ (by decide) RE_0 hnR hdR (fun z2 E1 H locs hq hPR hPC hS => ?_)
      obtain ⟨rfl, τ2, rfl, hR1⟩ := hq
      refine lv_icmp_eq (tgt := 822) hx hb dL_law_237 (by decide) (fun _ => ?_) (fun q => absurd rfl q)
      exact lw_next hx hb hl (fun n2 hl => ih _ _ _ _ _ _ _ (InvS_pair hI) hT1 hR1 hPC hPR hS hl (by omega) (by omega))
    · refine r_tabIn (z := 2) (off := 209) (tgt := 242) hx hb dL_law_33 (by omega) (by omega) (by omega) rfl (by decide) ?_
      refine lv_aload_n hx hb dL_law_242 rfl (lv_at hl 1 rfl) ?_
      refine lv_aload_n hx hb dL_law_243 rfl (lv_at hl 0 rfl) ?_
      refine lv_iload_n hx hb dL_law_244 rfl (lv_at hl 3 rfl) ?_
      refine r_const hx hb dL_law_245 ?_
      refine r_add hx hb dL_law_246 ?_
      refine r_sld hx hb hX hbl hbA hS (by omega) hL dL_law_247 ?_
      refine lv_aload_n hx hb dL_law_248 rfl (lv_at hl 0 rfl) ?_
      refine lv_iload_n hx hb dL_law_249 rfl (lv_at hl 3 rfl) ?_
      refine r_const hx hb dL_law_250 ?_
      refine r_add hx hb dL_law_251 ?_
      refine r_sld hx hb hX hbl hbA hS (by omega) hL dL_law_252 ?_
      refine lw_calli (Ts := wT) (nL := 4) (C := RX8) (T := TX8) (N := 8) (ci := 8) (K := 189) (key := 0) hx hb hml hown (fun w h => hts w (wT_tbl h)) hK hPC hPR hS hl.1 (c_X8_feast hiC hI hT (i32_r _) (i32_r _)) rfl (Nat.le_of_ble_eq_true rfl) rfl (cwV 2 (fun w h => hts w (wT_tbl h)) (gV lm_L_23 ti_X8_feast tl_X8_feast tn_X8 tc_X8_feast) rfl rfl rfl (by decide +kernel) ⟨Nat.le_of_ble_eq_true rfl, Nat.le_of_ble_eq_true rfl⟩) rfl dL_law_253 ⟨Nat.le_refl _, Nat.le_refl _⟩ (by decide) CE_0 hnC hdC (fun z1 E1 H locs hq hPC hPR hS => ?_)
      obtain ⟨rfl, τ1, rfl, hT1⟩ := hq
      refine lv_aload_n hx hb dL_law_256 rfl (lv_at hl 2 rfl) ?_
      refine lv_aload_n hx hb dL_law_257 rfl (lv_at hl 0 rfl) ?_
      refine lv_iload_n hx hb dL_law_258 rfl (lv_at hl 3 rfl) ?_
      refine r_const hx hb dL_law_259 ?_
      refine r_add hx hb dL_law_260 ?_
      refine r_sld hx hb hX hbl hbA hS (by omega) hL dL_law_261 ?_
      refine lv_aload_n hx hb dL_law_262 rfl (lv_at hl 0 rfl) ?_
      refine lv_iload_n hx hb dL_law_263 rfl (lv_at hl 3 rfl) ?_
      refine r_const hx hb dL_law_264 ?_
      refine r_add hx hb dL_law_265 ?_
      refine r_sld hx hb hX hbl hbA hS (by omega) hL dL_law_266 ?_
      refine lw_calli (Ts := wT) (nL := 4) (C := RX9) (T := TX9) (N := 34) (ci := 9) (K := 27) (key := 0) hx hb hml hown (fun w h => hts w (wT_tbl h)) hK hPR hPC hS hl.1 (c_X9_feast hiR hI hR (i32_r _) (i32_r _)) rfl (Nat.le_of_ble_eq_true rfl) rfl (cwV 2 (fun w h => hts w (wT_tbl h)) (gV lm_L_27 ti_X9_feast tl_X9_feast tn_X9 tc_X9_feast) rfl rfl rfl (by decide +kernel) ⟨Nat.le_of_ble_eq_true rfl, Nat.le_of_ble_eq_true rfl⟩) rfl dL_law_267 ⟨Nat.le_refl _, Nat.le_refl _⟩ (by decide) RE_0 hnR hdR (fun z2 E1 H locs hq hPR hPC hS => ?_)
      obtain ⟨rfl, τ2, rfl, hR1⟩ := hq
      refine lv_icmp_eq (tgt := 822) hx hb dL_law_270 (by decide) (fun _ => ?_) (fun q => absurd rfl q)
      exact lw_next hx hb hl (fun n2 hl => ih _ _ _ _ _ _ _ (InvS_feast hI) hT1 hR1 hPC hPR hS hl (by omega) (by omega))
    · refine r_tabIn (z := 3) (off := 242) (tgt := 275) hx hb dL_law_33 (by omega) (by omega) (by omega) rfl (by decide) ?_
      refine lv_aload_n hx hb dL_law_275 rfl (lv_at hl 1 rfl) ?_
      refine lv_aload_n hx hb dL_law_276 rfl (lv_at hl 0 rfl) ?_
      refine lv_iload_n hx hb dL_law_277 rfl (lv_at hl 3 rfl) ?_
      refine r_const hx hb dL_law_278 ?_
      refine r_add hx hb dL_law_279 ?_
      refine r_sld hx hb hX hbl hbA hS (by omega) hL dL_law_280 ?_
      refine lv_aload_n hx hb dL_law_281 rfl (lv_at hl 0 rfl) ?_
      refine lv_iload_n hx hb dL_law_282 rfl (lv_at hl 3 rfl) ?_
      refine r_const hx hb dL_law_283 ?_
      refine r_add hx hb dL_law_284 ?_
      refine r_sld hx hb hX hbl hbA hS (by omega) hL dL_law_285 ?_
      refine lv_aload_n hx hb dL_law_286 rfl (lv_at hl 0 rfl) ?_
      refine lv_iload_n hx hb dL_law_287 rfl (lv_at hl 3 rfl) ?_
      refine r_const hx hb dL_law_288 ?_
      refine r_add hx hb dL_law_289 ?_
      refine r_sld hx hb hX hbl hbA hS (by omega) hL dL_law_290 ?_
      refine lw_calli (Ts := wT) (nL := 4) (C := RX8) (T := TX8) (N := 8) (ci := 8) (K := 189) (key := 0) hx hb hml hown (fun w h => hts w (wT_tbl h)) hK hPC hPR hS hl.1 (c_X8_work hiC hI hT (i32_r _) (i32_r _) (i32_r _)) rfl (Nat.le_of_ble_eq_true rfl) rfl (cwV 3 (fun w h => hts w (wT_tbl h)) (gV lm_L_28 ti_X8_work tl_X8_work tn_X8 tc_X8_work) rfl rfl rfl (by decide +kernel) ⟨Nat.le_of_ble_eq_true rfl, Nat.le_of_ble_eq_true rfl⟩) rfl dL_law_291 ⟨Nat.le_refl _, Nat.le_refl _⟩ (by decide) CE_0 hnC hdC (fun z1 E1 H locs hq hPC hPR hS => ?_)
      obtain ⟨rfl, τ1, rfl, hT1⟩ := hq
      refine lv_aload_n hx hb dL_law_294 rfl (lv_at hl 2 rfl) ?_
      refine lv_aload_n hx hb dL_law_295 rfl (lv_at hl 0 rfl) ?_
      refine lv_iload_n hx hb dL_law_296 rfl (lv_at hl 3 rfl) ?_
      refine r_const hx hb dL_law_297 ?_
      refine r_add hx hb dL_law_298 ?_
      refine r_sld hx hb hX hbl hbA hS (by omega) hL dL_law_299 ?_
      refine lv_aload_n hx hb dL_law_300 rfl (lv_at hl 0 rfl) ?_
      refine lv_iload_n hx hb dL_law_301 rfl (lv_at hl 3 rfl) ?_
      refine r_const hx hb dL_law_302 ?_
      refine r_add hx hb dL_law_303 ?_
      refine r_sld hx hb hX hbl hbA hS (by omega) hL dL_law_304 ?_
      refine lv_aload_n hx hb dL_law_305 rfl (lv_at hl 0 rfl) ?_
      refine lv_iload_n hx hb dL_law_306 rfl (lv_at hl 3 rfl) ?_
      refine r_const hx hb dL_law_307 ?_
      refine r_add hx hb dL_law_308 ?_
      refine r_sld hx hb hX hbl hbA hS (by omega) hL dL_law_309 ?_
      refine lw_calli (Ts := wT) (nL := 4) (C := RX9) (T := TX9) (N := 34) (ci := 9) (K := 27) (key := 0) hx hb hml hown (fun w h => hts w (wT_tbl h)) hK hPR hPC hS hl.1 (c_X9_work hiR hI hR (i32_r _) (i32_r _) (i32_r _)) rfl (Nat.le_of_ble_eq_true rfl) rfl (cwV 3 (fun w h => hts w (wT_tbl h)) (gV lm_L_31 ti_X9_work tl_X9_work tn_X9 tc_X9_work) rfl rfl rfl (by decide +kernel) ⟨Nat.le_of_ble_eq_true rfl, Nat.le_of_ble_eq_true rfl⟩) rfl dL_law_310 ⟨Nat.le_refl _, Nat.le_refl _⟩ (by decide) RE_0 hnR hdR (fun z2 E1 H locs hq hPR hPC hS => ?_)
      obtain ⟨rfl, τ2, rfl, hR1⟩ := hq
      refine lv_icmp_eq (tgt := 822) hx hb dL_law_313 (by decide) (fun _ => ?_) (fun q => absurd rfl q)
      exact lw_next hx hb hl (fun n2 hl => ih _ _ _ _ _ _ _ (InvS_work hI) hT1 hR1 hPC hPR hS hl (by omega) (by omega))
    · refine r_tabIn (z := 4) (off := 285) (tgt := 318) hx hb dL_law_33 (by omega) (by omega) (by omega) rfl (by decide) ?_
      refine lv_aload_n hx hb dL_law_318 rfl (lv_at hl 1 rfl) ?_
      refine lv_aload_n hx hb dL_law_319 rfl (lv_at hl 0 rfl) ?_
      refine lv_iload_n hx hb dL_law_320 rfl (lv_at hl 3 rfl) ?_
      refine r_const hx hb dL_law_321 ?_
      refine r_add hx hb dL_law_322 ?_
      refine r_sld hx hb hX hbl hbA hS (by omega) hL dL_law_323 ?_
      refine lv_aload_n hx hb dL_law_324 rfl (lv_at hl 0 rfl) ?_
      refine lv_iload_n hx hb dL_law_325 rfl (lv_at hl 3 rfl) ?_
      refine r_const hx hb dL_law_326 ?_
      refine r_add hx hb dL_law_327 ?_
      refine r_sld hx hb hX hbl hbA hS (by omega) hL dL_law_328 ?_
      refine lw_calli (Ts := wT) (nL := 4) (C := RX8) (T := TX8) (N := 8) (ci := 8) (K := 189) (key := 0) hx hb hml hown (fun w h => hts w (wT_tbl h)) hK hPC hPR hS hl.1 (c_X8_more hiC hI hT (i32_r _) (i32_r _)) rfl (Nat.le_of_ble_eq_true rfl) rfl (cwV 2 (fun w h => hts w (wT_tbl h)) (gV lm_L_32 ti_X8_more tl_X8_more tn_X8 tc_X8_more) rfl rfl rfl (by decide +kernel) ⟨Nat.le_of_ble_eq_true rfl, Nat.le_of_ble_eq_true rfl⟩) rfl dL_law_329 ⟨Nat.le_refl _, Nat.le_refl _⟩ (by decide) CE_0 hnC hdC (fun z1 E1 H locs hq hPC hPR hS => ?_)
      obtain ⟨rfl, τ1, rfl, hT1⟩ := hq
      refine lv_aload_n hx hb dL_law_332 rfl (lv_at hl 2 rfl) ?_
      refine lv_aload_n hx hb dL_law_333 rfl (lv_at hl 0 rfl) ?_
      refine lv_iload_n hx hb dL_law_334 rfl (lv_at hl 3 rfl) ?_
      refine r_const hx hb dL_law_335 ?_
      refine r_add hx hb dL_law_336 ?_
      refine r_sld hx hb hX hbl hbA hS (by omega) hL dL_law_337 ?_
      refine lv_aload_n hx hb dL_law_338 rfl (lv_at hl 0 rfl) ?_
      refine lv_iload_n hx hb dL_law_339 rfl (lv_at hl 3 rfl) ?_
      refine r_const hx hb dL_law_340 ?_
      refine r_add hx hb dL_law_341 ?_
      refine r_sld hx hb hX hbl hbA hS (by omega) hL dL_law_342 ?_
      refine lw_calli (Ts := wT) (nL := 4) (C := RX9) (T := TX9) (N := 34) (ci := 9) (K := 27) (key := 0) hx hb hml hown (fun w h => hts w (wT_tbl h)) hK hPR hPC hS hl.1 (c_X9_more hiR hI hR (i32_r _) (i32_r _)) rfl (Nat.le_of_ble_eq_true rfl) rfl (cwV 2 (fun w h => hts w (wT_tbl h)) (gV lm_L_35 ti_X9_more tl_X9_more tn_X9 tc_X9_more) rfl rfl rfl (by decide +kernel) ⟨Nat.le_of_ble_eq_true rfl, Nat.le_of_ble_eq_true rfl⟩) rfl dL_law_343 ⟨Nat.le_refl _, Nat.le_refl _⟩ (by decide) RE_0 hnR hdR (fun z2 E1 H locs hq hPR hPC hS => ?_)
      obtain ⟨rfl, τ2, rfl, hR1⟩ := hq
      refine lv_icmp_eq (tgt := 822) hx hb dL_law_346 (by decide) (fun _ => ?_) (fun q => absurd rfl q)
      exact lw_next hx hb hl (fun n2 hl => ih _ _ _ _ _ _ _ (InvS_more hI) hT1 hR1 hPC hPR hS hl (by omega) (by omega))
    · refine r_tabIn (z := 5) (off := 318) (tgt := 351) hx hb dL_law_33 (by omega) (by omega) (by omega) rfl (by decide) ?_
      refine lv_aload_n hx hb dL_law_351 rfl (lv_at hl 1 rfl) ?_
      refine lv_aload_n hx hb dL_law_352 rfl (lv_at hl 0 rfl) ?_
      refine lv_iload_n hx hb dL_law_353 rfl (lv_at hl 3 rfl) ?_
      refine r_const hx hb dL_law_354 ?_
      refine r_add hx hb dL_law_355 ?_
      refine r_sld hx hb hX hbl hbA hS (by omega) hL dL_law_356 ?_
      refine lv_aload_n hx hb dL_law_357 rfl (lv_at hl 0 rfl) ?_
      refine lv_iload_n hx hb dL_law_358 rfl (lv_at hl 3 rfl) ?_
      refine r_const hx hb dL_law_359 ?_
      refine r_add hx hb dL_law_360 ?_
      refine r_sld hx hb hX hbl hbA hS (by omega) hL dL_law_361 ?_
      refine lw_calli (Ts := wT) (nL := 4) (C := RX8) (T := TX8) (N := 8) (ci := 8) (K := 189) (key := 0) hx hb hml hown (fun w h => hts w (wT_tbl h)) hK hPC hPR hS hl.1 (c_X8_may hiC hI hT (i32_r _) (i32_r _)) rfl (Nat.le_of_ble_eq_true rfl) rfl (cwV 2 (fun w h => hts w (wT_tbl h)) (gV lm_L_36 ti_X8_may tl_X8_may tn_X8 tc_X8_may) rfl rfl rfl (by decide +kernel) ⟨Nat.le_of_ble_eq_true rfl, Nat.le_of_ble_eq_true rfl⟩) rfl dL_law_362 ⟨Nat.le_refl _, Nat.le_refl _⟩ (by decide) CE_0 hnC hdC (fun z1 E1 H locs hq hPC hPR hS => ?_)
      obtain ⟨rfl, τ1, rfl, hT1⟩ := hq
      refine lv_aload_n hx hb dL_law_365 rfl (lv_at hl 2 rfl) ?_
      refine lv_aload_n hx hb dL_law_366 rfl (lv_at hl 0 rfl) ?_
      refine lv_iload_n hx hb dL_law_367 rfl (lv_at hl 3 rfl) ?_
      refine r_const hx hb dL_law_368 ?_
      refine r_add hx hb dL_law_369 ?_
      refine r_sld hx hb hX hbl hbA hS (by omega) hL dL_law_370 ?_
      refine lv_aload_n hx hb dL_law_371 rfl (lv_at hl 0 rfl) ?_
      refine lv_iload_n hx hb dL_law_372 rfl (lv_at hl 3 rfl) ?_
      refine r_const hx hb dL_law_373 ?_
      refine r_add hx hb dL_law_374 ?_
      refine r_sld hx hb hX hbl hbA hS (by omega) hL dL_law_375 ?_
      refine lw_calli (Ts := wT) (nL := 4) (C := RX9) (T := TX9) (N := 34) (ci := 9) (K := 27) (key := 0) hx hb hml hown (fun w h => hts w (wT_tbl h)) hK hPR hPC hS hl.1 (c_X9_may hiR hI hR (i32_r _) (i32_r _)) rfl (Nat.le_of_ble_eq_true rfl) rfl (cwV 2 (fun w h => hts w (wT_tbl h)) (gV lm_L_39 ti_X9_may tl_X9_may tn_X9 tc_X9_may) rfl rfl rfl (by decide +kernel) ⟨Nat.le_of_ble_eq_true rfl, Nat.le_of_ble_eq_true rfl⟩) rfl dL_law_376 ⟨Nat.le_refl _, Nat.le_refl _⟩ (by decide) RE_0 hnR hdR (fun z2 E1 H locs hq hPR hPC hS => ?_)
      obtain ⟨rfl, τ2, rfl, hR1⟩ := hq
      refine lv_icmp_eq (tgt := 822) hx hb dL_law_379 (by decide) (fun _ => ?_) (fun q => absurd rfl q)
      exact lw_next hx hb hl (fun n2 hl => ih _ _ _ _ _ _ _ (InvS_may hI) hT1 hR1 hPC hPR hS hl (by omega) (by omega))
    · refine r_tabIn (z := 6) (off := 351) (tgt := 384) hx hb dL_law_33 (by omega) (by omega) (by omega) rfl (by decide) ?_
      refine lv_aload_n hx hb dL_law_384 rfl (lv_at hl 1 rfl) ?_
      refine lv_aload_n hx hb dL_law_385 rfl (lv_at hl 0 rfl) ?_
      refine lv_iload_n hx hb dL_law_386 rfl (lv_at hl 3 rfl) ?_
      refine r_const hx hb dL_law_387 ?_
      refine r_add hx hb dL_law_388 ?_
      refine r_sld hx hb hX hbl hbA hS (by omega) hL dL_law_389 ?_
      refine lw_calli (Ts := wT) (nL := 4) (C := RX8) (T := TX8) (N := 8) (ci := 8) (K := 189) (key := 0) hx hb hml hown (fun w h => hts w (wT_tbl h)) hK hPC hPR hS hl.1 (c_X8_why hiC hI hT (i32_r _)) rfl (Nat.le_of_ble_eq_true rfl) rfl (cwV 1 (fun w h => hts w (wT_tbl h)) (gV lm_L_40 ti_X8_why tl_X8_why tn_X8 tc_X8_why) rfl rfl rfl (by decide +kernel) ⟨Nat.le_of_ble_eq_true rfl, Nat.le_of_ble_eq_true rfl⟩) rfl dL_law_390 ⟨Nat.le_refl _, Nat.le_refl _⟩ (by decide) CE_0 hnC hdC (fun z1 E1 H locs hq hPC hPR hS => ?_)
      obtain ⟨rfl, τ1, rfl, hT1⟩ := hq
      refine lv_aload_n hx hb dL_law_393 rfl (lv_at hl 2 rfl) ?_
      refine lv_aload_n hx hb dL_law_394 rfl (lv_at hl 0 rfl) ?_
      refine lv_iload_n hx hb dL_law_395 rfl (lv_at hl 3 rfl) ?_
      refine r_const hx hb dL_law_396 ?_
      refine r_add hx hb dL_law_397 ?_
      refine r_sld hx hb hX hbl hbA hS (by omega) hL dL_law_398 ?_
      refine lw_calli (Ts := wT) (nL := 4) (C := RX9) (T := TX9) (N := 34) (ci := 9) (K := 27) (key := 0) hx hb hml hown (fun w h => hts w (wT_tbl h)) hK hPR hPC hS hl.1 (c_X9_why hiR hI hR (i32_r _)) rfl (Nat.le_of_ble_eq_true rfl) rfl (cwV 1 (fun w h => hts w (wT_tbl h)) (gV lm_L_44 ti_X9_why tl_X9_why tn_X9 tc_X9_why) rfl rfl rfl (by decide +kernel) ⟨Nat.le_of_ble_eq_true rfl, Nat.le_of_ble_eq_true rfl⟩) rfl dL_law_399 ⟨Nat.le_refl _, Nat.le_refl _⟩ (by decide) RE_0 hnR hdR (fun z2 E1 H locs hq hPR hPC hS => ?_)
      obtain ⟨rfl, τ2, rfl, hR1⟩ := hq
      refine lv_icmp_eq (tgt := 822) hx hb dL_law_402 (by decide) (fun _ => ?_) (fun q => absurd rfl q)
      exact lw_next hx hb hl (fun n2 hl => ih _ _ _ _ _ _ _ hI hT1 hR1 hPC hPR hS hl (by omega) (by omega))
    · refine r_tabIn (z := 7) (off := 374) (tgt := 407) hx hb dL_law_33 (by omega) (by omega) (by omega) rfl (by decide) ?_
      refine lv_aload_n hx hb dL_law_407 rfl (lv_at hl 1 rfl) ?_
      refine lv_aload_n hx hb dL_law_408 rfl (lv_at hl 0 rfl) ?_
      refine lv_iload_n hx hb dL_law_409 rfl (lv_at hl 3 rfl) ?_
      refine r_const hx hb dL_law_410 ?_
      refine r_add hx hb dL_law_411 ?_
      refine r_sld hx hb hX hbl hbA hS (by omega) hL dL_law_412 ?_
      refine lv_aload_n hx hb dL_law_413 rfl (lv_at hl 0 rfl) ?_
      refine lv_iload_n hx hb dL_law_414 rfl (lv_at hl 3 rfl) ?_
      refine r_const hx hb dL_law_415 ?_
      refine r_add hx hb dL_law_416 ?_
      refine r_sld hx hb hX hbl hbA hS (by omega) hL dL_law_417 ?_
      refine lv_aload_n hx hb dL_law_418 rfl (lv_at hl 0 rfl) ?_
      refine lv_iload_n hx hb dL_law_419 rfl (lv_at hl 3 rfl) ?_
      refine r_const hx hb dL_law_420 ?_
      refine r_add hx hb dL_law_421 ?_
      refine r_sld hx hb hX hbl hbA hS (by omega) hL dL_law_422 ?_
      refine lw_calli (Ts := wT) (nL := 4) (C := RX8) (T := TX8) (N := 8) (ci := 8) (K := 189) (key := 0) hx hb hml hown (fun w h => hts w (wT_tbl h)) hK hPC hPR hS hl.1 (c_X8_first hiC hI hT (i32_r _) (i32_r _) (i32_r _)) rfl (Nat.le_of_ble_eq_true rfl) rfl (cwV 3 (fun w h => hts w (wT_tbl h)) (gV lm_L_45 ti_X8_first tl_X8_first tn_X8 tc_X8_first) rfl rfl rfl (by decide +kernel) ⟨Nat.le_of_ble_eq_true rfl, Nat.le_of_ble_eq_true rfl⟩) rfl dL_law_423 ⟨Nat.le_refl _, Nat.le_refl _⟩ (by decide) CE_0 hnC hdC (fun z1 E1 H locs hq hPC hPR hS => ?_)
      obtain ⟨rfl, τ1, rfl, hT1⟩ := hq
      refine lv_aload_n hx hb dL_law_426 rfl (lv_at hl 2 rfl) ?_
      refine lv_aload_n hx hb dL_law_427 rfl (lv_at hl 0 rfl) ?_
      refine lv_iload_n hx hb dL_law_428 rfl (lv_at hl 3 rfl) ?_
      refine r_const hx hb dL_law_429 ?_
      refine r_add hx hb dL_law_430 ?_
      refine r_sld hx hb hX hbl hbA hS (by omega) hL dL_law_431 ?_
      refine lv_aload_n hx hb dL_law_432 rfl (lv_at hl 0 rfl) ?_
      refine lv_iload_n hx hb dL_law_433 rfl (lv_at hl 3 rfl) ?_
      refine r_const hx hb dL_law_434 ?_
      refine r_add hx hb dL_law_435 ?_
      refine r_sld hx hb hX hbl hbA hS (by omega) hL dL_law_436 ?_
      refine lv_aload_n hx hb dL_law_437 rfl (lv_at hl 0 rfl) ?_
      refine lv_iload_n hx hb dL_law_438 rfl (lv_at hl 3 rfl) ?_
      refine r_const hx hb dL_law_439 ?_
      refine r_add hx hb dL_law_440 ?_
      refine r_sld hx hb hX hbl hbA hS (by omega) hL dL_law_441 ?_
      refine lw_calli (Ts := wT) (nL := 4) (C := RX9) (T := TX9) (N := 34) (ci := 9) (K := 27) (key := 0) hx hb hml hown (fun w h => hts w (wT_tbl h)) hK hPR hPC hS hl.1 (c_X9_first hiR hI hR (i32_r _) (i32_r _) (i32_r _)) rfl (Nat.le_of_ble_eq_true rfl) rfl (cwV 3 (fun w h => hts w (wT_tbl h)) (gV lm_L_48 ti_X9_first tl_X9_first tn_X9 tc_X9_first) rfl rfl rfl (by decide +kernel) ⟨Nat.le_of_ble_eq_true rfl, Nat.le_of_ble_eq_true rfl⟩) rfl dL_law_442 ⟨Nat.le_refl _, Nat.le_refl _⟩ (by decide) RE_0 hnR hdR (fun z2 E1 H locs hq hPR hPC hS => ?_)
      obtain ⟨rfl, τ2, rfl, hR1⟩ := hq
      refine lv_icmp_eq (tgt := 822) hx hb dL_law_445 (by decide) (fun _ => ?_) (fun q => absurd rfl q)
      exact lw_next hx hb hl (fun n2 hl => ih _ _ _ _ _ _ _ (InvS_first hI) hT1 hR1 hPC hPR hS hl (by omega) (by omega))
    · refine r_tabIn (z := 8) (off := 417) (tgt := 450) hx hb dL_law_33 (by omega) (by omega) (by omega) rfl (by decide) ?_
      refine lv_aload_n hx hb dL_law_450 rfl (lv_at hl 1 rfl) ?_
      refine lv_aload_n hx hb dL_law_451 rfl (lv_at hl 0 rfl) ?_
      refine lv_iload_n hx hb dL_law_452 rfl (lv_at hl 3 rfl) ?_
      refine r_const hx hb dL_law_453 ?_
      refine r_add hx hb dL_law_454 ?_
      refine r_sld hx hb hX hbl hbA hS (by omega) hL dL_law_455 ?_
      refine lv_aload_n hx hb dL_law_456 rfl (lv_at hl 0 rfl) ?_
      refine lv_iload_n hx hb dL_law_457 rfl (lv_at hl 3 rfl) ?_
      refine r_const hx hb dL_law_458 ?_
      refine r_add hx hb dL_law_459 ?_
      refine r_sld hx hb hX hbl hbA hS (by omega) hL dL_law_460 ?_
      refine lw_calli (Ts := wT) (nL := 4) (C := RX8) (T := TX8) (N := 8) (ci := 8) (K := 189) (key := 0) hx hb hml hown (fun w h => hts w (wT_tbl h)) hK hPC hPR hS hl.1 (c_X8_permit hiC hI hT (i32_r _) (i32_r _)) rfl (Nat.le_of_ble_eq_true rfl) rfl (cwV 2 (fun w h => hts w (wT_tbl h)) (gV lm_L_49 ti_X8_permit tl_X8_permit tn_X8 tc_X8_permit) rfl rfl rfl (by decide +kernel) ⟨Nat.le_of_ble_eq_true rfl, Nat.le_of_ble_eq_true rfl⟩) rfl dL_law_461 ⟨Nat.le_refl _, Nat.le_refl _⟩ (by decide) CE_0 hnC hdC (fun z1 E1 H locs hq hPC hPR hS => ?_)
      obtain ⟨rfl, τ1, rfl, hT1⟩ := hq
      refine lv_aload_n hx hb dL_law_464 rfl (lv_at hl 2 rfl) ?_
      refine lv_aload_n hx hb dL_law_465 rfl (lv_at hl 0 rfl) ?_
      refine lv_iload_n hx hb dL_law_466 rfl (lv_at hl 3 rfl) ?_
      refine r_const hx hb dL_law_467 ?_
      refine r_add hx hb dL_law_468 ?_
      refine r_sld hx hb hX hbl hbA hS (by omega) hL dL_law_469 ?_
      refine lv_aload_n hx hb dL_law_470 rfl (lv_at hl 0 rfl) ?_
      refine lv_iload_n hx hb dL_law_471 rfl (lv_at hl 3 rfl) ?_
      refine r_const hx hb dL_law_472 ?_
      refine r_add hx hb dL_law_473 ?_
      refine r_sld hx hb hX hbl hbA hS (by omega) hL dL_law_474 ?_
      refine lw_calli (Ts := wT) (nL := 4) (C := RX9) (T := TX9) (N := 34) (ci := 9) (K := 27) (key := 0) hx hb hml hown (fun w h => hts w (wT_tbl h)) hK hPR hPC hS hl.1 (c_X9_permit hiR hI hR (i32_r _) (i32_r _)) rfl (Nat.le_of_ble_eq_true rfl) rfl (cwV 2 (fun w h => hts w (wT_tbl h)) (gV lm_L_52 ti_X9_permit tl_X9_permit tn_X9 tc_X9_permit) rfl rfl rfl (by decide +kernel) ⟨Nat.le_of_ble_eq_true rfl, Nat.le_of_ble_eq_true rfl⟩) rfl dL_law_475 ⟨Nat.le_refl _, Nat.le_refl _⟩ (by decide) RE_0 hnR hdR (fun z2 E1 H locs hq hPR hPC hS => ?_)
      obtain ⟨rfl, τ2, rfl, hR1⟩ := hq
      refine lv_icmp_eq (tgt := 822) hx hb dL_law_478 (by decide) (fun _ => ?_) (fun q => absurd rfl q)
      exact lw_next hx hb hl (fun n2 hl => ih _ _ _ _ _ _ _ (InvS_permit hI) hT1 hR1 hPC hPR hS hl (by omega) (by omega))
    · refine r_tabIn (z := 9) (off := 450) (tgt := 483) hx hb dL_law_33 (by omega) (by omega) (by omega) rfl (by decide) ?_
      refine lv_aload_n hx hb dL_law_483 rfl (lv_at hl 1 rfl) ?_
      refine lv_aload_n hx hb dL_law_484 rfl (lv_at hl 0 rfl) ?_
      refine lv_iload_n hx hb dL_law_485 rfl (lv_at hl 3 rfl) ?_
      refine r_const hx hb dL_law_486 ?_
      refine r_add hx hb dL_law_487 ?_
      refine r_sld hx hb hX hbl hbA hS (by omega) hL dL_law_488 ?_
      refine lw_calli (Ts := wT) (nL := 4) (C := RX8) (T := TX8) (N := 8) (ci := 8) (K := 189) (key := 0) hx hb hml hown (fun w h => hts w (wT_tbl h)) hK hPC hPR hS hl.1 (c_X8_withdraw hiC hI hT (i32_r _)) rfl (Nat.le_of_ble_eq_true rfl) rfl (cwV 1 (fun w h => hts w (wT_tbl h)) (gV lm_L_53 ti_X8_withdraw tl_X8_withdraw tn_X8 tc_X8_withdraw) rfl rfl rfl (by decide +kernel) ⟨Nat.le_of_ble_eq_true rfl, Nat.le_of_ble_eq_true rfl⟩) rfl dL_law_489 ⟨Nat.le_refl _, Nat.le_refl _⟩ (by decide) CE_0 hnC hdC (fun z1 E1 H locs hq hPC hPR hS => ?_)
      obtain ⟨rfl, τ1, rfl, hT1⟩ := hq
      refine lv_aload_n hx hb dL_law_492 rfl (lv_at hl 2 rfl) ?_
      refine lv_aload_n hx hb dL_law_493 rfl (lv_at hl 0 rfl) ?_
      refine lv_iload_n hx hb dL_law_494 rfl (lv_at hl 3 rfl) ?_
      refine r_const hx hb dL_law_495 ?_
      refine r_add hx hb dL_law_496 ?_
      refine r_sld hx hb hX hbl hbA hS (by omega) hL dL_law_497 ?_
      refine lw_calli (Ts := wT) (nL := 4) (C := RX9) (T := TX9) (N := 34) (ci := 9) (K := 27) (key := 0) hx hb hml hown (fun w h => hts w (wT_tbl h)) hK hPR hPC hS hl.1 (c_X9_withdraw hiR hI hR (i32_r _)) rfl (Nat.le_of_ble_eq_true rfl) rfl (cwV 1 (fun w h => hts w (wT_tbl h)) (gV lm_L_56 ti_X9_withdraw tl_X9_withdraw tn_X9 tc_X9_withdraw) rfl rfl rfl (by decide +kernel) ⟨Nat.le_of_ble_eq_true rfl, Nat.le_of_ble_eq_true rfl⟩) rfl dL_law_498 ⟨Nat.le_refl _, Nat.le_refl _⟩ (by decide) RE_0 hnR hdR (fun z2 E1 H locs hq hPR hPC hS => ?_)
      obtain ⟨rfl, τ2, rfl, hR1⟩ := hq
      refine lv_icmp_eq (tgt := 822) hx hb dL_law_501 (by decide) (fun _ => ?_) (fun q => absurd rfl q)
      exact lw_next hx hb hl (fun n2 hl => ih _ _ _ _ _ _ _ (InvS_wdr hI) hT1 hR1 hPC hPR hS hl (by omega) (by omega))
    · refine r_tabIn (z := 10) (off := 473) (tgt := 506) hx hb dL_law_33 (by omega) (by omega) (by omega) rfl (by decide) ?_
      refine lv_aload_n hx hb dL_law_506 rfl (lv_at hl 1 rfl) ?_
      refine lv_aload_n hx hb dL_law_507 rfl (lv_at hl 0 rfl) ?_
      refine lv_iload_n hx hb dL_law_508 rfl (lv_at hl 3 rfl) ?_
      refine r_const hx hb dL_law_509 ?_
      refine r_add hx hb dL_law_510 ?_
      refine r_sld hx hb hX hbl hbA hS (by omega) hL dL_law_511 ?_
      refine lw_calli (Ts := wT) (nL := 4) (C := RX8) (T := TX8) (N := 8) (ci := 8) (K := 189) (key := 0) hx hb hml hown (fun w h => hts w (wT_tbl h)) hK hPC hPR hS hl.1 (c_X8_day hiC hI hT (i32_r _)) rfl (Nat.le_of_ble_eq_true rfl) rfl (cwV 1 (fun w h => hts w (wT_tbl h)) (gV lm_L_57 ti_X8_day tl_X8_day tn_X8 tc_X8_day) rfl rfl rfl (by decide +kernel) ⟨Nat.le_of_ble_eq_true rfl, Nat.le_of_ble_eq_true rfl⟩) rfl dL_law_512 ⟨Nat.le_refl _, Nat.le_refl _⟩ (by decide) CE_0 hnC hdC (fun z1 E1 H locs hq hPC hPR hS => ?_)
      obtain ⟨rfl, τ1, rfl, hT1⟩ := hq
      refine lv_aload_n hx hb dL_law_515 rfl (lv_at hl 2 rfl) ?_
      refine lv_aload_n hx hb dL_law_516 rfl (lv_at hl 0 rfl) ?_
      refine lv_iload_n hx hb dL_law_517 rfl (lv_at hl 3 rfl) ?_
      refine r_const hx hb dL_law_518 ?_
      refine r_add hx hb dL_law_519 ?_
      refine r_sld hx hb hX hbl hbA hS (by omega) hL dL_law_520 ?_
      refine lw_calli (Ts := wT) (nL := 4) (C := RX9) (T := TX9) (N := 34) (ci := 9) (K := 27) (key := 0) hx hb hml hown (fun w h => hts w (wT_tbl h)) hK hPR hPC hS hl.1 (c_X9_day hiR hI hR (i32_r _)) rfl (Nat.le_of_ble_eq_true rfl) rfl (cwV 1 (fun w h => hts w (wT_tbl h)) (gV lm_L_60 ti_X9_day tl_X9_day tn_X9 tc_X9_day) rfl rfl rfl (by decide +kernel) ⟨Nat.le_of_ble_eq_true rfl, Nat.le_of_ble_eq_true rfl⟩) rfl dL_law_521 ⟨Nat.le_refl _, Nat.le_refl _⟩ (by decide) RE_0 hnR hdR (fun z2 E1 H locs hq hPR hPC hS => ?_)
      obtain ⟨rfl, τ2, rfl, hR1⟩ := hq
      refine lv_icmp_eq (tgt := 822) hx hb dL_law_524 (by decide) (fun _ => ?_) (fun q => absurd rfl q)
      exact lw_next hx hb hl (fun n2 hl => ih _ _ _ _ _ _ _ (InvS_day hI) hT1 hR1 hPC hPR hS hl (by omega) (by omega))
    · refine r_tabIn (z := 11) (off := 496) (tgt := 529) hx hb dL_law_33 (by omega) (by omega) (by omega) rfl (by decide) ?_
      refine lv_aload_n hx hb dL_law_529 rfl (lv_at hl 1 rfl) ?_
      refine lv_aload_n hx hb dL_law_530 rfl (lv_at hl 0 rfl) ?_
      refine lv_iload_n hx hb dL_law_531 rfl (lv_at hl 3 rfl) ?_
      refine r_const hx hb dL_law_532 ?_
      refine r_add hx hb dL_law_533 ?_
      refine r_sld hx hb hX hbl hbA hS (by omega) hL dL_law_534 ?_
      refine lv_aload_n hx hb dL_law_535 rfl (lv_at hl 0 rfl) ?_
      refine lv_iload_n hx hb dL_law_536 rfl (lv_at hl 3 rfl) ?_
      refine r_const hx hb dL_law_537 ?_
      refine r_add hx hb dL_law_538 ?_
      refine r_sld hx hb hX hbl hbA hS (by omega) hL dL_law_539 ?_
      refine lw_calli (Ts := wT) (nL := 4) (C := RX8) (T := TX8) (N := 8) (ci := 8) (K := 189) (key := 0) hx hb hml hown (fun w h => hts w (wT_tbl h)) hK hPC hPR hS hl.1 (c_X8_over hiC hI hT (i32_r _) (i32_r _)) rfl (Nat.le_of_ble_eq_true rfl) rfl (cwV 2 (fun w h => hts w (wT_tbl h)) (gV lm_L_61 ti_X8_over tl_X8_over tn_X8 tc_X8_over) rfl rfl rfl (by decide +kernel) ⟨Nat.le_of_ble_eq_true rfl, Nat.le_of_ble_eq_true rfl⟩) rfl dL_law_540 ⟨Nat.le_refl _, Nat.le_refl _⟩ (by decide) CE_0 hnC hdC (fun z1 E1 H locs hq hPC hPR hS => ?_)
      obtain ⟨rfl, τ1, rfl, hT1⟩ := hq
      refine lv_aload_n hx hb dL_law_543 rfl (lv_at hl 2 rfl) ?_
      refine lv_aload_n hx hb dL_law_544 rfl (lv_at hl 0 rfl) ?_
      refine lv_iload_n hx hb dL_law_545 rfl (lv_at hl 3 rfl) ?_
      refine r_const hx hb dL_law_546 ?_
      refine r_add hx hb dL_law_547 ?_
      refine r_sld hx hb hX hbl hbA hS (by omega) hL dL_law_548 ?_
      refine lv_aload_n hx hb dL_law_549 rfl (lv_at hl 0 rfl) ?_
      refine lv_iload_n hx hb dL_law_550 rfl (lv_at hl 3 rfl) ?_
      refine r_const hx hb dL_law_551 ?_
      refine r_add hx hb dL_law_552 ?_
      refine r_sld hx hb hX hbl hbA hS (by omega) hL dL_law_553 ?_
      refine lw_calli (Ts := wT) (nL := 4) (C := RX9) (T := TX9) (N := 34) (ci := 9) (K := 27) (key := 0) hx hb hml hown (fun w h => hts w (wT_tbl h)) hK hPR hPC hS hl.1 (c_X9_over hiR hI hR (i32_r _) (i32_r _)) rfl (Nat.le_of_ble_eq_true rfl) rfl (cwV 2 (fun w h => hts w (wT_tbl h)) (gV lm_L_64 ti_X9_over tl_X9_over tn_X9 tc_X9_over) rfl rfl rfl (by decide +kernel) ⟨Nat.le_of_ble_eq_true rfl, Nat.le_of_ble_eq_true rfl⟩) rfl dL_law_554 ⟨Nat.le_refl _, Nat.le_refl _⟩ (by decide) RE_0 hnR hdR (fun z2 E1 H locs hq hPR hPC hS => ?_)
      obtain ⟨rfl, τ2, rfl, hR1⟩ := hq
      refine lv_icmp_eq (tgt := 822) hx hb dL_law_557 (by decide) (fun _ => ?_) (fun q => absurd rfl q)
      exact lw_next hx hb hl (fun n2 hl => ih _ _ _ _ _ _ _ (InvS_over hI) hT1 hR1 hPC hPR hS hl (by omega) (by omega))
    · refine r_tabIn (z := 12) (off := 529) (tgt := 562) hx hb dL_law_33 (by omega) (by omega) (by omega) rfl (by decide) ?_
      refine lv_aload_n hx hb dL_law_562 rfl (lv_at hl 1 rfl) ?_
      refine lv_aload_n hx hb dL_law_563 rfl (lv_at hl 0 rfl) ?_
      refine lv_iload_n hx hb dL_law_564 rfl (lv_at hl 3 rfl) ?_
      refine r_const hx hb dL_law_565 ?_
      refine r_add hx hb dL_law_566 ?_
      refine r_sld hx hb hX hbl hbA hS (by omega) hL dL_law_567 ?_
      refine lw_calli (Ts := wT) (nL := 4) (C := RX8) (T := TX8) (N := 8) (ci := 8) (K := 189) (key := 0) hx hb hml hown (fun w h => hts w (wT_tbl h)) hK hPC hPR hS hl.1 (c_X8_crash hiC hI hT (i32_r _)) rfl (Nat.le_of_ble_eq_true rfl) rfl (cwV 1 (fun w h => hts w (wT_tbl h)) (gV lm_L_65 ti_X8_crash tl_X8_crash tn_X8 tc_X8_crash) rfl rfl rfl (by decide +kernel) ⟨Nat.le_of_ble_eq_true rfl, Nat.le_of_ble_eq_true rfl⟩) rfl dL_law_568 ⟨Nat.le_refl _, Nat.le_refl _⟩ (by decide) CE_0 hnC hdC (fun z1 E1 H locs hq hPC hPR hS => ?_)
      obtain ⟨rfl, τ1, rfl, hT1⟩ := hq
      refine lv_aload_n hx hb dL_law_571 rfl (lv_at hl 2 rfl) ?_
      refine lv_aload_n hx hb dL_law_572 rfl (lv_at hl 0 rfl) ?_
      refine lv_iload_n hx hb dL_law_573 rfl (lv_at hl 3 rfl) ?_
      refine r_const hx hb dL_law_574 ?_
      refine r_add hx hb dL_law_575 ?_
      refine r_sld hx hb hX hbl hbA hS (by omega) hL dL_law_576 ?_
      refine lw_calli (Ts := wT) (nL := 4) (C := RX9) (T := TX9) (N := 34) (ci := 9) (K := 27) (key := 0) hx hb hml hown (fun w h => hts w (wT_tbl h)) hK hPR hPC hS hl.1 (c_X9_crash hiR hI hR (i32_r _)) rfl (Nat.le_of_ble_eq_true rfl) rfl (cwV 1 (fun w h => hts w (wT_tbl h)) (gV lm_L_68 ti_X9_crash tl_X9_crash tn_X9 tc_X9_crash) rfl rfl rfl (by decide +kernel) ⟨Nat.le_of_ble_eq_true rfl, Nat.le_of_ble_eq_true rfl⟩) rfl dL_law_577 ⟨Nat.le_refl _, Nat.le_refl _⟩ (by decide) RE_0 hnR hdR (fun z2 E1 H locs hq hPR hPC hS => ?_)
      obtain ⟨rfl, τ2, rfl, hR1⟩ := hq
      refine lv_icmp_eq (tgt := 822) hx hb dL_law_580 (by decide) (fun _ => ?_) (fun q => absurd rfl q)
      exact lw_next hx hb hl (fun n2 hl => ih _ _ _ _ _ _ _ (InvS_crash hI) hT1 hR1 hPC hPR hS hl (by omega) (by omega))
    · refine r_tabIn (z := 13) (off := 552) (tgt := 585) hx hb dL_law_33 (by omega) (by omega) (by omega) rfl (by decide) ?_
      refine lv_aload_n hx hb dL_law_585 rfl (lv_at hl 1 rfl) ?_
      refine lv_aload_n hx hb dL_law_586 rfl (lv_at hl 0 rfl) ?_
      refine lv_iload_n hx hb dL_law_587 rfl (lv_at hl 3 rfl) ?_
      refine r_const hx hb dL_law_588 ?_
      refine r_add hx hb dL_law_589 ?_
      refine r_sld hx hb hX hbl hbA hS (by omega) hL dL_law_590 ?_
      refine lv_aload_n hx hb dL_law_591 rfl (lv_at hl 0 rfl) ?_
      refine lv_iload_n hx hb dL_law_592 rfl (lv_at hl 3 rfl) ?_
      refine r_const hx hb dL_law_593 ?_
      refine r_add hx hb dL_law_594 ?_
      refine r_sld hx hb hX hbl hbA hS (by omega) hL dL_law_595 ?_
      refine lw_calli (Ts := wT) (nL := 4) (C := RX8) (T := TX8) (N := 8) (ci := 8) (K := 189) (key := 0) hx hb hml hown (fun w h => hts w (wT_tbl h)) hK hPC hPR hS hl.1 (c_X8_join hiC hI hT (i32_r _) (i32_r _)) rfl (Nat.le_of_ble_eq_true rfl) rfl (cwV 2 (fun w h => hts w (wT_tbl h)) (gV lm_L_69 ti_X8_join tl_X8_join tn_X8 tc_X8_join) rfl rfl rfl (by decide +kernel) ⟨Nat.le_of_ble_eq_true rfl, Nat.le_of_ble_eq_true rfl⟩) rfl dL_law_596 ⟨Nat.le_refl _, Nat.le_refl _⟩ (by decide) CE_0 hnC hdC (fun z1 E1 H locs hq hPC hPR hS => ?_)
      obtain ⟨rfl, τ1, rfl, hT1⟩ := hq
      refine lv_aload_n hx hb dL_law_599 rfl (lv_at hl 2 rfl) ?_
      refine lv_aload_n hx hb dL_law_600 rfl (lv_at hl 0 rfl) ?_
      refine lv_iload_n hx hb dL_law_601 rfl (lv_at hl 3 rfl) ?_
      refine r_const hx hb dL_law_602 ?_
      refine r_add hx hb dL_law_603 ?_
      refine r_sld hx hb hX hbl hbA hS (by omega) hL dL_law_604 ?_
      refine lv_aload_n hx hb dL_law_605 rfl (lv_at hl 0 rfl) ?_
      refine lv_iload_n hx hb dL_law_606 rfl (lv_at hl 3 rfl) ?_
      refine r_const hx hb dL_law_607 ?_
      refine r_add hx hb dL_law_608 ?_
      refine r_sld hx hb hX hbl hbA hS (by omega) hL dL_law_609 ?_
      refine lw_calli (Ts := wT) (nL := 4) (C := RX9) (T := TX9) (N := 34) (ci := 9) (K := 27) (key := 0) hx hb hml hown (fun w h => hts w (wT_tbl h)) hK hPR hPC hS hl.1 (c_X9_join hiR hI hR (i32_r _) (i32_r _)) rfl (Nat.le_of_ble_eq_true rfl) rfl (cwV 2 (fun w h => hts w (wT_tbl h)) (gV lm_L_72 ti_X9_join tl_X9_join tn_X9 tc_X9_join) rfl rfl rfl (by decide +kernel) ⟨Nat.le_of_ble_eq_true rfl, Nat.le_of_ble_eq_true rfl⟩) rfl dL_law_610 ⟨Nat.le_refl _, Nat.le_refl _⟩ (by decide) RE_0 hnR hdR (fun z2 E1 H locs hq hPR hPC hS => ?_)
      obtain ⟨rfl, τ2, rfl, hR1⟩ := hq
      refine lv_icmp_eq (tgt := 822) hx hb dL_law_613 (by decide) (fun _ => ?_) (fun q => absurd rfl q)
      exact lw_next hx hb hl (fun n2 hl => ih _ _ _ _ _ _ _ (InvS_join hI) hT1 hR1 hPC hPR hS hl (by omega) (by omega))
    · refine r_tabIn (z := 14) (off := 585) (tgt := 618) hx hb dL_law_33 (by omega) (by omega) (by omega) rfl (by decide) ?_
      refine lv_aload_n hx hb dL_law_618 rfl (lv_at hl 1 rfl) ?_
      refine lv_aload_n hx hb dL_law_619 rfl (lv_at hl 0 rfl) ?_
      refine lv_iload_n hx hb dL_law_620 rfl (lv_at hl 3 rfl) ?_
      refine r_const hx hb dL_law_621 ?_
      refine r_add hx hb dL_law_622 ?_
      refine r_sld hx hb hX hbl hbA hS (by omega) hL dL_law_623 ?_
      refine lv_aload_n hx hb dL_law_624 rfl (lv_at hl 0 rfl) ?_
      refine lv_iload_n hx hb dL_law_625 rfl (lv_at hl 3 rfl) ?_
      refine r_const hx hb dL_law_626 ?_
      refine r_add hx hb dL_law_627 ?_
      refine r_sld hx hb hX hbl hbA hS (by omega) hL dL_law_628 ?_
      refine lw_calli (Ts := wT) (nL := 4) (C := RX8) (T := TX8) (N := 8) (ci := 8) (K := 189) (key := 0) hx hb hml hown (fun w h => hts w (wT_tbl h)) hK hPC hPR hS hl.1 (c_X8_about hiC hI hT (i32_r _) (i32_r _)) rfl (Nat.le_of_ble_eq_true rfl) rfl (cwV 2 (fun w h => hts w (wT_tbl h)) (gV lm_L_73 ti_X8_about tl_X8_about tn_X8 tc_X8_about) rfl rfl rfl (by decide +kernel) ⟨Nat.le_of_ble_eq_true rfl, Nat.le_of_ble_eq_true rfl⟩) rfl dL_law_629 ⟨Nat.le_refl _, Nat.le_refl _⟩ (by decide) CE_0 hnC hdC (fun z1 E1 H locs hq hPC hPR hS => ?_)
      obtain ⟨rfl, τ1, rfl, hT1⟩ := hq
      refine lv_aload_n hx hb dL_law_632 rfl (lv_at hl 2 rfl) ?_
      refine lv_aload_n hx hb dL_law_633 rfl (lv_at hl 0 rfl) ?_
      refine lv_iload_n hx hb dL_law_634 rfl (lv_at hl 3 rfl) ?_
      refine r_const hx hb dL_law_635 ?_
      refine r_add hx hb dL_law_636 ?_
      refine r_sld hx hb hX hbl hbA hS (by omega) hL dL_law_637 ?_
      refine lv_aload_n hx hb dL_law_638 rfl (lv_at hl 0 rfl) ?_
      refine lv_iload_n hx hb dL_law_639 rfl (lv_at hl 3 rfl) ?_
      refine r_const hx hb dL_law_640 ?_
      refine r_add hx hb dL_law_641 ?_
      refine r_sld hx hb hX hbl hbA hS (by omega) hL dL_law_642 ?_
      refine lw_calli (Ts := wT) (nL := 4) (C := RX9) (T := TX9) (N := 34) (ci := 9) (K := 27) (key := 0) hx hb hml hown (fun w h => hts w (wT_tbl h)) hK hPR hPC hS hl.1 (c_X9_about hiR hI hR (i32_r _) (i32_r _)) rfl (Nat.le_of_ble_eq_true rfl) rfl (cwV 2 (fun w h => hts w (wT_tbl h)) (gV lm_L_76 ti_X9_about tl_X9_about tn_X9 tc_X9_about) rfl rfl rfl (by decide +kernel) ⟨Nat.le_of_ble_eq_true rfl, Nat.le_of_ble_eq_true rfl⟩) rfl dL_law_643 ⟨Nat.le_refl _, Nat.le_refl _⟩ (by decide) RE_0 hnR hdR (fun z2 E1 H locs hq hPR hPC hS => ?_)
      obtain ⟨rfl, τ2, rfl, hR1⟩ := hq
      refine lv_icmp_eq (tgt := 822) hx hb dL_law_646 (by decide) (fun _ => ?_) (fun q => absurd rfl q)
      exact lw_next hx hb hl (fun n2 hl => ih _ _ _ _ _ _ _ hI hT1 hR1 hPC hPR hS hl (by omega) (by omega))
    · refine r_tabIn (z := 15) (off := 618) (tgt := 651) hx hb dL_law_33 (by omega) (by omega) (by omega) rfl (by decide) ?_
      refine lv_aload_n hx hb dL_law_651 rfl (lv_at hl 1 rfl) ?_
      refine lv_aload_n hx hb dL_law_652 rfl (lv_at hl 0 rfl) ?_
      refine lv_iload_n hx hb dL_law_653 rfl (lv_at hl 3 rfl) ?_
      refine r_const hx hb dL_law_654 ?_
      refine r_add hx hb dL_law_655 ?_
      refine r_sld hx hb hX hbl hbA hS (by omega) hL dL_law_656 ?_
      refine lv_aload_n hx hb dL_law_657 rfl (lv_at hl 0 rfl) ?_
      refine lv_iload_n hx hb dL_law_658 rfl (lv_at hl 3 rfl) ?_
      refine r_const hx hb dL_law_659 ?_
      refine r_add hx hb dL_law_660 ?_
      refine r_sld hx hb hX hbl hbA hS (by omega) hL dL_law_661 ?_
      refine lw_calli (Ts := wT) (nL := 4) (C := RX8) (T := TX8) (N := 8) (ci := 8) (K := 189) (key := 0) hx hb hml hown (fun w h => hts w (wT_tbl h)) hK hPC hPR hS hl.1 (c_X8_lanes hiC hI hT (i32_r _) (i32_r _)) rfl (Nat.le_of_ble_eq_true rfl) rfl (cwV 2 (fun w h => hts w (wT_tbl h)) (gV lm_L_77 ti_X8_lanes tl_X8_lanes tn_X8 tc_X8_lanes) rfl rfl rfl (by decide +kernel) ⟨Nat.le_of_ble_eq_true rfl, Nat.le_of_ble_eq_true rfl⟩) rfl dL_law_662 ⟨Nat.le_refl _, Nat.le_refl _⟩ (by decide) CE_0 hnC hdC (fun z1 E1 H locs hq hPC hPR hS => ?_)
      obtain ⟨rfl, τ1, rfl, hT1⟩ := hq
      refine lv_aload_n hx hb dL_law_665 rfl (lv_at hl 2 rfl) ?_
      refine lv_aload_n hx hb dL_law_666 rfl (lv_at hl 0 rfl) ?_
      refine lv_iload_n hx hb dL_law_667 rfl (lv_at hl 3 rfl) ?_
      refine r_const hx hb dL_law_668 ?_
      refine r_add hx hb dL_law_669 ?_
      refine r_sld hx hb hX hbl hbA hS (by omega) hL dL_law_670 ?_
      refine lv_aload_n hx hb dL_law_671 rfl (lv_at hl 0 rfl) ?_
      refine lv_iload_n hx hb dL_law_672 rfl (lv_at hl 3 rfl) ?_
      refine r_const hx hb dL_law_673 ?_
      refine r_add hx hb dL_law_674 ?_
      refine r_sld hx hb hX hbl hbA hS (by omega) hL dL_law_675 ?_
      refine lw_calli (Ts := wT) (nL := 4) (C := RX9) (T := TX9) (N := 34) (ci := 9) (K := 27) (key := 0) hx hb hml hown (fun w h => hts w (wT_tbl h)) hK hPR hPC hS hl.1 (c_X9_lanes hiR hI hR (i32_r _) (i32_r _)) rfl (Nat.le_of_ble_eq_true rfl) rfl (cwV 2 (fun w h => hts w (wT_tbl h)) (gV lm_L_80 ti_X9_lanes tl_X9_lanes tn_X9 tc_X9_lanes) rfl rfl rfl (by decide +kernel) ⟨Nat.le_of_ble_eq_true rfl, Nat.le_of_ble_eq_true rfl⟩) rfl dL_law_676 ⟨Nat.le_refl _, Nat.le_refl _⟩ (by decide) RE_0 hnR hdR (fun z2 E1 H locs hq hPR hPC hS => ?_)
      obtain ⟨rfl, τ2, rfl, hR1⟩ := hq
      refine lv_icmp_eq (tgt := 822) hx hb dL_law_679 (by decide) (fun _ => ?_) (fun q => absurd rfl q)
      exact lw_next hx hb hl (fun n2 hl => ih _ _ _ _ _ _ _ hI hT1 hR1 hPC hPR hS hl (by omega) (by omega))
    · refine r_tabIn (z := 16) (off := 651) (tgt := 684) hx hb dL_law_33 (by omega) (by omega) (by omega) rfl (by decide) ?_
      refine lv_aload_n hx hb dL_law_684 rfl (lv_at hl 1 rfl) ?_
      refine lv_aload_n hx hb dL_law_685 rfl (lv_at hl 0 rfl) ?_
      refine lv_iload_n hx hb dL_law_686 rfl (lv_at hl 3 rfl) ?_
      refine r_const hx hb dL_law_687 ?_
      refine r_add hx hb dL_law_688 ?_
      refine r_sld hx hb hX hbl hbA hS (by omega) hL dL_law_689 ?_
      refine lv_aload_n hx hb dL_law_690 rfl (lv_at hl 0 rfl) ?_
      refine lv_iload_n hx hb dL_law_691 rfl (lv_at hl 3 rfl) ?_
      refine r_const hx hb dL_law_692 ?_
      refine r_add hx hb dL_law_693 ?_
      refine r_sld hx hb hX hbl hbA hS (by omega) hL dL_law_694 ?_
      refine lw_calli (Ts := wT) (nL := 4) (C := RX8) (T := TX8) (N := 8) (ci := 8) (K := 189) (key := 0) hx hb hml hown (fun w h => hts w (wT_tbl h)) hK hPC hPR hS hl.1 (c_X8_way hiC hI hT (i32_r _) (i32_r _)) rfl (Nat.le_of_ble_eq_true rfl) rfl (cwV 2 (fun w h => hts w (wT_tbl h)) (gV lm_L_81 ti_X8_way tl_X8_way tn_X8 tc_X8_way) rfl rfl rfl (by decide +kernel) ⟨Nat.le_of_ble_eq_true rfl, Nat.le_of_ble_eq_true rfl⟩) rfl dL_law_695 ⟨Nat.le_refl _, Nat.le_refl _⟩ (by decide) CE_0 hnC hdC (fun z1 E1 H locs hq hPC hPR hS => ?_)
      obtain ⟨rfl, τ1, rfl, hT1⟩ := hq
      refine lv_aload_n hx hb dL_law_698 rfl (lv_at hl 2 rfl) ?_
      refine lv_aload_n hx hb dL_law_699 rfl (lv_at hl 0 rfl) ?_
      refine lv_iload_n hx hb dL_law_700 rfl (lv_at hl 3 rfl) ?_
      refine r_const hx hb dL_law_701 ?_
      refine r_add hx hb dL_law_702 ?_
      refine r_sld hx hb hX hbl hbA hS (by omega) hL dL_law_703 ?_
      refine lv_aload_n hx hb dL_law_704 rfl (lv_at hl 0 rfl) ?_
      refine lv_iload_n hx hb dL_law_705 rfl (lv_at hl 3 rfl) ?_
      refine r_const hx hb dL_law_706 ?_
      refine r_add hx hb dL_law_707 ?_
      refine r_sld hx hb hX hbl hbA hS (by omega) hL dL_law_708 ?_
      refine lw_calli (Ts := wT) (nL := 4) (C := RX9) (T := TX9) (N := 34) (ci := 9) (K := 27) (key := 0) hx hb hml hown (fun w h => hts w (wT_tbl h)) hK hPR hPC hS hl.1 (c_X9_way hiR hI hR (i32_r _) (i32_r _)) rfl (Nat.le_of_ble_eq_true rfl) rfl (cwV 2 (fun w h => hts w (wT_tbl h)) (gV lm_L_84 ti_X9_way tl_X9_way tn_X9 tc_X9_way) rfl rfl rfl (by decide +kernel) ⟨Nat.le_of_ble_eq_true rfl, Nat.le_of_ble_eq_true rfl⟩) rfl dL_law_709 ⟨Nat.le_refl _, Nat.le_refl _⟩ (by decide) RE_0 hnR hdR (fun z2 E1 H locs hq hPR hPC hS => ?_)
      obtain ⟨rfl, τ2, rfl, hR1⟩ := hq
      refine lv_icmp_eq (tgt := 822) hx hb dL_law_712 (by decide) (fun _ => ?_) (fun q => absurd rfl q)
      exact lw_next hx hb hl (fun n2 hl => ih _ _ _ _ _ _ _ hI hT1 hR1 hPC hPR hS hl (by omega) (by omega))
    · refine r_tabIn (z := 17) (off := 684) (tgt := 717) hx hb dL_law_33 (by omega) (by omega) (by omega) rfl (by decide) ?_
      refine lv_aload_n hx hb dL_law_717 rfl (lv_at hl 1 rfl) ?_
      refine lv_aload_n hx hb dL_law_718 rfl (lv_at hl 0 rfl) ?_
      refine lv_iload_n hx hb dL_law_719 rfl (lv_at hl 3 rfl) ?_
      refine r_const hx hb dL_law_720 ?_
      refine r_add hx hb dL_law_721 ?_
      refine r_sld hx hb hX hbl hbA hS (by omega) hL dL_law_722 ?_
      refine lw_calli (Ts := wT) (nL := 4) (C := RX8) (T := TX8) (N := 8) (ci := 8) (K := 189) (key := 0) hx hb hml hown (fun w h => hts w (wT_tbl h)) hK hPC hPR hS hl.1 (c_X8_shut hiC hI hT (i32_r _)) rfl (Nat.le_of_ble_eq_true rfl) rfl (cwV 1 (fun w h => hts w (wT_tbl h)) (gV lm_L_85 ti_X8_shut tl_X8_shut tn_X8 tc_X8_shut) rfl rfl rfl (by decide +kernel) ⟨Nat.le_of_ble_eq_true rfl, Nat.le_of_ble_eq_true rfl⟩) rfl dL_law_723 ⟨Nat.le_refl _, Nat.le_refl _⟩ (by decide) CE_0 hnC hdC (fun z1 E1 H locs hq hPC hPR hS => ?_)
      obtain ⟨rfl, τ1, rfl, hT1⟩ := hq
      refine lv_aload_n hx hb dL_law_726 rfl (lv_at hl 2 rfl) ?_
      refine lv_aload_n hx hb dL_law_727 rfl (lv_at hl 0 rfl) ?_
      refine lv_iload_n hx hb dL_law_728 rfl (lv_at hl 3 rfl) ?_
      refine r_const hx hb dL_law_729 ?_
      refine r_add hx hb dL_law_730 ?_
      refine r_sld hx hb hX hbl hbA hS (by omega) hL dL_law_731 ?_
      refine lw_calli (Ts := wT) (nL := 4) (C := RX9) (T := TX9) (N := 34) (ci := 9) (K := 27) (key := 0) hx hb hml hown (fun w h => hts w (wT_tbl h)) hK hPR hPC hS hl.1 (c_X9_shut hiR hI hR (i32_r _)) rfl (Nat.le_of_ble_eq_true rfl) rfl (cwV 1 (fun w h => hts w (wT_tbl h)) (gV lm_L_88 ti_X9_shut tl_X9_shut tn_X9 tc_X9_shut) rfl rfl rfl (by decide +kernel) ⟨Nat.le_of_ble_eq_true rfl, Nat.le_of_ble_eq_true rfl⟩) rfl dL_law_732 ⟨Nat.le_refl _, Nat.le_refl _⟩ (by decide) RE_0 hnR hdR (fun z2 E1 H locs hq hPR hPC hS => ?_)
      obtain ⟨rfl, τ2, rfl, hR1⟩ := hq
      refine lv_icmp_eq (tgt := 822) hx hb dL_law_735 (by decide) (fun _ => ?_) (fun q => absurd rfl q)
      exact lw_next hx hb hl (fun n2 hl => ih _ _ _ _ _ _ _ hI hT1 hR1 hPC hPR hS hl (by omega) (by omega))
    · refine r_tabIn (z := 18) (off := 707) (tgt := 740) hx hb dL_law_33 (by omega) (by omega) (by omega) rfl (by decide) ?_
      refine lv_aload_n hx hb dL_law_740 rfl (lv_at hl 1 rfl) ?_
      refine lw_calli (Ts := wT) (nL := 4) (C := RX8) (T := TX8) (N := 8) (ci := 8) (K := 189) (key := 0) hx hb hml hown (fun w h => hts w (wT_tbl h)) hK hPC hPR hS hl.1 (c_X8_price hiC hI hT ) rfl (Nat.le_of_ble_eq_true rfl) rfl (cwV 0 (fun w h => hts w (wT_tbl h)) (gV lm_L_89 ti_X8_price tl_X8_price tn_X8 tc_X8_price) rfl rfl rfl (by decide +kernel) ⟨Nat.le_of_ble_eq_true rfl, Nat.le_of_ble_eq_true rfl⟩) rfl dL_law_741 ⟨Nat.le_refl _, Nat.le_refl _⟩ (by decide) CE_0 hnC hdC (fun z1 E1 H locs hq hPC hPR hS => ?_)
      obtain ⟨rfl, τ1, rfl, hT1⟩ := hq
      refine lv_aload_n hx hb dL_law_744 rfl (lv_at hl 2 rfl) ?_
      refine lw_calli (Ts := wT) (nL := 4) (C := RX9) (T := TX9) (N := 34) (ci := 9) (K := 27) (key := 0) hx hb hml hown (fun w h => hts w (wT_tbl h)) hK hPR hPC hS hl.1 (c_X9_price hiR hI hR ) rfl (Nat.le_of_ble_eq_true rfl) rfl (cwV 0 (fun w h => hts w (wT_tbl h)) (gV lm_L_93 ti_X9_price tl_X9_price tn_X9 tc_X9_price) rfl rfl rfl (by decide +kernel) ⟨Nat.le_of_ble_eq_true rfl, Nat.le_of_ble_eq_true rfl⟩) rfl dL_law_745 ⟨Nat.le_refl _, Nat.le_refl _⟩ (by decide) RE_0 hnR hdR (fun z2 E1 H locs hq hPR hPC hS => ?_)
      obtain ⟨rfl, τ2, rfl, hR1⟩ := hq
      refine lv_icmp_eq (tgt := 822) hx hb dL_law_748 (by decide) (fun _ => ?_) (fun q => absurd rfl q)
      exact lw_next hx hb hl (fun n2 hl => ih _ _ _ _ _ _ _ hI hT1 hR1 hPC hPR hS hl (by omega) (by omega))
    · refine r_tabIn (z := 19) (off := 720) (tgt := 753) hx hb dL_law_33 (by omega) (by omega) (by omega) rfl (by decide) ?_
      refine lv_aload_n hx hb dL_law_753 rfl (lv_at hl 1 rfl) ?_
      refine lw_calli (Ts := wT) (nL := 4) (C := RX8) (T := TX8) (N := 8) (ci := 8) (K := 189) (key := 0) hx hb hml hown (fun w h => hts w (wT_tbl h)) hK hPC hPR hS hl.1 (c_X8_better hiC hI hT ) rfl (Nat.le_of_ble_eq_true rfl) rfl (cwV 0 (fun w h => hts w (wT_tbl h)) (gV lm_L_94 ti_X8_better tl_X8_better tn_X8 tc_X8_better) rfl rfl rfl (by decide +kernel) ⟨Nat.le_of_ble_eq_true rfl, Nat.le_of_ble_eq_true rfl⟩) rfl dL_law_754 ⟨Nat.le_refl _, Nat.le_refl _⟩ (by decide) CE_0 hnC hdC (fun z1 E1 H locs hq hPC hPR hS => ?_)
      obtain ⟨rfl, τ1, rfl, hT1⟩ := hq
      refine lv_aload_n hx hb dL_law_757 rfl (lv_at hl 2 rfl) ?_
      refine lw_calli (Ts := wT) (nL := 4) (C := RX9) (T := TX9) (N := 34) (ci := 9) (K := 27) (key := 0) hx hb hml hown (fun w h => hts w (wT_tbl h)) hK hPR hPC hS hl.1 (c_X9_better hiR hI hR ) rfl (Nat.le_of_ble_eq_true rfl) rfl (cwV 0 (fun w h => hts w (wT_tbl h)) (gV lm_L_97 ti_X9_better tl_X9_better tn_X9 tc_X9_better) rfl rfl rfl (by decide +kernel) ⟨Nat.le_of_ble_eq_true rfl, Nat.le_of_ble_eq_true rfl⟩) rfl dL_law_758 ⟨Nat.le_refl _, Nat.le_refl _⟩ (by decide) RE_0 hnR hdR (fun z2 E1 H locs hq hPR hPC hS => ?_)
      obtain ⟨rfl, τ2, rfl, hR1⟩ := hq
      refine lv_icmp_eq (tgt := 822) hx hb dL_law_761 (by decide) (fun _ => ?_) (fun q => absurd rfl q)
      exact lw_next hx hb hl (fun n2 hl => ih _ _ _ _ _ _ _ (InvS_itB hI _) hT1 hR1 hPC hPR hS hl (by omega) (by omega))
    · refine r_tabIn (z := 20) (off := 733) (tgt := 766) hx hb dL_law_33 (by omega) (by omega) (by omega) rfl (by decide) ?_
      refine lv_aload_n hx hb dL_law_766 rfl (lv_at hl 1 rfl) ?_
      refine lv_aload_n hx hb dL_law_767 rfl (lv_at hl 0 rfl) ?_
      refine lv_iload_n hx hb dL_law_768 rfl (lv_at hl 3 rfl) ?_
      refine r_const hx hb dL_law_769 ?_
      refine r_add hx hb dL_law_770 ?_
      refine r_sld hx hb hX hbl hbA hS (by omega) hL dL_law_771 ?_
      refine lv_aload_n hx hb dL_law_772 rfl (lv_at hl 0 rfl) ?_
      refine lv_iload_n hx hb dL_law_773 rfl (lv_at hl 3 rfl) ?_
      refine r_const hx hb dL_law_774 ?_
      refine r_add hx hb dL_law_775 ?_
      refine r_sld hx hb hX hbl hbA hS (by omega) hL dL_law_776 ?_
      refine lw_calli (Ts := wT) (nL := 4) (C := RX8) (T := TX8) (N := 8) (ci := 8) (K := 189) (key := 0) hx hb hml hown (fun w h => hts w (wT_tbl h)) hK hPC hPR hS hl.1 (c_X8_book hiC hI hT (i32_r _) (i32_r _)) rfl (Nat.le_of_ble_eq_true rfl) rfl (cwV 2 (fun w h => hts w (wT_tbl h)) (gV lm_L_98 ti_X8_book tl_X8_book tn_X8 tc_X8_book) rfl rfl rfl (by decide +kernel) ⟨Nat.le_of_ble_eq_true rfl, Nat.le_of_ble_eq_true rfl⟩) rfl dL_law_777 ⟨Nat.le_refl _, Nat.le_refl _⟩ (by decide) CE_0 hnC hdC (fun z1 E1 H locs hq hPC hPR hS => ?_)
      obtain ⟨rfl, τ1, rfl, hT1⟩ := hq
      refine lv_aload_n hx hb dL_law_780 rfl (lv_at hl 2 rfl) ?_
      refine lv_aload_n hx hb dL_law_781 rfl (lv_at hl 0 rfl) ?_
      refine lv_iload_n hx hb dL_law_782 rfl (lv_at hl 3 rfl) ?_
      refine r_const hx hb dL_law_783 ?_
      refine r_add hx hb dL_law_784 ?_
      refine r_sld hx hb hX hbl hbA hS (by omega) hL dL_law_785 ?_
      refine lv_aload_n hx hb dL_law_786 rfl (lv_at hl 0 rfl) ?_
      refine lv_iload_n hx hb dL_law_787 rfl (lv_at hl 3 rfl) ?_
      refine r_const hx hb dL_law_788 ?_
      refine r_add hx hb dL_law_789 ?_
      refine r_sld hx hb hX hbl hbA hS (by omega) hL dL_law_790 ?_
      refine lw_calli (Ts := wT) (nL := 4) (C := RX9) (T := TX9) (N := 34) (ci := 9) (K := 27) (key := 0) hx hb hml hown (fun w h => hts w (wT_tbl h)) hK hPR hPC hS hl.1 (c_X9_book hiR hI hR (i32_r _) (i32_r _)) rfl (Nat.le_of_ble_eq_true rfl) rfl (cwV 2 (fun w h => hts w (wT_tbl h)) (gV lm_L_101 ti_X9_book tl_X9_book tn_X9 tc_X9_book) rfl rfl rfl (by decide +kernel) ⟨Nat.le_of_ble_eq_true rfl, Nat.le_of_ble_eq_true rfl⟩) rfl dL_law_791 ⟨Nat.le_refl _, Nat.le_refl _⟩ (by decide) RE_0 hnR hdR (fun z2 E1 H locs hq hPR hPC hS => ?_)
      obtain ⟨rfl, τ2, rfl, hR1⟩ := hq
      refine lv_icmp_eq (tgt := 822) hx hb dL_law_794 (by decide) (fun _ => ?_) (fun q => absurd rfl q)
      exact lw_next hx hb hl (fun n2 hl => ih _ _ _ _ _ _ _ hI hT1 hR1 hPC hPR hS hl (by omega) (by omega))
    · refine r_tabIn (z := 21) (off := 766) (tgt := 799) hx hb dL_law_33 (by omega) (by omega) (by omega) rfl (by decide) ?_
      refine lv_aload_n hx hb dL_law_799 rfl (lv_at hl 1 rfl) ?_
      refine lv_aload_n hx hb dL_law_800 rfl (lv_at hl 0 rfl) ?_
      refine lv_iload_n hx hb dL_law_801 rfl (lv_at hl 3 rfl) ?_
      refine r_const hx hb dL_law_802 ?_
      refine r_add hx hb dL_law_803 ?_
      refine r_sld hx hb hX hbl hbA hS (by omega) hL dL_law_804 ?_
      refine lw_calli (Ts := wT) (nL := 4) (C := RX8) (T := TX8) (N := 8) (ci := 8) (K := 189) (key := 0) hx hb hml hown (fun w h => hts w (wT_tbl h)) hK hPC hPR hS hl.1 (c_X8_count hiC hI hT (i32_r _)) rfl (Nat.le_of_ble_eq_true rfl) rfl (cwV 1 (fun w h => hts w (wT_tbl h)) (gV lm_L_102 ti_X8_count tl_X8_count tn_X8 tc_X8_count) rfl rfl rfl (by decide +kernel) ⟨Nat.le_of_ble_eq_true rfl, Nat.le_of_ble_eq_true rfl⟩) rfl dL_law_805 ⟨Nat.le_refl _, Nat.le_refl _⟩ (by decide) CE_0 hnC hdC (fun z1 E1 H locs hq hPC hPR hS => ?_)
      obtain ⟨rfl, τ1, rfl, hT1⟩ := hq
      refine lv_aload_n hx hb dL_law_808 rfl (lv_at hl 2 rfl) ?_
      refine lv_aload_n hx hb dL_law_809 rfl (lv_at hl 0 rfl) ?_
      refine lv_iload_n hx hb dL_law_810 rfl (lv_at hl 3 rfl) ?_
      refine r_const hx hb dL_law_811 ?_
      refine r_add hx hb dL_law_812 ?_
      refine r_sld hx hb hX hbl hbA hS (by omega) hL dL_law_813 ?_
      refine lw_calli (Ts := wT) (nL := 4) (C := RX9) (T := TX9) (N := 34) (ci := 9) (K := 27) (key := 0) hx hb hml hown (fun w h => hts w (wT_tbl h)) hK hPR hPC hS hl.1 (c_X9_count hiR hI hR (i32_r _)) rfl (Nat.le_of_ble_eq_true rfl) rfl (cwV 1 (fun w h => hts w (wT_tbl h)) (gV lm_L_105 ti_X9_count tl_X9_count tn_X9 tc_X9_count) rfl rfl rfl (by decide +kernel) ⟨Nat.le_of_ble_eq_true rfl, Nat.le_of_ble_eq_true rfl⟩) rfl dL_law_814 ⟨Nat.le_refl _, Nat.le_refl _⟩ (by decide) RE_0 hnR hdR (fun z2 E1 H locs hq hPR hPC hS => ?_)
      obtain ⟨rfl, τ2, rfl, hR1⟩ := hq
      refine lv_icmp_eq (tgt := 822) hx hb dL_law_817 (by decide) (fun _ => ?_) (fun q => absurd rfl q)
      exact lw_next hx hb hl (fun n2 hl => ih _ _ _ _ _ _ _ hI hT1 hR1 hPC hPR hS hl (by omega) (by omega))
