/-! ===== what makes objects: worlds that grow ===== -/
def jn {α : Type} (f : Nat → α) (K : Nat) (g : Nat → α) : Nat → α := fun k => if k < K then f k else g (k - K)
theorem jn_l {α : Type} {f g : Nat → α} {K k : Nat} (h : k < K) : jn f K g k = f k := if_pos h
theorem jn_r {α : Type} {f g : Nat → α} {K k : Nat} (h : K ≤ k) : jn f K g k = g (k - K) := if_neg (by omega)
theorem kw_len {K : Nat} {ad : Nat → Nat} {E : Nat → va_E} : (kw K ad E).length = K := by simp [kw]
theorem kw_jn {K n : Nat} {ad bd : Nat → Nat} {E F : Nat → va_E} : kw K ad E ++ kw n bd F = kw (K + n) (jn ad K bd) (jn E K F) := by
  apply List.ext_getElem?
  intro j
  by_cases h1 : j < K
  · rw [List.getElem?_append_left (by rw [kw_len]; exact h1), kw_get h1, kw_get (by omega), jn_l h1, jn_l h1]
  · rw [List.getElem?_append_right (by rw [kw_len]; omega), kw_len]
    by_cases h2 : j - K < n
    · rw [kw_get h2, kw_get (by omega), jn_r (by omega), jn_r (by omega)]
    · rw [List.getElem?_eq_none (by rw [kw_len]; omega), List.getElem?_eq_none (by rw [kw_len]; omega)]
theorem kw_1 {a : Nat} {x : va_E} : [(a, x)] = kw 1 (fun _ => a) (fun _ => x) := rfl
theorem kw_cg {K : Nat} {ad ad' : Nat → Nat} {E E' : Nat → va_E} (h : ∀ k, k < K → ad k = ad' k ∧ E k = E' k) : kw K ad E = kw K ad' E' := by
  apply List.ext_getElem?
  intro j
  by_cases h1 : j < K
  · rw [kw_get h1, kw_get h1, (h j h1).1, (h j h1).2]
  · rw [List.getElem?_eq_none (by rw [kw_len]; omega), List.getElem?_eq_none (by rw [kw_len]; omega)]
/-- the same cells under other keys -/
theorem kw_pi {D : va_G} {cl : List vw_C} {K : Nat} {ad : Nat → Nat} {E E' : Nat → va_E} {H : Heap} (g : Nat → Nat) (hg : ∀ k, k < K → g k < K) (he : ∀ k, k < K → E (g k) = E' k) (h : va_P D cl (kw K ad E) H) : va_P D cl (kw K (fun k => ad (g k)) E') H :=
  h.by g (fun k q hq => by
    obtain ⟨h1, rfl⟩ := kw_of hq
    rw [kw_get (hg k h1), he k h1])
theorem kInj_of {A : Nat → Prop} {K : Nat} {ad : Nat → Nat} {E : Nat → va_E} (h : va_D A (kw K ad E)) : kInj K ad := fun i j hi hj e => h.1 i j _ _ (kw_get hi) (kw_get hj) e
theorem kAd_of {A : Nat → Prop} {K : Nat} {ad : Nat → Nat} {E : Nat → va_E} (h : va_D A (kw K ad E)) : ∀ k, k < K → A (ad k) := fun k hk => h.2 k _ (kw_get hk)
theorem va_RA_eq {U : State} {c1 c2 : ClassId} {ty : FieldType} (h1 : va_RA U c1 ty) (h2 : va_RA U c2 ty) : c1 = c2 := by
  cases ty with
  | object C =>
    obtain ⟨_, _, _, _, _, e1⟩ := h1
    obtain ⟨_, _, _, _, _, e2⟩ := h2
    exact Option.some.inj (e1.symm.trans e2)
  | _ => exact Option.some.inj (h1.symm.trans h2)
theorem ty_eq {D : va_G} {cl : List vw_C} {tys : List (ClassId × FieldType)} {cA g : ClassId} {ty : FieldType} {s : State} (t : Nat) (ht : tys[t]? = some (g, ty)) (h : va_K D cl (tys ++ [(cA, ty)]) s) : cA = g := by
  have hlt := (List.getElem?_eq_some_iff.mp ht).1
  have h1 := h.2 t (g, ty) (by rw [List.getElem?_append_left hlt]; exact ht)
  have h2 := h.2 tys.length (cA, ty) (by rw [List.getElem?_append_right (Nat.le_refl _)]; simp)
  exact va_RA_eq h2.2 h1.2
def iA (a0 sz : Nat) : Nat → Prop := fun q => q = a0 ∨ sz ≤ q
/-- behind a call that makes an object out of the last cell: the others, and what it made -/
theorem n_join {A : Nat → Prop} {D : va_G} {cl : List vw_C} {ws w1 : va_W} {q : Nat} {x : va_E} {H H1 : Heap} (hP : va_P D cl (ws ++ [(q, x)]) H) (hD : va_D A (ws ++ [(q, x)])) (hk : ∀ z : Nat, z < H.size → ¬ iA q H.size z → H1[z]? = H[z]?) (hF : ∀ z, iA q H.size z → A z) (hP1 : va_P D cl w1 H1) (hD1 : va_D (iA q H.size) w1) : va_P D cl (ws ++ w1) H1 ∧ va_D A (ws ++ w1) := by
  have hws : ∀ (k : Nat) (y : Nat × va_E), ws[k]? = some y → (ws ++ [(q, x)])[k]? = some y := fun k y hy => by
    rw [List.getElem?_append_left (List.getElem?_eq_some_iff.mp hy).1]; exact hy
  have hq : (ws ++ [(q, x)])[ws.length]? = some (q, x) := by rw [List.getElem?_append_right (Nat.le_refl _)]; simp
  have hno : ∀ (k : Nat) (y : Nat × va_E), ws[k]? = some y → ¬ iA q H.size y.1 := fun k y hy h => by
    have hlt := (hP k y (hws k y hy)).lt
    have hkl := (List.getElem?_eq_some_iff.mp hy).1
    rcases h with h | h
    · have := hD.1 k ws.length y (q, x) (hws k y hy) hq h
      omega
    · omega
  refine ⟨va_P.app (fun k y hy => (hP k y (hws k y hy)).kept (hk y.1 (hP k y (hws k y hy)).lt (hno k y hy))) hP1, fun i j y z hy hz e => ?_, fun k y hy => ?_⟩
  · by_cases h1 : i < ws.length <;> by_cases h2 : j < ws.length
    · rw [List.getElem?_append_left h1] at hy
      rw [List.getElem?_append_left h2] at hz
      exact hD.1 i j y z (hws i y hy) (hws j z hz) e
    · rw [List.getElem?_append_left h1] at hy
      rw [List.getElem?_append_right (by omega)] at hz
      exact absurd (e ▸ hD1.2 _ z hz) (hno i y hy)
    · rw [List.getElem?_append_right (by omega)] at hy
      rw [List.getElem?_append_left h2] at hz
      exact absurd (e ▸ hD1.2 _ y hy) (hno j z hz)
    · rw [List.getElem?_append_right (by omega)] at hy hz
      have := hD1.1 _ _ y z hy hz e
      omega
  · by_cases h1 : k < ws.length
    · rw [List.getElem?_append_left h1] at hy
      exact hD.2 k y (hws k y hy)
    · rw [List.getElem?_append_right (by omega)] at hy
      exact hF _ (hD1.2 _ y hy)
theorem va_P_last {D : va_G} {cl : List vw_C} {ws : va_W} {x : Nat × va_E} {H : Heap} (h : va_P D cl (ws ++ [x]) H) : va_P D cl [x] H := fun k y hy => by
  have h0 : k < 1 := (List.getElem?_eq_some_iff.mp hy).1
  rw [show k = 0 by omega] at hy
  exact h ws.length y (by rw [List.getElem?_append_right (Nat.le_refl _)]; simpa using hy)
/-- words of the tables that may not go with a call: they are handed on -/
def NX (U : State) : Prop := va_Nw (.arrayOver (.object "RoadWorks$Piece")) U ∧ va_Nw (.arrayOver (.object "RoadWorks$Pair")) U ∧ va_Nw (.arrayOver (.object "RoadWorks$Work")) U ∧ va_Nw (.arrayOver (.array .int)) U ∧ va_Nw (.methodLinkNest RX5 33 yX2_init "RoadWorks") U ∧ va_Nw (.methodLinkNest RX5 34 yX1_init "RoadWorks") U
theorem nAO_same {ty : FieldType} {s U : State} (hvm : s.vm = U.vm) (h : va_Nw (.arrayOver ty) s) : va_Nw (.arrayOver ty) U := by
  unfold va_Nw Cond.before Cond.holds at h ⊢
  simp only [Cond.value] at h ⊢
  rw [← hvm]
  exact h
theorem nAO_warm {ty : FieldType} {s U : State} (hW : s.WarmedH U.vm) (h : va_Nw (.arrayOver ty) s) : va_Nw (.arrayOver ty) U := by
  have h2 : va_Nw (.arrayOver ty) (s.setVm U.vm) := by
    unfold va_Nw
    rw [Cond.arrayOver_setVmC hW.alike]
    exact h
  exact nAO_same rfl h2
theorem NX_warm {s U : State} (hW : s.WarmedH U.vm) (h : NX s) : NX U := ⟨nAO_warm hW h.1, nAO_warm hW h.2.1, nAO_warm hW h.2.2.1, nAO_warm hW h.2.2.2.1, va_Nw.warmM hW h.2.2.2.2.1, va_Nw.warmM hW h.2.2.2.2.2⟩
theorem NX_same {s U : State} (hvm : s.vm = U.vm) (h : NX s) : NX U := ⟨nAO_same hvm h.1, nAO_same hvm h.2.1, nAO_same hvm h.2.2.1, nAO_same hvm h.2.2.2.1, va_Nw.same rfl hvm h.2.2.2.2.1, va_Nw.same rfl hvm h.2.2.2.2.2⟩
def iPc (D : va_G) (G : Nat → ClassId) (a0 sz ci : Nat) (fs av : List Value) : Array Value → State → Prop :=
  va_Pc (.ref a0 :: av) (fun U => U.heap.size = sz ∧ (va_P D vwCl [(a0, .inr (ci, fs))] U.heap ∧ a0 < sz) ∧ va_K D vwCl (tysG G) U ∧ NX U)
def iQ (D : va_G) (n : Nat) (IE : (Nat → Nat) → Nat → va_E) (a0 sz : Nat) : Array Value → State → Outcome → State → Prop :=
  va_Qv (fun ad : Nat → Nat => ad 0 = a0) (fun ad t => va_P D vwCl (kw n ad (IE ad)) t.heap ∧ va_D (iA a0 sz) (kw n ad (IE ad))) (iA a0 sz)
theorem iPc_blind {D : va_G} {G : Nat → ClassId} {a0 sz ci : Nat} {fs av : List Value} : FrameBlind (iPc D G a0 sz ci fs av) := fun a U g mk q => by
  obtain ⟨q0, q1, qP, qK, qX⟩ := q
  exact ⟨q0, q1, qP, va_K.moved (u := U) (U := U.calling g mk a) (Vm.Alike.refl U.vm) qK, NX_same (U := U.calling g mk a) rfl qX⟩
theorem k_ini {l : Launch} {y : MethodName} {rm : Room} {cc : ByteArray} {maxL : Nat} {D : va_G} {G : Nat → ClassId} {a0 sz ci : Nat} {fs av : List Value} {Qc : Array Value → State → Outcome → State → Prop} {mc ms : Nat}
    (hy : plainName y.cls = true) (hyn : y.name = "<init>") (hlen : (lg_sl (.ref a0 :: av)).length ≤ maxL)
    (body : ∀ (p : Program) (e : Env) (s : State) (m : MethodId) (below : List Frame) (meth : Method) (c : Code) (ls : Array Slot), p.tables.exec = Jvm.exec → c.code = cc → meth.sig.returnType = none → meth.locks = false → c.maxLocals = maxL → s.vm.findClass y.cls = some m.cls → (∀ w ∈ wT, w.before (.ref a0 :: av).toArray s = true) → meth.name = "<init>" → s.heap.size = sz → va_K D vwCl (tysG G) s → NX s → va_P D vwCl [(a0, .inr (ci, fs))] s.heap → va_D (iA a0 s.heap.size) [(a0, .inr (ci, fs))] → (∀ q, s.heap.size ≤ q → iA a0 s.heap.size q) → va_S (iA a0 s.heap.size) s.heap s.heap [] → lv_has ls maxL (lv_args 0 (.ref a0 :: av)) →
      W p l e rm s m (.ref a0 :: av).toArray below meth c s.heap [] 0 0 (MQ below Qc (.ref a0 :: av).toArray s mc ms (iA a0 s.heap.size)) (F0 m 0 ls [])) : Met l y (.code y cc maxL none :: wT) rm (iPc D G a0 sz ci fs av) Qc mc ms (iA a0 sz) := by
  refine Met.ofW (cc := cc) (maxL := maxL) (ret := none) hy rfl ?_
  intro p e s m args below meth c s₁ B hml hv
  obtain ⟨rfl, hsz, ⟨hP, hlt⟩, hK, hNX⟩ := hv
  have hts : ∀ w ∈ wT, w.before (.ref a0 :: av).toArray s = true := fun w h => atoms_spec (ws := .code y cc maxL none :: wT) B.pre w (List.mem_cons_of_mem _ h)
  have hown : s.vm.findClass y.cls = some m.cls := findClass_of_methodNamed B.named
  have hl := lv_entry (.ref a0 :: av) hlen
  have hD : va_D (iA a0 s.heap.size) [(a0, .inr (ci, fs))] := ⟨fun i j p q hp hq _ => by
    have h1 : i < 1 := (List.getElem?_eq_some_iff.mp hp).1
    have h2 : j < 1 := (List.getElem?_eq_some_iff.mp hq).1
    omega, fun k q hq => by
    have h1 : k < 1 := (List.getElem?_eq_some_iff.mp hq).1
    rw [show k = 0 by omega] at hq
    cases hq
    exact Or.inl rfl⟩
  rw [lg_entry_eq]
  have := body p e s m below meth c _ B.exec B.bytes B.returns B.notSynchronized hml hown hts ((name_of_methodNamed B.named B.method).1.trans hyn) hsz hK hNX hP hD (fun q h => Or.inr h) va_S.rf hl
  rw [hsz] at this
  exact this
section NI
variable {p : Program} {l : Launch} {e : Env} {R : Room} {s : State} {m : MethodId} {args : Array Value} {below : List Frame} {meth : Method} {c : Code} {H : Heap} {locs : List Loc} {cells slots : Nat} {Q : State → Prop}
variable {cc : ByteArray} {pc : Nat} {ls : Array Slot} {rest : List Value} {D : va_G} {G : Nat → ClassId} {A : Nat → Prop} {H0 : Heap} {ws : va_W}
theorem n_calI (hx : p.tables.exec = Jvm.exec) (hb : c.code = cc) {nL na index maxL q ci n mc ms : Nat} {y : MethodName} {bytes : ByteArray} {wy : List Cond} {rm : Room} {own : String} {As st fs : List Value} {IE : (Nat → Nat) → Nat → va_E} (hml : c.maxLocals = nL) (hown : s.vm.findClass own = some m.cls) {Ts : List Cond} (hts : ∀ w ∈ Ts, w.before args s = true) (hK : va_K D vwCl (tysG G) s) (hNX : NX s) (hP : va_P D vwCl (ws ++ [(q, .inr (ci, fs))]) H) (hD : va_D A (ws ++ [(q, .inr (ci, fs))])) (hS : va_S A H0 H locs) (hA : ∀ q, H0.size ≤ q → A q) (hsz : ls.size = nL)
    (hM : Met l y wy rm (iPc D G q H.size ci fs As) (iQ D n IE q H.size) mc ms (iA q H.size)) (hst : st = As.reverse ++ .ref q :: rest) (hcat : (rest.map fun v => v.category).sum ≤ 8) (cw : CallB R s args own index y bytes maxL none wy rm mc ms na ∧ y.name = "<init>" ∧ (Cond.instanceMethod y).before args s = true) (hn : As.length = na) (hdg : decode cc pc = .ok (.invokespecial index, 3)) (hf : cells + mc ≤ R.cells ∧ slots + ms ≤ R.slots)
    (kk : ∀ (bd : Nat → Nat) (H1 : Heap) (locs1 : List Loc), bd 0 = q → va_P D vwCl (ws ++ kw n bd (IE bd)) H1 → va_D A (ws ++ kw n bd (IE bd)) → va_S A H0 H1 locs1 → W p l e R s m args below meth c H1 locs1 (cells + mc) (slots + ms) Q (F0 m (pc + 3) ls rest)) : W p l e R s m args below meth c H locs cells slots Q (F0 m pc ls st) := by
  have hq : (ws ++ [(q, (.inr (ci, fs) : va_E))])[ws.length]? = some (q, .inr (ci, fs)) := by rw [List.getElem?_append_right (Nat.le_refl _)]; simp
  have hsub : ∀ z, iA q H.size z → A z := fun z h => by
    rcases h with h | h
    · rw [h]; exact hD.2 _ _ hq
    · exact hA _ (Nat.le_trans hS.1 h)
  exact va_callv (va_runI (As := As) (rest := rest) ⟨hx, hb, hml, hown, hts⟩ hM cw ⟨iPc_blind, fun U hU hW => ⟨rfl, by rw [hU], ⟨by rw [hU]; exact va_P_last hP, (hP _ _ hq).lt⟩, va_K.moved hW.alike hK, NX_warm hW hNX⟩⟩ rfl hn hsz hst (lv_room hcat) hdg hf) hS (fun z _ h => hsub z h) hsub (fun bd t H1 locs1 ht hvm hw hB hz1 hk1 hS1 => by
    obtain ⟨hP1, hD1⟩ := hB
    rw [ht] at hP1
    obtain ⟨hP2, hD2⟩ := n_join hP hD hk1 hsub hP1 hD1
    exact kk bd H1 locs1 hw hP2 hD2 hS1)
theorem n_calN (hx : p.tables.exec = Jvm.exec) (hb : c.code = cc) {nL na index maxL q ci n mc ms : Nat} {y : MethodName} {bytes : ByteArray} {wy : List Cond} {rm : Room} {own host : String} {As st fs : List Value} {IE : (Nat → Nat) → Nat → va_E} (hml : c.maxLocals = nL) (hown : s.vm.findClass own = some m.cls) {Ts : List Cond} (hts : ∀ w ∈ Ts, w.before args s = true) (hK : va_K D vwCl (tysG G) s) (hNX : NX s) (hP : va_P D vwCl (ws ++ [(q, .inr (ci, fs))]) H) (hD : va_D A (ws ++ [(q, .inr (ci, fs))])) (hS : va_S A H0 H locs) (hA : ∀ q, H0.size ≤ q → A q) (hsz : ls.size = nL)
    (hM : Met l y wy rm (iPc D G q H.size ci fs As) (iQ D n IE q H.size) mc ms (iA q H.size)) (hst : st = As.reverse ++ .ref q :: rest) (hcat : (rest.map fun v => v.category).sum ≤ 8) (cw : va_CN R s args own index y host bytes maxL none wy rm mc ms na ∧ y.name = "<init>" ∧ (Cond.instanceMethod y).before args s = true) (hn : As.length = na) (hdg : decode cc pc = .ok (.invokespecial index, 3)) (hf : cells + mc ≤ R.cells ∧ slots + ms ≤ R.slots)
    (kk : ∀ (bd : Nat → Nat) (H1 : Heap) (locs1 : List Loc), bd 0 = q → va_P D vwCl (ws ++ kw n bd (IE bd)) H1 → va_D A (ws ++ kw n bd (IE bd)) → va_S A H0 H1 locs1 → W p l e R s m args below meth c H1 locs1 (cells + mc) (slots + ms) Q (F0 m (pc + 3) ls rest)) : W p l e R s m args below meth c H locs cells slots Q (F0 m pc ls st) := by
  have hq : (ws ++ [(q, (.inr (ci, fs) : va_E))])[ws.length]? = some (q, .inr (ci, fs)) := by rw [List.getElem?_append_right (Nat.le_refl _)]; simp
  have hsub : ∀ z, iA q H.size z → A z := fun z h => by
    rcases h with h | h
    · rw [h]; exact hD.2 _ _ hq
    · exact hA _ (Nat.le_trans hS.1 h)
  exact va_callv (va_runIN (As := As) (rest := rest) ⟨hx, hb, hml, hown, hts⟩ hM cw ⟨iPc_blind, fun U hU hW => ⟨rfl, by rw [hU], ⟨by rw [hU]; exact va_P_last hP, (hP _ _ hq).lt⟩, va_K.moved hW.alike hK, NX_warm hW hNX⟩⟩ rfl hn hsz hst (lv_room hcat) hdg hf) hS (fun z _ h => hsub z h) hsub (fun bd t H1 locs1 ht hvm hw hB hz1 hk1 hS1 => by
    obtain ⟨hP1, hD1⟩ := hB
    rw [ht] at hP1
    obtain ⟨hP2, hD2⟩ := n_join hP hD hk1 hsub hP1 hD1
    exact kk bd H1 locs1 hw hP2 hD2 hS1)
end NI
