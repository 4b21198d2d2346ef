/-! ===== numbers: an Int32 by an Int ===== -/
def iI (z : Int) : Int32 := Int32.ofInt z
theorem iI_add (a b : Int) : iI a + iI b = iI (a + b) := (Int32.ofInt_add a b).symm
theorem iI_sub (a b : Int) : iI a - iI b = iI (a - b) := (Int32.ofInt_sub a b).symm
theorem iI_mul (a b : Int) : iI a * iI b = iI (a * b) := (Int32.ofInt_mul a b).symm
theorem iI_toInt {z : Int} (h : -2147483648 ≤ z) (h2 : z < 2147483648) : (iI z).toInt = z := by
  unfold iI
  exact Int32.toInt_ofInt_of_le (by omega) (by omega)
theorem iI_eta (x : Int32) : iI x.toInt = x := Int32.ofInt_toInt x
theorem iI_of (x : Int32) : ∃ z : Int, (-2147483648 ≤ z ∧ z < 2147483648) ∧ x = iI z := by
  refine ⟨x.toInt, ⟨?_, ?_⟩, (iI_eta x).symm⟩
  · have := Int32.le_toInt x; simpa using this
  · have := Int32.toInt_lt x; simpa using this
theorem iI_lt {a b : Int} (ha : -2147483648 ≤ a ∧ a < 2147483648) (hb : -2147483648 ≤ b ∧ b < 2147483648) : iI a < iI b ↔ a < b := by
  rw [Int32.lt_iff_toInt_lt, iI_toInt ha.1 ha.2, iI_toInt hb.1 hb.2]
theorem iI_le {a b : Int} (ha : -2147483648 ≤ a ∧ a < 2147483648) (hb : -2147483648 ≤ b ∧ b < 2147483648) : iI a ≤ iI b ↔ a ≤ b := by
  rw [Int32.le_iff_toInt_le, iI_toInt ha.1 ha.2, iI_toInt hb.1 hb.2]
theorem iI_eq {a b : Int} (ha : -2147483648 ≤ a ∧ a < 2147483648) (hb : -2147483648 ≤ b ∧ b < 2147483648) : iI a = iI b ↔ a = b := by
  rw [← Int32.toInt_inj, iI_toInt ha.1 ha.2, iI_toInt hb.1 hb.2]
theorem iI_0 : (0 : Int32) = iI 0 := rfl
theorem iI_nat (n : Nat) : nI n = iI (n : Int) := rfl
theorem iI_clamp {z : Int} (h : 0 ≤ z) (h2 : z < 2147483648) : (iI z).toNatClampNeg = z.toNat := by
  show (iI z).toInt.toNat = z.toNat
  rw [iI_toInt (by omega) h2]
theorem iI_in {z : Int} {n : Nat} (h : 0 ≤ z ∧ z < n) (hn : n < 2147483648) : vp_in (iI z) n := by
  rw [vp_in_iff, iI_toInt (by omega) (by omega)]
  exact h
theorem iI_ne0 {z : Int} (h : -2147483648 ≤ z ∧ z < 2147483648) (h0 : z ≠ 0) : ¬ iI z = 0 := by
  rw [iI_0, iI_eq h (by omega)]
  exact h0
theorem iI_div {a b : Int} (ha : -2147483648 < a ∧ a < 2147483648) (hb : -2147483648 ≤ b ∧ b < 2147483648) : iI a / iI b = iI (a.tdiv b) := by
  apply Int32.toInt_inj.mp
  have hd : -2147483648 ≤ a.tdiv b ∧ a.tdiv b < 2147483648 := by
    have h1 : (a.tdiv b).natAbs ≤ a.natAbs := by
      rw [Int.natAbs_tdiv]; exact Nat.div_le_self _ _
    omega
  rw [iI_toInt hd.1 hd.2, Int32.toInt_div_of_ne_left, iI_toInt (by omega) ha.2, iI_toInt hb.1 hb.2]
  intro h
  have h2 := congrArg Int32.toInt h
  rw [iI_toInt (by omega) ha.2] at h2
  have h3 : Int32.minValue.toInt = -2147483648 := by decide +kernel
  omega
theorem iI_divN {a b : Int} (ha : 0 ≤ a ∧ a < 2147483648) (hb : 0 < b ∧ b < 2147483648) : iI a / iI b = iI (a / b) := by
  rw [iI_div (by omega) (by omega), Int.tdiv_eq_ediv_of_nonneg ha.1]
theorem iI_modN {a b : Int} (ha : 0 ≤ a ∧ a < 2147483648) (hb : 0 < b ∧ b < 2147483648) : iI a - iI a / iI b * iI b = iI (a % b) := by
  rw [iI_divN ha hb, iI_mul, iI_sub]
  congr 1
  have := Int.mul_ediv_add_emod a b
  rw [Int.mul_comm (a / b) b]
  omega
/-! ===== tables, choices, sums ===== -/
abbrev Tb : Type := Nat → Int → Int
def up (σ : Tb) (t : Nat) (i v : Int) : Tb := fun t' i' => if t' = t ∧ i' = i then v else σ t' i'
theorem up_self (σ : Tb) (t : Nat) (i v : Int) : up σ t i v t i = v := by simp [up]
theorem up_t {σ : Tb} {t t' : Nat} {i i' v : Int} (h : t' ≠ t) : up σ t i v t' i' = σ t' i' := by simp [up, h]
theorem up_i {σ : Tb} {t t' : Nat} {i i' v : Int} (h : i' ≠ i) : up σ t i v t' i' = σ t' i' := by simp [up, h]
noncomputable def cif {α : Type} (P : Prop) (a b : α) : α := @ite α P (Classical.propDecidable P) a b
theorem cif_t {α : Type} {P : Prop} {a b : α} (h : P) : cif P a b = a := by unfold cif; exact if_pos h
theorem cif_f {α : Type} {P : Prop} {a b : α} (h : ¬ P) : cif P a b = b := by unfold cif; exact if_neg h
theorem cif_c {α : Type} {P P' : Prop} {a a' b b' : α} (h : P ↔ P') (ha : P' → a = a') (hb : ¬ P' → b = b') : cif P a b = cif P' a' b' := by
  by_cases hp : P'
  · rw [cif_t hp, cif_t (h.mpr hp), ha hp]
  · rw [cif_f hp, cif_f (fun q => hp (h.mp q)), hb hp]
noncomputable def bI (P : Prop) : Int := cif P 1 0
theorem bI_t {P : Prop} (h : P) : bI P = 1 := cif_t h
theorem bI_f {P : Prop} (h : ¬ P) : bI P = 0 := cif_f h
theorem bI_c {P P' : Prop} (h : P ↔ P') : bI P = bI P' := cif_c h (fun _ => rfl) (fun _ => rfl)
theorem bI_01 (P : Prop) : bI P = 0 ∨ bI P = 1 := by
  by_cases h : P
  · exact Or.inr (bI_t h)
  · exact Or.inl (bI_f h)
theorem bI_1 {P : Prop} : bI P = 1 ↔ P := by
  by_cases h : P
  · exact ⟨fun _ => h, fun _ => bI_t h⟩
  · exact ⟨fun q => by rw [bI_f h] at q; omega, fun q => absurd q h⟩
theorem bI_0 {P : Prop} : bI P = 0 ↔ ¬ P := by
  by_cases h : P
  · exact ⟨fun q => by rw [bI_t h] at q; omega, fun q => absurd h q⟩
  · exact ⟨fun _ => h, fun _ => bI_f h⟩
/-! ===== worlds: the cells by keys ===== -/
def kw (K : Nat) (ad : Nat → Nat) (E : Nat → va_E) : va_W := (List.range K).map (fun k => (ad k, E k))
def kA (K : Nat) (ad : Nat → Nat) : Nat → Prop := fun q => ∃ k, k < K ∧ q = ad k
def kInj (K : Nat) (ad : Nat → Nat) : Prop := ∀ i j, i < K → j < K → ad i = ad j → i = j
theorem kw_get {K : Nat} {ad : Nat → Nat} {E : Nat → va_E} {k : Nat} (h : k < K) : (kw K ad E)[k]? = some (ad k, E k) := by
  simp [kw, h]
theorem kw_of {K : Nat} {ad : Nat → Nat} {E : Nat → va_E} {k : Nat} {q : Nat × va_E} (h : (kw K ad E)[k]? = some q) : k < K ∧ q = (ad k, E k) := by
  have hk : k < K := by
    have := (List.getElem?_eq_some_iff.mp h).1
    simpa [kw] using this
  rw [kw_get hk] at h
  exact ⟨hk, (Option.some.inj h).symm⟩
theorem kw_set {K : Nat} {ad : Nat → Nat} {E : Nat → va_E} {k : Nat} (h : k < K) (e : va_E) : (kw K ad E).set k (ad k, e) = kw K ad (va_up E k e) := by
  apply List.ext_getElem?
  intro j
  by_cases hj : j < K
  · rw [kw_get hj]
    by_cases hjk : j = k
    · subst hjk
      rw [List.getElem?_set_self (by simpa [kw] using hj), va_up_self]
    · rw [List.getElem?_set_ne (Ne.symm hjk), kw_get hj, va_up_ne _ _ hjk]
  · rw [List.getElem?_eq_none (by simp [kw]; omega), List.getElem?_eq_none (by simp [kw]; omega)]
theorem kw_D {A : Nat → Prop} {K : Nat} {ad : Nat → Nat} (hi : kInj K ad) (hA : ∀ k, k < K → A (ad k)) (E : Nat → va_E) : va_D A (kw K ad E) := by
  refine ⟨fun i j p q hp hq e => ?_, fun k q hq => ?_⟩
  · obtain ⟨h1, rfl⟩ := kw_of hp
    obtain ⟨h2, rfl⟩ := kw_of hq
    exact hi i j h1 h2 e
  · obtain ⟨h1, rfl⟩ := kw_of hq
    exact hA k h1
theorem kw_DK {K : Nat} {ad : Nat → Nat} (hi : kInj K ad) (E : Nat → va_E) : va_D (kA K ad) (kw K ad E) := kw_D hi (fun k h => ⟨k, h, rfl⟩) E
def kPc (D : va_G) (tys : List (ClassId × FieldType)) (K : Nat) (ad : Nat → Nat) (E : Nat → va_E) (av : List Value) : Array Value → State → Prop :=
  va_Pc av (fun U => va_P D vwCl (kw K ad E) U.heap ∧ va_K D vwCl tys U)
def kQi (D : va_G) (K : Nat) (ad : Nat → Nat) (post : Int → (Nat → va_E) → Prop) : Array Value → State → Outcome → State → Prop :=
  va_Qi (fun (r : Int32) (E' : Nat → va_E) => ∃ z : Int, r = iI z ∧ post z E') (fun E' t => va_P D vwCl (kw K ad E') t.heap) (kA K ad)
def kQl (D : va_G) (K : Nat) (ad : Nat → Nat) (post : Nat → (Nat → va_E) → Prop) : Array Value → State → Outcome → State → Prop :=
  va_Ql (fun (r : Int64) (E' : Nat → va_E) => ∃ z : Nat, r = lN z ∧ post z E') (fun E' t => va_P D vwCl (kw K ad E') t.heap) (kA K ad)
def kQv (D : va_G) (K : Nat) (ad : Nat → Nat) (post : (Nat → va_E) → Prop) : Array Value → State → Outcome → State → Prop :=
  va_Qv (fun (E' : Nat → va_E) => post E') (fun E' t => va_P D vwCl (kw K ad E') t.heap) (kA K ad)
theorem kPc_blind {D : va_G} {tys : List (ClassId × FieldType)} {K : Nat} {ad : Nat → Nat} {E : Nat → va_E} {av : List Value} : FrameBlind (kPc D tys K ad E av) := fun a U g mk q => by
  obtain ⟨q0, qP, qK⟩ := q
  exact ⟨q0, qP, va_K.moved (u := U) (U := U.calling g mk a) (Vm.Alike.refl U.vm) qK⟩
theorem k_met {l : Launch} {y : MethodName} {rm : Room} {cc : ByteArray} {maxL : Nat} {ret : Option FieldType} {D : va_G} {tys : List (ClassId × FieldType)} {K : Nat} {ad : Nat → Nat} {E : Nat → va_E} {av : List Value} {Qc : Array Value → State → Outcome → State → Prop}
    (hy : plainName y.cls = true) (hlen : (lg_sl av).length ≤ maxL)
    (body : ∀ (p : Program) (e : Env) (s : State) (m : MethodId) (below : List Frame) (meth : Method) (c : Code) (ls : Array Slot), p.tables.exec = Jvm.exec → c.code = cc → meth.sig.returnType = ret → meth.locks = false → c.maxLocals = maxL → s.vm.findClass y.cls = some m.cls → (∀ w ∈ wT, w.before av.toArray s = true) → va_K D vwCl tys s → va_P D vwCl (kw K ad E) s.heap → va_S (kA K ad) s.heap s.heap [] → lv_has ls maxL (lv_args 0 av) →
      W p l e rm s m av.toArray below meth c s.heap [] 0 0 (MQ below Qc av.toArray s 0 0 (kA K ad)) (F0 m 0 ls [])) : Met l y (.code y cc maxL ret :: wT) rm (kPc D tys K ad E av) Qc 0 0 (kA K ad) := by
  refine Met.ofW (cc := cc) (maxL := maxL) (ret := ret) hy rfl ?_
  intro p e s m args below meth c s₁ B hml hv
  obtain ⟨rfl, hP, hK⟩ := hv
  have hts : ∀ w ∈ wT, w.before av.toArray s = true := fun w h => atoms_spec (ws := .code y cc maxL ret :: wT) B.pre w (List.mem_cons_of_mem _ h)
  have hown : s.vm.findClass y.cls = some m.cls := findClass_of_methodNamed B.named
  have hl := lv_entry av hlen
  rw [lg_entry_eq]
  exact body p e s m below meth c _ B.exec B.bytes B.returns B.notSynchronized hml hown hts hK hP va_S.rf hl
section KR
variable {p : Program} {l : Launch} {e : Env} {R : Room} {s : State} {m : MethodId} {args : Array Value} {below : List Frame} {meth : Method} {c : Code} {H : Heap} {locs : List Loc} {cells slots : Nat} {Q : State → Prop}
variable {cc : ByteArray} {pc : Nat} {ls : Array Slot} {rest : List Value} {D : va_G} {tys : List (ClassId × FieldType)} {K : Nat} {ad : Nat → Nat} {E : Nat → va_E} {H0 : Heap}
theorem r_const (hx : p.tables.exec = Jvm.exec) (hb : c.code = cc) {n : Int} (hdg : decode cc pc = .ok (.iconst n, 1))
    (k : W p l e R s m args below meth c H locs cells slots Q (F0 m (pc + 1) ls (.int (iI n) :: rest))) : W p l e R s m args below meth c H locs cells slots Q (F0 m pc ls rest) := lv_iconst hx hb hdg rfl k
theorem r_bipush (hx : p.tables.exec = Jvm.exec) (hb : c.code = cc) {n : Int} (hdg : decode cc pc = .ok (.bipush n, 2)) (hv : (Int8.ofInt n).toInt32 = iI n)
    (k : W p l e R s m args below meth c H locs cells slots Q (F0 m (pc + 2) ls (.int (iI n) :: rest))) : W p l e R s m args below meth c H locs cells slots Q (F0 m pc ls rest) := lv_bipush hx hb hdg hv k
theorem r_sipush (hx : p.tables.exec = Jvm.exec) (hb : c.code = cc) {n : Int} (hdg : decode cc pc = .ok (.sipush n, 3)) (hv : (Int16.ofInt n).toInt32 = iI n)
    (k : W p l e R s m args below meth c H locs cells slots Q (F0 m (pc + 3) ls (.int (iI n) :: rest))) : W p l e R s m args below meth c H locs cells slots Q (F0 m pc ls rest) := lv_sipush hx hb hdg hv k
theorem r_add (hx : p.tables.exec = Jvm.exec) (hb : c.code = cc) {x y : Int} (hdg : decode cc pc = .ok (.iadd, 1))
    (k : W p l e R s m args below meth c H locs cells slots Q (F0 m (pc + 1) ls (.int (iI (x + y)) :: rest))) : W p l e R s m args below meth c H locs cells slots Q (F0 m pc ls (.int (iI y) :: .int (iI x) :: rest)) := lv_iadd hx hb hdg (by rw [iI_add]; exact k)
theorem r_sub (hx : p.tables.exec = Jvm.exec) (hb : c.code = cc) {x y : Int} (hdg : decode cc pc = .ok (.isub, 1))
    (k : W p l e R s m args below meth c H locs cells slots Q (F0 m (pc + 1) ls (.int (iI (x - y)) :: rest))) : W p l e R s m args below meth c H locs cells slots Q (F0 m pc ls (.int (iI y) :: .int (iI x) :: rest)) := lv_isub hx hb hdg (by rw [iI_sub]; exact k)
theorem r_mul (hx : p.tables.exec = Jvm.exec) (hb : c.code = cc) {x y : Int} (hdg : decode cc pc = .ok (.imul, 1))
    (k : W p l e R s m args below meth c H locs cells slots Q (F0 m (pc + 1) ls (.int (iI (x * y)) :: rest))) : W p l e R s m args below meth c H locs cells slots Q (F0 m pc ls (.int (iI y) :: .int (iI x) :: rest)) := lv_imul hx hb hdg (by rw [iI_mul]; exact k)
theorem r_div (hx : p.tables.exec = Jvm.exec) (hb : c.code = cc) {x y : Int} (ha : 0 ≤ x ∧ x < 2147483648) (hy : 0 < y ∧ y < 2147483648) (hdg : decode cc pc = .ok (.idiv, 1))
    (k : W p l e R s m args below meth c H locs cells slots Q (F0 m (pc + 1) ls (.int (iI (x / y)) :: rest))) : W p l e R s m args below meth c H locs cells slots Q (F0 m pc ls (.int (iI y) :: .int (iI x) :: rest)) := lv_idiv hx hb hdg (iI_ne0 (by omega) (by omega)) (by rw [iI_divN ha hy]; exact k)
theorem r_rem (hx : p.tables.exec = Jvm.exec) (hb : c.code = cc) {x y : Int} (ha : 0 ≤ x ∧ x < 2147483648) (hy : 0 < y ∧ y < 2147483648) (hdg : decode cc pc = .ok (.irem, 1))
    (k : W p l e R s m args below meth c H locs cells slots Q (F0 m (pc + 1) ls (.int (iI (x % y)) :: rest))) : W p l e R s m args below meth c H locs cells slots Q (F0 m pc ls (.int (iI y) :: .int (iI x) :: rest)) := lv_irem hx hb hdg (iI_ne0 (by omega) (by omega)) (by rw [iI_modN ha hy]; exact k)
theorem r_iinc (hx : p.tables.exec = Jvm.exec) (hb : c.code = cc) {i nL k : Nat} {n z : Int} {lv : List (Nat × Value)} (hdg : decode cc pc = .ok (.iinc i n, 3)) (h : lv_has ls nL lv) (hk : lv[k]? = some (i, .int (iI z))) (hn : i < nL)
    (kk : ∀ ls' : Array Slot, lv_has ls' nL ((i, Value.int (iI (z + n))) :: lv.filter (fun q => !(q.1 == i) && !(q.1 + 1 == i && q.2.category == 2))) → W p l e R s m args below meth c H locs cells slots Q (F0 m (pc + 3) ls' rest)) : W p l e R s m args below meth c H locs cells slots Q (F0 m pc ls rest) := lv_iinc (v := iI (z + n)) hx hb hdg h hk (iI_add z n) hn rfl kk
end KR
section KR2
variable {p : Program} {l : Launch} {e : Env} {R : Room} {s : State} {m : MethodId} {args : Array Value} {below : List Frame} {meth : Method} {c : Code} {H : Heap} {locs : List Loc} {cells slots : Nat} {Q : State → Prop}
variable {cc : ByteArray} {pc : Nat} {ls : Array Slot} {rest : List Value} {D : va_G} {tys : List (ClassId × FieldType)} {K : Nat} {ad : Nat → Nat} {E : Nat → va_E} {H0 : Heap}
theorem r_icmp_lt (hx : p.tables.exec = Jvm.exec) (hb : c.code = cc) {x y : Int} {off : Int} {tgt : Nat} (hx1 : -2147483648 ≤ x ∧ x < 2147483648) (hy1 : -2147483648 ≤ y ∧ y < 2147483648) (hdg : decode cc pc = .ok (.if_icmp .lt off, 3)) (ht : (pc : Int) + off = (tgt : Int))
    (kt : x < y → W p l e R s m args below meth c H locs cells slots Q (F0 m tgt ls rest)) (kf : ¬ x < y → W p l e R s m args below meth c H locs cells slots Q (F0 m (pc + 3) ls rest)) : W p l e R s m args below meth c H locs cells slots Q (F0 m pc ls (.int (iI y) :: .int (iI x) :: rest)) := lv_icmp_lt hx hb hdg ht (fun h => kt ((iI_lt hx1 hy1).mp h)) (fun h => kf (fun q => h ((iI_lt hx1 hy1).mpr q)))
theorem r_icmp_ge (hx : p.tables.exec = Jvm.exec) (hb : c.code = cc) {x y : Int} {off : Int} {tgt : Nat} (hx1 : -2147483648 ≤ x ∧ x < 2147483648) (hy1 : -2147483648 ≤ y ∧ y < 2147483648) (hdg : decode cc pc = .ok (.if_icmp .ge off, 3)) (ht : (pc : Int) + off = (tgt : Int))
    (kt : y ≤ x → W p l e R s m args below meth c H locs cells slots Q (F0 m tgt ls rest)) (kf : ¬ y ≤ x → W p l e R s m args below meth c H locs cells slots Q (F0 m (pc + 3) ls rest)) : W p l e R s m args below meth c H locs cells slots Q (F0 m pc ls (.int (iI y) :: .int (iI x) :: rest)) := lv_icmp_ge hx hb hdg ht (fun h => kt ((iI_le hy1 hx1).mp h)) (fun h => kf (fun q => h ((iI_le hy1 hx1).mpr q)))
theorem r_icmp_gt (hx : p.tables.exec = Jvm.exec) (hb : c.code = cc) {x y : Int} {off : Int} {tgt : Nat} (hx1 : -2147483648 ≤ x ∧ x < 2147483648) (hy1 : -2147483648 ≤ y ∧ y < 2147483648) (hdg : decode cc pc = .ok (.if_icmp .gt off, 3)) (ht : (pc : Int) + off = (tgt : Int))
    (kt : y < x → W p l e R s m args below meth c H locs cells slots Q (F0 m tgt ls rest)) (kf : ¬ y < x → W p l e R s m args below meth c H locs cells slots Q (F0 m (pc + 3) ls rest)) : W p l e R s m args below meth c H locs cells slots Q (F0 m pc ls (.int (iI y) :: .int (iI x) :: rest)) := lv_icmp_gt hx hb hdg ht (fun h => kt ((iI_lt hy1 hx1).mp h)) (fun h => kf (fun q => h ((iI_lt hy1 hx1).mpr q)))
theorem r_icmp_le (hx : p.tables.exec = Jvm.exec) (hb : c.code = cc) {x y : Int} {off : Int} {tgt : Nat} (hx1 : -2147483648 ≤ x ∧ x < 2147483648) (hy1 : -2147483648 ≤ y ∧ y < 2147483648) (hdg : decode cc pc = .ok (.if_icmp .le off, 3)) (ht : (pc : Int) + off = (tgt : Int))
    (kt : x ≤ y → W p l e R s m args below meth c H locs cells slots Q (F0 m tgt ls rest)) (kf : ¬ x ≤ y → W p l e R s m args below meth c H locs cells slots Q (F0 m (pc + 3) ls rest)) : W p l e R s m args below meth c H locs cells slots Q (F0 m pc ls (.int (iI y) :: .int (iI x) :: rest)) := lv_icmp_le hx hb hdg ht (fun h => kt ((iI_le hx1 hy1).mp h)) (fun h => kf (fun q => h ((iI_le hx1 hy1).mpr q)))
theorem r_icmp_eq (hx : p.tables.exec = Jvm.exec) (hb : c.code = cc) {x y : Int} {off : Int} {tgt : Nat} (hx1 : -2147483648 ≤ x ∧ x < 2147483648) (hy1 : -2147483648 ≤ y ∧ y < 2147483648) (hdg : decode cc pc = .ok (.if_icmp .eq off, 3)) (ht : (pc : Int) + off = (tgt : Int))
    (kt : x = y → W p l e R s m args below meth c H locs cells slots Q (F0 m tgt ls rest)) (kf : ¬ x = y → W p l e R s m args below meth c H locs cells slots Q (F0 m (pc + 3) ls rest)) : W p l e R s m args below meth c H locs cells slots Q (F0 m pc ls (.int (iI y) :: .int (iI x) :: rest)) := lv_icmp_eq hx hb hdg ht (fun h => kt ((iI_eq hx1 hy1).mp h)) (fun h => kf (fun q => h ((iI_eq hx1 hy1).mpr q)))
theorem r_icmp_ne (hx : p.tables.exec = Jvm.exec) (hb : c.code = cc) {x y : Int} {off : Int} {tgt : Nat} (hx1 : -2147483648 ≤ x ∧ x < 2147483648) (hy1 : -2147483648 ≤ y ∧ y < 2147483648) (hdg : decode cc pc = .ok (.if_icmp .ne off, 3)) (ht : (pc : Int) + off = (tgt : Int))
    (kt : ¬ x = y → W p l e R s m args below meth c H locs cells slots Q (F0 m tgt ls rest)) (kf : x = y → W p l e R s m args below meth c H locs cells slots Q (F0 m (pc + 3) ls rest)) : W p l e R s m args below meth c H locs cells slots Q (F0 m pc ls (.int (iI y) :: .int (iI x) :: rest)) := lv_icmp_ne hx hb hdg ht (fun h => kt (fun q => h ((iI_eq hx1 hy1).mpr q))) (fun h => kf ((iI_eq hx1 hy1).mp h))
theorem r_if_lt (hx : p.tables.exec = Jvm.exec) (hb : c.code = cc) {x : Int} {off : Int} {tgt : Nat} (hx1 : -2147483648 ≤ x ∧ x < 2147483648) (hdg : decode cc pc = .ok (.ifCond .lt off, 3)) (ht : (pc : Int) + off = (tgt : Int))
    (kt : x < 0 → W p l e R s m args below meth c H locs cells slots Q (F0 m tgt ls rest)) (kf : ¬ x < 0 → W p l e R s m args below meth c H locs cells slots Q (F0 m (pc + 3) ls rest)) : W p l e R s m args below meth c H locs cells slots Q (F0 m pc ls (.int (iI x) :: rest)) := lv_if_lt hx hb hdg ht (fun h => kt ((iI_lt hx1 (by omega)).mp h)) (fun h => kf (fun q => h ((iI_lt hx1 (by omega)).mpr q)))
theorem r_if_ge (hx : p.tables.exec = Jvm.exec) (hb : c.code = cc) {x : Int} {off : Int} {tgt : Nat} (hx1 : -2147483648 ≤ x ∧ x < 2147483648) (hdg : decode cc pc = .ok (.ifCond .ge off, 3)) (ht : (pc : Int) + off = (tgt : Int))
    (kt : 0 ≤ x → W p l e R s m args below meth c H locs cells slots Q (F0 m tgt ls rest)) (kf : ¬ 0 ≤ x → W p l e R s m args below meth c H locs cells slots Q (F0 m (pc + 3) ls rest)) : W p l e R s m args below meth c H locs cells slots Q (F0 m pc ls (.int (iI x) :: rest)) := lv_if_ge hx hb hdg ht (fun h => kt ((iI_le (by omega) hx1).mp h)) (fun h => kf (fun q => h ((iI_le (by omega) hx1).mpr q)))
theorem r_if_gt (hx : p.tables.exec = Jvm.exec) (hb : c.code = cc) {x : Int} {off : Int} {tgt : Nat} (hx1 : -2147483648 ≤ x ∧ x < 2147483648) (hdg : decode cc pc = .ok (.ifCond .gt off, 3)) (ht : (pc : Int) + off = (tgt : Int))
    (kt : 0 < x → W p l e R s m args below meth c H locs cells slots Q (F0 m tgt ls rest)) (kf : ¬ 0 < x → W p l e R s m args below meth c H locs cells slots Q (F0 m (pc + 3) ls rest)) : W p l e R s m args below meth c H locs cells slots Q (F0 m pc ls (.int (iI x) :: rest)) := lv_if_gt hx hb hdg ht (fun h => kt ((iI_lt (by omega) hx1).mp h)) (fun h => kf (fun q => h ((iI_lt (by omega) hx1).mpr q)))
theorem r_if_le (hx : p.tables.exec = Jvm.exec) (hb : c.code = cc) {x : Int} {off : Int} {tgt : Nat} (hx1 : -2147483648 ≤ x ∧ x < 2147483648) (hdg : decode cc pc = .ok (.ifCond .le off, 3)) (ht : (pc : Int) + off = (tgt : Int))
    (kt : x ≤ 0 → W p l e R s m args below meth c H locs cells slots Q (F0 m tgt ls rest)) (kf : ¬ x ≤ 0 → W p l e R s m args below meth c H locs cells slots Q (F0 m (pc + 3) ls rest)) : W p l e R s m args below meth c H locs cells slots Q (F0 m pc ls (.int (iI x) :: rest)) := lv_if_le hx hb hdg ht (fun h => kt ((iI_le hx1 (by omega)).mp h)) (fun h => kf (fun q => h ((iI_le hx1 (by omega)).mpr q)))
theorem r_if_eq (hx : p.tables.exec = Jvm.exec) (hb : c.code = cc) {x : Int} {off : Int} {tgt : Nat} (hx1 : -2147483648 ≤ x ∧ x < 2147483648) (hdg : decode cc pc = .ok (.ifCond .eq off, 3)) (ht : (pc : Int) + off = (tgt : Int))
    (kt : x = 0 → W p l e R s m args below meth c H locs cells slots Q (F0 m tgt ls rest)) (kf : ¬ x = 0 → W p l e R s m args below meth c H locs cells slots Q (F0 m (pc + 3) ls rest)) : W p l e R s m args below meth c H locs cells slots Q (F0 m pc ls (.int (iI x) :: rest)) := lv_if_eq hx hb hdg ht (fun h => kt ((iI_eq hx1 (by omega)).mp h)) (fun h => kf (fun q => h ((iI_eq hx1 (by omega)).mpr q)))
theorem r_if_ne (hx : p.tables.exec = Jvm.exec) (hb : c.code = cc) {x : Int} {off : Int} {tgt : Nat} (hx1 : -2147483648 ≤ x ∧ x < 2147483648) (hdg : decode cc pc = .ok (.ifCond .ne off, 3)) (ht : (pc : Int) + off = (tgt : Int))
    (kt : ¬ x = 0 → W p l e R s m args below meth c H locs cells slots Q (F0 m tgt ls rest)) (kf : x = 0 → W p l e R s m args below meth c H locs cells slots Q (F0 m (pc + 3) ls rest)) : W p l e R s m args below meth c H locs cells slots Q (F0 m pc ls (.int (iI x) :: rest)) := lv_if_ne hx hb hdg ht (fun h => kt (fun q => h ((iI_eq hx1 (by omega)).mpr q))) (fun h => kf ((iI_eq hx1 (by omega)).mp h))
theorem r_ifB_eq (hx : p.tables.exec = Jvm.exec) (hb : c.code = cc) {P : Prop} {off : Int} {tgt : Nat} (hdg : decode cc pc = .ok (.ifCond .eq off, 3)) (ht : (pc : Int) + off = (tgt : Int))
    (kt : ¬ P → W p l e R s m args below meth c H locs cells slots Q (F0 m tgt ls rest)) (kf : P → W p l e R s m args below meth c H locs cells slots Q (F0 m (pc + 3) ls rest)) : W p l e R s m args below meth c H locs cells slots Q (F0 m pc ls (.int (iI (bI P)) :: rest)) := r_if_eq hx hb (by rcases bI_01 P with h | h <;> omega) hdg ht (fun h => kt (bI_0.mp h)) (fun h => kf (Classical.not_not.mp (fun q => h (bI_0.mpr q))))
theorem r_ifB_ne (hx : p.tables.exec = Jvm.exec) (hb : c.code = cc) {P : Prop} {off : Int} {tgt : Nat} (hdg : decode cc pc = .ok (.ifCond .ne off, 3)) (ht : (pc : Int) + off = (tgt : Int))
    (kt : P → W p l e R s m args below meth c H locs cells slots Q (F0 m tgt ls rest)) (kf : ¬ P → W p l e R s m args below meth c H locs cells slots Q (F0 m (pc + 3) ls rest)) : W p l e R s m args below meth c H locs cells slots Q (F0 m pc ls (.int (iI (bI P)) :: rest)) := r_if_ne hx hb (by rcases bI_01 P with h | h <;> omega) hdg ht (fun h => kt (Classical.not_not.mp (fun q => h (bI_0.mpr q)))) (fun h => kf (bI_0.mp h))
theorem r_get (hx : p.tables.exec = Jvm.exec) (hb : c.code = cc) {own ref C : String} {T : u_T} {N ci index : Nat} {Ts : List Cond} (hts : ∀ w ∈ Ts, w.before args s = true) (hin : ∀ w ∈ u_ws C T N, w ∈ Ts) (hown : s.vm.findClass own = some m.cls) (hK : va_K D vwCl tys s) (hP : va_P D vwCl (kw K ad E) H) (j : Nat) {key : Nat} {fs : List Value} {v : Value} (hc : vwCl[ci]? = some (C, T, N)) (hj : j < N) (hlink : Cond.fieldLink own index ref (T j).2.1 (T j).2.2.1 ∈ Ts) (hsame : ∀ x, s.fieldFound? (T j).1 (T j).2.1 (T j).2.2.1 = some x → s.fieldFound? ref (T j).2.1 (T j).2.2.1 = some x) (hdg : decode cc pc = .ok (.getfield index, 3)) (hk : key < K) (he : E key = .inr (ci, fs)) (hv : fs[j]? = some v)
    (kk : W p l e R s m args below meth c H locs cells slots Q (F0 m (pc + 3) ls (v :: rest))) : W p l e R s m args below meth c H locs cells slots Q (F0 m pc ls (.ref (ad key) :: rest)) :=
  va_get hx hb hts hin hown hK hP key ((kw_get hk).trans (by rw [he])) hc j hj (hts _ hlink) hsame hv hdg kk
theorem r_put (hx : p.tables.exec = Jvm.exec) (hb : c.code = cc) {own ref C : String} {T : u_T} {N ci index : Nat} {Ts : List Cond} (hi : kInj K ad) (hts : ∀ w ∈ Ts, w.before args s = true) (hin : ∀ w ∈ u_ws C T N, w ∈ Ts) (ty0 : Nat → FieldType) (hty : ∀ k, k < N → parseFieldDescriptor (T k).2.2.1 = some (ty0 k)) (hnm : ∀ a, a < N → ∀ b, b < N → a ≠ b → (T a).2.1 ≠ (T b).2.1) (hown : s.vm.findClass own = some m.cls) (hK : va_K D vwCl tys s) (hP : va_P D vwCl (kw K ad E) H) (hS : va_S (kA K ad) H0 H locs) (j : Nat) {key : Nat} {fs : List Value} {v : Value} {E' : Nat → va_E} {ty : FieldType} (hc : vwCl[ci]? = some (C, T, N)) (hj : j < N) (hlink : Cond.fieldLink own index ref (T j).2.1 (T j).2.2.1 ∈ Ts) (hsame : ∀ x, s.fieldFound? (T j).1 (T j).2.1 (T j).2.2.1 = some x → s.fieldFound? ref (T j).2.1 (T j).2.2.1 = some x) (hfin : (T j).2.2.2 = false) (hd : parseFieldDescriptor (T j).2.2.1 = some ty) (hn : narrow ty v = v) (hfit : fits ty v = true) (hdg : decode cc pc = .ok (.putfield index, 3)) (hk : key < K) (he : E key = .inr (ci, fs)) (hl : j < fs.length) (hE : va_up E key (.inr (ci, fs.set j v)) = E')
    (kk : ∀ (H1 : Heap) (locs1 : List Loc), va_P D vwCl (kw K ad E') H1 → va_S (kA K ad) H0 H1 locs1 → W p l e R s m args below meth c H1 locs1 cells slots Q (F0 m (pc + 3) ls rest)) : W p l e R s m args below meth c H locs cells slots Q (F0 m pc ls (v :: .ref (ad key) :: rest)) :=
  va_put hx hb hts hin ty0 hty hnm hown hK hP (kw_DK hi E) hS key ((kw_get hk).trans (by rw [he])) hc j hj (hts _ hlink) hsame hfin hd hn hfit hl hdg (fun H1 locs1 hP1 _ hS1 => kk H1 locs1 (by rw [kw_set hk, hE] at hP1; exact hP1) hS1)
theorem r_iald (hx : p.tables.exec = Jvm.exec) (hb : c.code = cc) (hK : va_K D vwCl tys s) (hP : va_P D vwCl (kw K ad E) H) (t0 : Nat) {key n : Nat} {cA : ClassId} {f : Nat → Int32} {z : Int} {v : Int32} (ht : tys[t0]? = some (cA, .int)) (hdg : decode cc pc = .ok (.iaload, 1)) (hk : key < K) (he : E key = .inl (cA, n, .inl f)) (hn : n < 2147483648) (hz : 0 ≤ z ∧ z < n) (hv : f z.toNat = v)
    (kk : W p l e R s m args below meth c H locs cells slots Q (F0 m (pc + 1) ls (.int v :: rest))) : W p l e R s m args below meth c H locs cells slots Q (F0 m pc ls (.int (iI z) :: .ref (ad key) :: rest)) :=
  va_iald hx hb hK hP key t0 ((kw_get hk).trans (by rw [he])) ht (iI_in hz hn) hdg (by rw [iI_clamp hz.1 (by omega), hv]; exact kk)
theorem r_zald (hx : p.tables.exec = Jvm.exec) (hb : c.code = cc) (hK : va_K D vwCl tys s) (hP : va_P D vwCl (kw K ad E) H) (t0 : Nat) {key n : Nat} {cA : ClassId} {f : Nat → Int32} {z : Int} {v : Int32} (ht : tys[t0]? = some (cA, .boolean)) (hdg : decode cc pc = .ok (.baload, 1)) (hk : key < K) (he : E key = .inl (cA, n, .inl f)) (hn : n < 2147483648) (hz : 0 ≤ z ∧ z < n) (hv : f z.toNat = v)
    (kk : W p l e R s m args below meth c H locs cells slots Q (F0 m (pc + 1) ls (.int v :: rest))) : W p l e R s m args below meth c H locs cells slots Q (F0 m pc ls (.int (iI z) :: .ref (ad key) :: rest)) :=
  va_zald hx hb hK hP key t0 ((kw_get hk).trans (by rw [he])) ht (iI_in hz hn) hdg (by rw [iI_clamp hz.1 (by omega), hv]; exact kk)
theorem r_lald (hx : p.tables.exec = Jvm.exec) (hb : c.code = cc) (hK : va_K D vwCl tys s) (hP : va_P D vwCl (kw K ad E) H) (t0 : Nat) {key n : Nat} {cA : ClassId} {f : Nat → Int64} {z : Int} {v : Int64} (ht : tys[t0]? = some (cA, .long)) (hdg : decode cc pc = .ok (.laload, 1)) (hk : key < K) (he : E key = .inl (cA, n, .inr (.inl f))) (hn : n < 2147483648) (hz : 0 ≤ z ∧ z < n) (hv : f z.toNat = v)
    (kk : W p l e R s m args below meth c H locs cells slots Q (F0 m (pc + 1) ls (.long v :: rest))) : W p l e R s m args below meth c H locs cells slots Q (F0 m pc ls (.int (iI z) :: .ref (ad key) :: rest)) :=
  va_lald hx hb hK hP key t0 ((kw_get hk).trans (by rw [he])) ht (iI_in hz hn) hdg (by rw [iI_clamp hz.1 (by omega), hv]; exact kk)
theorem r_aald (hx : p.tables.exec = Jvm.exec) (hb : c.code = cc) (hK : va_K D vwCl tys s) (hP : va_P D vwCl (kw K ad E) H) (t0 : Nat) {key n a : Nat} {cA : ClassId} {C : String} {f : Nat → Option Nat} {z : Int} (ht : tys[t0]? = some (cA, .object C)) (hdg : decode cc pc = .ok (.aaload, 1)) (hk : key < K) (he : E key = .inl (cA, n, .inr (.inr (.inr (.inr f))))) (hn : n < 2147483648) (hz : 0 ≤ z ∧ z < n) (hv : f z.toNat = some a)
    (kk : W p l e R s m args below meth c H locs cells slots Q (F0 m (pc + 1) ls (.ref a :: rest))) : W p l e R s m args below meth c H locs cells slots Q (F0 m pc ls (.int (iI z) :: .ref (ad key) :: rest)) :=
  va_aldq hx hb hK hP key t0 ((kw_get hk).trans (by rw [he])) ht (iI_in hz hn) hdg (by rw [iI_clamp hz.1 (by omega), hv]; exact kk)
theorem r_iast (hx : p.tables.exec = Jvm.exec) (hb : c.code = cc) (hi : kInj K ad) (hK : va_K D vwCl tys s) (hP : va_P D vwCl (kw K ad E) H) (hS : va_S (kA K ad) H0 H locs) (t0 : Nat) {key n : Nat} {cA : ClassId} {f : Nat → Int32} {z : Int} {v : Int32} {E' : Nat → va_E} (ht : tys[t0]? = some (cA, .int)) (hdg : decode cc pc = .ok (.iastore, 1)) (hk : key < K) (he : E key = .inl (cA, n, .inl f)) (hn : n < 2147483648) (hz : 0 ≤ z ∧ z < n) (hE : va_up E key (.inl (cA, n, .inl (upd f z.toNat v))) = E')
    (kk : ∀ (H1 : Heap) (locs1 : List Loc), va_P D vwCl (kw K ad E') H1 → va_S (kA K ad) H0 H1 locs1 → W p l e R s m args below meth c H1 locs1 cells slots Q (F0 m (pc + 1) ls rest)) : W p l e R s m args below meth c H locs cells slots Q (F0 m pc ls (.int v :: .int (iI z) :: .ref (ad key) :: rest)) :=
  va_iast hx hb hK hP (kw_DK hi E) hS key t0 ((kw_get hk).trans (by rw [he])) ht (iI_in hz hn) hdg (fun H1 locs1 hP1 _ hS1 => kk H1 locs1 (by rw [iI_clamp hz.1 (by omega), kw_set hk, hE] at hP1; exact hP1) hS1)
theorem r_zast (hx : p.tables.exec = Jvm.exec) (hb : c.code = cc) (hi : kInj K ad) (hK : va_K D vwCl tys s) (hP : va_P D vwCl (kw K ad E) H) (hS : va_S (kA K ad) H0 H locs) (t0 : Nat) {key n : Nat} {cA : ClassId} {f : Nat → Int32} {z w : Int} {E' : Nat → va_E} (ht : tys[t0]? = some (cA, .boolean)) (hdg : decode cc pc = .ok (.bastore, 1)) (hk : key < K) (he : E key = .inl (cA, n, .inl f)) (hn : n < 2147483648) (hz : 0 ≤ z ∧ z < n) (hw : w = 0 ∨ w = 1) (hE : va_up E key (.inl (cA, n, .inl (upd f z.toNat (iI w)))) = E')
    (kk : ∀ (H1 : Heap) (locs1 : List Loc), va_P D vwCl (kw K ad E') H1 → va_S (kA K ad) H0 H1 locs1 → W p l e R s m args below meth c H1 locs1 cells slots Q (F0 m (pc + 1) ls rest)) : W p l e R s m args below meth c H locs cells slots Q (F0 m pc ls (.int (iI w) :: .int (iI z) :: .ref (ad key) :: rest)) :=
  va_zast hx hb hK hP (kw_DK hi E) hS key t0 ((kw_get hk).trans (by rw [he])) ht (iI_in hz hn) hdg (fun H1 locs1 hP1 _ hS1 => kk H1 locs1 (by rw [show vp_nar .boolean (iI w) = iI w by rcases hw with h | h <;> subst h <;> decide +kernel, iI_clamp hz.1 (by omega), kw_set hk, hE] at hP1; exact hP1) hS1)
theorem r_last (hx : p.tables.exec = Jvm.exec) (hb : c.code = cc) (hi : kInj K ad) (hK : va_K D vwCl tys s) (hP : va_P D vwCl (kw K ad E) H) (hS : va_S (kA K ad) H0 H locs) (t0 : Nat) {key n : Nat} {cA : ClassId} {f : Nat → Int64} {z : Int} {v : Int64} {E' : Nat → va_E} (ht : tys[t0]? = some (cA, .long)) (hdg : decode cc pc = .ok (.lastore, 1)) (hk : key < K) (he : E key = .inl (cA, n, .inr (.inl f))) (hn : n < 2147483648) (hz : 0 ≤ z ∧ z < n) (hE : va_up E key (.inl (cA, n, .inr (.inl (vp_updL f z.toNat v)))) = E')
    (kk : ∀ (H1 : Heap) (locs1 : List Loc), va_P D vwCl (kw K ad E') H1 → va_S (kA K ad) H0 H1 locs1 → W p l e R s m args below meth c H1 locs1 cells slots Q (F0 m (pc + 1) ls rest)) : W p l e R s m args below meth c H locs cells slots Q (F0 m pc ls (.long v :: .int (iI z) :: .ref (ad key) :: rest)) :=
  va_last hx hb hK hP (kw_DK hi E) hS key t0 ((kw_get hk).trans (by rw [he])) ht (iI_in hz hn) hdg (fun H1 locs1 hP1 _ hS1 => kk H1 locs1 (by rw [iI_clamp hz.1 (by omega), kw_set hk, hE] at hP1; exact hP1) hS1)
theorem k_iret (hx : p.tables.exec = Jvm.exec) (hb : c.code = cc) (hr : meth.sig.returnType = some .int) (hlocks : meth.locks = false) (hP : va_P D vwCl (kw K ad E) H) (hS : va_S (kA K ad) s.heap H locs) {z : Int} {post : Int → (Nat → va_E) → Prop} (hdg : decode cc pc = .ok (.ireturn, 1)) (hq : post z E) : W p l e R s m args below meth c H locs 0 0 (MQ below (kQi D K ad post) args s 0 0 (kA K ad)) (F0 m pc ls [.int (iI z)]) :=
  W.iret (v := iI z) hx hb hr (fun t ht hW => ⟨⟨iI z, E, rfl, ⟨z, rfl, hq⟩, by show va_P D vwCl (kw K ad E) t.heap; rw [ht]; exact hP⟩, hS.F ht⟩) hS.2.2 hdg hlocks
theorem k_zret (hx : p.tables.exec = Jvm.exec) (hb : c.code = cc) (hr : meth.sig.returnType = some .boolean) (hlocks : meth.locks = false) (hP : va_P D vwCl (kw K ad E) H) (hS : va_S (kA K ad) s.heap H locs) {z : Int} {post : Int → (Nat → va_E) → Prop} (hdg : decode cc pc = .ok (.ireturn, 1)) (hz : z = 0 ∨ z = 1) (hq : post z E) : W p l e R s m args below meth c H locs 0 0 (MQ below (kQi D K ad post) args s 0 0 (kA K ad)) (F0 m pc ls [.int (iI z)]) :=
  W.zret (v := iI z) hx hb hr (by rcases hz with h | h <;> subst h <;> decide +kernel) (fun t ht hW => ⟨⟨iI z, E, rfl, ⟨z, rfl, hq⟩, by show va_P D vwCl (kw K ad E) t.heap; rw [ht]; exact hP⟩, hS.F ht⟩) hS.2.2 hdg hlocks
theorem k_lret (hx : p.tables.exec = Jvm.exec) (hb : c.code = cc) (hr : meth.sig.returnType = some .long) (hlocks : meth.locks = false) (hP : va_P D vwCl (kw K ad E) H) (hS : va_S (kA K ad) s.heap H locs) {z : Nat} {post : Nat → (Nat → va_E) → Prop} (hdg : decode cc pc = .ok (.lreturn, 1)) (hq : post z E) : W p l e R s m args below meth c H locs 0 0 (MQ below (kQl D K ad post) args s 0 0 (kA K ad)) (F0 m pc ls [.long (lN z)]) :=
  W.lret (v := lN z) hx hb hr (fun t ht hW => ⟨⟨lN z, E, rfl, ⟨z, rfl, hq⟩, by show va_P D vwCl (kw K ad E) t.heap; rw [ht]; exact hP⟩, hS.F ht⟩) hS.2.2 hdg hlocks
theorem k_vret (hx : p.tables.exec = Jvm.exec) (hb : c.code = cc) (hr : meth.sig.returnType = none) (hlocks : meth.locks = false) (hP : va_P D vwCl (kw K ad E) H) (hS : va_S (kA K ad) s.heap H locs) {post : (Nat → va_E) → Prop} (hdg : decode cc pc = .ok (.return_, 1)) (hq : post E) : W p l e R s m args below meth c H locs 0 0 (MQ below (kQv D K ad post) args s 0 0 (kA K ad)) (F0 m pc ls []) :=
  W.vret hx hb hr (fun t ht hW => ⟨⟨E, rfl, hq, by show va_P D vwCl (kw K ad E) t.heap; rw [ht]; exact hP⟩, hS.F ht⟩) hS.2.2 hdg hlocks
theorem k_calliV (hx : p.tables.exec = Jvm.exec) (hb : c.code = cc) {nL n index maxL : Nat} {y : MethodName} {bytes : ByteArray} {ws Ts : List Cond} {rm : Room} {own : String} {ret : Option FieldType} {As st : List Value} (hml : c.maxLocals = nL) (hown : s.vm.findClass own = some m.cls) (hts : ∀ w ∈ Ts, w.before args s = true) (hK : va_K D vwCl tys s) (hP : va_P D vwCl (kw K ad E) H) (hS : va_S (kA K ad) H0 H locs) (hsz : ls.size = nL) {post : Int → (Nat → va_E) → Prop} {C : String} {T : u_T} {N ci key : Nat} {fs : List Value} (hM : Met l y ws rm (kPc D tys K ad E (.ref (ad key) :: As)) (kQi D K ad post) 0 0 (kA K ad)) (hst : st = As.reverse ++ .ref (ad key) :: rest) (hcat : (rest.map fun v => v.category).sum ≤ 8) (hc : vwCl[ci]? = some (C, T, N)) (cw : CallW R s args own C index y bytes maxL ret ws rm 0 0 n) (hn : As.length = n) (hdg : decode cc pc = .ok (.invokevirtual index, 3)) (hf : cells ≤ R.cells ∧ slots ≤ R.slots) (hk : key < K) (he : E key = .inr (ci, fs))
    (kk : ∀ (z : Int) (E' : Nat → va_E) (H1 : Heap) (locs1 : List Loc), post z E' → va_P D vwCl (kw K ad E') H1 → va_S (kA K ad) H0 H1 locs1 → W p l e R s m args below meth c H1 locs1 cells slots Q (F0 m (pc + 3) ls (.int (iI z) :: rest))) : W p l e R s m args below meth c H locs cells slots Q (F0 m pc ls st) :=
  va_calli (va_runV (As := As) (rest := rest) ⟨hx, hb, hml, hown, hts⟩ hM cw ⟨kPc_blind, va_recv hK hP hc ((kw_get hk).trans (by rw [he])), fun U hU hW => ⟨rfl, by rw [hU]; exact hP, va_K.moved hW.alike hK⟩⟩ rfl hn hsz hst (lv_room hcat) hdg hf) hS (fun _ _ h => h) (fun _ h => h) (fun r E' t H1 locs1 ht hvm hw hB hz1 hk1 hS1 => by obtain ⟨z, rfl, hw⟩ := hw; exact kk z E' H1 locs1 hw (by rw [← ht]; exact hB) hS1)
theorem k_calliS (hx : p.tables.exec = Jvm.exec) (hb : c.code = cc) {nL n index maxL : Nat} {y : MethodName} {bytes : ByteArray} {ws Ts : List Cond} {rm : Room} {own : String} {ret : Option FieldType} {As st : List Value} (hml : c.maxLocals = nL) (hown : s.vm.findClass own = some m.cls) (hts : ∀ w ∈ Ts, w.before args s = true) (hK : va_K D vwCl tys s) (hP : va_P D vwCl (kw K ad E) H) (hS : va_S (kA K ad) H0 H locs) (hsz : ls.size = nL) {post : Int → (Nat → va_E) → Prop} (hM : Met l y ws rm (kPc D tys K ad E As) (kQi D K ad post) 0 0 (kA K ad)) (hst : st = As.reverse ++ rest) (hcat : (rest.map fun v => v.category).sum ≤ 8) (cw : CallB R s args own index y bytes maxL ret ws rm 0 0 n ∧ (Cond.static y).before args s = true) (hn : As.length = n) (hdg : decode cc pc = .ok (.invokestatic index, 3)) (hf : cells ≤ R.cells ∧ slots ≤ R.slots)
    (kk : ∀ (z : Int) (E' : Nat → va_E) (H1 : Heap) (locs1 : List Loc), post z E' → va_P D vwCl (kw K ad E') H1 → va_S (kA K ad) H0 H1 locs1 → W p l e R s m args below meth c H1 locs1 cells slots Q (F0 m (pc + 3) ls (.int (iI z) :: rest))) : W p l e R s m args below meth c H locs cells slots Q (F0 m pc ls st) :=
  va_calli (va_runS (As := As) (rest := rest) ⟨hx, hb, hml, hown, hts⟩ hM cw ⟨kPc_blind, fun U hU hW => ⟨rfl, by rw [hU]; exact hP, va_K.moved hW.alike hK⟩⟩ rfl hn hsz hst (lv_room hcat) hdg hf) hS (fun _ _ h => h) (fun _ h => h) (fun r E' t H1 locs1 ht hvm hw hB hz1 hk1 hS1 => by obtain ⟨z, rfl, hw⟩ := hw; exact kk z E' H1 locs1 hw (by rw [← ht]; exact hB) hS1)
theorem k_calllV (hx : p.tables.exec = Jvm.exec) (hb : c.code = cc) {nL n index maxL : Nat} {y : MethodName} {bytes : ByteArray} {ws Ts : List Cond} {rm : Room} {own : String} {ret : Option FieldType} {As st : List Value} (hml : c.maxLocals = nL) (hown : s.vm.findClass own = some m.cls) (hts : ∀ w ∈ Ts, w.before args s = true) (hK : va_K D vwCl tys s) (hP : va_P D vwCl (kw K ad E) H) (hS : va_S (kA K ad) H0 H locs) (hsz : ls.size = nL) {post : Nat → (Nat → va_E) → Prop} {C : String} {T : u_T} {N ci key : Nat} {fs : List Value} (hM : Met l y ws rm (kPc D tys K ad E (.ref (ad key) :: As)) (kQl D K ad post) 0 0 (kA K ad)) (hst : st = As.reverse ++ .ref (ad key) :: rest) (hcat : (rest.map fun v => v.category).sum ≤ 8) (hc : vwCl[ci]? = some (C, T, N)) (cw : CallW R s args own C index y bytes maxL ret ws rm 0 0 n) (hn : As.length = n) (hdg : decode cc pc = .ok (.invokevirtual index, 3)) (hf : cells ≤ R.cells ∧ slots ≤ R.slots) (hk : key < K) (he : E key = .inr (ci, fs))
    (kk : ∀ (z : Nat) (E' : Nat → va_E) (H1 : Heap) (locs1 : List Loc), post z E' → va_P D vwCl (kw K ad E') H1 → va_S (kA K ad) H0 H1 locs1 → W p l e R s m args below meth c H1 locs1 cells slots Q (F0 m (pc + 3) ls (.long (lN z) :: rest))) : W p l e R s m args below meth c H locs cells slots Q (F0 m pc ls st) :=
  va_calll (va_runV (As := As) (rest := rest) ⟨hx, hb, hml, hown, hts⟩ hM cw ⟨kPc_blind, va_recv hK hP hc ((kw_get hk).trans (by rw [he])), fun U hU hW => ⟨rfl, by rw [hU]; exact hP, va_K.moved hW.alike hK⟩⟩ rfl hn hsz hst (lv_room hcat) hdg hf) hS (fun _ _ h => h) (fun _ h => h) (fun r E' t H1 locs1 ht hvm hw hB hz1 hk1 hS1 => by obtain ⟨z, rfl, hw⟩ := hw; exact kk z E' H1 locs1 hw (by rw [← ht]; exact hB) hS1)
theorem k_calllS (hx : p.tables.exec = Jvm.exec) (hb : c.code = cc) {nL n index maxL : Nat} {y : MethodName} {bytes : ByteArray} {ws Ts : List Cond} {rm : Room} {own : String} {ret : Option FieldType} {As st : List Value} (hml : c.maxLocals = nL) (hown : s.vm.findClass own = some m.cls) (hts : ∀ w ∈ Ts, w.before args s = true) (hK : va_K D vwCl tys s) (hP : va_P D vwCl (kw K ad E) H) (hS : va_S (kA K ad) H0 H locs) (hsz : ls.size = nL) {post : Nat → (Nat → va_E) → Prop} (hM : Met l y ws rm (kPc D tys K ad E As) (kQl D K ad post) 0 0 (kA K ad)) (hst : st = As.reverse ++ rest) (hcat : (rest.map fun v => v.category).sum ≤ 8) (cw : CallB R s args own index y bytes maxL ret ws rm 0 0 n ∧ (Cond.static y).before args s = true) (hn : As.length = n) (hdg : decode cc pc = .ok (.invokestatic index, 3)) (hf : cells ≤ R.cells ∧ slots ≤ R.slots)
    (kk : ∀ (z : Nat) (E' : Nat → va_E) (H1 : Heap) (locs1 : List Loc), post z E' → va_P D vwCl (kw K ad E') H1 → va_S (kA K ad) H0 H1 locs1 → W p l e R s m args below meth c H1 locs1 cells slots Q (F0 m (pc + 3) ls (.long (lN z) :: rest))) : W p l e R s m args below meth c H locs cells slots Q (F0 m pc ls st) :=
  va_calll (va_runS (As := As) (rest := rest) ⟨hx, hb, hml, hown, hts⟩ hM cw ⟨kPc_blind, fun U hU hW => ⟨rfl, by rw [hU]; exact hP, va_K.moved hW.alike hK⟩⟩ rfl hn hsz hst (lv_room hcat) hdg hf) hS (fun _ _ h => h) (fun _ h => h) (fun r E' t H1 locs1 ht hvm hw hB hz1 hk1 hS1 => by obtain ⟨z, rfl, hw⟩ := hw; exact kk z E' H1 locs1 hw (by rw [← ht]; exact hB) hS1)
theorem k_callvV (hx : p.tables.exec = Jvm.exec) (hb : c.code = cc) {nL n index maxL : Nat} {y : MethodName} {bytes : ByteArray} {ws Ts : List Cond} {rm : Room} {own : String} {ret : Option FieldType} {As st : List Value} (hml : c.maxLocals = nL) (hown : s.vm.findClass own = some m.cls) (hts : ∀ w ∈ Ts, w.before args s = true) (hK : va_K D vwCl tys s) (hP : va_P D vwCl (kw K ad E) H) (hS : va_S (kA K ad) H0 H locs) (hsz : ls.size = nL) {post : (Nat → va_E) → Prop} {C : String} {T : u_T} {N ci key : Nat} {fs : List Value} (hM : Met l y ws rm (kPc D tys K ad E (.ref (ad key) :: As)) (kQv D K ad post) 0 0 (kA K ad)) (hst : st = As.reverse ++ .ref (ad key) :: rest) (hcat : (rest.map fun v => v.category).sum ≤ 8) (hc : vwCl[ci]? = some (C, T, N)) (cw : CallW R s args own C index y bytes maxL ret ws rm 0 0 n) (hn : As.length = n) (hdg : decode cc pc = .ok (.invokevirtual index, 3)) (hf : cells ≤ R.cells ∧ slots ≤ R.slots) (hk : key < K) (he : E key = .inr (ci, fs))
    (kk : ∀ (E' : Nat → va_E) (H1 : Heap) (locs1 : List Loc), post E' → va_P D vwCl (kw K ad E') H1 → va_S (kA K ad) H0 H1 locs1 → W p l e R s m args below meth c H1 locs1 cells slots Q (F0 m (pc + 3) ls (rest))) : W p l e R s m args below meth c H locs cells slots Q (F0 m pc ls st) :=
  va_callv (va_runV (As := As) (rest := rest) ⟨hx, hb, hml, hown, hts⟩ hM cw ⟨kPc_blind, va_recv hK hP hc ((kw_get hk).trans (by rw [he])), fun U hU hW => ⟨rfl, by rw [hU]; exact hP, va_K.moved hW.alike hK⟩⟩ rfl hn hsz hst (lv_room hcat) hdg hf) hS (fun _ _ h => h) (fun _ h => h) (fun E' t H1 locs1 ht hvm hw hB hz1 hk1 hS1 => kk E' H1 locs1 hw (by rw [← ht]; exact hB) hS1)
theorem k_callvS (hx : p.tables.exec = Jvm.exec) (hb : c.code = cc) {nL n index maxL : Nat} {y : MethodName} {bytes : ByteArray} {ws Ts : List Cond} {rm : Room} {own : String} {ret : Option FieldType} {As st : List Value} (hml : c.maxLocals = nL) (hown : s.vm.findClass own = some m.cls) (hts : ∀ w ∈ Ts, w.before args s = true) (hK : va_K D vwCl tys s) (hP : va_P D vwCl (kw K ad E) H) (hS : va_S (kA K ad) H0 H locs) (hsz : ls.size = nL) {post : (Nat → va_E) → Prop} (hM : Met l y ws rm (kPc D tys K ad E As) (kQv D K ad post) 0 0 (kA K ad)) (hst : st = As.reverse ++ rest) (hcat : (rest.map fun v => v.category).sum ≤ 8) (cw : CallB R s args own index y bytes maxL ret ws rm 0 0 n ∧ (Cond.static y).before args s = true) (hn : As.length = n) (hdg : decode cc pc = .ok (.invokestatic index, 3)) (hf : cells ≤ R.cells ∧ slots ≤ R.slots)
    (kk : ∀ (E' : Nat → va_E) (H1 : Heap) (locs1 : List Loc), post E' → va_P D vwCl (kw K ad E') H1 → va_S (kA K ad) H0 H1 locs1 → W p l e R s m args below meth c H1 locs1 cells slots Q (F0 m (pc + 3) ls (rest))) : W p l e R s m args below meth c H locs cells slots Q (F0 m pc ls st) :=
  va_callv (va_runS (As := As) (rest := rest) ⟨hx, hb, hml, hown, hts⟩ hM cw ⟨kPc_blind, fun U hU hW => ⟨rfl, by rw [hU]; exact hP, va_K.moved hW.alike hK⟩⟩ rfl hn hsz hst (lv_room hcat) hdg hf) hS (fun _ _ h => h) (fun _ h => h) (fun E' t H1 locs1 ht hvm hw hB hz1 hk1 hS1 => kk E' H1 locs1 hw (by rw [← ht]; exact hB) hS1)
theorem r_lconst0 (hx : p.tables.exec = Jvm.exec) (hb : c.code = cc) (hdg : decode cc pc = .ok (.lconst 0, 1))
    (k : W p l e R s m args below meth c H locs cells slots Q (F0 m (pc + 1) ls (.long (lN 0) :: rest))) : W p l e R s m args below meth c H locs cells slots Q (F0 m pc ls rest) := lv_lconst hx hb hdg rfl k
theorem r_lconst1 (hx : p.tables.exec = Jvm.exec) (hb : c.code = cc) (hdg : decode cc pc = .ok (.lconst 1, 1))
    (k : W p l e R s m args below meth c H locs cells slots Q (F0 m (pc + 1) ls (.long (lN 1) :: rest))) : W p l e R s m args below meth c H locs cells slots Q (F0 m pc ls rest) := lv_lconst hx hb hdg rfl k
theorem k_abs {g : JFrame} (k : ∀ Wg : Heap → List Loc → JFrame → Prop, (∀ H locs g, Wg H locs g = W p l e R s m args below meth c H locs cells slots Q g) → W p l e R s m args below meth c H locs cells slots Q g) : W p l e R s m args below meth c H locs cells slots Q g := k (fun H locs g => W p l e R s m args below meth c H locs cells slots Q g) (fun _ _ _ => rfl)
theorem r_ldc (hx : p.tables.exec = Jvm.exec) (hb : c.code = cc) {own : String} {index : Nat} {v : Int32} {z : Int} (hown : s.vm.findClass own = some m.cls) (hconst : (Jvm.Cond.constant own index v).before args s = true) (hv : v = iI z) (hdg : decode cc pc = .ok (.ldc index, 2))
    (k : W p l e R s m args below meth c H locs cells slots Q (F0 m (pc + 2) ls (.int (iI z) :: rest))) : W p l e R s m args below meth c H locs cells slots Q (F0 m pc ls rest) := lv_ldc hx hb hown hconst hdg (by rw [hv]; exact k)
theorem r_aaldA (hx : p.tables.exec = Jvm.exec) (hb : c.code = cc) (hK : va_K D vwCl tys s) (hP : va_P D vwCl (kw K ad E) H) (t0 : Nat) {key n a : Nat} {cA : ClassId} {f : Nat → Option Nat} {z : Int} (ht : tys[t0]? = some (cA, .array .int)) (hdg : decode cc pc = .ok (.aaload, 1)) (hk : key < K) (he : E key = .inl (cA, n, .inr (.inr (.inr (.inr f))))) (hn : n < 2147483648) (hz : 0 ≤ z ∧ z < n) (hv : f z.toNat = some a)
    (kk : W p l e R s m args below meth c H locs cells slots Q (F0 m (pc + 1) ls (.ref a :: rest))) : W p l e R s m args below meth c H locs cells slots Q (F0 m pc ls (.int (iI z) :: .ref (ad key) :: rest)) := by
  have ha : (kw K ad E)[key]? = some (ad key, .inl (cA, n, .inr (.inr (.inr (.inr f))))) := (kw_get hk).trans (by rw [he])
  have hlt : (iI z).toNatClampNeg < n := by rw [iI_clamp hz.1 (by omega)]; omega
  exact W.aald (v := va_rf (f (iI z).toNatClampNeg)) (ty := .array .int) hx hb (hP key _ ha) ((hK.2 t0 _ ht).1 n (fun j => va_rf (f j))) rfl (fun q => by cases q) (by show ¬ (iI z < 0 ∨ (arrV _ _ _).slots.size ≤ _); rw [arrV_size]; exact iI_in hz hn) (by show (arrV _ _ _).slots[_]? = _; rw [arrV_read _ _ hlt]) rfl rfl hdg (by rw [iI_clamp hz.1 (by omega), hv]; exact kk)
theorem r_mmax (hx : p.tables.exec = Jvm.exec) (hb : c.code = cc) {nL : Nat} (hml : c.maxLocals = nL) (hsz : ls.size = nL) {own : String} {index : Nat} (hown : s.vm.findClass own = some m.cls) (hts : ∀ w ∈ wT, w.before args s = true) (hlink : Cond.methodLink own index Lib.Math.max.name ∈ wT) (hframes : 1 ≤ R.frames) (hlocals : (rest.map fun v => v.category).sum + 13 ≤ R.locals) (hf : cells ≤ R.cells ∧ slots ≤ R.slots) {x y : Int} (hx1 : -2147483648 ≤ x ∧ x < 2147483648) (hy1 : -2147483648 ≤ y ∧ y < 2147483648) (hdg : decode cc pc = .ok (.invokestatic index, 3))
    (kk : W p l e R s m args below meth c H locs cells slots Q (F0 m (pc + 3) ls (.int (iI (if x < y then y else x)) :: rest))) : W p l e R s m args below meth c H locs cells slots Q (F0 m pc ls (.int (iI y) :: .int (iI x) :: rest)) :=
  va_mmax hx hb (hml.trans hsz.symm) hown (hts _ hlink) (hts _ ms_max) (hts _ mi_math) (hts _ mc_max) hframes hlocals hf.1 hf.2 hdg (by
    rw [show (if iI x < iI y then iI y else iI x) = iI (if x < y then y else x) by
      by_cases h : x < y
      · rw [if_pos h, if_pos ((iI_lt hx1 hy1).mpr h)]
      · rw [if_neg h, if_neg (fun q => h ((iI_lt hx1 hy1).mp q))]]
    exact kk)
theorem r_mmin (hx : p.tables.exec = Jvm.exec) (hb : c.code = cc) {nL : Nat} (hml : c.maxLocals = nL) (hsz : ls.size = nL) {own : String} {index : Nat} (hown : s.vm.findClass own = some m.cls) (hts : ∀ w ∈ wT, w.before args s = true) (hlink : Cond.methodLink own index Lib.Math.min.name ∈ wT) (hframes : 1 ≤ R.frames) (hlocals : (rest.map fun v => v.category).sum + 13 ≤ R.locals) (hf : cells ≤ R.cells ∧ slots ≤ R.slots) {x y : Int} (hx1 : -2147483648 ≤ x ∧ x < 2147483648) (hy1 : -2147483648 ≤ y ∧ y < 2147483648) (hdg : decode cc pc = .ok (.invokestatic index, 3))
    (kk : W p l e R s m args below meth c H locs cells slots Q (F0 m (pc + 3) ls (.int (iI (if y < x then y else x)) :: rest))) : W p l e R s m args below meth c H locs cells slots Q (F0 m pc ls (.int (iI y) :: .int (iI x) :: rest)) :=
  va_mmin hx hb (hml.trans hsz.symm) hown (hts _ hlink) (hts _ ms_min) (hts _ mi_math) (hts _ mc_min) hframes hlocals hf.1 hf.2 hdg (by
    rw [show (if iI y < iI x then iI y else iI x) = iI (if y < x then y else x) by
      by_cases h : y < x
      · rw [if_pos h, if_pos ((iI_lt hy1 hx1).mpr h)]
      · rw [if_neg h, if_neg (fun q => h ((iI_lt hy1 hx1).mp q))]]
    exact kk)
end KR2
