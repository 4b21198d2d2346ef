theorem arrV_cg {c : ClassId} {n : Nat} {f g : Nat → Value} (h : ∀ j, j < n → f j = g j) : arrV c n f = arrV c n g := by
  have e : (fun j : Fin n => f j.val) = (fun j : Fin n => g j.val) := funext fun j => h j.1 j.2
  unfold arrV
  rw [e]
theorem va_at_q {D : va_G} {cl : List vw_C} {a n : Nat} {c : ClassId} {f g : Nat → Option Nat} {H : Heap} (h : ∀ j, j < n → f j = g j) (hP : va_at D cl (a, .inl (c, n, .inr (.inr (.inr (.inr f))))) H) : va_at D cl (a, .inl (c, n, .inr (.inr (.inr (.inr g))))) H := by
  have e : vp_cell c (n, .inr (.inr (.inr (.inr f)))) = vp_cell c (n, .inr (.inr (.inr (.inr g)))) := by
    show arrV c n (fun j => va_rf (f j)) = arrV c n (fun j => va_rf (g j))
    exact arrV_cg (fun j hj => by rw [h j hj])
  show H[a]? = some (vp_cell c (n, .inr (.inr (.inr (.inr g)))))
  rw [← e]
  exact hP
theorem n_outer (c : ClassId) (N h0 : Nat) : ∀ i : Nat, Jvm.Free.Multi.outerC c N h0 i = arrV c N (fun j => va_rf (if j < i then some (h0 + 1 + j) else none))
  | 0 => by
    show ({ cls := c, slots := Array.replicate N .null, vm := .none } : Cell) = _
    rw [arrV_new]
    refine congrArg (arrV c N) (funext fun j => ?_)
    simp [va_rf]
  | i + 1 => by
    show (Jvm.Free.Multi.outerC c N h0 i).setSlot i (.ref (h0 + 1 + i)) = _
    rw [n_outer c N h0 i, arrV_store]
    refine congrArg (arrV c N) (funext fun j => ?_)
    by_cases e : j = i
    · subst e
      simp [updV, va_rf]
    · by_cases h : j < i
      · simp [updV, e, h, Nat.lt_succ_of_lt h]
      · simp [updV, e, h, show ¬ j < i + 1 by omega]
theorem n_dis {A : Nat → Prop} {D : va_G} {cl : List vw_C} {ws : va_W} {n : Nat} {bd : Nat → Nat} {F : Nat → va_E} {H : Heap} (hD : va_D A ws) (hP : va_P D cl ws H) (hi : kInj n bd) (hge : ∀ k, k < n → H.size ≤ bd k) (hA : ∀ k, k < n → A (bd k)) : va_D A (ws ++ kw n bd F) := by
  refine ⟨fun i j y z hy hz e => ?_, fun k y hy => ?_⟩
  · by_cases h1 : i < ws.length <;> by_cases h2 : j < ws.length
    · rw [List.getElem?_append_left h1] at hy
      rw [List.getElem?_append_left h2] at hz
      exact hD.1 i j y z hy hz e
    · rw [List.getElem?_append_left h1] at hy
      rw [List.getElem?_append_right (by omega)] at hz
      obtain ⟨h3, rfl⟩ := kw_of hz
      have := (hP i y hy).lt
      have := hge _ h3
      have e2 : y.1 = bd (j - ws.length) := e
      omega
    · rw [List.getElem?_append_right (by omega)] at hy
      rw [List.getElem?_append_left h2] at hz
      obtain ⟨h3, rfl⟩ := kw_of hy
      have := (hP j z hz).lt
      have := hge _ h3
      have e2 : bd (i - ws.length) = z.1 := e
      omega
    · rw [List.getElem?_append_right (by omega)] at hy hz
      obtain ⟨h3, rfl⟩ := kw_of hy
      obtain ⟨h4, rfl⟩ := kw_of hz
      have := hi _ _ h3 h4 e
      omega
  · by_cases h1 : k < ws.length
    · rw [List.getElem?_append_left h1] at hy
      exact hD.2 k y hy
    · rw [List.getElem?_append_right (by omega)] at hy
      obtain ⟨h3, rfl⟩ := kw_of hy
      exact hA _ h3
/-- int[4][400]: the outer row, its four rows -/
def ME (G : Nat → ClassId) (bd : Nat → Nat) (k : Nat) : va_E := if k = 0 then .inl (G 6, 4, .inr (.inr (.inr (.inr (fun j => some (bd (1 + j))))))) else .inl (G 0, 400, .inl (fun _ => iI 0))
section NM
variable {p : Program} {l : Launch} {e : Env} {R : Room} {s : State} {m : MethodId} {args : Array Value} {below : List Frame} {meth : Method} {c : Code} {H : Heap} {locs : List Loc} {cells slots : Nat} {Q : State → Prop}
variable {cc : ByteArray} {pc : Nat} {ls : Array Slot} {rest : List Value} {D : va_G} {G : Nat → ClassId} {A : Nat → Prop} {H0 : Heap} {ws : va_W}
theorem n_mna (hx : p.tables.exec = Jvm.exec) (hb : c.code = cc) {own : String} {index : Nat} (hown : s.vm.findClass own = some m.cls) (hclink : (Cond.classLink own index "[[I").before args s = true) (hover : (Cond.arrayOver (.array .int)).before args s = true) (harr : (Cond.arrayClass .int).before args s = true) (hK : va_K D vwCl (tysG G) s) (hP : va_P D vwCl ws H) (hD : va_D A ws) (hS : va_S A H0 H locs) (hA : ∀ q, H0.size ≤ q → A q) (hcells : cells + 5 ≤ R.cells) (hslots : slots + 1604 ≤ R.slots) (hdg : decode cc pc = .ok (.multianewarray index 2, 4))
    (kk : ∀ (bd : Nat → Nat) (H1 : Heap), va_P D vwCl (ws ++ kw 5 bd (ME G bd)) H1 → va_D A (ws ++ kw 5 bd (ME G bd)) → va_S A H0 H1 locs → W p l e R s m args below meth c H1 locs (cells + 1 + 4) (slots + 4 + 4 * 400) Q (F0 m (pc + 4) ls (.ref (bd 0) :: rest))) : W p l e R s m args below meth c H locs cells slots Q (F0 m pc ls (.int (iI 400) :: .int (iI 4) :: rest)) := by
  have e4 : (iI 4).toNatClampNeg = 4 := by decide +kernel
  have e400 : (iI 400).toNatClampNeg = 400 := by decide +kernel
  intro T hT Xs
  obtain ⟨vm₁, cA, comp, -, fA, fC, hO, -, X', step⟩ := Xs.multianewarray2F (ty := .int) hx hown hclink hover harr (g := F0 m pc ls (.int (iI 400) :: .int (iI 4) :: rest)) rfl (by rw [hb]; exact hdg) (n := iI 4) (k := iI 400) (rest := rest) rfl (by decide +kernel) (by decide +kernel) (by decide +kernel) (by decide +kernel) (by decide +kernel) rfl rfl (by rw [e4]; omega) (by rw [e4, e400]; omega)
  rw [e4, e400] at X' step
  obtain rfl : G 0 = comp := Option.some.inj (Eq.trans (Eq.symm (show s.vm.findClass (FieldType.array .int).toString = some (G 0) from (hK.2 0 _ rfl).2)) fC)
  obtain rfl : G 6 = cA := Option.some.inj (Eq.trans (Eq.symm (show s.vm.findClass ("[" ++ (FieldType.array .int).toString) = some (G 6) from (hK.2 6 _ rfl).2)) fA)
  generalize hF : Jvm.Free.Multi.fill (T.setVm vm₁) (G 6) (G 0) 4 400 (defaultValue .int) 4 = F at X' step
  have hTh : (T.setVm vm₁).heap = H := hT
  obtain ⟨f1, f2, -, -⟩ := Jvm.Free.Multi.fill_facts (T.setVm vm₁) (G 6) (G 0) 4 400 (defaultValue .int) 4
  rw [hF, hTh] at f1 f2
  have hold : ∀ x : Nat, x < H.size → F.heap[x]? = H[x]? := fun x hx => by
    have := Jvm.Free.Multi.fill_old (T.setVm vm₁) (G 6) (G 0) 4 400 (defaultValue .int) (a := x) (by rw [hTh]; exact hx) 4
    rw [hF, hTh] at this
    exact this
  have hrow : ∀ j : Nat, j < 4 → F.heap[H.size + 1 + j]? = some (vp_cell (G 0) (400, .inl (fun _ => iI 0))) := fun j hj => by
    have := Jvm.Free.Multi.fill_inner (T.setVm vm₁) (G 6) (G 0) 4 400 (defaultValue .int) 4 j hj
    rw [hF, hTh] at this
    rw [this]
    show some ({ cls := G 0, slots := Array.replicate 400 (defaultValue .int), vm := .none } : Cell) = _
    rw [arrV_new]
    rfl
  have hout : F.heap[H.size]? = some (vp_cell (G 6) (4, .inr (.inr (.inr (.inr (fun j => some (H.size + (1 + j)))))))) := by
    rw [f2, n_outer]
    show some (arrV (G 6) 4 _) = some (arrV (G 6) 4 (fun j => va_rf (some (H.size + (1 + j)))))
    refine congrArg some (arrV_cg (fun j hj => ?_))
    rw [if_pos hj, Nat.add_assoc]
  have hP2 : va_P D vwCl (ws ++ kw 5 (fun k => H.size + k) (ME G (fun k => H.size + k))) F.heap := va_P.app (hP.kept (fun k x hx => hold x.1 ((hP k x hx).lt))) (fun k x hx => by
    obtain ⟨h1, rfl⟩ := kw_of hx
    by_cases h0 : k = 0
    · subst h0
      exact hout
    · have h2 := hrow (k - 1) (by omega)
      rw [show H.size + 1 + (k - 1) = H.size + k by omega] at h2
      show va_at D vwCl (H.size + k, ME G (fun k => H.size + k) k) F.heap
      rw [ME, if_neg h0]
      exact h2)
  have hD2 : va_D A (ws ++ kw 5 (fun k => H.size + k) (ME G (fun k => H.size + k))) := n_dis hD hP (fun i j _ _ h => by have h : H.size + i = H.size + j := h; omega) (fun k _ => Nat.le_add_right _ _) (fun k _ => hA _ (Nat.le_trans hS.1 (Nat.le_add_right _ _)))
  obtain ⟨t, a1, b1⟩ := kk (fun k => H.size + k) F.heap hP2 hD2 ⟨by rw [f1]; have := hS.1; omega, fun x h1 h2 => (hold x (Nat.lt_of_lt_of_le h1 hS.1)).trans (hS.2.1 x h1 h2), hS.2.2⟩ F rfl X'
  refine ⟨t, step t ?_, b1⟩
  have e : T.heap.size = H.size := by rw [hT]
  rw [e]
  exact a1
end NM
