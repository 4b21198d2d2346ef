/-! ===== shortest ways ===== -/
theorem sumN_le {f g : Int → Int} : ∀ k : Nat, (∀ i : Int, 0 ≤ i → i < k → f i ≤ g i) → sumN f k ≤ sumN g k
  | 0, _ => Int.le_refl _
  | k + 1, h => by
    have h1 := sumN_le k (fun i h1 h2 => h i h1 (by omega))
    have h2 := h k (by omega) (by omega)
    show sumN f k + f k ≤ sumN g k + g k
    omega
theorem sumI_le {f g : Int → Int} {n : Int} (h : ∀ i, 0 ≤ i → i < n → f i ≤ g i) : sumI f n ≤ sumI g n := sumN_le n.toNat (fun i h1 h2 => h i h1 (by omega))
theorem sumI_lt {f g : Int → Int} {n a v : Int} (ha : 0 ≤ a ∧ a < n) (h : ∀ i, 0 ≤ i → i < n → f i ≤ g i) (h2 : f a + v ≤ g a) : sumI f n + v ≤ sumI g n := by
  have e : sumI (fun i => f i + cif (i = a) v 0) n = sumI f n + v := by rw [sumI_add, sumI_pt ha]
  rw [← e]
  refine sumI_le (fun i i1 i2 => ?_)
  by_cases q : i = a
  · rw [cif_t q, q]; exact h2
  · rw [cif_f q]; have := h i i1 i2; omega
theorem sumI_ge {f : Int → Int} {n a : Int} (ha : 0 ≤ a ∧ a < n) (h : ∀ i, 0 ≤ i → i < n → 0 ≤ f i) : f a ≤ sumI f n := by
  have := sumI_lt (f := fun _ => 0) (g := f) (v := f a) ha h (by omega)
  have e : sumI (fun _ => 0) n = 0 := by
    have := sumI_b (f := fun _ => 0) (n := n) (M := 0) (by omega) (fun i _ _ => by omega)
    omega
  omega
def opn (σ : Tb) (S : Nat) (p : Int) : Prop := 0 ≤ p ∧ p < σ 0 0 ∧ ¬ S.testBit p.toNat = true
def wfD (σ : Tb) (S : Nat) (a : Int) (f : Int → Int) : Prop :=
  f a = 0 ∧ (∀ v, 0 ≤ v → v < 20 → 0 ≤ f v ∧ f v ≤ 1000000) ∧
  (∀ v, 0 ≤ v → v < 20 → v ≠ a → f v < 1000000 → ∃ p, 0 ≤ p ∧ p < σ 0 0 ∧ ¬ S.testBit p.toNat = true ∧ ((σ 2 p = v ∧ f (σ 1 p) + σ 5 p ≤ f v) ∨ (σ 1 p = v ∧ f (σ 2 p) + σ 5 p ≤ f v)))
def slk (σ : Tb) (S : Nat) (f f0 : Int → Int) (n : Int) : Prop := ∀ p, 0 ≤ p → p < n → ¬ S.testBit p.toNat = true → f (σ 1 p) ≤ f0 (σ 2 p) + σ 5 p ∧ f (σ 2 p) ≤ f0 (σ 1 p) + σ 5 p
theorem isDs_of {σ : Tb} {S : Nat} {a : Int} {f : Int → Int} (h : wfD σ S a f) (h2 : slk σ S f f (σ 0 0)) : isDs σ S a f := ⟨h.1, h.2.1, h2, h.2.2⟩
theorem wfD_ge {σ : Tb} (hI : Inv σ) {S : Nat} {a : Int} {f D : Int → Int} (ha : 0 ≤ a ∧ a < 20) (hD : isDs σ S a D) (h : wfD σ S a f) : ∀ v, 0 ≤ v → v < 20 → D v ≤ f v := by
  obtain ⟨d1, d2, d3, d4⟩ := hD
  obtain ⟨f1, f2, f3⟩ := h
  have key : ∀ n : Nat, ∀ v, 0 ≤ v → v < 20 → (f v).toNat < n → D v ≤ f v := by
    intro n
    induction n with
    | zero => intro v _ _ h; omega
    | succ n ih =>
      intro v v1 v2 hn
      by_cases e : v = a
      · rw [e, d1, f1]; omega
      · have hb := f2 v v1 v2
        have hd := d2 v v1 v2
        by_cases e2 : f v < 1000000
        · obtain ⟨p, p1, p2, p3, hp⟩ := f3 v v1 v2 e e2
          have hip := Inv_p hI ⟨p1, p2⟩
          unfold IP at hip
          have hs := d3 p p1 p2 p3
          rcases hp with ⟨q1, q2⟩ | ⟨q1, q2⟩
          · have hu := f2 (σ 1 p) (by omega) (by omega)
            have := ih (σ 1 p) (by omega) (by omega) (by omega)
            rw [q1] at hs
            omega
          · have hu := f2 (σ 2 p) (by omega) (by omega)
            have := ih (σ 2 p) (by omega) (by omega) (by omega)
            rw [q1] at hs
            omega
        · omega
  intro v v1 v2
  exact key _ v v1 v2 (Nat.lt_succ_self _)
theorem isDs_wf {σ : Tb} {S : Nat} {a : Int} {f : Int → Int} (h : isDs σ S a f) : wfD σ S a f := ⟨h.1, h.2.1, h.2.2.2⟩
theorem isDs_eq {σ : Tb} (hI : Inv σ) {S : Nat} {a : Int} {f g : Int → Int} (ha : 0 ≤ a ∧ a < 20) (h1 : isDs σ S a f) (h2 : isDs σ S a g) : ∀ v, 0 ≤ v → v < 20 → f v = g v := by
  intro v v1 v2
  have := wfD_ge hI ha h1 (isDs_wf h2) v v1 v2
  have := wfD_ge hI ha h2 (isDs_wf h1) v v1 v2
  omega
/-- one step along a free piece -/
theorem wfD_rx {σ : Tb} (hI : Inv σ) {S : Nat} {a p u v : Int} {f g : Int → Int} (h : wfD σ S a f) (hp : opn σ S p) (huv : (σ 1 p = u ∧ σ 2 p = v) ∨ (σ 1 p = v ∧ σ 2 p = u)) (hlt : f u + σ 5 p < f v) (gv : g v = f u + σ 5 p) (go : ∀ i, i ≠ v → g i = f i) : wfD σ S a g := by
  obtain ⟨p1, p2, p3⟩ := hp
  have hip := Inv_p hI ⟨p1, p2⟩
  unfold IP at hip
  obtain ⟨f1, f2, f3⟩ := h
  have hu := f2 u (by omega) (by omega)
  have hv := f2 v (by omega) (by omega)
  have hva : v ≠ a := fun e => by rw [e, f1] at hlt; omega
  have hle : ∀ i, 0 ≤ i → i < 20 → g i ≤ f i := by
    intro i i1 i2
    by_cases e : i = v
    · rw [e, gv]; omega
    · rw [go i e]; omega
  refine ⟨by rw [go a (Ne.symm hva)]; exact f1, fun i i1 i2 => ?_, fun i i1 i2 i3 i4 => ?_⟩
  · by_cases e : i = v
    · rw [e, gv]; omega
    · rw [go i e]; exact f2 i i1 i2
  · by_cases e : i = v
    · subst e
      refine ⟨p, p1, p2, p3, ?_⟩
      rcases huv with ⟨q1, q2⟩ | ⟨q1, q2⟩
      · left
        refine ⟨q2, ?_⟩
        rw [gv, q1, go u (fun z => by rw [z] at hlt; omega)]
        omega
      · right
        refine ⟨q1, ?_⟩
        rw [gv, q2, go u (fun z => by rw [z] at hlt; omega)]
        omega
    · rw [go i e] at i4
      obtain ⟨q, q1, q2, q3, q4⟩ := f3 i i1 i2 i3 i4
      have hiq := Inv_p hI ⟨q1, q2⟩
      unfold IP at hiq
      refine ⟨q, q1, q2, q3, ?_⟩
      rw [go i e]
      rcases q4 with ⟨z1, z2⟩ | ⟨z1, z2⟩
      · left
        have := hle (σ 1 q) (by omega) (by omega)
        exact ⟨z1, by omega⟩
      · right
        have := hle (σ 2 q) (by omega) (by omega)
        exact ⟨z1, by omega⟩
theorem wfD_0 {σ : Tb} {S : Nat} {a : Int} {f : Int → Int} (h : f a = 0) (h2 : ∀ v, 0 ≤ v → v < 20 → v ≠ a → f v = 1000000) : wfD σ S a f := by
  refine ⟨h, fun v v1 v2 => ?_, fun v v1 v2 v3 v4 => ?_⟩
  · by_cases e : v = a
    · rw [e, h]; omega
    · rw [h2 v v1 v2 e]; omega
  · have := h2 v v1 v2 v3; omega
theorem isDs_ex {σ : Tb} (hI : Inv σ) {S : Nat} {a : Int} (ha : 0 ≤ a ∧ a < 20) : ∃ f, isDs σ S a f := by
  have key : ∀ n : Nat, ∀ f, wfD σ S a f → (sumI f 20).toNat < n → ∃ f, isDs σ S a f := by
    intro n
    induction n with
    | zero => intro f _ h; omega
    | succ n ih =>
      intro f hf hn
      by_cases hs : slk σ S f f (σ 0 0)
      · exact ⟨f, isDs_of hf hs⟩
      · have : ∃ p u v, opn σ S p ∧ ((σ 1 p = u ∧ σ 2 p = v) ∨ (σ 1 p = v ∧ σ 2 p = u)) ∧ f u + σ 5 p < f v := by
          apply Classical.byContradiction
          intro hc
          apply hs
          intro p p1 p2 p3
          refine ⟨?_, ?_⟩
          · apply Classical.byContradiction
            intro z
            exact hc ⟨p, σ 2 p, σ 1 p, ⟨p1, p2, p3⟩, Or.inr ⟨rfl, rfl⟩, by omega⟩
          · apply Classical.byContradiction
            intro z
            exact hc ⟨p, σ 1 p, σ 2 p, ⟨p1, p2, p3⟩, Or.inl ⟨rfl, rfl⟩, by omega⟩
        obtain ⟨p, u, v, hp, huv, hlt⟩ := this
        have hip := Inv_p hI ⟨hp.1, hp.2.1⟩
        unfold IP at hip
        have hg := wfD_rx (g := fun i => if i = v then f u + σ 5 p else f i) hI hf hp huv hlt (by simp) (fun i q => by simp [q])
        refine ih _ hg ?_
        have hv : 0 ≤ v ∧ v < 20 := by omega
        have h1 := sumI_lt (f := fun i => if i = v then f u + σ 5 p else f i) (g := f) (n := 20) (v := 1) hv (fun i i1 i2 => by
          show (if i = v then f u + σ 5 p else f i) ≤ f i
          split
          · rename_i q; rw [q]; omega
          · omega) (by simp; omega)
        have h2 := sumI_b (f := fun i => if i = v then f u + σ 5 p else f i) (n := 20) (M := 1000000) (by omega) (fun i i1 i2 => hg.2.1 i i1 i2)
        omega
  refine key _ (fun v => if v = a then 0 else 1000000) (wfD_0 (by simp) (fun v _ _ q => by simp [q])) (Nat.lt_succ_self _)
theorem dst_of {σ : Tb} (hI : Inv σ) {S : Nat} {a b : Int} {f : Int → Int} (ha : 0 ≤ a ∧ a < 20) (hb : 0 ≤ b ∧ b < 20) (h : isDs σ S a f) : dst σ S a b = f b := by
  unfold dst
  rw [cif_t ⟨f, h⟩]
  have h2 : isDs σ S a (Classical.epsilon (fun f => isDs σ S a f)) := Classical.epsilon_spec (p := fun f => isDs σ S a f) ⟨f, h⟩
  exact isDs_eq hI ha h2 h b hb.1 hb.2
/-- how many crossings are told too far -/
noncomputable def bad (D f : Int → Int) : Int := sumI (fun v => bI (f v ≠ D v)) 20
theorem bad_r {D f : Int → Int} : 0 ≤ bad D f ∧ bad D f ≤ 20 := by
  have := sumI_b (f := fun v => bI (f v ≠ D v)) (n := 20) (M := 1) (by omega) (fun i _ _ => by have := bI_01 (f i ≠ D i); show 0 ≤ bI _ ∧ bI _ ≤ 1; omega)
  unfold bad
  omega
theorem bad_0 {D f : Int → Int} (h : bad D f = 0) {v : Int} (hv : 0 ≤ v ∧ v < 20) : f v = D v := by
  have := sumI_ge (f := fun v => bI (f v ≠ D v)) hv (fun i _ _ => by have := bI_01 (f i ≠ D i); show 0 ≤ bI _; omega)
  unfold bad at h
  apply Classical.byContradiction
  intro q
  have e : bI (f v ≠ D v) = 1 := bI_t q
  have : bI (f v ≠ D v) ≤ sumI (fun v => bI (f v ≠ D v)) 20 := this
  omega
theorem bad_st {σ : Tb} (hI : Inv σ) {S : Nat} {a : Int} {D f0 f : Int → Int} (ha : 0 ≤ a ∧ a < 20) (hD : isDs σ S a D) (h0 : wfD σ S a f0) (h : wfD σ S a f) (hle : ∀ v, 0 ≤ v → v < 20 → f v ≤ f0 v) (hs : slk σ S f f0 (σ 0 0)) (hb : bad D f0 ≠ 0) : bad D f + 1 ≤ bad D f0 := by
  have g0 := wfD_ge hI ha hD h0
  have g1 := wfD_ge hI ha hD h
  have hmin : ∃ v, (0 ≤ v ∧ v < 20) ∧ f0 v ≠ D v ∧ ∀ u, 0 ≤ u → u < 20 → D u < D v → f0 u = D u := by
    have key : ∀ n : Nat, ∀ v, 0 ≤ v → v < 20 → f0 v ≠ D v → (D v).toNat < n → ∃ v, (0 ≤ v ∧ v < 20) ∧ f0 v ≠ D v ∧ ∀ u, 0 ≤ u → u < 20 → D u < D v → f0 u = D u := by
      intro n
      induction n with
      | zero => intro v _ _ _ h; omega
      | succ n ih =>
        intro v v1 v2 v3 v4
        by_cases q : ∀ u, 0 ≤ u → u < 20 → D u < D v → f0 u = D u
        · exact ⟨v, ⟨v1, v2⟩, v3, q⟩
        · have : ∃ u, 0 ≤ u ∧ u < 20 ∧ D u < D v ∧ f0 u ≠ D u := by
            apply Classical.byContradiction
            intro z
            exact q (fun u u1 u2 u3 => Classical.byContradiction (fun y => z ⟨u, u1, u2, u3, y⟩))
          obtain ⟨u, u1, u2, u3, u4⟩ := this
          have := hD.2.1 u u1 u2
          exact ih u u1 u2 u4 (by omega)
    have : ∃ v, 0 ≤ v ∧ v < 20 ∧ f0 v ≠ D v := by
      apply Classical.byContradiction
      intro z
      apply hb
      have e : bad D f0 = sumI (fun _ => 0) 20 := sumI_c (fun i i1 i2 => bI_f (fun y => z ⟨i, i1, i2, y⟩))
      rw [e]; rfl
    obtain ⟨v, v1, v2, v3⟩ := this
    exact key _ v v1 v2 v3 (Nat.lt_succ_self _)
  obtain ⟨v, hv, hvb, hvm⟩ := hmin
  have hva : v ≠ a := fun e => hvb (by rw [e, h0.1, hD.1])
  have hv0 := g0 v hv.1 hv.2
  have hf0 := (h0.2.1 v hv.1 hv.2).2
  obtain ⟨p, p1, p2, p3, hp⟩ := hD.2.2.2 v hv.1 hv.2 hva (by omega)
  have hip := Inv_p hI ⟨p1, p2⟩
  unfold IP at hip
  have hsl := hs p p1 p2 p3
  have hgood : f v = D v := by
    have hge := g1 v hv.1 hv.2
    rcases hp with ⟨q1, q2⟩ | ⟨q1, q2⟩
    · have e := hvm (σ 1 p) (by omega) (by omega) (by omega)
      rw [q1] at hsl
      omega
    · have e := hvm (σ 2 p) (by omega) (by omega) (by omega)
      rw [q1] at hsl
      omega
  refine sumI_lt hv (fun i i1 i2 => ?_) ?_
  · by_cases q : f0 i = D i
    · have h1 := hle i i1 i2
      have h2 := g1 i i1 i2
      have e1 : bI (f i ≠ D i) = 0 := bI_f (by omega)
      have e2 : bI (f0 i ≠ D i) = 0 := bI_f (by omega)
      show bI (f i ≠ D i) ≤ bI (f0 i ≠ D i)
      omega
    · have e2 : bI (f0 i ≠ D i) = 1 := bI_t q
      have := bI_01 (f i ≠ D i)
      show bI (f i ≠ D i) ≤ bI (f0 i ≠ D i)
      omega
  · have e1 : bI (f v ≠ D v) = 0 := bI_f (by omega)
    have e2 : bI (f0 v ≠ D v) = 1 := bI_t hvb
    show bI (f v ≠ D v) + 1 ≤ bI (f0 v ≠ D v)
    omega
noncomputable def fewC (σ : Tb) (S : Nat) (k : Int) : Int := cif (dst σ S (σ 7 k) (σ 8 k) < 1000000) (dst σ S (σ 7 k) (σ 8 k)) (-5)
theorem dst_r {σ : Tb} (hI : Inv σ) {S : Nat} {a b : Int} (ha : 0 ≤ a ∧ a < 20) (hb : 0 ≤ b ∧ b < 20) : 0 ≤ dst σ S a b ∧ dst σ S a b ≤ 1000000 := by
  obtain ⟨f, hf⟩ := isDs_ex hI (S := S) ha
  rw [dst_of hI ha hb hf]
  exact hf.2.1 b hb.1 hb.2
abbrev rmX6_fewest : Room := { frames := 0, cells := 0, slots := 0, locals := 0 }
set_option maxRecDepth 100000 in
set_option maxHeartbeats 4000000 in
theorem c_X6_fewest {l : Launch} {D : va_G} {G : Nat → ClassId} {ad : Nat → Nat} {σ τ : Tb} (hi : kInj 189 ad) {k : Int} {S : Nat} (hI : Inv σ) (hk : 0 ≤ k ∧ k < σ 0 1) (hS0 : S < 1099511627776) : Met l yX6_fewest wsX6_fewest rmX6_fewest (kPc D (tysG G) 189 ad (CE G ad σ τ) [.ref (ad 3), .ref (ad (61 + k.toNat)), .long (lN S)]) (kQi D 189 ad (fun z E' => z = fewC σ S k ∧ ∃ τ', E' = CE G ad σ τ' ∧ (∀ t i, t ≠ 10 → τ' t i = τ t i))) 0 0 (kA 189 ad) := by
  refine k_met (cc := cX6_fewest) (maxL := 10) (ret := (some .int)) (by decide) (Nat.le_of_ble_eq_true rfl) ?_
  intro P0 e0 s m0 below meth c0 ls hx hb hr hlocks hml hown hts hK hP hS hl
  replace hl : lv_has ls 10 [(0, _), (1, _), (2, _)] := hl
  replace hown : s.vm.findClass RX6 = some m0.cls := hown
  refine k_abs (fun Wg hWg => ?_)
  have h0 := Inv_0 hI
  have hR := Inv_r hI hk
  unfold IR at hR
  obtain ⟨Ds, hDs⟩ := isDs_ex hI (S := S) (a := σ 7 k) (by omega)
  refine r_const hx hb dX6_fewest_0 ?_
  refine lv_istore hx hb dX6_fewest_1 hl (by decide) rfl (fun ls hl => ?_)
  replace hl : lv_has ls 10 [(0, _), (1, _), (2, _), (4, _)] := lv_sub hl [1, 2, 3, 0] rfl
  have join208 : ∀ (τ4 : Tb) (H : Heap) (locs : List Loc) (ls : Array Slot), va_P D vwCl (kw 189 ad (CE G ad σ τ4)) H → va_S (kA 189 ad) s.heap H locs → lv_has ls 10 [(0, .ref (ad 3)), (1, .ref (ad (61 + k.toNat))), (2, .long (lN S))] → ((∀ v, 0 ≤ v → v < 20 → τ4 10 v = Ds v) ∧ (∀ t i, t ≠ 10 → τ4 t i = τ t i)) → Wg H locs (F0 m0 208 ls []) := by
    intro τ4 H locs ls hP hS hl hv208
    rw [hWg]
    have hd := dst_of hI (b := σ 8 k) (by omega) (by omega) hDs
    have hdr := hDs.2.1 (σ 8 k) (by omega) (by omega)
    refine lv_aload_n hx hb dX6_fewest_208 rfl (lv_at hl 0 rfl) ?_
    refine r_get (C := RX6) (T := TX6) (N := 2) (ci := 6) hx hb hts hi_X6 hown hK hP 1 rfl (by decide) lk_X6_9 (fun _ h9 => h9) dX6_fewest_209 (by omega) CE_3 rfl ?_
    refine lv_aload_n hx hb dX6_fewest_212 rfl (lv_at hl 1 rfl) ?_
    refine r_get (C := RX1) (T := TX1) (N := 3) (ci := 1) hx hb hts hi_X1 hown hK hP 1 rfl (by decide) lk_X6_50 (fun _ h9 => h9) dX6_fewest_213 (by omega) (CE_r (by omega)) rfl ?_
    refine r_iald hx hb hK hP 0 rfl dX6_fewest_216 (by omega) rfl (by omega) (by omega) ((tI_at (by omega)).trans (by rw [hv208.1 _ (by omega) (by omega)])) ?_
    refine r_ldc hx hb hown (hts _ lc_X6_29) (show (1000000 : Int32) = iI 1000000 by decide +kernel) dX6_fewest_217 ?_
    refine r_icmp_ge (tgt := 234) hx hb (by omega) (by omega) dX6_fewest_219 (by decide) (fun c219 => ?_) (fun c219 => ?_)
    · refine r_bipush hx hb dX6_fewest_234 (by decide +kernel) ?_
      exact k_iret hx hb hr hlocks hP hS dX6_fewest_236 ⟨by rw [fewC, hd, cif_f (by omega)], τ4, rfl, hv208.2⟩
    · refine lv_aload_n hx hb dX6_fewest_222 rfl (lv_at hl 0 rfl) ?_
      refine r_get (C := RX6) (T := TX6) (N := 2) (ci := 6) hx hb hts hi_X6 hown hK hP 1 rfl (by decide) lk_X6_9 (fun _ h9 => h9) dX6_fewest_223 (by omega) CE_3 rfl ?_
      refine lv_aload_n hx hb dX6_fewest_226 rfl (lv_at hl 1 rfl) ?_
      refine r_get (C := RX1) (T := TX1) (N := 3) (ci := 1) hx hb hts hi_X1 hown hK hP 1 rfl (by decide) lk_X6_50 (fun _ h9 => h9) dX6_fewest_227 (by omega) (CE_r (by omega)) rfl ?_
      refine r_iald hx hb hK hP 0 rfl dX6_fewest_230 (by omega) rfl (by omega) (by omega) ((tI_at (by omega)).trans (by rw [hv208.1 _ (by omega) (by omega)])) ?_
      refine lv_goto (tgt := 236) hx hb dX6_fewest_231 (by decide) ?_
      exact k_iret hx hb hr hlocks hP hS dX6_fewest_236 ⟨by rw [fewC, hd, cif_t (by omega)], τ4, rfl, hv208.2⟩
  have join41 : ∀ (τ1 : Tb) (H : Heap) (locs : List Loc) (ls : Array Slot), va_P D vwCl (kw 189 ad (CE G ad σ τ1)) H → va_S (kA 189 ad) s.heap H locs → lv_has ls 10 [(0, .ref (ad 3)), (1, .ref (ad (61 + k.toNat))), (2, .long (lN S)), (4, .int (iI 1)), (5, .int (iI 0))] → (wfD σ S (σ 7 k) (τ1 10) ∧ (∀ t i, t ≠ 10 → τ1 t i = τ t i)) → Wg H locs (F0 m0 41 ls []) := by
    intro τ1 H locs ls hP hS hl hv41
    rw [hWg]
    have loop41 : ∀ (n : Nat) (sh r : Int) (τ2 : Tb) (H : Heap) (locs : List Loc) (ls : Array Slot), va_P D vwCl (kw 189 ad (CE G ad σ τ2)) H → va_S (kA 189 ad) s.heap H locs → lv_has ls 10 [(0, .ref (ad 3)), (1, .ref (ad (61 + k.toNat))), (2, .long (lN S)), (4, .int (iI sh)), (5, .int (iI r))] → (((sh = 0 ∨ sh = 1) ∧ 0 ≤ r ∧ r ≤ 20) ∧ wfD σ S (σ 7 k) (τ2 10) ∧ (sh = 0 → slk σ S (τ2 10) (τ2 10) (σ 0 0)) ∧ (bad Ds (τ2 10) + r ≤ 20 ∨ bad Ds (τ2 10) = 0) ∧ (∀ t i, t ≠ 10 → τ2 t i = τ t i)) → (20 - r).toNat < n → Wg H locs (F0 m0 41 ls []) := by
      intro n
      induction n with
      | zero => intro sh r τ2 H locs ls _ _ _ _ hn; omega
      | succ n ih41 =>
        intro sh r τ2 H locs ls hP hS hl hv41 hn41
        rw [hWg]
        obtain ⟨hv, hwf, hsl, hbd, hF⟩ := hv41
        have hbr := bad_r (D := Ds) (f := τ2 10)
        refine lv_iload hx hb dX6_fewest_41 (lv_at hl 4 rfl) ?_
        refine r_bipush hx hb dX6_fewest_43 (by decide +kernel) ?_
        refine r_icmp_ge (tgt := 208) hx hb (by omega) (by omega) dX6_fewest_45 (by decide) (fun c45 => ?_) (fun c45 => ?_)
        · rw [← hWg]
          exact join208 _ _ _ _ hP hS (lv_sub hl [0, 1, 2] rfl) ⟨fun v v1 v2 => bad_0 (by omega) ⟨v1, v2⟩, hF⟩
        · refine lv_iload hx hb dX6_fewest_48 (lv_at hl 3 rfl) ?_
          refine r_if_eq (tgt := 208) hx hb (by omega) dX6_fewest_50 (by decide) (fun c50 => ?_) (fun c50 => ?_)
          · rw [← hWg]
            exact join208 _ _ _ _ hP hS (lv_sub hl [0, 1, 2] rfl) ⟨fun v v1 v2 => isDs_eq hI (by omega) (isDs_of hwf (hsl c50)) hDs v v1 v2, hF⟩
          · refine r_const hx hb dX6_fewest_53 ?_
            refine lv_istore hx hb dX6_fewest_54 hl (by decide) rfl (fun ls hl => ?_)
            replace hl : lv_has ls 10 [(0, _), (1, _), (2, _), (4, _), (5, _)] := lv_sub hl [1, 2, 3, 0, 4] rfl
            refine r_const hx hb dX6_fewest_56 ?_
            refine lv_istore hx hb dX6_fewest_57 hl (by decide) rfl (fun ls hl => ?_)
            replace hl : lv_has ls 10 [(0, _), (1, _), (2, _), (4, _), (5, _), (6, _)] := lv_sub hl [1, 2, 3, 4, 5, 0] rfl
            have loop59 : ∀ (n : Nat) (p sh' : Int) (τ3 : Tb) (H : Heap) (locs : List Loc) (ls : Array Slot), va_P D vwCl (kw 189 ad (CE G ad σ τ3)) H → va_S (kA 189 ad) s.heap H locs → lv_has ls 10 [(0, .ref (ad 3)), (1, .ref (ad (61 + k.toNat))), (2, .long (lN S)), (4, .int (iI sh')), (5, .int (iI r)), (6, .int (iI p))] → (((0 ≤ p ∧ p ≤ σ 0 0) ∧ (sh' = 0 ∨ sh' = 1)) ∧ wfD σ S (σ 7 k) (τ3 10) ∧ (∀ v, 0 ≤ v → v < 20 → τ3 10 v ≤ τ2 10 v) ∧ (sh' = 0 → ∀ v, 0 ≤ v → v < 20 → τ3 10 v = τ2 10 v) ∧ slk σ S (τ3 10) (τ2 10) p ∧ (∀ t i, t ≠ 10 → τ3 t i = τ t i)) → (σ 0 0 - p).toNat < n → Wg H locs (F0 m0 59 ls []) := by
              intro n
              induction n with
              | zero => intro p sh' τ3 H locs ls _ _ _ _ hn; omega
              | succ n ih59 =>
                intro p sh' τ3 H locs ls hP hS hl hv59 hn59
                rw [hWg]
                obtain ⟨hv3, hwf3, hle3, heq3, hsl3, hF3⟩ := hv59
                refine lv_iload hx hb dX6_fewest_59 (lv_at hl 5 rfl) ?_
                refine lv_aload_n hx hb dX6_fewest_61 rfl (lv_at hl 0 rfl) ?_
                refine r_get (C := RX6) (T := TX6) (N := 2) (ci := 6) hx hb hts hi_X6 hown hK hP 0 rfl (by decide) lk_X6_15 (fun _ h9 => h9) dX6_fewest_62 (by omega) CE_3 rfl ?_
                refine r_get (C := RX5) (T := TX5) (N := 8) (ci := 5) hx hb hts hi_X5 hown hK hP 4 rfl (by decide) lk_X6_33 (fun _ h9 => h9) dX6_fewest_65 (by omega) CE_1 rfl ?_
                refine r_icmp_ge (tgt := 202) hx hb (by omega) (by omega) dX6_fewest_68 (by decide) (fun c68 => ?_) (fun c68 => ?_)
                · obtain rfl : p = σ 0 0 := by omega
                  have hb2 : bad Ds (τ3 10) + (r + 1) ≤ 20 ∨ bad Ds (τ3 10) = 0 := by
                    by_cases q : bad Ds (τ2 10) = 0
                    · right
                      have e : bad Ds (τ3 10) = sumI (fun _ => 0) 20 := sumI_c (fun i i1 i2 => bI_f (fun y => y (by
                        have a1 := bad_0 q ⟨i1, i2⟩
                        have a2 := hle3 i i1 i2
                        have a3 := wfD_ge hI (by omega) hDs hwf3 i i1 i2
                        omega)))
                      rw [e]; rfl
                    · have := bad_st hI (by omega) hDs hwf hwf3 hle3 hsl3 q
                      omega
                  have hs4 : sh' = 0 → slk σ S (τ3 10) (τ3 10) (σ 0 0) := by
                    intro q p p1 p2 p3
                    have hip := Inv_p hI ⟨p1, p2⟩
                    unfold IP at hip
                    have a1 := hsl3 p p1 p2 p3
                    have a2 := heq3 q (σ 1 p) (by omega) (by omega)
                    have a3 := heq3 q (σ 2 p) (by omega) (by omega)
                    omega
                  refine r_iinc hx hb dX6_fewest_202 hl (k := 4) rfl (by decide) (fun ls hl => ?_)
                  replace hl : lv_has ls 10 [(0, _), (1, _), (2, _), (4, _), (5, _), (6, _)] := lv_sub hl [1, 2, 3, 4, 0, 5] rfl
                  refine lv_goto (tgt := 41) hx hb dX6_fewest_205 (by decide) ?_
                  rw [← hWg]
                  exact ih41 sh' (r + 1) _ _ _ _ hP hS (lv_sub hl [0, 1, 2, 3, 4] rfl) ⟨by omega, hwf3, hs4, hb2, hF3⟩ (by omega)
                · have hip := Inv_p hI (p := p) (by omega)
                  unfold IP at hip
                  have h2 : 2 ^ p.toNat < 2 ^ 63 := Nat.pow_lt_pow_right (by decide) (by omega)
                  have m1 := hwf3.2.1 (σ 1 p) (by omega) (by omega)
                  have m2 := hwf3.2.1 (σ 2 p) (by omega) (by omega)
                  have n1 := hle3 (σ 1 p) (by omega) (by omega)
                  have n2 := hle3 (σ 2 p) (by omega) (by omega)
                  have join196 : ∀ (sh2 : Int) (τ5 : Tb) (H : Heap) (locs : List Loc) (ls : Array Slot), va_P D vwCl (kw 189 ad (CE G ad σ τ5)) H → va_S (kA 189 ad) s.heap H locs → lv_has ls 10 [(0, .ref (ad 3)), (1, .ref (ad (61 + k.toNat))), (2, .long (lN S)), (4, .int (iI sh2)), (5, .int (iI r)), (6, .int (iI p))] → ((sh2 = 0 ∨ sh2 = 1) ∧ wfD σ S (σ 7 k) (τ5 10) ∧ (∀ v, 0 ≤ v → v < 20 → τ5 10 v ≤ τ2 10 v) ∧ (sh2 = 0 → ∀ v, 0 ≤ v → v < 20 → τ5 10 v = τ2 10 v) ∧ slk σ S (τ5 10) (τ2 10) (p + 1) ∧ (∀ t i, t ≠ 10 → τ5 t i = τ t i)) → Wg H locs (F0 m0 196 ls []) := by
                    intro sh2 τ5 H locs ls hP hS hl hv196
                    rw [hWg]
                    obtain ⟨g1, g2, g3, g4, g5, g6⟩ := hv196
                    refine r_iinc hx hb dX6_fewest_196 hl (k := 5) rfl (by decide) (fun ls hl => ?_)
                    replace hl : lv_has ls 10 [(0, _), (1, _), (2, _), (4, _), (5, _), (6, _)] := lv_sub hl [1, 2, 3, 4, 5, 0] rfl
                    refine lv_goto (tgt := 59) hx hb dX6_fewest_199 (by decide) ?_
                    rw [← hWg]
                    exact ih59 (p + 1) sh2 _ _ _ _ hP hS hl ⟨by omega, g2, g3, g4, g5, g6⟩ (by omega)
                  have hsn : ∀ g : Int → Int, (∀ v, 0 ≤ v → v < 20 → g v ≤ τ3 10 v) → (¬ S.testBit p.toNat = true → g (σ 1 p) ≤ τ2 10 (σ 2 p) + σ 5 p ∧ g (σ 2 p) ≤ τ2 10 (σ 1 p) + σ 5 p) → slk σ S g (τ2 10) (p + 1) := by
                    intro g hg hg2 q q1 q2 q3
                    rcases (show q < p ∨ q = p by omega) with y | y
                    · have hiq := Inv_p hI (p := q) (by omega)
                      unfold IP at hiq
                      have a1 := hsl3 q q1 y q3
                      have a2 := hg (σ 1 q) (by omega) (by omega)
                      have a3 := hg (σ 2 q) (by omega) (by omega)
                      omega
                    · subst y
                      exact hg2 q3
                  refine lv_lload_n hx hb dX6_fewest_71 rfl (lv_at hl 2 rfl) ?_
                  refine r_lconst1 hx hb dX6_fewest_72 ?_
                  refine lv_iload hx hb dX6_fewest_73 (lv_at hl 5 rfl) ?_
                  refine r_lshl1 hx hb dX6_fewest_75 (by omega) ?_
                  refine r_land hx hb dX6_fewest_76 (by omega) (by omega) ?_
                  refine r_lconst0 hx hb dX6_fewest_77 ?_
                  refine r_lcmp hx hb dX6_fewest_78 (Nat.lt_of_le_of_lt Nat.and_le_left (by omega)) (by decide) ?_
                  refine r_if_eq (tgt := 85) hx hb (cmpN_r _ _) dX6_fewest_79 (by decide) (fun c79 => ?_) (fun c79 => ?_)
                  · have hop : ¬ S.testBit p.toNat = true := tb_and.mp (cmpN_0.mp c79)
                    refine lv_aload_n hx hb dX6_fewest_85 rfl (lv_at hl 0 rfl) ?_
                    refine r_get (C := RX6) (T := TX6) (N := 2) (ci := 6) hx hb hts hi_X6 hown hK hP 0 rfl (by decide) lk_X6_15 (fun _ h9 => h9) dX6_fewest_86 (by omega) CE_3 rfl ?_
                    refine r_get (C := RX5) (T := TX5) (N := 8) (ci := 5) hx hb hts hi_X5 hown hK hP 0 rfl (by decide) lk_X6_38 (fun _ h9 => h9) dX6_fewest_89 (by omega) CE_1 rfl ?_
                    refine lv_iload hx hb dX6_fewest_92 (lv_at hl 5 rfl) ?_
                    refine r_aald hx hb hK hP 4 rfl dX6_fewest_94 (by omega) rfl (by omega) (by omega) rfl ?_
                    refine lv_astore hx hb dX6_fewest_95 hl (by decide) rfl (fun ls hl => ?_)
                    replace hl : lv_has ls 10 [(0, _), (1, _), (2, _), (4, _), (5, _), (6, _), (7, _)] := lv_sub hl [1, 2, 3, 4, 5, 6, 0] rfl
                    refine lv_aload_n hx hb dX6_fewest_97 rfl (lv_at hl 0 rfl) ?_
                    refine r_get (C := RX6) (T := TX6) (N := 2) (ci := 6) hx hb hts hi_X6 hown hK hP 1 rfl (by decide) lk_X6_9 (fun _ h9 => h9) dX6_fewest_98 (by omega) CE_3 rfl ?_
                    refine lv_aload hx hb dX6_fewest_101 (lv_at hl 6 rfl) ?_
                    refine r_get (C := RX2) (T := TX2) (N := 6) (ci := 2) hx hb hts hi_X2 hown hK hP 0 rfl (by decide) lk_X6_42 (fun _ h9 => h9) dX6_fewest_103 (by omega) (CE_p (by omega)) rfl ?_
                    refine r_iald hx hb hK hP 0 rfl dX6_fewest_106 (by omega) rfl (by omega) (by omega) (tI_at (by omega)) ?_
                    refine lv_aload hx hb dX6_fewest_107 (lv_at hl 6 rfl) ?_
                    refine r_get (C := RX2) (T := TX2) (N := 6) (ci := 2) hx hb hts hi_X2 hown hK hP 4 rfl (by decide) lk_X6_45 (fun _ h9 => h9) dX6_fewest_109 (by omega) (CE_p (by omega)) rfl ?_
                    refine r_add hx hb dX6_fewest_112 ?_
                    refine lv_istore hx hb dX6_fewest_113 hl (by decide) rfl (fun ls hl => ?_)
                    replace hl : lv_has ls 10 [(0, _), (1, _), (2, _), (4, _), (5, _), (6, _), (7, _), (8, _)] := lv_sub hl [1, 2, 3, 4, 5, 6, 7, 0] rfl
                    refine lv_aload_n hx hb dX6_fewest_115 rfl (lv_at hl 0 rfl) ?_
                    refine r_get (C := RX6) (T := TX6) (N := 2) (ci := 6) hx hb hts hi_X6 hown hK hP 1 rfl (by decide) lk_X6_9 (fun _ h9 => h9) dX6_fewest_116 (by omega) CE_3 rfl ?_
                    refine lv_aload hx hb dX6_fewest_119 (lv_at hl 6 rfl) ?_
                    refine r_get (C := RX2) (T := TX2) (N := 6) (ci := 2) hx hb hts hi_X2 hown hK hP 1 rfl (by decide) lk_X6_47 (fun _ h9 => h9) dX6_fewest_121 (by omega) (CE_p (by omega)) rfl ?_
                    refine r_iald hx hb hK hP 0 rfl dX6_fewest_124 (by omega) rfl (by omega) (by omega) (tI_at (by omega)) ?_
                    refine lv_aload hx hb dX6_fewest_125 (lv_at hl 6 rfl) ?_
                    refine r_get (C := RX2) (T := TX2) (N := 6) (ci := 2) hx hb hts hi_X2 hown hK hP 4 rfl (by decide) lk_X6_45 (fun _ h9 => h9) dX6_fewest_127 (by omega) (CE_p (by omega)) rfl ?_
                    refine r_add hx hb dX6_fewest_130 ?_
                    refine lv_istore hx hb dX6_fewest_131 hl (by decide) rfl (fun ls hl => ?_)
                    replace hl : lv_has ls 10 [(0, _), (1, _), (2, _), (4, _), (5, _), (6, _), (7, _), (8, _), (9, _)] := lv_sub hl [1, 2, 3, 4, 5, 6, 7, 8, 0] rfl
                    refine lv_iload hx hb dX6_fewest_133 (lv_at hl 7 rfl) ?_
                    refine lv_aload_n hx hb dX6_fewest_135 rfl (lv_at hl 0 rfl) ?_
                    refine r_get (C := RX6) (T := TX6) (N := 2) (ci := 6) hx hb hts hi_X6 hown hK hP 1 rfl (by decide) lk_X6_9 (fun _ h9 => h9) dX6_fewest_136 (by omega) CE_3 rfl ?_
                    refine lv_aload hx hb dX6_fewest_139 (lv_at hl 6 rfl) ?_
                    refine r_get (C := RX2) (T := TX2) (N := 6) (ci := 2) hx hb hts hi_X2 hown hK hP 1 rfl (by decide) lk_X6_47 (fun _ h9 => h9) dX6_fewest_141 (by omega) (CE_p (by omega)) rfl ?_
                    refine r_iald hx hb hK hP 0 rfl dX6_fewest_144 (by omega) rfl (by omega) (by omega) (tI_at (by omega)) ?_
                    refine r_icmp_ge (tgt := 166) hx hb (by omega) (by omega) dX6_fewest_145 (by decide) (fun c145 => ?_) (fun c145 => ?_)
                    · refine lv_iload hx hb dX6_fewest_166 (lv_at hl 8 rfl) ?_
                      refine lv_aload_n hx hb dX6_fewest_168 rfl (lv_at hl 0 rfl) ?_
                      refine r_get (C := RX6) (T := TX6) (N := 2) (ci := 6) hx hb hts hi_X6 hown hK hP 1 rfl (by decide) lk_X6_9 (fun _ h9 => h9) dX6_fewest_169 (by omega) CE_3 rfl ?_
                      refine lv_aload hx hb dX6_fewest_172 (lv_at hl 6 rfl) ?_
                      refine r_get (C := RX2) (T := TX2) (N := 6) (ci := 2) hx hb hts hi_X2 hown hK hP 0 rfl (by decide) lk_X6_42 (fun _ h9 => h9) dX6_fewest_174 (by omega) (CE_p (by omega)) rfl ?_
                      refine r_iald hx hb hK hP 0 rfl dX6_fewest_177 (by omega) rfl (by omega) (by omega) (tI_at (by omega)) ?_
                      refine r_icmp_ge (tgt := 196) hx hb (by omega) (by omega) dX6_fewest_178 (by decide) (fun c178 => ?_) (fun c178 => ?_)
                      · rw [← hWg]
                        exact join196 sh' _ _ _ _ hP hS (lv_sub hl [0, 1, 2, 3, 4, 5] rfl) ⟨hv3.2, hwf3, hle3, heq3, hsn _ (fun v _ _ => Int.le_refl _) (fun _ => by omega), hF3⟩
                      · refine lv_aload_n hx hb dX6_fewest_181 rfl (lv_at hl 0 rfl) ?_
                        refine r_get (C := RX6) (T := TX6) (N := 2) (ci := 6) hx hb hts hi_X6 hown hK hP 1 rfl (by decide) lk_X6_9 (fun _ h9 => h9) dX6_fewest_182 (by omega) CE_3 rfl ?_
                        refine lv_aload hx hb dX6_fewest_185 (lv_at hl 6 rfl) ?_
                        refine r_get (C := RX2) (T := TX2) (N := 6) (ci := 2) hx hb hts hi_X2 hown hK hP 0 rfl (by decide) lk_X6_42 (fun _ h9 => h9) dX6_fewest_187 (by omega) (CE_p (by omega)) rfl ?_
                        refine lv_iload hx hb dX6_fewest_190 (lv_at hl 8 rfl) ?_
                        refine r_iast hx hb hi hK hP hS 0 rfl dX6_fewest_192 (by omega) rfl (by omega) (by omega) (cu_minutes (by omega)) (fun H locs hP hS => ?_)
                        refine r_const hx hb dX6_fewest_193 ?_
                        refine lv_istore hx hb dX6_fewest_194 hl (by decide) rfl (fun ls hl => ?_)
                        replace hl : lv_has ls 10 [(0, _), (1, _), (2, _), (4, _), (5, _), (6, _), (7, _), (8, _), (9, _)] := lv_sub hl [1, 2, 3, 0, 4, 5, 6, 7, 8] rfl
                        have hw2 : wfD σ S (σ 7 k) (up τ3 10 (σ 1 p) (τ3 10 (σ 2 p) + σ 5 p) 10) := wfD_rx hI hwf3 ⟨by omega, by omega, hop⟩ (Or.inr ⟨rfl, rfl⟩) (by omega) (up_self _ _ _ _) (fun i q => up_i q)
                        have hle4 : ∀ v, 0 ≤ v → v < 20 → up τ3 10 (σ 1 p) (τ3 10 (σ 2 p) + σ 5 p) 10 v ≤ τ3 10 v := by
                          intro v v1 v2
                          by_cases q : v = σ 1 p
                          · rw [q, up_self]; omega
                          · rw [up_i q]; omega
                        have e1 : up τ3 10 (σ 1 p) (τ3 10 (σ 2 p) + σ 5 p) 10 (σ 1 p) = τ3 10 (σ 2 p) + σ 5 p := up_self _ _ _ _
                        have e2 : up τ3 10 (σ 1 p) (τ3 10 (σ 2 p) + σ 5 p) 10 (σ 2 p) = τ3 10 (σ 2 p) := up_i (by omega)
                        rw [← hWg]
                        exact join196 1 _ _ _ _ hP hS (lv_sub hl [0, 1, 2, 3, 4, 5] rfl) ⟨by omega, hw2, fun v v1 v2 => Int.le_trans (hle4 v v1 v2) (hle3 v v1 v2), fun q => by omega, hsn _ hle4 (fun _ => by omega), fun t i q => by rw [up_t q]; exact hF3 t i q⟩
                    · refine lv_aload_n hx hb dX6_fewest_148 rfl (lv_at hl 0 rfl) ?_
                      refine r_get (C := RX6) (T := TX6) (N := 2) (ci := 6) hx hb hts hi_X6 hown hK hP 1 rfl (by decide) lk_X6_9 (fun _ h9 => h9) dX6_fewest_149 (by omega) CE_3 rfl ?_
                      refine lv_aload hx hb dX6_fewest_152 (lv_at hl 6 rfl) ?_
                      refine r_get (C := RX2) (T := TX2) (N := 6) (ci := 2) hx hb hts hi_X2 hown hK hP 1 rfl (by decide) lk_X6_47 (fun _ h9 => h9) dX6_fewest_154 (by omega) (CE_p (by omega)) rfl ?_
                      refine lv_iload hx hb dX6_fewest_157 (lv_at hl 7 rfl) ?_
                      refine r_iast hx hb hi hK hP hS 0 rfl dX6_fewest_159 (by omega) rfl (by omega) (by omega) (cu_minutes (by omega)) (fun H locs hP hS => ?_)
                      refine r_const hx hb dX6_fewest_160 ?_
                      refine lv_istore hx hb dX6_fewest_161 hl (by decide) rfl (fun ls hl => ?_)
                      replace hl : lv_has ls 10 [(0, _), (1, _), (2, _), (4, _), (5, _), (6, _), (7, _), (8, _), (9, _)] := lv_sub hl [1, 2, 3, 0, 4, 5, 6, 7, 8] rfl
                      refine lv_goto (tgt := 196) hx hb dX6_fewest_163 (by decide) ?_
                      have hw2 : wfD σ S (σ 7 k) (up τ3 10 (σ 2 p) (τ3 10 (σ 1 p) + σ 5 p) 10) := wfD_rx hI hwf3 ⟨by omega, by omega, hop⟩ (Or.inl ⟨rfl, rfl⟩) (by omega) (up_self _ _ _ _) (fun i q => up_i q)
                      have hle4 : ∀ v, 0 ≤ v → v < 20 → up τ3 10 (σ 2 p) (τ3 10 (σ 1 p) + σ 5 p) 10 v ≤ τ3 10 v := by
                        intro v v1 v2
                        by_cases q : v = σ 2 p
                        · rw [q, up_self]; omega
                        · rw [up_i q]; omega
                      have e1 : up τ3 10 (σ 2 p) (τ3 10 (σ 1 p) + σ 5 p) 10 (σ 2 p) = τ3 10 (σ 1 p) + σ 5 p := up_self _ _ _ _
                      have e2 : up τ3 10 (σ 2 p) (τ3 10 (σ 1 p) + σ 5 p) 10 (σ 1 p) = τ3 10 (σ 1 p) := up_i (by omega)
                      rw [← hWg]
                      exact join196 1 _ _ _ _ hP hS (lv_sub hl [0, 1, 2, 3, 4, 5] rfl) ⟨by omega, hw2, fun v v1 v2 => Int.le_trans (hle4 v v1 v2) (hle3 v v1 v2), fun q => by omega, hsn _ hle4 (fun _ => by omega), fun t i q => by rw [up_t q]; exact hF3 t i q⟩
                  · refine lv_goto (tgt := 196) hx hb dX6_fewest_82 (by decide) ?_
                    rw [← hWg]
                    exact join196 sh' _ _ _ _ hP hS hl ⟨hv3.2, hwf3, hle3, heq3, hsn _ (fun v _ _ => Int.le_refl _) (fun q => absurd (cmpN_0.mpr (tb_and.mpr q)) c79), hF3⟩
            rw [← hWg]
            exact loop59 _ 0 0 _ _ _ _ hP hS hl ⟨by omega, hwf, fun v _ _ => Int.le_refl _, fun _ v _ _ => rfl, fun p p1 p2 => by omega, hF⟩ (Nat.lt_succ_self _)
    have hb1 : bad Ds (τ1 10) + 0 ≤ 20 := by have := bad_r (D := Ds) (f := τ1 10); omega
    rw [← hWg]
    exact loop41 _ 1 0 _ _ _ _ hP hS hl ⟨by omega, hv41.1, fun q => by omega, Or.inl hb1, hv41.2⟩ (Nat.lt_succ_self _)
  have loop3 : ∀ (n : Nat) (i : Int) (τ1 : Tb) (H : Heap) (locs : List Loc) (ls : Array Slot), va_P D vwCl (kw 189 ad (CE G ad σ τ1)) H → va_S (kA 189 ad) s.heap H locs → lv_has ls 10 [(0, .ref (ad 3)), (1, .ref (ad (61 + k.toNat))), (2, .long (lN S)), (4, .int (iI i))] → ((0 ≤ i ∧ i ≤ 20) ∧ (∀ v, 0 ≤ v → v < i → τ1 10 v = 1000000) ∧ (∀ t i, t ≠ 10 → τ1 t i = τ t i)) → (20 - i).toNat < n → Wg H locs (F0 m0 3 ls []) := by
    intro n
    induction n with
    | zero => intro i τ1 H locs ls _ _ _ _ hn; omega
    | succ n ih3 =>
      intro i τ1 H locs ls hP hS hl hv3 hn3
      rw [hWg]
      obtain ⟨hv, hT, hF⟩ := hv3
      refine lv_iload hx hb dX6_fewest_3 (lv_at hl 3 rfl) ?_
      refine r_bipush hx hb dX6_fewest_5 (by decide +kernel) ?_
      refine r_icmp_ge (tgt := 25) hx hb (by omega) (by omega) dX6_fewest_7 (by decide) (fun c7 => ?_) (fun c7 => ?_)
      · obtain rfl : i = 20 := by omega
        refine lv_aload_n hx hb dX6_fewest_25 rfl (lv_at hl 0 rfl) ?_
        refine r_get (C := RX6) (T := TX6) (N := 2) (ci := 6) hx hb hts hi_X6 hown hK hP 1 rfl (by decide) lk_X6_9 (fun _ h9 => h9) dX6_fewest_26 (by omega) CE_3 rfl ?_
        refine lv_aload_n hx hb dX6_fewest_29 rfl (lv_at hl 1 rfl) ?_
        refine r_get (C := RX1) (T := TX1) (N := 3) (ci := 1) hx hb hts hi_X1 hown hK hP 0 rfl (by decide) lk_X6_30 (fun _ h9 => h9) dX6_fewest_30 (by omega) (CE_r (by omega)) rfl ?_
        refine r_const hx hb dX6_fewest_33 ?_
        refine r_iast hx hb hi hK hP hS 0 rfl dX6_fewest_34 (by omega) rfl (by omega) (by omega) (cu_minutes (by omega)) (fun H locs hP hS => ?_)
        refine r_const hx hb dX6_fewest_35 ?_
        refine lv_istore hx hb dX6_fewest_36 hl (by decide) rfl (fun ls hl => ?_)
        replace hl : lv_has ls 10 [(0, _), (1, _), (2, _), (4, _)] := lv_sub hl [1, 2, 3, 0] rfl
        refine r_const hx hb dX6_fewest_38 ?_
        refine lv_istore hx hb dX6_fewest_39 hl (by decide) rfl (fun ls hl => ?_)
        replace hl : lv_has ls 10 [(0, _), (1, _), (2, _), (4, _), (5, _)] := lv_sub hl [1, 2, 3, 4, 0] rfl
        rw [← hWg]
        exact join41 _ _ _ _ hP hS hl ⟨wfD_0 (up_self _ _ _ _) (fun v v1 v2 v3 => by rw [up_i v3]; exact hT v v1 v2), fun t i q => by rw [up_t q]; exact hF t i q⟩
      · refine lv_aload_n hx hb dX6_fewest_10 rfl (lv_at hl 0 rfl) ?_
        refine r_get (C := RX6) (T := TX6) (N := 2) (ci := 6) hx hb hts hi_X6 hown hK hP 1 rfl (by decide) lk_X6_9 (fun _ h9 => h9) dX6_fewest_11 (by omega) CE_3 rfl ?_
        refine lv_iload hx hb dX6_fewest_14 (lv_at hl 3 rfl) ?_
        refine r_ldc hx hb hown (hts _ lc_X6_29) (show (1000000 : Int32) = iI 1000000 by decide +kernel) dX6_fewest_16 ?_
        refine r_iast hx hb hi hK hP hS 0 rfl dX6_fewest_18 (by omega) rfl (by omega) (by omega) (cu_minutes (by omega)) (fun H locs hP hS => ?_)
        refine r_iinc hx hb dX6_fewest_19 hl (k := 3) rfl (by decide) (fun ls hl => ?_)
        replace hl : lv_has ls 10 [(0, _), (1, _), (2, _), (4, _)] := lv_sub hl [1, 2, 3, 0] rfl
        refine lv_goto (tgt := 3) hx hb dX6_fewest_22 (by decide) ?_
        have hT2 : ∀ v, 0 ≤ v → v < i + 1 → up τ1 10 i 1000000 10 v = 1000000 := by
          intro v v1 v2
          by_cases q : v = i
          · rw [q, up_self]
          · rw [up_i q]; exact hT v v1 (by omega)
        rw [← hWg]
        exact ih3 (i + 1) _ _ _ _ hP hS (lv_sub hl [0, 1, 2, 3] rfl) ⟨by omega, hT2, fun t j q => by rw [up_t q]; exact hF t j q⟩ (by omega)
  rw [← hWg]
  exact loop3 _ 0 _ _ _ _ hP hS hl ⟨by omega, fun v v1 v2 => by omega, fun t i q => rfl⟩ (Nat.lt_succ_self _)
abbrev rmX6_isOpen : Room := { frames := 1, cells := 0, slots := 0, locals := 29 }
set_option maxRecDepth 100000 in
set_option maxHeartbeats 4000000 in
theorem c_X6_isOpen {l : Launch} {D : va_G} {G : Nat → ClassId} {ad : Nat → Nat} {σ τ : Tb} (hi : kInj 189 ad) {k : Int} {S : Nat} (hI : Inv σ) (hk : 0 ≤ k ∧ k < σ 0 1) (hS0 : S < 1099511627776) : Met l yX6_isOpen wsX6_isOpen rmX6_isOpen (kPc D (tysG G) 189 ad (CE G ad σ τ) [.ref (ad 3), .ref (ad (61 + k.toNat)), .long (lN S)]) (kQi D 189 ad (fun z E' => z = bI (dst σ S (σ 7 k) (σ 8 k) ≤ σ 9 k) ∧ ∃ τ', E' = CE G ad σ τ' ∧ (∀ t i, t ≠ 10 → τ' t i = τ t i))) 0 0 (kA 189 ad) := by
  refine k_met (cc := cX6_isOpen) (maxL := 5) (ret := (some .boolean)) (by decide) (Nat.le_of_ble_eq_true rfl) ?_
  intro P0 e0 s m0 below meth c0 ls hx hb hr hlocks hml hown hts hK hP hS hl
  replace hl : lv_has ls 5 [(0, _), (1, _), (2, _)] := hl
  replace hown : s.vm.findClass RX6 = some m0.cls := hown
  refine k_abs (fun Wg hWg => ?_)
  have h0 := Inv_0 hI
  have hR := Inv_r hI hk
  unfold IR at hR
  have hdr := dst_r hI (S := S) (a := σ 7 k) (b := σ 8 k) (by omega) (by omega)
  refine lv_aload_n hx hb dX6_isOpen_0 rfl (lv_at hl 0 rfl) ?_
  refine lv_aload_n hx hb dX6_isOpen_1 rfl (lv_at hl 1 rfl) ?_
  refine lv_lload_n hx hb dX6_isOpen_2 rfl (lv_at hl 2 rfl) ?_
  refine k_calliV (nL := 5) (C := RX6) (T := TX6) (N := 2) (ci := 6) hx hb hml hown hts hK hP hS hl.1 (c_X6_fewest hi hI hk hS0) rfl (Nat.le_of_ble_eq_true rfl) rfl (cwV 2 hts (gV lm_X6_19 ti_X6_fewest tl_X6_fewest tn_X6 tc_X6_fewest) rfl rfl rfl (by decide +kernel) ⟨Nat.le_of_ble_eq_true rfl, Nat.le_of_ble_eq_true rfl⟩) rfl dX6_isOpen_3 ⟨Nat.zero_le _, Nat.zero_le _⟩ (by omega) CE_3 (fun r3 E1 H locs hq hP hS => ?_)
  obtain ⟨rfl, τ1, rfl, hF⟩ := hq
  have hfr : (dst σ S (σ 7 k) (σ 8 k) < 1000000 ∧ fewC σ S k = dst σ S (σ 7 k) (σ 8 k)) ∨ (¬ dst σ S (σ 7 k) (σ 8 k) < 1000000 ∧ fewC σ S k = -5) := by
    by_cases q : dst σ S (σ 7 k) (σ 8 k) < 1000000
    · exact Or.inl ⟨q, by rw [fewC, cif_t q]⟩
    · exact Or.inr ⟨q, by rw [fewC, cif_f q]⟩
  refine lv_istore hx hb dX6_isOpen_6 hl (by decide) rfl (fun ls hl => ?_)
  replace hl : lv_has ls 5 [(0, _), (1, _), (2, _), (4, _)] := lv_sub hl [1, 2, 3, 0] rfl
  refine lv_iload hx hb dX6_isOpen_8 (lv_at hl 3 rfl) ?_
  refine r_bipush hx hb dX6_isOpen_10 (by decide +kernel) ?_
  refine r_icmp_eq (tgt := 28) hx hb (by omega) (by omega) dX6_isOpen_12 (by decide) (fun c12 => ?_) (fun c12 => ?_)
  · refine r_const hx hb dX6_isOpen_28 ?_
    exact k_zret hx hb hr hlocks hP hS dX6_isOpen_29 (by omega) ⟨(bI_f (by omega)).symm, τ1, rfl, hF⟩
  · refine lv_iload hx hb dX6_isOpen_15 (lv_at hl 3 rfl) ?_
    refine lv_aload_n hx hb dX6_isOpen_17 rfl (lv_at hl 1 rfl) ?_
    refine r_get (C := RX1) (T := TX1) (N := 3) (ci := 1) hx hb hts hi_X1 hown hK hP 2 rfl (by decide) lk_X6_23 (fun _ h9 => h9) dX6_isOpen_18 (by omega) (CE_r (by omega)) rfl ?_
    refine r_icmp_gt (tgt := 28) hx hb (by omega) (by omega) dX6_isOpen_21 (by decide) (fun c21 => ?_) (fun c21 => ?_)
    · refine r_const hx hb dX6_isOpen_28 ?_
      exact k_zret hx hb hr hlocks hP hS dX6_isOpen_29 (by omega) ⟨(bI_f (by omega)).symm, τ1, rfl, hF⟩
    · refine r_const hx hb dX6_isOpen_24 ?_
      refine lv_goto (tgt := 29) hx hb dX6_isOpen_25 (by decide) ?_
      exact k_zret hx hb hr hlocks hP hS dX6_isOpen_29 (by omega) ⟨(bI_t (by omega)).symm, τ1, rfl, hF⟩

