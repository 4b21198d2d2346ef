section KR4
variable {p : Program} {l : Launch} {e : Env} {R : Room} {s : State} {m : MethodId} {args : Array Value} {below : List Frame} {meth : Method} {c : Code} {H : Heap} {locs : List Loc} {cells slots : Nat} {Q : State → Prop}
variable {cc : ByteArray} {pc : Nat} {ls : Array Slot} {rest : List Value}
theorem r_ldcw (hx : p.tables.exec = Jvm.exec) (hb : c.code = cc) {own : String} {index : Nat} {v : Int32} {z : Int} (hown : s.vm.findClass own = some m.cls) (hconst : (Jvm.Cond.constant own index v).before args s = true) (hv : v = iI z) (hdg : decode cc pc = .ok (.ldc_w index, 3))
    (k : W p l e R s m args below meth c H locs cells slots Q (F0 m (pc + 3) ls (.int (iI z) :: rest))) : W p l e R s m args below meth c H locs cells slots Q (F0 m pc ls rest) := lv_ldcw hx hb hown hconst hdg (by rw [hv]; exact k)
theorem r_tabIn (hx : p.tables.exec = Jvm.exec) (hb : c.code = cc) {dflt lo hi : Int} {offs : Array Int} {len : Nat} {z : Int} {off : Int} {tgt : Nat} (hdg : decode cc pc = .ok (.tableswitch dflt lo hi offs, len)) (hz : -2147483648 ≤ z ∧ z < 2147483648) (h1 : lo ≤ z) (h2 : z ≤ hi) (ho : offs[(z - lo).toNat]? = some off) (ht : (pc : Int) + off = (tgt : Int))
    (k : W p l e R s m args below meth c H locs cells slots Q (F0 m tgt ls rest)) : W p l e R s m args below meth c H locs cells slots Q (F0 m pc ls (.int (iI z) :: rest)) :=
  lv_tableIn hx hb hdg (by rw [iI_toInt hz.1 hz.2]; omega) (by rw [iI_toInt hz.1 hz.2]; omega) (by rw [iI_toInt hz.1 hz.2]; exact ho) ht k
theorem r_tabOut (hx : p.tables.exec = Jvm.exec) (hb : c.code = cc) {dflt lo hi : Int} {offs : Array Int} {len : Nat} {z : Int} {tgt : Nat} (hdg : decode cc pc = .ok (.tableswitch dflt lo hi offs, len)) (hz : -2147483648 ≤ z ∧ z < 2147483648) (h1 : z < lo ∨ hi < z) (ht : (pc : Int) + dflt = (tgt : Int))
    (k : W p l e R s m args below meth c H locs cells slots Q (F0 m tgt ls rest)) : W p l e R s m args below meth c H locs cells slots Q (F0 m pc ls (.int (iI z) :: rest)) :=
  lv_tableOut hx hb hdg (by rw [iI_toInt hz.1 hz.2]; exact h1) ht k
end KR4
/-! ===== the calls' answers and what they make of the tables ===== -/
def lvW (σ : Tb) (w : Int) : Prop := 0 ≤ w ∧ w < σ 0 2
def vP (e l r m t : Int) : Prop := (0 ≤ e ∧ e / 100 ≤ 19 ∧ e % 100 ≤ 19 ∧ e / 100 ≠ e % 100) ∧ (1 ≤ l ∧ l ≤ 4) ∧ (0 ≤ r ∧ r ≤ 2) ∧ (1 ≤ m ∧ m ≤ 30) ∧ (0 ≤ t ∧ t ≤ 60)
noncomputable def aPiece (σ : Tb) (e l r m t : Int) : Int := cif (vP e l r m t) (cif (σ 0 0 < 40) (σ 0 0) (-2)) (-1)
noncomputable def sPiece (σ : Tb) (e l r m t : Int) : Tb := cif (vP e l r m t ∧ σ 0 0 < 40) (up (up (up (up (up (up (up σ 1 (σ 0 0) (e / 100)) 2 (σ 0 0) (e % 100)) 3 (σ 0 0) l) 4 (σ 0 0) r) 5 (σ 0 0) m) 6 (σ 0 0) t) 0 0 (σ 0 0 + 1)) σ
def vR (a b m : Int) : Prop := (0 ≤ a ∧ a ≤ 19) ∧ (0 ≤ b ∧ b ≤ 19) ∧ a ≠ b ∧ (1 ≤ m ∧ m ≤ 200)
noncomputable def aPair (σ : Tb) (a b m : Int) : Int := cif (vR a b m) (cif (σ 0 1 < 8) (σ 0 1) (-2)) (-1)
noncomputable def sPair (σ : Tb) (a b m : Int) : Tb := cif (vR a b m ∧ σ 0 1 < 8) (up (up (up (up σ 7 (σ 0 1) a) 8 (σ 0 1) b) 9 (σ 0 1) m) 0 1 (σ 0 1 + 1)) σ
def vF (d i : Int) : Prop := (0 ≤ d ∧ d ≤ 399) ∧ (0 ≤ i ∧ i ≤ 1)
noncomputable def aFeast (σ : Tb) (d i : Int) : Int := cif (vF d i) (σ 10 d) (-1)
noncomputable def sFeast (σ : Tb) (d i : Int) : Tb := cif (vF d i) (up σ 10 d i) σ
def vW (σ : Tb) (a b p : Int) : Prop := 0 ≤ a ∧ 0 ≤ b ∧ (0 ≤ p ∧ p < σ 0 0) ∧ a / 10000 ≤ 9 ∧ a / 1000 % 10 ≤ 3 ∧ (1 ≤ a / 100 % 10 ∧ a / 100 % 10 ≤ 4) ∧ (1 ≤ a % 100 ∧ a % 100 ≤ 30) ∧ (1 ≤ b / 1000 ∧ b / 1000 ≤ 9) ∧ b % 1000 ≤ 399
noncomputable def nW (σ : Tb) (n a b : Int) : Tb := up (up (up (up (up (up σ 11 n (a / 10000)) 12 n (a / 1000 % 10)) 13 n (a / 100 % 10)) 14 n (a % 100)) 15 n (b / 1000)) 16 n (b % 1000)
noncomputable def aWork (σ : Tb) (a b p : Int) : Int := cif (vW σ a b p) (cif (σ 0 2 < 60) (σ 0 2) (-2)) (-1)
noncomputable def sWork (σ : Tb) (a b p : Int) : Tb := cif (vW σ a b p ∧ σ 0 2 < 60) (up (insQ (nW σ (σ 0 2) a b) (σ 0 2) p) 0 2 (σ 0 2 + 1)) σ
def vM (σ : Tb) (w p : Int) : Prop := lvW σ w ∧ (0 ≤ p ∧ p < σ 0 0) ∧ ¬ isOn σ w p
noncomputable def aMore (σ : Tb) (w p : Int) : Int := cif (vM σ w p) (cif (σ 19 w = 0 ∧ σ 23 w < 0) (cif (σ 18 w < 4) (σ 18 w + 1) (-2)) (-3)) (-1)
noncomputable def sMore (σ : Tb) (w p : Int) : Tb := cif (vM σ w p ∧ (σ 19 w = 0 ∧ σ 23 w < 0) ∧ σ 18 w < 4) (insQ σ w p) σ
noncomputable def rfs (σ : Tb) (w d : Int) : Int := cif (lvW σ w ∧ (0 ≤ d ∧ d ≤ 399)) (cif ((σ 19 w = 0 ∨ σ 19 w = 1) ∧ σ 12 w ≠ 2) 0 (-3)) (-1)
theorem rfs_0 {σ : Tb} {w d : Int} : rfs σ w d = 0 ↔ (lvW σ w ∧ (0 ≤ d ∧ d ≤ 399)) ∧ (σ 19 w = 0 ∨ σ 19 w = 1) ∧ σ 12 w ≠ 2 := by
  unfold rfs
  by_cases q : lvW σ w ∧ (0 ≤ d ∧ d ≤ 399)
  · rw [cif_t q]
    by_cases q2 : (σ 19 w = 0 ∨ σ 19 w = 1) ∧ σ 12 w ≠ 2
    · rw [cif_t q2]; exact ⟨fun _ => ⟨q, q2⟩, fun _ => rfl⟩
    · rw [cif_f q2]; exact ⟨fun z => by omega, fun z => absurd z.2 q2⟩
  · rw [cif_f q]; exact ⟨fun z => by omega, fun z => absurd z.1 q⟩
theorem rfs_r {σ : Tb} {w d : Int} : rfs σ w d = 0 ∨ rfs σ w d = -1 ∨ rfs σ w d = -3 := by
  unfold rfs
  by_cases q : lvW σ w ∧ (0 ≤ d ∧ d ≤ 399)
  · rw [cif_t q]
    by_cases q2 : (σ 19 w = 0 ∨ σ 19 w = 1) ∧ σ 12 w ≠ 2
    · rw [cif_t q2]; omega
    · rw [cif_f q2]; omega
  · rw [cif_f q]; omega
theorem rul1_r {σ : Tb} {w d : Int} {les : Prop} : 0 ≤ rul1 σ w d les ∧ rul1 σ w d les ≤ 7 := by
  have hrr := rul3_r (σ := σ) (w := w) (d := d) (les := les)
  rw [rul1, rul2]
  by_cases q : d < σ 0 3 + ntc σ w
  · rw [cif_t q]; omega
  · rw [cif_f q]
    by_cases q2 : 399 < d + σ 14 w - 1
    · rw [cif_t q2]; omega
    · rw [cif_f q2]; omega
noncomputable def wD (σ : Tb) (w d : Int) : Int := Classical.epsilon (fun x => ∃ y, rAt σ w d False (rul1 σ w d False) x y)
noncomputable def wP (σ : Tb) (w d : Int) : Int := Classical.epsilon (fun y => ∃ x, rAt σ w d False (rul1 σ w d False) x y)
theorem wDP {σ : Tb} {w d x y : Int} (h0 : rul1 σ w d False ≠ 0) (h : rAt σ w d False (rul1 σ w d False) x y) : wD σ w d = x ∧ wP σ w d = y := by
  have hr := rul1_r (σ := σ) (w := w) (d := d) (les := False)
  have h1 : ∃ y, rAt σ w d False (rul1 σ w d False) (wD σ w d) y := Classical.epsilon_spec (p := fun x => ∃ y, rAt σ w d False (rul1 σ w d False) x y) ⟨x, y, h⟩
  have h2 : ∃ x, rAt σ w d False (rul1 σ w d False) x (wP σ w d) := Classical.epsilon_spec (p := fun y => ∃ x, rAt σ w d False (rul1 σ w d False) x y) ⟨y, x, h⟩
  obtain ⟨y', h1⟩ := h1
  obtain ⟨x', h2⟩ := h2
  exact ⟨(rAt_eq (by omega) h1 h).1, (rAt_eq (by omega) h2 h).2⟩
noncomputable def lok (σ : Tb) (w d : Int) : Tb := cif (rul1 σ w d False = 0) σ (up (up (up σ 0 4 1) 0 5 (wD σ w d)) 0 6 (wP σ w d))
noncomputable def aMay (σ : Tb) (w d : Int) : Int := cif (rfs σ w d = 0) (rul1 σ w d False) (rfs σ w d)
noncomputable def sMay (σ : Tb) (w d : Int) : Tb := cif (rfs σ w d = 0) (lok σ w d) σ
noncomputable def aWhy (σ : Tb) (q : Int) : Int := cif (σ 0 4 = 1 ∧ (0 ≤ q ∧ q ≤ 1)) (cif (q = 0) (σ 0 5) (σ 0 6)) (-1)
def frOk (σ : Tb) (w a n d : Int) : Prop := (a < d ∧ d < a + n ∧ d ≤ 399) ∧ rul1 σ w d False = 0 ∧ ∀ x, a < x → x < d → rul1 σ w x False ≠ 0
theorem frOk_eq {σ : Tb} {w a n d d' : Int} (h : frOk σ w a n d) (h' : frOk σ w a n d') : d = d' := by
  obtain ⟨a1, a2, a3⟩ := h
  obtain ⟨b1, b2, b3⟩ := h'
  rcases Int.lt_trichotomy d d' with e | e | e
  · exact absurd a2 (b3 d a1.1 e)
  · exact e
  · exact absurd b2 (a3 d' b1.1 e)
noncomputable def frA (σ : Tb) (w a n : Int) : Int := cif (rul1 σ w a False = 0) a (cif (∃ d, frOk (lok σ w a) w a n d) (Classical.epsilon (frOk (lok σ w a) w a n)) (-5))
theorem frA_t {σ : Tb} {w a n d : Int} (h0 : rul1 σ w a False ≠ 0) (h : frOk (lok σ w a) w a n d) : frA σ w a n = d := by
  unfold frA
  rw [cif_f h0, cif_t ⟨d, h⟩]
  exact frOk_eq (Classical.epsilon_spec (p := frOk (lok σ w a) w a n) ⟨d, h⟩) h
theorem frA_f {σ : Tb} {w a n : Int} (h0 : rul1 σ w a False ≠ 0) (h : ∀ d, a < d → d < a + n → d ≤ 399 → rul1 (lok σ w a) w d False ≠ 0) : frA σ w a n = -5 := by
  unfold frA
  rw [cif_f h0, cif_f]
  rintro ⟨d, h1, h2, _⟩
  exact h d h1.1 h1.2.1 h1.2.2 h2
noncomputable def aFirst (σ : Tb) (w a n : Int) : Int := cif (1 ≤ n ∧ n ≤ 200) (cif (rfs σ w a = 0) (frA σ w a n) (rfs σ w a)) (-1)
noncomputable def sFirst (σ : Tb) (w a n : Int) : Tb := cif ((1 ≤ n ∧ n ≤ 200) ∧ rfs σ w a = 0) (lok σ w a) σ
noncomputable def aPermit (σ : Tb) (w d : Int) : Int := cif (rfs σ w d = 0) (cif (rul1 σ w d False = 0) 0 (-10 - rul1 σ w d False)) (rfs σ w d)
noncomputable def sPermit (σ : Tb) (w d : Int) : Tb := cif (rfs σ w d = 0) (cif (rul1 σ w d False = 0) (pmt σ w d) (lok σ w d)) σ
noncomputable def aWdr (σ : Tb) (w : Int) : Int := cif (lvW σ w) (cif (σ 19 w = 0 ∨ σ 19 w = 1) 1 (-3)) (-1)
noncomputable def sWdr (σ : Tb) (w : Int) : Tb := cif (lvW σ w ∧ (σ 19 w = 0 ∨ σ 19 w = 1)) (drp σ w) σ
noncomputable def itD (σ : Tb) : Nat → Tb
  | 0 => σ
  | n + 1 => psN (itD σ n) (itD σ n 0 2)
def vD (σ : Tb) (n : Int) : Prop := (1 ≤ n ∧ n ≤ 100) ∧ σ 0 3 + n ≤ 399
noncomputable def aDay (σ : Tb) (n : Int) : Int := cif (vD σ n) (σ 0 3 + n) (-1)
noncomputable def sDay (σ : Tb) (n : Int) : Tb := cif (vD σ n) (itD σ n.toNat) σ
noncomputable def ovr (σ : Tb) (w n : Int) : Tb := up (up σ 22 w (σ 22 w + ((if σ 21 w + n < 399 then σ 21 w + n else 399) - σ 21 w))) 21 w (if σ 21 w + n < 399 then σ 21 w + n else 399)
noncomputable def aOver (σ : Tb) (w n : Int) : Int := cif (lvW σ w ∧ (1 ≤ n ∧ n ≤ 30)) (cif (σ 19 w = 2) (mvC (ovr σ w n) (σ 0 2).toNat) (-3)) (-1)
noncomputable def sOver (σ : Tb) (w n : Int) : Tb := cif ((lvW σ w ∧ (1 ≤ n ∧ n ≤ 30)) ∧ σ 19 w = 2) (mvN (ovr σ w n) (σ 0 2).toNat) σ
noncomputable def aCrash (σ : Tb) (w : Int) : Int := cif (lvW σ w) (cif (σ 12 w = 2 ∧ σ 19 w = 0) (mvC (pmt σ w (σ 0 3)) (σ 0 2).toNat) (-3)) (-1)
noncomputable def sCrash (σ : Tb) (w : Int) : Tb := cif (lvW σ w ∧ (σ 12 w = 2 ∧ σ 19 w = 0)) (mvN (pmt σ w (σ 0 3)) (σ 0 2).toNat) σ
def jnO (σ : Tb) (a b : Int) : Prop := (σ 12 a = 1 ∧ (σ 19 a = 0 ∨ σ 19 a = 1) ∧ σ 23 a < 0) ∧ (σ 12 b = 1 ∧ (σ 19 b = 0 ∨ σ 19 b = 1) ∧ σ 23 b < 0) ∧ σ 11 a ≠ σ 11 b ∧ σ 15 a ≠ σ 15 b ∧ σ 17 a = σ 17 b
noncomputable def aJoin (σ : Tb) (a b : Int) : Int := cif (lvW σ a ∧ lvW σ b ∧ a ≠ b) (cif (jnO σ a b) 1 (-3)) (-1)
noncomputable def sJoin (σ : Tb) (a b : Int) : Tb := cif ((lvW σ a ∧ lvW σ b ∧ a ≠ b) ∧ jnO σ a b) (up (up σ 23 a b) 23 b a) σ
noncomputable def abt (σ : Tb) (w q : Int) : Int := cif (q = 0) (σ 19 w) (cif (q = 1) (σ 20 w) (cif (q = 2) (σ 21 w) (cif (q = 3) (σ 22 w) (cif (q = 4) (cstC σ w) (cif (q = 5) (payC σ w) (cif (q = 6) (σ 22 w * (10 * rnkC σ w + 10)) (cif (q = 7) (dlyC σ w) (cif (q = 8) (σ 23 w) (cif (q = 9) (σ 18 w) (cif (q = 10) (σ 24 w) (-5)))))))))))
noncomputable def aAbout (σ : Tb) (w q : Int) : Int := cif (lvW σ w) (abt σ w q) (-5)
noncomputable def aLanes (σ : Tb) (p d : Int) : Int := cif ((0 ≤ p ∧ p < σ 0 0) ∧ (0 ≤ d ∧ d ≤ 399)) (tkC σ (cnts σ (-1) False) p d) (-1)
noncomputable def shD (σ : Tb) (d : Int) : Nat := msk (fun p => σ 3 p ≤ tkC σ (cnts σ (-1) False) p d) (σ 0 0).toNat
noncomputable def aWay (σ : Tb) (k d : Int) : Int := cif ((0 ≤ k ∧ k < σ 0 1) ∧ (0 ≤ d ∧ d ≤ 399)) (fewC σ (shD σ d) k) (-1)
noncomputable def aShut (σ : Tb) (d : Int) : Int := cif (0 ≤ d ∧ d ≤ 399) (sumI (fun k => bI (¬ dst σ (shD σ d) (σ 7 k) (σ 8 k) ≤ σ 9 k)) (σ 0 1)) (-1)
noncomputable def aPrice (σ : Tb) : Int := 500 * cntS σ 0 + sumI (fun w => dlyC σ w) (σ 0 2)
noncomputable def itB (σ : Tb) : Nat → Tb
  | 0 => σ
  | n + 1 => bet1 (itB σ n)
def btE (σ : Tb) (n : Nat) : Prop := ¬ ex2 (betP (itB σ n)) ∧ ∀ m, m < n → ex2 (betP (itB σ m))
theorem btE_eq {σ : Tb} {n m : Nat} (h : btE σ n) (h' : btE σ m) : n = m := by
  rcases Nat.lt_trichotomy n m with e | e | e
  · exact absurd (h'.2 n e) h.1
  · exact e
  · exact absurd (h.2 m e) h'.1
noncomputable def btN (σ : Tb) : Nat := Classical.epsilon (btE σ)
theorem btN_of {σ : Tb} {n : Nat} (h : btE σ n) : btN σ = n := btE_eq (Classical.epsilon_spec (p := btE σ) ⟨n, h⟩) h
def bkOk (σ : Tb) (p i w : Int) : Prop := lvW σ w ∧ ((σ 19 w = 2 ∨ σ 19 w = 3) ∧ isOn σ w p) ∧ bkA σ p w = i
noncomputable def aBook (σ : Tb) (p i : Int) : Int := cif ((0 ≤ p ∧ p < σ 0 0) ∧ 0 ≤ i) (cif (∃ w, bkOk σ p i w) (Classical.epsilon (bkOk σ p i)) (-1)) (-1)
noncomputable def aCount (σ : Tb) (q : Int) : Int := cif (q = 0) (σ 0 0) (cif (q = 1) (σ 0 1) (cif (q = 2) (σ 0 2) (cif (q = 3) (σ 0 3) (cif (4 ≤ q ∧ q ≤ 8) (cntS σ (q - 4)) (-1)))))

