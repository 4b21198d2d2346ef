def TP (G : Nat → ClassId) (ad : Nat → Nat) (k : Nat) : va_E := if k < 40 then IE2 G ad 0 else if k < 48 then IE1 G ad 0 else if (k - 48) % 2 = 0 then IE7 G (((k - 48) / 2 : Nat) : Int) (fun _ => ad (k + 6)) 0 else .inl (G 0, 4, .inl (fun _ => iI 0))
def TE (G : Nat → ClassId) (n1 n2 n3 : Nat) (ad : Nat → Nat) (k : Nat) : va_E := match k with
  | 0 => .inr (5, [.ref (ad 1), .ref (ad 2), .ref (ad 3), .ref (ad 4), .int (iI 0), .int (iI 0), .int (iI 0), .int (iI 0)])
  | 1 => .inl (G 4, 40, .inr (.inr (.inr (.inr (fun j => if j < n1 then some (ad (5 + j)) else none)))))
  | 2 => .inl (G 3, 8, .inr (.inr (.inr (.inr (fun j => if j < n2 then some (ad (45 + j)) else none)))))
  | 3 => .inl (G 5, 60, .inr (.inr (.inr (.inr (fun j => if j < n3 then some (ad (53 + 2 * j)) else none)))))
  | 4 => .inl (G 2, 400, .inl (fun _ => iI 0))
  | k + 5 => TP G ad k
theorem TE_ref {G : Nat → ClassId} {n1 n2 n3 m1 m2 m3 : Nat} {ad ad' : Nat → Nat} (h : ∀ k, k < 5 → ad k = ad' k) : TE G n1 n2 n3 ad 0 = TE G m1 m2 m3 ad' 0 := by
  show (Sum.inr (5, [.ref (ad 1), .ref (ad 2), .ref (ad 3), .ref (ad 4), .int (iI 0), .int (iI 0), .int (iI 0), .int (iI 0)]) : va_E) = _
  rw [h 1 (by decide), h 2 (by decide), h 3 (by decide), h 4 (by decide)]
  rfl
theorem rf_cg {c : ClassId} {n : Nat} {f g : Nat → Option Nat} (h : ∀ j, f j = g j) : (Sum.inl (c, n, .inr (.inr (.inr (.inr f)))) : va_E) = Sum.inl (c, n, .inr (.inr (.inr (.inr g)))) := by
  rw [show f = g from funext h]
theorem fil_s {ad bd : Nat → Nat} {K i b w : Nat} (hK : K = b + w * i) (hw : 0 < w) (j : Nat) : va_up (fun j => if j < i then some (ad (b + w * j)) else none) i (some (bd 0)) j = (if j < i + 1 then some (jn ad K bd (b + w * j)) else none) := by
  by_cases h : j = i
  · subst h
    rw [va_up_self, if_pos (Nat.lt_succ_self _), jn_r (by omega), hK, Nat.sub_self]
  · rw [va_up_ne _ _ h]
    by_cases h2 : j < i
    · rw [if_pos h2, if_pos (by omega), jn_l]
      rw [hK]
      have := Nat.mul_lt_mul_of_pos_left h2 hw
      omega
    · rw [if_neg h2, if_neg (by omega)]
theorem fil_k {ad bd : Nat → Nat} {K n b w : Nat} (hK : ∀ j, j < n → b + w * j < K) (j : Nat) : (if j < n then some (ad (b + w * j)) else none) = (if j < n then some (jn ad K bd (b + w * j)) else none) := by
  by_cases h : j < n
  · rw [if_pos h, if_pos h, jn_l (hK j h)]
  · rw [if_neg h, if_neg h]
theorem TE_s1 {G : Nat → ClassId} {ad bd : Nat → Nat} {i : Nat} (hi : i < 40) : ∀ k, k < 5 + i + 1 → va_up (jn (TE G i 0 0 ad) (5 + i) (IE2 G bd)) 1 (.inl (G 4, 40, .inr (.inr (.inr (.inr (va_up (fun j => if j < i then some (ad (5 + j)) else none) i (some (bd 0)))))))) k = TE G (i + 1) 0 0 (jn ad (5 + i) bd) k := by
  intro k hk
  match k, hk with
  | 0, _ =>
    rw [va_up_ne _ _ (by decide), jn_l (by omega)]
    exact TE_ref (fun k h => (jn_l (by omega)).symm)
  | 1, _ =>
    rw [va_up_self]
    refine rf_cg (fun j => ?_)
    have h := fil_s (ad := ad) (bd := bd) (K := 5 + i) (i := i) (b := 5) (w := 1) (by omega) (by decide) j
    simp only [Nat.one_mul] at h
    exact h
  | 2, _ =>
    rw [va_up_ne _ _ (by decide), jn_l (by omega)]
    refine rf_cg (fun j => ?_)
    have h := fil_k (ad := ad) (bd := bd) (K := 5 + i) (n := 0) (b := 45) (w := 1) (fun j hj => by omega) j
    simp only [Nat.one_mul] at h
    exact h
  | 3, _ =>
    rw [va_up_ne _ _ (by decide), jn_l (by omega)]
    exact rf_cg (fun j => fil_k (fun j hj => by omega) j)
  | 4, _ =>
    rw [va_up_ne _ _ (by decide), jn_l (by omega)]
    rfl
  | k + 5, hk =>
    rw [va_up_ne _ _ (by omega)]
    by_cases h : k < i
    · rw [jn_l (by omega)]
      show TP G ad k = TP G (jn ad (5 + i) bd) k
      unfold TP
      by_cases h1 : k < 40
      · rw [if_pos h1, if_pos h1]; rfl
      · rw [if_neg h1, if_neg h1]
        by_cases h2 : k < 48
        · rw [if_pos h2, if_pos h2]; rfl
        · rw [if_neg h2, if_neg h2]
          omega
    · rw [jn_r (by omega)]
      show _ = TP G (jn ad (5 + i) bd) k
      unfold TP
      rw [if_pos (by omega)]
      rfl
theorem TE_s2 {G : Nat → ClassId} {ad bd : Nat → Nat} {i : Nat} (hi : i < 8) : ∀ k, k < 45 + i + 1 → va_up (jn (TE G 40 i 0 ad) (45 + i) (IE1 G bd)) 2 (.inl (G 3, 8, .inr (.inr (.inr (.inr (va_up (fun j => if j < i then some (ad (45 + j)) else none) i (some (bd 0)))))))) k = TE G 40 (i + 1) 0 (jn ad (45 + i) bd) k := by
  intro k hk
  match k, hk with
  | 0, _ =>
    rw [va_up_ne _ _ (by decide), jn_l (by omega)]
    exact TE_ref (fun k h => (jn_l (by omega)).symm)
  | 1, _ =>
    rw [va_up_ne _ _ (by decide), jn_l (by omega)]
    refine rf_cg (fun j => ?_)
    have h := fil_k (ad := ad) (bd := bd) (K := 45 + i) (n := 40) (b := 5) (w := 1) (fun j hj => by omega) j
    simp only [Nat.one_mul] at h
    exact h
  | 2, _ =>
    rw [va_up_self]
    refine rf_cg (fun j => ?_)
    have h := fil_s (ad := ad) (bd := bd) (K := 45 + i) (i := i) (b := 45) (w := 1) (by omega) (by decide) j
    simp only [Nat.one_mul] at h
    exact h
  | 3, _ =>
    rw [va_up_ne _ _ (by decide), jn_l (by omega)]
    exact rf_cg (fun j => fil_k (fun j hj => by omega) j)
  | 4, _ =>
    rw [va_up_ne _ _ (by decide), jn_l (by omega)]
    rfl
  | k + 5, hk =>
    rw [va_up_ne _ _ (by omega)]
    by_cases h : k < 40 + i
    · rw [jn_l (by omega)]
      show TP G ad k = TP G (jn ad (45 + i) bd) k
      unfold TP
      by_cases h1 : k < 40
      · rw [if_pos h1, if_pos h1]; rfl
      · rw [if_neg h1, if_neg h1]
        by_cases h2 : k < 48
        · rw [if_pos h2, if_pos h2]; rfl
        · rw [if_neg h2, if_neg h2]
          omega
    · rw [jn_r (by omega)]
      show _ = TP G (jn ad (45 + i) bd) k
      unfold TP
      rw [if_neg (by omega), if_pos (by omega)]
      rfl
theorem TE_s3 {G : Nat → ClassId} {ad bd : Nat → Nat} {i : Nat} (hi : i < 60) : ∀ k, k < 53 + 2 * i + 2 → va_up (jn (TE G 40 8 i ad) (53 + 2 * i) (IE7 G (i : Int) bd)) 3 (.inl (G 5, 60, .inr (.inr (.inr (.inr (va_up (fun j => if j < i then some (ad (53 + 2 * j)) else none) i (some (bd 0)))))))) k = TE G 40 8 (i + 1) (jn ad (53 + 2 * i) bd) k := by
  intro k hk
  match k, hk with
  | 0, _ =>
    rw [va_up_ne _ _ (by decide), jn_l (by omega)]
    exact TE_ref (fun k h => (jn_l (by omega)).symm)
  | 1, _ =>
    rw [va_up_ne _ _ (by decide), jn_l (by omega)]
    refine rf_cg (fun j => ?_)
    have h := fil_k (ad := ad) (bd := bd) (K := 53 + 2 * i) (n := 40) (b := 5) (w := 1) (fun j hj => by omega) j
    simp only [Nat.one_mul] at h
    exact h
  | 2, _ =>
    rw [va_up_ne _ _ (by decide), jn_l (by omega)]
    refine rf_cg (fun j => ?_)
    have h := fil_k (ad := ad) (bd := bd) (K := 53 + 2 * i) (n := 8) (b := 45) (w := 1) (fun j hj => by omega) j
    simp only [Nat.one_mul] at h
    exact h
  | 3, _ =>
    rw [va_up_self]
    exact rf_cg (fun j => fil_s rfl (by decide) j)
  | 4, _ =>
    rw [va_up_ne _ _ (by decide), jn_l (by omega)]
    rfl
  | k + 5, hk =>
    rw [va_up_ne _ _ (by omega)]
    by_cases h : k < 48 + 2 * i
    · rw [jn_l (by omega)]
      show TP G ad k = TP G (jn ad (53 + 2 * i) bd) k
      unfold TP
      by_cases h1 : k < 40
      · rw [if_pos h1, if_pos h1]; rfl
      · rw [if_neg h1, if_neg h1]
        by_cases h2 : k < 48
        · rw [if_pos h2, if_pos h2]; rfl
        · rw [if_neg h2, if_neg h2]
          by_cases h3 : (k - 48) % 2 = 0
          · rw [if_pos h3, if_pos h3, jn_l (by omega)]
          · rw [if_neg h3, if_neg h3]
    · rw [jn_r (by omega)]
      show _ = TP G (jn ad (53 + 2 * i) bd) k
      unfold TP
      rw [if_neg (by omega), if_neg (by omega)]
      rcases (show k = 48 + 2 * i ∨ k = 49 + 2 * i by omega) with e | e
      · rw [if_pos (by omega), jn_r (by omega), show k + 5 - (53 + 2 * i) = 0 by omega, show k + 6 - (53 + 2 * i) = 1 by omega, show (k - 48) / 2 = i by omega]; rfl
      · rw [if_neg (by omega), show k + 5 - (53 + 2 * i) = 1 by omega]; rfl
def IE5 (G : Nat → ClassId) (ad : Nat → Nat) (k : Nat) : va_E := match k with
  | 0 => .inr (5, [.ref (ad 1), .ref (ad 2), .ref (ad 3), .ref (ad 4), .int (iI 0), .int (iI 0), .int (iI 0), .int (iI 0)])
  | 1 => .inl (G 4, 40, .inr (.inr (.inr (.inr (fun j => some (ad (5 + j)))))))
  | 2 => .inl (G 3, 8, .inr (.inr (.inr (.inr (fun j => some (ad (45 + j)))))))
  | 3 => .inl (G 5, 60, .inr (.inr (.inr (.inr (fun j => some (ad (53 + 2 * j)))))))
  | 4 => .inl (G 2, 400, .inl (fun _ => iI 0))
  | k + 5 => TP G ad k
abbrev riX5 : Room := { frames := 2, cells := 172, slots := 1972, locals := 33 }
set_option maxRecDepth 100000 in
set_option maxHeartbeats 2000000 in
theorem i_X5 {l : Launch} {D : va_G} {G : Nat → ClassId} {a0 sz : Nat} : Met l yX5_init wsX5_init riX5 (iPc D G a0 sz 5 [.null, .null, .null, .null, .int (iI 0), .int (iI 0), .int (iI 0), .int (iI 0)] []) (iQ D 173 (IE5 G) a0 sz) 172 1972 (iA a0 sz) := by
  refine k_ini (cc := cX5_init) (maxL := 2) (by decide) rfl (Nat.le_of_ble_eq_true rfl) ?_
  intro p e s m below meth c ls hx hb hr hlocks hml hown hts hin hsz hK hNX hP hD hA hS hl
  subst hsz
  replace hl : lv_has ls 2 [(0, _)] := hl
  replace hown : s.vm.findClass RX5 = some m.cls := hown
  have loop3 : ∀ (n i : Nat) (ad : Nat → Nat) (H : Heap) (locs : List Loc) (ls : Array Slot), i ≤ 60 → 60 - i < n → ad 0 = a0 → va_P D vwCl (kw (53 + 2 * i) ad (TE G 40 8 i ad)) H → va_D (iA a0 s.heap.size) (kw (53 + 2 * i) ad (TE G 40 8 i ad)) → va_S (iA a0 s.heap.size) s.heap H locs → lv_has ls 2 [(0, .ref (ad 0)), (1, .int (iI (i : Int)))] → W p l e riX5 s m (Value.ref a0 :: []).toArray below meth c H locs (52 + 2 * i) (772 + 20 * i) (MQ below (iQ D 173 (IE5 G) a0 s.heap.size) (Value.ref a0 :: []).toArray s 172 1972 (iA a0 s.heap.size)) (F0 m 96 ls []) := by
    intro n
    induction n with
    | zero => intro i ad H locs ls _ hn; omega
    | succ n ih =>
      intro i ad H locs ls hi hn ha hP hD hS hl
      refine lv_iload_n hx hb dX5_init_96 rfl (lv_at hl 1 rfl) ?_
      refine r_bipush hx hb dX5_init_97 (by decide +kernel) ?_
      refine r_icmp_ge (tgt := 122) hx hb (by omega) (by omega) dX5_init_99 (by decide) (fun c1 => ?_) (fun c1 => ?_)
      · obtain rfl : i = 60 := by omega
        have hP9 : va_P D vwCl (kw 173 ad (IE5 G ad)) H := by
          have h1 := n_cgq (E' := fun k => if k = 1 then IE5 G ad 1 else TE G 40 8 60 ad k) 1 rfl rfl (fun j hj => if_pos hj) (fun k _ h => (if_neg h).symm) hP
          have h2 := n_cgq (E' := fun k => if k = 2 then IE5 G ad 2 else if k = 1 then IE5 G ad 1 else TE G 40 8 60 ad k) 2 rfl rfl (fun j hj => if_pos hj) (fun k _ h => (if_neg h).symm) h1
          refine n_cgq (E' := IE5 G ad) 3 rfl rfl (fun j hj => if_pos hj) (fun k _ h => ?_) h2
          match k, h with
          | 0, _ => rfl
          | 1, _ => rfl
          | 2, _ => rfl
          | 4, _ => rfl
          | k + 5, _ => rw [if_neg (by omega), if_neg (by omega)]; rfl
        refine W.widen (k := 172) (n := 1972) (by decide) (by decide) ?_
        exact W.vret hx hb hr (fun t ht hW => ⟨⟨ad, rfl, ha, by rw [ht]; exact hP9, n_De hD⟩, hS.F ht⟩) hS.2.2 dX5_init_122
      · refine lv_aload_n hx hb dX5_init_102 rfl (lv_at hl 0 rfl) ?_
        refine r_get (C := RX5) (T := TX5) (N := 8) (ci := 5) (K := 53 + 2 * i) (key := 0) hx hb hts hi_X5 hown hK hP 2 rfl (by decide) lk_X5_25 (fun _ h9 => h9) dX5_init_103 (by omega) rfl rfl ?_
        refine lv_iload_n hx hb dX5_init_106 rfl (lv_at hl 1 rfl) ?_
        refine va_new (ci := 7) (fs := [.int (iI 0), .null, .int (iI 0), .long (lN 0), .int (iI 0), .int (iI 0), .int (iI 0), .int (iI 0), .int (iI 0), .int (iI 0), .int (iI 0), .int (iI 0), .int (iI 0), .int (iI 0), .int (iI 0), .int (iI 0)]) (C := RX7) (T := TX7) (N := 16) hx hb hts hi_X7 tyX7 tyX7_ok hown (hts _ lq_X5_23) (hts _ lj_X7) (hts _ tn_X7) hK hP hD hS hA rfl (fun j hj => by rcases (show j = 0 ∨ j = 1 ∨ j = 2 ∨ j = 3 ∨ j = 4 ∨ j = 5 ∨ j = 6 ∨ j = 7 ∨ j = 8 ∨ j = 9 ∨ j = 10 ∨ j = 11 ∨ j = 12 ∨ j = 13 ∨ j = 14 ∨ j = 15 by omega) with rfl | rfl | rfl | rfl | rfl | rfl | rfl | rfl | rfl | rfl | rfl | rfl | rfl | rfl | rfl | rfl <;> rfl) (by show 52 + 2 * i + 1 ≤ 172; omega) (by show 772 + 20 * i + 16 ≤ 1972; omega) dX5_init_107 (fun q H hPn hDn hS => ?_)
        refine lv_dup hx hb dX5_init_110 rfl ?_
        refine lv_iload_n hx hb dX5_init_111 rfl (lv_at hl 1 rfl) ?_
        refine n_calI (ws := kw (53 + 2 * i) ad (TE G 40 8 i ad)) (As := [.int (iI (i : Int))]) (rest := [.ref q, .int (iI (i : Int)), .ref (ad 3)]) hx hb hml hown hts hK hNX hPn hDn hS hA hl.1 i_X7 rfl (Nat.le_of_ble_eq_true rfl) (cwI 1 hts (gT yX7_init cX7_init 2 none tc_X7_init) rfl rfl rfl (hts _ tn_X7) (hts _ lm_X5_35) (hts _ ti_X7_init) rfl (by decide +kernel) ⟨Nat.le_of_ble_eq_true rfl, Nat.le_of_ble_eq_true rfl⟩) rfl dX5_init_112 ⟨by show 52 + 2 * i + 1 + 1 ≤ 172; omega, by show 772 + 20 * i + 16 + 4 ≤ 1972; omega⟩ (fun bd H locs hq hP hD hS => ?_)
        subst hq
        rw [kw_jn] at hP hD
        have e0 : jn ad (53 + 2 * i) bd 0 = ad 0 := jn_l (by omega)
        have e1 : jn ad (53 + 2 * i) bd 3 = ad 3 := jn_l (by omega)
        have e2 : jn ad (53 + 2 * i) bd (53 + 2 * i) = bd 0 := by rw [jn_r (Nat.le_refl _), Nat.sub_self]
        have e3 : jn (TE G 40 8 i ad) (53 + 2 * i) (IE7 G (i : Int) bd) (53 + 2 * i) = IE7 G (i : Int) bd 0 := by rw [jn_r (Nat.le_refl _), Nat.sub_self]
        have e4 : jn (TE G 40 8 i ad) (53 + 2 * i) (IE7 G (i : Int) bd) 3 = TE G 40 8 i ad 3 := jn_l (by omega)
        refine va_astq (r := (RX7, TX7, 16)) hx hb hK hP hD hS 3 5 (53 + 2 * i) 7 ((kw_get (by omega)).trans (by rw [e1, e4]; rfl)) rfl ((kw_get (by omega)).trans (by rw [e2, e3]; rfl)) rfl (iI_in (by omega) (by decide)) dX5_init_115 (fun H locs hP hD hS => ?_)
        rw [iI_clamp (by omega) (by omega), Int.toNat_natCast, ← e1, kw_set (by omega), kw_cg (fun k hk => ⟨rfl, TE_s3 (by omega) k hk⟩)] at hP hD
        refine r_iinc hx hb dX5_init_116 hl (k := 1) rfl (by decide) (fun ls hl => ?_)
        refine lv_goto (tgt := 96) hx hb dX5_init_119 (by decide) ?_
        rw [← e0] at hl
        rw [show (i : Int) + 1 = ((i + 1 : Nat) : Int) by omega] at hl
        refine W.widen (k := 52 + 2 * (i + 1)) (n := 772 + 20 * (i + 1)) (by omega) (by omega) ?_
        exact ih (i + 1) (jn ad (53 + 2 * i) bd) _ _ _ (by omega) (by omega) (e0.trans ha) hP hD hS (lv_sub hl [1, 0] rfl)
  have loop2 : ∀ (n i : Nat) (ad : Nat → Nat) (H : Heap) (locs : List Loc) (ls : Array Slot), i ≤ 8 → 8 - i < n → ad 0 = a0 → va_P D vwCl (kw (45 + i) ad (TE G 40 i 0 ad)) H → va_D (iA a0 s.heap.size) (kw (45 + i) ad (TE G 40 i 0 ad)) → va_S (iA a0 s.heap.size) s.heap H locs → lv_has ls 2 [(0, .ref (ad 0)), (1, .int (iI (i : Int)))] → W p l e riX5 s m (Value.ref a0 :: []).toArray below meth c H locs (44 + i) (748 + 3 * i) (MQ below (iQ D 173 (IE5 G) a0 s.heap.size) (Value.ref a0 :: []).toArray s 172 1972 (iA a0 s.heap.size)) (F0 m 69 ls []) := by
    intro n
    induction n with
    | zero => intro i ad H locs ls _ hn; omega
    | succ n ih =>
      intro i ad H locs ls hi hn ha hP hD hS hl
      refine lv_iload_n hx hb dX5_init_69 rfl (lv_at hl 1 rfl) ?_
      refine r_bipush hx hb dX5_init_70 (by decide +kernel) ?_
      refine r_icmp_ge (tgt := 94) hx hb (by omega) (by omega) dX5_init_72 (by decide) (fun c1 => ?_) (fun c1 => ?_)
      · obtain rfl : i = 8 := by omega
        refine r_const hx hb dX5_init_94 ?_
        refine lv_istore_n hx hb dX5_init_95 rfl hl (by decide) rfl (fun ls hl => ?_)
        refine W.widen (k := 52 + 2 * 0) (n := 772 + 20 * 0) (by decide) (by decide) ?_
        exact loop3 _ 0 ad _ _ _ (by decide) (Nat.lt_succ_self _) ha hP hD hS (lv_sub hl [1, 0] rfl)
      · refine lv_aload_n hx hb dX5_init_75 rfl (lv_at hl 0 rfl) ?_
        refine r_get (C := RX5) (T := TX5) (N := 8) (ci := 5) (K := 45 + i) (key := 0) hx hb hts hi_X5 hown hK hP 1 rfl (by decide) lk_X5_19 (fun _ h9 => h9) dX5_init_76 (by omega) rfl rfl ?_
        refine lv_iload_n hx hb dX5_init_79 rfl (lv_at hl 1 rfl) ?_
        refine va_new (ci := 1) (fs := [.int (iI 0), .int (iI 0), .int (iI 0)]) (C := RX1) (T := TX1) (N := 3) hx hb hts hi_X1 tyX1 tyX1_ok hown (hts _ lq_X5_17) (hts _ lj_X1) (hts _ tn_X1) hK hP hD hS hA rfl (fun j hj => by rcases (show j = 0 ∨ j = 1 ∨ j = 2 by omega) with rfl | rfl | rfl <;> rfl) (by show 44 + i + 1 ≤ 172; omega) (by show 748 + 3 * i + 3 ≤ 1972; omega) dX5_init_80 (fun q H hPn hDn hS => ?_)
        refine lv_dup hx hb dX5_init_83 rfl ?_
        refine n_calN (ws := kw (45 + i) ad (TE G 40 i 0 ad)) (As := []) (rest := [.ref q, .int (iI (i : Int)), .ref (ad 2)]) hx hb hml hown hts hK hNX hPn hDn hS hA hl.1 i_X1 rfl (Nat.le_of_ble_eq_true rfl) ⟨va_cnB 0 hts (gT yX1_init cX1_init 1 none tc_X1_init) rfl rfl rfl hNX.2.2.2.2.2 (hts _ tn_X1) (by decide +kernel) ⟨Nat.le_of_ble_eq_true rfl, Nat.le_of_ble_eq_true rfl⟩, rfl, hts _ ti_X1_init⟩ rfl dX5_init_84 ⟨by show 44 + i + 1 + 0 ≤ 172; omega, by show 748 + 3 * i + 3 + 0 ≤ 1972; omega⟩ (fun bd H locs hq hP hD hS => ?_)
        subst hq
        rw [kw_jn] at hP hD
        have e0 : jn ad (45 + i) bd 0 = ad 0 := jn_l (by omega)
        have e1 : jn ad (45 + i) bd 2 = ad 2 := jn_l (by omega)
        have e2 : jn ad (45 + i) bd (45 + i) = bd 0 := by rw [jn_r (Nat.le_refl _), Nat.sub_self]
        have e3 : jn (TE G 40 i 0 ad) (45 + i) (IE1 G bd) (45 + i) = IE1 G bd 0 := by rw [jn_r (Nat.le_refl _), Nat.sub_self]
        have e4 : jn (TE G 40 i 0 ad) (45 + i) (IE1 G bd) 2 = TE G 40 i 0 ad 2 := jn_l (by omega)
        refine va_astq (r := (RX1, TX1, 3)) hx hb hK hP hD hS 2 3 (45 + i) 1 ((kw_get (by omega)).trans (by rw [e1, e4]; rfl)) rfl ((kw_get (by omega)).trans (by rw [e2, e3]; rfl)) rfl (iI_in (by omega) (by decide)) dX5_init_87 (fun H locs hP hD hS => ?_)
        rw [iI_clamp (by omega) (by omega), Int.toNat_natCast, ← e1, kw_set (by omega), kw_cg (fun k hk => ⟨rfl, TE_s2 (by omega) k hk⟩)] at hP hD
        refine r_iinc hx hb dX5_init_88 hl (k := 1) rfl (by decide) (fun ls hl => ?_)
        refine lv_goto (tgt := 69) hx hb dX5_init_91 (by decide) ?_
        rw [← e0] at hl
        rw [show (i : Int) + 1 = ((i + 1 : Nat) : Int) by omega] at hl
        refine W.widen (k := 44 + (i + 1)) (n := 748 + 3 * (i + 1)) (by omega) (by omega) ?_
        exact ih (i + 1) (jn ad (45 + i) bd) _ _ _ (by omega) (by omega) (e0.trans ha) hP hD hS (lv_sub hl [1, 0] rfl)
  have loop1 : ∀ (n i : Nat) (ad : Nat → Nat) (H : Heap) (locs : List Loc) (ls : Array Slot), i ≤ 40 → 40 - i < n → ad 0 = a0 → va_P D vwCl (kw (5 + i) ad (TE G i 0 0 ad)) H → va_D (iA a0 s.heap.size) (kw (5 + i) ad (TE G i 0 0 ad)) → va_S (iA a0 s.heap.size) s.heap H locs → lv_has ls 2 [(0, .ref (ad 0)), (1, .int (iI (i : Int)))] → W p l e riX5 s m (Value.ref a0 :: []).toArray below meth c H locs (4 + i) (508 + 6 * i) (MQ below (iQ D 173 (IE5 G) a0 s.heap.size) (Value.ref a0 :: []).toArray s 172 1972 (iA a0 s.heap.size)) (F0 m 42 ls []) := by
    intro n
    induction n with
    | zero => intro i ad H locs ls _ hn; omega
    | succ n ih =>
      intro i ad H locs ls hi hn ha hP hD hS hl
      refine lv_iload_n hx hb dX5_init_42 rfl (lv_at hl 1 rfl) ?_
      refine r_bipush hx hb dX5_init_43 (by decide +kernel) ?_
      refine r_icmp_ge (tgt := 67) hx hb (by omega) (by omega) dX5_init_45 (by decide) (fun c1 => ?_) (fun c1 => ?_)
      · obtain rfl : i = 40 := by omega
        refine r_const hx hb dX5_init_67 ?_
        refine lv_istore_n hx hb dX5_init_68 rfl hl (by decide) rfl (fun ls hl => ?_)
        refine W.widen (k := 44 + 0) (n := 748 + 3 * 0) (by decide) (by decide) ?_
        exact loop2 _ 0 ad _ _ _ (by decide) (Nat.lt_succ_self _) ha hP hD hS (lv_sub hl [1, 0] rfl)
      · refine lv_aload_n hx hb dX5_init_48 rfl (lv_at hl 0 rfl) ?_
        refine r_get (C := RX5) (T := TX5) (N := 8) (ci := 5) (K := 5 + i) (key := 0) hx hb hts hi_X5 hown hK hP 0 rfl (by decide) lk_X5_11 (fun _ h9 => h9) dX5_init_49 (by omega) rfl rfl ?_
        refine lv_iload_n hx hb dX5_init_52 rfl (lv_at hl 1 rfl) ?_
        refine va_new (ci := 2) (fs := [.int (iI 0), .int (iI 0), .int (iI 0), .int (iI 0), .int (iI 0), .int (iI 0)]) (C := RX2) (T := TX2) (N := 6) hx hb hts hi_X2 tyX2 tyX2_ok hown (hts _ lq_X5_9) (hts _ lj_X2) (hts _ tn_X2) hK hP hD hS hA rfl (fun j hj => by rcases (show j = 0 ∨ j = 1 ∨ j = 2 ∨ j = 3 ∨ j = 4 ∨ j = 5 by omega) with rfl | rfl | rfl | rfl | rfl | rfl <;> rfl) (by show 4 + i + 1 ≤ 172; omega) (by show 508 + 6 * i + 6 ≤ 1972; omega) dX5_init_53 (fun q H hPn hDn hS => ?_)
        refine lv_dup hx hb dX5_init_56 rfl ?_
        refine n_calN (ws := kw (5 + i) ad (TE G i 0 0 ad)) (As := []) (rest := [.ref q, .int (iI (i : Int)), .ref (ad 1)]) hx hb hml hown hts hK hNX hPn hDn hS hA hl.1 i_X2 rfl (Nat.le_of_ble_eq_true rfl) ⟨va_cnB 0 hts (gT yX2_init cX2_init 1 none tc_X2_init) rfl rfl rfl hNX.2.2.2.2.1 (hts _ tn_X2) (by decide +kernel) ⟨Nat.le_of_ble_eq_true rfl, Nat.le_of_ble_eq_true rfl⟩, rfl, hts _ ti_X2_init⟩ rfl dX5_init_57 ⟨by show 4 + i + 1 + 0 ≤ 172; omega, by show 508 + 6 * i + 6 + 0 ≤ 1972; omega⟩ (fun bd H locs hq hP hD hS => ?_)
        subst hq
        rw [kw_jn] at hP hD
        have e0 : jn ad (5 + i) bd 0 = ad 0 := jn_l (by omega)
        have e1 : jn ad (5 + i) bd 1 = ad 1 := jn_l (by omega)
        have e2 : jn ad (5 + i) bd (5 + i) = bd 0 := by rw [jn_r (Nat.le_refl _), Nat.sub_self]
        have e3 : jn (TE G i 0 0 ad) (5 + i) (IE2 G bd) (5 + i) = IE2 G bd 0 := by rw [jn_r (Nat.le_refl _), Nat.sub_self]
        have e4 : jn (TE G i 0 0 ad) (5 + i) (IE2 G bd) 1 = TE G i 0 0 ad 1 := jn_l (by omega)
        refine va_astq (r := (RX2, TX2, 6)) hx hb hK hP hD hS 1 4 (5 + i) 2 ((kw_get (by omega)).trans (by rw [e1, e4]; rfl)) rfl ((kw_get (by omega)).trans (by rw [e2, e3]; rfl)) rfl (iI_in (by omega) (by decide)) dX5_init_60 (fun H locs hP hD hS => ?_)
        rw [iI_clamp (by omega) (by omega), Int.toNat_natCast, ← e1, kw_set (by omega), kw_cg (fun k hk => ⟨rfl, TE_s1 (by omega) k hk⟩)] at hP hD
        refine r_iinc hx hb dX5_init_61 hl (k := 1) rfl (by decide) (fun ls hl => ?_)
        refine lv_goto (tgt := 42) hx hb dX5_init_64 (by decide) ?_
        rw [← e0] at hl
        rw [show (i : Int) + 1 = ((i + 1 : Nat) : Int) by omega] at hl
        refine W.widen (k := 4 + (i + 1)) (n := 508 + 6 * (i + 1)) (by omega) (by omega) ?_
        exact ih (i + 1) (jn ad (5 + i) bd) _ _ _ (by omega) (by omega) (e0.trans ha) hP hD hS (lv_sub hl [1, 0] rfl)
  refine lv_aload_n hx hb dX5_init_0 rfl (lv_at hl 0 rfl) ?_
  refine W.objInit hx hb hown (hts _ lo_X5) (hts _ oi_inst) (hts _ oi_code) rfl (by rw [hml]; exact hl.1) rfl dX5_init_1 (Nat.le_of_ble_eq_true rfl) (Nat.le_of_ble_eq_true rfl) ?_
  refine W.eq (g2 := F0 m 4 ls []) rfl ?_
  refine lv_aload_n hx hb dX5_init_4 rfl (lv_at hl 0 rfl) ?_
  refine r_bipush hx hb dX5_init_5 (by decide +kernel) ?_
  refine va_newq (C := RX2) (N' := 40) hx hb hown (hts _ lq_X5_9) hNX.1 hK hP hD hS hA (by decide +kernel) (by decide +kernel) (by decide) (Nat.le_of_ble_eq_true rfl) (Nat.le_of_ble_eq_true rfl) dX5_init_7 (fun q1 cA H hK2 hP hD hS => ?_)
  obtain rfl : cA = G 4 := ty_eq 4 rfl hK2
  clear hK2
  refine W.widen (k := 1) (n := 40) (by decide) (by decide) ?_
  replace hP : va_P D vwCl [(a0, .inr (5, [.null, .null, .null, .null, .int (iI 0), .int (iI 0), .int (iI 0), .int (iI 0)])), (q1, .inl (G 4, 40, .inr (.inr (.inr (.inr (fun _ => none))))))] H := hP
  replace hD : va_D (iA a0 s.heap.size) [(a0, .inr (5, [.null, .null, .null, .null, .int (iI 0), .int (iI 0), .int (iI 0), .int (iI 0)])), (q1, .inl (G 4, 40, .inr (.inr (.inr (.inr (fun _ => none))))))] := hD
  refine va_putF (ci := 5) (v := .ref q1) (ty := (.array (.object "RoadWorks$Piece"))) (C := RX5) (T := TX5) (N := 8) hx hb hts hi_X5 tyX5 tyX5_ok nmX5 hown hK hP hD hS 0 rfl rfl 0 (by decide) (hts _ lk_X5_11) (fun _ h9 => h9) rfl hin rfl (by decide +kernel) rfl rfl (Nat.le_of_ble_eq_true rfl) dX5_init_10 (fun H locs hP hD hS => ?_)
  replace hP : va_P D vwCl [(a0, .inr (5, [.ref q1, .null, .null, .null, .int (iI 0), .int (iI 0), .int (iI 0), .int (iI 0)])), (q1, .inl (G 4, 40, .inr (.inr (.inr (.inr (fun _ => none))))))] H := hP
  replace hD : va_D (iA a0 s.heap.size) [(a0, .inr (5, [.ref q1, .null, .null, .null, .int (iI 0), .int (iI 0), .int (iI 0), .int (iI 0)])), (q1, .inl (G 4, 40, .inr (.inr (.inr (.inr (fun _ => none))))))] := hD
  refine lv_aload_n hx hb dX5_init_13 rfl (lv_at hl 0 rfl) ?_
  refine r_bipush hx hb dX5_init_14 (by decide +kernel) ?_
  refine va_newq (C := RX1) (N' := 8) hx hb hown (hts _ lq_X5_17) hNX.2.1 hK hP hD hS hA (by decide +kernel) (by decide +kernel) (by decide) (Nat.le_of_ble_eq_true rfl) (Nat.le_of_ble_eq_true rfl) dX5_init_16 (fun q2 cA H hK2 hP hD hS => ?_)
  obtain rfl : cA = G 3 := ty_eq 3 rfl hK2
  clear hK2
  refine W.widen (k := 2) (n := 48) (by decide) (by decide) ?_
  replace hP : va_P D vwCl [(a0, .inr (5, [.ref q1, .null, .null, .null, .int (iI 0), .int (iI 0), .int (iI 0), .int (iI 0)])), (q1, .inl (G 4, 40, .inr (.inr (.inr (.inr (fun _ => none)))))), (q2, .inl (G 3, 8, .inr (.inr (.inr (.inr (fun _ => none))))))] H := hP
  replace hD : va_D (iA a0 s.heap.size) [(a0, .inr (5, [.ref q1, .null, .null, .null, .int (iI 0), .int (iI 0), .int (iI 0), .int (iI 0)])), (q1, .inl (G 4, 40, .inr (.inr (.inr (.inr (fun _ => none)))))), (q2, .inl (G 3, 8, .inr (.inr (.inr (.inr (fun _ => none))))))] := hD
  refine va_putF (ci := 5) (v := .ref q2) (ty := (.array (.object "RoadWorks$Pair"))) (C := RX5) (T := TX5) (N := 8) hx hb hts hi_X5 tyX5 tyX5_ok nmX5 hown hK hP hD hS 0 rfl rfl 1 (by decide) (hts _ lk_X5_19) (fun _ h9 => h9) rfl hin rfl (by decide +kernel) rfl rfl (Nat.le_of_ble_eq_true rfl) dX5_init_19 (fun H locs hP hD hS => ?_)
  replace hP : va_P D vwCl [(a0, .inr (5, [.ref q1, .ref q2, .null, .null, .int (iI 0), .int (iI 0), .int (iI 0), .int (iI 0)])), (q1, .inl (G 4, 40, .inr (.inr (.inr (.inr (fun _ => none)))))), (q2, .inl (G 3, 8, .inr (.inr (.inr (.inr (fun _ => none))))))] H := hP
  replace hD : va_D (iA a0 s.heap.size) [(a0, .inr (5, [.ref q1, .ref q2, .null, .null, .int (iI 0), .int (iI 0), .int (iI 0), .int (iI 0)])), (q1, .inl (G 4, 40, .inr (.inr (.inr (.inr (fun _ => none)))))), (q2, .inl (G 3, 8, .inr (.inr (.inr (.inr (fun _ => none))))))] := hD
  refine lv_aload_n hx hb dX5_init_22 rfl (lv_at hl 0 rfl) ?_
  refine r_bipush hx hb dX5_init_23 (by decide +kernel) ?_
  refine va_newq (C := RX7) (N' := 60) hx hb hown (hts _ lq_X5_23) hNX.2.2.1 hK hP hD hS hA (by decide +kernel) (by decide +kernel) (by decide) (Nat.le_of_ble_eq_true rfl) (Nat.le_of_ble_eq_true rfl) dX5_init_25 (fun q3 cA H hK2 hP hD hS => ?_)
  obtain rfl : cA = G 5 := ty_eq 5 rfl hK2
  clear hK2
  refine W.widen (k := 3) (n := 108) (by decide) (by decide) ?_
  replace hP : va_P D vwCl [(a0, .inr (5, [.ref q1, .ref q2, .null, .null, .int (iI 0), .int (iI 0), .int (iI 0), .int (iI 0)])), (q1, .inl (G 4, 40, .inr (.inr (.inr (.inr (fun _ => none)))))), (q2, .inl (G 3, 8, .inr (.inr (.inr (.inr (fun _ => none)))))), (q3, .inl (G 5, 60, .inr (.inr (.inr (.inr (fun _ => none))))))] H := hP
  replace hD : va_D (iA a0 s.heap.size) [(a0, .inr (5, [.ref q1, .ref q2, .null, .null, .int (iI 0), .int (iI 0), .int (iI 0), .int (iI 0)])), (q1, .inl (G 4, 40, .inr (.inr (.inr (.inr (fun _ => none)))))), (q2, .inl (G 3, 8, .inr (.inr (.inr (.inr (fun _ => none)))))), (q3, .inl (G 5, 60, .inr (.inr (.inr (.inr (fun _ => none))))))] := hD
  refine va_putF (ci := 5) (v := .ref q3) (ty := (.array (.object "RoadWorks$Work"))) (C := RX5) (T := TX5) (N := 8) hx hb hts hi_X5 tyX5 tyX5_ok nmX5 hown hK hP hD hS 0 rfl rfl 2 (by decide) (hts _ lk_X5_25) (fun _ h9 => h9) rfl hin rfl (by decide +kernel) rfl rfl (Nat.le_of_ble_eq_true rfl) dX5_init_28 (fun H locs hP hD hS => ?_)
  replace hP : va_P D vwCl [(a0, .inr (5, [.ref q1, .ref q2, .ref q3, .null, .int (iI 0), .int (iI 0), .int (iI 0), .int (iI 0)])), (q1, .inl (G 4, 40, .inr (.inr (.inr (.inr (fun _ => none)))))), (q2, .inl (G 3, 8, .inr (.inr (.inr (.inr (fun _ => none)))))), (q3, .inl (G 5, 60, .inr (.inr (.inr (.inr (fun _ => none))))))] H := hP
  replace hD : va_D (iA a0 s.heap.size) [(a0, .inr (5, [.ref q1, .ref q2, .ref q3, .null, .int (iI 0), .int (iI 0), .int (iI 0), .int (iI 0)])), (q1, .inl (G 4, 40, .inr (.inr (.inr (.inr (fun _ => none)))))), (q2, .inl (G 3, 8, .inr (.inr (.inr (.inr (fun _ => none)))))), (q3, .inl (G 5, 60, .inr (.inr (.inr (.inr (fun _ => none))))))] := hD
  refine lv_aload_n hx hb dX5_init_31 rfl (lv_at hl 0 rfl) ?_
  refine r_sipush hx hb dX5_init_32 (by decide +kernel) ?_
  refine va_newa (atype := .boolean) (N' := 400) (a0 := (400, .inl (fun _ => iI 0))) hx hb (hts _ ac_boolean) rfl hK hP hD hS hA (fun _ => rfl) (by decide +kernel) (by decide +kernel) (by decide) (Nat.le_of_ble_eq_true rfl) (Nat.le_of_ble_eq_true rfl) dX5_init_35 (fun q4 cA H hK2 hP hD hS => ?_)
  obtain rfl : cA = G 2 := ty_eq 2 rfl hK2
  clear hK2
  refine W.widen (k := 4) (n := 508) (by decide) (by decide) ?_
  replace hP : va_P D vwCl [(a0, .inr (5, [.ref q1, .ref q2, .ref q3, .null, .int (iI 0), .int (iI 0), .int (iI 0), .int (iI 0)])), (q1, .inl (G 4, 40, .inr (.inr (.inr (.inr (fun _ => none)))))), (q2, .inl (G 3, 8, .inr (.inr (.inr (.inr (fun _ => none)))))), (q3, .inl (G 5, 60, .inr (.inr (.inr (.inr (fun _ => none)))))), (q4, .inl (G 2, 400, .inl (fun _ => iI 0)))] H := hP
  replace hD : va_D (iA a0 s.heap.size) [(a0, .inr (5, [.ref q1, .ref q2, .ref q3, .null, .int (iI 0), .int (iI 0), .int (iI 0), .int (iI 0)])), (q1, .inl (G 4, 40, .inr (.inr (.inr (.inr (fun _ => none)))))), (q2, .inl (G 3, 8, .inr (.inr (.inr (.inr (fun _ => none)))))), (q3, .inl (G 5, 60, .inr (.inr (.inr (.inr (fun _ => none)))))), (q4, .inl (G 2, 400, .inl (fun _ => iI 0)))] := hD
  refine va_putF (ci := 5) (v := .ref q4) (ty := (.array .boolean)) (C := RX5) (T := TX5) (N := 8) hx hb hts hi_X5 tyX5 tyX5_ok nmX5 hown hK hP hD hS 0 rfl rfl 3 (by decide) (hts _ lk_X5_29) (fun _ h9 => h9) rfl hin rfl (by decide +kernel) rfl rfl (Nat.le_of_ble_eq_true rfl) dX5_init_37 (fun H locs hP hD hS => ?_)
  replace hP : va_P D vwCl [(a0, .inr (5, [.ref q1, .ref q2, .ref q3, .ref q4, .int (iI 0), .int (iI 0), .int (iI 0), .int (iI 0)])), (q1, .inl (G 4, 40, .inr (.inr (.inr (.inr (fun _ => none)))))), (q2, .inl (G 3, 8, .inr (.inr (.inr (.inr (fun _ => none)))))), (q3, .inl (G 5, 60, .inr (.inr (.inr (.inr (fun _ => none)))))), (q4, .inl (G 2, 400, .inl (fun _ => iI 0)))] H := hP
  replace hD : va_D (iA a0 s.heap.size) [(a0, .inr (5, [.ref q1, .ref q2, .ref q3, .ref q4, .int (iI 0), .int (iI 0), .int (iI 0), .int (iI 0)])), (q1, .inl (G 4, 40, .inr (.inr (.inr (.inr (fun _ => none)))))), (q2, .inl (G 3, 8, .inr (.inr (.inr (.inr (fun _ => none)))))), (q3, .inl (G 5, 60, .inr (.inr (.inr (.inr (fun _ => none)))))), (q4, .inl (G 2, 400, .inl (fun _ => iI 0)))] := hD
  refine r_const hx hb dX5_init_40 ?_
  refine lv_istore_n hx hb dX5_init_41 rfl hl (by decide) rfl (fun ls hl => ?_)
  have hE : kw (5 + 0) (adL [a0, q1, q2, q3, q4]) (TE G 0 0 0 (adL [a0, q1, q2, q3, q4])) = [(a0, .inr (5, [.ref q1, .ref q2, .ref q3, .ref q4, .int (iI 0), .int (iI 0), .int (iI 0), .int (iI 0)])), (q1, .inl (G 4, 40, .inr (.inr (.inr (.inr (fun _ => none)))))), (q2, .inl (G 3, 8, .inr (.inr (.inr (.inr (fun _ => none)))))), (q3, .inl (G 5, 60, .inr (.inr (.inr (.inr (fun _ => none)))))), (q4, .inl (G 2, 400, .inl (fun _ => iI 0)))] := by simp [kw, List.range, List.range.loop, TE, adL]
  rw [← hE] at hP hD
  refine W.widen (k := 4 + 0) (n := 508 + 6 * 0) (by decide) (by decide) ?_
  exact loop1 _ 0 (adL [a0, q1, q2, q3, q4]) _ _ _ (by decide) (Nat.lt_succ_self _) rfl hP hD hS (lv_sub hl [1, 0] rfl)
