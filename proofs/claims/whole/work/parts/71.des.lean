/-! what a person wishes: class and model -/
def ltS (v : Wd) (sz wo : Nat → Nat) (p q st i : Nat) : Int32 := if i = 0 then nI (wo q) else if i = 1 then nI (sz q) - nI (v.it p 0) else if i = 2 then nI (v.it p 0) else if i = 3 then (if p = q then 1 else 0) else if i = 4 then nI st else nI q
def rlV (v : Wd) (sz wo : Nat → Nat) (p q st : Nat) : Int32 := vmL (ltS v sz wo p q st) false (cods (v.cl (v.ro p).toNatClampNeg) (v.co (v.ro p).toNatClampNeg)) []
def pos0 (x : Int32) : Int32 := if 0 < x then x else 0
def dsr (v : Wd) (sz wo : Nat → Nat) (p q st : Nat) : Int32 := if v.ro p = -1 then (if fitS v p (sz q) = true then nI (wo q + 1) else 0) else pos0 (rlV v sz wo p q st)
def szB (v : Wd) (sz wo : Nat → Nat) : Prop := ∀ q, q < v.n → sz q ≤ 50 ∧ wo q ≤ 99
def rO (v : Wd) : Prop := v.rc ≤ 4 ∧ (∀ p, p < v.n → v.ro p = -1 ∨ ∃ r, r < v.rc ∧ v.ro p = nI r) ∧ ∀ r, r < v.rc → v.cl r ≤ 161 ∧ ∀ j, j < v.cl r → v.co r j < 10006
def cF (v : Wd) (sz wo : Nat → Nat) (h : AH) : Prop := cP v h ∧ rO v ∧ szB v sz wo ∧ (∀ p, p < v.n → h.1 5 p = v.ro p) ∧ (∀ r, r < v.rc → h.1 (12 + 3 * r) 2 = nI (v.cl r) ∧ ∀ j, j < v.cl r → h.1 (13 + 3 * r) j = v.co r j) ∧ ∀ q, q < v.n → h.1 36 q = nI (sz q) ∧ h.1 37 q = nI (wo q)
def mG (v : Wd) (sz wo : Nat → Nat) (h : AH) : Prop := mP v h ∧ rO v ∧ szB v sz wo ∧ (∀ p, p < v.n → h.1 66 p = v.ro p) ∧ (∀ r, r < v.rc → RulOk (v.cl r) (v.co r) (h.1 59 r) (h.1 58) (160 * r)) ∧ ∀ q, q < v.n → h.1 64 q = nI (sz q) ∧ h.1 65 q = nI (wo q)
def STc : List (Nat × Nat) := (3, 2) :: (4, 1000) :: (5, 1000) :: (12, 2) :: (15, 2) :: (18, 2) :: (21, 2) :: (13, 1000) :: (16, 1000) :: (19, 1000) :: (22, 1000) :: (36, 1000) :: (37, 1000) :: []
def STm : List (Nat × Nat) := (56, 20) :: (58, 1000) :: (59, 1000) :: (61, 1000) :: (64, 1000) :: (65, 1000) :: (66, 1000) :: []
theorem cF_eq {v : Wd} {sz wo : Nat → Nat} {h0 h : AH} (e : EqOn STc h0 h) (F : cF v sz wo h0) : cF v sz wo h := by
  have hr : ∀ r, r < 4 → h.1 (12 + 3 * r) 2 = h0.1 (12 + 3 * r) 2 ∧ h.1 (13 + 3 * r) = h0.1 (13 + 3 * r) := by
    intro r hr
    match r, hr with
    | 0, _ => exact ⟨e _ _ rfl, eqOn_c e _ (fun j => rfl)⟩
    | 1, _ => exact ⟨e _ _ rfl, eqOn_c e _ (fun j => rfl)⟩
    | 2, _ => exact ⟨e _ _ rfl, eqOn_c e _ (fun j => rfl)⟩
    | 3, _ => exact ⟨e _ _ rfl, eqOn_c e _ (fun j => rfl)⟩
  obtain ⟨F1, F2, F3, F4, F5, F6⟩ := F
  unfold cF cP
  rw [e 3 2 rfl, eqOn_c e 4 (fun _ => rfl), eqOn_c e 5 (fun _ => rfl), eqOn_c e 36 (fun _ => rfl), eqOn_c e 37 (fun _ => rfl)]
  refine ⟨F1, F2, F3, F4, fun r q => ?_, F6⟩
  have h4 := F2.1
  rw [(hr r (by omega)).1, (hr r (by omega)).2]
  exact F5 r q
theorem mG_eq {v : Wd} {sz wo : Nat → Nat} {h0 h : AH} (e : EqOn STm h0 h) (F : mG v sz wo h0) : mG v sz wo h := by
  unfold mG mP at F ⊢
  rw [e 56 20 rfl, eqOn_c e 58 (fun _ => rfl), eqOn_c e 59 (fun _ => rfl), eqOn_c e 61 (fun _ => rfl), eqOn_c e 64 (fun _ => rfl), eqOn_c e 65 (fun _ => rfl), eqOn_c e 66 (fun _ => rfl)]
  exact F
theorem rul_sim {cl : Nat} {co : Nat → Int32} {hm : AH} {r : Nat} (hr : r < 4) (ok : RulOk cl co (hm.1 59 r) (hm.1 58) (160 * r)) {lt : Nat → Int32} (hlt : ∀ i, i < 6 → hm.1 60 (lch i) = lt i) : (cl ≤ 161 ∧ ∀ j, j < cl → co j < 10006) ∧ ∃ hm', f_X12_goThrough 56 58 (nI (160 * r)) (hm.1 59 r) hm = some hm' ∧ (LB lt → hm'.1 56 14 = vmL lt false (cods cl co) []) := by
  obtain ⟨g, g', L, t, hL, hcl, e1, e2, tx, e3, e4, e5⟩ := ok
  have my : mY t L 58 (160 * r) hm := ⟨hL, fun j hj => ⟨(tx j hj).1, (tx j hj).2.1⟩, ⟨rfl, by decide, by decide, by decide⟩, by rw [an_58]; omega, by rw [an_58]; omega, fun j hj => (tx j hj).2.2.2⟩
  obtain ⟨x, hc', hm', rem, i1, i2, i3, i4, i5⟩ := sim_read (fun j hj => (tx j hj).2.2.1) e2 my hlt
  rw [e1] at i1
  have i1' := Option.some.inj i1
  have ex : x = -1 := (congrArg Prod.fst i1').symm
  have eg : hc' = g' := (congrArg Prod.snd i1').symm
  obtain ⟨j1, j2, j3, j4⟩ := i5 ex
  rw [eg] at j1
  have len : rem.length = cl := by
    have := j1.1
    rw [e4] at this
    exact ((nI_eq (by omega) (by omega)).mp this).symm
  have er : rem = cods cl co := by
    refine List.ext_getElem (by rw [cods_len, len]) (fun i h1 h2 => ?_)
    have := j1.2 i h1
    rw [e5 i (by omega)] at this
    simp only [cods, List.getElem_map, List.getElem_range]
    rw [this]
    simp [List.getD_eq_getElem?_getD, h1]
  refine ⟨⟨hcl, fun j hj => ?_⟩, hm', by rw [e3]; exact i2, fun B => by rw [j4 B, er]⟩
  refine j3 _ ?_
  rw [er]
  exact List.mem_map.mpr ⟨j, List.mem_range.mpr hj, rfl⟩
theorem RelV.rO {v : Wd} {h : AH} (R : RelV v h) : rO v := ⟨R.rc4, fun p hp => R.rb hp, fun r hr => (rul_sim (hm := h) (lt := fun i => h.1 60 (lch i)) (by have := R.rc4; omega) (R.2.2.2.1.2.2.2 r hr).2.2 (fun _ _ => rfl)).1⟩
theorem RelV.mG {v : Wd} {h : AH} (R : RelV v h) : mG v (fun q => v.it q 3) v.wo h := ⟨R.mP, R.rO, fun q hq => ⟨(R.ib hq (i := 3) (by omega)).2, R.wb hq⟩, fun p hp => R.mr hp, fun r hr => (R.2.2.2.1.2.2.2 r hr).2.2, fun q hq => ⟨R.ms hq, R.mw hq⟩⟩
theorem ltS_b {v : Wd} {sz wo : Nat → Nat} (B : vB v) (Z : szB v sz wo) {p q st : Nat} (hp : p < v.n) (hq : q < v.n) (hs : st < 7) : LB (ltS v sz wo p q st) := by
  have b0 : v.it p 0 ≤ 50 := (B.2 p hp 0 (by omega)).2
  have z := Z q hq
  have hn := B.1
  intro i hi
  unfold ltS
  split
  · exact bdd_n (by omega)
  · split
    · unfold bdd
      have : (nI (sz q) - nI (v.it p 0)).toInt = (sz q : Int) - (v.it p 0 : Nat) := pk_sub_toInt (by omega) (by omega)
      rw [this]
      omega
    · split
      · exact bdd_n (by omega)
      · split
        · split
          · exact bdd_n (v := 1) (by omega)
          · exact bdd_n (v := 0) (by omega)
        · split
          · exact bdd_n (by omega)
          · exact bdd_n (by omega)
theorem pos0_nn (x : Int32) : ¬ pos0 x < 0 := by
  unfold pos0
  split
  · rename_i h
    intro q
    rw [Int32.lt_iff_toInt_lt] at h q
    omega
  · decide
theorem dsr_nn {v : Wd} {sz wo : Nat → Nat} (Z : szB v sz wo) {p q st : Nat} (hq : q < v.n) : ¬ dsr v sz wo p q st < 0 := by
  have z := Z q hq
  unfold dsr
  split
  · split
    · exact nI_pos (by omega)
    · decide
  · exact pos0_nn _
theorem dsr_ne {v : Wd} {sz wo : Nat → Nat} (Z : szB v sz wo) {p q st : Nat} (hq : q < v.n) : ¬ dsr v sz wo p q st = -2 := fun e => dsr_nn Z (p := p) (st := st) hq (by rw [e]; decide)
theorem cP_40 {v : Wd} {h : AH} {j : Nat} {x : Int32} (R : cP v h) : cP v (sI h 40 j x) := ⟨R.1, R.2.1, R.2.2⟩
theorem mP_60 {v : Wd} {h : AH} {j : Nat} {x : Int32} (R : mP v h) : mP v (sI h 60 j x) := ⟨R.1, R.2.1, R.2.2⟩
theorem e_item0 {v : Wd} {h : AH} (R : cP v h) {p : Nat} (hp : p < v.n) : f_X6_item 3 (nI p) 0 h = some (nI (v.it p 0), h) := e_X6_item R hp (i := 0) (by omega)
theorem e_part0 {v : Wd} {h : AH} (R : mP v h) {p : Nat} (hp : p < v.n) : f_X12_partOf 56 (nI p) 0 h = some (nI (v.it p 0), h) := e_X12_partOf R hp (i := 0) (by omega)
theorem lo0 {R : Type} {k : Option R} : og (ix 0 6) k = k := og_t (by decide)
theorem lo1 {R : Type} {k : Option R} : og (ix 1 6) k = k := og_t (by decide)
theorem lo2 {R : Type} {k : Option R} : og (ix 2 6) k = k := og_t (by decide)
theorem lo3 {R : Type} {k : Option R} : og (ix 3 6) k = k := og_t (by decide)
theorem lo4 {R : Type} {k : Option R} : og (ix 4 6) k = k := og_t (by decide)
theorem lo5 {R : Type} {k : Option R} : og (ix 5 6) k = k := og_t (by decide)
theorem lm119 {R : Type} {k : Option R} : og (ix 119 128) k = k := og_t (by decide)
theorem lm102 {R : Type} {k : Option R} : og (ix 102 128) k = k := og_t (by decide)
theorem lm115 {R : Type} {k : Option R} : og (ix 115 128) k = k := og_t (by decide)
theorem lm111 {R : Type} {k : Option R} : og (ix 111 128) k = k := og_t (by decide)
theorem lm110 {R : Type} {k : Option R} : og (ix 110 128) k = k := og_t (by decide)
theorem lm112 {R : Type} {k : Option R} : og (ix 112 128) k = k := og_t (by decide)
theorem lc0 : (0 : Int32).toNatClampNeg = 0 := by decide
theorem lc1 : (1 : Int32).toNatClampNeg = 1 := by decide
theorem lc2 : (2 : Int32).toNatClampNeg = 2 := by decide
theorem lc3 : (3 : Int32).toNatClampNeg = 3 := by decide
theorem lc4 : (4 : Int32).toNatClampNeg = 4 := by decide
theorem lc5 : (5 : Int32).toNatClampNeg = 5 := by decide
theorem ld119 : (119 : Int32).toNatClampNeg = 119 := by decide
theorem ld102 : (102 : Int32).toNatClampNeg = 102 := by decide
theorem ld115 : (115 : Int32).toNatClampNeg = 115 := by decide
theorem ld111 : (111 : Int32).toNatClampNeg = 111 := by decide
theorem ld110 : (110 : Int32).toNatClampNeg = 110 := by decide
theorem ld112 : (112 : Int32).toNatClampNeg = 112 := by decide
def s6 (h : AH) (a0 a1 a2 a3 a4 a5 : Int32) : AH := sI (sI (sI (sI (sI (sI h 40 0 a0) 40 1 a1) 40 2 a2) 40 3 a3) 40 4 a4) 40 5 a5
theorem s6_n {h : AH} {a0 a1 a2 a3 a4 a5 : Int32} {k : Nat} (hk : k ≠ 40) : (s6 h a0 a1 a2 a3 a4 a5).1 k = h.1 k := by
  funext b
  simp [s6, sI, hk]
def t6 (h : AH) (a0 a1 a2 a3 a4 a5 : Int32) : AH := sI (sI (sI (sI (sI (sI h 60 119 a0) 60 102 a1) 60 115 a2) 60 111 a3) 60 110 a4) 60 112 a5
theorem t6_n {h : AH} {a0 a1 a2 a3 a4 a5 : Int32} {k : Nat} (hk : k ≠ 60) : (t6 h a0 a1 a2 a3 a4 a5).1 k = h.1 k := by
  funext b
  simp [t6, sI, hk]
theorem rf11 : ∀ r, r < 4 → rf 11 r = 12 + 3 * r := by decide
theorem kR11 : ∀ r, r < 4 → kR (12 + 3 * r) := by
  intro r hr
  unfold kR
  omega
/-- the class's wish, without its table -/
theorem e_des_val {v : Wd} {sz wo : Nat → Nat} {h : AH} (F : cF v sz wo h) {p q st : Nat} (hp : p < v.n) (hq : q < v.n) (hs : st < 7) {r : Nat} (hr : r < v.rc) (er : v.ro p = nI r) : ∃ h9, f_X7_value (12 + 3 * r) 40 (s6 h (nI (wo q)) (nI (sz q) - nI (v.it p 0)) (nI (v.it p 0)) (if p = q then 1 else 0) (nI st) (nI q)) = some (rlV v sz wo p q st, h9) ∧ h9.1 38 = h.1 38 ∧ h9.1 39 = h.1 39 := by
  obtain ⟨F1, ⟨rO1, rO2, rO3⟩, F3, F4, F5, F6⟩ := id F
  generalize hg : s6 h (nI (wo q)) (nI (sz q) - nI (v.it p 0)) (nI (v.it p 0)) (if p = q then 1 else 0) (nI st) (nI q) = g
  have hr4 : r < 4 := by omega
  have sv : Stv (12 + 3 * r) (v.cl r) (v.co r) (ltS v sz wo p q st) g := by
    rw [← hg]
    refine ⟨?_, fun j hj => ?_, fun i hi => ?_⟩
    · rw [s6_n (by omega)]
      exact (F5 r hr).1
    · rw [s6_n (by omega), show 12 + 3 * r + 1 = 13 + 3 * r by omega]
      exact (F5 r hr).2 j hj
    · match i, hi with
      | 0, _ => rfl
      | 1, _ => rfl
      | 2, _ => rfl
      | 3, _ => rfl
      | 4, _ => rfl
      | 5, _ => rfl
  obtain ⟨h9, e9⟩ := e_value (kR11 r hr4) (rO3 r hr).1 (rO3 r hr).2 sv
  have ec : (v.ro p).toNatClampNeg = r := by rw [er, nI_clamp (by omega)]
  have fr := w_f_X7_value (j := nI r) (h := g) (by rw [an_11]; exact ixn hr4 (by omega))
  rw [nI_clamp (by omega), rf11 r hr4] at fr
  have ag := fr _ e9
  refine ⟨h9, ?_, ?_, ?_⟩
  · rw [e9]
    unfold rlV
    rw [ec]
  · rw [agr_cell ag 38 rfl, ← hg, s6_n (by decide)]
  · rw [agr_cell ag 39 rfl, ← hg, s6_n (by decide)]
theorem e_des0 {v : Wd} {sz wo : Nat → Nat} {h : AH} (F : cF v sz wo h) {p q st : Nat} (hp : p < v.n) (hq : q < v.n) (hs : st < 7) (c : h.1 38 ((p * 6 + q) * 7 + st) = -2) : ∃ h9, f_X2_desire 35 (nI p) (nI q) (nI st) h = some (dsr v sz wo p q st, sI h9 38 ((p * 6 + q) * 7 + st) (dsr v sz wo p q st)) ∧ h9.1 38 = h.1 38 ∧ h9.1 39 = h.1 39 := by
  obtain ⟨F1, ⟨rO1, rO2, rO3⟩, F3, F4, F5, F6⟩ := id F
  have hn := F1.1.1
  have z := F3 q hq
  unfold f_X2_desire
  simp (disch := omega) only [nm_id, k_mul, k_mul', k_add, k_le, k_le', k_lt, k_lt', k_eq, n_le, n_lt, n_eq, n_m1, nI_add, pk_mul, rv_0_0, rv_0_1, rv_0_2, rv_0_3, rv_0_4, rv_0_6, rv_0_7, rv_0_9, rv_0_10, rv_0_11, rv_0_12, rv_0_13, rv_0_14, rv_1_0, an_2, rv_3_0, rv_3_1, an_4, an_5, rv_6_0, rv_6_1, an_7, an_8, rv_9_0, rv_9_1, an_10, an_11, rv_12_0, rv_12_1, an_13, an_14, rv_15_0, rv_15_1, an_16, an_17, rv_18_0, rv_18_1, an_19, an_20, rv_21_0, rv_21_1, an_22, an_23, rv_24_0, rv_24_1, rv_24_2, an_25, an_26, an_27, rv_28_0, rv_28_1, rv_28_2, an_29, an_30, an_31, rv_32_0, rv_32_1, an_33, an_34, rv_35_0, rv_35_1, rv_35_2, rv_35_3, rv_35_4, rv_35_5, rv_35_6, an_36, an_37, an_38, an_39, an_40, rv_41_0, rv_41_1, rv_41_3, rv_41_4, rv_41_5, an_42, an_43, an_44, an_45, rv_46_0, rv_46_1, rv_46_2, rv_46_3, rv_46_4, rv_46_6, an_47, an_48, rv_49_0, rv_49_1, an_50, rv_51_0, rv_51_1, rv_51_2, rv_51_3, rv_51_4, rv_51_6, rv_51_7, an_52, an_53, an_54, an_55, rv_56_1, rv_56_2, rv_56_3, rv_56_4, rv_56_15, rv_56_16, rv_56_17, rv_56_19, rv_56_22, rv_56_23, rv_56_24, rv_56_25, rv_56_26, rv_56_27, rv_56_28, rv_56_31, rv_56_33, rv_56_35, rv_56_36, rv_56_37, rv_56_39, rv_56_40, rv_56_41, rv_56_42, rv_56_43, rv_56_44, rv_56_46, rv_56_47, rv_56_48, rv_56_49, rv_56_51, rv_56_52, rv_56_54, an_57, an_58, an_59, an_60, an_61, an_62, an_63, an_64, an_65, an_66, an_67, an_68, an_69, an_70, an_71, an_72, an_73, an_74, an_75, an_76, an_77, an_78, an_79, an_80, an_81, an_82, an_83, an_84, an_85, an_86, an_87, og_ix, nI_clamp, c, if_true, F4 p hp]
  rcases rO2 p hp with r0 | ⟨r, hr, er⟩
  · rw [if_pos r0, (F6 q hq).1, e_X6_canWear F1 hp (by omega), ob_some]
    refine ⟨h, ?_, rfl, rfl⟩
    have ed : dsr v sz wo p q st = if fitS v p (sz q) = true then nI (wo q + 1) else 0 := by
      unfold dsr
      rw [if_pos r0]
    cases hf : fitS v p (sz q) with
    | true =>
      rw [hf, if_pos rfl] at ed
      rw [show zb true = 1 from rfl, if_neg (by decide), (F6 q hq).2, nI_1, ed, f_X2_desire_79, f_X2_desire_183]
      simp (disch := omega) only [nm_id, rv_0_0, rv_0_1, rv_0_2, rv_0_3, rv_0_4, rv_0_6, rv_0_7, rv_0_9, rv_0_10, rv_0_11, rv_0_12, rv_0_13, rv_0_14, rv_1_0, an_2, rv_3_0, rv_3_1, an_4, an_5, rv_6_0, rv_6_1, an_7, an_8, rv_9_0, rv_9_1, an_10, an_11, rv_12_0, rv_12_1, an_13, an_14, rv_15_0, rv_15_1, an_16, an_17, rv_18_0, rv_18_1, an_19, an_20, rv_21_0, rv_21_1, an_22, an_23, rv_24_0, rv_24_1, rv_24_2, an_25, an_26, an_27, rv_28_0, rv_28_1, rv_28_2, an_29, an_30, an_31, rv_32_0, rv_32_1, an_33, an_34, rv_35_0, rv_35_1, rv_35_2, rv_35_3, rv_35_4, rv_35_5, rv_35_6, an_36, an_37, an_38, an_39, an_40, rv_41_0, rv_41_1, rv_41_3, rv_41_4, rv_41_5, an_42, an_43, an_44, an_45, rv_46_0, rv_46_1, rv_46_2, rv_46_3, rv_46_4, rv_46_6, an_47, an_48, rv_49_0, rv_49_1, an_50, rv_51_0, rv_51_1, rv_51_2, rv_51_3, rv_51_4, rv_51_6, rv_51_7, an_52, an_53, an_54, an_55, rv_56_1, rv_56_2, rv_56_3, rv_56_4, rv_56_15, rv_56_16, rv_56_17, rv_56_19, rv_56_22, rv_56_23, rv_56_24, rv_56_25, rv_56_26, rv_56_27, rv_56_28, rv_56_31, rv_56_33, rv_56_35, rv_56_36, rv_56_37, rv_56_39, rv_56_40, rv_56_41, rv_56_42, rv_56_43, rv_56_44, rv_56_46, rv_56_47, rv_56_48, rv_56_49, rv_56_51, rv_56_52, rv_56_54, an_57, an_58, an_59, an_60, an_61, an_62, an_63, an_64, an_65, an_66, an_67, an_68, an_69, an_70, an_71, an_72, an_73, an_74, an_75, an_76, an_77, an_78, an_79, an_80, an_81, an_82, an_83, an_84, an_85, an_86, an_87, og_ix, nI_clamp]
    | false =>
      rw [hf, if_neg (by decide)] at ed
      rw [show zb false = 0 from rfl, if_pos rfl, ed, f_X2_desire_79, f_X2_desire_183]
      simp (disch := omega) only [nm_id, rv_0_0, rv_0_1, rv_0_2, rv_0_3, rv_0_4, rv_0_6, rv_0_7, rv_0_9, rv_0_10, rv_0_11, rv_0_12, rv_0_13, rv_0_14, rv_1_0, an_2, rv_3_0, rv_3_1, an_4, an_5, rv_6_0, rv_6_1, an_7, an_8, rv_9_0, rv_9_1, an_10, an_11, rv_12_0, rv_12_1, an_13, an_14, rv_15_0, rv_15_1, an_16, an_17, rv_18_0, rv_18_1, an_19, an_20, rv_21_0, rv_21_1, an_22, an_23, rv_24_0, rv_24_1, rv_24_2, an_25, an_26, an_27, rv_28_0, rv_28_1, rv_28_2, an_29, an_30, an_31, rv_32_0, rv_32_1, an_33, an_34, rv_35_0, rv_35_1, rv_35_2, rv_35_3, rv_35_4, rv_35_5, rv_35_6, an_36, an_37, an_38, an_39, an_40, rv_41_0, rv_41_1, rv_41_3, rv_41_4, rv_41_5, an_42, an_43, an_44, an_45, rv_46_0, rv_46_1, rv_46_2, rv_46_3, rv_46_4, rv_46_6, an_47, an_48, rv_49_0, rv_49_1, an_50, rv_51_0, rv_51_1, rv_51_2, rv_51_3, rv_51_4, rv_51_6, rv_51_7, an_52, an_53, an_54, an_55, rv_56_1, rv_56_2, rv_56_3, rv_56_4, rv_56_15, rv_56_16, rv_56_17, rv_56_19, rv_56_22, rv_56_23, rv_56_24, rv_56_25, rv_56_26, rv_56_27, rv_56_28, rv_56_31, rv_56_33, rv_56_35, rv_56_36, rv_56_37, rv_56_39, rv_56_40, rv_56_41, rv_56_42, rv_56_43, rv_56_44, rv_56_46, rv_56_47, rv_56_48, rv_56_49, rv_56_51, rv_56_52, rv_56_54, an_57, an_58, an_59, an_60, an_61, an_62, an_63, an_64, an_65, an_66, an_67, an_68, an_69, an_70, an_71, an_72, an_73, an_74, an_75, an_76, an_77, an_78, an_79, an_80, an_81, an_82, an_83, an_84, an_85, an_86, an_87, og_ix, nI_clamp]
  · have hr4 : r < 4 := by omega
    have nr : ¬ v.ro p = -1 := by
      rw [er, n_m1 (by omega)]
      exact id
    have it1 : ∀ j x, f_X6_item 3 (nI p) 0 (sI h 40 j x) = some (nI (v.it p 0), sI h 40 j x) := fun j x => e_item0 (cP_40 F1) hp
    have it2 : ∀ j x j' x', f_X6_item 3 (nI p) 0 (sI (sI h 40 j x) 40 j' x') = some (nI (v.it p 0), sI (sI h 40 j x) 40 j' x') := fun j x j' x' => e_item0 (cP_40 (cP_40 F1)) hp
    obtain ⟨h9, v1, v2, v3⟩ := e_des_val F hp hq hs hr er
    refine ⟨h9, ?_, v2, v3⟩
    have ed : dsr v sz wo p q st = pos0 (rlV v sz wo p q st) := by
      unfold dsr
      rw [if_neg nr]
    have e36 : (sI h 40 0 (nI (wo q))).1 36 q = nI (sz q) := (F6 q hq).1
    have key : ∀ (a3 : Int32), (if p = q then (1 : Int32) else 0) = a3 → f_X2_desire_148 35 (nI q) (nI st) (nI ((p * 6 + q) * 7 + st)) (nI r) a3 3 40 (sI (sI (sI h 40 0 (nI (wo q))) 40 1 (nI (sz q) - nI (v.it p 0))) 40 2 (nI (v.it p 0))) = some (dsr v sz wo p q st, sI h9 38 ((p * 6 + q) * 7 + st) (dsr v sz wo p q st)) := by
      intro a3 ea
      rw [ea] at v1
      unfold s6 at v1
      unfold f_X2_desire_148
      simp (disch := omega) only [nm_id, rv_0_0, rv_0_1, rv_0_2, rv_0_3, rv_0_4, rv_0_6, rv_0_7, rv_0_9, rv_0_10, rv_0_11, rv_0_12, rv_0_13, rv_0_14, rv_1_0, an_2, rv_3_0, rv_3_1, an_4, an_5, rv_6_0, rv_6_1, an_7, an_8, rv_9_0, rv_9_1, an_10, an_11, rv_12_0, rv_12_1, an_13, an_14, rv_15_0, rv_15_1, an_16, an_17, rv_18_0, rv_18_1, an_19, an_20, rv_21_0, rv_21_1, an_22, an_23, rv_24_0, rv_24_1, rv_24_2, an_25, an_26, an_27, rv_28_0, rv_28_1, rv_28_2, an_29, an_30, an_31, rv_32_0, rv_32_1, an_33, an_34, rv_35_0, rv_35_1, rv_35_2, rv_35_3, rv_35_4, rv_35_5, rv_35_6, an_36, an_37, an_38, an_39, an_40, rv_41_0, rv_41_1, rv_41_3, rv_41_4, rv_41_5, an_42, an_43, an_44, an_45, rv_46_0, rv_46_1, rv_46_2, rv_46_3, rv_46_4, rv_46_6, an_47, an_48, rv_49_0, rv_49_1, an_50, rv_51_0, rv_51_1, rv_51_2, rv_51_3, rv_51_4, rv_51_6, rv_51_7, an_52, an_53, an_54, an_55, rv_56_1, rv_56_2, rv_56_3, rv_56_4, rv_56_15, rv_56_16, rv_56_17, rv_56_19, rv_56_22, rv_56_23, rv_56_24, rv_56_25, rv_56_26, rv_56_27, rv_56_28, rv_56_31, rv_56_33, rv_56_35, rv_56_36, rv_56_37, rv_56_39, rv_56_40, rv_56_41, rv_56_42, rv_56_43, rv_56_44, rv_56_46, rv_56_47, rv_56_48, rv_56_49, rv_56_51, rv_56_52, rv_56_54, an_57, an_58, an_59, an_60, an_61, an_62, an_63, an_64, an_65, an_66, an_67, an_68, an_69, an_70, an_71, an_72, an_73, an_74, an_75, an_76, an_77, an_78, an_79, an_80, an_81, an_82, an_83, an_84, an_85, an_86, an_87, og_ix, nI_clamp, lo0, lo1, lo2, lo3, lo4, lo5, lc0, lc1, lc2, lc3, lc4, lc5, rf11 r hr4, v1, ob_some, f_X2_desire_183]
      rw [ed]
      rfl
    rw [if_neg nr, (F6 q hq).2, er]
    simp (disch := omega) only [lo0, lo1, lo2, lo3, lo4, lo5, lc0, lc1, lc2, lc3, lc4, lc5, it1, it2, ob_some, e36, n_eq]
    by_cases e : p = q
    · rw [if_pos e]
      exact key 1 (if_pos e)
    · rw [if_neg e]
      exact key 0 (if_neg e)
/-- the model's wish -/
theorem e_liking {v : Wd} {sz wo : Nat → Nat} {h : AH} (G : mG v sz wo h) {p q : Nat} {x3 : Int32} {st : Nat} (hp : p < v.n) (hq : q < v.n) (hb : bcS x3 = nI st) (hs : st < 7) : ∃ x h', f_X12_liking 56 (nI p) (nI q) x3 h = some (x, h') ∧ pos0 x = dsr v sz wo p q st := by
  obtain ⟨F1, ⟨rO1, rO2, rO3⟩, F3, F4, F5, F6⟩ := id G
  have hn := F1.1.1
  have z := F3 q hq
  unfold f_X12_liking
  simp (disch := omega) only [nm_id, rv_0_0, rv_0_1, rv_0_2, rv_0_3, rv_0_4, rv_0_6, rv_0_7, rv_0_9, rv_0_10, rv_0_11, rv_0_12, rv_0_13, rv_0_14, rv_1_0, an_2, rv_3_0, rv_3_1, an_4, an_5, rv_6_0, rv_6_1, an_7, an_8, rv_9_0, rv_9_1, an_10, an_11, rv_12_0, rv_12_1, an_13, an_14, rv_15_0, rv_15_1, an_16, an_17, rv_18_0, rv_18_1, an_19, an_20, rv_21_0, rv_21_1, an_22, an_23, rv_24_0, rv_24_1, rv_24_2, an_25, an_26, an_27, rv_28_0, rv_28_1, rv_28_2, an_29, an_30, an_31, rv_32_0, rv_32_1, an_33, an_34, rv_35_0, rv_35_1, rv_35_2, rv_35_3, rv_35_4, rv_35_5, rv_35_6, an_36, an_37, an_38, an_39, an_40, rv_41_0, rv_41_1, rv_41_3, rv_41_4, rv_41_5, an_42, an_43, an_44, an_45, rv_46_0, rv_46_1, rv_46_2, rv_46_3, rv_46_4, rv_46_6, an_47, an_48, rv_49_0, rv_49_1, an_50, rv_51_0, rv_51_1, rv_51_2, rv_51_3, rv_51_4, rv_51_6, rv_51_7, an_52, an_53, an_54, an_55, rv_56_1, rv_56_2, rv_56_3, rv_56_4, rv_56_15, rv_56_16, rv_56_17, rv_56_19, rv_56_22, rv_56_23, rv_56_24, rv_56_25, rv_56_26, rv_56_27, rv_56_28, rv_56_31, rv_56_33, rv_56_35, rv_56_36, rv_56_37, rv_56_39, rv_56_40, rv_56_41, rv_56_42, rv_56_43, rv_56_44, rv_56_46, rv_56_47, rv_56_48, rv_56_49, rv_56_51, rv_56_52, rv_56_54, an_57, an_58, an_59, an_60, an_61, an_62, an_63, an_64, an_65, an_66, an_67, an_68, an_69, an_70, an_71, an_72, an_73, an_74, an_75, an_76, an_77, an_78, an_79, an_80, an_81, an_82, an_83, an_84, an_85, an_86, an_87, og_ix, nI_clamp, F4 p hp]
  rcases rO2 p hp with r0 | ⟨r, hr, er⟩
  · rw [if_pos r0, e_X12_doesFit F1 hp (by omega) (F6 q hq).1 (by omega), ob_some]
    have ed : dsr v sz wo p q st = if fitS v p (sz q) = true then nI (wo q + 1) else 0 := by
      unfold dsr
      rw [if_pos r0]
    cases hf : fitS v p (sz q) with
    | true =>
      rw [hf, if_pos rfl] at ed
      refine ⟨nI (wo q + 1), h, ?_, ?_⟩
      · rw [show zb true = 1 from rfl, if_neg (by decide), (F6 q hq).2, nI_1, f_X12_liking_31]
      · rw [ed, pos0, if_pos (show (0 : Int32) < nI (wo q + 1) from (show nI 0 < nI (wo q + 1) from nI_lt (by omega) (by omega)))]
    | false =>
      rw [hf, if_neg (by decide)] at ed
      refine ⟨0, h, ?_, ?_⟩
      · rw [show zb false = 0 from rfl, if_pos rfl, f_X12_liking_31]
      · rw [ed]
        rfl
  · have hr4 : r < 4 := by omega
    have nr : ¬ v.ro p = -1 := by
      rw [er, n_m1 (by omega)]
      exact id
    have it1 : ∀ j x, f_X12_partOf 56 (nI p) 0 (sI h 60 j x) = some (nI (v.it p 0), sI h 60 j x) := fun j x => e_part0 (mP_60 F1) hp
    have it2 : ∀ j x j' x', f_X12_partOf 56 (nI p) 0 (sI (sI h 60 j x) 60 j' x') = some (nI (v.it p 0), sI (sI h 60 j x) 60 j' x') := fun j x j' x' => e_part0 (mP_60 (mP_60 F1)) hp
    have ed : dsr v sz wo p q st = pos0 (rlV v sz wo p q st) := by
      unfold dsr
      rw [if_neg nr]
    have ec : (v.ro p).toNatClampNeg = r := by rw [er, nI_clamp (by omega)]
    have e64 : (sI h 60 119 (nI (wo q))).1 64 q = nI (sz q) := (F6 q hq).1
    generalize hg : t6 h (nI (wo q)) (nI (sz q) - nI (v.it p 0)) (nI (v.it p 0)) (if p = q then 1 else 0) (nI st) (nI q) = g
    have ok : RulOk (v.cl r) (v.co r) (g.1 59 r) (g.1 58) (160 * r) := by
      rw [← hg, t6_n (by decide), t6_n (by decide)]
      exact F5 r hr
    have hlt : ∀ i, i < 6 → g.1 60 (lch i) = ltS v sz wo p q st i := by
      rw [← hg]
      intro i hi
      match i, hi with
      | 0, _ => rfl
      | 1, _ => rfl
      | 2, _ => rfl
      | 3, _ => rfl
      | 4, _ => rfl
      | 5, _ => rfl
    obtain ⟨_, hm', i2, i3⟩ := rul_sim hr4 ok hlt
    have i3 := i3 (ltS_b F1.1 F3 hp hq hs)
    have g66 : g.1 66 p = nI r := by rw [← hg, t6_n (by decide), F4 p hp, er]
    refine ⟨rlV v sz wo p q st, hm', ?_, ed.symm⟩
    have key : ∀ (a3 : Int32), (if p = q then (1 : Int32) else 0) = a3 → f_X12_liking_94 56 (nI p) (nI q) x3 a3 111 60 (sI (sI (sI h 60 119 (nI (wo q))) 60 102 (nI (sz q) - nI (v.it p 0))) 60 115 (nI (v.it p 0))) = some (rlV v sz wo p q st, hm') := by
      intro a3 ea
      rw [ea] at hg
      unfold t6 at hg
      unfold f_X12_liking_94
      simp (disch := omega) only [nm_id, rv_0_0, rv_0_1, rv_0_2, rv_0_3, rv_0_4, rv_0_6, rv_0_7, rv_0_9, rv_0_10, rv_0_11, rv_0_12, rv_0_13, rv_0_14, rv_1_0, an_2, rv_3_0, rv_3_1, an_4, an_5, rv_6_0, rv_6_1, an_7, an_8, rv_9_0, rv_9_1, an_10, an_11, rv_12_0, rv_12_1, an_13, an_14, rv_15_0, rv_15_1, an_16, an_17, rv_18_0, rv_18_1, an_19, an_20, rv_21_0, rv_21_1, an_22, an_23, rv_24_0, rv_24_1, rv_24_2, an_25, an_26, an_27, rv_28_0, rv_28_1, rv_28_2, an_29, an_30, an_31, rv_32_0, rv_32_1, an_33, an_34, rv_35_0, rv_35_1, rv_35_2, rv_35_3, rv_35_4, rv_35_5, rv_35_6, an_36, an_37, an_38, an_39, an_40, rv_41_0, rv_41_1, rv_41_3, rv_41_4, rv_41_5, an_42, an_43, an_44, an_45, rv_46_0, rv_46_1, rv_46_2, rv_46_3, rv_46_4, rv_46_6, an_47, an_48, rv_49_0, rv_49_1, an_50, rv_51_0, rv_51_1, rv_51_2, rv_51_3, rv_51_4, rv_51_6, rv_51_7, an_52, an_53, an_54, an_55, rv_56_1, rv_56_2, rv_56_3, rv_56_4, rv_56_15, rv_56_16, rv_56_17, rv_56_19, rv_56_22, rv_56_23, rv_56_24, rv_56_25, rv_56_26, rv_56_27, rv_56_28, rv_56_31, rv_56_33, rv_56_35, rv_56_36, rv_56_37, rv_56_39, rv_56_40, rv_56_41, rv_56_42, rv_56_43, rv_56_44, rv_56_46, rv_56_47, rv_56_48, rv_56_49, rv_56_51, rv_56_52, rv_56_54, an_57, an_58, an_59, an_60, an_61, an_62, an_63, an_64, an_65, an_66, an_67, an_68, an_69, an_70, an_71, an_72, an_73, an_74, an_75, an_76, an_77, an_78, an_79, an_80, an_81, an_82, an_83, an_84, an_85, an_86, an_87, og_ix, nI_clamp, lm119, lm102, lm115, lm111, lm110, lm112, ld119, ld102, ld115, ld111, ld110, ld112, e_bc, ob_some, hb, hg, g66, k_mul']
      rw [Nat.mul_comm, i2, ov_some, i3, rlV, ec]
    rw [if_neg nr, (F6 q hq).2]
    simp (disch := omega) only [lm119, lm102, lm115, lm111, lm110, lm112, ld119, ld102, ld115, ld111, ld110, ld112, it1, it2, ob_some, e64, n_eq]
    by_cases e : p = q
    · rw [if_pos e.symm]
      exact key 1 (if_pos e)
    · rw [if_neg (fun w => e w.symm)]
      exact key 0 (if_neg e)
