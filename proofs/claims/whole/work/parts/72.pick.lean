/-! sets, and the pair that is taken -/
def pc (D : Nat) : Nat := (bcS (nI D)).toNatClampNeg
theorem pc_ok : ∀ D, D < 64 → bcS (nI D) = nI (pc D) ∧ pc D < 7 := by decide +kernel
theorem inS_tb : ∀ D, D < 64 → ∀ k, k < 6 → inS (nI D) (nI k) = D.testBit k := by decide +kernel
theorem pow_le6 {n : Nat} (h : n ≤ 6) : 2 ^ n ≤ 64 := Nat.pow_le_pow_right (by decide) h
theorem tb_lt {D n k : Nat} (h : D < 2 ^ n) (b : D.testBit k = true) : k < n := by
  rcases Nat.lt_or_ge k n with q | q
  · exact q
  · rw [Nat.testBit_lt_two_pow (Nat.lt_of_lt_of_le h (Nat.pow_le_pow_right (by decide) q))] at b
    cases b
def pkF (ds : Nat → Int32) (p D : Nat) : Nat → Int32 × Int32
  | 0 => (-1, 0)
  | k + 1 => if D.testBit k = true ∧ ((pkF ds p D k).2 < ds k ∨ (ds k = (pkF ds p D k).2 ∧ 0 < ds k ∧ k = p)) then (nI k, ds k) else pkF ds p D k
def pk (v : Wd) (sz wo : Nat → Nat) (p D : Nat) : Int32 := (pkF (fun q => dsr v sz wo p q (pc D)) p D v.n).1
theorem pkF_ext {ds : Nat → Int32} {p D n : Nat} (hD : D < 2 ^ n) : ∀ k, n ≤ k → pkF ds p D k = pkF ds p D n := by
  intro k
  induction k with
  | zero =>
    intro h
    have : n = 0 := by omega
    rw [this]
  | succ k ih =>
    intro h
    by_cases e : n = k + 1
    · rw [e]
    · rw [pkF, if_neg, ih (by omega)]
      rintro ⟨b, _⟩
      have := tb_lt hD b
      omega
theorem pkF_i (ds : Nat → Int32) (p D : Nat) : ∀ k, ((pkF ds p D k).1 = -1 ∧ (pkF ds p D k).2 = 0) ∨ (0 < (pkF ds p D k).2 ∧ ∃ j, j < k ∧ (pkF ds p D k).1 = nI j ∧ D.testBit j = true) := by
  intro k
  induction k with
  | zero => exact Or.inl ⟨rfl, rfl⟩
  | succ k ih =>
    rw [pkF]
    split
    · rename_i h
      right
      refine ⟨?_, k, by omega, rfl, h.1⟩
      show 0 < ds k
      rcases h.2 with a | a
      · rcases ih with b | b
        · rw [b.2] at a
          exact a
        · have := b.1
          rw [Int32.lt_iff_toInt_lt] at this a ⊢
          omega
      · exact a.2.1
    · rcases ih with b | ⟨b, j, c, d⟩
      · exact Or.inl b
      · exact Or.inr ⟨b, j, by omega, d⟩
theorem pk_c {v : Wd} {sz wo : Nat → Nat} (p D : Nat) : pk v sz wo p D = -1 ∨ ∃ j, j < v.n ∧ pk v sz wo p D = nI j ∧ D.testBit j = true := by
  rcases pkF_i (fun q => dsr v sz wo p q (pc D)) p D v.n with a | ⟨_, a⟩
  · exact Or.inl a.1
  · exact Or.inr a
theorem pk_ne {v : Wd} {sz wo : Nat → Nat} (hn : v.n ≤ 6) (p D : Nat) : ¬ pk v sz wo p D = -2 := by
  rcases pk_c (v := v) (sz := sz) (wo := wo) p D with a | ⟨j, hj, a, _⟩
  · rw [a]
    decide
  · rw [a]
    intro e
    have := nI_pos (n := j) (by omega)
    rw [e] at this
    exact this (by decide)
def cK (v : Wd) (sz wo : Nat → Nat) (h : AH) : Prop := (∀ p, p < v.n → ∀ q, q < v.n → ∀ st, st < 7 → h.1 38 ((p * 6 + q) * 7 + st) = -2 ∨ h.1 38 ((p * 6 + q) * 7 + st) = dsr v sz wo p q st) ∧ ∀ p, p < v.n → ∀ D, D < 2 ^ v.n → h.1 39 (p * 64 + D) = -2 ∨ h.1 39 (p * 64 + D) = pk v sz wo p D
theorem cK_eq {v : Wd} {sz wo : Nat → Nat} {h0 h : AH} (e38 : h.1 38 = h0.1 38) (e39 : h.1 39 = h0.1 39) (K : cK v sz wo h0) : cK v sz wo h := by
  unfold cK at K ⊢
  rw [e38, e39]
  exact K
theorem cK_38 {v : Wd} {sz wo : Nat → Nat} {h : AH} (hn : v.n ≤ 6) (K : cK v sz wo h) {p q st : Nat} (hp : p < v.n) (hq : q < v.n) (hs : st < 7) : cK v sz wo (sI h 38 ((p * 6 + q) * 7 + st) (dsr v sz wo p q st)) := by
  refine ⟨fun p' hp' q' hq' st' hs' => ?_, fun p' hp' D hD => ?_⟩
  · by_cases e : (p' * 6 + q') * 7 + st' = (p * 6 + q) * 7 + st
    · right
      have e1 : p' = p := by omega
      have e2 : q' = q := by omega
      have e3 : st' = st := by omega
      subst e1 e2 e3
      exact sI_s ..
    · rw [sI_n (Or.inr e)]
      exact K.1 p' hp' q' hq' st' hs'
  · rw [sI_n (Or.inl (by decide))]
    exact K.2 p' hp' D hD
theorem cK_39 {v : Wd} {sz wo : Nat → Nat} {h : AH} (hn : v.n ≤ 6) (K : cK v sz wo h) {p D : Nat} (hp : p < v.n) (hD : D < 2 ^ v.n) : cK v sz wo (sI h 39 (p * 64 + D) (pk v sz wo p D)) := by
  have h64 := pow_le6 hn
  refine ⟨fun p' hp' q' hq' st' hs' => ?_, fun p' hp' D' hD' => ?_⟩
  · rw [sI_n (Or.inl (by decide))]
    exact K.1 p' hp' q' hq' st' hs'
  · by_cases e : p' * 64 + D' = p * 64 + D
    · right
      have e1 : p' = p := by omega
      have e2 : D' = D := by omega
      subst e1 e2
      exact sI_s ..
    · rw [sI_n (Or.inr e)]
      exact K.2 p' hp' D' hD'
def cZ (v : Wd) (sz wo : Nat → Nat) (h : AH) : Prop := cF v sz wo h ∧ cK v sz wo h
theorem e_desire {v : Wd} {sz wo : Nat → Nat} {h : AH} (Z : cZ v sz wo h) {p q st : Nat} (hp : p < v.n) (hq : q < v.n) (hs : st < 7) : ∃ h', f_X2_desire 35 (nI p) (nI q) (nI st) h = some (dsr v sz wo p q st, h') ∧ cZ v sz wo h' := by
  obtain ⟨F, K⟩ := Z
  have hn := F.1.1.1
  rcases K.1 p hp q hq st hs with c | c
  · obtain ⟨h9, e, a, b⟩ := e_des0 F hp hq hs c
    exact ⟨_, e, cF_eq (agr_on (w_f_X2_desire_i35 _ _ _ _ _ e) rfl) F, cK_38 hn (cK_eq a b K) hp hq hs⟩
  · refine ⟨h, ?_, F, K⟩
    unfold f_X2_desire
    simp (disch := omega) only [nm_id, k_mul, k_mul', k_add, k_le, k_le', k_lt, k_lt', k_eq, n_le, n_lt, n_eq, n_m1, nI_add, pk_mul, rv_0_0, rv_0_1, rv_0_2, rv_0_3, rv_0_4, rv_0_6, rv_0_7, rv_0_9, rv_0_10, rv_0_11, rv_0_12, rv_0_13, rv_0_14, rv_1_0, an_2, rv_3_0, rv_3_1, an_4, an_5, rv_6_0, rv_6_1, an_7, an_8, rv_9_0, rv_9_1, an_10, an_11, rv_12_0, rv_12_1, an_13, an_14, rv_15_0, rv_15_1, an_16, an_17, rv_18_0, rv_18_1, an_19, an_20, rv_21_0, rv_21_1, an_22, an_23, rv_24_0, rv_24_1, rv_24_2, an_25, an_26, an_27, rv_28_0, rv_28_1, rv_28_2, an_29, an_30, an_31, rv_32_0, rv_32_1, an_33, an_34, rv_35_0, rv_35_1, rv_35_2, rv_35_3, rv_35_4, rv_35_5, rv_35_6, an_36, an_37, an_38, an_39, an_40, rv_41_0, rv_41_1, rv_41_3, rv_41_4, rv_41_5, an_42, an_43, an_44, an_45, rv_46_0, rv_46_1, rv_46_2, rv_46_3, rv_46_4, rv_46_6, an_47, an_48, rv_49_0, rv_49_1, an_50, rv_51_0, rv_51_1, rv_51_2, rv_51_3, rv_51_4, rv_51_6, rv_51_7, an_52, an_53, an_54, an_55, rv_56_1, rv_56_2, rv_56_3, rv_56_4, rv_56_15, rv_56_16, rv_56_17, rv_56_19, rv_56_22, rv_56_23, rv_56_24, rv_56_25, rv_56_26, rv_56_27, rv_56_28, rv_56_31, rv_56_33, rv_56_35, rv_56_36, rv_56_37, rv_56_39, rv_56_40, rv_56_41, rv_56_42, rv_56_43, rv_56_44, rv_56_46, rv_56_47, rv_56_48, rv_56_49, rv_56_51, rv_56_52, rv_56_54, an_57, an_58, an_59, an_60, an_61, an_62, an_63, an_64, an_65, an_66, an_67, an_68, an_69, an_70, an_71, an_72, an_73, an_74, an_75, an_76, an_77, an_78, an_79, an_80, an_81, an_82, an_83, an_84, an_85, an_86, an_87, og_ix, nI_clamp, c, if_neg (dsr_ne F.2.2.1 (p := p) (st := st) hq)]
theorem e_pick35 {v : Wd} {sz wo : Nat → Nat} {p D : Nat} (hp : p < v.n) (hD : D < 2 ^ v.n) (hn : v.n ≤ 6) : ∀ n k h, k ≤ 6 → 6 - k < n → cZ v sz wo h → ∃ h', f_X2_pick_35 n 35 (nI p) (nI D) (nI (pc D)) (pkF (fun q => dsr v sz wo p q (pc D)) p D k).1 (pkF (fun q => dsr v sz wo p q (pc D)) p D k).2 (nI k) h = some (pk v sz wo p D, h') ∧ cZ v sz wo h' := by
  have h64 := pow_le6 hn
  have hpc := (pc_ok D (by omega)).2
  intro n
  induction n with
  | zero => intro k h _ q; omega
  | succ n ih =>
    intro k h hk hkn Z
    rw [f_X2_pick_35]
    by_cases k6 : k = 6
    · subst k6
      have e6 : (pkF (fun q => dsr v sz wo p q (pc D)) p D 6).1 = pk v sz wo p D := by
        rw [pkF_ext hD 6 hn]
        rfl
      rw [if_pos (by decide), e6]
      simp (disch := omega) only [nm_id, k_mul, k_mul', k_add, k_le, k_le', k_lt, k_lt', k_eq, n_le, n_lt, n_eq, n_m1, nI_add, pk_mul, rv_0_0, rv_0_1, rv_0_2, rv_0_3, rv_0_4, rv_0_6, rv_0_7, rv_0_9, rv_0_10, rv_0_11, rv_0_12, rv_0_13, rv_0_14, rv_1_0, an_2, rv_3_0, rv_3_1, an_4, an_5, rv_6_0, rv_6_1, an_7, an_8, rv_9_0, rv_9_1, an_10, an_11, rv_12_0, rv_12_1, an_13, an_14, rv_15_0, rv_15_1, an_16, an_17, rv_18_0, rv_18_1, an_19, an_20, rv_21_0, rv_21_1, an_22, an_23, rv_24_0, rv_24_1, rv_24_2, an_25, an_26, an_27, rv_28_0, rv_28_1, rv_28_2, an_29, an_30, an_31, rv_32_0, rv_32_1, an_33, an_34, rv_35_0, rv_35_1, rv_35_2, rv_35_3, rv_35_4, rv_35_5, rv_35_6, an_36, an_37, an_38, an_39, an_40, rv_41_0, rv_41_1, rv_41_3, rv_41_4, rv_41_5, an_42, an_43, an_44, an_45, rv_46_0, rv_46_1, rv_46_2, rv_46_3, rv_46_4, rv_46_6, an_47, an_48, rv_49_0, rv_49_1, an_50, rv_51_0, rv_51_1, rv_51_2, rv_51_3, rv_51_4, rv_51_6, rv_51_7, an_52, an_53, an_54, an_55, rv_56_1, rv_56_2, rv_56_3, rv_56_4, rv_56_15, rv_56_16, rv_56_17, rv_56_19, rv_56_22, rv_56_23, rv_56_24, rv_56_25, rv_56_26, rv_56_27, rv_56_28, rv_56_31, rv_56_33, rv_56_35, rv_56_36, rv_56_37, rv_56_39, rv_56_40, rv_56_41, rv_56_42, rv_56_43, rv_56_44, rv_56_46, rv_56_47, rv_56_48, rv_56_49, rv_56_51, rv_56_52, rv_56_54, an_57, an_58, an_59, an_60, an_61, an_62, an_63, an_64, an_65, an_66, an_67, an_68, an_69, an_70, an_71, an_72, an_73, an_74, an_75, an_76, an_77, an_78, an_79, an_80, an_81, an_82, an_83, an_84, an_85, an_86, an_87, og_ix, nI_clamp]
      exact ⟨_, rfl, cF_eq (agr_on (W := (39, 1000) :: []) (agr_sI (agr_refl h) rfl) rfl) Z.1, cK_39 hn Z.2 hp hD⟩
    · have k5 : k < 6 := by omega
      have tb := inS_tb D (by omega) k k5
      have stp := pkF (fun q => dsr v sz wo p q (pc D)) p D (k + 1)
      have inv := pkF_i (fun q => dsr v sz wo p q (pc D)) p D k
      have K := fun h' Z' => ih (k + 1) h' (by omega) (by omega) Z'
      rw [pkF] at K
      generalize hS : pkF (fun q => dsr v sz wo p q (pc D)) p D k = S at K inv ⊢
      rw [if_neg (by rw [show (6 : Int32) = nI 6 from rfl, nI_leI (by decide) (by omega)]; omega), e_X11_isIn, ob_some, tb]
      cases hb : D.testBit k with
      | false =>
        rw [if_neg (by rw [hb]; simp)] at K
        rw [show zb false = 0 from rfl, if_pos rfl, f_X2_pick_95, nm_id, nI_1]
        exact K h Z
      | true =>
        have hkn' := tb_lt hD hb
        obtain ⟨h', e, Z'⟩ := e_desire Z hp hkn' hpc
        have K' := K h' Z'
        have nn := dsr_nn Z.1.2.2.1 (p := p) (st := pc D) hkn'
        rw [show zb true = 1 from rfl, if_neg (by decide), e, ob_some]
        simp only [hb, true_and] at K'
        simp only [f_X2_pick_95, f_X2_pick_87, nm_id, nI_1]
        generalize dsr v sz wo p k (pc D) = m at K' nn ⊢
        by_cases c1 : S.2 < m
        · rw [if_pos c1]
          rw [if_pos (Or.inl c1)] at K'
          exact K'
        · rw [if_neg c1]
          by_cases c2 : m = S.2
          · rw [if_pos c2]
            by_cases c3 : m ≤ 0
            · rw [if_pos c3]
              rw [if_neg] at K'
              · exact K'
              · rintro (w | w)
                · exact c1 w
                · have := w.2.1
                  rw [Int32.lt_iff_toInt_lt] at this
                  rw [Int32.le_iff_toInt_le] at c3
                  omega
            · rw [if_neg c3]
              by_cases c4 : k = p
              · rw [if_pos (by rw [c4])]
                rw [if_pos (Or.inr ⟨c2, by rw [Int32.lt_iff_toInt_lt]; rw [Int32.le_iff_toInt_le] at c3; omega, c4⟩)] at K'
                exact K'
              · rw [if_neg (by rw [n_eq (by omega) (by omega)]; exact c4)]
                rw [if_neg (fun w => w.elim c1 (fun w => c4 w.2.2))] at K'
                exact K'
          · rw [if_neg c2]
            rw [if_neg (fun w => w.elim c1 (fun w => c2 w.1))] at K'
            exact K'
theorem e_pick {v : Wd} {sz wo : Nat → Nat} {h : AH} (Z : cZ v sz wo h) {p D : Nat} (hp : p < v.n) (hD : D < 2 ^ v.n) : ∃ h', f_X2_pick 35 (nI p) (nI D) h = some (pk v sz wo p D, h') ∧ cZ v sz wo h' := by
  have hn := Z.1.1.1.1
  have h64 := pow_le6 hn
  unfold f_X2_pick
  simp (disch := omega) only [nm_id, k_mul, k_mul', k_add, k_le, k_le', k_lt, k_lt', k_eq, n_le, n_lt, n_eq, n_m1, nI_add, pk_mul, rv_0_0, rv_0_1, rv_0_2, rv_0_3, rv_0_4, rv_0_6, rv_0_7, rv_0_9, rv_0_10, rv_0_11, rv_0_12, rv_0_13, rv_0_14, rv_1_0, an_2, rv_3_0, rv_3_1, an_4, an_5, rv_6_0, rv_6_1, an_7, an_8, rv_9_0, rv_9_1, an_10, an_11, rv_12_0, rv_12_1, an_13, an_14, rv_15_0, rv_15_1, an_16, an_17, rv_18_0, rv_18_1, an_19, an_20, rv_21_0, rv_21_1, an_22, an_23, rv_24_0, rv_24_1, rv_24_2, an_25, an_26, an_27, rv_28_0, rv_28_1, rv_28_2, an_29, an_30, an_31, rv_32_0, rv_32_1, an_33, an_34, rv_35_0, rv_35_1, rv_35_2, rv_35_3, rv_35_4, rv_35_5, rv_35_6, an_36, an_37, an_38, an_39, an_40, rv_41_0, rv_41_1, rv_41_3, rv_41_4, rv_41_5, an_42, an_43, an_44, an_45, rv_46_0, rv_46_1, rv_46_2, rv_46_3, rv_46_4, rv_46_6, an_47, an_48, rv_49_0, rv_49_1, an_50, rv_51_0, rv_51_1, rv_51_2, rv_51_3, rv_51_4, rv_51_6, rv_51_7, an_52, an_53, an_54, an_55, rv_56_1, rv_56_2, rv_56_3, rv_56_4, rv_56_15, rv_56_16, rv_56_17, rv_56_19, rv_56_22, rv_56_23, rv_56_24, rv_56_25, rv_56_26, rv_56_27, rv_56_28, rv_56_31, rv_56_33, rv_56_35, rv_56_36, rv_56_37, rv_56_39, rv_56_40, rv_56_41, rv_56_42, rv_56_43, rv_56_44, rv_56_46, rv_56_47, rv_56_48, rv_56_49, rv_56_51, rv_56_52, rv_56_54, an_57, an_58, an_59, an_60, an_61, an_62, an_63, an_64, an_65, an_66, an_67, an_68, an_69, an_70, an_71, an_72, an_73, an_74, an_75, an_76, an_77, an_78, an_79, an_80, an_81, an_82, an_83, an_84, an_85, an_86, an_87, og_ix, nI_clamp]
  rcases Z.2.2 p hp D hD with c | c
  · rw [if_pos c, e_bc, ob_some, (pc_ok D (by omega)).1]
    exact e_pick35 hp hD hn FU 0 h (by omega) (by unfold FU; omega) Z
  · rw [c, if_neg (pk_ne hn p D)]
    exact ⟨h, rfl, Z⟩
theorem e_takes8 {v : Wd} {sz wo : Nat → Nat} {p D : Nat} (hp : p < v.n) (hD : D < 2 ^ v.n) (hn : v.n ≤ 6) : ∀ n k h, k ≤ v.n → v.n - k < n → mG v sz wo h → ∃ h', f_X12_takesOf_8 n 56 (nI p) (nI D) (pkF (fun q => dsr v sz wo p q (pc D)) p D k).1 (pkF (fun q => dsr v sz wo p q (pc D)) p D k).2 (nI k) h = some (pk v sz wo p D, h') ∧ mG v sz wo h' := by
  have h64 := pow_le6 hn
  have hpc := pc_ok D (by omega)
  intro n
  induction n with
  | zero => intro k h _ q; omega
  | succ n ih =>
    intro k h hk hkn Z
    rw [f_X12_takesOf_8, Z.1.2.1]
    by_cases k6 : k = v.n
    · subst k6
      rw [if_pos (by rw [nI_leI (by omega) (by omega)]; omega)]
      exact ⟨h, rfl, Z⟩
    · have k5 : k < v.n := by omega
      have tb := inS_tb D (by omega) k (by omega)
      have inv := pkF_i (fun q => dsr v sz wo p q (pc D)) p D k
      have K := fun h' Z' => ih (k + 1) h' (by omega) (by omega) Z'
      rw [pkF] at K
      generalize hS : pkF (fun q => dsr v sz wo p q (pc D)) p D k = S at K inv ⊢
      rw [if_neg (by rw [nI_leI (by omega) (by omega)]; omega), e_X12_has, ob_some, tb]
      cases hb : D.testBit k with
      | false =>
        rw [if_neg (by rw [hb]; simp)] at K
        rw [show zb false = 0 from rfl, if_pos rfl, f_X12_takesOf_79, nm_id, nI_1]
        exact K h Z
      | true =>
        obtain ⟨x, h', e, ex⟩ := e_liking Z hp k5 hpc.1 hpc.2
        have Z' : mG v sz wo h' := mG_eq (agr_on (w_f_X12_liking_i56 _ _ _ _ _ e) rfl) Z
        have K' := K h' Z'
        rw [show zb true = 1 from rfl, if_neg (by decide), e, ob_some]
        simp only [hb, true_and] at K'
        simp only [f_X12_takesOf_79, f_X12_takesOf_72, nm_id, nI_1]
        rw [← ex] at K'
        by_cases c0 : x ≤ 0
        · have p0 : pos0 x = 0 := by
            unfold pos0
            rw [if_neg]
            rw [Int32.lt_iff_toInt_lt]
            rw [Int32.le_iff_toInt_le] at c0
            omega
          rw [if_pos c0]
          rw [p0, if_neg] at K'
          · exact K'
          · rintro (w | w)
            · rcases inv with i | i
              · rw [i.2] at w
                exact absurd w (by decide)
              · have := i.1
                rw [Int32.lt_iff_toInt_lt] at this w
                omega
            · exact absurd w.2.1 (by decide)
        · have x0 : 0 < x := by
            rw [Int32.lt_iff_toInt_lt]
            rw [Int32.le_iff_toInt_le] at c0
            omega
          have p0 : pos0 x = x := by
            unfold pos0
            rw [if_pos x0]
          rw [if_neg c0]
          rw [p0] at K'
          by_cases c1 : S.1 = -1
          · rw [if_pos c1]
            rcases inv with i | ⟨_, j, hj, i, _⟩
            · rw [if_pos (Or.inl (by rw [i.2]; exact x0))] at K'
              exact K'
            · rw [i, n_m1 (by omega)] at c1
              exact c1.elim
          · rw [if_neg c1]
            by_cases c2 : x < S.2
            · rw [if_pos c2]
              rw [if_neg] at K'
              · exact K'
              · rw [Int32.lt_iff_toInt_lt] at c2
                rintro (w | w)
                · rw [Int32.lt_iff_toInt_lt] at w
                  omega
                · rw [w.1] at c2
                  omega
            · rw [if_neg c2]
              by_cases c3 : x = S.2
              · rw [if_pos c3]
                by_cases c4 : k = p
                · rw [if_pos (by rw [c4])]
                  rw [if_pos (Or.inr ⟨c3, x0, c4⟩)] at K'
                  exact K'
                · rw [if_neg (by rw [n_eq (by omega) (by omega)]; exact c4)]
                  rw [if_neg] at K'
                  · exact K'
                  · rintro (w | w)
                    · rw [Int32.lt_iff_toInt_lt, c3] at w
                      omega
                    · exact c4 w.2.2
              · rw [if_neg c3]
                rw [if_pos] at K'
                · exact K'
                · left
                  rw [Int32.lt_iff_toInt_lt] at c2 ⊢
                  rw [← Int32.toInt_inj] at c3
                  omega
theorem e_takesOf {v : Wd} {sz wo : Nat → Nat} {h : AH} (Z : mG v sz wo h) {p D : Nat} (hp : p < v.n) (hD : D < 2 ^ v.n) : ∃ h', f_X12_takesOf 56 (nI p) (nI D) h = some (pk v sz wo p D, h') ∧ mG v sz wo h' := by
  have hn := Z.1.1.1
  exact e_takes8 hp hD hn FU 0 h (by omega) (by unfold FU; omega) Z
