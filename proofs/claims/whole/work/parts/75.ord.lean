/-! an order told as a number -/
def b2 (b : Bool) : Nat := if b = true then 1 else 0
def pcN (D : Nat) : Nat := b2 (D.testBit 0) + (b2 (D.testBit 1) + (b2 (D.testBit 2) + (b2 (D.testBit 3) + (b2 (D.testBit 4) + b2 (D.testBit 5)))))
theorem pc_N : ∀ D, D < 64 → pc D = pcN D := by decide +kernel
theorem or_lt : ∀ S, S < 64 → ∀ d, d < 6 → S ||| 2 ^ d < 64 := by decide +kernel
theorem or_n : ∀ S, S < 64 → ∀ d, d < 6 → nI S ||| ((1 : Int32) <<< (nI d &&& 31)) = nI (S ||| 2 ^ d) := by decide +kernel
theorem or_pc : ∀ S, S < 64 → ∀ d, d < 6 → pcN (S ||| 2 ^ d) = if S.testBit d = true then pcN S else pcN S + 1 := by decide +kernel
theorem or_tb (S d i : Nat) : (S ||| 2 ^ d).testBit i = (S.testBit i || decide (d = i)) := by
  rw [Nat.testBit_or, Nat.testBit_two_pow]
def sub (S G : Nat) : Prop := ∀ i, i < 6 → S.testBit i = true → G.testBit i = true
theorem b2_le {a b : Bool} (h : a = true → b = true) : b2 a ≤ b2 b := by
  cases a
  · exact Nat.zero_le _
  · rw [h rfl]
    exact Nat.le_refl _
theorem b2_inj {a b : Bool} (h : b2 a = b2 b) : a = b := by
  cases a <;> cases b <;> first | rfl | (exact absurd h (by decide))
theorem sub_eq {S G : Nat} (hS : S < 64) (hG : G < 64) (s : sub S G) (e : pcN S = pcN G) : S = G := by
  have a0 := b2_le (s 0 (by decide))
  have a1 := b2_le (s 1 (by decide))
  have a2 := b2_le (s 2 (by decide))
  have a3 := b2_le (s 3 (by decide))
  have a4 := b2_le (s 4 (by decide))
  have a5 := b2_le (s 5 (by decide))
  unfold pcN at e
  apply Nat.eq_of_testBit_eq
  intro i
  by_cases hi : i < 6
  · match i, hi with
    | 0, _ => exact b2_inj (by omega)
    | 1, _ => exact b2_inj (by omega)
    | 2, _ => exact b2_inj (by omega)
    | 3, _ => exact b2_inj (by omega)
    | 4, _ => exact b2_inj (by omega)
    | 5, _ => exact b2_inj (by omega)
  · have h2 : 64 ≤ 2 ^ i := Nat.pow_le_pow_right (n := 2) (by decide) (show 6 ≤ i by omega)
    rw [Nat.testBit_lt_two_pow (by omega), Nat.testBit_lt_two_pow (by omega)]
def rowN (N m j : Nat) : Nat := N / 10 ^ (m - 1 - j) % 10
theorem rowN_k (N k : Nat) : rowN N (k + 1) k = N % 10 := by
  unfold rowN
  rw [show k + 1 - 1 - k = 0 by omega, Nat.pow_zero, Nat.div_one]
theorem rowN_j (N : Nat) {k j : Nat} (h : j < k) : rowN N (k + 1) j = rowN (N / 10) k j := by
  unfold rowN
  rw [show k + 1 - 1 - j = (k - 1 - j) + 1 by omega, Nat.pow_succ, Nat.mul_comm, Nat.div_div_eq_div_mul]
def cOk (G : Nat) : Nat → Nat → Nat → Bool
  | 0, N, S => decide (N = 0 ∧ S = G)
  | k + 1, N, S => decide (N % 10 < 6) && cOk G k (N / 10) (S ||| 2 ^ (N % 10))
def mOk (n G : Nat) : Nat → Nat → Nat → Bool
  | 0, N, _ => decide (N = 0)
  | k + 1, N, S => decide (N % 10 < n) && (G.testBit (N % 10) && (!(S.testBit (N % 10)) && mOk n G k (N / 10) (S ||| 2 ^ (N % 10))))
theorem cOk_1 {G : Nat} : ∀ k N S, S < 64 → cOk G k N S = true → sub S G ∧ pcN G ≤ pcN S + k ∧ ∀ p, G.testBit p = true → S.testBit p = true ∨ ∃ j, j < k ∧ rowN N k j = p := by
  intro k
  induction k with
  | zero =>
    intro N S hS h
    rw [cOk, decide_eq_true_eq] at h
    rw [h.2]
    exact ⟨fun _ _ q => q, Nat.le_refl _, fun p q => Or.inl q⟩
  | succ k ih =>
    intro N S hS h
    rw [cOk, Bool.and_eq_true, decide_eq_true_eq] at h
    obtain ⟨i1, i2, i3⟩ := ih _ _ (or_lt S hS _ h.1) h.2
    rw [or_pc S hS _ h.1] at i2
    refine ⟨fun i hi q => i1 i hi (by rw [or_tb, q]; rfl), by split at i2 <;> omega, fun p hp => ?_⟩
    rcases i3 p hp with q | ⟨j, hj, q⟩
    · rw [or_tb, Bool.or_eq_true, decide_eq_true_eq] at q
      rcases q with q | q
      · exact Or.inl q
      · exact Or.inr ⟨k, by omega, by rw [rowN_k]; exact q⟩
    · exact Or.inr ⟨j, by omega, by rw [rowN_j _ hj]; exact q⟩
theorem cOk_2 {n G : Nat} (hn : n ≤ 6) (hG : G < 2 ^ n) : ∀ k N S, S < 64 → sub S G → pcN S + k = pcN G → cOk G k N S = mOk n G k N S := by
  have h64 := pow_le6 hn
  intro k
  induction k with
  | zero =>
    intro N S hS s e
    rw [cOk, mOk, decide_eq_decide]
    exact ⟨fun q => q.1, fun q => ⟨q, sub_eq hS (by omega) s e⟩⟩
  | succ k ih =>
    intro N S hS s e
    rw [cOk, mOk]
    by_cases c1 : N % 10 < 6
    · rw [decide_eq_true c1, Bool.true_and]
      have ol := or_lt S hS _ c1
      have op := or_pc S hS _ c1
      cases c2 : G.testBit (N % 10) with
      | false =>
        rw [Bool.false_and, Bool.and_false]
        cases c3 : cOk G k (N / 10) (S ||| 2 ^ (N % 10)) with
        | false => rfl
        | true =>
          have := (cOk_1 k _ _ ol c3).1 (N % 10) c1 (by rw [or_tb]; simp)
          rw [c2] at this
          cases this
      | true =>
        rw [decide_eq_true (tb_lt hG c2)]
        cases c3 : S.testBit (N % 10) with
        | true =>
          simp only [Bool.not_true, Bool.false_and, Bool.and_false]
          cases c4 : cOk G k (N / 10) (S ||| 2 ^ (N % 10)) with
          | false => rfl
          | true =>
            have := (cOk_1 k _ _ ol c4).2.1
            rw [op, if_pos c3] at this
            omega
        | false =>
          simp only [Bool.not_false, Bool.true_and]
          refine ih _ _ ol (fun i hi q => ?_) (by rw [op, if_neg (by rw [c3]; decide)]; omega)
          rw [or_tb, Bool.or_eq_true, decide_eq_true_eq] at q
          rcases q with q | q
          · exact s i hi q
          · rw [← q]
            exact c2
    · rw [decide_eq_false c1, decide_eq_false (show ¬ N % 10 < n by omega), Bool.false_and, Bool.false_and]
theorem mOk_r {n G : Nat} : ∀ k N S, mOk n G k N S = true → (∀ j, j < k → rowN N k j < n ∧ G.testBit (rowN N k j) = true ∧ S.testBit (rowN N k j) = false) ∧ ∀ i j, i < k → j < k → rowN N k i = rowN N k j → i = j := by
  intro k
  induction k with
  | zero => intro N S _; exact ⟨fun j hj => absurd hj (by omega), fun i j hi => absurd hi (by omega)⟩
  | succ k ih =>
    intro N S h
    rw [mOk, Bool.and_eq_true, Bool.and_eq_true, Bool.and_eq_true, decide_eq_true_eq] at h
    obtain ⟨h1, h2, h3, h4⟩ := h
    rw [Bool.not_eq_true'] at h3
    obtain ⟨i1, i2⟩ := ih _ _ h4
    have nd : ∀ j, j < k → rowN (N / 10) k j ≠ N % 10 := by
      intro j hj e
      have := (i1 j hj).2.2
      rw [e, or_tb] at this
      simp at this
    refine ⟨fun j hj => ?_, fun i j hi hj e => ?_⟩
    · by_cases e : j = k
      · subst e
        rw [rowN_k]
        exact ⟨h1, h2, h3⟩
      · rw [rowN_j _ (by omega)]
        obtain ⟨a, b, c⟩ := i1 j (by omega)
        rw [or_tb, Bool.or_eq_false_iff] at c
        exact ⟨a, b, c.1⟩
    · by_cases ei : i = k
      · by_cases ej : j = k
        · omega
        · subst ei
          rw [rowN_k, rowN_j _ (by omega)] at e
          exact absurd e.symm (nd j (by omega))
      · by_cases ej : j = k
        · subst ej
          rw [rowN_k, rowN_j _ (by omega)] at e
          exact absurd e (nd i (by omega))
        · rw [rowN_j _ (by omega), rowN_j _ (by omega)] at e
          exact i2 i j (by omega) (by omega) e
theorem rem10 {N : Nat} (h : N < 2 ^ 31) : jirem (nI N) 10 = nI (N % 10) ∧ nI N / 10 = nI (N / 10) := ⟨pk_rem (d := 10) h (by decide) (by decide), pk_div (d := 10) h (by decide) (by decide)⟩
theorem neg10 {x : Int32} (h : x < 0) : (x / 10).toInt = -((-x.toInt) / 10) ∧ (jirem x 10).toInt = x.toInt + (-x.toInt) / 10 * 10 := by
  have a1 := Int32.le_toInt x
  have h0 : x.toInt < 0 := by
    rw [Int32.lt_iff_toInt_lt] at h
    exact h
  have e1 : (x / 10).toInt = -((-x.toInt) / 10) := by
    rw [Int32.toInt_div, show (10 : Int32).toInt = 10 from rfl]
    have : x.toInt.tdiv 10 = -((-x.toInt) / 10) := by
      rw [← Int.tdiv_eq_ediv_of_nonneg (show 0 ≤ -x.toInt by omega), Int.neg_tdiv, Int.neg_neg]
    rw [this]
    exact bmod32 (by omega) (by omega)
  refine ⟨e1, ?_⟩
  show (x - x / 10 * 10).toInt = _
  rw [Int32.toInt_sub, Int32.toInt_mul, e1, show (10 : Int32).toInt = 10 from rfl]
  rw [show (-(-x.toInt / 10) * 10 : Int).bmod (2 ^ 32) = -(-x.toInt / 10) * 10 from bmod32 (by omega) (by omega)]
  rw [bmod32 (by omega) (by omega)]
  omega
theorem e_rdneg (G : Int32) : ∀ n k (x : Int32) (S : Int32) (h : AH), x < 0 → k ≤ 6 → k < n → ∃ h', f_X5_readOrder_21 n 41 G x S (nI k - 1) h = some (0, h') := by
  intro n
  induction n with
  | zero => intro k _ _ _ _ _ q; omega
  | succ n ih =>
    intro k x S h hx hk hkn
    have d := neg10 hx
    have h0 : x.toInt < 0 := by
      rw [Int32.lt_iff_toInt_lt] at hx
      exact hx
    rw [f_X5_readOrder_21]
    cases k with
    | zero =>
      rw [if_pos (by decide), if_neg (fun e => by rw [e] at hx; exact absurd hx (by decide))]
      exact ⟨h, rfl⟩
    | succ k =>
      rw [nI_pred, if_neg (nI_pos (by omega)), nm_id]
      by_cases c : jirem x 10 < 0
      · rw [if_pos c]
        exact ⟨h, rfl⟩
      · rw [if_neg c]
        have c' : jirem x 10 = 0 := by
          rw [← Int32.toInt_inj, d.2]
          rw [Int32.lt_iff_toInt_lt, d.2, show (0 : Int32).toInt = 0 from rfl] at c
          rw [show (0 : Int32).toInt = 0 from rfl]
          omega
        have x' : x / 10 < 0 := by
          rw [← Int32.toInt_inj, d.2, show (0 : Int32).toInt = 0 from rfl] at c'
          rw [Int32.lt_iff_toInt_lt, d.1, show (0 : Int32).toInt = 0 from rfl]
          omega
        rw [c', if_pos (by decide)]
        simp (disch := omega) only [rv_0_0, rv_0_1, rv_0_2, rv_0_3, rv_0_4, rv_0_6, rv_0_7, rv_0_9, rv_0_10, rv_0_11, rv_0_12, rv_0_13, rv_0_14, rv_1_0, an_2, rv_3_0, rv_3_1, an_4, an_5, rv_6_0, rv_6_1, an_7, an_8, rv_9_0, rv_9_1, an_10, an_11, rv_12_0, rv_12_1, an_13, an_14, rv_15_0, rv_15_1, an_16, an_17, rv_18_0, rv_18_1, an_19, an_20, rv_21_0, rv_21_1, an_22, an_23, rv_24_0, rv_24_1, rv_24_2, an_25, an_26, an_27, rv_28_0, rv_28_1, rv_28_2, an_29, an_30, an_31, rv_32_0, rv_32_1, an_33, an_34, rv_35_0, rv_35_1, rv_35_2, rv_35_3, rv_35_4, rv_35_5, rv_35_6, an_36, an_37, an_38, an_39, an_40, rv_41_0, rv_41_1, rv_41_3, rv_41_4, rv_41_5, an_42, an_43, an_44, an_45, rv_46_0, rv_46_1, rv_46_2, rv_46_3, rv_46_4, rv_46_6, an_47, an_48, rv_49_0, rv_49_1, an_50, rv_51_0, rv_51_1, rv_51_2, rv_51_3, rv_51_4, rv_51_6, rv_51_7, an_52, an_53, an_54, an_55, rv_56_1, rv_56_2, rv_56_3, rv_56_4, rv_56_15, rv_56_16, rv_56_17, rv_56_19, rv_56_22, rv_56_23, rv_56_24, rv_56_25, rv_56_26, rv_56_27, rv_56_28, rv_56_31, rv_56_33, rv_56_35, rv_56_36, rv_56_37, rv_56_39, rv_56_40, rv_56_41, rv_56_42, rv_56_43, rv_56_44, rv_56_46, rv_56_47, rv_56_48, rv_56_49, rv_56_51, rv_56_52, rv_56_54, an_57, an_58, an_59, an_60, an_61, an_62, an_63, an_64, an_65, an_66, an_67, an_68, an_69, an_70, an_71, an_72, an_73, an_74, an_75, an_76, an_77, an_78, an_79, an_80, an_81, an_82, an_83, an_84, an_85, an_86, an_87, og_ix, nm_id, nI_clamp]
        have ek : nI k + (-1) = nI k - 1 := by
          rw [← Int32.toInt_inj, Int32.toInt_add, Int32.toInt_sub]
          rfl
        rw [ek]
        exact ih k _ _ _ x' (by omega) (by omega)
theorem m1_e (k : Nat) : nI k + (-1) = nI k - 1 := by
  rw [← Int32.toInt_inj, Int32.toInt_add, Int32.toInt_sub]
  rfl
theorem e_rdpos {G : Nat} (hG : G < 64) : ∀ n k N S (h : AH), N < 2 ^ 31 → S < 64 → k ≤ 6 → k < n → ∃ h', f_X5_readOrder_21 n 41 (nI G) (nI N) (nI S) (nI k - 1) h = some (zb (cOk G k N S), h') ∧ (cOk G k N S = true → (∀ j, j < k → h'.1 42 j = nI (rowN N k j)) ∧ (∀ j, k ≤ j → h'.1 42 j = h.1 42 j) ∧ h'.1 41 2 = h.1 41 2) := by
  intro n
  induction n with
  | zero => intro k _ _ _ _ _ _ q; omega
  | succ n ih =>
    intro k N S h hN hS hk hkn
    have d := rem10 hN
    rw [f_X5_readOrder_21]
    cases k with
    | zero =>
      rw [if_pos (by decide), cOk]
      refine ⟨h, ?_, fun _ => ⟨fun j hj => absurd hj (by omega), fun _ _ => rfl, rfl⟩⟩
      by_cases c1 : N = 0
      · subst c1
        rw [if_pos (show nI 0 = 0 from rfl)]
        by_cases c2 : S = G
        · rw [if_pos (by rw [c2]), decide_eq_true ⟨rfl, c2⟩]
          rfl
        · rw [if_neg (by rw [n_eq (by omega) (by omega)]; exact c2), decide_eq_false (fun q => c2 q.2)]
          rfl
      · rw [if_neg (nI_ne0 (by omega) hN), decide_eq_false (fun q => c1 q.1)]
        rfl
    | succ k =>
      rw [nI_pred, if_neg (nI_pos (by omega)), nm_id, d.1, if_neg (nI_pos (by omega)), cOk]
      have e6 : (nI (N % 10) < 6) = (N % 10 < 6) := k_lt (b := 6) (by omega) (by decide)
      by_cases c : N % 10 < 6
      · rw [if_pos (show nI (N % 10) < 6 by rw [e6]; exact c), decide_eq_true c, Bool.true_and]
        simp (disch := omega) only [rv_0_0, rv_0_1, rv_0_2, rv_0_3, rv_0_4, rv_0_6, rv_0_7, rv_0_9, rv_0_10, rv_0_11, rv_0_12, rv_0_13, rv_0_14, rv_1_0, an_2, rv_3_0, rv_3_1, an_4, an_5, rv_6_0, rv_6_1, an_7, an_8, rv_9_0, rv_9_1, an_10, an_11, rv_12_0, rv_12_1, an_13, an_14, rv_15_0, rv_15_1, an_16, an_17, rv_18_0, rv_18_1, an_19, an_20, rv_21_0, rv_21_1, an_22, an_23, rv_24_0, rv_24_1, rv_24_2, an_25, an_26, an_27, rv_28_0, rv_28_1, rv_28_2, an_29, an_30, an_31, rv_32_0, rv_32_1, an_33, an_34, rv_35_0, rv_35_1, rv_35_2, rv_35_3, rv_35_4, rv_35_5, rv_35_6, an_36, an_37, an_38, an_39, an_40, rv_41_0, rv_41_1, rv_41_3, rv_41_4, rv_41_5, an_42, an_43, an_44, an_45, rv_46_0, rv_46_1, rv_46_2, rv_46_3, rv_46_4, rv_46_6, an_47, an_48, rv_49_0, rv_49_1, an_50, rv_51_0, rv_51_1, rv_51_2, rv_51_3, rv_51_4, rv_51_6, rv_51_7, an_52, an_53, an_54, an_55, rv_56_1, rv_56_2, rv_56_3, rv_56_4, rv_56_15, rv_56_16, rv_56_17, rv_56_19, rv_56_22, rv_56_23, rv_56_24, rv_56_25, rv_56_26, rv_56_27, rv_56_28, rv_56_31, rv_56_33, rv_56_35, rv_56_36, rv_56_37, rv_56_39, rv_56_40, rv_56_41, rv_56_42, rv_56_43, rv_56_44, rv_56_46, rv_56_47, rv_56_48, rv_56_49, rv_56_51, rv_56_52, rv_56_54, an_57, an_58, an_59, an_60, an_61, an_62, an_63, an_64, an_65, an_66, an_67, an_68, an_69, an_70, an_71, an_72, an_73, an_74, an_75, an_76, an_77, an_78, an_79, an_80, an_81, an_82, an_83, an_84, an_85, an_86, an_87, og_ix, nm_id, nI_clamp, d.2, or_n S hS _ c, m1_e]
        obtain ⟨h', e, f⟩ := ih k (N / 10) (S ||| 2 ^ (N % 10)) (sI h 42 k (nI (N % 10))) (by omega) (or_lt S hS _ c) (by omega) (by omega)
        refine ⟨h', e, fun q => ?_⟩
        obtain ⟨f1, f2, f3⟩ := f q
        refine ⟨fun j hj => ?_, fun j hj => ?_, by rw [f3, sI_n (Or.inl (by decide))]⟩
        · by_cases ej : j = k
          · subst ej
            rw [rowN_k, f2 j (Nat.le_refl _), sI_s]
          · rw [rowN_j _ (by omega)]
            exact f1 j (by omega)
        · rw [f2 j (by omega), sI_n (Or.inr (by omega))]
      · rw [if_neg (show ¬ nI (N % 10) < 6 by rw [e6]; exact c), decide_eq_false c, Bool.false_and]
        exact ⟨h, rfl, fun q => absurd q (by decide)⟩
def ordB (n G : Nat) (x : Int32) : Bool := decide (¬ x < 0) && mOk n G (pc G) x.toNatClampNeg 0
def gRow (n G : Nat) (row : Nat → Nat) : Prop := rOk n row (pc G) ∧ (∀ j, j < pc G → G.testBit (row j) = true) ∧ ∀ p, G.testBit p = true → ∃ j, j < pc G ∧ row j = p
theorem ord_row {n G : Nat} (hn : n ≤ 6) (hG : G < 2 ^ n) {x : Int32} (h : ordB n G x = true) : gRow n G (rowN x.toNatClampNeg (pc G)) := by
  have h64 := pow_le6 hn
  have p7 := (pc_ok G (by omega)).2
  unfold ordB at h
  rw [Bool.and_eq_true] at h
  have r := mOk_r _ _ _ h.2
  have c := cOk_2 hn hG (pc G) x.toNatClampNeg 0 (by decide) (fun i _ q => by simp at q) (by rw [← pc_N G (by omega)]; show 0 + pc G = pc G; omega)
  rw [h.2] at c
  have c1 := (cOk_1 _ _ _ (by decide) c).2.2
  refine ⟨⟨by omega, fun j hj => (r.1 j hj).1, r.2⟩, fun j hj => (r.1 j hj).2.1, fun p hp => ?_⟩
  rcases c1 p hp with q | q
  · simp at q
  · exact q
theorem e_readC {n G : Nat} (hn : n ≤ 6) (hG : G < 2 ^ n) (x : Int32) (h : AH) : ∃ h', f_X5_readOrder 41 x (nI G) h = some (zb (ordB n G x), h') ∧ (ordB n G x = true → cRw (rowN x.toNatClampNeg (pc G)) (pc G) h') := by
  have h64 := pow_le6 hn
  have p7 := pc_ok G (by omega)
  unfold f_X5_readOrder
  simp only [e_bc, ob_some, nm_id, sI_s, p7.1]
  unfold ordB
  by_cases c : x < 0
  · rw [decide_eq_false (fun q => q c), Bool.false_and]
    obtain ⟨h', e⟩ := e_rdneg (nI G) FU (pc G) x 0 (sI h 41 2 (nI (pc G))) c (by omega) (by unfold FU; omega)
    exact ⟨h', e, fun q => absurd q (by decide)⟩
  · obtain ⟨N, hN, rfl⟩ := nI_of c
    have ce := cOk_2 hn hG (pc G) N 0 (by decide) (fun i _ q => by simp at q) (by rw [← pc_N G (by omega)]; show 0 + pc G = pc G; omega)
    obtain ⟨h', e, f⟩ := e_rdpos (show G < 64 by omega) FU (pc G) N 0 (sI h 41 2 (nI (pc G))) hN (by decide) (by omega) (by unfold FU; omega)
    rw [decide_eq_true c, Bool.true_and, nI_clamp hN, ← ce]
    refine ⟨h', e, fun q => ?_⟩
    obtain ⟨f1, f2, f3⟩ := f q
    exact ⟨by rw [f3, sI_s], f1⟩
/-- the model's reading -/
theorem e_lypos {n G : Nat} (hn : n ≤ 6) (hG : G < 2 ^ n) : ∀ f k N S (h : AH), h.1 56 20 = nI n → N < 2 ^ 31 → S < 64 → k ≤ 6 → k < f → ∃ h', f_X12_layOrder_21 f 56 (nI G) (nI N) (nI S) (nI k - 1) h = some (zb (mOk n G k N S), h') ∧ (mOk n G k N S = true → (∀ j, j < k → h'.1 67 j = nI (rowN N k j)) ∧ (∀ j, k ≤ j → h'.1 67 j = h.1 67 j) ∧ h'.1 56 29 = h.1 56 29) := by
  have h64 := pow_le6 hn
  intro f
  induction f with
  | zero => intro k _ _ _ _ _ _ _ q; omega
  | succ f ih =>
    intro k N S h h20 hN hS hk hkn
    have d := rem10 hN
    rw [f_X12_layOrder_21]
    cases k with
    | zero =>
      rw [if_pos (by decide), mOk]
      refine ⟨h, ?_, fun _ => ⟨fun j hj => absurd hj (by omega), fun _ _ => rfl, rfl⟩⟩
      by_cases c1 : N = 0
      · subst c1
        rw [if_pos (show nI 0 = 0 from rfl), decide_eq_true (rfl : (0 : Nat) = 0)]
        rfl
      · rw [if_neg (nI_ne0 (by omega) hN), decide_eq_false c1]
        rfl
    | succ k =>
      have hN2 : (sI h 67 k (nI (N % 10))).1 56 20 = nI n := h20
      rw [nI_pred, if_neg (nI_pos (by omega)), mOk]
      simp (disch := omega) only [rv_0_0, rv_0_1, rv_0_2, rv_0_3, rv_0_4, rv_0_6, rv_0_7, rv_0_9, rv_0_10, rv_0_11, rv_0_12, rv_0_13, rv_0_14, rv_1_0, an_2, rv_3_0, rv_3_1, an_4, an_5, rv_6_0, rv_6_1, an_7, an_8, rv_9_0, rv_9_1, an_10, an_11, rv_12_0, rv_12_1, an_13, an_14, rv_15_0, rv_15_1, an_16, an_17, rv_18_0, rv_18_1, an_19, an_20, rv_21_0, rv_21_1, an_22, an_23, rv_24_0, rv_24_1, rv_24_2, an_25, an_26, an_27, rv_28_0, rv_28_1, rv_28_2, an_29, an_30, an_31, rv_32_0, rv_32_1, an_33, an_34, rv_35_0, rv_35_1, rv_35_2, rv_35_3, rv_35_4, rv_35_5, rv_35_6, an_36, an_37, an_38, an_39, an_40, rv_41_0, rv_41_1, rv_41_3, rv_41_4, rv_41_5, an_42, an_43, an_44, an_45, rv_46_0, rv_46_1, rv_46_2, rv_46_3, rv_46_4, rv_46_6, an_47, an_48, rv_49_0, rv_49_1, an_50, rv_51_0, rv_51_1, rv_51_2, rv_51_3, rv_51_4, rv_51_6, rv_51_7, an_52, an_53, an_54, an_55, rv_56_1, rv_56_2, rv_56_3, rv_56_4, rv_56_15, rv_56_16, rv_56_17, rv_56_19, rv_56_22, rv_56_23, rv_56_24, rv_56_25, rv_56_26, rv_56_27, rv_56_28, rv_56_31, rv_56_33, rv_56_35, rv_56_36, rv_56_37, rv_56_39, rv_56_40, rv_56_41, rv_56_42, rv_56_43, rv_56_44, rv_56_46, rv_56_47, rv_56_48, rv_56_49, rv_56_51, rv_56_52, rv_56_54, an_57, an_58, an_59, an_60, an_61, an_62, an_63, an_64, an_65, an_66, an_67, an_68, an_69, an_70, an_71, an_72, an_73, an_74, an_75, an_76, an_77, an_78, an_79, an_80, an_81, an_82, an_83, an_84, an_85, an_86, an_87, og_ix, nm_id, nI_clamp, d.1, d.2, if_neg (nI_pos (show N / 10 < 2 ^ 31 by omega)), sI_s, if_neg (nI_pos (show N % 10 < 2 ^ 31 by omega)), hN2, n_le, e_X12_has, ob_some, f_X12_layOrder_99]
      by_cases c1 : n ≤ N % 10
      · rw [if_pos c1, decide_eq_false (by omega), Bool.false_and]
        exact ⟨_, rfl, fun q => absurd q (by decide)⟩
      · rw [if_neg c1, decide_eq_true (by omega), Bool.true_and, inS_tb G (by omega) _ (by omega), inS_tb S hS _ (by omega)]
        cases c2 : G.testBit (N % 10) with
        | false => exact ⟨_, rfl, fun q => absurd q (by simp)⟩
        | true =>
          rw [show zb true = 1 from rfl, if_neg (by decide), Bool.true_and]
          cases c3 : S.testBit (N % 10) with
          | true => exact ⟨_, rfl, fun q => absurd q (by simp)⟩
          | false =>
            rw [show zb false = 0 from rfl, if_pos rfl, or_n S hS _ (by omega), m1_e, Bool.not_false, Bool.true_and]
            obtain ⟨h', e, g⟩ := ih k (N / 10) (S ||| 2 ^ (N % 10)) (sI h 67 k (nI (N % 10))) hN2 (by omega) (or_lt S hS _ (by omega)) (by omega) (by omega)
            refine ⟨h', e, fun q => ?_⟩
            obtain ⟨f1, f2, f3⟩ := g q
            refine ⟨fun j hj => ?_, fun j hj => ?_, by rw [f3, sI_n (Or.inl (by decide))]⟩
            · by_cases ej : j = k
              · subst ej
                rw [rowN_k, f2 j (Nat.le_refl _), sI_s]
              · rw [rowN_j _ (by omega)]
                exact f1 j (by omega)
            · rw [f2 j (by omega), sI_n (Or.inr (by omega))]
theorem pc_pos : ∀ G, G < 64 → 0 < G → 0 < pc G := by decide +kernel
theorem e_layM {n G : Nat} (hn : n ≤ 6) (hG : G < 2 ^ n) (h0 : 0 < G) (x : Int32) (h : AH) (h20 : h.1 56 20 = nI n) : ∃ h', f_X12_layOrder 56 (nI G) x h = some (zb (ordB n G x), h') ∧ (ordB n G x = true → mRw (rowN x.toNatClampNeg (pc G)) (pc G) h') := by
  have h64 := pow_le6 hn
  have p7 := pc_ok G (by omega)
  have pp := pc_pos G (by omega) h0
  have h20' : (sI h 56 29 (nI (pc G))).1 56 20 = nI n := h20
  unfold f_X12_layOrder
  simp only [e_bc, ob_some, nm_id, sI_s, p7.1]
  unfold ordB
  by_cases c : x < 0
  · rw [decide_eq_false (fun q => q c), Bool.false_and]
    have d := neg10 c
    have x0 : x.toInt < 0 := by
      rw [Int32.lt_iff_toInt_lt] at c
      exact c
    obtain ⟨k, hk⟩ : ∃ k, pc G = k + 1 := ⟨pc G - 1, by omega⟩
    rw [hk, nI_pred]
    obtain ⟨f, hf⟩ : ∃ f, FU = f + 1 := ⟨4095, rfl⟩
    rw [hf, f_X12_layOrder_21, if_neg (nI_pos (by omega))]
    simp (disch := omega) only [rv_0_0, rv_0_1, rv_0_2, rv_0_3, rv_0_4, rv_0_6, rv_0_7, rv_0_9, rv_0_10, rv_0_11, rv_0_12, rv_0_13, rv_0_14, rv_1_0, an_2, rv_3_0, rv_3_1, an_4, an_5, rv_6_0, rv_6_1, an_7, an_8, rv_9_0, rv_9_1, an_10, an_11, rv_12_0, rv_12_1, an_13, an_14, rv_15_0, rv_15_1, an_16, an_17, rv_18_0, rv_18_1, an_19, an_20, rv_21_0, rv_21_1, an_22, an_23, rv_24_0, rv_24_1, rv_24_2, an_25, an_26, an_27, rv_28_0, rv_28_1, rv_28_2, an_29, an_30, an_31, rv_32_0, rv_32_1, an_33, an_34, rv_35_0, rv_35_1, rv_35_2, rv_35_3, rv_35_4, rv_35_5, rv_35_6, an_36, an_37, an_38, an_39, an_40, rv_41_0, rv_41_1, rv_41_3, rv_41_4, rv_41_5, an_42, an_43, an_44, an_45, rv_46_0, rv_46_1, rv_46_2, rv_46_3, rv_46_4, rv_46_6, an_47, an_48, rv_49_0, rv_49_1, an_50, rv_51_0, rv_51_1, rv_51_2, rv_51_3, rv_51_4, rv_51_6, rv_51_7, an_52, an_53, an_54, an_55, rv_56_1, rv_56_2, rv_56_3, rv_56_4, rv_56_15, rv_56_16, rv_56_17, rv_56_19, rv_56_22, rv_56_23, rv_56_24, rv_56_25, rv_56_26, rv_56_27, rv_56_28, rv_56_31, rv_56_33, rv_56_35, rv_56_36, rv_56_37, rv_56_39, rv_56_40, rv_56_41, rv_56_42, rv_56_43, rv_56_44, rv_56_46, rv_56_47, rv_56_48, rv_56_49, rv_56_51, rv_56_52, rv_56_54, an_57, an_58, an_59, an_60, an_61, an_62, an_63, an_64, an_65, an_66, an_67, an_68, an_69, an_70, an_71, an_72, an_73, an_74, an_75, an_76, an_77, an_78, an_79, an_80, an_81, an_82, an_83, an_84, an_85, an_86, an_87, og_ix, nm_id, nI_clamp, sI_s, f_X12_layOrder_99]
    by_cases c1 : x / 10 < 0
    · rw [if_pos c1]
      exact ⟨_, rfl, fun q => absurd q (by decide)⟩
    · rw [if_neg c1, if_pos]
      · exact ⟨_, rfl, fun q => absurd q (by decide)⟩
      · rw [Int32.lt_iff_toInt_lt, d.1, show (0 : Int32).toInt = 0 from rfl] at c1
        rw [Int32.lt_iff_toInt_lt, d.2, show (0 : Int32).toInt = 0 from rfl]
        omega
  · obtain ⟨N, hN, rfl⟩ := nI_of c
    obtain ⟨h', e, f⟩ := e_lypos hn hG FU (pc G) N 0 (sI h 56 29 (nI (pc G))) h20' hN (by decide) (by omega) (by unfold FU; omega)
    rw [decide_eq_true c, Bool.true_and, nI_clamp hN]
    refine ⟨h', e, fun q => ?_⟩
    obtain ⟨f1, f2, f3⟩ := f q
    exact ⟨by rw [f3, sI_s], f1⟩
