/-! the door, guests -/
theorem e_fill {k : Nat} (hk : an k < 4096) (x : Int32) (h : AH) : ∃ h', f_J7_fill_53178 k x h = some h' ∧ (∀ j, j < an k → h'.1 k j = x) ∧ Agr ((k, 1000) :: []) h h' := by
  unfold f_J7_fill_53178
  rw [nm_id]
  have W : ∀ j, Wmem ((k, 1000) :: []) k j = true := fun j => Wmem_iff.mpr ⟨(k, 1000), List.mem_cons_self .., rfl, Or.inl rfl⟩
  refine lp (fun n i g => ∃ h', f_J7_fill_53178_5 n k x (nI i) (nI (an k)) g = some h' ∧ (∀ j, j < an k → h'.1 k j = x) ∧ Agr ((k, 1000) :: []) h h') (fun i g => (∀ j, j < i → g.1 k j = x) ∧ Agr ((k, 1000) :: []) h g) (an k) hk ?_ ?_ ⟨fun j hj => absurd hj (by omega), agr_refl h⟩
  · rintro n g ⟨g1, g2⟩
    rw [f_J7_fill_53178_5, if_pos (by rw [nI_leI (by omega) (by omega)]; omega)]
    exact ⟨g, rfl, g1, g2⟩
  · rintro n i g hi ⟨g1, g2⟩ K
    rw [f_J7_fill_53178_5, if_neg (by rw [nI_leI (by omega) (by omega)]; omega), og_ix hi (by omega), nm_id, nm_id, nI_1, nI_clamp (by omega)]
    refine K _ ⟨fun j hj => ?_, agr_sI g2 (W i)⟩
    by_cases e : j = i
    · subst e
      exact sI_s ..
    · rw [sI_n (Or.inr e)]
      exact g1 j (by omega)
theorem e_forget (h : AH) : ∃ h', f_X2_forget 35 h = some h' ∧ (∀ j, j < 252 → h'.1 38 j = -2) ∧ (∀ j, j < 384 → h'.1 39 j = -2) := by
  unfold f_X2_forget
  obtain ⟨h1, e1, a1, b1⟩ := e_fill (k := 38) (by rw [an_38]; omega) (-2) h
  obtain ⟨h2, e2, a2, b2⟩ := e_fill (k := 39) (by rw [an_39]; omega) (-2) h1
  rw [rv_35_4, rv_35_5, e1, ov_some, e2, ov_some]
  refine ⟨h2, rfl, fun j hj => ?_, a2⟩
  rw [agr_cell b2 38 rfl]
  exact a1 j hj
theorem e_open (h : AH) : ∃ h', f_X2_open 35 24 h = some h' ∧ (∀ i, i < 6 → h'.1 36 i = h.1 4 (i * 7 + 3) ∧ h'.1 37 i = h.1 27 i) ∧ (∀ j, j < 252 → h'.1 38 j = -2) ∧ (∀ j, j < 384 → h'.1 39 j = -2) := by
  unfold f_X2_open
  refine lp (fun n i g => ∃ h', f_X2_open_2 n 35 24 (nI i) g = some h' ∧ (∀ i, i < 6 → h'.1 36 i = h.1 4 (i * 7 + 3) ∧ h'.1 37 i = h.1 27 i) ∧ (∀ j, j < 252 → h'.1 38 j = -2) ∧ (∀ j, j < 384 → h'.1 39 j = -2)) (fun i g => (∀ j, j < i → g.1 36 j = h.1 4 (j * 7 + 3) ∧ g.1 37 j = h.1 27 j) ∧ g.1 4 = h.1 4 ∧ g.1 27 = h.1 27) 6 (by decide) ?_ ?_ ⟨fun j hj => absurd hj (by omega), rfl, rfl⟩
  · rintro n g ⟨g1, g2, g3⟩
    obtain ⟨h1, e1, a1, b1⟩ := e_forget g
    rw [f_X2_open_2, if_pos (by decide), e1, ov_some]
    refine ⟨h1, rfl, fun i hi => ?_, a1, b1⟩
    have fr : Agr W_X2_forget_i35 g h1 := w_f_X2_forget_i35 _ _ e1
    rw [agr_cell fr 36 rfl, agr_cell fr 37 rfl]
    exact g1 i hi
  · rintro n i g hi ⟨g1, g2, g3⟩ K
    have it : f_X6_item 3 (nI i) 3 g = some (g.1 4 (i * 7 + 3), g) := by
      unfold f_X6_item
      simp (disch := omega) only [k_mul, k_mul', k_add, k_le, k_le', k_lt, k_lt', k_eq, n_le, n_lt, n_eq, n_m1, nI_add, pk_mul, rv_0_0, rv_0_1, rv_0_2, rv_0_3, rv_0_4, rv_0_6, rv_0_7, rv_0_9, rv_0_10, rv_0_11, rv_0_12, rv_0_13, rv_0_14, rv_1_0, an_2, rv_3_0, rv_3_1, an_4, an_5, rv_6_0, rv_6_1, an_7, an_8, rv_9_0, rv_9_1, an_10, an_11, rv_12_0, rv_12_1, an_13, an_14, rv_15_0, rv_15_1, an_16, an_17, rv_18_0, rv_18_1, an_19, an_20, rv_21_0, rv_21_1, an_22, an_23, rv_24_0, rv_24_1, rv_24_2, an_25, an_26, an_27, rv_28_0, rv_28_1, rv_28_2, an_29, an_30, an_31, rv_32_0, rv_32_1, an_33, an_34, rv_35_0, rv_35_1, rv_35_2, rv_35_3, rv_35_4, rv_35_5, rv_35_6, an_36, an_37, an_38, an_39, an_40, rv_41_0, rv_41_1, rv_41_3, rv_41_4, rv_41_5, an_42, an_43, an_44, an_45, rv_46_0, rv_46_1, rv_46_2, rv_46_3, rv_46_4, rv_46_6, an_47, an_48, rv_49_0, rv_49_1, an_50, rv_51_0, rv_51_1, rv_51_2, rv_51_3, rv_51_4, rv_51_6, rv_51_7, an_52, an_53, an_54, an_55, rv_56_1, rv_56_2, rv_56_3, rv_56_4, rv_56_15, rv_56_16, rv_56_17, rv_56_19, rv_56_22, rv_56_23, rv_56_24, rv_56_25, rv_56_26, rv_56_27, rv_56_28, rv_56_31, rv_56_33, rv_56_35, rv_56_36, rv_56_37, rv_56_39, rv_56_40, rv_56_41, rv_56_42, rv_56_43, rv_56_44, rv_56_46, rv_56_47, rv_56_48, rv_56_49, rv_56_51, rv_56_52, rv_56_54, an_57, an_58, an_59, an_60, an_61, an_62, an_63, an_64, an_65, an_66, an_67, an_68, an_69, an_70, an_71, an_72, an_73, an_74, an_75, an_76, an_77, an_78, an_79, an_80, an_81, an_82, an_83, an_84, an_85, an_86, an_87, og_ix, nI_clamp]
    rw [f_X2_open_2]
    simp (disch := omega) only [if_neg (show ¬ (6 : Int32) ≤ nI i by rw [show (6 : Int32) = nI 6 from rfl, nI_leI (by decide) (by omega)]; omega), rv_0_0, rv_0_1, rv_0_2, rv_0_3, rv_0_4, rv_0_6, rv_0_7, rv_0_9, rv_0_10, rv_0_11, rv_0_12, rv_0_13, rv_0_14, rv_1_0, an_2, rv_3_0, rv_3_1, an_4, an_5, rv_6_0, rv_6_1, an_7, an_8, rv_9_0, rv_9_1, an_10, an_11, rv_12_0, rv_12_1, an_13, an_14, rv_15_0, rv_15_1, an_16, an_17, rv_18_0, rv_18_1, an_19, an_20, rv_21_0, rv_21_1, an_22, an_23, rv_24_0, rv_24_1, rv_24_2, an_25, an_26, an_27, rv_28_0, rv_28_1, rv_28_2, an_29, an_30, an_31, rv_32_0, rv_32_1, an_33, an_34, rv_35_0, rv_35_1, rv_35_2, rv_35_3, rv_35_4, rv_35_5, rv_35_6, an_36, an_37, an_38, an_39, an_40, rv_41_0, rv_41_1, rv_41_3, rv_41_4, rv_41_5, an_42, an_43, an_44, an_45, rv_46_0, rv_46_1, rv_46_2, rv_46_3, rv_46_4, rv_46_6, an_47, an_48, rv_49_0, rv_49_1, an_50, rv_51_0, rv_51_1, rv_51_2, rv_51_3, rv_51_4, rv_51_6, rv_51_7, an_52, an_53, an_54, an_55, rv_56_1, rv_56_2, rv_56_3, rv_56_4, rv_56_15, rv_56_16, rv_56_17, rv_56_19, rv_56_22, rv_56_23, rv_56_24, rv_56_25, rv_56_26, rv_56_27, rv_56_28, rv_56_31, rv_56_33, rv_56_35, rv_56_36, rv_56_37, rv_56_39, rv_56_40, rv_56_41, rv_56_42, rv_56_43, rv_56_44, rv_56_46, rv_56_47, rv_56_48, rv_56_49, rv_56_51, rv_56_52, rv_56_54, an_57, an_58, an_59, an_60, an_61, an_62, an_63, an_64, an_65, an_66, an_67, an_68, an_69, an_70, an_71, an_72, an_73, an_74, an_75, an_76, an_77, an_78, an_79, an_80, an_81, an_82, an_83, an_84, an_85, an_86, an_87, it, ob_some, og_ix, nm_id, nI_clamp, nI_1]
    refine K _ ⟨fun j hj => ?_, g2, g3⟩
    by_cases e : j = i
    · subst e
      rw [sI_n (Or.inl (by decide)), sI_s, sI_s, sI_n (Or.inl (by decide)), g2, g3]
      exact ⟨rfl, rfl⟩
    · rw [sI_n (Or.inl (by decide)), sI_n (Or.inr e), sI_n (Or.inr e), sI_n (Or.inl (by decide))]
      exact g1 j (by omega)
def zoB (b : Nat → Bool) : Nat → Nat
  | 0 => 0
  | k + 1 => if b k = true then zoB b k + 2 ^ k else zoB b k
theorem zoB_lt (b : Nat → Bool) : ∀ k, zoB b k < 2 ^ k := by
  intro k
  induction k with
  | zero => exact Nat.one_pos
  | succ k ih =>
    rw [zoB, Nat.pow_succ]
    split <;> omega
theorem zoB_tb (b : Nat → Bool) : ∀ k i, (zoB b k).testBit i = (decide (i < k) && b i) := by
  intro k
  induction k with
  | zero => intro i; simp [zoB]
  | succ k ih =>
    intro i
    have lt := zoB_lt b k
    rw [zoB]
    by_cases hb : b k = true
    · rw [if_pos hb, Nat.add_comm]
      by_cases e : i = k
      · subst e
        rw [Nat.testBit_two_pow_add_eq, ih, hb]
        simp
      · by_cases l : i < k
        · rw [Nat.testBit_two_pow_add_gt l, ih]
          simp [l, show i < k + 1 by omega]
        · rw [Nat.testBit_lt_two_pow (Nat.lt_of_lt_of_le (show 2 ^ k + zoB b k < 2 ^ (k + 1) by rw [Nat.pow_succ]; omega) (Nat.pow_le_pow_right (by decide) (by omega)))]
          simp [show ¬ i < k + 1 by omega]
    · rw [if_neg hb, ih]
      by_cases e : i = k
      · subst e
        simp [hb]
      · simp [show (i < k + 1) = (i < k) from propext ⟨fun q => by omega, fun q => by omega⟩]
theorem or_bit : ∀ D, D < 64 → ∀ k, k < 6 → D < 2 ^ k → nI D ||| ((1 : Int32) <<< (nI k &&& 31)) = nI (D + 2 ^ k) := by decide +kernel
theorem zoB_or (b : Nat → Bool) {k : Nat} (hk : k < 6) : nI (zoB b k) ||| ((1 : Int32) <<< (nI k &&& 31)) = nI (zoB b k + 2 ^ k) := or_bit _ (Nat.lt_of_lt_of_le (zoB_lt b k) (pow_le6 (by omega))) k hk (zoB_lt b k)
def bq (v : Wd) (u G q : Nat) : Bool := decide (v.pl q = nI (10 + u)) || (decide (v.pl q < 10) && inS (nI G) (v.pl q))
def door (v : Wd) (u G : Nat) : Nat := zoB (bq v u G) v.n
theorem door_lt (v : Wd) (u G : Nat) : door v u G < 2 ^ v.n := zoB_lt _ _
theorem e_pairsAt {v : Wd} {h : AH} (hn : v.n ≤ 6) (so : SOk v.n v.has v.pl v.wo) (hp : ∀ q, q < v.n → h.1 26 q = v.pl q) (h6 : ∀ q, v.n ≤ q → q < 6 → h.1 26 q = -1) {u G : Nat} (hu : u < 4) (hG : G < 64) : f_X9_pairsAt 24 (nI u) (nI G) h = some (nI (door v u G), h) := by
  unfold f_X9_pairsAt
  have zx : ∀ k, v.n ≤ k → k ≤ 6 → zoB (fun q => decide (q < v.n) && bq v u G q) k = door v u G := by
    have z0 : ∀ k, k ≤ v.n → zoB (fun q => decide (q < v.n) && bq v u G q) k = zoB (bq v u G) k := by
      intro k
      induction k with
      | zero => intro _; rfl
      | succ k ih =>
        intro hk
        rw [zoB, zoB, ih (by omega)]
        simp [show k < v.n by omega]
    intro k
    induction k with
    | zero =>
      intro a _
      rw [z0 0 (by omega)]
      unfold door
      rw [show v.n = 0 by omega]
    | succ k ih =>
      intro a b
      by_cases e : v.n = k + 1
      · rw [← e]
        exact z0 _ (Nat.le_refl _)
      · rw [zoB, if_neg (by simp [show ¬ k < v.n by omega]), ih (by omega) (by omega)]
  refine lp (fun n i s => f_X9_pairsAt_5 n 24 (nI u) (nI G) s (nI i) h = some (nI (door v u G), h)) (fun i s => s = nI (zoB (fun q => decide (q < v.n) && bq v u G q) i)) 6 (by decide) ?_ ?_ rfl
  · rintro n s rfl
    rw [f_X9_pairsAt_5, if_pos (by decide), zx 6 hn (by omega)]
  · rintro n i s hi rfl K
    have zo := zoB_or (fun q => decide (q < v.n) && bq v u G q) hi
    rw [f_X9_pairsAt_5]
    simp (disch := omega) only [if_neg (show ¬ (6 : Int32) ≤ nI i by rw [show (6 : Int32) = nI 6 from rfl, nI_leI (by decide) (by omega)]; omega), rv_0_0, rv_0_1, rv_0_2, rv_0_3, rv_0_4, rv_0_6, rv_0_7, rv_0_9, rv_0_10, rv_0_11, rv_0_12, rv_0_13, rv_0_14, rv_1_0, an_2, rv_3_0, rv_3_1, an_4, an_5, rv_6_0, rv_6_1, an_7, an_8, rv_9_0, rv_9_1, an_10, an_11, rv_12_0, rv_12_1, an_13, an_14, rv_15_0, rv_15_1, an_16, an_17, rv_18_0, rv_18_1, an_19, an_20, rv_21_0, rv_21_1, an_22, an_23, rv_24_0, rv_24_1, rv_24_2, an_25, an_26, an_27, rv_28_0, rv_28_1, rv_28_2, an_29, an_30, an_31, rv_32_0, rv_32_1, an_33, an_34, rv_35_0, rv_35_1, rv_35_2, rv_35_3, rv_35_4, rv_35_5, rv_35_6, an_36, an_37, an_38, an_39, an_40, rv_41_0, rv_41_1, rv_41_3, rv_41_4, rv_41_5, an_42, an_43, an_44, an_45, rv_46_0, rv_46_1, rv_46_2, rv_46_3, rv_46_4, rv_46_6, an_47, an_48, rv_49_0, rv_49_1, an_50, rv_51_0, rv_51_1, rv_51_2, rv_51_3, rv_51_4, rv_51_6, rv_51_7, an_52, an_53, an_54, an_55, rv_56_1, rv_56_2, rv_56_3, rv_56_4, rv_56_15, rv_56_16, rv_56_17, rv_56_19, rv_56_22, rv_56_23, rv_56_24, rv_56_25, rv_56_26, rv_56_27, rv_56_28, rv_56_31, rv_56_33, rv_56_35, rv_56_36, rv_56_37, rv_56_39, rv_56_40, rv_56_41, rv_56_42, rv_56_43, rv_56_44, rv_56_46, rv_56_47, rv_56_48, rv_56_49, rv_56_51, rv_56_52, rv_56_54, an_57, an_58, an_59, an_60, an_61, an_62, an_63, an_64, an_65, an_66, an_67, an_68, an_69, an_70, an_71, an_72, an_73, an_74, an_75, an_76, an_77, an_78, an_79, an_80, an_81, an_82, an_83, an_84, an_85, an_86, an_87, og_ix, nm_id, nI_clamp, f_X9_pairsAt_37, f_X9_pairsAt_38, f_X9_pairsAt_63, f_X9_pairsAt_70, nI_1, e_X11_isIn, ob_some, zo]
    have Kt : (decide (i < v.n) && bq v u G i) = true → f_X9_pairsAt_5 n 24 (nI u) (nI G) (nI (zoB (fun q => decide (q < v.n) && bq v u G q) i + 2 ^ i)) (nI (i + 1)) h = some (nI (door v u G), h) := fun q => K _ (by rw [zoB, if_pos q])
    have Kf : (decide (i < v.n) && bq v u G i) = false → f_X9_pairsAt_5 n 24 (nI u) (nI G) (nI (zoB (fun q => decide (q < v.n) && bq v u G q) i)) (nI (i + 1)) h = some (nI (door v u G), h) := fun q => K _ (by rw [zoB, if_neg (by rw [q]; decide)])
    have e10 : (10 : Int32) + nI u = nI (10 + u) := nI_add 10 u
    rw [e10]
    by_cases c : i < v.n
    · rw [hp i c]
      rcases so.2.1 i c with ⟨p, hp', e, _⟩ | ⟨w, hw, e⟩
      · have bb : bq v u G i = inS (nI G) (nI p) := by
          unfold bq
          rw [e, decide_eq_false (by rw [n_eq (by omega) (by omega)]; omega), decide_eq_true (by rw [show (10 : Int32) = nI 10 from rfl, nI_ltI (by omega) (by decide)]; omega)]
          rfl
        rw [e, if_neg (nI_pos (by omega)), if_neg (by rw [show (6 : Int32) = nI 6 from rfl, nI_leI (by decide) (by omega)]; omega), if_neg (by rw [n_eq (by omega) (by omega)]; omega), if_neg (by decide)]
        cases hb : inS (nI G) (nI p) with
        | true => exact Kt (by rw [bb, hb]; simp [c])
        | false => exact Kf (by rw [bb, hb]; simp)
      · have bb : bq v u G i = decide (w = u) := by
          unfold bq
          rw [e, show decide (nI (10 + w) < 10) = false from decide_eq_false (by rw [show (10 : Int32) = nI 10 from rfl, nI_ltI (by omega) (by decide)]; omega)]
          rw [Bool.false_and, Bool.or_false, decide_eq_decide, nI_eq (by omega) (by omega)]
          omega
        rw [e, if_neg (nI_pos (by omega)), if_pos (by rw [show (6 : Int32) = nI 6 from rfl, nI_leI (by decide) (by omega)]; omega)]
        by_cases d : w = u
        · rw [if_pos (by rw [d])]
          exact Kt (by rw [bb]; simp [c, d])
        · rw [if_neg (by rw [n_eq (by omega) (by omega)]; omega), if_pos trivial]
          exact Kf (by rw [bb]; simp [d])
    · rw [h6 i (by omega) hi, if_pos (by decide), if_neg (by
        intro q
        have := nI_pos (n := 10 + u) (by omega)
        rw [← q] at this
        exact this (by decide)), if_pos trivial]
      exact Kf (by simp [c])
theorem e_doorOf {v : Wd} {h : AH} (hn : v.n ≤ 6) (so : SOk v.n v.has v.pl v.wo) (h20 : h.1 56 20 = nI v.n) (hp : ∀ q, q < v.n → h.1 63 q = v.pl q) {u G : Nat} (hu : u < 4) (hG : G < 64) : f_X12_doorOf 56 (nI u) (nI G) h = some (nI (door v u G), h) := by
  unfold f_X12_doorOf
  refine lp (fun n i s => f_X12_doorOf_5 n 56 (nI u) (nI G) s (nI i) h = some (nI (door v u G), h)) (fun i s => s = nI (zoB (bq v u G) i)) v.n (by omega) ?_ ?_ rfl
  · rintro n s rfl
    rw [f_X12_doorOf_5, h20, if_pos (by rw [nI_leI (by omega) (by omega)]; omega)]
    rfl
  · rintro n i s hi rfl K
    have zo := zoB_or (bq v u G) (k := i) (by omega)
    have Kt : bq v u G i = true → f_X12_doorOf_5 n 56 (nI u) (nI G) (nI (zoB (bq v u G) i + 2 ^ i)) (nI (i + 1)) h = some (nI (door v u G), h) := fun q => K _ (by rw [zoB, if_pos q])
    have Kf : bq v u G i = false → f_X12_doorOf_5 n 56 (nI u) (nI G) (nI (zoB (bq v u G) i)) (nI (i + 1)) h = some (nI (door v u G), h) := fun q => K _ (by rw [zoB, if_neg (by rw [q]; decide)])
    rw [f_X12_doorOf_5]
    have e10 : (10 : Int32) + nI u = nI (10 + u) := nI_add 10 u
    simp (disch := omega) only [h20, if_neg (show ¬ nI v.n ≤ nI i by rw [nI_leI (by omega) (by omega)]; omega), rv_0_0, rv_0_1, rv_0_2, rv_0_3, rv_0_4, rv_0_6, rv_0_7, rv_0_9, rv_0_10, rv_0_11, rv_0_12, rv_0_13, rv_0_14, rv_1_0, an_2, rv_3_0, rv_3_1, an_4, an_5, rv_6_0, rv_6_1, an_7, an_8, rv_9_0, rv_9_1, an_10, an_11, rv_12_0, rv_12_1, an_13, an_14, rv_15_0, rv_15_1, an_16, an_17, rv_18_0, rv_18_1, an_19, an_20, rv_21_0, rv_21_1, an_22, an_23, rv_24_0, rv_24_1, rv_24_2, an_25, an_26, an_27, rv_28_0, rv_28_1, rv_28_2, an_29, an_30, an_31, rv_32_0, rv_32_1, an_33, an_34, rv_35_0, rv_35_1, rv_35_2, rv_35_3, rv_35_4, rv_35_5, rv_35_6, an_36, an_37, an_38, an_39, an_40, rv_41_0, rv_41_1, rv_41_3, rv_41_4, rv_41_5, an_42, an_43, an_44, an_45, rv_46_0, rv_46_1, rv_46_2, rv_46_3, rv_46_4, rv_46_6, an_47, an_48, rv_49_0, rv_49_1, an_50, rv_51_0, rv_51_1, rv_51_2, rv_51_3, rv_51_4, rv_51_6, rv_51_7, an_52, an_53, an_54, an_55, rv_56_1, rv_56_2, rv_56_3, rv_56_4, rv_56_15, rv_56_16, rv_56_17, rv_56_19, rv_56_22, rv_56_23, rv_56_24, rv_56_25, rv_56_26, rv_56_27, rv_56_28, rv_56_31, rv_56_33, rv_56_35, rv_56_36, rv_56_37, rv_56_39, rv_56_40, rv_56_41, rv_56_42, rv_56_43, rv_56_44, rv_56_46, rv_56_47, rv_56_48, rv_56_49, rv_56_51, rv_56_52, rv_56_54, an_57, an_58, an_59, an_60, an_61, an_62, an_63, an_64, an_65, an_66, an_67, an_68, an_69, an_70, an_71, an_72, an_73, an_74, an_75, an_76, an_77, an_78, an_79, an_80, an_81, an_82, an_83, an_84, an_85, an_86, an_87, og_ix, nm_id, nI_clamp, f_X12_doorOf_54, f_X12_doorOf_61, nI_1, e_X12_has, ob_some, zo, hp i hi, e10]
    rcases so.2.1 i hi with ⟨p, hp', e, _⟩ | ⟨w, hw, e⟩
    · have bb : bq v u G i = inS (nI G) (nI p) := by
        unfold bq
        rw [e, decide_eq_false (by rw [n_eq (by omega) (by omega)]; omega), decide_eq_true (by rw [show (10 : Int32) = nI 10 from rfl, nI_ltI (by omega) (by decide)]; omega)]
        rfl
      rw [e, if_neg (by rw [n_eq (by omega) (by omega)]; omega), if_neg (by rw [show (10 : Int32) = nI 10 from rfl, nI_leI (by decide) (by omega)]; omega)]
      cases hb : inS (nI G) (nI p) with
      | true => exact Kt (by rw [bb, hb])
      | false => exact Kf (by rw [bb, hb])
    · have bb : bq v u G i = decide (w = u) := by
        unfold bq
        rw [e, show decide (nI (10 + w) < 10) = false from decide_eq_false (by rw [show (10 : Int32) = nI 10 from rfl, nI_ltI (by omega) (by decide)]; omega)]
        rw [Bool.false_and, Bool.or_false, decide_eq_decide, nI_eq (by omega) (by omega)]
        omega
      rw [e]
      by_cases d : w = u
      · rw [if_pos (by rw [d])]
        exact Kt (by rw [bb]; simp [d])
      · rw [if_neg (by rw [n_eq (by omega) (by omega)]; omega), if_pos (by rw [show (10 : Int32) = nI 10 from rfl, nI_leI (by decide) (by omega)]; omega)]
        exact Kf (by rw [bb]; simp [d])
/-- the class's world, the model's -/
def cB (v : Wd) (h : AH) : Prop := cP v h ∧ rO v ∧ szB v (fun q => v.it q 3) v.wo ∧ SOk v.n v.has v.pl v.wo ∧ v.n ≠ 0 ∧ (∀ p, p < v.n → h.1 5 p = v.ro p) ∧ (∀ r, r < v.rc → h.1 (12 + 3 * r) 2 = nI (v.cl r) ∧ ∀ j, j < v.cl r → h.1 (13 + 3 * r) j = v.co r j) ∧ (∀ q, q < v.n → h.1 25 q = v.has q ∧ h.1 26 q = v.pl q ∧ h.1 27 q = nI (v.wo q)) ∧ ∀ q, v.n ≤ q → q < 6 → h.1 26 q = -1
def STb : List (Nat × Nat) := (3, 2) :: (4, 1000) :: (5, 1000) :: (12, 2) :: (15, 2) :: (18, 2) :: (21, 2) :: (13, 1000) :: (16, 1000) :: (19, 1000) :: (22, 1000) :: (25, 1000) :: (26, 1000) :: (27, 1000) :: []
theorem cB_eq {v : Wd} {h0 h : AH} (e : EqOn STb h0 h) (F : cB v h0) : cB v h := by
  have hr : ∀ r, r < 4 → h.1 (12 + 3 * r) 2 = h0.1 (12 + 3 * r) 2 ∧ h.1 (13 + 3 * r) = h0.1 (13 + 3 * r) := by
    intro r hr
    match r, hr with
    | 0, _ => exact ⟨e _ _ rfl, eqOn_c e _ (fun j => rfl)⟩
    | 1, _ => exact ⟨e _ _ rfl, eqOn_c e _ (fun j => rfl)⟩
    | 2, _ => exact ⟨e _ _ rfl, eqOn_c e _ (fun j => rfl)⟩
    | 3, _ => exact ⟨e _ _ rfl, eqOn_c e _ (fun j => rfl)⟩
  obtain ⟨F1, F2, F3, F4, F5, F6, F7, F8, F9⟩ := F
  unfold cB cP
  rw [e 3 2 rfl, eqOn_c e 4 (fun _ => rfl), eqOn_c e 5 (fun _ => rfl), eqOn_c e 25 (fun _ => rfl), eqOn_c e 26 (fun _ => rfl), eqOn_c e 27 (fun _ => rfl)]
  refine ⟨F1, F2, F3, F4, F5, F6, fun r q => ?_, F8, F9⟩
  have h4 := F2.1
  rw [(hr r (by omega)).1, (hr r (by omega)).2]
  exact F7 r q
theorem cB_agr {W : List (Nat × Nat)} {v : Wd} {h0 h : AH} (a : Agr W h0 h) (d : Wdis W STb = true) (F : cB v h0) : cB v h := cB_eq (agr_on a d) F
def mB (v : Wd) (h : AH) : Prop := mG v (fun q => v.it q 3) v.wo h ∧ SOk v.n v.has v.pl v.wo ∧ v.n ≠ 0 ∧ ∀ q, q < v.n → h.1 62 q = v.has q ∧ h.1 63 q = v.pl q
def STn : List (Nat × Nat) := (56, 20) :: (58, 1000) :: (59, 1000) :: (61, 1000) :: (62, 1000) :: (63, 1000) :: (64, 1000) :: (65, 1000) :: (66, 1000) :: []
theorem mB_agr {W : List (Nat × Nat)} {v : Wd} {h0 h : AH} (a : Agr W h0 h) (d : Wdis W STn = true) (F : mB v h0) : mB v h := by
  have e := agr_on a d
  refine ⟨mG_eq (eqOn_sub e rfl) F.1, F.2.1, F.2.2.1, fun q hq => ?_⟩
  rw [eqOn_c e 62 (fun _ => rfl), eqOn_c e 63 (fun _ => rfl)]
  exact F.2.2.2 q hq
theorem RelV.cB {v : Wd} {h : AH} (R : RelV v h) (n0 : v.n ≠ 0) : cB v h := ⟨R.cP, R.rO, fun q hq => ⟨(R.ib hq (i := 3) (by omega)).2, R.wb hq⟩, R.so, n0, fun p hp => R.cr hp, fun r hr => ⟨(R.2.2.2.1.2.2.2 r hr).1, (R.2.2.2.1.2.2.2 r hr).2.1⟩, fun q hq => ⟨R.ch hq, R.cp hq, R.cw hq⟩, fun q h1 h2 => by rw [R.cpn h1 h2, if_neg n0]⟩
theorem RelV.mB {v : Wd} {h : AH} (R : RelV v h) (n0 : v.n ≠ 0) : mB v h := ⟨R.mG, R.so, n0, fun q hq => ⟨R.mh hq, R.mp hq⟩⟩
theorem cB.n6 {v : Wd} {h : AH} (B : cB v h) : v.n ≤ 6 := B.1.1.1
theorem cB.cn {v : Wd} {h : AH} (B : cB v h) : h.1 3 2 = nI v.n := B.1.2.1
theorem mB.n6 {v : Wd} {h : AH} (B : mB v h) : v.n ≤ 6 := B.1.1.1.1
theorem mB.mn {v : Wd} {h : AH} (B : mB v h) : h.1 56 20 = nI v.n := B.1.1.2.1
/-- the door, opened -/
theorem e_opened {v : Wd} {h : AH} (B : cB v h) : ∃ h', f_X2_open 35 24 h = some h' ∧ cB v h' ∧ cZ v (fun q => v.it q 3) v.wo h' := by
  obtain ⟨h', e, a, b, c⟩ := e_open h
  have fr := w_f_X2_open_i35_24 _ _ e
  have B' := cB_agr fr rfl B
  have hn := B.n6
  have h64 := pow_le6 hn
  refine ⟨h', e, B', ⟨B'.1, B'.2.1, B'.2.2.1, B'.2.2.2.2.2.1, B'.2.2.2.2.2.2.1, fun q hq => ?_⟩, fun p hp q hq st hs => Or.inl (b _ (by omega)), fun p hp D hD => Or.inl (c _ (by omega))⟩
  rw [(a q (by omega)).1, (a q (by omega)).2]
  exact ⟨B.1.2.2 q hq 3 (by omega), (B.2.2.2.2.2.2.2.1 q hq).2.2⟩
theorem e_openDoor {v : Wd} {h : AH} (B : cB v h) {u G : Nat} (hu : u < 4) (hG : G < 64) : ∃ h', f_X11_openDoor 0 (nI u) (nI G) h = some (nI (door v u G), h') ∧ cB v h' ∧ cZ v (fun q => v.it q 3) v.wo h' ∧ Agr W_X2_open_i35_24 h h' := by
  obtain ⟨h', e, B', Z⟩ := e_opened B
  refine ⟨h', ?_, B', Z, w_f_X2_open_i35_24 _ _ e⟩
  unfold f_X11_openDoor
  rw [rv_0_10, rv_0_6, e, ov_some, e_pairsAt B.n6 B.2.2.2.1 (fun q hq => (B'.2.2.2.2.2.2.2.1 q hq).2.1) B'.2.2.2.2.2.2.2.2 hu hG, ob_some]
theorem mB.door {v : Wd} {h : AH} (B : mB v h) {u G : Nat} (hu : u < 4) (hG : G < 64) : f_X12_doorOf 56 (nI u) (nI G) h = some (nI (door v u G), h) := e_doorOf B.n6 B.2.1 B.mn (fun q hq => (B.2.2.2 q hq).2) hu hG
/-- party -/
def ptB (n : Nat) (a b : Int32) : Bool := decide (¬ a < 0 ∧ ¬ 4 ≤ a ∧ ¬ b ≤ 0 ∧ ¬ nI (2 ^ n) ≤ b)
theorem shl_n : ∀ n, n < 7 → (1 : Int32) <<< (nI n &&& 31) = nI (2 ^ n) := by decide +kernel
theorem ptB_iff {n : Nat} (hn : n ≤ 6) {a b : Int32} : ptB n a b = true ↔ ∃ u G, u < 4 ∧ a = nI u ∧ 0 < G ∧ G < 2 ^ n ∧ b = nI G := by
  have h64 := pow_le6 hn
  unfold ptB
  rw [decide_eq_true_eq]
  constructor
  · rintro ⟨a1, a2, a3, a4⟩
    obtain ⟨u, hu, rfl⟩ := nI_of a1
    obtain ⟨G, hG, rfl⟩ := nI_of (x := b) (fun q => a3 (by rw [Int32.lt_iff_toInt_lt] at q; rw [Int32.le_iff_toInt_le]; omega))
    rw [show (4 : Int32) = nI 4 from rfl, nI_leI (by decide) hu] at a2
    rw [show (0 : Int32) = nI 0 from rfl, nI_leI hG (by decide)] at a3
    rw [nI_leI (by omega) hG] at a4
    exact ⟨u, G, by omega, rfl, by omega, by omega, rfl⟩
  · rintro ⟨u, G, hu, rfl, h0, hG, rfl⟩
    rw [show (4 : Int32) = nI 4 from rfl, nI_leI (by decide) (by omega), nI_leI (by omega) (by omega)]
    refine ⟨nI_pos (by omega), by omega, nI_nle h0 (by omega), by omega⟩
theorem e_isParty {h : AH} {n : Nat} (hn : n ≤ 6) (e : h.1 3 2 = nI n) (a b : Int32) : f_X11_isParty 0 a b h = some (zb (ptB n a b), h) := by
  have h64 := pow_le6 hn
  have p1 := Nat.two_pow_pos n
  unfold f_X11_isParty f_X11_everybody ptB
  simp only [rv_0_1, e, shl_n n (by omega), ob_some, f_X11_isParty_25, f_X11_isParty_26]
  by_cases c1 : a < 0
  · simp [c1]
    rfl
  · by_cases c2 : 4 ≤ a
    · simp [c1, c2]
      rfl
    · by_cases c3 : b ≤ 0
      · simp [c1, c2, c3]
        rfl
      · obtain ⟨G, hG, rfl⟩ := nI_of (x := b) (fun q => c3 (by rw [Int32.lt_iff_toInt_lt] at q; rw [Int32.le_iff_toInt_le]; omega))
        have e1 : nI (2 ^ n) - 1 = nI (2 ^ n - 1) := pk_sub (a := 2 ^ n) (b := 1) p1
        rw [if_neg c1, if_neg c2, if_neg c3, e1]
        by_cases c4 : 2 ^ n ≤ G
        · rw [if_pos (show nI (2 ^ n - 1) < nI G by rw [nI_ltI (by omega) hG]; omega), decide_eq_false (fun q => q.2.2.2 (by rw [nI_leI (by omega) hG]; exact c4))]
          rfl
        · rw [if_neg (show ¬ nI (2 ^ n - 1) < nI G by rw [nI_ltI (by omega) hG]; omega), decide_eq_true ⟨c1, c2, c3, by rw [nI_leI (by omega) hG]; exact c4⟩]
          rfl
theorem ptB_0 (a b : Int32) : ptB 0 a b = false := by
  cases h : ptB 0 a b with
  | false => rfl
  | true =>
    obtain ⟨u, G, _, _, h1, h2, _⟩ := (ptB_iff (n := 0) (by omega)).mp h
    omega
theorem e_isVisit {h : AH} {n : Nat} (hn : n ≤ 6) (e : h.1 56 20 = nI n) (a b : Int32) : f_X12_isVisit 56 a b h = some (zb (ptB n a b), h) := by
  have h64 := pow_le6 hn
  unfold f_X12_isVisit f_X12_isHouse f_X12_areGuests
  rw [e]
  by_cases n0 : n = 0
  · subst n0
    rw [if_pos (by decide), ptB_0]
    rfl
  · rw [if_neg (nI_nle (by omega) (by omega)), show (0 : Int64) = (0 : Int32).toInt64 from rfl, show (3 : Int64) = (3 : Int32).toInt64 from rfl, e_X12_isIn]
    simp only [e, shl_n n (by omega), ob_some, og_bz, zb_0, f_X12_areGuests_18, f_X12_areGuests_19, f_X12_isVisit_26, f_X12_isVisit_27]
    have e34 : (3 < a) = (4 ≤ a) := by
      rw [Int32.lt_iff_toInt_lt, Int32.le_iff_toInt_le, show (3 : Int32).toInt = 3 from rfl, show (4 : Int32).toInt = 4 from rfl]
      exact propext ⟨fun q => by omega, fun q => by omega⟩
    unfold ptB
    by_cases c1 : a < 0
    · simp [c1]
      rfl
    · by_cases c2 : 4 ≤ a
      · simp [c1, c2, e34]
        rfl
      · by_cases c3 : b ≤ 0
        · simp [c1, c2, c3, e34]
          rfl
        · by_cases c4 : nI (2 ^ n) ≤ b
          · simp [c1, c2, c3, c4, e34]
            rfl
          · simp [c1, c2, c3, c4, e34]
            rfl
def guB (n : Nat) (G x : Int32) : Bool := knB (nI n) x && inS G x
theorem guB_iff {n G : Nat} (hn : n ≤ 6) (hG : G < 64) {x : Int32} : guB n (nI G) x = true ↔ ∃ p, p < n ∧ x = nI p ∧ G.testBit p = true := by
  unfold guB
  rw [Bool.and_eq_true, knB_iff (by omega)]
  constructor
  · rintro ⟨⟨p, hp, rfl⟩, b⟩
    rw [inS_tb G hG p (by omega)] at b
    exact ⟨p, hp, rfl, b⟩
  · rintro ⟨p, hp, rfl, b⟩
    exact ⟨⟨p, hp, rfl⟩, by rw [inS_tb G hG p (by omega)]; exact b⟩
theorem e_isGuestC {h : AH} {n : Nat} (e : h.1 3 2 = nI n) (G x : Int32) : f_X11_isGuest 0 G x h = some (zb (guB n G x), h) := by
  unfold f_X11_isGuest guB
  rw [e_X11_isKnown, e, ob_some]
  cases knB (nI n) x with
  | false => rfl
  | true =>
    rw [show zb true = 1 from rfl, if_neg (by decide), e_X11_isIn, ob_some]
    cases inS G x <;> rfl
theorem e_isGuestM {h : AH} {n : Nat} (hn : n ≤ 6) (e : h.1 56 20 = nI n) (a G x : Int32) : f_X12_isGuest 56 a G x h = some (zb (ptB n a G && guB n G x), h) := by
  unfold f_X12_isGuest guB
  rw [e_isVisit hn e, ob_some]
  cases ptB n a G with
  | false => rfl
  | true =>
    rw [show zb true = 1 from rfl, if_neg (by decide), e_X12_isPerson, e, ob_some]
    cases knB (nI n) x with
    | false => rfl
    | true =>
      rw [show zb true = 1 from rfl, if_neg (by decide), e_X12_has, ob_some]
      cases inS G x <;> rfl
def koB (n : Nat) (x : Int32) : Bool := decide (x = -1) || knB (nI n) x
theorem e_known1 {h : AH} {n : Nat} (e : h.1 3 2 = nI n) (x : Int32) : f_X11_isKnownOrNone 0 x h = some (zb (koB n x), h) := by
  unfold f_X11_isKnownOrNone koB
  by_cases c : x = -1
  · rw [if_pos c, decide_eq_true c]
    rfl
  · rw [if_neg c, decide_eq_false c, e_X11_isKnown, e, ob_some]
    cases knB (nI n) x <;> rfl
theorem e_isPair {h : AH} {n : Nat} (e : h.1 56 20 = nI n) (x : Int32) : f_X12_isPair 56 x h = some (zb (koB n x), h) := by
  unfold f_X12_isPair koB
  by_cases c : x = -1
  · rw [if_pos c, decide_eq_true c]
    rfl
  · rw [if_neg c, decide_eq_false c, e_X12_isPerson, e, ob_some]
    cases knB (nI n) x <;> rfl
