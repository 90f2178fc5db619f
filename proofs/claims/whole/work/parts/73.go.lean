/-! the way home -/
def rmv (D : Nat) (x : Int32) : Nat := if x = -1 then D else (nI D &&& (((1 : Int32) <<< (x &&& 31)) ^^^ (-1))).toNatClampNeg
theorem rmv_all : ∀ D, D < 64 → ∀ k, k < 6 → nI D &&& (((1 : Int32) <<< (nI k &&& 31)) ^^^ (-1)) = nI (rmv D (nI k)) ∧ rmv D (nI k) ≤ D := by decide +kernel
theorem rmv_tb : ∀ D, D < 64 → ∀ k, k < 6 → ∀ i, i < 6 → (rmv D (nI k)).testBit i = (D.testBit i && !(Nat.beq i k)) := by decide +kernel
theorem rmv_m1 (D : Nat) : rmv D (-1) = D := if_pos rfl
def stS (v : Wd) (sz wo : Nat → Nat) (row : Nat → Nat) (D : Nat) : Nat → Nat
  | 0 => D
  | j + 1 => rmv (stS v sz wo row D j) (pk v sz wo (row j) (stS v sz wo row D j))
def tkS (v : Wd) (sz wo : Nat → Nat) (row : Nat → Nat) (D j : Nat) : Int32 := pk v sz wo (row j) (stS v sz wo row D j)
theorem stS_le {v : Wd} {sz wo : Nat → Nat} {row : Nat → Nat} {D : Nat} (hn : v.n ≤ 6) (hD : D < 2 ^ v.n) : ∀ j, stS v sz wo row D j ≤ D := by
  have h64 := pow_le6 hn
  intro j
  induction j with
  | zero => exact Nat.le_refl _
  | succ j ih =>
    rw [stS]
    rcases pk_c (v := v) (sz := sz) (wo := wo) (row j) (stS v sz wo row D j) with a | ⟨k, hk, a, _⟩
    · rw [a, rmv_m1]
      exact ih
    · rw [a]
      exact Nat.le_trans (rmv_all _ (by omega) k (by omega)).2 ih
theorem stS_cong {v : Wd} {sz wo : Nat → Nat} {row row' : Nat → Nat} {D : Nat} : ∀ j, (∀ i, i < j → row i = row' i) → stS v sz wo row D j = stS v sz wo row' D j := by
  intro j
  induction j with
  | zero => intro _; rfl
  | succ j ih =>
    intro h
    rw [stS, stS, ih (fun i hi => h i (by omega)), h j (by omega)]
theorem tkS_cong {v : Wd} {sz wo : Nat → Nat} {row row' : Nat → Nat} {D j : Nat} (h : ∀ i, i ≤ j → row i = row' i) : tkS v sz wo row D j = tkS v sz wo row' D j := by
  unfold tkS
  rw [stS_cong j (fun i hi => h i (by omega)), h j (Nat.le_refl _)]
def rOk (n : Nat) (row : Nat → Nat) (m : Nat) : Prop := m ≤ 6 ∧ (∀ j, j < m → row j < n) ∧ ∀ i j, i < m → j < m → row i = row j → i = j
/-- the row of the class, of the model -/
def cRw (row : Nat → Nat) (m : Nat) (h : AH) : Prop := h.1 41 2 = nI m ∧ ∀ j, j < m → h.1 42 j = nI (row j)
def mRw (row : Nat → Nat) (m : Nat) (h : AH) : Prop := h.1 56 29 = nI m ∧ ∀ j, j < m → h.1 67 j = nI (row j)
def cSt (v : Wd) (sz wo : Nat → Nat) (row : Nat → Nat) (D i : Nat) (h : AH) : Prop := (∀ j, j ≤ i → h.1 44 j = nI (stS v sz wo row D j)) ∧ ∀ j, j < i → h.1 43 (row j) = tkS v sz wo row D j
def mSt (v : Wd) (sz wo : Nat → Nat) (row : Nat → Nat) (D i : Nat) (h : AH) : Prop := h.1 56 30 = nI (stS v sz wo row D i) ∧ ∀ j, j < i → h.1 68 (row j) = tkS v sz wo row D j
theorem e_go2 {v : Wd} {sz wo : Nat → Nat} {row : Nat → Nat} {m D : Nat} (ro : rOk v.n row m) (hD : D < 2 ^ v.n) (hn : v.n ≤ 6) : ∀ n i h, i ≤ m → m - i < n → cZ v sz wo h → cRw row m h → cSt v sz wo row D i h → ∃ h', f_X5_go_2 n 41 (nI i) h = some h' ∧ cZ v sz wo h' ∧ cRw row m h' ∧ cSt v sz wo row D m h' := by
  have h64 := pow_le6 hn
  have m6 := ro.1
  intro n
  induction n with
  | zero => intro i h _ q; omega
  | succ n ih =>
    intro i h hi hin Z Rw St
    rw [f_X5_go_2, Rw.1]
    by_cases e : i = m
    · subst e
      rw [if_pos (by rw [nI_leI (by omega) (by omega)]; omega)]
      exact ⟨h, rfl, Z, Rw, St⟩
    · have im : i < m := by omega
      have rn := ro.2.1 i im
      have sl := stS_le (sz := sz) (wo := wo) (row := row) hn hD i
      obtain ⟨h1, e1, Z1⟩ := e_pick Z rn (Nat.lt_of_le_of_lt sl hD)
      have fr := w_f_X2_pick_i35 _ _ _ _ e1
      have c44 := agr_cell fr 44 rfl
      have c43 := agr_cell fr 43 rfl
      have c42 := agr_cell fr 42 rfl
      have c41 := agr_cell fr 41 rfl
      simp (disch := omega) only [if_neg (show ¬ nI m ≤ nI i by rw [nI_leI (by omega) (by omega)]; omega), nm_id, rv_0_0, rv_0_1, rv_0_2, rv_0_3, rv_0_4, rv_0_6, rv_0_7, rv_0_9, rv_0_10, rv_0_11, rv_0_12, rv_0_13, rv_0_14, rv_1_0, an_2, rv_3_0, rv_3_1, an_4, an_5, rv_6_0, rv_6_1, an_7, an_8, rv_9_0, rv_9_1, an_10, an_11, rv_12_0, rv_12_1, an_13, an_14, rv_15_0, rv_15_1, an_16, an_17, rv_18_0, rv_18_1, an_19, an_20, rv_21_0, rv_21_1, an_22, an_23, rv_24_0, rv_24_1, rv_24_2, an_25, an_26, an_27, rv_28_0, rv_28_1, rv_28_2, an_29, an_30, an_31, rv_32_0, rv_32_1, an_33, an_34, rv_35_0, rv_35_1, rv_35_2, rv_35_3, rv_35_4, rv_35_5, rv_35_6, an_36, an_37, an_38, an_39, an_40, rv_41_0, rv_41_1, rv_41_3, rv_41_4, rv_41_5, an_42, an_43, an_44, an_45, rv_46_0, rv_46_1, rv_46_2, rv_46_3, rv_46_4, rv_46_6, an_47, an_48, rv_49_0, rv_49_1, an_50, rv_51_0, rv_51_1, rv_51_2, rv_51_3, rv_51_4, rv_51_6, rv_51_7, an_52, an_53, an_54, an_55, rv_56_1, rv_56_2, rv_56_3, rv_56_4, rv_56_15, rv_56_16, rv_56_17, rv_56_19, rv_56_22, rv_56_23, rv_56_24, rv_56_25, rv_56_26, rv_56_27, rv_56_28, rv_56_31, rv_56_33, rv_56_35, rv_56_36, rv_56_37, rv_56_39, rv_56_40, rv_56_41, rv_56_42, rv_56_43, rv_56_44, rv_56_46, rv_56_47, rv_56_48, rv_56_49, rv_56_51, rv_56_52, rv_56_54, an_57, an_58, an_59, an_60, an_61, an_62, an_63, an_64, an_65, an_66, an_67, an_68, an_69, an_70, an_71, an_72, an_73, an_74, an_75, an_76, an_77, an_78, an_79, an_80, an_81, an_82, an_83, an_84, an_85, an_86, an_87, og_ix, nI_clamp, Rw.2 i im, St.1 i (Nat.le_refl _), e1, ob_some, f_X5_go_76, nI_1]
      have fin : ∀ x, nI (rmv (stS v sz wo row D i) (pk v sz wo (row i) (stS v sz wo row D i))) = x → ∃ h', f_X5_go_2 n 41 (nI (i + 1)) (sI (sI h1 43 (row i) (pk v sz wo (row i) (stS v sz wo row D i))) 44 (i + 1) x) = some h' ∧ cZ v sz wo h' ∧ cRw row m h' ∧ cSt v sz wo row D m h' := by
        intro x hx
        have ag : Agr ((43, 1000) :: (44, 1000) :: []) h1 (sI (sI h1 43 (row i) (pk v sz wo (row i) (stS v sz wo row D i))) 44 (i + 1) x) := agr_sI (agr_sI (agr_refl h1) rfl) rfl
        refine ih (i + 1) _ (by omega) (by omega) ⟨cF_eq (agr_on ag rfl) Z1.1, cK_eq (agr_cell ag 38 rfl) (agr_cell ag 39 rfl) Z1.2⟩ ⟨?_, fun j hj => ?_⟩ ⟨fun j hj => ?_, fun j hj => ?_⟩
        · rw [sI_n (Or.inl (by decide)), sI_n (Or.inl (by decide)), c41]
          exact Rw.1
        · rw [sI_n (Or.inl (by decide)), sI_n (Or.inl (by decide)), c42]
          exact Rw.2 j hj
        · by_cases ej : j = i + 1
          · subst ej
            rw [sI_s, ← hx]
            rfl
          · rw [sI_n (Or.inr ej), sI_n (Or.inl (by decide)), c44]
            exact St.1 j (by omega)
        · rw [sI_n (Or.inl (by decide))]
          by_cases ej : j = i
          · subst ej
            rw [sI_s]
            rfl
          · rw [sI_n (Or.inr (fun w => ej (ro.2.2 j i (by omega) im w))), c43]
            exact St.2 j (by omega)
      have e44 : ∀ x, (sI h1 43 (row i) x).1 44 i = nI (stS v sz wo row D i) := by
        intro x
        rw [sI_n (Or.inl (by decide)), c44]
        exact St.1 i (Nat.le_refl _)
      rcases pk_c (v := v) (sz := sz) (wo := wo) (row i) (stS v sz wo row D i) with a | ⟨k, hk, a, _⟩
      · rw [if_pos a, e44]
        exact fin _ (by rw [a, rmv_m1])
      · rw [if_neg (by rw [a, n_m1 (by omega)]; exact id), e44]
        refine fin _ ?_
        rw [a, (rmv_all _ (by omega) k (by omega)).1]
theorem e_go {v : Wd} {sz wo : Nat → Nat} {row : Nat → Nat} {m D i : Nat} {h : AH} (ro : rOk v.n row m) (hD : D < 2 ^ v.n) (hi : i ≤ m) (Z : cZ v sz wo h) (Rw : cRw row m h) (St : cSt v sz wo row D i h) : ∃ h', f_X5_go 41 (nI i) h = some h' ∧ cZ v sz wo h' ∧ cRw row m h' ∧ cSt v sz wo row D m h' := e_go2 ro hD Z.1.1.1.1 FU i h hi (by have := ro.1; unfold FU; omega) Z Rw St
theorem e_mgo7 {v : Wd} {sz wo : Nat → Nat} {row : Nat → Nat} {m D : Nat} (ro : rOk v.n row m) (hD : D < 2 ^ v.n) (hn : v.n ≤ 6) : ∀ n i h, i ≤ m → m - i < n → mG v sz wo h → mRw row m h → mSt v sz wo row D i h → ∃ h', f_X12_go_7 n 56 (nI i) h = some h' ∧ mG v sz wo h' ∧ mRw row m h' ∧ mSt v sz wo row D m h' := by
  have h64 := pow_le6 hn
  have m6 := ro.1
  intro n
  induction n with
  | zero => intro i h _ q; omega
  | succ n ih =>
    intro i h hi hin Z Rw St
    rw [f_X12_go_7, Rw.1]
    by_cases e : i = m
    · subst e
      rw [if_pos (by rw [nI_leI (by omega) (by omega)]; omega)]
      exact ⟨h, rfl, Z, Rw, St⟩
    · have im : i < m := by omega
      have rn := ro.2.1 i im
      have sl := stS_le (sz := sz) (wo := wo) (row := row) hn hD i
      obtain ⟨h1, e1, Z1⟩ := e_takesOf Z rn (Nat.lt_of_le_of_lt sl hD)
      have fr := w_f_X12_takesOf_i56 _ _ _ _ e1
      have c67 := agr_cell fr 67 rfl
      have c68 := agr_cell fr 68 rfl
      have c29 := agr_on fr (B := (56, 29) :: (56, 30) :: []) rfl 56 29 rfl
      have c30 := agr_on fr (B := (56, 29) :: (56, 30) :: []) rfl 56 30 rfl
      simp (disch := omega) only [if_neg (show ¬ nI m ≤ nI i by rw [nI_leI (by omega) (by omega)]; omega), nm_id, rv_0_0, rv_0_1, rv_0_2, rv_0_3, rv_0_4, rv_0_6, rv_0_7, rv_0_9, rv_0_10, rv_0_11, rv_0_12, rv_0_13, rv_0_14, rv_1_0, an_2, rv_3_0, rv_3_1, an_4, an_5, rv_6_0, rv_6_1, an_7, an_8, rv_9_0, rv_9_1, an_10, an_11, rv_12_0, rv_12_1, an_13, an_14, rv_15_0, rv_15_1, an_16, an_17, rv_18_0, rv_18_1, an_19, an_20, rv_21_0, rv_21_1, an_22, an_23, rv_24_0, rv_24_1, rv_24_2, an_25, an_26, an_27, rv_28_0, rv_28_1, rv_28_2, an_29, an_30, an_31, rv_32_0, rv_32_1, an_33, an_34, rv_35_0, rv_35_1, rv_35_2, rv_35_3, rv_35_4, rv_35_5, rv_35_6, an_36, an_37, an_38, an_39, an_40, rv_41_0, rv_41_1, rv_41_3, rv_41_4, rv_41_5, an_42, an_43, an_44, an_45, rv_46_0, rv_46_1, rv_46_2, rv_46_3, rv_46_4, rv_46_6, an_47, an_48, rv_49_0, rv_49_1, an_50, rv_51_0, rv_51_1, rv_51_2, rv_51_3, rv_51_4, rv_51_6, rv_51_7, an_52, an_53, an_54, an_55, rv_56_1, rv_56_2, rv_56_3, rv_56_4, rv_56_15, rv_56_16, rv_56_17, rv_56_19, rv_56_22, rv_56_23, rv_56_24, rv_56_25, rv_56_26, rv_56_27, rv_56_28, rv_56_31, rv_56_33, rv_56_35, rv_56_36, rv_56_37, rv_56_39, rv_56_40, rv_56_41, rv_56_42, rv_56_43, rv_56_44, rv_56_46, rv_56_47, rv_56_48, rv_56_49, rv_56_51, rv_56_52, rv_56_54, an_57, an_58, an_59, an_60, an_61, an_62, an_63, an_64, an_65, an_66, an_67, an_68, an_69, an_70, an_71, an_72, an_73, an_74, an_75, an_76, an_77, an_78, an_79, an_80, an_81, an_82, an_83, an_84, an_85, an_86, an_87, og_ix, nI_clamp, Rw.2 i im, St.1, e1, ob_some, f_X12_go_66, nI_1, sI_s]
      have e30 : ∀ x, (sI h1 68 (row i) x).1 56 30 = nI (stS v sz wo row D i) := by
        intro x
        rw [sI_n (Or.inl (by decide)), c30]
        exact St.1
      have tk : ∀ j, j < i + 1 → (sI h1 68 (row i) (pk v sz wo (row i) (stS v sz wo row D i))).1 68 (row j) = tkS v sz wo row D j := by
        intro j hj
        by_cases ej : j = i
        · subst ej
          rw [sI_s]
          rfl
        · rw [sI_n (Or.inr (fun w => ej (ro.2.2 j i (by omega) im w))), c68]
          exact St.2 j (by omega)
      rcases pk_c (v := v) (sz := sz) (wo := wo) (row i) (stS v sz wo row D i) with a | ⟨k, hk, a, _⟩
      · rw [if_pos a]
        have ag : Agr ((68, 1000) :: []) h1 (sI h1 68 (row i) (pk v sz wo (row i) (stS v sz wo row D i))) := agr_sI (agr_refl h1) rfl
        refine ih (i + 1) _ (by omega) (by omega) (mG_eq (agr_on ag rfl) Z1) ⟨?_, fun j hj => ?_⟩ ⟨?_, tk⟩
        · rw [sI_n (Or.inl (by decide)), c29]
          exact Rw.1
        · rw [sI_n (Or.inl (by decide)), c67]
          exact Rw.2 j hj
        · rw [e30, stS, a, rmv_m1]
      · rw [if_neg (by rw [a, n_m1 (by omega)]; exact id), e30]
        have ag : ∀ x, Agr ((56, 30) :: (68, 1000) :: []) h1 (sI (sI h1 68 (row i) (pk v sz wo (row i) (stS v sz wo row D i))) 56 30 x) := fun x => agr_sI (agr_sI (agr_refl h1) rfl) rfl
        refine ih (i + 1) _ (by omega) (by omega) (mG_eq (agr_on (ag _) rfl) Z1) ⟨?_, fun j hj => ?_⟩ ⟨?_, fun j hj => ?_⟩
        · rw [sI_n (Or.inr (by decide)), sI_n (Or.inl (by decide)), c29]
          exact Rw.1
        · rw [sI_n (Or.inl (by decide)), sI_n (Or.inl (by decide)), c67]
          exact Rw.2 j hj
        · rw [sI_s, stS, a, (rmv_all _ (by omega) k (by omega)).1]
        · rw [sI_n (Or.inl (by decide))]
          exact tk j hj
theorem e_mgo {v : Wd} {sz wo : Nat → Nat} {row : Nat → Nat} {m D : Nat} {h : AH} (ro : rOk v.n row m) (hD : D < 2 ^ v.n) (Z : mG v sz wo h) (Rw : mRw row m h) : ∃ h', f_X12_go 56 (nI D) h = some h' ∧ mG v sz wo h' ∧ mRw row m h' ∧ mSt v sz wo row D m h' := by
  unfold f_X12_go
  rw [nm_id]
  have ag : Agr ((56, 30) :: []) h (sI h 56 30 (nI D)) := agr_sI (agr_refl h) rfl
  refine e_mgo7 ro hD Z.1.1.1 FU 0 _ (Nat.zero_le _) (by have := ro.1; unfold FU; omega) (mG_eq (agr_on ag rfl) Z) ⟨?_, fun j hj => ?_⟩ ⟨?_, fun j hj => absurd hj (by omega)⟩
  · rw [sI_n (Or.inr (by decide))]
    exact Rw.1
  · rw [sI_n (Or.inl (by decide))]
    exact Rw.2 j hj
  · rw [sI_s]
    rfl
