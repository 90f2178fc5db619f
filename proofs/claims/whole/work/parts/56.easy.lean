/-! back -/
theorem e_X12_back_106 (h : AH) : ∃ h', f_X12_back_106 FU 56 0 h = some (h.1 56 55, h') ∧ Agr ((56, 32) :: (56, 50) :: (81, 1000) :: (82, 1000) :: (83, 1000) :: []) h h' ∧ (∀ j, j < 20 → h'.1 81 j = h.1 86 (198 + j * 3) ∧ h'.1 82 j = h.1 86 (198 + j * 3 + 1) ∧ h'.1 83 j = h.1 86 (198 + j * 3 + 2)) ∧ h'.1 56 32 = h.1 56 55 ∧ h'.1 56 50 = h.1 56 56 := by
  refine lp (fun n i s => ∃ h', f_X12_back_106 n 56 (nI i) s = some (h.1 56 55, h') ∧ Agr ((56, 32) :: (56, 50) :: (81, 1000) :: (82, 1000) :: (83, 1000) :: []) h h' ∧ (∀ j, j < 20 → h'.1 81 j = h.1 86 (198 + j * 3) ∧ h'.1 82 j = h.1 86 (198 + j * 3 + 1) ∧ h'.1 83 j = h.1 86 (198 + j * 3 + 2)) ∧ h'.1 56 32 = h.1 56 55 ∧ h'.1 56 50 = h.1 56 56)
    (fun i s => Agr ((81, 1000) :: (82, 1000) :: (83, 1000) :: []) h s ∧ (∀ j, j < i → s.1 81 j = h.1 86 (198 + j * 3) ∧ s.1 82 j = h.1 86 (198 + j * 3 + 1) ∧ s.1 83 j = h.1 86 (198 + j * 3 + 2))) 20 (by decide) ?_ ?_ ⟨agr_refl h, fun j hj => absurd hj (by omega)⟩
  · rintro n s ⟨a, p2⟩
    rw [f_X12_back_106]
    simp (disch := omega) only [k_mul, k_mul', k_add, k_le, k_le', k_lt, k_lt', k_eq, n_le, n_lt, n_eq, n_m1, nI_add, pk_mul, Nat.le_refl, if_true, nm_id]
    refine ⟨_, by rw [show (sI (sI s 56 32 (s.1 56 55)) 56 50 ((sI s 56 32 (s.1 56 55)).1 56 56)).1 56 32 = s.1 56 55 from rfl, a.1 56 55 rfl], ?_, ?_, ?_, ?_⟩
    · exact agr_sI (agr_sI (agr_up a rfl) rfl) rfl
    · exact p2
    · rfl
    · exact a.1 56 56 rfl
  · rintro n i s hi ⟨a, p2⟩ K
    have e1 : ∀ b, s.1 86 b = h.1 86 b := fun b => a.1 86 b rfl
    have t1 : ∀ (x : Int32) (b c : Nat), (sI s 81 b x).1 86 c = h.1 86 c := fun _ _ c => e1 c
    have t2 : ∀ (x y : Int32) (b c d : Nat), (sI (sI s 81 b x) 82 c y).1 86 d = h.1 86 d := fun _ _ _ _ d => e1 d
    rw [f_X12_back_106]
    simp (disch := omega) only [show (198 : Int32) = nI 198 from rfl, k_mul, k_mul', k_add, k_le, k_le', k_lt, k_lt', k_eq, n_le, n_lt, n_eq, n_m1, nI_add, pk_mul, rv_0_0, rv_0_1, rv_0_2, rv_0_3, rv_0_4, rv_0_6, rv_0_7, rv_0_9, rv_0_10, rv_0_11, rv_0_12, rv_0_13, rv_0_14, rv_1_0, an_2, rv_3_0, rv_3_1, an_4, an_5, rv_6_0, rv_6_1, an_7, an_8, rv_9_0, rv_9_1, an_10, an_11, rv_12_0, rv_12_1, an_13, an_14, rv_15_0, rv_15_1, an_16, an_17, rv_18_0, rv_18_1, an_19, an_20, rv_21_0, rv_21_1, an_22, an_23, rv_24_0, rv_24_1, rv_24_2, an_25, an_26, an_27, rv_28_0, rv_28_1, rv_28_2, an_29, an_30, an_31, rv_32_0, rv_32_1, an_33, an_34, rv_35_0, rv_35_1, rv_35_2, rv_35_3, rv_35_4, rv_35_5, rv_35_6, an_36, an_37, an_38, an_39, an_40, rv_41_0, rv_41_1, rv_41_3, rv_41_4, rv_41_5, an_42, an_43, an_44, an_45, rv_46_0, rv_46_1, rv_46_2, rv_46_3, rv_46_4, rv_46_6, an_47, an_48, rv_49_0, rv_49_1, an_50, rv_51_0, rv_51_1, rv_51_2, rv_51_3, rv_51_4, rv_51_6, rv_51_7, an_52, an_53, an_54, an_55, rv_56_1, rv_56_2, rv_56_3, rv_56_4, rv_56_15, rv_56_16, rv_56_17, rv_56_19, rv_56_22, rv_56_23, rv_56_24, rv_56_25, rv_56_26, rv_56_27, rv_56_28, rv_56_31, rv_56_33, rv_56_35, rv_56_36, rv_56_37, rv_56_39, rv_56_40, rv_56_41, rv_56_42, rv_56_43, rv_56_44, rv_56_46, rv_56_47, rv_56_48, rv_56_49, rv_56_51, rv_56_52, rv_56_54, an_57, an_58, an_59, an_60, an_61, an_62, an_63, an_64, an_65, an_66, an_67, an_68, an_69, an_70, an_71, an_72, an_73, an_74, an_75, an_76, an_77, an_78, an_79, an_80, an_81, an_82, an_83, an_84, an_85, an_86, an_87, if_neg (show ¬ 20 ≤ i by omega), og_ix, nI_clamp, nm_id, e1, t1, t2]
    refine K _ ⟨agr_sI (agr_sI (agr_sI a rfl) rfl) rfl, fun j hj => ?_⟩
    by_cases q : j = i
    · subst q
      simp [sI_eq]
    · have := p2 j (by omega)
      simp only [sI_eq]
      simp [q, this]
theorem e_X12_back_76 (h : AH) : ∃ h', f_X12_back_76 FU 56 0 h = some (h.1 56 55, h') ∧ Agr ((69, 1000) :: (56, 32) :: (56, 50) :: (81, 1000) :: (82, 1000) :: (83, 1000) :: []) h h' ∧ (∀ j, j < 180 → h'.1 69 j = h.1 86 (18 + j)) ∧ (∀ j, j < 20 → h'.1 81 j = h.1 86 (198 + j * 3) ∧ h'.1 82 j = h.1 86 (198 + j * 3 + 1) ∧ h'.1 83 j = h.1 86 (198 + j * 3 + 2)) ∧ h'.1 56 32 = h.1 56 55 ∧ h'.1 56 50 = h.1 56 56 := by
  refine lp (fun n i s => ∃ h', f_X12_back_76 n 56 (nI i) s = some (h.1 56 55, h') ∧ Agr ((69, 1000) :: (56, 32) :: (56, 50) :: (81, 1000) :: (82, 1000) :: (83, 1000) :: []) h h' ∧ (∀ j, j < 180 → h'.1 69 j = h.1 86 (18 + j)) ∧ (∀ j, j < 20 → h'.1 81 j = h.1 86 (198 + j * 3) ∧ h'.1 82 j = h.1 86 (198 + j * 3 + 1) ∧ h'.1 83 j = h.1 86 (198 + j * 3 + 2)) ∧ h'.1 56 32 = h.1 56 55 ∧ h'.1 56 50 = h.1 56 56)
    (fun i s => Agr ((69, 1000) :: []) h s ∧ (∀ j, j < i → s.1 69 j = h.1 86 (18 + j))) 180 (by decide) ?_ ?_ ⟨agr_refl h, fun j hj => absurd hj (by omega)⟩
  · rintro n s ⟨a, p2⟩
    rw [f_X12_back_76]
    simp (disch := omega) only [k_mul, k_mul', k_add, k_le, k_le', k_lt, k_lt', k_eq, n_le, n_lt, n_eq, n_m1, nI_add, pk_mul, Nat.le_refl, if_true]
    obtain ⟨h', e, a', q1, q2, q3⟩ := e_X12_back_106 s
    have e1 : ∀ b, s.1 86 b = h.1 86 b := fun b => a.1 86 b rfl
    refine ⟨h', by rw [e, a.1 56 55 rfl], agr_tr (agr_up a rfl) a' rfl, fun j hj => (a'.1 69 j rfl).trans (p2 j hj), fun j hj => ?_, q2.trans (a.1 56 55 rfl), q3.trans (a.1 56 56 rfl)⟩
    rw [(q1 j hj).1, (q1 j hj).2.1, (q1 j hj).2.2]
    exact ⟨e1 _, e1 _, e1 _⟩
  · rintro n i s hi ⟨a, p2⟩ K
    have e1 : ∀ b, s.1 86 b = h.1 86 b := fun b => a.1 86 b rfl
    rw [f_X12_back_76]
    simp (disch := omega) only [show (18 : Int32) = nI 18 from rfl, k_mul, k_mul', k_add, k_le, k_le', k_lt, k_lt', k_eq, n_le, n_lt, n_eq, n_m1, nI_add, pk_mul, rv_0_0, rv_0_1, rv_0_2, rv_0_3, rv_0_4, rv_0_6, rv_0_7, rv_0_9, rv_0_10, rv_0_11, rv_0_12, rv_0_13, rv_0_14, rv_1_0, an_2, rv_3_0, rv_3_1, an_4, an_5, rv_6_0, rv_6_1, an_7, an_8, rv_9_0, rv_9_1, an_10, an_11, rv_12_0, rv_12_1, an_13, an_14, rv_15_0, rv_15_1, an_16, an_17, rv_18_0, rv_18_1, an_19, an_20, rv_21_0, rv_21_1, an_22, an_23, rv_24_0, rv_24_1, rv_24_2, an_25, an_26, an_27, rv_28_0, rv_28_1, rv_28_2, an_29, an_30, an_31, rv_32_0, rv_32_1, an_33, an_34, rv_35_0, rv_35_1, rv_35_2, rv_35_3, rv_35_4, rv_35_5, rv_35_6, an_36, an_37, an_38, an_39, an_40, rv_41_0, rv_41_1, rv_41_3, rv_41_4, rv_41_5, an_42, an_43, an_44, an_45, rv_46_0, rv_46_1, rv_46_2, rv_46_3, rv_46_4, rv_46_6, an_47, an_48, rv_49_0, rv_49_1, an_50, rv_51_0, rv_51_1, rv_51_2, rv_51_3, rv_51_4, rv_51_6, rv_51_7, an_52, an_53, an_54, an_55, rv_56_1, rv_56_2, rv_56_3, rv_56_4, rv_56_15, rv_56_16, rv_56_17, rv_56_19, rv_56_22, rv_56_23, rv_56_24, rv_56_25, rv_56_26, rv_56_27, rv_56_28, rv_56_31, rv_56_33, rv_56_35, rv_56_36, rv_56_37, rv_56_39, rv_56_40, rv_56_41, rv_56_42, rv_56_43, rv_56_44, rv_56_46, rv_56_47, rv_56_48, rv_56_49, rv_56_51, rv_56_52, rv_56_54, an_57, an_58, an_59, an_60, an_61, an_62, an_63, an_64, an_65, an_66, an_67, an_68, an_69, an_70, an_71, an_72, an_73, an_74, an_75, an_76, an_77, an_78, an_79, an_80, an_81, an_82, an_83, an_84, an_85, an_86, an_87, if_neg (show ¬ 180 ≤ i by omega), og_ix, nI_clamp, nm_id, e1]
    refine K _ ⟨agr_sI a rfl, fun j hj => ?_⟩
    by_cases q : j = i
    · subst q
      rw [sI_s]
    · rw [sI_n (Or.inr q), p2 j (by omega)]
theorem e_X12_back_16 (h : AH) : ∃ h', f_X12_back_16 FU 56 0 h = some (h.1 56 55, h') ∧ Agr ((62, 1000) :: (63, 1000) :: (65, 1000) :: (69, 1000) :: (56, 32) :: (56, 50) :: (81, 1000) :: (82, 1000) :: (83, 1000) :: []) h h' ∧ (∀ j, j < 6 → h'.1 62 j = h.1 86 (j * 3) ∧ h'.1 63 j = h.1 86 (j * 3 + 1) ∧ h'.1 65 j = h.1 86 (j * 3 + 2)) ∧ (∀ j, j < 180 → h'.1 69 j = h.1 86 (18 + j)) ∧ (∀ j, j < 20 → h'.1 81 j = h.1 86 (198 + j * 3) ∧ h'.1 82 j = h.1 86 (198 + j * 3 + 1) ∧ h'.1 83 j = h.1 86 (198 + j * 3 + 2)) ∧ h'.1 56 32 = h.1 56 55 ∧ h'.1 56 50 = h.1 56 56 := by
  refine lp (fun n i s => ∃ h', f_X12_back_16 n 56 (nI i) s = some (h.1 56 55, h') ∧ Agr ((62, 1000) :: (63, 1000) :: (65, 1000) :: (69, 1000) :: (56, 32) :: (56, 50) :: (81, 1000) :: (82, 1000) :: (83, 1000) :: []) h h' ∧ (∀ j, j < 6 → h'.1 62 j = h.1 86 (j * 3) ∧ h'.1 63 j = h.1 86 (j * 3 + 1) ∧ h'.1 65 j = h.1 86 (j * 3 + 2)) ∧ (∀ j, j < 180 → h'.1 69 j = h.1 86 (18 + j)) ∧ (∀ j, j < 20 → h'.1 81 j = h.1 86 (198 + j * 3) ∧ h'.1 82 j = h.1 86 (198 + j * 3 + 1) ∧ h'.1 83 j = h.1 86 (198 + j * 3 + 2)) ∧ h'.1 56 32 = h.1 56 55 ∧ h'.1 56 50 = h.1 56 56)
    (fun i s => Agr ((62, 1000) :: (63, 1000) :: (65, 1000) :: []) h s ∧ (∀ j, j < i → s.1 62 j = h.1 86 (j * 3) ∧ s.1 63 j = h.1 86 (j * 3 + 1) ∧ s.1 65 j = h.1 86 (j * 3 + 2))) 6 (by decide) ?_ ?_ ⟨agr_refl h, fun j hj => absurd hj (by omega)⟩
  · rintro n s ⟨a, p2⟩
    rw [f_X12_back_16]
    simp (disch := omega) only [k_mul, k_mul', k_add, k_le, k_le', k_lt, k_lt', k_eq, n_le, n_lt, n_eq, n_m1, nI_add, pk_mul, Nat.le_refl, if_true]
    obtain ⟨h', e, a', q0, q1, q2, q3⟩ := e_X12_back_76 s
    have e1 : ∀ b, s.1 86 b = h.1 86 b := fun b => a.1 86 b rfl
    refine ⟨h', by rw [e, a.1 56 55 rfl], agr_tr (agr_up a rfl) a' rfl, fun j hj => ?_, fun j hj => (q0 j hj).trans (e1 _), fun j hj => ?_, q2.trans (a.1 56 55 rfl), q3.trans (a.1 56 56 rfl)⟩
    · rw [a'.1 62 j rfl, a'.1 63 j rfl, a'.1 65 j rfl]
      exact p2 j hj
    · rw [(q1 j hj).1, (q1 j hj).2.1, (q1 j hj).2.2]
      exact ⟨e1 _, e1 _, e1 _⟩
  · rintro n i s hi ⟨a, p2⟩ K
    have e1 : ∀ b, s.1 86 b = h.1 86 b := fun b => a.1 86 b rfl
    have t1 : ∀ (x : Int32) (b c : Nat), (sI s 62 b x).1 86 c = h.1 86 c := fun _ _ c => e1 c
    have t2 : ∀ (x y : Int32) (b c d : Nat), (sI (sI s 62 b x) 63 c y).1 86 d = h.1 86 d := fun _ _ _ _ d => e1 d
    rw [f_X12_back_16]
    simp (disch := omega) only [k_mul, k_mul', k_add, k_le, k_le', k_lt, k_lt', k_eq, n_le, n_lt, n_eq, n_m1, nI_add, pk_mul, rv_0_0, rv_0_1, rv_0_2, rv_0_3, rv_0_4, rv_0_6, rv_0_7, rv_0_9, rv_0_10, rv_0_11, rv_0_12, rv_0_13, rv_0_14, rv_1_0, an_2, rv_3_0, rv_3_1, an_4, an_5, rv_6_0, rv_6_1, an_7, an_8, rv_9_0, rv_9_1, an_10, an_11, rv_12_0, rv_12_1, an_13, an_14, rv_15_0, rv_15_1, an_16, an_17, rv_18_0, rv_18_1, an_19, an_20, rv_21_0, rv_21_1, an_22, an_23, rv_24_0, rv_24_1, rv_24_2, an_25, an_26, an_27, rv_28_0, rv_28_1, rv_28_2, an_29, an_30, an_31, rv_32_0, rv_32_1, an_33, an_34, rv_35_0, rv_35_1, rv_35_2, rv_35_3, rv_35_4, rv_35_5, rv_35_6, an_36, an_37, an_38, an_39, an_40, rv_41_0, rv_41_1, rv_41_3, rv_41_4, rv_41_5, an_42, an_43, an_44, an_45, rv_46_0, rv_46_1, rv_46_2, rv_46_3, rv_46_4, rv_46_6, an_47, an_48, rv_49_0, rv_49_1, an_50, rv_51_0, rv_51_1, rv_51_2, rv_51_3, rv_51_4, rv_51_6, rv_51_7, an_52, an_53, an_54, an_55, rv_56_1, rv_56_2, rv_56_3, rv_56_4, rv_56_15, rv_56_16, rv_56_17, rv_56_19, rv_56_22, rv_56_23, rv_56_24, rv_56_25, rv_56_26, rv_56_27, rv_56_28, rv_56_31, rv_56_33, rv_56_35, rv_56_36, rv_56_37, rv_56_39, rv_56_40, rv_56_41, rv_56_42, rv_56_43, rv_56_44, rv_56_46, rv_56_47, rv_56_48, rv_56_49, rv_56_51, rv_56_52, rv_56_54, an_57, an_58, an_59, an_60, an_61, an_62, an_63, an_64, an_65, an_66, an_67, an_68, an_69, an_70, an_71, an_72, an_73, an_74, an_75, an_76, an_77, an_78, an_79, an_80, an_81, an_82, an_83, an_84, an_85, an_86, an_87, if_neg (show ¬ 6 ≤ i by omega), og_ix, nI_clamp, nm_id, e1, t1, t2]
    refine K _ ⟨agr_sI (agr_sI (agr_sI a rfl) rfl) rfl, fun j hj => ?_⟩
    by_cases q : j = i
    · subst q
      simp [sI_eq]
    · have := p2 j (by omega)
      simp only [sI_eq]
      simp [q, this]
theorem g31 : G31 Rel := by
  intro h ⟨v, R⟩
  have hn := R.n6
  have hE := R.E30
  have hS := R.S20
  have R1 := R.thr (x := 0)
  have hcd := fun e (he : e < v.E) p (hp : p < v.n) => R.cd he hp
  have hgs := fun s (hs : s < v.S) => R.gs hs
  obtain ⟨r1, r2, r3, r4, r5, r6, r7, r8⟩ := id R
  cases c : v.im with
  | false =>
    have e1 : f_X11_back 0 h = some (-1, h) := by
      simp only [f_X11_back, R.cim, c, zb_0, if_true]
    have e2 : f_X12_back 56 h = some (-1, sI h 56 0 0) := by
      simp only [f_X12_back, nm_id, R1.mim, c, zb_0, if_true]
    exact ⟨_, _, _, e1, e2, v, R1⟩
  | true =>
    obtain ⟨n0, bE, bS, so, ⟨k1, k2, k3, k4⟩, k5, k6, k7, k8⟩ := r8.2.2 c
    obtain ⟨h1, f1, a1, p1⟩ := e_X9_copyb h
    have e1 : f_X11_back 0 h = some (nI v.kE, sI (sI h1 32 2 (h1.1 32 4)) 32 3 (h1.1 32 5)) := by
      have m1 : h1.1 32 4 = nI v.kE := (a1.1 32 4 rfl).trans k1
      simp only [f_X11_back, rv_0_0, rv_0_1, rv_0_2, rv_0_3, rv_0_4, rv_0_6, rv_0_7, rv_0_9, rv_0_10, rv_0_11, rv_0_12, rv_0_13, rv_0_14, rv_1_0, an_2, rv_3_0, rv_3_1, an_4, an_5, rv_6_0, rv_6_1, an_7, an_8, rv_9_0, rv_9_1, an_10, an_11, rv_12_0, rv_12_1, an_13, an_14, rv_15_0, rv_15_1, an_16, an_17, rv_18_0, rv_18_1, an_19, an_20, rv_21_0, rv_21_1, an_22, an_23, rv_24_0, rv_24_1, rv_24_2, an_25, an_26, an_27, rv_28_0, rv_28_1, rv_28_2, an_29, an_30, an_31, rv_32_0, rv_32_1, an_33, an_34, rv_35_0, rv_35_1, rv_35_2, rv_35_3, rv_35_4, rv_35_5, rv_35_6, an_36, an_37, an_38, an_39, an_40, rv_41_0, rv_41_1, rv_41_3, rv_41_4, rv_41_5, an_42, an_43, an_44, an_45, rv_46_0, rv_46_1, rv_46_2, rv_46_3, rv_46_4, rv_46_6, an_47, an_48, rv_49_0, rv_49_1, an_50, rv_51_0, rv_51_1, rv_51_2, rv_51_3, rv_51_4, rv_51_6, rv_51_7, an_52, an_53, an_54, an_55, rv_56_1, rv_56_2, rv_56_3, rv_56_4, rv_56_15, rv_56_16, rv_56_17, rv_56_19, rv_56_22, rv_56_23, rv_56_24, rv_56_25, rv_56_26, rv_56_27, rv_56_28, rv_56_31, rv_56_33, rv_56_35, rv_56_36, rv_56_37, rv_56_39, rv_56_40, rv_56_41, rv_56_42, rv_56_43, rv_56_44, rv_56_46, rv_56_47, rv_56_48, rv_56_49, rv_56_51, rv_56_52, rv_56_54, an_57, an_58, an_59, an_60, an_61, an_62, an_63, an_64, an_65, an_66, an_67, an_68, an_69, an_70, an_71, an_72, an_73, an_74, an_75, an_76, an_77, an_78, an_79, an_80, an_81, an_82, an_83, an_84, an_85, an_86, an_87, R.cim, c, zb_0, Bool.true_eq_false, if_false, f1, ov_some, f_X1_restore, nm_id]
      show some ((sI (sI h1 32 2 (h1.1 32 4)) 32 3 (h1.1 32 5)).1 32 2, _) = _
      rw [show (sI (sI h1 32 2 (h1.1 32 4)) 32 3 (h1.1 32 5)).1 32 2 = h1.1 32 4 from rfl, m1]
      rfl
    generalize hg : sI (sI h1 32 2 (h1.1 32 4)) 32 3 (h1.1 32 5) = g at e1
    have ag := w_f_X11_back_i0 _ _ e1
    obtain ⟨h2, e2, a2, q1, q2, q3, q4, q5⟩ := e_X12_back_16 (sI g 56 0 0)
    have gm : Agr (((25, 1000) :: (26, 1000) :: (27, 1000) :: (32, 2) :: (32, 3) :: (56, 0) :: [])) h (sI g 56 0 0) := agr_tr (agr_up ag rfl) (agr_sI (W := (56, 0) :: []) (agr_refl g) rfl) rfl
    have e2' : f_X12_back 56 g = some (nI v.kE, h2) := by
      have m1 : (sI g 56 0 0).1 56 57 = zb v.im := (gm.1 56 57 rfl).trans R.mim
      have m2 : (sI g 56 0 0).1 56 55 = nI v.kE := (gm.1 56 55 rfl).trans k3
      simp only [f_X12_back, nm_id, m1, c, zb_0, Bool.true_eq_false, if_false, e2, m2]
    refine ⟨_, _, _, e1, e2', ?_⟩
    have ag3 := agr_tr (W := (25, 1000) :: (26, 1000) :: (27, 1000) :: (32, 2) :: (32, 3) :: (56, 0) :: (62, 1000) :: (63, 1000) :: (65, 1000) :: (69, 1000) :: (56, 32) :: (56, 50) :: (81, 1000) :: (82, 1000) :: (83, 1000) :: []) (agr_up gm rfl) a2 rfl
    have c25 : ∀ p, p < 6 → h2.1 25 p = h.1 29 p ∧ h2.1 26 p = h.1 30 p ∧ h2.1 27 p = h.1 31 p := fun p hp => by
      rw [a2.1 25 p rfl, a2.1 26 p rfl, a2.1 27 p rfl]
      rw [← hg]
      exact p1 p hp
    have m86 : ∀ j, (sI g 56 0 0).1 86 j = h.1 86 j := fun j => gm.1 86 j rfl
    refine rel_mk (E := v.kE) (S := v.kS) (has := v.kh) (pl := v.kp) (wo := v.kw) (im := v.im) (kE := v.kE) (kS := v.kS) (kh := v.kh) (kp := v.kp) (kw := v.kw) (di := v.di) (se := v.se) (sw := v.sw) (ss := v.ss) (gT_eq (agr_on ag3 rfl) r1) (gP_eq (agr_on ag3 rfl) r2) (gO_eq (agr_on ag3 rfl) r3) (gR_eq (agr_on ag3 rfl) r4) ⟨so, fun p hp => ?_, fun p x y => ?_⟩ ⟨by omega, ?_, ?_, fun e he p hp => ⟨?_, ?_⟩⟩ ⟨by omega, ?_, ?_, fun s hs => ⟨(k8 s hs).1, ?_, ?_, ?_, ?_⟩⟩ ?_
    · have u := k5 p hp
      have w := c25 p (by omega)
      have z := q1 p (by omega)
      rw [w.1, w.2.1, w.2.2, z.1, z.2.1, z.2.2, m86, m86, m86]
      exact u
    · rw [(c25 p y).2.1, k6 p x y, if_neg n0]
    · rw [a2.1 32 2 rfl, ← hg]
      exact (a1.1 32 4 rfl).trans k1
    · rw [q4, gm.1 56 55 rfl, k3]
    · rw [ag3.1 33 _ rfl]
      exact hcd e (by omega) p hp
    · rw [q2 (e * 6 + p) (by omega), m86]
      exact k7 e he p hp
    · rw [a2.1 32 3 rfl, ← hg]
      exact (a1.1 32 5 rfl).trans k2
    · rw [q5, gm.1 56 56 rfl, k4]
    · rw [ag3.1 34 _ rfl, ag3.1 34 _ rfl, ag3.1 34 _ rfl]
      exact (hgs s (by omega)).2.1
    · rw [(q3 s (by omega)).1, m86]
      exact (k8 s hs).2.1
    · rw [(q3 s (by omega)).2.1, m86]
      exact (k8 s hs).2.2.1
    · rw [(q3 s (by omega)).2.2, m86]
      exact (k8 s hs).2.2.2
    · have t := gI_eq (agr_on ag3 rfl) r8
      refine ⟨t.1, t.2.1, fun q => ?_⟩
      obtain ⟨t1, t2, t3, t4⟩ := t.2.2 q
      exact ⟨t1, Nat.le_refl _, Nat.le_refl _, t4⟩
