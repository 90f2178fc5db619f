/-! more easy calls -/
theorem e_X6_canWear {v : Wd} {h : AH} (R : cP v h) {p s : Nat} (hp : p < v.n) (hs : s < 2 ^ 30) : f_X6_canWear 3 (nI p) (nI s) h = some (zb (fitS v p s), h) := by
  have h0 := R.1.2 p hp 0 (by omega)
  have h1 := R.1.2 p hp 1 (by omega)
  have b0 : v.it p 0 ≤ 50 := h0.2
  have b1 : v.it p 1 ≤ 9 := h1.2
  have i0 := e_X6_item R hp (i := 0) (by omega)
  have i1 := e_X6_item R hp (i := 1) (by omega)
  unfold f_X6_canWear
  rw [show (0 : Int32) = nI 0 from rfl, i0, ob_some, nm_id, show (1 : Int32) = nI 1 from rfl, i1]
  by_cases c : v.it p 0 ≤ s
  · rw [pk_sub c, show nI 0 = (0 : Int32) from rfl, if_neg (nI_pos (by omega)), ob_some]
    by_cases d : v.it p 1 < s - v.it p 0
    · rw [if_pos (nI_lt d (by omega))]
      have : fitS v p s = false := by
        unfold fitS
        rw [decide_eq_false_iff_not]
        omega
      rw [this]
      rfl
    · rw [if_neg (nI_nlt (by omega) (by omega))]
      have : fitS v p s = true := by
        unfold fitS
        rw [decide_eq_true_eq]
        omega
      rw [this]
      rfl
  · rw [show nI 0 = (0 : Int32) from rfl, if_pos (pk_sneg (by omega) (by omega))]
    have : fitS v p s = false := by
      unfold fitS
      rw [decide_eq_false_iff_not]
      omega
    rw [this]
    rfl
theorem e_X12_doesFit {v : Wd} {h : AH} (R : mP v h) {p q s : Nat} (hp : p < v.n) (hq : q < 6) (e : h.1 64 q = nI s) (hs : s < 2 ^ 30) : f_X12_doesFit 56 (nI p) (nI q) h = some (zb (fitS v p s), h) := by
  have h0 := R.1.2 p hp 0 (by omega)
  have h1 := R.1.2 p hp 1 (by omega)
  have b0 : v.it p 0 ≤ 50 := h0.2
  have b1 : v.it p 1 ≤ 9 := h1.2
  have i0 := e_X12_partOf R hp (i := 0) (by omega)
  have i1 := e_X12_partOf R hp (i := 1) (by omega)
  unfold f_X12_doesFit
  rw [rv_56_24, an_64, og_ix (by omega) (by omega), show (0 : Int32) = nI 0 from rfl, i0, ob_some, i0, ob_some, show (1 : Int32) = nI 1 from rfl, i1, ob_some, nI_clamp (by omega), e, nI_add, e_X12_isIn, ob_some, og_bz]
  simp (disch := omega) only [n_lt]
  have : decide (¬ s < v.it p 0 ∧ ¬ v.it p 0 + v.it p 1 < s) = fitS v p s := by
    unfold fitS
    rw [decide_eq_decide]
    omega
  rw [this]
theorem g6 : G6 Rel := by
  intro h ⟨v, R⟩ a1 a2
  have hn := R.n6
  have R1 := R.thr (x := 0)
  by_cases hk : knB (nI v.n) a1 = true
  · obtain ⟨p, hp, rfl⟩ := (knB_iff (by omega)).mp hk
    by_cases hk2 : knB (nI v.n) a2 = true
    · obtain ⟨q, hq, rfl⟩ := (knB_iff (by omega)).mp hk2
      have b3 : v.it q 3 ≤ 50 := (R.ib hq (i := 3) (by omega)).2
      have e1 : f_X11_fits 0 (nI p) (nI q) h = some (zb (fitS v p (v.it q 3)), h) := by
        simp (disch := omega) only [f_X11_fits, e_X11_isKnown, ob_some, R.cn, hk, hk2, zb_0, Bool.true_eq_false, if_false, show (3 : Int32) = nI 3 from rfl, rv_0_0, rv_0_1, rv_0_2, rv_0_3, rv_0_4, rv_0_6, rv_0_7, rv_0_9, rv_0_10, rv_0_11, rv_0_12, rv_0_13, rv_0_14, rv_1_0, an_2, rv_3_0, rv_3_1, an_4, an_5, rv_6_0, rv_6_1, an_7, an_8, rv_9_0, rv_9_1, an_10, an_11, rv_12_0, rv_12_1, an_13, an_14, rv_15_0, rv_15_1, an_16, an_17, rv_18_0, rv_18_1, an_19, an_20, rv_21_0, rv_21_1, an_22, an_23, rv_24_0, rv_24_1, rv_24_2, an_25, an_26, an_27, rv_28_0, rv_28_1, rv_28_2, an_29, an_30, an_31, rv_32_0, rv_32_1, an_33, an_34, rv_35_0, rv_35_1, rv_35_2, rv_35_3, rv_35_4, rv_35_5, rv_35_6, an_36, an_37, an_38, an_39, an_40, rv_41_0, rv_41_1, rv_41_3, rv_41_4, rv_41_5, an_42, an_43, an_44, an_45, rv_46_0, rv_46_1, rv_46_2, rv_46_3, rv_46_4, rv_46_6, an_47, an_48, rv_49_0, rv_49_1, an_50, rv_51_0, rv_51_1, rv_51_2, rv_51_3, rv_51_4, rv_51_6, rv_51_7, an_52, an_53, an_54, an_55, rv_56_1, rv_56_2, rv_56_3, rv_56_4, rv_56_15, rv_56_16, rv_56_17, rv_56_19, rv_56_22, rv_56_23, rv_56_24, rv_56_25, rv_56_26, rv_56_27, rv_56_28, rv_56_31, rv_56_33, rv_56_35, rv_56_36, rv_56_37, rv_56_39, rv_56_40, rv_56_41, rv_56_42, rv_56_43, rv_56_44, rv_56_46, rv_56_47, rv_56_48, rv_56_49, rv_56_51, rv_56_52, rv_56_54, an_57, an_58, an_59, an_60, an_61, an_62, an_63, an_64, an_65, an_66, an_67, an_68, an_69, an_70, an_71, an_72, an_73, an_74, an_75, an_76, an_77, an_78, an_79, an_80, an_81, an_82, an_83, an_84, an_85, an_86, an_87, e_X6_item R.cP hq, e_X6_canWear R.cP hp, f_X11_fits_43]
        cases fitS v p (v.it q 3) <;> rfl
      have e2 : f_X12_fits 56 (nI p) (nI q) h = some (zb (fitS v p (v.it q 3)), sI h 56 0 0) := by
        simp (disch := omega) only [f_X12_fits, nm_id, e_X12_isPerson, ob_some, R1.mn, hk, hk2, zb_0, Bool.true_eq_false, if_false, e_X12_doesFit R1.mP hp (show q < 6 by omega) (R1.ms hq), f_X12_fits_39]
        cases fitS v p (v.it q 3) <;> rfl
      exact ⟨_, h, _, e1, e2, G_of R (agr_refl (W := []) h) (w_f_X12_fits_i56 _ _ _ _ e2) rfl rfl⟩
    · have hk' : knB (nI v.n) a2 = false := by simpa using hk2
      have e1 : f_X11_fits 0 (nI p) a2 h = some (-1, h) := by
        simp only [f_X11_fits, e_X11_isKnown, ob_some, R.cn, hk, hk', zb_0, if_true, Bool.true_eq_false, if_false, f_X11_fits_16]
      have e2 : f_X12_fits 56 (nI p) a2 h = some (-1, sI h 56 0 0) := by
        simp only [f_X12_fits, nm_id, e_X12_isPerson, ob_some, R1.mn, hk, hk', zb_0, if_true, Bool.true_eq_false, if_false, f_X12_fits_21, f_X12_fits_39]
      exact ⟨_, h, _, e1, e2, G_of R (agr_refl (W := []) h) (w_f_X12_fits_i56 _ _ _ _ e2) rfl rfl⟩
  · have hk' : knB (nI v.n) a1 = false := by simpa using hk
    have e1 : f_X11_fits 0 a1 a2 h = some (-1, h) := by
      simp only [f_X11_fits, e_X11_isKnown, ob_some, R.cn, hk', zb_0, if_true, f_X11_fits_16]
    have e2 : f_X12_fits 56 a1 a2 h = some (-1, sI h 56 0 0) := by
      simp only [f_X12_fits, nm_id, e_X12_isPerson, ob_some, R1.mn, hk', zb_0, if_true, f_X12_fits_21, f_X12_fits_39]
    exact ⟨_, h, _, e1, e2, G_of R (agr_refl (W := []) h) (w_f_X12_fits_i56 _ _ _ _ e2) rfl rfl⟩
/-! end -/
theorem TxE_le {L L' : Nat} {t : Nat → Nat} {cs ms : Nat → Int32} {b : Nat} (h : TxE L t cs ms b) (hl : L' ≤ L) : TxE L' t cs ms b := fun j hj => h j (by omega)
theorem g1 : G1 Rel := by
  intro h ⟨v, R⟩ a
  have R1 := R.thr (x := 0)
  have hL := R.L160
  by_cases c : a < 0
  · have e1 : f_X11_end 0 a h = some (0, h) := by
      simp only [f_X11_end, c, if_true, f_X11_end_15]
    have e2 : f_X12_end 56 a h = some (0, sI h 56 0 0) := by
      simp only [f_X12_end, nm_id, c, if_true, f_X12_end_17]
    exact ⟨_, _, _, e1, e2, v, R1⟩
  · obtain ⟨j, hj, rfl⟩ := nI_of c
    by_cases d : j ≤ v.L
    · have e1 : f_X11_end 0 (nI j) h = some (1, sI h 1 1 (nI j)) := by
        simp (disch := omega) only [f_X11_end, c, if_false, rv_0_0, rv_0_1, rv_0_2, rv_0_3, rv_0_4, rv_0_6, rv_0_7, rv_0_9, rv_0_10, rv_0_11, rv_0_12, rv_0_13, rv_0_14, rv_1_0, an_2, rv_3_0, rv_3_1, an_4, an_5, rv_6_0, rv_6_1, an_7, an_8, rv_9_0, rv_9_1, an_10, an_11, rv_12_0, rv_12_1, an_13, an_14, rv_15_0, rv_15_1, an_16, an_17, rv_18_0, rv_18_1, an_19, an_20, rv_21_0, rv_21_1, an_22, an_23, rv_24_0, rv_24_1, rv_24_2, an_25, an_26, an_27, rv_28_0, rv_28_1, rv_28_2, an_29, an_30, an_31, rv_32_0, rv_32_1, an_33, an_34, rv_35_0, rv_35_1, rv_35_2, rv_35_3, rv_35_4, rv_35_5, rv_35_6, an_36, an_37, an_38, an_39, an_40, rv_41_0, rv_41_1, rv_41_3, rv_41_4, rv_41_5, an_42, an_43, an_44, an_45, rv_46_0, rv_46_1, rv_46_2, rv_46_3, rv_46_4, rv_46_6, an_47, an_48, rv_49_0, rv_49_1, an_50, rv_51_0, rv_51_1, rv_51_2, rv_51_3, rv_51_4, rv_51_6, rv_51_7, an_52, an_53, an_54, an_55, rv_56_1, rv_56_2, rv_56_3, rv_56_4, rv_56_15, rv_56_16, rv_56_17, rv_56_19, rv_56_22, rv_56_23, rv_56_24, rv_56_25, rv_56_26, rv_56_27, rv_56_28, rv_56_31, rv_56_33, rv_56_35, rv_56_36, rv_56_37, rv_56_39, rv_56_40, rv_56_41, rv_56_42, rv_56_43, rv_56_44, rv_56_46, rv_56_47, rv_56_48, rv_56_49, rv_56_51, rv_56_52, rv_56_54, an_57, an_58, an_59, an_60, an_61, an_62, an_63, an_64, an_65, an_66, an_67, an_68, an_69, an_70, an_71, an_72, an_73, an_74, an_75, an_76, an_77, an_78, an_79, an_80, an_81, an_82, an_83, an_84, an_85, an_86, an_87, R.cL, n_le, d, if_true, nm_id]
      have e2 : f_X12_end 56 (nI j) (sI h 1 1 (nI j)) = some (1, sI (sI (sI h 1 1 (nI j)) 56 0 0) 56 6 (nI j)) := by
        have : (sI (sI h 1 1 (nI j)) 56 0 0).1 56 6 = nI v.L := R.mL
        simp (disch := omega) only [f_X12_end, nm_id, c, if_false, this, n_le, d, if_true]
      refine ⟨_, _, _, e1, e2, ?_⟩
      have a := agr_tr (W := (1, 1) :: (56, 0) :: (56, 6) :: []) (agr_up (w_f_X11_end_i0 _ _ _ e1) rfl) (w_f_X12_end_i56 _ _ _ e2) rfl
      obtain ⟨r1, r2, r3, r4, r5, r6, r7, r8⟩ := R
      refine rel_mk (L := j) (tx := v.tx) ⟨by omega, rfl, rfl, ?_⟩ (gP_eq (agr_on a rfl) r2) (gO_eq (agr_on a rfl) r3) (gR_eq (agr_on a rfl) r4) (gS_eq (agr_on a rfl) r5) (gD_eq (agr_on a rfl) r6) (gG_eq (agr_on a rfl) r7) (gI_eq (agr_on a rfl) r8)
      exact TxE_le r1.2.2.2 d
    · have e1 : f_X11_end 0 (nI j) h = some (0, h) := by
        simp (disch := omega) only [f_X11_end, c, if_false, rv_0_0, rv_0_1, rv_0_2, rv_0_3, rv_0_4, rv_0_6, rv_0_7, rv_0_9, rv_0_10, rv_0_11, rv_0_12, rv_0_13, rv_0_14, rv_1_0, an_2, rv_3_0, rv_3_1, an_4, an_5, rv_6_0, rv_6_1, an_7, an_8, rv_9_0, rv_9_1, an_10, an_11, rv_12_0, rv_12_1, an_13, an_14, rv_15_0, rv_15_1, an_16, an_17, rv_18_0, rv_18_1, an_19, an_20, rv_21_0, rv_21_1, an_22, an_23, rv_24_0, rv_24_1, rv_24_2, an_25, an_26, an_27, rv_28_0, rv_28_1, rv_28_2, an_29, an_30, an_31, rv_32_0, rv_32_1, an_33, an_34, rv_35_0, rv_35_1, rv_35_2, rv_35_3, rv_35_4, rv_35_5, rv_35_6, an_36, an_37, an_38, an_39, an_40, rv_41_0, rv_41_1, rv_41_3, rv_41_4, rv_41_5, an_42, an_43, an_44, an_45, rv_46_0, rv_46_1, rv_46_2, rv_46_3, rv_46_4, rv_46_6, an_47, an_48, rv_49_0, rv_49_1, an_50, rv_51_0, rv_51_1, rv_51_2, rv_51_3, rv_51_4, rv_51_6, rv_51_7, an_52, an_53, an_54, an_55, rv_56_1, rv_56_2, rv_56_3, rv_56_4, rv_56_15, rv_56_16, rv_56_17, rv_56_19, rv_56_22, rv_56_23, rv_56_24, rv_56_25, rv_56_26, rv_56_27, rv_56_28, rv_56_31, rv_56_33, rv_56_35, rv_56_36, rv_56_37, rv_56_39, rv_56_40, rv_56_41, rv_56_42, rv_56_43, rv_56_44, rv_56_46, rv_56_47, rv_56_48, rv_56_49, rv_56_51, rv_56_52, rv_56_54, an_57, an_58, an_59, an_60, an_61, an_62, an_63, an_64, an_65, an_66, an_67, an_68, an_69, an_70, an_71, an_72, an_73, an_74, an_75, an_76, an_77, an_78, an_79, an_80, an_81, an_82, an_83, an_84, an_85, an_86, an_87, R.cL, n_le, d, f_X11_end_15]
      have e2 : f_X12_end 56 (nI j) h = some (0, sI h 56 0 0) := by
        simp (disch := omega) only [f_X12_end, nm_id, c, if_false, R1.mL, n_le, d, f_X12_end_17]
      exact ⟨_, _, _, e1, e2, v, R1⟩
