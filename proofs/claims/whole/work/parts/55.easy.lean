/-! sight -/
theorem gI_mono {n E S E' S' : Nat} {di di' : Nat → Nat → Int32} {se se' : Nat → Nat} {sw ss sw' ss' : Nat → Int32} {im : Bool} {kE kS : Nat} {kh kp : Nat → Int32} {kw : Nat → Nat} {h : AH} (R : gI n E S di se sw ss im kE kS kh kp kw h) (hE : E ≤ E') (hS : S ≤ S') (hd : ∀ e, e < E → di' e = di e) (hs : ∀ s, s < S → se' s = se s ∧ sw' s = sw s ∧ ss' s = ss s) : gI n E' S' di' se' sw' ss' im kE kS kh kp kw h := by
  refine ⟨R.1, R.2.1, fun e => ?_⟩
  obtain ⟨q1, q2, q3, q4, q5, q6, q7, q8, q9⟩ := R.2.2 e
  refine ⟨q1, by omega, by omega, q4, q5, q6, q7, fun e he p hp => ?_, fun s hs' => ?_⟩
  · rw [hd e (by omega)]
    exact q8 e he p hp
  · rw [(hs s (by omega)).1, (hs s (by omega)).2.1, (hs s (by omega)).2.2]
    exact q9 s hs'
theorem h13 {x : Int32} : (13 < x) = (14 ≤ x) := by
  rw [eq_iff_iff, Int32.lt_iff_toInt_lt, Int32.le_iff_toInt_le]
  have a1 : (13 : Int32).toInt = 13 := by decide
  have a2 : (14 : Int32).toInt = 14 := by decide
  rw [a1, a2]
  omega
def sgB (v : Wd) (a b c : Int32) : Bool := knB (nI v.E) a && ((knB (nI v.n) b || decide (¬ b < 10 ∧ ¬ 14 ≤ b)) && (decide (¬ c < 20 ∧ ¬ 50 < c) && decide (v.S ≠ 20)))
theorem g20 : G20 Rel := by
  intro h ⟨v, R⟩ a b c
  have hn := R.n6
  have hE := R.E30
  have hS := R.S20
  have R1 := R.thr (x := 0)
  have z20 : (nI v.S = 20) = (v.S = 20) := n_eq (b := 20) (by omega) (by omega)
  cases hb : sgB v a b c with
  | false =>
    have e1 : f_X11_sight 0 a b c h = some (-1, h) := by
      simp only [f_X11_sight, f_X11_sight_16, f_X11_sight_17, f_X11_sight_47, f_X11_sight_71, rv_0_0, rv_0_1, rv_0_2, rv_0_3, rv_0_4, rv_0_6, rv_0_7, rv_0_9, rv_0_10, rv_0_11, rv_0_12, rv_0_13, rv_0_14, rv_1_0, an_2, rv_3_0, rv_3_1, an_4, an_5, rv_6_0, rv_6_1, an_7, an_8, rv_9_0, rv_9_1, an_10, an_11, rv_12_0, rv_12_1, an_13, an_14, rv_15_0, rv_15_1, an_16, an_17, rv_18_0, rv_18_1, an_19, an_20, rv_21_0, rv_21_1, an_22, an_23, rv_24_0, rv_24_1, rv_24_2, an_25, an_26, an_27, rv_28_0, rv_28_1, rv_28_2, an_29, an_30, an_31, rv_32_0, rv_32_1, an_33, an_34, rv_35_0, rv_35_1, rv_35_2, rv_35_3, rv_35_4, rv_35_5, rv_35_6, an_36, an_37, an_38, an_39, an_40, rv_41_0, rv_41_1, rv_41_3, rv_41_4, rv_41_5, an_42, an_43, an_44, an_45, rv_46_0, rv_46_1, rv_46_2, rv_46_3, rv_46_4, rv_46_6, an_47, an_48, rv_49_0, rv_49_1, an_50, rv_51_0, rv_51_1, rv_51_2, rv_51_3, rv_51_4, rv_51_6, rv_51_7, an_52, an_53, an_54, an_55, rv_56_1, rv_56_2, rv_56_3, rv_56_4, rv_56_15, rv_56_16, rv_56_17, rv_56_19, rv_56_22, rv_56_23, rv_56_24, rv_56_25, rv_56_26, rv_56_27, rv_56_28, rv_56_31, rv_56_33, rv_56_35, rv_56_36, rv_56_37, rv_56_39, rv_56_40, rv_56_41, rv_56_42, rv_56_43, rv_56_44, rv_56_46, rv_56_47, rv_56_48, rv_56_49, rv_56_51, rv_56_52, rv_56_54, an_57, an_58, an_59, an_60, an_61, an_62, an_63, an_64, an_65, an_66, an_67, an_68, an_69, an_70, an_71, an_72, an_73, an_74, an_75, an_76, an_77, an_78, an_79, an_80, an_81, an_82, an_83, an_84, an_85, an_86, an_87, R.cE, R.cS, e_X11_isKnown, ob_some, R.cn, zb_0, z20, if_true, show ((1 : Int32) = 0) = False by decide, if_false]
      unfold sgB at hb
      by_cases c1 : a < 0
      · simp [c1]
      · by_cases c2 : nI v.E ≤ a
        · simp [c1, c2]
        · have k1 : knB (nI v.E) a = true := by simp only [knB, c1, c2, not_false_eq_true, and_self, decide_true]
          rw [k1, Bool.true_and] at hb
          simp only [c1, c2, if_false]
          cases k2 : knB (nI v.n) b with
          | true =>
            simp only [k2, Bool.true_or, Bool.true_and] at hb
            simp only [k2, Bool.true_eq_false, if_false]
            by_cases c3 : c < 20
            · simp [c3]
            · by_cases c4 : 50 < c
              · simp [c3, c4]
              · by_cases c5 : v.S = 20
                · simp [c5]
                · simp [c3, c4, c5] at hb
          | false =>
            simp only [k2, Bool.false_or] at hb
            simp only [k2, if_true]
            by_cases c3 : b < 10
            · simp [c3]
            · by_cases c4 : 14 ≤ b
              · simp [c3, c4]
              · simp only [c3, c4, if_false, not_false_eq_true, and_self, decide_true, Bool.true_and] at hb ⊢
                by_cases c3 : c < 20
                · simp [c3]
                · by_cases c4 : 50 < c
                  · simp [c3, c4]
                  · by_cases c5 : v.S = 20
                    · simp [c5]
                    · simp [c3, c4, c5] at hb
    have e2 : f_X12_sight 56 a b c h = some (-1, sI h 56 0 0) := by
      simp (disch := omega) only [f_X12_sight, nm_id, R1.mS, z20, R1.mE, e_X12_isInP, ob_some, e_X12_isPerson, R1.mn, zb_0, show (10 : Int64) = (10 : Int32).toInt64 from rfl, show (13 : Int64) = (13 : Int32).toInt64 from rfl, show (20 : Int64) = (20 : Int32).toInt64 from rfl, show (50 : Int64) = (50 : Int32).toInt64 from rfl, e_X12_isIn, h13, f_X12_sight_66, f_X12_sight_52]
      unfold sgB at hb
      by_cases c5 : v.S = 20
      · simp [c5]
      · rw [if_neg c5]
        simp only [c5, ne_eq, not_false_eq_true, decide_true, Bool.and_true] at hb
        cases k1 : knB (nI v.E) a with
        | false => simp
        | true =>
          rw [k1, Bool.true_and] at hb
          simp only [Bool.true_eq_false, if_false]
          cases k2 : knB (nI v.n) b with
          | true =>
            simp only [k2, Bool.true_or, Bool.true_and] at hb
            rw [if_neg (by decide), if_pos hb]
          | false =>
            simp only [k2, Bool.false_or] at hb
            rw [if_pos rfl]
            cases k3 : decide (¬ b < 10 ∧ ¬ 14 ≤ b) with
            | false => simp
            | true =>
              rw [k3, Bool.true_and] at hb
              rw [if_neg (by decide), if_pos hb]
    exact ⟨_, _, _, e1, e2, v, R1⟩
  | true =>
    unfold sgB at hb
    simp only [Bool.and_eq_true, Bool.or_eq_true, decide_eq_true_eq] at hb
    obtain ⟨k1, k2, ⟨c3, c4⟩, c5⟩ := hb
    obtain ⟨e, he, rfl⟩ := (knB_iff (by omega)).mp k1
    have d1 : ¬ nI e < 0 := nI_pos (by omega)
    have d2 : ¬ nI v.E ≤ nI e := nI_ge he (by omega)
    have e1 : f_X11_sight 0 (nI e) b c h = some (nI (v.S + 1), sI (sI (sI (sI h 34 (v.S * 3) (nI e)) 34 (v.S * 3 + 1) b) 34 (v.S * 3 + 2) c) 32 3 (nI (v.S + 1))) := by
      have t : f_X11_sight_47 0 (nI e) b c h = some (nI (v.S + 1), sI (sI (sI (sI h 34 (v.S * 3) (nI e)) 34 (v.S * 3 + 1) b) 34 (v.S * 3 + 2) c) 32 3 (nI (v.S + 1))) := by
        have m1 : (sI h 34 (v.S * 3) (nI e)).1 32 3 = nI v.S := R.cS
        have m2 : (sI (sI h 34 (v.S * 3) (nI e)) 34 (v.S * 3 + 1) b).1 32 3 = nI v.S := R.cS
        have m3 : (sI (sI (sI h 34 (v.S * 3) (nI e)) 34 (v.S * 3 + 1) b) 34 (v.S * 3 + 2) c).1 32 3 = nI v.S := R.cS
        simp (disch := omega) only [f_X11_sight_47, c3, c4, if_false, rv_0_0, rv_0_1, rv_0_2, rv_0_3, rv_0_4, rv_0_6, rv_0_7, rv_0_9, rv_0_10, rv_0_11, rv_0_12, rv_0_13, rv_0_14, rv_1_0, an_2, rv_3_0, rv_3_1, an_4, an_5, rv_6_0, rv_6_1, an_7, an_8, rv_9_0, rv_9_1, an_10, an_11, rv_12_0, rv_12_1, an_13, an_14, rv_15_0, rv_15_1, an_16, an_17, rv_18_0, rv_18_1, an_19, an_20, rv_21_0, rv_21_1, an_22, an_23, rv_24_0, rv_24_1, rv_24_2, an_25, an_26, an_27, rv_28_0, rv_28_1, rv_28_2, an_29, an_30, an_31, rv_32_0, rv_32_1, an_33, an_34, rv_35_0, rv_35_1, rv_35_2, rv_35_3, rv_35_4, rv_35_5, rv_35_6, an_36, an_37, an_38, an_39, an_40, rv_41_0, rv_41_1, rv_41_3, rv_41_4, rv_41_5, an_42, an_43, an_44, an_45, rv_46_0, rv_46_1, rv_46_2, rv_46_3, rv_46_4, rv_46_6, an_47, an_48, rv_49_0, rv_49_1, an_50, rv_51_0, rv_51_1, rv_51_2, rv_51_3, rv_51_4, rv_51_6, rv_51_7, an_52, an_53, an_54, an_55, rv_56_1, rv_56_2, rv_56_3, rv_56_4, rv_56_15, rv_56_16, rv_56_17, rv_56_19, rv_56_22, rv_56_23, rv_56_24, rv_56_25, rv_56_26, rv_56_27, rv_56_28, rv_56_31, rv_56_33, rv_56_35, rv_56_36, rv_56_37, rv_56_39, rv_56_40, rv_56_41, rv_56_42, rv_56_43, rv_56_44, rv_56_46, rv_56_47, rv_56_48, rv_56_49, rv_56_51, rv_56_52, rv_56_54, an_57, an_58, an_59, an_60, an_61, an_62, an_63, an_64, an_65, an_66, an_67, an_68, an_69, an_70, an_71, an_72, an_73, an_74, an_75, an_76, an_77, an_78, an_79, an_80, an_81, an_82, an_83, an_84, an_85, an_86, an_87, R.cS, z20, c5, f_X1_addSight, k_le', if_neg (show ¬ 20 ≤ v.S by omega), k_mul, og_ix, nI_clamp, nm_id, m1, k_add, m2, m3, f_X1_addSight_59, ov_some, sI_s]
      simp only [f_X11_sight, f_X11_sight_16, f_X11_sight_17, t, f_X11_sight_71, rv_0_0, rv_0_1, rv_0_2, rv_0_3, rv_0_4, rv_0_6, rv_0_7, rv_0_9, rv_0_10, rv_0_11, rv_0_12, rv_0_13, rv_0_14, rv_1_0, an_2, rv_3_0, rv_3_1, an_4, an_5, rv_6_0, rv_6_1, an_7, an_8, rv_9_0, rv_9_1, an_10, an_11, rv_12_0, rv_12_1, an_13, an_14, rv_15_0, rv_15_1, an_16, an_17, rv_18_0, rv_18_1, an_19, an_20, rv_21_0, rv_21_1, an_22, an_23, rv_24_0, rv_24_1, rv_24_2, an_25, an_26, an_27, rv_28_0, rv_28_1, rv_28_2, an_29, an_30, an_31, rv_32_0, rv_32_1, an_33, an_34, rv_35_0, rv_35_1, rv_35_2, rv_35_3, rv_35_4, rv_35_5, rv_35_6, an_36, an_37, an_38, an_39, an_40, rv_41_0, rv_41_1, rv_41_3, rv_41_4, rv_41_5, an_42, an_43, an_44, an_45, rv_46_0, rv_46_1, rv_46_2, rv_46_3, rv_46_4, rv_46_6, an_47, an_48, rv_49_0, rv_49_1, an_50, rv_51_0, rv_51_1, rv_51_2, rv_51_3, rv_51_4, rv_51_6, rv_51_7, an_52, an_53, an_54, an_55, rv_56_1, rv_56_2, rv_56_3, rv_56_4, rv_56_15, rv_56_16, rv_56_17, rv_56_19, rv_56_22, rv_56_23, rv_56_24, rv_56_25, rv_56_26, rv_56_27, rv_56_28, rv_56_31, rv_56_33, rv_56_35, rv_56_36, rv_56_37, rv_56_39, rv_56_40, rv_56_41, rv_56_42, rv_56_43, rv_56_44, rv_56_46, rv_56_47, rv_56_48, rv_56_49, rv_56_51, rv_56_52, rv_56_54, an_57, an_58, an_59, an_60, an_61, an_62, an_63, an_64, an_65, an_66, an_67, an_68, an_69, an_70, an_71, an_72, an_73, an_74, an_75, an_76, an_77, an_78, an_79, an_80, an_81, an_82, an_83, an_84, an_85, an_86, an_87, R.cE, d1, d2, if_false, e_X11_isKnown, ob_some, R.cn, zb_0, if_true, show ((1 : Int32) = 0) = False by decide]
      by_cases q1 : b < 10
      · rw [if_pos q1]
        have : knB (nI v.n) b = true := by
          rcases k2 with k | k
          · exact k
          · exact absurd q1 k.1
        rw [this]
        rfl
      · rw [if_neg q1]
        by_cases q2 : 14 ≤ b
        · rw [if_pos q2]
          have : knB (nI v.n) b = true := by
            rcases k2 with k | k
            · exact k
            · exact absurd q2 k.2
          rw [this]
          rfl
        · rw [if_neg q2]
          split <;> rfl
    have e2 : f_X12_sight 56 (nI e) b c (sI (sI (sI (sI h 34 (v.S * 3) (nI e)) 34 (v.S * 3 + 1) b) 34 (v.S * 3 + 2) c) 32 3 (nI (v.S + 1))) = some (nI (v.S + 1), sI (sI (sI (sI (sI (sI (sI (sI (sI h 34 (v.S * 3) (nI e)) 34 (v.S * 3 + 1) b) 34 (v.S * 3 + 2) c) 32 3 (nI (v.S + 1))) 56 0 0) 81 v.S (nI e)) 82 v.S b) 83 v.S c) 56 50 (nI (v.S + 1))) := by
      generalize hg : sI (sI (sI (sI (sI h 34 (v.S * 3) (nI e)) 34 (v.S * 3 + 1) b) 34 (v.S * 3 + 2) c) 32 3 (nI (v.S + 1))) 56 0 0 = g
      have g1 : g.1 56 50 = nI v.S := by rw [← hg]; exact R.mS
      have g2 : g.1 56 32 = nI v.E := by rw [← hg]; exact R.mE
      have g3 : g.1 56 20 = nI v.n := by rw [← hg]; exact R.mn
      have m1 : (sI g 81 v.S (nI e)).1 56 50 = nI v.S := g1
      have m2 : (sI (sI g 81 v.S (nI e)) 82 v.S b).1 56 50 = nI v.S := g1
      have m3 : (sI (sI (sI g 81 v.S (nI e)) 82 v.S b) 83 v.S c).1 56 50 = nI v.S := g1
      have t : f_X12_sight_52 56 (nI e) b c g = some (nI (v.S + 1), sI (sI (sI (sI g 81 v.S (nI e)) 82 v.S b) 83 v.S c) 56 50 (nI (v.S + 1))) := by
        simp (disch := omega) only [f_X12_sight_52, show (20 : Int64) = (20 : Int32).toInt64 from rfl, show (50 : Int64) = (50 : Int32).toInt64 from rfl, e_X12_isIn, c3, c4, not_false_eq_true, and_self, decide_true, ob_some, zb_0, Bool.true_eq_false, if_false, rv_0_0, rv_0_1, rv_0_2, rv_0_3, rv_0_4, rv_0_6, rv_0_7, rv_0_9, rv_0_10, rv_0_11, rv_0_12, rv_0_13, rv_0_14, rv_1_0, an_2, rv_3_0, rv_3_1, an_4, an_5, rv_6_0, rv_6_1, an_7, an_8, rv_9_0, rv_9_1, an_10, an_11, rv_12_0, rv_12_1, an_13, an_14, rv_15_0, rv_15_1, an_16, an_17, rv_18_0, rv_18_1, an_19, an_20, rv_21_0, rv_21_1, an_22, an_23, rv_24_0, rv_24_1, rv_24_2, an_25, an_26, an_27, rv_28_0, rv_28_1, rv_28_2, an_29, an_30, an_31, rv_32_0, rv_32_1, an_33, an_34, rv_35_0, rv_35_1, rv_35_2, rv_35_3, rv_35_4, rv_35_5, rv_35_6, an_36, an_37, an_38, an_39, an_40, rv_41_0, rv_41_1, rv_41_3, rv_41_4, rv_41_5, an_42, an_43, an_44, an_45, rv_46_0, rv_46_1, rv_46_2, rv_46_3, rv_46_4, rv_46_6, an_47, an_48, rv_49_0, rv_49_1, an_50, rv_51_0, rv_51_1, rv_51_2, rv_51_3, rv_51_4, rv_51_6, rv_51_7, an_52, an_53, an_54, an_55, rv_56_1, rv_56_2, rv_56_3, rv_56_4, rv_56_15, rv_56_16, rv_56_17, rv_56_19, rv_56_22, rv_56_23, rv_56_24, rv_56_25, rv_56_26, rv_56_27, rv_56_28, rv_56_31, rv_56_33, rv_56_35, rv_56_36, rv_56_37, rv_56_39, rv_56_40, rv_56_41, rv_56_42, rv_56_43, rv_56_44, rv_56_46, rv_56_47, rv_56_48, rv_56_49, rv_56_51, rv_56_52, rv_56_54, an_57, an_58, an_59, an_60, an_61, an_62, an_63, an_64, an_65, an_66, an_67, an_68, an_69, an_70, an_71, an_72, an_73, an_74, an_75, an_76, an_77, an_78, an_79, an_80, an_81, an_82, an_83, an_84, an_85, an_86, an_87, g1, og_ix, nI_clamp, nm_id, m1, m2, m3, k_add, sI_s]
      simp (disch := omega) only [f_X12_sight, nm_id, hg, g1, z20, c5, if_false, g2, e_X12_isInP, k1, ob_some, zb_0, Bool.true_eq_false, e_X12_isPerson, g3, t, f_X12_sight_66, show (10 : Int64) = (10 : Int32).toInt64 from rfl, show (13 : Int64) = (13 : Int32).toInt64 from rfl, e_X12_isIn, h13]
      rcases k2 with k | k
      · rw [k]
        rfl
      · simp [k]
    refine ⟨_, _, _, e1, e2, ?_⟩
    have ag := agr_tr (W := (34, 1000) :: (32, 3) :: (56, 0) :: (81, 1000) :: (82, 1000) :: (83, 1000) :: (56, 50) :: []) (agr_up (w_f_X11_sight_i0 _ _ _ _ _ e1) rfl) (w_f_X12_sight_i56 _ _ _ _ _ e2) rfl
    obtain ⟨r1, r2, r3, r4, r5, r6, r7, r8⟩ := R
    refine rel_mk (se := fun s => if s = v.S then e else v.se s) (sw := fun s => if s = v.S then b else v.sw s) (ss := fun s => if s = v.S then c else v.ss s) (S := v.S + 1) (gT_eq (agr_on ag rfl) r1) (gP_eq (agr_on ag rfl) r2) (gO_eq (agr_on ag rfl) r3) (gR_eq (agr_on ag rfl) r4) (gS_eq (agr_on ag rfl) r5) (gD_eq (agr_on ag rfl) r6) ⟨by omega, rfl, rfl, fun s hs => ?_⟩ (gI_mono (gI_eq (agr_on ag rfl) r8) (Nat.le_refl _) (by omega) (fun _ _ => rfl) (fun s hs => by simp [show ¬ s = v.S by omega]))
    by_cases q : s = v.S
    · subst q
      simp [sI_eq, he]
    · have := r7.2.2.2 s (by omega)
      simp only [sI_eq, if_neg q]
      simp [show ¬ s * 3 = v.S * 3 by omega, show ¬ s * 3 = v.S * 3 + 1 by omega, show ¬ s * 3 = v.S * 3 + 2 by omega, show ¬ s * 3 + 1 = v.S * 3 by omega, show ¬ s * 3 + 1 = v.S * 3 + 1 by omega, show ¬ s * 3 + 1 = v.S * 3 + 2 by omega, show ¬ s * 3 + 2 = v.S * 3 by omega, show ¬ s * 3 + 2 = v.S * 3 + 1 by omega, show ¬ s * 3 + 2 = v.S * 3 + 2 by omega, show ¬ s = v.S by omega]
      simpa using this
/-! image -/
theorem cp6 {h : AH} {a b : Nat} (j : Nat) (hj : j < 6) : (sCp h a 0 b 0 6).1 b j = h.1 a j := by
  show (if b = b then va_cpy (h.1 a) (h.1 b) 0 0 6 j else h.1 b j) = h.1 a j
  rw [if_pos rfl, pk_cpy_in (Nat.zero_le _) (by omega)]
  simp
theorem cpn {h : AH} {a b k : Nat} (hk : k ≠ b) (x y z : Int32) : (sCp h a x b y z).1 k = h.1 k := by
  funext j
  show (if k = b then _ else h.1 k j) = _
  rw [if_neg hk]
theorem e_X9_copy (h : AH) : ∃ h', f_X9_copy 28 24 h = some h' ∧ Agr W_X9_copy_i28_24 h h' ∧ ∀ j, j < 6 → h'.1 29 j = h.1 25 j ∧ h'.1 30 j = h.1 26 j ∧ h'.1 31 j = h.1 27 j := by
  have e : f_X9_copy 28 24 h = some (sCp (sCp (sCp h 25 0 29 0 6) 26 0 30 0 6) 27 0 31 0 6) := by
    simp only [f_X9_copy, rv_0_0, rv_0_1, rv_0_2, rv_0_3, rv_0_4, rv_0_6, rv_0_7, rv_0_9, rv_0_10, rv_0_11, rv_0_12, rv_0_13, rv_0_14, rv_1_0, an_2, rv_3_0, rv_3_1, an_4, an_5, rv_6_0, rv_6_1, an_7, an_8, rv_9_0, rv_9_1, an_10, an_11, rv_12_0, rv_12_1, an_13, an_14, rv_15_0, rv_15_1, an_16, an_17, rv_18_0, rv_18_1, an_19, an_20, rv_21_0, rv_21_1, an_22, an_23, rv_24_0, rv_24_1, rv_24_2, an_25, an_26, an_27, rv_28_0, rv_28_1, rv_28_2, an_29, an_30, an_31, rv_32_0, rv_32_1, an_33, an_34, rv_35_0, rv_35_1, rv_35_2, rv_35_3, rv_35_4, rv_35_5, rv_35_6, an_36, an_37, an_38, an_39, an_40, rv_41_0, rv_41_1, rv_41_3, rv_41_4, rv_41_5, an_42, an_43, an_44, an_45, rv_46_0, rv_46_1, rv_46_2, rv_46_3, rv_46_4, rv_46_6, an_47, an_48, rv_49_0, rv_49_1, an_50, rv_51_0, rv_51_1, rv_51_2, rv_51_3, rv_51_4, rv_51_6, rv_51_7, an_52, an_53, an_54, an_55, rv_56_1, rv_56_2, rv_56_3, rv_56_4, rv_56_15, rv_56_16, rv_56_17, rv_56_19, rv_56_22, rv_56_23, rv_56_24, rv_56_25, rv_56_26, rv_56_27, rv_56_28, rv_56_31, rv_56_33, rv_56_35, rv_56_36, rv_56_37, rv_56_39, rv_56_40, rv_56_41, rv_56_42, rv_56_43, rv_56_44, rv_56_46, rv_56_47, rv_56_48, rv_56_49, rv_56_51, rv_56_52, rv_56_54, an_57, an_58, an_59, an_60, an_61, an_62, an_63, an_64, an_65, an_66, an_67, an_68, an_69, an_70, an_71, an_72, an_73, an_74, an_75, an_76, an_77, an_78, an_79, an_80, an_81, an_82, an_83, an_84, an_85, an_86, an_87, nm_id]
    rfl
  refine ⟨_, e, w_f_X9_copy_i28_24 _ _ e, fun j hj => ⟨?_, ?_, ?_⟩⟩
  · rw [cpn (by decide), cpn (by decide), cp6 j hj]
  · rw [cpn (by decide), cp6 j hj, cpn (by decide)]
  · rw [cp6 j hj, cpn (by decide), cpn (by decide)]
theorem e_X9_copyb (h : AH) : ∃ h', f_X9_copy 24 28 h = some h' ∧ Agr W_X9_copy_i24_28 h h' ∧ ∀ j, j < 6 → h'.1 25 j = h.1 29 j ∧ h'.1 26 j = h.1 30 j ∧ h'.1 27 j = h.1 31 j := by
  have e : f_X9_copy 24 28 h = some (sCp (sCp (sCp h 29 0 25 0 6) 30 0 26 0 6) 31 0 27 0 6) := by
    simp only [f_X9_copy, rv_0_0, rv_0_1, rv_0_2, rv_0_3, rv_0_4, rv_0_6, rv_0_7, rv_0_9, rv_0_10, rv_0_11, rv_0_12, rv_0_13, rv_0_14, rv_1_0, an_2, rv_3_0, rv_3_1, an_4, an_5, rv_6_0, rv_6_1, an_7, an_8, rv_9_0, rv_9_1, an_10, an_11, rv_12_0, rv_12_1, an_13, an_14, rv_15_0, rv_15_1, an_16, an_17, rv_18_0, rv_18_1, an_19, an_20, rv_21_0, rv_21_1, an_22, an_23, rv_24_0, rv_24_1, rv_24_2, an_25, an_26, an_27, rv_28_0, rv_28_1, rv_28_2, an_29, an_30, an_31, rv_32_0, rv_32_1, an_33, an_34, rv_35_0, rv_35_1, rv_35_2, rv_35_3, rv_35_4, rv_35_5, rv_35_6, an_36, an_37, an_38, an_39, an_40, rv_41_0, rv_41_1, rv_41_3, rv_41_4, rv_41_5, an_42, an_43, an_44, an_45, rv_46_0, rv_46_1, rv_46_2, rv_46_3, rv_46_4, rv_46_6, an_47, an_48, rv_49_0, rv_49_1, an_50, rv_51_0, rv_51_1, rv_51_2, rv_51_3, rv_51_4, rv_51_6, rv_51_7, an_52, an_53, an_54, an_55, rv_56_1, rv_56_2, rv_56_3, rv_56_4, rv_56_15, rv_56_16, rv_56_17, rv_56_19, rv_56_22, rv_56_23, rv_56_24, rv_56_25, rv_56_26, rv_56_27, rv_56_28, rv_56_31, rv_56_33, rv_56_35, rv_56_36, rv_56_37, rv_56_39, rv_56_40, rv_56_41, rv_56_42, rv_56_43, rv_56_44, rv_56_46, rv_56_47, rv_56_48, rv_56_49, rv_56_51, rv_56_52, rv_56_54, an_57, an_58, an_59, an_60, an_61, an_62, an_63, an_64, an_65, an_66, an_67, an_68, an_69, an_70, an_71, an_72, an_73, an_74, an_75, an_76, an_77, an_78, an_79, an_80, an_81, an_82, an_83, an_84, an_85, an_86, an_87, nm_id]
    rfl
  refine ⟨_, e, w_f_X9_copy_i24_28 _ _ e, fun j hj => ⟨?_, ?_, ?_⟩⟩
  · rw [cpn (by decide), cpn (by decide), cp6 j hj]
  · rw [cpn (by decide), cp6 j hj, cpn (by decide)]
  · rw [cp6 j hj, cpn (by decide), cpn (by decide)]
theorem e_X12_image_106 (h : AH) : ∃ h', f_X12_image_106 FU 56 0 h = some (h.1 56 32, h') ∧ Agr W_X12_image_i56 h h' ∧ (∀ j, j < 198 → h'.1 86 j = h.1 86 j) ∧ (∀ j, j < 20 → h'.1 86 (198 + j * 3) = h.1 81 j ∧ h'.1 86 (198 + j * 3 + 1) = h.1 82 j ∧ h'.1 86 (198 + j * 3 + 2) = h.1 83 j) ∧ h'.1 56 55 = h.1 56 32 ∧ h'.1 56 56 = h.1 56 50 ∧ h'.1 56 57 = 1 := by
  refine lp (fun n i s => ∃ h', f_X12_image_106 n 56 (nI i) s = some (h.1 56 32, h') ∧ Agr W_X12_image_i56 h h' ∧ (∀ j, j < 198 → h'.1 86 j = h.1 86 j) ∧ (∀ j, j < 20 → h'.1 86 (198 + j * 3) = h.1 81 j ∧ h'.1 86 (198 + j * 3 + 1) = h.1 82 j ∧ h'.1 86 (198 + j * 3 + 2) = h.1 83 j) ∧ h'.1 56 55 = h.1 56 32 ∧ h'.1 56 56 = h.1 56 50 ∧ h'.1 56 57 = 1)
    (fun i s => Agr ((86, 1000) :: []) h s ∧ (∀ j, j < 198 → s.1 86 j = h.1 86 j) ∧ (∀ j, j < i → s.1 86 (198 + j * 3) = h.1 81 j ∧ s.1 86 (198 + j * 3 + 1) = h.1 82 j ∧ s.1 86 (198 + j * 3 + 2) = h.1 83 j)) 20 (by decide) ?_ ?_ ⟨agr_refl h, fun _ _ => rfl, fun j hj => absurd hj (by omega)⟩
  · rintro n s ⟨a, p1, p2⟩
    rw [f_X12_image_106]
    simp (disch := omega) only [k_mul, k_mul', k_add, k_le, k_le', k_lt, k_lt', k_eq, n_le, n_lt, n_eq, n_m1, nI_add, pk_mul, Nat.le_refl, if_true, nm_id]
    refine ⟨_, by rw [show (sI (sI (sI s 56 55 (s.1 56 32)) 56 56 ((sI s 56 55 (s.1 56 32)).1 56 50)) 56 57 1).1 56 32 = s.1 56 32 from rfl, a.1 56 32 rfl], ?_, ?_, ?_, ?_, ?_, rfl⟩
    · exact agr_sI (agr_sI (agr_sI (agr_up a rfl) rfl) rfl) rfl
    · exact p1
    · exact p2
    · rfl
    · exact a.1 56 50 rfl
  · rintro n i s hi ⟨a, p1, p2⟩ K
    have e1 : s.1 81 i = h.1 81 i := a.1 81 i rfl
    have e2 : s.1 82 i = h.1 82 i := a.1 82 i rfl
    have e3 : s.1 83 i = h.1 83 i := a.1 83 i rfl
    have t1 : ∀ (x : Int32) (b : Nat), (sI s 86 b x).1 82 i = h.1 82 i := fun _ _ => e2
    have t2 : ∀ (x y : Int32) (b c : Nat), (sI (sI s 86 b x) 86 c y).1 83 i = h.1 83 i := fun _ _ _ _ => e3
    rw [f_X12_image_106]
    simp (disch := omega) only [show (198 : Int32) = nI 198 from rfl, k_mul, k_mul', k_add, k_le, k_le', k_lt, k_lt', k_eq, n_le, n_lt, n_eq, n_m1, nI_add, pk_mul, rv_0_0, rv_0_1, rv_0_2, rv_0_3, rv_0_4, rv_0_6, rv_0_7, rv_0_9, rv_0_10, rv_0_11, rv_0_12, rv_0_13, rv_0_14, rv_1_0, an_2, rv_3_0, rv_3_1, an_4, an_5, rv_6_0, rv_6_1, an_7, an_8, rv_9_0, rv_9_1, an_10, an_11, rv_12_0, rv_12_1, an_13, an_14, rv_15_0, rv_15_1, an_16, an_17, rv_18_0, rv_18_1, an_19, an_20, rv_21_0, rv_21_1, an_22, an_23, rv_24_0, rv_24_1, rv_24_2, an_25, an_26, an_27, rv_28_0, rv_28_1, rv_28_2, an_29, an_30, an_31, rv_32_0, rv_32_1, an_33, an_34, rv_35_0, rv_35_1, rv_35_2, rv_35_3, rv_35_4, rv_35_5, rv_35_6, an_36, an_37, an_38, an_39, an_40, rv_41_0, rv_41_1, rv_41_3, rv_41_4, rv_41_5, an_42, an_43, an_44, an_45, rv_46_0, rv_46_1, rv_46_2, rv_46_3, rv_46_4, rv_46_6, an_47, an_48, rv_49_0, rv_49_1, an_50, rv_51_0, rv_51_1, rv_51_2, rv_51_3, rv_51_4, rv_51_6, rv_51_7, an_52, an_53, an_54, an_55, rv_56_1, rv_56_2, rv_56_3, rv_56_4, rv_56_15, rv_56_16, rv_56_17, rv_56_19, rv_56_22, rv_56_23, rv_56_24, rv_56_25, rv_56_26, rv_56_27, rv_56_28, rv_56_31, rv_56_33, rv_56_35, rv_56_36, rv_56_37, rv_56_39, rv_56_40, rv_56_41, rv_56_42, rv_56_43, rv_56_44, rv_56_46, rv_56_47, rv_56_48, rv_56_49, rv_56_51, rv_56_52, rv_56_54, an_57, an_58, an_59, an_60, an_61, an_62, an_63, an_64, an_65, an_66, an_67, an_68, an_69, an_70, an_71, an_72, an_73, an_74, an_75, an_76, an_77, an_78, an_79, an_80, an_81, an_82, an_83, an_84, an_85, an_86, an_87, if_neg (show ¬ 20 ≤ i by omega), og_ix, nI_clamp, nm_id, e1, t1, t2]
    refine K _ ⟨agr_sI (agr_sI (agr_sI a rfl) rfl) rfl, fun j hj => ?_, fun j hj => ?_⟩
    · simp only [sI_eq]
      simp [show ¬ j = 198 + i * 3 by omega, show ¬ j = 198 + i * 3 + 1 by omega, show ¬ j = 198 + i * 3 + 2 by omega, p1 j hj]
    · by_cases q : j = i
      · subst q
        simp [sI_eq]
      · have := p2 j (by omega)
        simp only [sI_eq]
        simp [show ¬ j * 3 = i * 3 by omega, show ¬ 198 + j * 3 = 198 + i * 3 + 1 by omega, show ¬ 198 + j * 3 = 198 + i * 3 + 2 by omega, show ¬ 198 + j * 3 + 1 = 198 + i * 3 by omega, show ¬ 198 + j * 3 + 1 = 198 + i * 3 + 1 by omega, show ¬ 198 + j * 3 + 1 = 198 + i * 3 + 2 by omega, show ¬ 198 + j * 3 + 2 = 198 + i * 3 by omega, show ¬ 198 + j * 3 + 2 = 198 + i * 3 + 1 by omega, show ¬ 198 + j * 3 + 2 = 198 + i * 3 + 2 by omega, show ¬ j = i from q, this]
theorem e_X12_image_76 (h : AH) : ∃ h', f_X12_image_76 FU 56 0 h = some (h.1 56 32, h') ∧ Agr W_X12_image_i56 h h' ∧ (∀ j, j < 18 → h'.1 86 j = h.1 86 j) ∧ (∀ j, j < 180 → h'.1 86 (18 + j) = h.1 69 j) ∧ (∀ j, j < 20 → h'.1 86 (198 + j * 3) = h.1 81 j ∧ h'.1 86 (198 + j * 3 + 1) = h.1 82 j ∧ h'.1 86 (198 + j * 3 + 2) = h.1 83 j) ∧ h'.1 56 55 = h.1 56 32 ∧ h'.1 56 56 = h.1 56 50 ∧ h'.1 56 57 = 1 := by
  refine lp (fun n i s => ∃ h', f_X12_image_76 n 56 (nI i) s = some (h.1 56 32, h') ∧ Agr W_X12_image_i56 h h' ∧ (∀ j, j < 18 → h'.1 86 j = h.1 86 j) ∧ (∀ j, j < 180 → h'.1 86 (18 + j) = h.1 69 j) ∧ (∀ j, j < 20 → h'.1 86 (198 + j * 3) = h.1 81 j ∧ h'.1 86 (198 + j * 3 + 1) = h.1 82 j ∧ h'.1 86 (198 + j * 3 + 2) = h.1 83 j) ∧ h'.1 56 55 = h.1 56 32 ∧ h'.1 56 56 = h.1 56 50 ∧ h'.1 56 57 = 1)
    (fun i s => Agr ((86, 1000) :: []) h s ∧ (∀ j, j < 18 → s.1 86 j = h.1 86 j) ∧ (∀ j, j < i → s.1 86 (18 + j) = h.1 69 j)) 180 (by decide) ?_ ?_ ⟨agr_refl h, fun _ _ => rfl, fun j hj => absurd hj (by omega)⟩
  · rintro n s ⟨a, p1, p2⟩
    rw [f_X12_image_76]
    simp (disch := omega) only [k_mul, k_mul', k_add, k_le, k_le', k_lt, k_lt', k_eq, n_le, n_lt, n_eq, n_m1, nI_add, pk_mul, Nat.le_refl, if_true]
    obtain ⟨h', e, a', q1, q2, q3, q4, q5⟩ := e_X12_image_106 s
    refine ⟨h', by rw [e, a.1 56 32 rfl], agr_tr (agr_up a rfl) a' rfl, fun j hj => (q1 j (by omega)).trans (p1 j hj), fun j hj => (q1 (18 + j) (by omega)).trans (p2 j hj), fun j hj => ?_, q3.trans (a.1 56 32 rfl), q4.trans (a.1 56 50 rfl), q5⟩
    rw [(q2 j hj).1, (q2 j hj).2.1, (q2 j hj).2.2]
    exact ⟨a.1 81 j rfl, a.1 82 j rfl, a.1 83 j rfl⟩
  · rintro n i s hi ⟨a, p1, p2⟩ K
    have e1 : s.1 69 i = h.1 69 i := a.1 69 i rfl
    rw [f_X12_image_76]
    simp (disch := omega) only [show (18 : Int32) = nI 18 from rfl, k_mul, k_mul', k_add, k_le, k_le', k_lt, k_lt', k_eq, n_le, n_lt, n_eq, n_m1, nI_add, pk_mul, rv_0_0, rv_0_1, rv_0_2, rv_0_3, rv_0_4, rv_0_6, rv_0_7, rv_0_9, rv_0_10, rv_0_11, rv_0_12, rv_0_13, rv_0_14, rv_1_0, an_2, rv_3_0, rv_3_1, an_4, an_5, rv_6_0, rv_6_1, an_7, an_8, rv_9_0, rv_9_1, an_10, an_11, rv_12_0, rv_12_1, an_13, an_14, rv_15_0, rv_15_1, an_16, an_17, rv_18_0, rv_18_1, an_19, an_20, rv_21_0, rv_21_1, an_22, an_23, rv_24_0, rv_24_1, rv_24_2, an_25, an_26, an_27, rv_28_0, rv_28_1, rv_28_2, an_29, an_30, an_31, rv_32_0, rv_32_1, an_33, an_34, rv_35_0, rv_35_1, rv_35_2, rv_35_3, rv_35_4, rv_35_5, rv_35_6, an_36, an_37, an_38, an_39, an_40, rv_41_0, rv_41_1, rv_41_3, rv_41_4, rv_41_5, an_42, an_43, an_44, an_45, rv_46_0, rv_46_1, rv_46_2, rv_46_3, rv_46_4, rv_46_6, an_47, an_48, rv_49_0, rv_49_1, an_50, rv_51_0, rv_51_1, rv_51_2, rv_51_3, rv_51_4, rv_51_6, rv_51_7, an_52, an_53, an_54, an_55, rv_56_1, rv_56_2, rv_56_3, rv_56_4, rv_56_15, rv_56_16, rv_56_17, rv_56_19, rv_56_22, rv_56_23, rv_56_24, rv_56_25, rv_56_26, rv_56_27, rv_56_28, rv_56_31, rv_56_33, rv_56_35, rv_56_36, rv_56_37, rv_56_39, rv_56_40, rv_56_41, rv_56_42, rv_56_43, rv_56_44, rv_56_46, rv_56_47, rv_56_48, rv_56_49, rv_56_51, rv_56_52, rv_56_54, an_57, an_58, an_59, an_60, an_61, an_62, an_63, an_64, an_65, an_66, an_67, an_68, an_69, an_70, an_71, an_72, an_73, an_74, an_75, an_76, an_77, an_78, an_79, an_80, an_81, an_82, an_83, an_84, an_85, an_86, an_87, if_neg (show ¬ 180 ≤ i by omega), og_ix, nI_clamp, nm_id, e1]
    refine K _ ⟨agr_sI a rfl, fun j hj => ?_, fun j hj => ?_⟩
    · rw [sI_n (Or.inr (by omega)), p1 j hj]
    · by_cases q : j = i
      · subst q
        rw [sI_s]
      · rw [sI_n (Or.inr (by omega)), p2 j (by omega)]
theorem e_X12_image_16 (h : AH) : ∃ h', f_X12_image_16 FU 56 0 h = some (h.1 56 32, h') ∧ Agr W_X12_image_i56 h h' ∧ (∀ j, j < 6 → h'.1 86 (j * 3) = h.1 62 j ∧ h'.1 86 (j * 3 + 1) = h.1 63 j ∧ h'.1 86 (j * 3 + 2) = h.1 65 j) ∧ (∀ j, j < 180 → h'.1 86 (18 + j) = h.1 69 j) ∧ (∀ j, j < 20 → h'.1 86 (198 + j * 3) = h.1 81 j ∧ h'.1 86 (198 + j * 3 + 1) = h.1 82 j ∧ h'.1 86 (198 + j * 3 + 2) = h.1 83 j) ∧ h'.1 56 55 = h.1 56 32 ∧ h'.1 56 56 = h.1 56 50 ∧ h'.1 56 57 = 1 := by
  refine lp (fun n i s => ∃ h', f_X12_image_16 n 56 (nI i) s = some (h.1 56 32, h') ∧ Agr W_X12_image_i56 h h' ∧ (∀ j, j < 6 → h'.1 86 (j * 3) = h.1 62 j ∧ h'.1 86 (j * 3 + 1) = h.1 63 j ∧ h'.1 86 (j * 3 + 2) = h.1 65 j) ∧ (∀ j, j < 180 → h'.1 86 (18 + j) = h.1 69 j) ∧ (∀ j, j < 20 → h'.1 86 (198 + j * 3) = h.1 81 j ∧ h'.1 86 (198 + j * 3 + 1) = h.1 82 j ∧ h'.1 86 (198 + j * 3 + 2) = h.1 83 j) ∧ h'.1 56 55 = h.1 56 32 ∧ h'.1 56 56 = h.1 56 50 ∧ h'.1 56 57 = 1)
    (fun i s => Agr ((86, 1000) :: []) h s ∧ (∀ j, j < i → s.1 86 (j * 3) = h.1 62 j ∧ s.1 86 (j * 3 + 1) = h.1 63 j ∧ s.1 86 (j * 3 + 2) = h.1 65 j)) 6 (by decide) ?_ ?_ ⟨agr_refl h, fun j hj => absurd hj (by omega)⟩
  · rintro n s ⟨a, p2⟩
    rw [f_X12_image_16]
    simp (disch := omega) only [k_mul, k_mul', k_add, k_le, k_le', k_lt, k_lt', k_eq, n_le, n_lt, n_eq, n_m1, nI_add, pk_mul, Nat.le_refl, if_true]
    obtain ⟨h', e, a', q0, q1, q2, q3, q4, q5⟩ := e_X12_image_76 s
    refine ⟨h', by rw [e, a.1 56 32 rfl], agr_tr (agr_up a rfl) a' rfl, fun j hj => ?_, fun j hj => (q1 j hj).trans (a.1 69 j rfl), fun j hj => ?_, q3.trans (a.1 56 32 rfl), q4.trans (a.1 56 50 rfl), q5⟩
    · rw [q0 (j * 3) (by omega), q0 (j * 3 + 1) (by omega), q0 (j * 3 + 2) (by omega)]
      exact p2 j hj
    · rw [(q2 j hj).1, (q2 j hj).2.1, (q2 j hj).2.2]
      exact ⟨a.1 81 j rfl, a.1 82 j rfl, a.1 83 j rfl⟩
  · rintro n i s hi ⟨a, p2⟩ K
    have e1 : s.1 62 i = h.1 62 i := a.1 62 i rfl
    have e2 : s.1 63 i = h.1 63 i := a.1 63 i rfl
    have e3 : s.1 65 i = h.1 65 i := a.1 65 i rfl
    have t1 : ∀ (x : Int32) (b : Nat), (sI s 86 b x).1 63 i = h.1 63 i := fun _ _ => e2
    have t2 : ∀ (x y : Int32) (b c : Nat), (sI (sI s 86 b x) 86 c y).1 65 i = h.1 65 i := fun _ _ _ _ => e3
    rw [f_X12_image_16]
    simp (disch := omega) only [k_mul, k_mul', k_add, k_le, k_le', k_lt, k_lt', k_eq, n_le, n_lt, n_eq, n_m1, nI_add, pk_mul, rv_0_0, rv_0_1, rv_0_2, rv_0_3, rv_0_4, rv_0_6, rv_0_7, rv_0_9, rv_0_10, rv_0_11, rv_0_12, rv_0_13, rv_0_14, rv_1_0, an_2, rv_3_0, rv_3_1, an_4, an_5, rv_6_0, rv_6_1, an_7, an_8, rv_9_0, rv_9_1, an_10, an_11, rv_12_0, rv_12_1, an_13, an_14, rv_15_0, rv_15_1, an_16, an_17, rv_18_0, rv_18_1, an_19, an_20, rv_21_0, rv_21_1, an_22, an_23, rv_24_0, rv_24_1, rv_24_2, an_25, an_26, an_27, rv_28_0, rv_28_1, rv_28_2, an_29, an_30, an_31, rv_32_0, rv_32_1, an_33, an_34, rv_35_0, rv_35_1, rv_35_2, rv_35_3, rv_35_4, rv_35_5, rv_35_6, an_36, an_37, an_38, an_39, an_40, rv_41_0, rv_41_1, rv_41_3, rv_41_4, rv_41_5, an_42, an_43, an_44, an_45, rv_46_0, rv_46_1, rv_46_2, rv_46_3, rv_46_4, rv_46_6, an_47, an_48, rv_49_0, rv_49_1, an_50, rv_51_0, rv_51_1, rv_51_2, rv_51_3, rv_51_4, rv_51_6, rv_51_7, an_52, an_53, an_54, an_55, rv_56_1, rv_56_2, rv_56_3, rv_56_4, rv_56_15, rv_56_16, rv_56_17, rv_56_19, rv_56_22, rv_56_23, rv_56_24, rv_56_25, rv_56_26, rv_56_27, rv_56_28, rv_56_31, rv_56_33, rv_56_35, rv_56_36, rv_56_37, rv_56_39, rv_56_40, rv_56_41, rv_56_42, rv_56_43, rv_56_44, rv_56_46, rv_56_47, rv_56_48, rv_56_49, rv_56_51, rv_56_52, rv_56_54, an_57, an_58, an_59, an_60, an_61, an_62, an_63, an_64, an_65, an_66, an_67, an_68, an_69, an_70, an_71, an_72, an_73, an_74, an_75, an_76, an_77, an_78, an_79, an_80, an_81, an_82, an_83, an_84, an_85, an_86, an_87, if_neg (show ¬ 6 ≤ i by omega), og_ix, nI_clamp, nm_id, e1, t1, t2]
    refine K _ ⟨agr_sI (agr_sI (agr_sI a rfl) rfl) rfl, fun j hj => ?_⟩
    by_cases q : j = i
    · subst q
      simp [sI_eq]
    · have := p2 j (by omega)
      simp only [sI_eq]
      simp [show ¬ j * 3 = i * 3 by omega, show ¬ j * 3 = i * 3 + 1 by omega, show ¬ j * 3 = i * 3 + 2 by omega, show ¬ j * 3 + 1 = i * 3 by omega, show ¬ j * 3 + 1 = i * 3 + 2 by omega, show ¬ j * 3 + 2 = i * 3 by omega, show ¬ j * 3 + 2 = i * 3 + 1 by omega, show ¬ j = i from q, this]
theorem g30 : G30 Rel := by
  intro h ⟨v, R⟩
  have hn := R.n6
  have hE := R.E30
  have hS := R.S20
  have R1 := R.thr (x := 0)
  have hz : (nI v.n = 0) = (v.n = 0) := n_eq (b := 0) (by omega) (by omega)
  by_cases c : v.n = 0
  · have e1 : f_X11_image 0 h = some (-1, h) := by
      simp only [f_X11_image, rv_0_0, rv_0_1, rv_0_2, rv_0_3, rv_0_4, rv_0_6, rv_0_7, rv_0_9, rv_0_10, rv_0_11, rv_0_12, rv_0_13, rv_0_14, rv_1_0, an_2, rv_3_0, rv_3_1, an_4, an_5, rv_6_0, rv_6_1, an_7, an_8, rv_9_0, rv_9_1, an_10, an_11, rv_12_0, rv_12_1, an_13, an_14, rv_15_0, rv_15_1, an_16, an_17, rv_18_0, rv_18_1, an_19, an_20, rv_21_0, rv_21_1, an_22, an_23, rv_24_0, rv_24_1, rv_24_2, an_25, an_26, an_27, rv_28_0, rv_28_1, rv_28_2, an_29, an_30, an_31, rv_32_0, rv_32_1, an_33, an_34, rv_35_0, rv_35_1, rv_35_2, rv_35_3, rv_35_4, rv_35_5, rv_35_6, an_36, an_37, an_38, an_39, an_40, rv_41_0, rv_41_1, rv_41_3, rv_41_4, rv_41_5, an_42, an_43, an_44, an_45, rv_46_0, rv_46_1, rv_46_2, rv_46_3, rv_46_4, rv_46_6, an_47, an_48, rv_49_0, rv_49_1, an_50, rv_51_0, rv_51_1, rv_51_2, rv_51_3, rv_51_4, rv_51_6, rv_51_7, an_52, an_53, an_54, an_55, rv_56_1, rv_56_2, rv_56_3, rv_56_4, rv_56_15, rv_56_16, rv_56_17, rv_56_19, rv_56_22, rv_56_23, rv_56_24, rv_56_25, rv_56_26, rv_56_27, rv_56_28, rv_56_31, rv_56_33, rv_56_35, rv_56_36, rv_56_37, rv_56_39, rv_56_40, rv_56_41, rv_56_42, rv_56_43, rv_56_44, rv_56_46, rv_56_47, rv_56_48, rv_56_49, rv_56_51, rv_56_52, rv_56_54, an_57, an_58, an_59, an_60, an_61, an_62, an_63, an_64, an_65, an_66, an_67, an_68, an_69, an_70, an_71, an_72, an_73, an_74, an_75, an_76, an_77, an_78, an_79, an_80, an_81, an_82, an_83, an_84, an_85, an_86, an_87, R.cn, if_pos (hz.mpr c)]
    have e2 : f_X12_image 56 h = some (-1, sI h 56 0 0) := by
      simp only [f_X12_image, nm_id, R1.mn, if_pos (hz.mpr c)]
    exact ⟨_, _, _, e1, e2, v, R1⟩
  · obtain ⟨h1, f1, a1, p1⟩ := e_X9_copy h
    have e1 : f_X11_image 0 h = some (nI v.E, sI (sI (sI h1 32 4 (h1.1 32 2)) 32 5 (h1.1 32 3)) 0 8 1) := by
      simp only [f_X11_image, rv_0_0, rv_0_1, rv_0_2, rv_0_3, rv_0_4, rv_0_6, rv_0_7, rv_0_9, rv_0_10, rv_0_11, rv_0_12, rv_0_13, rv_0_14, rv_1_0, an_2, rv_3_0, rv_3_1, an_4, an_5, rv_6_0, rv_6_1, an_7, an_8, rv_9_0, rv_9_1, an_10, an_11, rv_12_0, rv_12_1, an_13, an_14, rv_15_0, rv_15_1, an_16, an_17, rv_18_0, rv_18_1, an_19, an_20, rv_21_0, rv_21_1, an_22, an_23, rv_24_0, rv_24_1, rv_24_2, an_25, an_26, an_27, rv_28_0, rv_28_1, rv_28_2, an_29, an_30, an_31, rv_32_0, rv_32_1, an_33, an_34, rv_35_0, rv_35_1, rv_35_2, rv_35_3, rv_35_4, rv_35_5, rv_35_6, an_36, an_37, an_38, an_39, an_40, rv_41_0, rv_41_1, rv_41_3, rv_41_4, rv_41_5, an_42, an_43, an_44, an_45, rv_46_0, rv_46_1, rv_46_2, rv_46_3, rv_46_4, rv_46_6, an_47, an_48, rv_49_0, rv_49_1, an_50, rv_51_0, rv_51_1, rv_51_2, rv_51_3, rv_51_4, rv_51_6, rv_51_7, an_52, an_53, an_54, an_55, rv_56_1, rv_56_2, rv_56_3, rv_56_4, rv_56_15, rv_56_16, rv_56_17, rv_56_19, rv_56_22, rv_56_23, rv_56_24, rv_56_25, rv_56_26, rv_56_27, rv_56_28, rv_56_31, rv_56_33, rv_56_35, rv_56_36, rv_56_37, rv_56_39, rv_56_40, rv_56_41, rv_56_42, rv_56_43, rv_56_44, rv_56_46, rv_56_47, rv_56_48, rv_56_49, rv_56_51, rv_56_52, rv_56_54, an_57, an_58, an_59, an_60, an_61, an_62, an_63, an_64, an_65, an_66, an_67, an_68, an_69, an_70, an_71, an_72, an_73, an_74, an_75, an_76, an_77, an_78, an_79, an_80, an_81, an_82, an_83, an_84, an_85, an_86, an_87, R.cn, hz, c, if_false, f1, ov_some, f_X1_keep, nm_id]
      have : (sI (sI (sI h1 32 4 (h1.1 32 2)) 32 5 ((sI h1 32 4 (h1.1 32 2)).1 32 3)) 0 8 1).1 32 2 = nI v.E := (a1.1 32 2 rfl).trans R.cE
      rw [this]
      rfl
    generalize hg : sI (sI (sI h1 32 4 (h1.1 32 2)) 32 5 (h1.1 32 3)) 0 8 1 = g at e1
    have ag := w_f_X11_image_i0 _ _ e1
    obtain ⟨h2, e2, a2, q1, q2, q3, q4, q5, q6⟩ := e_X12_image_16 (sI g 56 0 0)
    have ag2 : Agr W_X12_image_i56 g h2 := agr_tr (agr_sI (agr_refl g) rfl) a2 rfl
    have e2' : f_X12_image 56 g = some (nI v.E, h2) := by
      have m1 : (sI g 56 0 0).1 56 20 = nI v.n := (ag.1 56 20 rfl).trans R.mn
      have m2 : (sI g 56 0 0).1 56 32 = nI v.E := (ag.1 56 32 rfl).trans R.mE
      simp only [f_X12_image, nm_id, m1, hz, c, if_false, e2, m2]
    refine ⟨_, _, _, e1, e2', ?_⟩
    have ag3 : Agr ((0, 8) :: (29, 1000) :: (30, 1000) :: (31, 1000) :: (32, 4) :: (32, 5) :: W_X12_image_i56) h h2 := agr_tr (agr_up ag rfl) ag2 rfl
    have gm : ∀ k j, Wmem ((0, 8) :: (29, 1000) :: (30, 1000) :: (31, 1000) :: (32, 4) :: (32, 5) :: (56, 0) :: []) k j = false → (sI g 56 0 0).1 k j = h.1 k j := by
      intro k j hk
      exact (agr_tr (W := (0, 8) :: (29, 1000) :: (30, 1000) :: (31, 1000) :: (32, 4) :: (32, 5) :: (56, 0) :: []) (agr_up ag rfl) (agr_sI (W := (56, 0) :: []) (agr_refl g) rfl) rfl).1 k j hk
    have g2 : ∀ k j, Wmem W_X12_image_i56 k j = false → h2.1 k j = g.1 k j := ag2.1
    have so := R.so
    have hpn : ∀ p, v.n ≤ p → p < 6 → h.1 26 p = -1 := fun p x y => by
      have := R.cpn x y
      rw [if_neg c] at this
      exact this
    have hd : ∀ e, e < v.E → ∀ p, p < v.n → h.1 69 (e * 6 + p) = v.di e p := fun e he p hp => R.md he hp
    have hgs := fun s (hs : s < v.S) => R.gs hs
    have hS5 := fun p (hp : p < v.n) => R.2.2.2.2.1.2.1 p hp
    have hcE := R.cE
    have hcS := R.cS
    have hmE := R.mE
    have hmS := R.mS
    obtain ⟨r1, r2, r3, r4, r5, r6, r7, r8⟩ := R
    refine rel_mk (im := true) (kE := v.E) (kS := v.S) (kh := v.has) (kp := v.pl) (kw := v.wo) (gT_eq (agr_on ag3 rfl) r1) (gP_eq (agr_on ag3 rfl) r2) (gO_eq (agr_on ag3 rfl) r3) (gR_eq (agr_on ag3 rfl) r4) (gS_eq (agr_on ag3 rfl) r5) (gD_eq (agr_on ag3 rfl) r6) (gG_eq (agr_on ag3 rfl) r7) ⟨?_, ?_, fun _ => ⟨c, Nat.le_refl _, Nat.le_refl _, so, ⟨?_, ?_, ?_, ?_⟩, fun p hp => ⟨⟨?_, ?_, ?_⟩, ?_, ?_, ?_⟩, fun p x y => ?_, fun e he p hp => ?_, fun s hs => ⟨(hgs s hs).1, ?_, ?_, ?_⟩⟩⟩
    · rw [g2 0 8 rfl, ← hg]
      rfl
    · exact q6
    · rw [g2 32 4 rfl, ← hg]
      exact (a1.1 32 2 rfl).trans hcE
    · rw [g2 32 5 rfl, ← hg]
      exact (a1.1 32 3 rfl).trans hcS
    · rw [q4, gm 56 32 rfl]
      exact hmE
    · rw [q5, gm 56 50 rfl]
      exact hmS
    · rw [g2 29 p rfl, ← hg]
      exact ((p1 p (by omega)).1).trans (hS5 p hp).1.1
    · rw [g2 30 p rfl, ← hg]
      exact ((p1 p (by omega)).2.1).trans (hS5 p hp).1.2.1
    · rw [g2 31 p rfl, ← hg]
      exact ((p1 p (by omega)).2.2).trans (hS5 p hp).1.2.2
    · rw [(q1 p (by omega)).1, gm 62 p rfl]
      exact (hS5 p hp).2.1
    · rw [(q1 p (by omega)).2.1, gm 63 p rfl]
      exact (hS5 p hp).2.2.1
    · rw [(q1 p (by omega)).2.2, gm 65 p rfl]
      exact (hS5 p hp).2.2.2
    · rw [g2 30 p rfl, ← hg]
      exact ((p1 p y).2.1).trans (hpn p x y)
    · rw [q2 (e * 6 + p) (by omega), gm 69 _ rfl]
      exact hd e he p hp
    · rw [(q3 s (by omega)).1, gm 81 _ rfl]
      exact (hgs s hs).2.2.1
    · rw [(q3 s (by omega)).2.1, gm 82 _ rfl]
      exact (hgs s hs).2.2.2.1
    · rw [(q3 s (by omega)).2.2, gm 83 _ rfl]
      exact (hgs s hs).2.2.2.2
