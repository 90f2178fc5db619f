/-! evening -/
def Ev (v v' : Wd) : Prop := (v'.L = v.L ∧ v'.n = v.n ∧ v'.rc = v.rc ∧ v'.S = v.S ∧ v'.tx = v.tx ∧ v'.it = v.it ∧ v'.ro = v.ro) ∧ (v'.cl = v.cl ∧ v'.co = v.co ∧ v'.se = v.se ∧ v'.sw = v.sw ∧ v'.ss = v.ss) ∧ (v'.im = v.im ∧ v'.kE = v.kE ∧ v'.kS = v.kS ∧ v'.kh = v.kh ∧ v'.kp = v.kp ∧ v'.kw = v.kw) ∧ v.E ≤ v'.E ∧ ∀ e, e < v.E → v'.di e = v.di e
theorem Ev_refl (v : Wd) : Ev v v := ⟨⟨rfl, rfl, rfl, rfl, rfl, rfl, rfl⟩, ⟨rfl, rfl, rfl, rfl, rfl⟩, ⟨rfl, rfl, rfl, rfl, rfl, rfl⟩, Nat.le_refl _, fun _ _ => rfl⟩
theorem Ev_s {v0 v : Wd} (u G : Nat) (row : Nat → Nat) (hE : v.E ≤ 30) (E : Ev v0 v) : Ev v0 (evS v u G row) := by
  obtain ⟨a, b, c, d, e⟩ := E
  refine ⟨a, b, c, ?_, fun i hi => ?_⟩
  · rw [evS_E]
    split <;> omega
  · rw [← e i hi]
    funext q
    rw [evS_di, if_neg (by omega)]
def STx : List (Nat × Nat) := ST1 ++ (ST2 ++ (ST3 ++ (ST4 ++ (ST7 ++ ST8))))
theorem rel_ev {v v' : Wd} {h h2 : AH} (R : RelV v h) (E : Ev v v') (e : EqOn STx h h2) (B : cB v' h2) (D : cD v' h2) (M : mB v' h2) (N : mD v' h2) : RelV v' h2 := by
  obtain ⟨⟨a1, a2, a3, a4, a5, a6, a7⟩, ⟨b1, b2, b3, b4, b5⟩, ⟨c1, c2, c3, c4, c5, c6⟩, d1, d2⟩ := E
  have g1 := gT_eq (eqOn_sub e rfl) R.1
  have g2 := gP_eq (eqOn_sub e rfl) R.2.1
  have g3 := gO_eq (eqOn_sub e rfl) R.2.2.1
  have g4 := gR_eq (eqOn_sub e rfl) R.2.2.2.1
  have g7 := gG_eq (eqOn_sub e rfl) R.2.2.2.2.2.2.1
  have g8 := gI_mono (gI_eq (eqOn_sub e rfl) R.2.2.2.2.2.2.2) (E' := v'.E) (S' := v.S) (di' := v'.di) (se' := v.se) (sw' := v.sw) (ss' := v.ss) d1 (Nat.le_refl _) d2 (fun _ _ => ⟨rfl, rfl, rfl⟩)
  refine ⟨?_, ?_, ?_, ?_, ?_, ?_, ?_, ?_⟩
  · rw [a1, a5]
    exact g1
  · rw [a2, a6]
    exact g2
  · rw [a2, a3, a7]
    exact g3
  · rw [a3, b1, b2]
    exact g4
  · exact ⟨B.2.2.2.1, fun p hp => ⟨B.2.2.2.2.2.2.2.1 p hp, (M.2.2.2 p hp).1, (M.2.2.2 p hp).2, (M.1.2.2.2.2.2 p hp).2⟩, fun p h1 h2 => by rw [if_neg B.2.2.2.2.1]; exact B.2.2.2.2.2.2.2.2 p h1 h2⟩
  · exact ⟨D.1, D.2.1, N.2.1, fun e he p hp => ⟨D.2.2 e he p hp, N.2.2 e he p hp⟩⟩
  · rw [a4, b3, b4, b5]
    exact ⟨g7.1, g7.2.1, g7.2.2.1, fun s hs => ⟨Nat.lt_of_lt_of_le (g7.2.2.2 s hs).1 d1, (g7.2.2.2 s hs).2⟩⟩
  · rw [a2, a4, b3, b4, b5, c1, c2, c3, c4, c5, c6]
    exact g8
theorem RelV.cD {v : Wd} {h : AH} (R : RelV v h) : cD v h := ⟨R.E30, R.cE, fun _ he _ hp => R.cd he hp⟩
theorem RelV.mD {v : Wd} {h : AH} (R : RelV v h) : mD v h := ⟨R.E30, R.mE, fun _ he _ hp => R.md he hp⟩
theorem g8 : G8 Rel := by
  intro h ⟨v, R⟩ a1 a2 a3
  have hn := R.n6
  have h64 := pow_le6 hn
  cases hp : ptB v.n a1 a2 with
  | false =>
    have R2 := R.thr (x := 0)
    refine ⟨-1, h, sI h 56 0 0, ?_, ?_, v, R2⟩
    · unfold f_X11_evening
      simp only [e_isParty hn R.cn, hp, ob_some, zi, f_X11_evening_21, Bool.false_eq_true, if_false]
    · unfold f_X12_evening
      simp only [nm_id, e_isVisit hn R2.mn, hp, ob_some, zi, f_X12_evening_23, Bool.false_eq_true, if_false]
  | true =>
    obtain ⟨u, G, hu, rfl, g0, hG, rfl⟩ := (ptB_iff hn).mp hp
    have n0 := n_of_G g0 hG
    obtain ⟨k, ek, fk⟩ := e_readC hn hG a3 h
    have Rk : RelV v k := rel_agr (w_f_X5_readOrder_i41 _ _ _ _ ek) rfl R
    cases hq : ordB v.n G a3 with
    | false =>
      have R2 := Rk.thr (x := 0)
      obtain ⟨m, em, fm⟩ := e_layM hn hG g0 a3 (sI k 56 0 0) R2.mn
      have R3 : RelV v m := rel_agr (w_f_X12_layOrder_i56 _ _ _ _ em) rfl R2
      refine ⟨-1, k, m, ?_, ?_, v, R3⟩
      · unfold f_X11_evening
        simp only [e_isParty hn R.cn, hp, ob_some, zi, f_X11_evening_21, if_true, rv_0_0, rv_0_1, rv_0_2, rv_0_3, rv_0_4, rv_0_6, rv_0_7, rv_0_9, rv_0_10, rv_0_11, rv_0_12, rv_0_13, rv_0_14, rv_1_0, an_2, rv_3_0, rv_3_1, an_4, an_5, rv_6_0, rv_6_1, an_7, an_8, rv_9_0, rv_9_1, an_10, an_11, rv_12_0, rv_12_1, an_13, an_14, rv_15_0, rv_15_1, an_16, an_17, rv_18_0, rv_18_1, an_19, an_20, rv_21_0, rv_21_1, an_22, an_23, rv_24_0, rv_24_1, rv_24_2, an_25, an_26, an_27, rv_28_0, rv_28_1, rv_28_2, an_29, an_30, an_31, rv_32_0, rv_32_1, an_33, an_34, rv_35_0, rv_35_1, rv_35_2, rv_35_3, rv_35_4, rv_35_5, rv_35_6, an_36, an_37, an_38, an_39, an_40, rv_41_0, rv_41_1, rv_41_3, rv_41_4, rv_41_5, an_42, an_43, an_44, an_45, rv_46_0, rv_46_1, rv_46_2, rv_46_3, rv_46_4, rv_46_6, an_47, an_48, rv_49_0, rv_49_1, an_50, rv_51_0, rv_51_1, rv_51_2, rv_51_3, rv_51_4, rv_51_6, rv_51_7, an_52, an_53, an_54, an_55, rv_56_1, rv_56_2, rv_56_3, rv_56_4, rv_56_15, rv_56_16, rv_56_17, rv_56_19, rv_56_22, rv_56_23, rv_56_24, rv_56_25, rv_56_26, rv_56_27, rv_56_28, rv_56_31, rv_56_33, rv_56_35, rv_56_36, rv_56_37, rv_56_39, rv_56_40, rv_56_41, rv_56_42, rv_56_43, rv_56_44, rv_56_46, rv_56_47, rv_56_48, rv_56_49, rv_56_51, rv_56_52, rv_56_54, an_57, an_58, an_59, an_60, an_61, an_62, an_63, an_64, an_65, an_66, an_67, an_68, an_69, an_70, an_71, an_72, an_73, an_74, an_75, an_76, an_77, an_78, an_79, an_80, an_81, an_82, an_83, an_84, an_85, an_86, an_87, ek, hq, Bool.false_eq_true, if_false]
      · unfold f_X12_evening
        simp only [nm_id, e_isVisit hn R2.mn, hp, ob_some, zi, if_true, em, hq, f_X12_evening_23, Bool.false_eq_true, if_false]
    | true =>
      have gr := ord_row hn hG hq
      obtain ⟨h5, e5, B5, D5⟩ := c_hold (Rk.cB n0) Rk.cD (fk hq) gr (show G < 64 by omega) hu
      have E1 : f_X11_evening 0 (nI u) (nI G) a3 h = some (nI (evS v u G (rowN a3.toNatClampNeg (pc G))).E, h5) := by
        unfold f_X11_evening
        simp only [e_isParty hn R.cn, hp, ob_some, zi, if_true, rv_0_0, rv_0_1, rv_0_2, rv_0_3, rv_0_4, rv_0_6, rv_0_7, rv_0_9, rv_0_10, rv_0_11, rv_0_12, rv_0_13, rv_0_14, rv_1_0, an_2, rv_3_0, rv_3_1, an_4, an_5, rv_6_0, rv_6_1, an_7, an_8, rv_9_0, rv_9_1, an_10, an_11, rv_12_0, rv_12_1, an_13, an_14, rv_15_0, rv_15_1, an_16, an_17, rv_18_0, rv_18_1, an_19, an_20, rv_21_0, rv_21_1, an_22, an_23, rv_24_0, rv_24_1, rv_24_2, an_25, an_26, an_27, rv_28_0, rv_28_1, rv_28_2, an_29, an_30, an_31, rv_32_0, rv_32_1, an_33, an_34, rv_35_0, rv_35_1, rv_35_2, rv_35_3, rv_35_4, rv_35_5, rv_35_6, an_36, an_37, an_38, an_39, an_40, rv_41_0, rv_41_1, rv_41_3, rv_41_4, rv_41_5, an_42, an_43, an_44, an_45, rv_46_0, rv_46_1, rv_46_2, rv_46_3, rv_46_4, rv_46_6, an_47, an_48, rv_49_0, rv_49_1, an_50, rv_51_0, rv_51_1, rv_51_2, rv_51_3, rv_51_4, rv_51_6, rv_51_7, an_52, an_53, an_54, an_55, rv_56_1, rv_56_2, rv_56_3, rv_56_4, rv_56_15, rv_56_16, rv_56_17, rv_56_19, rv_56_22, rv_56_23, rv_56_24, rv_56_25, rv_56_26, rv_56_27, rv_56_28, rv_56_31, rv_56_33, rv_56_35, rv_56_36, rv_56_37, rv_56_39, rv_56_40, rv_56_41, rv_56_42, rv_56_43, rv_56_44, rv_56_46, rv_56_47, rv_56_48, rv_56_49, rv_56_51, rv_56_52, rv_56_54, an_57, an_58, an_59, an_60, an_61, an_62, an_63, an_64, an_65, an_66, an_67, an_68, an_69, an_70, an_71, an_72, an_73, an_74, an_75, an_76, an_77, an_78, an_79, an_80, an_81, an_82, an_83, an_84, an_85, an_86, an_87, ek, hq, e5, ov_some, D5.2.1]
      have W1 : Agr W_X11_evening_i0 h h5 := w_f_X11_evening_i0 _ _ _ _ _ E1
      have M0 : mB v (sI h5 56 0 0) := mB_agr (W := (56, 0) :: []) (agr_sI (agr_refl h5) rfl) rfl (mB_agr W1 rfl (R.mB n0))
      have N0 : mD v (sI h5 56 0 0) := mD_agr (W := (56, 0) :: []) (agr_sI (agr_refl h5) rfl) rfl (mD_agr W1 rfl R.mD)
      obtain ⟨m, em, fm⟩ := e_layM hn hG g0 a3 (sI h5 56 0 0) M0.mn
      have Wm : Agr W_X12_layOrder_i56 (sI h5 56 0 0) m := w_f_X12_layOrder_i56 _ _ _ _ em
      obtain ⟨h6, e6, M6, N6⟩ := m_visits (mB_agr Wm rfl M0) (mD_agr Wm rfl N0) (fm hq) gr hG hu
      have E2 : f_X12_evening 56 (nI u) (nI G) a3 h5 = some (nI (evS v u G (rowN a3.toNatClampNeg (pc G))).E, h6) := by
        unfold f_X12_evening
        simp only [nm_id, e_isVisit hn M0.mn, hp, ob_some, zi, if_true, em, hq, e6, ov_some, N6.2.1]
      have W2 : Agr W_X12_evening_i56 h5 h6 := w_f_X12_evening_i56 _ _ _ _ _ E2
      exact ⟨_, h5, h6, E1, E2, _, rel_ev R (Ev_s u G _ R.E30 (Ev_refl v)) (eqOn_tr (agr_on W1 rfl) (agr_on W2 rfl)) (cB_agr W2 rfl B5) (cD_agr W2 rfl D5) M6 N6⟩
