/-! units -/
theorem sim_unit {t : Nat → Nat} {L T b d : Nat} {lt : Nat → Int32} {cC : Nat → Int32 → AH → Option (Int32 × AH)} {cM : Nat → AH → Option (Int32 × AH)} (hd : d ≤ 6) (hcb : d < 6 → Sim t L T b lt (14 - 2 * d) true (d + 1) (fun h => cC 9 (nI (d + 1)) h) (fun h => cM 56 h)) : Sim t L T b lt (16 - 2 * d) true d (fun h => f_X8_readUnit cC 9 (nI d) h) (fun h => f_X12_unit cM 56 h) := by
  intro pc pm c hc hm sc sm hs hlen
  have hpL := cS_p sc
  obtain ⟨h1, e1, s1⟩ := c_next sc
  obtain ⟨g1, f1, z1⟩ := m_look sm
  rw [← hs] at f1 z1
  have hge : pc ≤ skp t L pc := skp_ge hpL.1
  have hle : skp t L pc ≤ L := skp_le hpL.1
  have hid : skp t L (skp t L pc) = skp t L pc := skp_idem hpL.1
  generalize skp t L pc = p at *
  simp only [f_X8_readUnit, f_X12_unit, rv_0_0, rv_0_1, rv_0_2, rv_0_3, rv_0_4, rv_0_6, rv_0_7, rv_0_9, rv_0_10, rv_0_11, rv_0_12, rv_0_13, rv_0_14, rv_1_0, an_2, rv_3_0, rv_3_1, an_4, an_5, rv_6_0, rv_6_1, an_7, an_8, rv_9_0, rv_9_1, an_10, an_11, rv_12_0, rv_12_1, an_13, an_14, rv_15_0, rv_15_1, an_16, an_17, rv_18_0, rv_18_1, an_19, an_20, rv_21_0, rv_21_1, an_22, an_23, rv_24_0, rv_24_1, rv_24_2, an_25, an_26, an_27, rv_28_0, rv_28_1, rv_28_2, an_29, an_30, an_31, rv_32_0, rv_32_1, an_33, an_34, rv_35_0, rv_35_1, rv_35_2, rv_35_3, rv_35_4, rv_35_5, rv_35_6, an_36, an_37, an_38, an_39, an_40, rv_41_0, rv_41_1, rv_41_3, rv_41_4, rv_41_5, an_42, an_43, an_44, an_45, rv_46_0, rv_46_1, rv_46_2, rv_46_3, rv_46_4, rv_46_6, an_47, an_48, rv_49_0, rv_49_1, an_50, rv_51_0, rv_51_1, rv_51_2, rv_51_3, rv_51_4, rv_51_6, rv_51_7, an_52, an_53, an_54, an_55, rv_56_1, rv_56_2, rv_56_3, rv_56_4, rv_56_15, rv_56_16, rv_56_17, rv_56_19, rv_56_22, rv_56_23, rv_56_24, rv_56_25, rv_56_26, rv_56_27, rv_56_28, rv_56_31, rv_56_33, rv_56_35, rv_56_36, rv_56_37, rv_56_39, rv_56_40, rv_56_41, rv_56_42, rv_56_43, rv_56_44, rv_56_46, rv_56_47, rv_56_48, rv_56_49, rv_56_51, rv_56_52, rv_56_54, an_57, an_58, an_59, an_60, an_61, an_62, an_63, an_64, an_65, an_66, an_67, an_68, an_69, an_70, an_71, an_72, an_73, an_74, an_75, an_76, an_77, an_78, an_79, an_80, an_81, an_82, an_83, an_84, an_85, an_86, an_87, e1, f1, ob_some]
  have nd : d ≠ 6 → ¬ nI d = 6 := fun d6 => by
    rw [show (6 : Int32) = nI 6 from rfl, nI_eq (by omega) (by decide)]
    exact d6
  by_cases c1 : chr t L p = 33
  · have pl := (chr_n (x := 33) c1 (by decide)).1
    simp only [if_pos c1, f_X8_readUnit_42, rv_0_0, rv_0_1, rv_0_2, rv_0_3, rv_0_4, rv_0_6, rv_0_7, rv_0_9, rv_0_10, rv_0_11, rv_0_12, rv_0_13, rv_0_14, rv_1_0, an_2, rv_3_0, rv_3_1, an_4, an_5, rv_6_0, rv_6_1, an_7, an_8, rv_9_0, rv_9_1, an_10, an_11, rv_12_0, rv_12_1, an_13, an_14, rv_15_0, rv_15_1, an_16, an_17, rv_18_0, rv_18_1, an_19, an_20, rv_21_0, rv_21_1, an_22, an_23, rv_24_0, rv_24_1, rv_24_2, an_25, an_26, an_27, rv_28_0, rv_28_1, rv_28_2, an_29, an_30, an_31, rv_32_0, rv_32_1, an_33, an_34, rv_35_0, rv_35_1, rv_35_2, rv_35_3, rv_35_4, rv_35_5, rv_35_6, an_36, an_37, an_38, an_39, an_40, rv_41_0, rv_41_1, rv_41_3, rv_41_4, rv_41_5, an_42, an_43, an_44, an_45, rv_46_0, rv_46_1, rv_46_2, rv_46_3, rv_46_4, rv_46_6, an_47, an_48, rv_49_0, rv_49_1, an_50, rv_51_0, rv_51_1, rv_51_2, rv_51_3, rv_51_4, rv_51_6, rv_51_7, an_52, an_53, an_54, an_55, rv_56_1, rv_56_2, rv_56_3, rv_56_4, rv_56_15, rv_56_16, rv_56_17, rv_56_19, rv_56_22, rv_56_23, rv_56_24, rv_56_25, rv_56_26, rv_56_27, rv_56_28, rv_56_31, rv_56_33, rv_56_35, rv_56_36, rv_56_37, rv_56_39, rv_56_40, rv_56_41, rv_56_42, rv_56_43, rv_56_44, rv_56_46, rv_56_47, rv_56_48, rv_56_49, rv_56_51, rv_56_52, rv_56_54, an_57, an_58, an_59, an_60, an_61, an_62, an_63, an_64, an_65, an_66, an_67, an_68, an_69, an_70, an_71, an_72, an_73, an_74, an_75, an_76, an_77, an_78, an_79, an_80, an_81, an_82, an_83, an_84, an_85, an_86, an_87, nm_id]
    by_cases d6 : d = 6
    · right
      obtain ⟨h2, e2, m2⟩ := (m_goesIn z1 hd pl).2 d6
      subst d6
      exact ⟨p, h1, h2, 0, rfl, by rw [e2, ob_some, if_pos rfl], s1.1.2.2.2.2.1, m2, fun _ => Or.inl rfl⟩
    · obtain ⟨g2, e2, m2⟩ := (m_goesIn z1 hd pl).1 (by omega)
      rw [if_neg (nd d6), e2, ob_some, if_neg (show ¬ (1 : Int32) = 0 by decide), if_neg (show ¬ chr t L p = 40 by rw [c1]; decide), nI_1]
      rcases hcb (by omega) (p + 1) (p + 1) c _ _ (c_adv s1 pl) m2 rfl (by omega) with ⟨p', pm', code, hc', hm', v, r1, r2, r3, r4, r5, r6, r7, r8, r9, r10⟩ | ⟨p', hc', hm', v, r1, r2, r3, r4, r5⟩
      · have r1' : cC 9 (nI (d + 1)) (sI h1 1 2 (h1.1 1 2 + 1)) = some (1, hc') := r1
        have r2' : cM 56 g2 = some (v, hm') := r2
        have hp' := cS_p r3
        obtain ⟨h4, e4, s4⟩ := c_write (-33) r3 (by simp; omega)
        left
        refine ⟨p', pm', code ++ [-33], h4, _, 1 - v, ?_, ?_, by rw [← List.append_assoc]; exact s4, m_deep (d' := d) r4, r5, by simp; omega, by omega, fun y hy => ?_, fun _ => ?_, fun B => ⟨ev_mono (ev_not (r10 B).1) (by omega), fun z => absurd z (by decide)⟩⟩
        · rw [r1', ob_some, if_neg (by decide), e4, ov_some]
        · rw [r2', ob_some, r4.2.2.1, nI_pred]
          rcases r9 rfl with rfl | rfl <;> rfl
        · rw [List.mem_append, List.mem_singleton] at hy
          rcases hy with hy | hy
          · exact r8 y hy
          · rw [hy]
            exact ⟨by decide, by decide, by decide⟩
        · rcases r9 rfl with rfl | rfl
          · exact Or.inr rfl
          · exact Or.inl rfl
      · have r1' : cC 9 (nI (d + 1)) (sI h1 1 2 (h1.1 1 2 + 1)) = some (0, hc') := r1
        have r2' : cM 56 g2 = some (v, hm') := r2
        right
        refine ⟨p', hc', _, 1 - v, by rw [r1', ob_some, if_pos rfl], ?_, r3, mF_deep (x := hm'.1 56 12 - 1) r4, fun _ => ?_⟩
        · rw [r2', ob_some]
          rcases r5 rfl with rfl | rfl <;> rfl
        · rcases r5 rfl with rfl | rfl
          · exact Or.inr rfl
          · exact Or.inl rfl
  · simp only [if_neg c1]
    by_cases c2 : chr t L p = 40
    · have pl := (chr_n (x := 40) c2 (by decide)).1
      simp only [if_pos c2, f_X8_readUnit_42, rv_0_0, rv_0_1, rv_0_2, rv_0_3, rv_0_4, rv_0_6, rv_0_7, rv_0_9, rv_0_10, rv_0_11, rv_0_12, rv_0_13, rv_0_14, rv_1_0, an_2, rv_3_0, rv_3_1, an_4, an_5, rv_6_0, rv_6_1, an_7, an_8, rv_9_0, rv_9_1, an_10, an_11, rv_12_0, rv_12_1, an_13, an_14, rv_15_0, rv_15_1, an_16, an_17, rv_18_0, rv_18_1, an_19, an_20, rv_21_0, rv_21_1, an_22, an_23, rv_24_0, rv_24_1, rv_24_2, an_25, an_26, an_27, rv_28_0, rv_28_1, rv_28_2, an_29, an_30, an_31, rv_32_0, rv_32_1, an_33, an_34, rv_35_0, rv_35_1, rv_35_2, rv_35_3, rv_35_4, rv_35_5, rv_35_6, an_36, an_37, an_38, an_39, an_40, rv_41_0, rv_41_1, rv_41_3, rv_41_4, rv_41_5, an_42, an_43, an_44, an_45, rv_46_0, rv_46_1, rv_46_2, rv_46_3, rv_46_4, rv_46_6, an_47, an_48, rv_49_0, rv_49_1, an_50, rv_51_0, rv_51_1, rv_51_2, rv_51_3, rv_51_4, rv_51_6, rv_51_7, an_52, an_53, an_54, an_55, rv_56_1, rv_56_2, rv_56_3, rv_56_4, rv_56_15, rv_56_16, rv_56_17, rv_56_19, rv_56_22, rv_56_23, rv_56_24, rv_56_25, rv_56_26, rv_56_27, rv_56_28, rv_56_31, rv_56_33, rv_56_35, rv_56_36, rv_56_37, rv_56_39, rv_56_40, rv_56_41, rv_56_42, rv_56_43, rv_56_44, rv_56_46, rv_56_47, rv_56_48, rv_56_49, rv_56_51, rv_56_52, rv_56_54, an_57, an_58, an_59, an_60, an_61, an_62, an_63, an_64, an_65, an_66, an_67, an_68, an_69, an_70, an_71, an_72, an_73, an_74, an_75, an_76, an_77, an_78, an_79, an_80, an_81, an_82, an_83, an_84, an_85, an_86, an_87, nm_id]
      by_cases d6 : d = 6
      · right
        obtain ⟨h2, e2, m2⟩ := (m_goesIn z1 hd pl).2 d6
        subst d6
        exact ⟨p, h1, h2, 0, rfl, by rw [e2, ob_some, if_pos rfl], s1.1.2.2.2.2.1, m2, fun _ => Or.inl rfl⟩
      · obtain ⟨g2, e2, m2⟩ := (m_goesIn z1 hd pl).1 (by omega)
        rw [if_neg (nd d6), e2, ob_some, if_neg (show ¬ (1 : Int32) = 0 by decide), nI_1]
        rcases sim_cond (hcb (by omega)) (p + 1) (p + 1) c _ _ (c_adv s1 pl) m2 rfl (by omega) with ⟨p', pm', code, hc', hm', v, r1, r2, r3, r4, r5, r6, r7, r8, r9, r10⟩ | ⟨p', hc', hm', v, r1, r2, r3, r4, r5⟩
        · have r1' : f_X8_readCondition cC 9 (nI (d + 1)) (sI h1 1 2 (h1.1 1 2 + 1)) = some (1, hc') := r1
          have r2' : f_X12_condition cM 56 0 0 g2 = some (v, hm') := r2
          have hp' := cS_p r3
          have P := c_pass 41 (by decide) r3
          have M := m_takes 41 (by decide) r4
          rw [← r5] at M
          have gg := skp_ge (t := t) hp'.1
          rw [r1', r2', ob_some, ob_some, if_neg (by decide)]
          by_cases y : chr t L (skp t L p') = nI 41
          · left
            obtain ⟨h4, e4, s4, l4⟩ := P.1 y
            obtain ⟨g4, e5, m4⟩ := M.1 y
            have e4' : f_X10_pass 1 41 hc' = some (1, h4) := e4
            have e5' : f_X12_takes 56 41 hm' = some (1, g4) := e5
            refine ⟨_, _, code, h4, _, v, ?_, ?_, s4, m_deep (d' := d) m4, rfl, by omega, by omega, r8, r9, fun B => ⟨ev_mono (r10 B).1 (by omega), (r10 B).2⟩⟩
            · rw [e4', ob_some, if_neg (by decide)]
              rfl
            · rw [e5', ob_some, if_neg (by decide), m4.2.2.1, nI_pred, og_t (bz_b (r9 rfl))]
          · right
            obtain ⟨h4, e4, s4⟩ := P.2 y
            obtain ⟨g4, e5, m4⟩ := M.2 y
            have e4' : f_X10_pass 1 41 hc' = some (0, h4) := e4
            have e5' : f_X12_takes 56 41 hm' = some (0, g4) := e5
            exact ⟨_, h4, g4, 0, by rw [e4', ob_some, if_pos rfl]; rfl, by rw [e5', ob_some, if_pos rfl], s4.1.2.2.2.2.1, m4, fun _ => Or.inl rfl⟩
        · have r1' : f_X8_readCondition cC 9 (nI (d + 1)) (sI h1 1 2 (h1.1 1 2 + 1)) = some (0, hc') := r1
          have r2' : f_X12_condition cM 56 0 0 g2 = some (v, hm') := r2
          right
          exact ⟨p', hc', hm', 0, by rw [r1', ob_some, if_pos rfl]; rfl, by rw [r2', ob_some, f_takes 41 r4, ob_some, if_pos rfl], r3, r4, fun _ => Or.inl rfl⟩
    · simp only [if_neg c2, f_X12_compares, if_true]
      rcases sim_S hd p p c h1 g1 s1 z1 rfl (by omega) with ⟨p', pm', code, hc', hm', v, r1, r2, r3, r4, r5, r6, r7, r8, r9, r10⟩ | ⟨p', hc', hm', v, r1, r2, r3, r4, r5⟩
      · have r1' : r_X8_readSum 12 9 (nI d) h1 = some (1, hc') := r1
        have r2' : r_X12_sum 12 56 g1 = some (v, hm') := r2
        rw [r1', r2', ob_some, ob_some, if_neg (by decide)]
        rcases sim_rel hd hlen r3 r4 r5 (by omega) (by omega) r8 (fun B => ⟨(r10 B).1, (r10 B).2 rfl⟩) with ⟨q', qm', cod, h5, h6, w, t1, t2, t3, t4, t5, t6, t7, t8, t9, t10⟩ | ⟨q', h5, h6, w, t1, t2, t3, t4, t5⟩
        · exact Or.inl ⟨q', qm', cod, h5, h6, w, by rw [t1, ob_some, if_neg (by decide)]; rfl, by rw [t2, ob_some, og_t (bz_b (t9 rfl))], t3, t4, t5, t6, t7, t8, t9, t10⟩
        · exact Or.inr ⟨q', h5, h6, w, by rw [t1, ob_some, if_pos rfl]; rfl, by rw [t2, ob_some, og_t (bz_b (t5 rfl))], t3, t4, t5⟩
      · have r1' : r_X8_readSum 12 9 (nI d) h1 = some (0, hc') := r1
        have r2' : r_X12_sum 12 56 g1 = some (v, hm') := r2
        right
        refine ⟨p', hc', hm', 0, by rw [r1', ob_some, if_pos rfl]; rfl, ?_, r3, r4, fun _ => Or.inl rfl⟩
        rw [r2', ob_some, f_X12_compares_12, if_neg (mF_n r4), ob_some]
        rfl
theorem sim_unitR {t : Nat → Nat} {L T b : Nat} {lt : Nat → Int32} : ∀ n d, d ≤ 6 → 7 - d ≤ n → Sim t L T b lt (16 - 2 * d) true d (fun h => r_X8_readUnit n 9 (nI d) h) (fun h => r_X12_unit n 56 h) := by
  intro n
  induction n with
  | zero => intro d h1 h2; omega
  | succ n ih =>
    intro d h1 h2
    have A := sim_unit (t := t) (L := L) (T := T) (b := b) (lt := lt) (cC := r_X8_readUnit n) (cM := r_X12_unit n) h1 (fun q => by
      have := ih (d + 1) (by omega) (by omega)
      rw [show 16 - 2 * (d + 1) = 14 - 2 * d by omega] at this
      exact this)
    exact A
theorem sim_U {t : Nat → Nat} {L T b : Nat} {lt : Nat → Int32} : Sim t L T b lt 16 true 0 (fun h => r_X8_readUnit 12 9 (nI 0) h) (fun h => r_X12_unit 12 56 h) := sim_unitR 12 0 (by omega) (by omega)
