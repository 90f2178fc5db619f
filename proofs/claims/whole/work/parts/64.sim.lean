theorem gcd_n {v : Nat} (h : v < 10006) : gcd (nI v) := by
  refine ⟨fun e => ?_, fun e => ?_, by rw [show (10006 : Int32) = nI 10006 from rfl, nI_ltI (by omega) (by decide)]; exact h⟩
  · have := nI_pos (n := v) (by omega)
    rw [e] at this
    exact this (by decide)
  · have := nI_pos (n := v) (by omega)
    rw [e] at this
    exact this (by decide)
theorem bdd_n {v : Nat} (h : v ≤ 1000000) : bdd (nI v) := by
  unfold bdd
  rw [nI_toInt (by omega)]
  omega
theorem readNum_e {t : Nat → Nat} {L p : Nat} {c : List Int32} {h : AH} (s : cS t L p c h) (hs : skp t L p = p) : f_X10_readNumber 1 4 h = f_X10_readNumber_10 FU 1 4 0 0 (chr t L p) h := by
  unfold f_X10_readNumber
  rw [e_next s.1, ob_some, hs, sI_self s.1.2.2.2.2.1]
theorem chr_lt {t : Nat → Nat} {L p : Nat} (h : p < L) : chr t L p = nI (t p) := by unfold chr; rw [if_pos h]
theorem lch_b : ∀ i, i < 6 → 58 ≤ lch i ∧ lch i < 128 := by decide
theorem sim_atom {t : Nat → Nat} {L T b d : Nat} {lt : Nat → Int32} {K : Nat} {cC : Nat → Int32 → AH → Option (Int32 × AH)} {cM : Nat → AH → Option (Int32 × AH)} (hd : d ≤ 6) (hK : 1 ≤ K) (hcb : d < 6 → Sim t L T b lt K false (d + 1) (fun h => cC 9 (nI (d + 1)) h) (fun h => cM 56 h)) : Sim t L T b lt K false d (fun h => f_X8_readAtom cC 9 (nI d) h) (fun h => f_X12_atom cM 56 h) := by
  intro pc pm c hc hm sc sm hs hlen
  have hpL := cS_p sc
  have hmL := mS_p sm
  obtain ⟨h1, e1, s1⟩ := c_next sc
  obtain ⟨g1, f1, z1⟩ := m_look sm
  rw [← hs] at f1 z1
  have hge : pc ≤ skp t L pc := skp_ge hpL.1
  have hle : skp t L pc ≤ L := skp_le hpL.1
  have hid : skp t L (skp t L pc) = skp t L pc := skp_idem hpL.1
  generalize skp t L pc = p at *
  have tb := s1.1.2.1
  simp only [f_X8_readAtom, f_X12_atom, rv_0_0, rv_0_1, rv_0_2, rv_0_3, rv_0_4, rv_0_6, rv_0_7, rv_0_9, rv_0_10, rv_0_11, rv_0_12, rv_0_13, rv_0_14, rv_1_0, an_2, rv_3_0, rv_3_1, an_4, an_5, rv_6_0, rv_6_1, an_7, an_8, rv_9_0, rv_9_1, an_10, an_11, rv_12_0, rv_12_1, an_13, an_14, rv_15_0, rv_15_1, an_16, an_17, rv_18_0, rv_18_1, an_19, an_20, rv_21_0, rv_21_1, an_22, an_23, rv_24_0, rv_24_1, rv_24_2, an_25, an_26, an_27, rv_28_0, rv_28_1, rv_28_2, an_29, an_30, an_31, rv_32_0, rv_32_1, an_33, an_34, rv_35_0, rv_35_1, rv_35_2, rv_35_3, rv_35_4, rv_35_5, rv_35_6, an_36, an_37, an_38, an_39, an_40, rv_41_0, rv_41_1, rv_41_3, rv_41_4, rv_41_5, an_42, an_43, an_44, an_45, rv_46_0, rv_46_1, rv_46_2, rv_46_3, rv_46_4, rv_46_6, an_47, an_48, rv_49_0, rv_49_1, an_50, rv_51_0, rv_51_1, rv_51_2, rv_51_3, rv_51_4, rv_51_6, rv_51_7, an_52, an_53, an_54, an_55, rv_56_1, rv_56_2, rv_56_3, rv_56_4, rv_56_15, rv_56_16, rv_56_17, rv_56_19, rv_56_22, rv_56_23, rv_56_24, rv_56_25, rv_56_26, rv_56_27, rv_56_28, rv_56_31, rv_56_33, rv_56_35, rv_56_36, rv_56_37, rv_56_39, rv_56_40, rv_56_41, rv_56_42, rv_56_43, rv_56_44, rv_56_46, rv_56_47, rv_56_48, rv_56_49, rv_56_51, rv_56_52, rv_56_54, an_57, an_58, an_59, an_60, an_61, an_62, an_63, an_64, an_65, an_66, an_67, an_68, an_69, an_70, an_71, an_72, an_73, an_74, an_75, an_76, an_77, an_78, an_79, an_80, an_81, an_82, an_83, an_84, an_85, an_86, an_87, e1, f1, ob_some, e_isDigitC tb, zb_0]
  cases q : dgB t L p with
  | true =>
    have q' := q
    unfold dgB at q'
    rw [decide_eq_true_eq] at q'
    have tp := tb p q'.1
    have ec := chr_lt (t := t) q'.1
    have na : f_X12_isAmong 1001 (chr t L p) g1 = some (0, g1) := by
      rcases e_isAmong (k := 1001) rfl (by decide) (chr t L p) g1 with ⟨x, _⟩ | ⟨_, i, hi, x⟩
      · exact x
      · have lb := lch_b i hi
        rw [lch_e i hi, ec, nI_eq (by omega) (by omega)] at x
        omega
    have n91 : ¬ chr t L p = 91 := by
      rw [ec, show (91 : Int32) = nI 91 from rfl, nI_eq (by omega) (by decide)]
      omega
    simp only [Bool.true_eq_false, if_false, na, if_true, n91, e_isDigitM z1.1, q, ob_some, zb_0, f_X12_atom_86]
    rw [readNum_e s1 hid]
    rcases sim_num cM c 4 0 0 p FU FU h1 g1 (by omega) (by decide) s1 z1 (fun _ => q) (by decide) (by decide) with ⟨p', v', hc', hm', r1, r2, r3, r4, r5, r6, r7⟩ | ⟨p', hc', hm', r1, r2, r3, r4⟩
    · left
      have r1' : f_X10_readNumber_10 FU 1 4 0 0 (chr t L p) h1 = some (nI v', hc') := r1
      have r2' : f_X12_atom_90 cM FU 56 0 0 g1 = some (nI v', hm') := r2
      have hp' := cS_p r3
      obtain ⟨h2, e2, s2⟩ := c_write (nI v') r3 (by omega)
      refine ⟨p', p', [nI v'], h2, hm', nI v', ?_, r2', s2, r4, rfl, by simp; have := r6 rfl; omega, by have := r6 rfl; omega, fun x hx => ?_, fun z => absurd z (by decide), fun _ => ⟨ev_num r7 hK, fun _ => bdd_n (by omega)⟩⟩
      · rw [r1', ob_some, if_neg (by rw [n_m1 (by omega)]; exact id), e2, ov_some, f_X8_readAtom_34, if_neg (by rw [n_m1 (by omega)]; exact id)]
        rfl
      · rw [List.mem_singleton] at hx
        rw [hx]
        exact gcd_n (by omega)
    · right
      have r1' : f_X10_readNumber_10 FU 1 4 0 0 (chr t L p) h1 = some (-1, hc') := r1
      have r2' : f_X12_atom_90 cM FU 56 0 0 g1 = some (0, hm') := r2
      refine ⟨p', hc', hm', 0, ?_, r2', r3, r4, fun z => absurd z (by decide)⟩
      rw [r1', ob_some, if_pos rfl]
      rfl
  | false =>
    simp only [if_true]
    rcases e_letC (chr t L p) h1 with ⟨l1, l2, l3⟩ | ⟨i, hi, l1, l2⟩
    · have l2' : f_X12_isAmong 1001 (chr t L p) g1 = some (0, g1) := by
        rcases e_isAmong (k := 1001) rfl (by decide) (chr t L p) g1 with ⟨x, _⟩ | ⟨_, i, hi, x⟩
        · exact x
        · rw [lch_e i hi] at x
          exact absurd x (l3 i hi)
      simp only [l1, l2', ob_some, if_true]
      by_cases w : chr t L p = 91
      · have pl := (chr_n (x := 91) w (by decide)).1
        simp only [if_pos w]
        by_cases d6 : d = 6
        · right
          obtain ⟨h2, e2, m2⟩ := (m_goesIn z1 hd pl).2 d6
          subst d6
          exact ⟨p, h1, h2, 0, rfl, by rw [e2, ob_some, if_pos rfl], s1.1.2.2.2.2.1, m2, fun z => absurd z (by decide)⟩
        · obtain ⟨g2, e2, m2⟩ := (m_goesIn z1 hd pl).1 (by omega)
          have nd : ¬ nI d = 6 := by
            rw [show (6 : Int32) = nI 6 from rfl, nI_eq (by omega) (by decide)]
            exact d6
          simp only [if_neg nd, nm_id, nI_1, e2, ob_some, if_neg (show ¬ (1 : Int32) = 0 by decide)]
          have s2 := c_adv s1 pl
          rcases hcb (by omega) (p + 1) (p + 1) c _ _ s2 m2 rfl (by omega) with ⟨p', pm', code, hc', hm', v, r1, r2, r3, r4, r5, r6, r7, r8, r9, r10⟩ | ⟨p', hc', hm', v, r1, r2, r3, r4, r5⟩
          · have hp' := cS_p r3
            have hpm := mS_p r4
            simp only [r1, r2, ob_some, if_neg (show ¬ (1 : Int32) = 0 by decide)]
            have P := c_pass 93 (by decide) r3
            have M := m_takes 93 (by decide) r4
            rw [← r5] at M
            by_cases y : chr t L (skp t L p') = nI 93
            · left
              obtain ⟨h4, e4, s4, l4⟩ := P.1 y
              obtain ⟨g4, e5, m4⟩ := M.1 y
              have e4' : f_X10_pass 1 93 hc' = some (1, h4) := e4
              have e5' : f_X12_takes 56 93 hm' = some (1, g4) := e5
              have gg := skp_ge (t := t) hp'.1
              refine ⟨_, _, code, h4, _, v, ?_, ?_, s4, m_deep (d' := d) m4, rfl, by omega, by omega, r8, fun z => absurd z (by decide), r10⟩
              · rw [e4', ob_some, if_neg (by decide)]
                rfl
              · rw [e5', ob_some, if_neg (by decide), m4.2.2.1, nI_pred]
            · right
              obtain ⟨h4, e4, s4⟩ := P.2 y
              obtain ⟨g4, e5, m4⟩ := M.2 y
              have e4' : f_X10_pass 1 93 hc' = some (0, h4) := e4
              have e5' : f_X12_takes 56 93 hm' = some (0, g4) := e5
              exact ⟨_, h4, g4, 0, by rw [e4', ob_some, if_pos rfl]; rfl, by rw [e5', ob_some, if_pos rfl], s4.1.2.2.2.2.1, m4, fun z => absurd z (by decide)⟩
          · right
            refine ⟨p', hc', hm', 0, ?_, ?_, r3, r4, fun z => absurd z (by decide)⟩
            · simp only [r1, ob_some, if_true]
              rfl
            · simp only [r2, ob_some, f_takes 93 r4, if_true]
      · right
        obtain ⟨x1, x2, x3⟩ := m_failsX z1
        refine ⟨p, h1, sI g1 56 11 (nI p), 0, by rw [if_neg w]; rfl, ?_, s1.1.2.2.2.2.1, x3, fun z => absurd z (by decide)⟩
        rw [if_neg w, e_isDigitM z1.1, ob_some, q, show zb false = 0 from rfl, if_pos rfl, x1, ob_some, f_X12_atom_86, show FU = 4095 + 1 from rfl, f_X12_atom_90, e_isDigitM x2, ob_some, q, show zb false = 0 from rfl, if_pos rfl]
        rfl
    · have lb : lch i < 128 ∧ lch i < 256 := by
        have : ∀ i, i < 6 → lch i < 128 ∧ lch i < 256 := by decide
        exact this i hi
      have pl := (chr_n (x := lch i) l1 (by omega)).1
      left
      have s2 := c_adv s1 pl
      have m2 := m_adv z1 pl
      obtain ⟨h3, e3, s3⟩ := c_write (10000 + nI i) s2 (by omega)
      refine ⟨p + 1, p + 1, [10000 + nI i], h3, _, lt i, ?_, ?_, s3, m2, rfl, by simp; omega, by omega, fun x hx => ?_, fun z => absurd z (by decide), fun B => ⟨ev_let hi hK, fun _ => B i hi⟩⟩
      · simp only [l2, ob_some, if_neg (show ¬ nI i = -1 by rw [n_m1 (by omega)]; exact id), nm_id, e3, ov_some]
      · have : f_X12_isAmong 1001 (chr t L p) g1 = some (1, g1) := by rw [l1]; exact e_letM hi g1
        simp only [this, ob_some, if_neg (show ¬ (1 : Int32) = 0 by decide), nm_id]
        rw [l1, og_ix lb.1 (by omega), nI_clamp (by omega), m2.2.2.2 i hi]
      · rw [List.mem_singleton] at hx
        rw [hx, show (10000 : Int32) + nI i = nI (10000 + i) from nI_add 10000 i]
        exact gcd_n (by omega)
