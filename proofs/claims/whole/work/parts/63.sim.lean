/-! the reader against the model's reading -/
def LB (lt : Nat → Int32) : Prop := ∀ i, i < 6 → bdd (lt i)
def Res (t : Nat → Nat) (L T b : Nat) (lt : Nat → Int32) (K : Nat) (isB : Bool) (d p0 : Nat) (c0 : List Int32) (rC rM : Option (Int32 × AH)) : Prop :=
  (∃ p' pm' code hc' hm' v, rC = some (1, hc') ∧ rM = some (v, hm') ∧ cS t L p' (c0 ++ code) hc' ∧ mS t L T b pm' d lt hm' ∧ skp t L p' = skp t L pm' ∧ p0 + code.length ≤ p' ∧ p0 < p' ∧ (∀ x ∈ code, gcd x) ∧ (isB = true → v = 0 ∨ v = 1) ∧ (LB lt → EvS lt K code v ∧ (isB = false → bdd v)))
  ∨ (∃ p' hc' hm' v, rC = some (0, hc') ∧ rM = some (v, hm') ∧ hc'.1 1 2 = nI p' ∧ mF p' hm' ∧ (isB = true → v = 0 ∨ v = 1))
def Sim (t : Nat → Nat) (L T b : Nat) (lt : Nat → Int32) (K : Nat) (isB : Bool) (d : Nat) (C M : AH → Option (Int32 × AH)) : Prop :=
  ∀ pc pm c hc hm, cS t L pc c hc → mS t L T b pm d lt hm → skp t L pc = skp t L pm → c.length ≤ pc → Res t L T b lt K isB d pc c (C hc) (M hm)
theorem mX_f {t : Nat → Nat} {L T b p : Nat} {h : AH} {j : Nat} {x : Int32} (c : mX t L T b p h) (hj : j = 11 ∨ j = 12 ∨ j = 13 ∨ j = 14 ∨ j = 18) : mX t L T b p (sI h 56 j x) := by
  obtain ⟨c1, c2, c3, c4, c5, c6, c7, c8, c9, c10, c11⟩ := c
  refine ⟨c1, c2, c3, c4, c5, c6, ?_, ?_, fun j hj => ?_, ?_, c11⟩
  · rw [sI_n (Or.inr (by omega)), c7]
  · rw [sI_n (Or.inr (by omega)), c8]
  · rw [sI_n (Or.inl c3.2.1), c9 j hj]
  · rw [sI_n (Or.inr (by omega)), c10]
theorem m_failsX {t : Nat → Nat} {L T b p d : Nat} {lt : Nat → Int32} {h : AH} (s : mS t L T b p d lt h) : f_X12_fails 56 h = some (0, sI h 56 11 (nI p)) ∧ mX t L T b p (sI h 56 11 (nI p)) ∧ mF p (sI h 56 11 (nI p)) := by
  have := mS_p s
  refine ⟨?_, mX_f s.1 (Or.inl rfl), rfl, by omega⟩
  unfold f_X12_fails
  rw [if_pos s.2.1, nm_id, s.1.2.2.2.2.2.2.2.2.2.1, f_X12_fails_16]
theorem num_st {v x : Nat} (h : 48 ≤ x) : nI v * 10 + nI x - 48 = nI (v * 10 + (x - 48)) ∧ 10 * nI v + nI x - 48 = nI (v * 10 + (x - 48)) := by
  have e : nI (v * 10 + x) - nI 48 = nI (v * 10 + (x - 48)) := by
    rw [pk_sub (by omega)]
    congr 1
    omega
  constructor
  · rw [k_mul, nI_add, show (48 : Int32) = nI 48 from rfl]
    exact e
  · rw [k_mul', nI_add, show (48 : Int32) = nI 48 from rfl]
    exact e
/-- numbers of four digits at most -/
theorem sim_num {t : Nat → Nat} {L T b d : Nat} {lt : Nat → Int32} (cb : Nat → AH → Option (Int32 × AH)) (c : List Int32) : ∀ (m k v p n n' : Nat) (hc hm : AH), k + m = 4 → v < 10 ^ k → cS t L p c hc → mS t L T b p d lt hm → (k = 0 → dgB t L p = true) → m < n → m < n' →
    (∃ p' v' hc' hm', f_X10_readNumber_10 n 1 4 (nI v) (nI k) (chr t L p) hc = some (nI v', hc') ∧ f_X12_atom_90 cb n' 56 (nI v) (nI k) hm = some (nI v', hm') ∧ cS t L p' c hc' ∧ mS t L T b p' d lt hm' ∧ p ≤ p' ∧ (k = 0 → p < p') ∧ v' < 10000)
    ∨ (∃ p' hc' hm', f_X10_readNumber_10 n 1 4 (nI v) (nI k) (chr t L p) hc = some (-1, hc') ∧ f_X12_atom_90 cb n' 56 (nI v) (nI k) hm = some (0, hm') ∧ hc'.1 1 2 = nI p' ∧ mF p' hm') := by
  intro m
  induction m with
  | zero =>
    intro k v p n n' hc hm hk hv sc sm h0 hn hn'
    obtain ⟨n, rfl⟩ : ∃ z, n = z + 1 := ⟨n - 1, by omega⟩
    obtain ⟨n', rfl⟩ : ∃ z, n' = z + 1 := ⟨n' - 1, by omega⟩
    have k4 : k = 4 := by omega
    subst k4
    have tb := sc.1.2.1
    rw [f_X10_readNumber_10, f_X12_atom_90, show (4 : Int32) = nI 4 from rfl, if_pos (by rw [nI_leI (by decide) (by decide)]; omega), e_isDigitM sm.1, ob_some, f_X10_readNumber_76, if_neg (by decide), e_isDigitC tb, ob_some]
    cases q : dgB t L p with
    | false =>
      left
      refine ⟨p, v, hc, hm, ?_, ?_, sc, sm, Nat.le_refl _, fun z => absurd z (by decide), hv⟩
      · rw [show zb false = 0 from rfl, if_pos rfl]
        rfl
      · rw [show zb false = 0 from rfl, if_pos rfl]
        rfl
    | true =>
      right
      obtain ⟨e1, _, e3⟩ := m_failsX sm
      refine ⟨p, hc, _, ?_, ?_, sc.1.2.2.2.2.1, e3⟩
      · rw [show zb true = 1 from rfl, if_neg (by decide)]
        rfl
      · rw [show zb true = 1 from rfl, if_neg (by decide), if_pos sm.2.1, if_pos rfl, e1, ob_some]
  | succ m ih =>
    intro k v p n n' hc hm hk hv sc sm h0 hn hn'
    obtain ⟨n, rfl⟩ : ∃ z, n = z + 1 := ⟨n - 1, by omega⟩
    obtain ⟨n', rfl⟩ : ∃ z, n' = z + 1 := ⟨n' - 1, by omega⟩
    have tb := sc.1.2.1
    have hL := cS_p sc
    rw [f_X10_readNumber_10, f_X12_atom_90, show (4 : Int32) = nI 4 from rfl, if_neg (by rw [nI_leI (by decide) (by omega)]; omega), e_isDigitM sm.1, ob_some, e_isDigitC tb, ob_some]
    cases q : dgB t L p with
    | false =>
      left
      have k0 : k ≠ 0 := fun z => by rw [h0 z] at q; cases q
      refine ⟨p, v, hc, hm, ?_, ?_, sc, sm, Nat.le_refl _, fun z => absurd z k0, ?_⟩
      · rw [show zb false = 0 from rfl, if_pos rfl, f_X10_readNumber_76, if_neg (by rw [show (0 : Int32) = nI 0 from rfl, nI_eq (by omega) (by decide)]; exact k0), e_isDigitC tb, ob_some, q]
        rfl
      · rw [show zb false = 0 from rfl, if_pos rfl]
        rfl
      · exact Nat.lt_of_lt_of_le hv (Nat.pow_le_pow_right (by decide) (by omega) : 10 ^ k ≤ 10 ^ 4)
    | true =>
      unfold dgB at q
      rw [decide_eq_true_eq] at q
      have tp := tb p q.1
      have e1 : chr t L p = nI (t p) := by unfold chr; rw [if_pos q.1]
      have a1 := sc.1.2.2.2.2.1
      obtain ⟨_, _, c3, c4, c5, c6, c7, c8, c9, c10, c11⟩ := sm.1
      have k3 : decide ((kd T).1 = 3) = true := decide_eq_true c3.1
      have eC : (if (sI hc 1 2 (hc.1 1 2 + 1)).1 1 1 ≤ (sI hc 1 2 (hc.1 1 2 + 1)).1 1 2 then f_X10_readNumber_71 (f_X10_readNumber_10 n) 1 (nI 4) (nI (v * 10 + (t p - 48))) (nI (k + 1)) (-1) (sI hc 1 2 (hc.1 1 2 + 1)) else og (ix ((sI hc 1 2 (hc.1 1 2 + 1)).1 1 2) (an (rf 1 0))) (f_X10_readNumber_71 (f_X10_readNumber_10 n) 1 (nI 4) (nI (v * 10 + (t p - 48))) (nI (k + 1)) ((sI hc 1 2 (hc.1 1 2 + 1)).1 (rf 1 0) ((sI hc 1 2 (hc.1 1 2 + 1)).1 1 2).toNatClampNeg) (sI hc 1 2 (hc.1 1 2 + 1)))) = f_X10_readNumber_10 n 1 4 (nI (v * 10 + (t p - 48))) (nI (k + 1)) (chr t L (p + 1)) (sI hc 1 2 (hc.1 1 2 + 1)) := by
        have s' := c_adv sc q.1
        generalize sI hc 1 2 (hc.1 1 2 + 1) = g at s' ⊢
        unfold chr
        by_cases z : p + 1 < L
        · simp (disch := omega) only [s'.1.2.2.1, s'.1.2.2.2.2.1, n_le, if_neg (show ¬ L ≤ p + 1 by omega), rv_0_0, rv_0_1, rv_0_2, rv_0_3, rv_0_4, rv_0_6, rv_0_7, rv_0_9, rv_0_10, rv_0_11, rv_0_12, rv_0_13, rv_0_14, rv_1_0, an_2, rv_3_0, rv_3_1, an_4, an_5, rv_6_0, rv_6_1, an_7, an_8, rv_9_0, rv_9_1, an_10, an_11, rv_12_0, rv_12_1, an_13, an_14, rv_15_0, rv_15_1, an_16, an_17, rv_18_0, rv_18_1, an_19, an_20, rv_21_0, rv_21_1, an_22, an_23, rv_24_0, rv_24_1, rv_24_2, an_25, an_26, an_27, rv_28_0, rv_28_1, rv_28_2, an_29, an_30, an_31, rv_32_0, rv_32_1, an_33, an_34, rv_35_0, rv_35_1, rv_35_2, rv_35_3, rv_35_4, rv_35_5, rv_35_6, an_36, an_37, an_38, an_39, an_40, rv_41_0, rv_41_1, rv_41_3, rv_41_4, rv_41_5, an_42, an_43, an_44, an_45, rv_46_0, rv_46_1, rv_46_2, rv_46_3, rv_46_4, rv_46_6, an_47, an_48, rv_49_0, rv_49_1, an_50, rv_51_0, rv_51_1, rv_51_2, rv_51_3, rv_51_4, rv_51_6, rv_51_7, an_52, an_53, an_54, an_55, rv_56_1, rv_56_2, rv_56_3, rv_56_4, rv_56_15, rv_56_16, rv_56_17, rv_56_19, rv_56_22, rv_56_23, rv_56_24, rv_56_25, rv_56_26, rv_56_27, rv_56_28, rv_56_31, rv_56_33, rv_56_35, rv_56_36, rv_56_37, rv_56_39, rv_56_40, rv_56_41, rv_56_42, rv_56_43, rv_56_44, rv_56_46, rv_56_47, rv_56_48, rv_56_49, rv_56_51, rv_56_52, rv_56_54, an_57, an_58, an_59, an_60, an_61, an_62, an_63, an_64, an_65, an_66, an_67, an_68, an_69, an_70, an_71, an_72, an_73, an_74, an_75, an_76, an_77, an_78, an_79, an_80, an_81, an_82, an_83, an_84, an_85, an_86, an_87, og_ix, nI_clamp, s'.1.2.2.2.1 (p + 1) z, f_X10_readNumber_71, if_pos z]
          rfl
        · simp (disch := omega) only [s'.1.2.2.1, s'.1.2.2.2.2.1, n_le, if_pos (show L ≤ p + 1 by omega), f_X10_readNumber_71, if_neg z]
          rfl
      have hv' : v * 10 + (t p - 48) < 10 ^ (k + 1) := by
        rw [Nat.pow_succ]
        omega
      have R := ih (k + 1) (v * 10 + (t p - 48)) (p + 1) n n' _ _ (by omega) hv' (c_adv sc q.1) (m_adv sm q.1) (fun z => absurd z (by omega)) (by omega) (by omega)
      have fC : (if zb true = 0 then f_X10_readNumber_76 (nI v) (nI k) (chr t L p) hc else nm (nI v * 10 + chr t L p - 48) fun x2_6 => nm (nI k + 1) fun x3_8 => nm (sI hc 1 2 (hc.1 1 2 + 1)) fun h_10 => if h_10.1 1 1 ≤ h_10.1 1 2 then f_X10_readNumber_71 (f_X10_readNumber_10 n) 1 (nI 4) x2_6 x3_8 (-1) h_10 else og (ix (h_10.1 1 2) (an (rf 1 0))) (f_X10_readNumber_71 (f_X10_readNumber_10 n) 1 (nI 4) x2_6 x3_8 (h_10.1 (rf 1 0) (h_10.1 1 2).toNatClampNeg) h_10)) = f_X10_readNumber_10 n 1 4 (nI (v * 10 + (t p - 48))) (nI (k + 1)) (chr t L (p + 1)) (sI hc 1 2 (hc.1 1 2 + 1)) := by
        rw [show zb true = 1 from rfl, if_neg (by decide), nm_id, nm_id, nm_id, e1, (num_st q.2.1).1, nI_1]
        exact eC
      have fM : (if zb true = 0 then f_X12_atom_156 cb (nI v) hm else if hm.1 56 11 = -1 then (if nI k = nI 4 then (ob (f_X12_fails 56 hm) fun r_17 h_16 => some (0, h_16)) else og (decide ((kd (hm.2.2 56)).1 = 3)) (og (ix (hm.1 56 8 + hm.1 56 10) (an (hm.2.2 56))) (nm (10 * nI v + hm.1 (hm.2.2 56) (hm.1 56 8 + hm.1 56 10).toNatClampNeg - 48) fun x2_9 => nm (sI hm 56 10 (hm.1 56 10 + 1)) fun h_11 => nm (nI k + 1) fun x3_13 => f_X12_atom_90 cb n' 56 x2_9 x3_13 h_11))) else f_X12_atom_156 cb (nI v) hm) = f_X12_atom_90 cb n' 56 (nI (v * 10 + (t p - 48))) (nI (k + 1)) (sI hm 56 10 (hm.1 56 10 + 1)) := by
        rw [show zb true = 1 from rfl, if_neg (by decide), if_pos sm.2.1, if_neg (by rw [nI_eq (by omega) (by decide)]; omega)]
        simp (disch := omega) only [c6, k3, og_true, c7, c10, nI_add, og_ix, nI_clamp, c9 p q.1, (bys_128 tp.2).2.2.2 q.2.1 q.2.2, nm_id, (num_st q.2.1).2, nI_1]
      rw [fC, fM]
      rcases R with ⟨p', v', hc', hm', r1, r2, r3, r4, r5, r6, r7⟩ | ⟨p', hc', hm', r1, r2, r3, r4⟩
      · exact Or.inl ⟨p', v', hc', hm', r1, r2, r3, r4, by omega, fun _ => by omega, r7⟩
      · exact Or.inr ⟨p', hc', hm', r1, r2, r3, r4⟩
