/-! rule -/
theorem nI_sub1 {n : Nat} : nI n - 1 = if n = 0 then -1 else nI (n - 1) := by
  by_cases h : n = 0
  · subst h
    rfl
  · obtain ⟨m, rfl⟩ : ∃ m, n = m + 1 := ⟨n - 1, by omega⟩
    rw [if_neg h, nI_pred]
    rfl
/-- x lies between 0 and n - 1 -/
theorem in_pred {x : Int32} {n : Nat} (hn : n < 2 ^ 31) : decide (¬ x < 0 ∧ ¬ nI n - 1 < x) = knB (nI n) x := by
  cases hk : knB (nI n) x with
  | true =>
    obtain ⟨p, hp, rfl⟩ := (knB_iff hn).mp hk
    rw [decide_eq_true_eq, nI_sub1, if_neg (by omega)]
    exact ⟨nI_pos (by omega), nI_nlt (by omega) (by omega)⟩
  | false =>
    rw [decide_eq_false_iff_not]
    rintro ⟨a, b⟩
    obtain ⟨j, hj, rfl⟩ := nI_of a
    have : knB (nI n) (nI j) = true := (knB_iff hn).mpr ⟨j, by
      rw [nI_sub1] at b
      by_cases h : n = 0
      · rw [if_pos h] at b
        exact absurd (show (-1 : Int32) < nI j by
          rw [Int32.lt_iff_toInt_lt, nI_toInt hj]
          show (-1 : Int) < j
          omega) b
      · rw [if_neg h, nI_ltI (by omega) hj] at b
        omega, rfl⟩
    rw [this] at hk
    cases hk
theorem e_X12_isInP {x : Int32} {n : Nat} (hn : n < 2 ^ 31) (h : AH) : f_X12_isIn x.toInt64 0 (nI n - 1).toInt64 h = some (zb (knB (nI n) x), h) := by
  rw [show (0 : Int64) = (0 : Int32).toInt64 from rfl, e_X12_isIn, in_pred hn]
theorem ge_m1 {x : Int32} : ¬ x < -1 ↔ x = -1 ∨ ∃ j : Nat, j < 2 ^ 31 ∧ x = nI j := by
  constructor
  · intro h
    by_cases c : x < 0
    · left
      rw [← Int32.toInt_inj]
      rw [Int32.lt_iff_toInt_lt] at h c
      have a1 : (-1 : Int32).toInt = -1 := by decide
      have a2 : (0 : Int32).toInt = 0 := by decide
      rw [a1] at h ⊢
      rw [a2] at c
      omega
    · exact Or.inr (nI_of c)
  · rintro (rfl | ⟨j, hj, rfl⟩)
    · decide
    · rw [Int32.lt_iff_toInt_lt, nI_toInt hj]
      show ¬ ((j : Int) < -1)
      omega
theorem m1_lt {n : Nat} (hn : n < 2 ^ 31) : (-1 : Int32) < nI n := by
  rw [Int32.lt_iff_toInt_lt, nI_toInt hn]
  show (-1 : Int) < n
  omega
theorem g7 : G7 Rel := by
  intro h ⟨v, R⟩ a1 a2
  have hn := R.n6
  have h4 := R.rc4
  have R1 := R.thr (x := 0)
  by_cases hk : knB (nI v.n) a1 = true
  · obtain ⟨p, hp, rfl⟩ := (knB_iff (by omega)).mp hk
    by_cases c : a2 = -1 ∨ knB (nI v.rc) a2 = true
    · have e1 : f_X11_rule 0 (nI p) a2 h = some (1, sI h 5 p a2) := by
        have c1 : ¬ a2 < -1 := ge_m1.mpr (c.imp id (fun q => by
          obtain ⟨j, hj, e⟩ := (knB_iff (by omega)).mp q
          exact ⟨j, by omega, e⟩))
        have c2 : a2 < nI v.rc := by
          rcases c with rfl | q
          · exact m1_lt (by omega)
          · obtain ⟨j, hj, rfl⟩ := (knB_iff (by omega)).mp q
            exact nI_lt hj (by omega)
        simp (disch := omega) only [f_X11_rule, e_X11_isKnown, ob_some, R.cn, hk, zb_0, Bool.true_eq_false, if_false, if_neg c1, R.crc, if_pos c2, rv_0_0, rv_0_1, rv_0_2, rv_0_3, rv_0_4, rv_0_6, rv_0_7, rv_0_9, rv_0_10, rv_0_11, rv_0_12, rv_0_13, rv_0_14, rv_1_0, an_2, rv_3_0, rv_3_1, an_4, an_5, rv_6_0, rv_6_1, an_7, an_8, rv_9_0, rv_9_1, an_10, an_11, rv_12_0, rv_12_1, an_13, an_14, rv_15_0, rv_15_1, an_16, an_17, rv_18_0, rv_18_1, an_19, an_20, rv_21_0, rv_21_1, an_22, an_23, rv_24_0, rv_24_1, rv_24_2, an_25, an_26, an_27, rv_28_0, rv_28_1, rv_28_2, an_29, an_30, an_31, rv_32_0, rv_32_1, an_33, an_34, rv_35_0, rv_35_1, rv_35_2, rv_35_3, rv_35_4, rv_35_5, rv_35_6, an_36, an_37, an_38, an_39, an_40, rv_41_0, rv_41_1, rv_41_3, rv_41_4, rv_41_5, an_42, an_43, an_44, an_45, rv_46_0, rv_46_1, rv_46_2, rv_46_3, rv_46_4, rv_46_6, an_47, an_48, rv_49_0, rv_49_1, an_50, rv_51_0, rv_51_1, rv_51_2, rv_51_3, rv_51_4, rv_51_6, rv_51_7, an_52, an_53, an_54, an_55, rv_56_1, rv_56_2, rv_56_3, rv_56_4, rv_56_15, rv_56_16, rv_56_17, rv_56_19, rv_56_22, rv_56_23, rv_56_24, rv_56_25, rv_56_26, rv_56_27, rv_56_28, rv_56_31, rv_56_33, rv_56_35, rv_56_36, rv_56_37, rv_56_39, rv_56_40, rv_56_41, rv_56_42, rv_56_43, rv_56_44, rv_56_46, rv_56_47, rv_56_48, rv_56_49, rv_56_51, rv_56_52, rv_56_54, an_57, an_58, an_59, an_60, an_61, an_62, an_63, an_64, an_65, an_66, an_67, an_68, an_69, an_70, an_71, an_72, an_73, an_74, an_75, an_76, an_77, an_78, an_79, an_80, an_81, an_82, an_83, an_84, an_85, an_86, an_87, og_ix, nI_clamp, nm_id]
      have e2 : f_X12_rule 56 (nI p) a2 (sI h 5 p a2) = some (1, sI (sI (sI h 5 p a2) 56 0 0) 66 p a2) := by
        have m1 : (sI (sI h 5 p a2) 56 0 0).1 56 20 = nI v.n := R.mn
        have m2 : (sI (sI h 5 p a2) 56 0 0).1 56 7 = nI v.rc := R.mrc
        simp (disch := omega) only [f_X12_rule, nm_id, e_X12_isPerson, ob_some, m1, hk, zb_0, Bool.true_eq_false, if_false, m2, e_X12_isInP, rv_0_0, rv_0_1, rv_0_2, rv_0_3, rv_0_4, rv_0_6, rv_0_7, rv_0_9, rv_0_10, rv_0_11, rv_0_12, rv_0_13, rv_0_14, rv_1_0, an_2, rv_3_0, rv_3_1, an_4, an_5, rv_6_0, rv_6_1, an_7, an_8, rv_9_0, rv_9_1, an_10, an_11, rv_12_0, rv_12_1, an_13, an_14, rv_15_0, rv_15_1, an_16, an_17, rv_18_0, rv_18_1, an_19, an_20, rv_21_0, rv_21_1, an_22, an_23, rv_24_0, rv_24_1, rv_24_2, an_25, an_26, an_27, rv_28_0, rv_28_1, rv_28_2, an_29, an_30, an_31, rv_32_0, rv_32_1, an_33, an_34, rv_35_0, rv_35_1, rv_35_2, rv_35_3, rv_35_4, rv_35_5, rv_35_6, an_36, an_37, an_38, an_39, an_40, rv_41_0, rv_41_1, rv_41_3, rv_41_4, rv_41_5, an_42, an_43, an_44, an_45, rv_46_0, rv_46_1, rv_46_2, rv_46_3, rv_46_4, rv_46_6, an_47, an_48, rv_49_0, rv_49_1, an_50, rv_51_0, rv_51_1, rv_51_2, rv_51_3, rv_51_4, rv_51_6, rv_51_7, an_52, an_53, an_54, an_55, rv_56_1, rv_56_2, rv_56_3, rv_56_4, rv_56_15, rv_56_16, rv_56_17, rv_56_19, rv_56_22, rv_56_23, rv_56_24, rv_56_25, rv_56_26, rv_56_27, rv_56_28, rv_56_31, rv_56_33, rv_56_35, rv_56_36, rv_56_37, rv_56_39, rv_56_40, rv_56_41, rv_56_42, rv_56_43, rv_56_44, rv_56_46, rv_56_47, rv_56_48, rv_56_49, rv_56_51, rv_56_52, rv_56_54, an_57, an_58, an_59, an_60, an_61, an_62, an_63, an_64, an_65, an_66, an_67, an_68, an_69, an_70, an_71, an_72, an_73, an_74, an_75, an_76, an_77, an_78, an_79, an_80, an_81, an_82, an_83, an_84, an_85, an_86, an_87, f_X12_rule_36, og_ix, nI_clamp]
        rcases c with q | q
        · rw [if_pos q]
        · rw [q, if_neg (show ¬ (true = false) by decide)]
          split <;> rfl
      refine ⟨_, _, _, e1, e2, ?_⟩
      have a := agr_tr (W := (5, 1000) :: (56, 0) :: (66, 1000) :: []) (agr_up (w_f_X11_rule_i0 _ _ _ _ e1) rfl) (w_f_X12_rule_i56 _ _ _ _ e2) rfl
      obtain ⟨r1, r2, r3, r4, r5, r6, r7, r8⟩ := R
      refine rel_mk (ro := fun i => if i = p then a2 else v.ro i) (gT_eq (agr_on a rfl) r1) (gP_eq (agr_on a rfl) r2) ?_ (gR_eq (agr_on a rfl) r4) (gS_eq (agr_on a rfl) r5) (gD_eq (agr_on a rfl) r6) (gG_eq (agr_on a rfl) r7) (gI_eq (agr_on a rfl) r8)
      intro i hi
      have := r3 i hi
      simp only [sI_eq]
      by_cases e : i = p
      · subst e
        simp
        rcases c with q | q
        · exact Or.inl q
        · obtain ⟨j, hj, rfl⟩ := (knB_iff (by omega)).mp q
          exact Or.inr ⟨j, hj, rfl⟩
      · simp [e]
        exact this
    · have c0 : ¬ a2 = -1 := fun q => c (Or.inl q)
      have ck : knB (nI v.rc) a2 = false := by
        cases q : knB (nI v.rc) a2 with
        | true => exact absurd (Or.inr q) c
        | false => rfl
      have e1 : f_X11_rule 0 (nI p) a2 h = some (0, h) := by
        simp (disch := omega) only [f_X11_rule, e_X11_isKnown, ob_some, R.cn, hk, zb_0, Bool.true_eq_false, if_false, R.crc, f_X11_rule_21]
        by_cases c1 : a2 < -1
        · rw [if_pos c1]
        · rw [if_neg c1]
          rcases ge_m1.mp c1 with q | ⟨j, hj, rfl⟩
          · exact absurd q c0
          · rw [if_neg]
            intro q
            rw [nI_ltI hj (by omega)] at q
            rw [(knB_iff (by omega)).mpr ⟨j, q, rfl⟩] at ck
            cases ck
      have e2 : f_X12_rule 56 (nI p) a2 h = some (0, sI h 56 0 0) := by
        simp (disch := omega) only [f_X12_rule, nm_id, e_X12_isPerson, ob_some, R1.mn, hk, zb_0, Bool.true_eq_false, if_false, if_neg c0, R1.mrc, e_X12_isInP, ck, if_true, f_X12_rule_34]
      exact ⟨_, _, _, e1, e2, v, R1⟩
  · have hk' : knB (nI v.n) a1 = false := by simpa using hk
    have e1 : f_X11_rule 0 a1 a2 h = some (0, h) := by
      simp only [f_X11_rule, e_X11_isKnown, ob_some, R.cn, hk', zb_0, if_true, f_X11_rule_21]
    have e2 : f_X12_rule 56 a1 a2 h = some (0, sI h 56 0 0) := by
      simp only [f_X12_rule, nm_id, e_X12_isPerson, ob_some, R1.mn, hk', zb_0, if_true, f_X12_rule_34]
    exact ⟨_, _, _, e1, e2, v, R1⟩
/-! been -/
def bcS (x : Int32) : Int32 := (match f_J6_bitCount_0f7a4 x (fun _ _ => 0, fun _ => 0, fun _ => 0) with
  | some q => q.1
  | none => 0)
theorem e_bc (x : Int32) (h : AH) : f_J6_bitCount_0f7a4 x h = some (bcS x, h) := rfl
theorem e_X1_placeOf {v : Wd} {h : AH} (R : RelV v h) {e p : Nat} (he : e < v.E) (hp : p < v.n) : f_X1_placeOf 32 (nI e) (nI p) h = some (v.di e p, h) := by
  have hn := R.n6
  have hE := R.E30
  unfold f_X1_placeOf
  simp (disch := omega) only [rv_0_0, rv_0_1, rv_0_2, rv_0_3, rv_0_4, rv_0_6, rv_0_7, rv_0_9, rv_0_10, rv_0_11, rv_0_12, rv_0_13, rv_0_14, rv_1_0, an_2, rv_3_0, rv_3_1, an_4, an_5, rv_6_0, rv_6_1, an_7, an_8, rv_9_0, rv_9_1, an_10, an_11, rv_12_0, rv_12_1, an_13, an_14, rv_15_0, rv_15_1, an_16, an_17, rv_18_0, rv_18_1, an_19, an_20, rv_21_0, rv_21_1, an_22, an_23, rv_24_0, rv_24_1, rv_24_2, an_25, an_26, an_27, rv_28_0, rv_28_1, rv_28_2, an_29, an_30, an_31, rv_32_0, rv_32_1, an_33, an_34, rv_35_0, rv_35_1, rv_35_2, rv_35_3, rv_35_4, rv_35_5, rv_35_6, an_36, an_37, an_38, an_39, an_40, rv_41_0, rv_41_1, rv_41_3, rv_41_4, rv_41_5, an_42, an_43, an_44, an_45, rv_46_0, rv_46_1, rv_46_2, rv_46_3, rv_46_4, rv_46_6, an_47, an_48, rv_49_0, rv_49_1, an_50, rv_51_0, rv_51_1, rv_51_2, rv_51_3, rv_51_4, rv_51_6, rv_51_7, an_52, an_53, an_54, an_55, rv_56_1, rv_56_2, rv_56_3, rv_56_4, rv_56_15, rv_56_16, rv_56_17, rv_56_19, rv_56_22, rv_56_23, rv_56_24, rv_56_25, rv_56_26, rv_56_27, rv_56_28, rv_56_31, rv_56_33, rv_56_35, rv_56_36, rv_56_37, rv_56_39, rv_56_40, rv_56_41, rv_56_42, rv_56_43, rv_56_44, rv_56_46, rv_56_47, rv_56_48, rv_56_49, rv_56_51, rv_56_52, rv_56_54, an_57, an_58, an_59, an_60, an_61, an_62, an_63, an_64, an_65, an_66, an_67, an_68, an_69, an_70, an_71, an_72, an_73, an_74, an_75, an_76, an_77, an_78, an_79, an_80, an_81, an_82, an_83, an_84, an_85, an_86, an_87, k_mul, k_mul', k_add, k_le, k_le', k_lt, k_lt', k_eq, n_le, n_lt, n_eq, n_m1, nI_add, pk_mul, og_ix, nI_clamp, R.cd he hp]
def zo (c : Nat → Int32) : Nat → Int32
  | 0 => 0
  | n + 1 => zo c n ||| c n
theorem e_X1_placesOf {v : Wd} {h : AH} (R : RelV v h) {p : Nat} (hp : p < v.n) : f_X1_placesOf 32 (nI p) h = some (bcS (zo (fun e => (1 : Int32) <<< (v.di e p &&& 31)) v.E), h) := by
  have hE := R.E30
  unfold f_X1_placesOf
  refine lp (fun n i s => f_X1_placesOf_4 n 32 (nI p) s (nI i) h = some (bcS (zo (fun e => (1 : Int32) <<< (v.di e p &&& 31)) v.E), h)) (fun i s => s = zo (fun e => (1 : Int32) <<< (v.di e p &&& 31)) i) v.E (by omega) ?_ ?_ rfl
  · rintro n s rfl
    rw [f_X1_placesOf_4]
    simp (disch := omega) only [k_mul, k_mul', k_add, k_le, k_le', k_lt, k_lt', k_eq, n_le, n_lt, n_eq, n_m1, nI_add, pk_mul, R.cE, Nat.le_refl, if_true, e_bc, ob_some]
  · rintro n i s hi rfl K
    rw [f_X1_placesOf_4]
    simp (disch := omega) only [k_mul, k_mul', k_add, k_le, k_le', k_lt, k_lt', k_eq, n_le, n_lt, n_eq, n_m1, nI_add, pk_mul, R.cE, if_neg (show ¬ v.E ≤ i by omega), e_X1_placeOf R hi hp, ob_some, nm_id]
    exact K _ rfl
theorem e_X12_been_58 {v : Wd} {h : AH} (R : RelV v h) {p : Nat} (hp : p < v.n) : f_X12_been_58 FU 56 (nI p) 0 0 h = some (bcS (zo (fun e => (1 : Int32) <<< (v.di e p &&& 31)) v.E), h) := by
  have hE := R.E30
  have hn := R.n6
  refine lp (fun n i s => f_X12_been_58 n 56 (nI p) s (nI i) h = some (bcS (zo (fun e => (1 : Int32) <<< (v.di e p &&& 31)) v.E), h)) (fun i s => s = zo (fun e => (1 : Int32) <<< (v.di e p &&& 31)) i) v.E (by omega) ?_ ?_ rfl
  · rintro n s rfl
    rw [f_X12_been_58]
    simp (disch := omega) only [k_mul, k_mul', k_add, k_le, k_le', k_lt, k_lt', k_eq, n_le, n_lt, n_eq, n_m1, nI_add, pk_mul, R.mE, Nat.le_refl, if_true, e_bc, ob_some]
  · rintro n i s hi rfl K
    rw [f_X12_been_58]
    simp (disch := omega) only [k_mul, k_mul', k_add, k_le, k_le', k_lt, k_lt', k_eq, n_le, n_lt, n_eq, n_m1, nI_add, pk_mul, rv_0_0, rv_0_1, rv_0_2, rv_0_3, rv_0_4, rv_0_6, rv_0_7, rv_0_9, rv_0_10, rv_0_11, rv_0_12, rv_0_13, rv_0_14, rv_1_0, an_2, rv_3_0, rv_3_1, an_4, an_5, rv_6_0, rv_6_1, an_7, an_8, rv_9_0, rv_9_1, an_10, an_11, rv_12_0, rv_12_1, an_13, an_14, rv_15_0, rv_15_1, an_16, an_17, rv_18_0, rv_18_1, an_19, an_20, rv_21_0, rv_21_1, an_22, an_23, rv_24_0, rv_24_1, rv_24_2, an_25, an_26, an_27, rv_28_0, rv_28_1, rv_28_2, an_29, an_30, an_31, rv_32_0, rv_32_1, an_33, an_34, rv_35_0, rv_35_1, rv_35_2, rv_35_3, rv_35_4, rv_35_5, rv_35_6, an_36, an_37, an_38, an_39, an_40, rv_41_0, rv_41_1, rv_41_3, rv_41_4, rv_41_5, an_42, an_43, an_44, an_45, rv_46_0, rv_46_1, rv_46_2, rv_46_3, rv_46_4, rv_46_6, an_47, an_48, rv_49_0, rv_49_1, an_50, rv_51_0, rv_51_1, rv_51_2, rv_51_3, rv_51_4, rv_51_6, rv_51_7, an_52, an_53, an_54, an_55, rv_56_1, rv_56_2, rv_56_3, rv_56_4, rv_56_15, rv_56_16, rv_56_17, rv_56_19, rv_56_22, rv_56_23, rv_56_24, rv_56_25, rv_56_26, rv_56_27, rv_56_28, rv_56_31, rv_56_33, rv_56_35, rv_56_36, rv_56_37, rv_56_39, rv_56_40, rv_56_41, rv_56_42, rv_56_43, rv_56_44, rv_56_46, rv_56_47, rv_56_48, rv_56_49, rv_56_51, rv_56_52, rv_56_54, an_57, an_58, an_59, an_60, an_61, an_62, an_63, an_64, an_65, an_66, an_67, an_68, an_69, an_70, an_71, an_72, an_73, an_74, an_75, an_76, an_77, an_78, an_79, an_80, an_81, an_82, an_83, an_84, an_85, an_86, an_87, R.mE, if_neg (show ¬ v.E ≤ i by omega), og_ix, nI_clamp, R.md hi hp, nm_id]
    exact K _ rfl
theorem g22 : G22 Rel := by
  intro h ⟨v, R⟩ a1 a2
  have hn := R.n6
  have hE := R.E30
  have R1 := R.thr (x := 0)
  have hM : ∀ r h2, f_X12_been 56 a1 a2 h = some (r, h2) → Rel h2 := fun r h2 e2 => G_of R (agr_refl (W := []) h) (w_f_X12_been_i56 _ _ _ _ e2) rfl rfl
  by_cases hk : knB (nI v.n) a1 = true
  · obtain ⟨p, hp, rfl⟩ := (knB_iff (by omega)).mp hk
    by_cases c : a2 = -1
    · subst c
      have e1 : f_X11_been 0 (nI p) (-1) h = some (bcS (zo (fun e => (1 : Int32) <<< (v.di e p &&& 31)) v.E), h) := by
        simp only [f_X11_been, e_X11_isKnown, ob_some, R.cn, hk, zb_0, Bool.true_eq_false, if_false, rv_0_0, rv_0_1, rv_0_2, rv_0_3, rv_0_4, rv_0_6, rv_0_7, rv_0_9, rv_0_10, rv_0_11, rv_0_12, rv_0_13, rv_0_14, rv_1_0, an_2, rv_3_0, rv_3_1, an_4, an_5, rv_6_0, rv_6_1, an_7, an_8, rv_9_0, rv_9_1, an_10, an_11, rv_12_0, rv_12_1, an_13, an_14, rv_15_0, rv_15_1, an_16, an_17, rv_18_0, rv_18_1, an_19, an_20, rv_21_0, rv_21_1, an_22, an_23, rv_24_0, rv_24_1, rv_24_2, an_25, an_26, an_27, rv_28_0, rv_28_1, rv_28_2, an_29, an_30, an_31, rv_32_0, rv_32_1, an_33, an_34, rv_35_0, rv_35_1, rv_35_2, rv_35_3, rv_35_4, rv_35_5, rv_35_6, an_36, an_37, an_38, an_39, an_40, rv_41_0, rv_41_1, rv_41_3, rv_41_4, rv_41_5, an_42, an_43, an_44, an_45, rv_46_0, rv_46_1, rv_46_2, rv_46_3, rv_46_4, rv_46_6, an_47, an_48, rv_49_0, rv_49_1, an_50, rv_51_0, rv_51_1, rv_51_2, rv_51_3, rv_51_4, rv_51_6, rv_51_7, an_52, an_53, an_54, an_55, rv_56_1, rv_56_2, rv_56_3, rv_56_4, rv_56_15, rv_56_16, rv_56_17, rv_56_19, rv_56_22, rv_56_23, rv_56_24, rv_56_25, rv_56_26, rv_56_27, rv_56_28, rv_56_31, rv_56_33, rv_56_35, rv_56_36, rv_56_37, rv_56_39, rv_56_40, rv_56_41, rv_56_42, rv_56_43, rv_56_44, rv_56_46, rv_56_47, rv_56_48, rv_56_49, rv_56_51, rv_56_52, rv_56_54, an_57, an_58, an_59, an_60, an_61, an_62, an_63, an_64, an_65, an_66, an_67, an_68, an_69, an_70, an_71, an_72, an_73, an_74, an_75, an_76, an_77, an_78, an_79, an_80, an_81, an_82, an_83, an_84, an_85, an_86, an_87, R.cE, if_neg (show ¬ (-1 : Int32) < -1 by decide), if_pos (m1_lt (show v.E < 2 ^ 31 by omega)), if_true, e_X1_placesOf R hp, f_X11_been_51]
      have e2 : f_X12_been 56 (nI p) (-1) h = some (bcS (zo (fun e => (1 : Int32) <<< (v.di e p &&& 31)) v.E), sI h 56 0 0) := by
        simp only [f_X12_been, nm_id, e_X12_isPerson, ob_some, R1.mn, hk, zb_0, Bool.true_eq_false, if_false, if_true, f_X12_been_36, e_X12_been_58 R1 hp]
      exact ⟨_, _, _, e1, e2, hM _ _ e2⟩
    · by_cases k : knB (nI v.E) a2 = true
      · obtain ⟨e, he, rfl⟩ := (knB_iff (by omega)).mp k
        have e1 : f_X11_been 0 (nI p) (nI e) h = some (v.di e p, h) := by
          simp (disch := omega) only [f_X11_been, e_X11_isKnown, ob_some, R.cn, hk, zb_0, Bool.true_eq_false, if_false, rv_0_0, rv_0_1, rv_0_2, rv_0_3, rv_0_4, rv_0_6, rv_0_7, rv_0_9, rv_0_10, rv_0_11, rv_0_12, rv_0_13, rv_0_14, rv_1_0, an_2, rv_3_0, rv_3_1, an_4, an_5, rv_6_0, rv_6_1, an_7, an_8, rv_9_0, rv_9_1, an_10, an_11, rv_12_0, rv_12_1, an_13, an_14, rv_15_0, rv_15_1, an_16, an_17, rv_18_0, rv_18_1, an_19, an_20, rv_21_0, rv_21_1, an_22, an_23, rv_24_0, rv_24_1, rv_24_2, an_25, an_26, an_27, rv_28_0, rv_28_1, rv_28_2, an_29, an_30, an_31, rv_32_0, rv_32_1, an_33, an_34, rv_35_0, rv_35_1, rv_35_2, rv_35_3, rv_35_4, rv_35_5, rv_35_6, an_36, an_37, an_38, an_39, an_40, rv_41_0, rv_41_1, rv_41_3, rv_41_4, rv_41_5, an_42, an_43, an_44, an_45, rv_46_0, rv_46_1, rv_46_2, rv_46_3, rv_46_4, rv_46_6, an_47, an_48, rv_49_0, rv_49_1, an_50, rv_51_0, rv_51_1, rv_51_2, rv_51_3, rv_51_4, rv_51_6, rv_51_7, an_52, an_53, an_54, an_55, rv_56_1, rv_56_2, rv_56_3, rv_56_4, rv_56_15, rv_56_16, rv_56_17, rv_56_19, rv_56_22, rv_56_23, rv_56_24, rv_56_25, rv_56_26, rv_56_27, rv_56_28, rv_56_31, rv_56_33, rv_56_35, rv_56_36, rv_56_37, rv_56_39, rv_56_40, rv_56_41, rv_56_42, rv_56_43, rv_56_44, rv_56_46, rv_56_47, rv_56_48, rv_56_49, rv_56_51, rv_56_52, rv_56_54, an_57, an_58, an_59, an_60, an_61, an_62, an_63, an_64, an_65, an_66, an_67, an_68, an_69, an_70, an_71, an_72, an_73, an_74, an_75, an_76, an_77, an_78, an_79, an_80, an_81, an_82, an_83, an_84, an_85, an_86, an_87, R.cE, if_neg (ge_m1.mpr (Or.inr ⟨e, by omega, rfl⟩)), n_lt, he, if_true, n_m1, e_X1_placeOf R he hp, f_X11_been_51]
        have e2 : f_X12_been 56 (nI p) (nI e) h = some (v.di e p, sI h 56 0 0) := by
          simp (disch := omega) only [f_X12_been, nm_id, e_X12_isPerson, ob_some, R1.mn, hk, zb_0, Bool.true_eq_false, if_false, n_m1, R1.mE, e_X12_isInP, k, f_X12_been_36, rv_0_0, rv_0_1, rv_0_2, rv_0_3, rv_0_4, rv_0_6, rv_0_7, rv_0_9, rv_0_10, rv_0_11, rv_0_12, rv_0_13, rv_0_14, rv_1_0, an_2, rv_3_0, rv_3_1, an_4, an_5, rv_6_0, rv_6_1, an_7, an_8, rv_9_0, rv_9_1, an_10, an_11, rv_12_0, rv_12_1, an_13, an_14, rv_15_0, rv_15_1, an_16, an_17, rv_18_0, rv_18_1, an_19, an_20, rv_21_0, rv_21_1, an_22, an_23, rv_24_0, rv_24_1, rv_24_2, an_25, an_26, an_27, rv_28_0, rv_28_1, rv_28_2, an_29, an_30, an_31, rv_32_0, rv_32_1, an_33, an_34, rv_35_0, rv_35_1, rv_35_2, rv_35_3, rv_35_4, rv_35_5, rv_35_6, an_36, an_37, an_38, an_39, an_40, rv_41_0, rv_41_1, rv_41_3, rv_41_4, rv_41_5, an_42, an_43, an_44, an_45, rv_46_0, rv_46_1, rv_46_2, rv_46_3, rv_46_4, rv_46_6, an_47, an_48, rv_49_0, rv_49_1, an_50, rv_51_0, rv_51_1, rv_51_2, rv_51_3, rv_51_4, rv_51_6, rv_51_7, an_52, an_53, an_54, an_55, rv_56_1, rv_56_2, rv_56_3, rv_56_4, rv_56_15, rv_56_16, rv_56_17, rv_56_19, rv_56_22, rv_56_23, rv_56_24, rv_56_25, rv_56_26, rv_56_27, rv_56_28, rv_56_31, rv_56_33, rv_56_35, rv_56_36, rv_56_37, rv_56_39, rv_56_40, rv_56_41, rv_56_42, rv_56_43, rv_56_44, rv_56_46, rv_56_47, rv_56_48, rv_56_49, rv_56_51, rv_56_52, rv_56_54, an_57, an_58, an_59, an_60, an_61, an_62, an_63, an_64, an_65, an_66, an_67, an_68, an_69, an_70, an_71, an_72, an_73, an_74, an_75, an_76, an_77, an_78, an_79, an_80, an_81, an_82, an_83, an_84, an_85, an_86, an_87, k_mul, k_mul', k_add, k_le, k_le', k_lt, k_lt', k_eq, n_le, n_lt, n_eq, n_m1, nI_add, pk_mul, og_ix, nI_clamp, R1.md he hp]
        exact ⟨_, _, _, e1, e2, hM _ _ e2⟩
      · have k' : knB (nI v.E) a2 = false := by simpa using k
        have e1 : f_X11_been 0 (nI p) a2 h = some (-1, h) := by
          simp (disch := omega) only [f_X11_been, e_X11_isKnown, ob_some, R.cn, hk, zb_0, Bool.true_eq_false, if_false, rv_0_0, rv_0_1, rv_0_2, rv_0_3, rv_0_4, rv_0_6, rv_0_7, rv_0_9, rv_0_10, rv_0_11, rv_0_12, rv_0_13, rv_0_14, rv_1_0, an_2, rv_3_0, rv_3_1, an_4, an_5, rv_6_0, rv_6_1, an_7, an_8, rv_9_0, rv_9_1, an_10, an_11, rv_12_0, rv_12_1, an_13, an_14, rv_15_0, rv_15_1, an_16, an_17, rv_18_0, rv_18_1, an_19, an_20, rv_21_0, rv_21_1, an_22, an_23, rv_24_0, rv_24_1, rv_24_2, an_25, an_26, an_27, rv_28_0, rv_28_1, rv_28_2, an_29, an_30, an_31, rv_32_0, rv_32_1, an_33, an_34, rv_35_0, rv_35_1, rv_35_2, rv_35_3, rv_35_4, rv_35_5, rv_35_6, an_36, an_37, an_38, an_39, an_40, rv_41_0, rv_41_1, rv_41_3, rv_41_4, rv_41_5, an_42, an_43, an_44, an_45, rv_46_0, rv_46_1, rv_46_2, rv_46_3, rv_46_4, rv_46_6, an_47, an_48, rv_49_0, rv_49_1, an_50, rv_51_0, rv_51_1, rv_51_2, rv_51_3, rv_51_4, rv_51_6, rv_51_7, an_52, an_53, an_54, an_55, rv_56_1, rv_56_2, rv_56_3, rv_56_4, rv_56_15, rv_56_16, rv_56_17, rv_56_19, rv_56_22, rv_56_23, rv_56_24, rv_56_25, rv_56_26, rv_56_27, rv_56_28, rv_56_31, rv_56_33, rv_56_35, rv_56_36, rv_56_37, rv_56_39, rv_56_40, rv_56_41, rv_56_42, rv_56_43, rv_56_44, rv_56_46, rv_56_47, rv_56_48, rv_56_49, rv_56_51, rv_56_52, rv_56_54, an_57, an_58, an_59, an_60, an_61, an_62, an_63, an_64, an_65, an_66, an_67, an_68, an_69, an_70, an_71, an_72, an_73, an_74, an_75, an_76, an_77, an_78, an_79, an_80, an_81, an_82, an_83, an_84, an_85, an_86, an_87, R.cE, f_X11_been_24]
          by_cases c1 : a2 < -1
          · rw [if_pos c1]
          · rw [if_neg c1]
            rcases ge_m1.mp c1 with q | ⟨j, hj, rfl⟩
            · exact absurd q c
            · rw [if_neg]
              intro q
              rw [nI_ltI hj (by omega)] at q
              rw [(knB_iff (by omega)).mpr ⟨j, q, rfl⟩] at k'
              cases k'
        have e2 : f_X12_been 56 (nI p) a2 h = some (-1, sI h 56 0 0) := by
          simp (disch := omega) only [f_X12_been, nm_id, e_X12_isPerson, ob_some, R1.mn, hk, zb_0, Bool.true_eq_false, if_false, if_neg c, R1.mE, e_X12_isInP, k', if_true, f_X12_been_34]
        exact ⟨_, _, _, e1, e2, hM _ _ e2⟩
  · have hk' : knB (nI v.n) a1 = false := by simpa using hk
    have e1 : f_X11_been 0 a1 a2 h = some (-1, h) := by
      simp only [f_X11_been, e_X11_isKnown, ob_some, R.cn, hk', zb_0, if_true, f_X11_been_24]
    have e2 : f_X12_been 56 a1 a2 h = some (-1, sI h 56 0 0) := by
      simp only [f_X12_been, nm_id, e_X12_isPerson, ob_some, R1.mn, hk', zb_0, if_true, f_X12_been_34]
    exact ⟨_, _, _, e1, e2, hM _ _ e2⟩
