/-! agree -/
def seenS (v : Wd) (p : Nat) : Nat → Bool
  | 0 => true
  | s + 1 => seenS v p s && (decide (nI (v.it p 3) = v.ss s) && decide (v.di (v.se s) p = v.sw s))
theorem seen_mono {v : Wd} {p s t : Nat} (h : s ≤ t) (ht : seenS v p t = true) : seenS v p s = true := by
  induction t with
  | zero =>
    have : s = 0 := by omega
    subst this
    rfl
  | succ t ih =>
    by_cases e : s = t + 1
    · subst e
      exact ht
    · rw [seenS, Bool.and_eq_true] at ht
      exact ih (by omega) ht.1
theorem e_X1_isSeenAlways {v : Wd} {h : AH} (R : RelV v h) {p : Nat} (hp : p < v.n) : f_X1_isSeenAlways 32 (nI p) (nI (v.it p 3)) h = some (zb (seenS v p v.S), h) := by
  have hS := R.S20
  have hn := R.n6
  unfold f_X1_isSeenAlways
  refine lp (σ := Unit) (fun n i _ => f_X1_isSeenAlways_2 n 32 (nI p) (nI (v.it p 3)) (nI i) h = some (zb (seenS v p v.S), h)) (fun i _ => seenS v p i = true) v.S (by omega) ?_ ?_ (s := ()) rfl
  · rintro n s q
    rw [f_X1_isSeenAlways_2]
    simp (disch := omega) only [k_mul, k_mul', k_add, k_le, k_le', k_lt, k_lt', k_eq, n_le, n_lt, n_eq, n_m1, nI_add, pk_mul, R.cS, Nat.le_refl, if_true, q]
    rfl
  · rintro n i s hi q K
    have g := R.gs hi
    rw [f_X1_isSeenAlways_2]
    simp (disch := omega) only [k_mul, k_mul', k_add, k_le, k_le', k_lt, k_lt', k_eq, n_le, n_lt, n_eq, n_m1, nI_add, pk_mul, rv_0_0, rv_0_1, rv_0_2, rv_0_3, rv_0_4, rv_0_6, rv_0_7, rv_0_9, rv_0_10, rv_0_11, rv_0_12, rv_0_13, rv_0_14, rv_1_0, an_2, rv_3_0, rv_3_1, an_4, an_5, rv_6_0, rv_6_1, an_7, an_8, rv_9_0, rv_9_1, an_10, an_11, rv_12_0, rv_12_1, an_13, an_14, rv_15_0, rv_15_1, an_16, an_17, rv_18_0, rv_18_1, an_19, an_20, rv_21_0, rv_21_1, an_22, an_23, rv_24_0, rv_24_1, rv_24_2, an_25, an_26, an_27, rv_28_0, rv_28_1, rv_28_2, an_29, an_30, an_31, rv_32_0, rv_32_1, an_33, an_34, rv_35_0, rv_35_1, rv_35_2, rv_35_3, rv_35_4, rv_35_5, rv_35_6, an_36, an_37, an_38, an_39, an_40, rv_41_0, rv_41_1, rv_41_3, rv_41_4, rv_41_5, an_42, an_43, an_44, an_45, rv_46_0, rv_46_1, rv_46_2, rv_46_3, rv_46_4, rv_46_6, an_47, an_48, rv_49_0, rv_49_1, an_50, rv_51_0, rv_51_1, rv_51_2, rv_51_3, rv_51_4, rv_51_6, rv_51_7, an_52, an_53, an_54, an_55, rv_56_1, rv_56_2, rv_56_3, rv_56_4, rv_56_15, rv_56_16, rv_56_17, rv_56_19, rv_56_22, rv_56_23, rv_56_24, rv_56_25, rv_56_26, rv_56_27, rv_56_28, rv_56_31, rv_56_33, rv_56_35, rv_56_36, rv_56_37, rv_56_39, rv_56_40, rv_56_41, rv_56_42, rv_56_43, rv_56_44, rv_56_46, rv_56_47, rv_56_48, rv_56_49, rv_56_51, rv_56_52, rv_56_54, an_57, an_58, an_59, an_60, an_61, an_62, an_63, an_64, an_65, an_66, an_67, an_68, an_69, an_70, an_71, an_72, an_73, an_74, an_75, an_76, an_77, an_78, an_79, an_80, an_81, an_82, an_83, an_84, an_85, an_86, an_87, R.cS, if_neg (show ¬ v.S ≤ i by omega), og_ix, nI_clamp, g.2.1.1, g.2.1.2.1, g.2.1.2.2, e_X1_placeOf R g.1 hp, ob_some, nm_id, f_X1_isSeenAlways_50]
    by_cases c : v.di (v.se i) p = v.sw i
    · by_cases d : nI (v.it p 3) = v.ss i
      · rw [if_pos c, if_pos d]
        exact K () (by rw [seenS, q]; simp [c, d])
      · rw [if_pos c, if_neg d]
        have : seenS v p v.S = false := by
          cases z : seenS v p v.S with
          | false => rfl
          | true =>
            have := seen_mono (show i + 1 ≤ v.S by omega) z
            rw [seenS] at this
            simp [d] at this
        rw [this]
        rfl
    · rw [if_neg c]
      have : seenS v p v.S = false := by
        cases z : seenS v p v.S with
        | false => rfl
        | true =>
          have := seen_mono (show i + 1 ≤ v.S by omega) z
          rw [seenS] at this
          simp [c] at this
      rw [this]
      rfl
def agS (v : Wd) (p : Nat) : Int32 := if seenS v p v.S = true then (1 : Int32) <<< (nI p &&& 31) else 0
theorem e_X11_agree {v : Wd} {h : AH} (R : RelV v h) : f_X11_agree 0 h = some (if v.n = 0 then -1 else zo (agS v) v.n, h) := by
  have hn := R.n6
  have hz : (nI v.n = 0) = (v.n = 0) := n_eq (b := 0) (by omega) (by omega)
  simp only [f_X11_agree, rv_0_0, rv_0_1, rv_0_2, rv_0_3, rv_0_4, rv_0_6, rv_0_7, rv_0_9, rv_0_10, rv_0_11, rv_0_12, rv_0_13, rv_0_14, rv_1_0, an_2, rv_3_0, rv_3_1, an_4, an_5, rv_6_0, rv_6_1, an_7, an_8, rv_9_0, rv_9_1, an_10, an_11, rv_12_0, rv_12_1, an_13, an_14, rv_15_0, rv_15_1, an_16, an_17, rv_18_0, rv_18_1, an_19, an_20, rv_21_0, rv_21_1, an_22, an_23, rv_24_0, rv_24_1, rv_24_2, an_25, an_26, an_27, rv_28_0, rv_28_1, rv_28_2, an_29, an_30, an_31, rv_32_0, rv_32_1, an_33, an_34, rv_35_0, rv_35_1, rv_35_2, rv_35_3, rv_35_4, rv_35_5, rv_35_6, an_36, an_37, an_38, an_39, an_40, rv_41_0, rv_41_1, rv_41_3, rv_41_4, rv_41_5, an_42, an_43, an_44, an_45, rv_46_0, rv_46_1, rv_46_2, rv_46_3, rv_46_4, rv_46_6, an_47, an_48, rv_49_0, rv_49_1, an_50, rv_51_0, rv_51_1, rv_51_2, rv_51_3, rv_51_4, rv_51_6, rv_51_7, an_52, an_53, an_54, an_55, rv_56_1, rv_56_2, rv_56_3, rv_56_4, rv_56_15, rv_56_16, rv_56_17, rv_56_19, rv_56_22, rv_56_23, rv_56_24, rv_56_25, rv_56_26, rv_56_27, rv_56_28, rv_56_31, rv_56_33, rv_56_35, rv_56_36, rv_56_37, rv_56_39, rv_56_40, rv_56_41, rv_56_42, rv_56_43, rv_56_44, rv_56_46, rv_56_47, rv_56_48, rv_56_49, rv_56_51, rv_56_52, rv_56_54, an_57, an_58, an_59, an_60, an_61, an_62, an_63, an_64, an_65, an_66, an_67, an_68, an_69, an_70, an_71, an_72, an_73, an_74, an_75, an_76, an_77, an_78, an_79, an_80, an_81, an_82, an_83, an_84, an_85, an_86, an_87, R.cn, hz]
  have : f_X11_agree_16 FU 0 0 0 h = some (zo (agS v) v.n, h) := by
    refine lp (fun n i s => f_X11_agree_16 n 0 s (nI i) h = some (zo (agS v) v.n, h)) (fun i s => s = zo (agS v) i) v.n (by omega) ?_ ?_ rfl
    · rintro n s rfl
      rw [f_X11_agree_16]
      simp (disch := omega) only [k_mul, k_mul', k_add, k_le, k_le', k_lt, k_lt', k_eq, n_le, n_lt, n_eq, n_m1, nI_add, pk_mul, rv_0_0, rv_0_1, rv_0_2, rv_0_3, rv_0_4, rv_0_6, rv_0_7, rv_0_9, rv_0_10, rv_0_11, rv_0_12, rv_0_13, rv_0_14, rv_1_0, an_2, rv_3_0, rv_3_1, an_4, an_5, rv_6_0, rv_6_1, an_7, an_8, rv_9_0, rv_9_1, an_10, an_11, rv_12_0, rv_12_1, an_13, an_14, rv_15_0, rv_15_1, an_16, an_17, rv_18_0, rv_18_1, an_19, an_20, rv_21_0, rv_21_1, an_22, an_23, rv_24_0, rv_24_1, rv_24_2, an_25, an_26, an_27, rv_28_0, rv_28_1, rv_28_2, an_29, an_30, an_31, rv_32_0, rv_32_1, an_33, an_34, rv_35_0, rv_35_1, rv_35_2, rv_35_3, rv_35_4, rv_35_5, rv_35_6, an_36, an_37, an_38, an_39, an_40, rv_41_0, rv_41_1, rv_41_3, rv_41_4, rv_41_5, an_42, an_43, an_44, an_45, rv_46_0, rv_46_1, rv_46_2, rv_46_3, rv_46_4, rv_46_6, an_47, an_48, rv_49_0, rv_49_1, an_50, rv_51_0, rv_51_1, rv_51_2, rv_51_3, rv_51_4, rv_51_6, rv_51_7, an_52, an_53, an_54, an_55, rv_56_1, rv_56_2, rv_56_3, rv_56_4, rv_56_15, rv_56_16, rv_56_17, rv_56_19, rv_56_22, rv_56_23, rv_56_24, rv_56_25, rv_56_26, rv_56_27, rv_56_28, rv_56_31, rv_56_33, rv_56_35, rv_56_36, rv_56_37, rv_56_39, rv_56_40, rv_56_41, rv_56_42, rv_56_43, rv_56_44, rv_56_46, rv_56_47, rv_56_48, rv_56_49, rv_56_51, rv_56_52, rv_56_54, an_57, an_58, an_59, an_60, an_61, an_62, an_63, an_64, an_65, an_66, an_67, an_68, an_69, an_70, an_71, an_72, an_73, an_74, an_75, an_76, an_77, an_78, an_79, an_80, an_81, an_82, an_83, an_84, an_85, an_86, an_87, R.cn, Nat.le_refl, if_true]
    · rintro n i s hi rfl K
      rw [f_X11_agree_16]
      simp (disch := omega) only [k_mul, k_mul', k_add, k_le, k_le', k_lt, k_lt', k_eq, n_le, n_lt, n_eq, n_m1, nI_add, pk_mul, rv_0_0, rv_0_1, rv_0_2, rv_0_3, rv_0_4, rv_0_6, rv_0_7, rv_0_9, rv_0_10, rv_0_11, rv_0_12, rv_0_13, rv_0_14, rv_1_0, an_2, rv_3_0, rv_3_1, an_4, an_5, rv_6_0, rv_6_1, an_7, an_8, rv_9_0, rv_9_1, an_10, an_11, rv_12_0, rv_12_1, an_13, an_14, rv_15_0, rv_15_1, an_16, an_17, rv_18_0, rv_18_1, an_19, an_20, rv_21_0, rv_21_1, an_22, an_23, rv_24_0, rv_24_1, rv_24_2, an_25, an_26, an_27, rv_28_0, rv_28_1, rv_28_2, an_29, an_30, an_31, rv_32_0, rv_32_1, an_33, an_34, rv_35_0, rv_35_1, rv_35_2, rv_35_3, rv_35_4, rv_35_5, rv_35_6, an_36, an_37, an_38, an_39, an_40, rv_41_0, rv_41_1, rv_41_3, rv_41_4, rv_41_5, an_42, an_43, an_44, an_45, rv_46_0, rv_46_1, rv_46_2, rv_46_3, rv_46_4, rv_46_6, an_47, an_48, rv_49_0, rv_49_1, an_50, rv_51_0, rv_51_1, rv_51_2, rv_51_3, rv_51_4, rv_51_6, rv_51_7, an_52, an_53, an_54, an_55, rv_56_1, rv_56_2, rv_56_3, rv_56_4, rv_56_15, rv_56_16, rv_56_17, rv_56_19, rv_56_22, rv_56_23, rv_56_24, rv_56_25, rv_56_26, rv_56_27, rv_56_28, rv_56_31, rv_56_33, rv_56_35, rv_56_36, rv_56_37, rv_56_39, rv_56_40, rv_56_41, rv_56_42, rv_56_43, rv_56_44, rv_56_46, rv_56_47, rv_56_48, rv_56_49, rv_56_51, rv_56_52, rv_56_54, an_57, an_58, an_59, an_60, an_61, an_62, an_63, an_64, an_65, an_66, an_67, an_68, an_69, an_70, an_71, an_72, an_73, an_74, an_75, an_76, an_77, an_78, an_79, an_80, an_81, an_82, an_83, an_84, an_85, an_86, an_87, R.cn, if_neg (show ¬ v.n ≤ i by omega), show (3 : Int32) = nI 3 from rfl, e_X6_item R.cP hi, ob_some, e_X1_isSeenAlways R hi, zb_0, nm_id, f_X11_agree_53]
      cases z : seenS v i v.S with
      | false =>
        rw [if_pos rfl]
        exact K _ (by rw [zo, agS, z]; simp)
      | true =>
        rw [if_neg (by decide)]
        exact K _ (by rw [zo, agS, z]; simp)
  rw [this]
  grind
theorem e_X12_agree_31 {v : Wd} {h : AH} (R : RelV v h) {p : Nat} (hp : p < v.n) (q : Nat → Int32 → Int32 → AH → Option (Int32 × AH)) (x : Int32) : f_X12_agree_31 q FU 56 x (nI p) 1 0 h = q 56 (x ||| agS v p) (nI (p + 1)) h := by
  have hS := R.S20
  have hn := R.n6
  have hE := R.E30
  refine lp (fun n i s => f_X12_agree_31 q n 56 x (nI p) s (nI i) h = q 56 (x ||| agS v p) (nI (p + 1)) h) (fun i s => s = zb (seenS v p i)) v.S (by omega) ?_ ?_ rfl
  · rintro n s rfl
    rw [f_X12_agree_31]
    simp (disch := omega) only [k_mul, k_mul', k_add, k_le, k_le', k_lt, k_lt', k_eq, n_le, n_lt, n_eq, n_m1, nI_add, pk_mul, R.mS, Nat.le_refl, if_true, zb_0, f_X12_agree_111, nm_id]
    unfold agS
    cases seenS v p v.S <;> simp
  · rintro n i s hi rfl K
    have g := R.gs hi
    have h0 : ∀ s', s' = zb (seenS v p (i + 1)) → f_X12_agree_31 q n 56 x (nI p) s' (nI (i + 1)) h = q 56 (x ||| agS v p) (nI (p + 1)) h := K
    rw [f_X12_agree_31]
    simp (disch := omega) only [k_mul, k_mul', k_add, k_le, k_le', k_lt, k_lt', k_eq, n_le, n_lt, n_eq, n_m1, nI_add, pk_mul, rv_0_0, rv_0_1, rv_0_2, rv_0_3, rv_0_4, rv_0_6, rv_0_7, rv_0_9, rv_0_10, rv_0_11, rv_0_12, rv_0_13, rv_0_14, rv_1_0, an_2, rv_3_0, rv_3_1, an_4, an_5, rv_6_0, rv_6_1, an_7, an_8, rv_9_0, rv_9_1, an_10, an_11, rv_12_0, rv_12_1, an_13, an_14, rv_15_0, rv_15_1, an_16, an_17, rv_18_0, rv_18_1, an_19, an_20, rv_21_0, rv_21_1, an_22, an_23, rv_24_0, rv_24_1, rv_24_2, an_25, an_26, an_27, rv_28_0, rv_28_1, rv_28_2, an_29, an_30, an_31, rv_32_0, rv_32_1, an_33, an_34, rv_35_0, rv_35_1, rv_35_2, rv_35_3, rv_35_4, rv_35_5, rv_35_6, an_36, an_37, an_38, an_39, an_40, rv_41_0, rv_41_1, rv_41_3, rv_41_4, rv_41_5, an_42, an_43, an_44, an_45, rv_46_0, rv_46_1, rv_46_2, rv_46_3, rv_46_4, rv_46_6, an_47, an_48, rv_49_0, rv_49_1, an_50, rv_51_0, rv_51_1, rv_51_2, rv_51_3, rv_51_4, rv_51_6, rv_51_7, an_52, an_53, an_54, an_55, rv_56_1, rv_56_2, rv_56_3, rv_56_4, rv_56_15, rv_56_16, rv_56_17, rv_56_19, rv_56_22, rv_56_23, rv_56_24, rv_56_25, rv_56_26, rv_56_27, rv_56_28, rv_56_31, rv_56_33, rv_56_35, rv_56_36, rv_56_37, rv_56_39, rv_56_40, rv_56_41, rv_56_42, rv_56_43, rv_56_44, rv_56_46, rv_56_47, rv_56_48, rv_56_49, rv_56_51, rv_56_52, rv_56_54, an_57, an_58, an_59, an_60, an_61, an_62, an_63, an_64, an_65, an_66, an_67, an_68, an_69, an_70, an_71, an_72, an_73, an_74, an_75, an_76, an_77, an_78, an_79, an_80, an_81, an_82, an_83, an_84, an_85, an_86, an_87, R.mS, if_neg (show ¬ v.S ≤ i by omega), zb_0, og_ix, nI_clamp, g.2.2.1, g.2.2.2.1, g.2.2.2.2, R.ms hp, R.md g.1 hp, nm_id, f_X12_agree_91, f_X12_agree_92]
    cases z : seenS v p i with
    | false =>
      rw [if_pos rfl]
      exact K _ (by rw [seenS, z]; rfl)
    | true =>
      rw [if_neg (by decide)]
      by_cases d : nI (v.it p 3) = v.ss i
      · rw [if_pos d]
        by_cases c : v.di (v.se i) p = v.sw i
        · rw [if_pos c]
          exact K _ (by rw [seenS, z]; simp [c, d, zb])
        · rw [if_neg c]
          exact K _ (by rw [seenS, z]; simp [c, zb])
      · rw [if_neg d]
        exact K _ (by rw [seenS, z]; simp [d, zb])
theorem e_X12_agree {v : Wd} {h : AH} (R : RelV v h) : f_X12_agree 56 h = some (if v.n = 0 then -1 else zo (agS v) v.n, sI h 56 0 0) := by
  have hn := R.n6
  have R1 := R.thr (x := 0)
  have hz : (nI v.n = 0) = (v.n = 0) := n_eq (b := 0) (by omega) (by omega)
  simp only [f_X12_agree, nm_id, R1.mn, hz]
  have : f_X12_agree_18 FU 56 0 0 (sI h 56 0 0) = some (zo (agS v) v.n, sI h 56 0 0) := by
    refine lp (fun n i s => f_X12_agree_18 n 56 s (nI i) (sI h 56 0 0) = some (zo (agS v) v.n, sI h 56 0 0)) (fun i s => s = zo (agS v) i) v.n (by omega) ?_ ?_ rfl
    · rintro n s rfl
      rw [f_X12_agree_18]
      simp (disch := omega) only [k_mul, k_mul', k_add, k_le, k_le', k_lt, k_lt', k_eq, n_le, n_lt, n_eq, n_m1, nI_add, pk_mul, R1.mn, Nat.le_refl, if_true]
    · rintro n i s hi rfl K
      rw [f_X12_agree_18]
      simp (disch := omega) only [k_mul, k_mul', k_add, k_le, k_le', k_lt, k_lt', k_eq, n_le, n_lt, n_eq, n_m1, nI_add, pk_mul, R1.mn, if_neg (show ¬ v.n ≤ i by omega), e_X12_agree_31 R1 hi]
      exact K _ rfl
  rw [this]
  grind
theorem g21 : G21 Rel := by
  intro h ⟨v, R⟩
  exact ⟨_, h, _, e_X11_agree R, e_X12_agree R, v, R.thr⟩
/-! envy -/
def wOf (v : Wd) (x : Int32) : Nat := if x = -1 then 0 else v.wo x.toNatClampNeg
def envS (v : Wd) (a b : Nat) : Bool := decide (v.has b ≠ -1) && (fitS v a (v.it (v.has b).toNatClampNeg 3) && decide (wOf v (v.has a) < wOf v (v.has b)))
theorem RelV.hb {v : Wd} {h : AH} (R : RelV v h) {p : Nat} (hp : p < v.n) : v.has p = -1 ∨ ∃ q, q < v.n ∧ v.has p = nI q := (R.so.1 p hp).imp id (fun ⟨q, h1, h2, _⟩ => ⟨q, h1, h2⟩)
theorem RelV.wb {v : Wd} {h : AH} (R : RelV v h) {p : Nat} (hp : p < v.n) : v.wo p ≤ 99 := R.so.2.2 p hp
theorem e_X11_hasEnvy {v : Wd} {h : AH} (R : RelV v h) {a b : Nat} (ha : a < v.n) (hb : b < v.n) : f_X11_hasEnvy 0 (nI a) (nI b) h = some (zb (envS v a b), h) := by
  have hn := R.n6
  have t := R.hb hb
  have u := R.hb ha
  simp (disch := omega) only [f_X11_hasEnvy, rv_0_0, rv_0_1, rv_0_2, rv_0_3, rv_0_4, rv_0_6, rv_0_7, rv_0_9, rv_0_10, rv_0_11, rv_0_12, rv_0_13, rv_0_14, rv_1_0, an_2, rv_3_0, rv_3_1, an_4, an_5, rv_6_0, rv_6_1, an_7, an_8, rv_9_0, rv_9_1, an_10, an_11, rv_12_0, rv_12_1, an_13, an_14, rv_15_0, rv_15_1, an_16, an_17, rv_18_0, rv_18_1, an_19, an_20, rv_21_0, rv_21_1, an_22, an_23, rv_24_0, rv_24_1, rv_24_2, an_25, an_26, an_27, rv_28_0, rv_28_1, rv_28_2, an_29, an_30, an_31, rv_32_0, rv_32_1, an_33, an_34, rv_35_0, rv_35_1, rv_35_2, rv_35_3, rv_35_4, rv_35_5, rv_35_6, an_36, an_37, an_38, an_39, an_40, rv_41_0, rv_41_1, rv_41_3, rv_41_4, rv_41_5, an_42, an_43, an_44, an_45, rv_46_0, rv_46_1, rv_46_2, rv_46_3, rv_46_4, rv_46_6, an_47, an_48, rv_49_0, rv_49_1, an_50, rv_51_0, rv_51_1, rv_51_2, rv_51_3, rv_51_4, rv_51_6, rv_51_7, an_52, an_53, an_54, an_55, rv_56_1, rv_56_2, rv_56_3, rv_56_4, rv_56_15, rv_56_16, rv_56_17, rv_56_19, rv_56_22, rv_56_23, rv_56_24, rv_56_25, rv_56_26, rv_56_27, rv_56_28, rv_56_31, rv_56_33, rv_56_35, rv_56_36, rv_56_37, rv_56_39, rv_56_40, rv_56_41, rv_56_42, rv_56_43, rv_56_44, rv_56_46, rv_56_47, rv_56_48, rv_56_49, rv_56_51, rv_56_52, rv_56_54, an_57, an_58, an_59, an_60, an_61, an_62, an_63, an_64, an_65, an_66, an_67, an_68, an_69, an_70, an_71, an_72, an_73, an_74, an_75, an_76, an_77, an_78, an_79, an_80, an_81, an_82, an_83, an_84, an_85, an_86, an_87, og_ix, nI_clamp, nm_id, R.ch hb, f_X11_hasEnvy_35]
  rcases t with t | ⟨q, hq, t⟩
  · simp [t, envS]
    rfl
  · have b3 : v.it q 3 ≤ 50 := (R.ib hq (i := 3) (by omega)).2
    have wq := R.wb hq
    have hm : ¬ nI q = -1 := by rw [n_m1 (by omega)]; exact id
    simp (disch := omega) only [t, n_m1, if_false, show (3 : Int32) = nI 3 from rfl, e_X6_item R.cP hq, ob_some, e_X6_canWear R.cP ha, zb_0, og_ix, nI_clamp, R.ch ha, R.cw hq, f_X11_hasEnvy_77]
    cases f : fitS v a (v.it q 3) with
    | false =>
      simp (disch := omega) only [envS, t, n_m1, nI_clamp, f, Bool.false_and, Bool.and_false, if_true]
      rfl
    | true =>
      simp only [Bool.true_eq_false, if_false]
      rcases u with u | ⟨r, hr, u⟩
      · simp (disch := omega) only [u, if_true, show (0 : Int32) = nI 0 from rfl, n_le, envS, t, n_m1, nI_clamp, f, wOf, if_false, f_X11_hasEnvy_85]
        by_cases c : v.wo q ≤ 0
        · simp [c, show ¬ 0 < v.wo q by omega]
          rfl
        · simp [c, hm, show 0 < v.wo q by omega]
          rfl
      · have wr := R.wb hr
        simp (disch := omega) only [u, n_m1, if_false, og_ix, nI_clamp, R.cw hr, n_le, envS, t, f, wOf, f_X11_hasEnvy_85]
        by_cases c : v.wo q ≤ v.wo r
        · simp [c, show ¬ v.wo r < v.wo q by omega]
          rfl
        · simp [c, hm, show v.wo r < v.wo q by omega]
          rfl
theorem e_X12_doesEnvy {v : Wd} {h : AH} (R : RelV v h) {a b : Nat} (ha : a < v.n) (hb : b < v.n) : f_X12_doesEnvy 56 (nI a) (nI b) h = some (zb (envS v a b), h) := by
  have hn := R.n6
  have t := R.hb hb
  have u := R.hb ha
  simp (disch := omega) only [f_X12_doesEnvy, rv_0_0, rv_0_1, rv_0_2, rv_0_3, rv_0_4, rv_0_6, rv_0_7, rv_0_9, rv_0_10, rv_0_11, rv_0_12, rv_0_13, rv_0_14, rv_1_0, an_2, rv_3_0, rv_3_1, an_4, an_5, rv_6_0, rv_6_1, an_7, an_8, rv_9_0, rv_9_1, an_10, an_11, rv_12_0, rv_12_1, an_13, an_14, rv_15_0, rv_15_1, an_16, an_17, rv_18_0, rv_18_1, an_19, an_20, rv_21_0, rv_21_1, an_22, an_23, rv_24_0, rv_24_1, rv_24_2, an_25, an_26, an_27, rv_28_0, rv_28_1, rv_28_2, an_29, an_30, an_31, rv_32_0, rv_32_1, an_33, an_34, rv_35_0, rv_35_1, rv_35_2, rv_35_3, rv_35_4, rv_35_5, rv_35_6, an_36, an_37, an_38, an_39, an_40, rv_41_0, rv_41_1, rv_41_3, rv_41_4, rv_41_5, an_42, an_43, an_44, an_45, rv_46_0, rv_46_1, rv_46_2, rv_46_3, rv_46_4, rv_46_6, an_47, an_48, rv_49_0, rv_49_1, an_50, rv_51_0, rv_51_1, rv_51_2, rv_51_3, rv_51_4, rv_51_6, rv_51_7, an_52, an_53, an_54, an_55, rv_56_1, rv_56_2, rv_56_3, rv_56_4, rv_56_15, rv_56_16, rv_56_17, rv_56_19, rv_56_22, rv_56_23, rv_56_24, rv_56_25, rv_56_26, rv_56_27, rv_56_28, rv_56_31, rv_56_33, rv_56_35, rv_56_36, rv_56_37, rv_56_39, rv_56_40, rv_56_41, rv_56_42, rv_56_43, rv_56_44, rv_56_46, rv_56_47, rv_56_48, rv_56_49, rv_56_51, rv_56_52, rv_56_54, an_57, an_58, an_59, an_60, an_61, an_62, an_63, an_64, an_65, an_66, an_67, an_68, an_69, an_70, an_71, an_72, an_73, an_74, an_75, an_76, an_77, an_78, an_79, an_80, an_81, an_82, an_83, an_84, an_85, an_86, an_87, og_ix, nI_clamp, nm_id, R.mh hb, f_X12_doesEnvy_29, n_eq]
  by_cases e : a = b
  · subst e
    simp [envS]
    rfl
  rw [if_neg e]
  rcases t with t | ⟨q, hq, t⟩
  · simp [t, envS]
    rfl
  · have b3 : v.it q 3 ≤ 50 := (R.ib hq (i := 3) (by omega)).2
    have wq := R.wb hq
    have hm : ¬ nI q = -1 := by rw [n_m1 (by omega)]; exact id
    simp (disch := omega) only [t, n_m1, if_false, e_X12_doesFit R.mP ha (show q < 6 by omega) (R.ms hq), ob_some, zb_0, og_ix, nI_clamp, R.mh ha, R.mh hb, R.mw hq, f_X12_doesEnvy_67]
    cases f : fitS v a (v.it q 3) with
    | false =>
      simp (disch := omega) only [envS, t, n_m1, nI_clamp, f, Bool.false_and, Bool.and_false, if_true]
      rfl
    | true =>
      simp only [Bool.true_eq_false, if_false]
      rcases u with u | ⟨r, hr, u⟩
      · simp (disch := omega) only [u, if_true, show (0 : Int32) = nI 0 from rfl, n_le, envS, t, n_m1, nI_clamp, f, wOf, if_false, f_X12_doesEnvy_75]
        by_cases c : v.wo q ≤ 0
        · simp [c, show ¬ 0 < v.wo q by omega]
          rfl
        · simp [c, hm, show 0 < v.wo q by omega]
          rfl
      · have wr := R.wb hr
        simp (disch := omega) only [u, n_m1, if_false, og_ix, nI_clamp, R.mw hr, n_le, envS, t, f, wOf, f_X12_doesEnvy_75]
        by_cases c : v.wo q ≤ v.wo r
        · simp [c, show ¬ v.wo r < v.wo q by omega]
          rfl
        · simp [c, hm, show v.wo r < v.wo q by omega]
          rfl
/-- the search for the i-th, both sides alike: row of b from a on -/
def srB (n : Nat) (P : Nat → Nat → Bool) (i : Int32) (a : Nat) (f : Int32) : Nat → (Int32 ⊕ Int32)
  | 0 => .inl f
  | b + 1 => match srB n P i a f b with
    | .inr x => .inr x
    | .inl g => if P a b = false then .inl g else if g = i then .inr (10 * nI a + nI b) else .inl (g + 1)
def srA (n : Nat) (P : Nat → Nat → Bool) (i : Int32) : Nat → (Int32 ⊕ Int32)
  | 0 => .inl 0
  | a + 1 => match srA n P i a with
    | .inr x => .inr x
    | .inl g => srB n P i a g n
def srR (n : Nat) (P : Nat → Nat → Bool) (i : Int32) : Int32 := match srA n P i n with
  | .inr x => x
  | .inl g => if i = -1 then g else -1
theorem srB_r {n : Nat} {P : Nat → Nat → Bool} {i : Int32} {a : Nat} {f x : Int32} {b c : Nat} (h : b ≤ c) (e : srB n P i a f b = .inr x) : srB n P i a f c = .inr x := by
  induction c with
  | zero =>
    have : b = 0 := by omega
    rw [← this]
    exact e
  | succ c ih =>
    by_cases q : b = c + 1
    · rw [← q]
      exact e
    · rw [srB, ih (by omega)]
theorem srA_r {n : Nat} {P : Nat → Nat → Bool} {i : Int32} {x : Int32} {b c : Nat} (h : b ≤ c) (e : srA n P i b = .inr x) : srA n P i c = .inr x := by
  induction c with
  | zero =>
    have : b = 0 := by omega
    rw [← this]
    exact e
  | succ c ih =>
    by_cases q : b = c + 1
    · rw [← q]
      exact e
    · rw [srA, ih (by omega)]
theorem srR_of {n : Nat} {P : Nat → Nat → Bool} {i : Int32} {x f : Int32} {a b : Nat} (ha : a < n) (hb : b ≤ n) (e1 : srA n P i a = .inl f) (e2 : srB n P i a f b = .inr x) : srR n P i = x := by
  have : srA n P i (a + 1) = .inr x := by
    rw [srA, e1]
    exact srB_r hb e2
  unfold srR
  rw [srA_r (show a + 1 ≤ n by omega) this]
theorem e_X11_envy_35 {v : Wd} {h : AH} (R : RelV v h) {a : Nat} (ha : a < v.n) (q : Nat → Int32 → Int32 → Int32 → AH → Option (Int32 × AH)) (x f : Int32) : f_X11_envy_35 q FU 0 x f (nI a) 0 h = match srB v.n (envS v) x a f v.n with
    | .inr y => some (y, h)
    | .inl g => q 0 x g (nI (a + 1)) h := by
  have hn := R.n6
  refine lp (fun n i s => f_X11_envy_35 q n 0 x s (nI a) (nI i) h = match srB v.n (envS v) x a f v.n with
    | .inr y => some (y, h)
    | .inl g => q 0 x g (nI (a + 1)) h) (fun i s => srB v.n (envS v) x a f i = .inl s) v.n (by omega) ?_ ?_ rfl
  · rintro n s e
    rw [f_X11_envy_35]
    simp (disch := omega) only [k_mul, k_mul', k_add, k_le, k_le', k_lt, k_lt', k_eq, n_le, n_lt, n_eq, n_m1, nI_add, pk_mul, rv_0_0, rv_0_1, rv_0_2, rv_0_3, rv_0_4, rv_0_6, rv_0_7, rv_0_9, rv_0_10, rv_0_11, rv_0_12, rv_0_13, rv_0_14, rv_1_0, an_2, rv_3_0, rv_3_1, an_4, an_5, rv_6_0, rv_6_1, an_7, an_8, rv_9_0, rv_9_1, an_10, an_11, rv_12_0, rv_12_1, an_13, an_14, rv_15_0, rv_15_1, an_16, an_17, rv_18_0, rv_18_1, an_19, an_20, rv_21_0, rv_21_1, an_22, an_23, rv_24_0, rv_24_1, rv_24_2, an_25, an_26, an_27, rv_28_0, rv_28_1, rv_28_2, an_29, an_30, an_31, rv_32_0, rv_32_1, an_33, an_34, rv_35_0, rv_35_1, rv_35_2, rv_35_3, rv_35_4, rv_35_5, rv_35_6, an_36, an_37, an_38, an_39, an_40, rv_41_0, rv_41_1, rv_41_3, rv_41_4, rv_41_5, an_42, an_43, an_44, an_45, rv_46_0, rv_46_1, rv_46_2, rv_46_3, rv_46_4, rv_46_6, an_47, an_48, rv_49_0, rv_49_1, an_50, rv_51_0, rv_51_1, rv_51_2, rv_51_3, rv_51_4, rv_51_6, rv_51_7, an_52, an_53, an_54, an_55, rv_56_1, rv_56_2, rv_56_3, rv_56_4, rv_56_15, rv_56_16, rv_56_17, rv_56_19, rv_56_22, rv_56_23, rv_56_24, rv_56_25, rv_56_26, rv_56_27, rv_56_28, rv_56_31, rv_56_33, rv_56_35, rv_56_36, rv_56_37, rv_56_39, rv_56_40, rv_56_41, rv_56_42, rv_56_43, rv_56_44, rv_56_46, rv_56_47, rv_56_48, rv_56_49, rv_56_51, rv_56_52, rv_56_54, an_57, an_58, an_59, an_60, an_61, an_62, an_63, an_64, an_65, an_66, an_67, an_68, an_69, an_70, an_71, an_72, an_73, an_74, an_75, an_76, an_77, an_78, an_79, an_80, an_81, an_82, an_83, an_84, an_85, an_86, an_87, R.cn, Nat.le_refl, if_true, nm_id, e]
  · rintro n i s hi e K
    rw [f_X11_envy_35]
    simp (disch := omega) only [k_mul, k_mul', k_add, k_le, k_le', k_lt, k_lt', k_eq, n_le, n_lt, n_eq, n_m1, nI_add, pk_mul, rv_0_0, rv_0_1, rv_0_2, rv_0_3, rv_0_4, rv_0_6, rv_0_7, rv_0_9, rv_0_10, rv_0_11, rv_0_12, rv_0_13, rv_0_14, rv_1_0, an_2, rv_3_0, rv_3_1, an_4, an_5, rv_6_0, rv_6_1, an_7, an_8, rv_9_0, rv_9_1, an_10, an_11, rv_12_0, rv_12_1, an_13, an_14, rv_15_0, rv_15_1, an_16, an_17, rv_18_0, rv_18_1, an_19, an_20, rv_21_0, rv_21_1, an_22, an_23, rv_24_0, rv_24_1, rv_24_2, an_25, an_26, an_27, rv_28_0, rv_28_1, rv_28_2, an_29, an_30, an_31, rv_32_0, rv_32_1, an_33, an_34, rv_35_0, rv_35_1, rv_35_2, rv_35_3, rv_35_4, rv_35_5, rv_35_6, an_36, an_37, an_38, an_39, an_40, rv_41_0, rv_41_1, rv_41_3, rv_41_4, rv_41_5, an_42, an_43, an_44, an_45, rv_46_0, rv_46_1, rv_46_2, rv_46_3, rv_46_4, rv_46_6, an_47, an_48, rv_49_0, rv_49_1, an_50, rv_51_0, rv_51_1, rv_51_2, rv_51_3, rv_51_4, rv_51_6, rv_51_7, an_52, an_53, an_54, an_55, rv_56_1, rv_56_2, rv_56_3, rv_56_4, rv_56_15, rv_56_16, rv_56_17, rv_56_19, rv_56_22, rv_56_23, rv_56_24, rv_56_25, rv_56_26, rv_56_27, rv_56_28, rv_56_31, rv_56_33, rv_56_35, rv_56_36, rv_56_37, rv_56_39, rv_56_40, rv_56_41, rv_56_42, rv_56_43, rv_56_44, rv_56_46, rv_56_47, rv_56_48, rv_56_49, rv_56_51, rv_56_52, rv_56_54, an_57, an_58, an_59, an_60, an_61, an_62, an_63, an_64, an_65, an_66, an_67, an_68, an_69, an_70, an_71, an_72, an_73, an_74, an_75, an_76, an_77, an_78, an_79, an_80, an_81, an_82, an_83, an_84, an_85, an_86, an_87, R.cn, if_neg (show ¬ v.n ≤ i by omega), e_X11_hasEnvy R ha hi, ob_some, zb_0, nm_id, f_X11_envy_73]
    cases c : envS v a i with
    | false =>
      rw [if_pos rfl]
      exact K _ (by rw [srB, e]; simp [c])
    | true =>
      rw [if_neg (by decide)]
      by_cases d : s = x
      · rw [if_pos d]
        have : srB v.n (envS v) x a f (i + 1) = .inr (10 * nI a + nI i) := by
          rw [srB, e]
          simp [c, d]
        rw [srB_r (show i + 1 ≤ v.n by omega) this, k_mul', nI_add]
      · rw [if_neg d]
        exact K _ (by rw [srB, e]; simp [c, d])
theorem e_X12_envy_34 {v : Wd} {h : AH} (R : RelV v h) {a : Nat} (ha : a < v.n) (q : Nat → Int32 → Int32 → Int32 → AH → Option (Int32 × AH)) (x f : Int32) : f_X12_envy_34 q FU 56 x f (nI a) 0 h = match srB v.n (envS v) x a f v.n with
    | .inr y => some (y, h)
    | .inl g => q 56 x g (nI (a + 1)) h := by
  have hn := R.n6
  refine lp (fun n i s => f_X12_envy_34 q n 56 x s (nI a) (nI i) h = match srB v.n (envS v) x a f v.n with
    | .inr y => some (y, h)
    | .inl g => q 56 x g (nI (a + 1)) h) (fun i s => srB v.n (envS v) x a f i = .inl s) v.n (by omega) ?_ ?_ rfl
  · rintro n s e
    rw [f_X12_envy_34]
    simp (disch := omega) only [k_mul, k_mul', k_add, k_le, k_le', k_lt, k_lt', k_eq, n_le, n_lt, n_eq, n_m1, nI_add, pk_mul, R.mn, Nat.le_refl, if_true, nm_id, e]
  · rintro n i s hi e K
    rw [f_X12_envy_34]
    simp (disch := omega) only [k_mul, k_mul', k_add, k_le, k_le', k_lt, k_lt', k_eq, n_le, n_lt, n_eq, n_m1, nI_add, pk_mul, R.mn, if_neg (show ¬ v.n ≤ i by omega), e_X12_doesEnvy R ha hi, ob_some, zb_0, nm_id, f_X12_envy_72]
    cases c : envS v a i with
    | false =>
      rw [if_pos rfl]
      exact K _ (by rw [srB, e]; simp [c])
    | true =>
      rw [if_neg (by decide)]
      by_cases d : s = x
      · rw [if_pos d]
        have : srB v.n (envS v) x a f (i + 1) = .inr (10 * nI a + nI i) := by
          rw [srB, e]
          simp [c, d]
        rw [srB_r (show i + 1 ≤ v.n by omega) this, k_mul', nI_add]
      · rw [if_neg d]
        exact K _ (by rw [srB, e]; simp [c, d])
theorem e_X11_envy_21 {v : Wd} {h : AH} (R : RelV v h) (x : Int32) : f_X11_envy_21 FU 0 x 0 0 h = some (srR v.n (envS v) x, h) := by
  have hn := R.n6
  refine lp (fun n i s => f_X11_envy_21 n 0 x s (nI i) h = some (srR v.n (envS v) x, h)) (fun i s => srA v.n (envS v) x i = .inl s) v.n (by omega) ?_ ?_ rfl
  · rintro n s e
    rw [f_X11_envy_21]
    simp (disch := omega) only [k_mul, k_mul', k_add, k_le, k_le', k_lt, k_lt', k_eq, n_le, n_lt, n_eq, n_m1, nI_add, pk_mul, rv_0_0, rv_0_1, rv_0_2, rv_0_3, rv_0_4, rv_0_6, rv_0_7, rv_0_9, rv_0_10, rv_0_11, rv_0_12, rv_0_13, rv_0_14, rv_1_0, an_2, rv_3_0, rv_3_1, an_4, an_5, rv_6_0, rv_6_1, an_7, an_8, rv_9_0, rv_9_1, an_10, an_11, rv_12_0, rv_12_1, an_13, an_14, rv_15_0, rv_15_1, an_16, an_17, rv_18_0, rv_18_1, an_19, an_20, rv_21_0, rv_21_1, an_22, an_23, rv_24_0, rv_24_1, rv_24_2, an_25, an_26, an_27, rv_28_0, rv_28_1, rv_28_2, an_29, an_30, an_31, rv_32_0, rv_32_1, an_33, an_34, rv_35_0, rv_35_1, rv_35_2, rv_35_3, rv_35_4, rv_35_5, rv_35_6, an_36, an_37, an_38, an_39, an_40, rv_41_0, rv_41_1, rv_41_3, rv_41_4, rv_41_5, an_42, an_43, an_44, an_45, rv_46_0, rv_46_1, rv_46_2, rv_46_3, rv_46_4, rv_46_6, an_47, an_48, rv_49_0, rv_49_1, an_50, rv_51_0, rv_51_1, rv_51_2, rv_51_3, rv_51_4, rv_51_6, rv_51_7, an_52, an_53, an_54, an_55, rv_56_1, rv_56_2, rv_56_3, rv_56_4, rv_56_15, rv_56_16, rv_56_17, rv_56_19, rv_56_22, rv_56_23, rv_56_24, rv_56_25, rv_56_26, rv_56_27, rv_56_28, rv_56_31, rv_56_33, rv_56_35, rv_56_36, rv_56_37, rv_56_39, rv_56_40, rv_56_41, rv_56_42, rv_56_43, rv_56_44, rv_56_46, rv_56_47, rv_56_48, rv_56_49, rv_56_51, rv_56_52, rv_56_54, an_57, an_58, an_59, an_60, an_61, an_62, an_63, an_64, an_65, an_66, an_67, an_68, an_69, an_70, an_71, an_72, an_73, an_74, an_75, an_76, an_77, an_78, an_79, an_80, an_81, an_82, an_83, an_84, an_85, an_86, an_87, R.cn, Nat.le_refl, if_true, srR, e, f_X11_envy_95]
    split <;> rfl
  · rintro n i s hi e K
    rw [f_X11_envy_21]
    simp (disch := omega) only [k_mul, k_mul', k_add, k_le, k_le', k_lt, k_lt', k_eq, n_le, n_lt, n_eq, n_m1, nI_add, pk_mul, rv_0_0, rv_0_1, rv_0_2, rv_0_3, rv_0_4, rv_0_6, rv_0_7, rv_0_9, rv_0_10, rv_0_11, rv_0_12, rv_0_13, rv_0_14, rv_1_0, an_2, rv_3_0, rv_3_1, an_4, an_5, rv_6_0, rv_6_1, an_7, an_8, rv_9_0, rv_9_1, an_10, an_11, rv_12_0, rv_12_1, an_13, an_14, rv_15_0, rv_15_1, an_16, an_17, rv_18_0, rv_18_1, an_19, an_20, rv_21_0, rv_21_1, an_22, an_23, rv_24_0, rv_24_1, rv_24_2, an_25, an_26, an_27, rv_28_0, rv_28_1, rv_28_2, an_29, an_30, an_31, rv_32_0, rv_32_1, an_33, an_34, rv_35_0, rv_35_1, rv_35_2, rv_35_3, rv_35_4, rv_35_5, rv_35_6, an_36, an_37, an_38, an_39, an_40, rv_41_0, rv_41_1, rv_41_3, rv_41_4, rv_41_5, an_42, an_43, an_44, an_45, rv_46_0, rv_46_1, rv_46_2, rv_46_3, rv_46_4, rv_46_6, an_47, an_48, rv_49_0, rv_49_1, an_50, rv_51_0, rv_51_1, rv_51_2, rv_51_3, rv_51_4, rv_51_6, rv_51_7, an_52, an_53, an_54, an_55, rv_56_1, rv_56_2, rv_56_3, rv_56_4, rv_56_15, rv_56_16, rv_56_17, rv_56_19, rv_56_22, rv_56_23, rv_56_24, rv_56_25, rv_56_26, rv_56_27, rv_56_28, rv_56_31, rv_56_33, rv_56_35, rv_56_36, rv_56_37, rv_56_39, rv_56_40, rv_56_41, rv_56_42, rv_56_43, rv_56_44, rv_56_46, rv_56_47, rv_56_48, rv_56_49, rv_56_51, rv_56_52, rv_56_54, an_57, an_58, an_59, an_60, an_61, an_62, an_63, an_64, an_65, an_66, an_67, an_68, an_69, an_70, an_71, an_72, an_73, an_74, an_75, an_76, an_77, an_78, an_79, an_80, an_81, an_82, an_83, an_84, an_85, an_86, an_87, R.cn, if_neg (show ¬ v.n ≤ i by omega), e_X11_envy_35 R hi]
    cases c : srB v.n (envS v) x i s v.n with
    | inl g => exact K g (by rw [srA, e]; exact c)
    | inr y => rw [srR_of hi (Nat.le_refl _) e c]
theorem e_X12_envy_23 {v : Wd} {h : AH} (R : RelV v h) (x : Int32) : f_X12_envy_23 FU 56 x 0 0 h = some (srR v.n (envS v) x, h) := by
  have hn := R.n6
  refine lp (fun n i s => f_X12_envy_23 n 56 x s (nI i) h = some (srR v.n (envS v) x, h)) (fun i s => srA v.n (envS v) x i = .inl s) v.n (by omega) ?_ ?_ rfl
  · rintro n s e
    rw [f_X12_envy_23]
    simp (disch := omega) only [k_mul, k_mul', k_add, k_le, k_le', k_lt, k_lt', k_eq, n_le, n_lt, n_eq, n_m1, nI_add, pk_mul, R.mn, Nat.le_refl, if_true, srR, e, f_X12_envy_94]
    split <;> rfl
  · rintro n i s hi e K
    rw [f_X12_envy_23]
    simp (disch := omega) only [k_mul, k_mul', k_add, k_le, k_le', k_lt, k_lt', k_eq, n_le, n_lt, n_eq, n_m1, nI_add, pk_mul, R.mn, if_neg (show ¬ v.n ≤ i by omega), e_X12_envy_34 R hi]
    cases c : srB v.n (envS v) x i s v.n with
    | inl g => exact K g (by rw [srA, e]; exact c)
    | inr y => rw [srR_of hi (Nat.le_refl _) e c]
theorem g29 : G29 Rel := by
  intro h ⟨v, R⟩ a
  have hn := R.n6
  have R1 := R.thr (x := 0)
  have hz : (nI v.n = 0) = (v.n = 0) := n_eq (b := 0) (by omega) (by omega)
  have e1 : f_X11_envy 0 a h = some (if v.n = 0 then -1 else if -1 ≤ a then srR v.n (envS v) a else -1, h) := by
    simp only [f_X11_envy, rv_0_0, rv_0_1, rv_0_2, rv_0_3, rv_0_4, rv_0_6, rv_0_7, rv_0_9, rv_0_10, rv_0_11, rv_0_12, rv_0_13, rv_0_14, rv_1_0, an_2, rv_3_0, rv_3_1, an_4, an_5, rv_6_0, rv_6_1, an_7, an_8, rv_9_0, rv_9_1, an_10, an_11, rv_12_0, rv_12_1, an_13, an_14, rv_15_0, rv_15_1, an_16, an_17, rv_18_0, rv_18_1, an_19, an_20, rv_21_0, rv_21_1, an_22, an_23, rv_24_0, rv_24_1, rv_24_2, an_25, an_26, an_27, rv_28_0, rv_28_1, rv_28_2, an_29, an_30, an_31, rv_32_0, rv_32_1, an_33, an_34, rv_35_0, rv_35_1, rv_35_2, rv_35_3, rv_35_4, rv_35_5, rv_35_6, an_36, an_37, an_38, an_39, an_40, rv_41_0, rv_41_1, rv_41_3, rv_41_4, rv_41_5, an_42, an_43, an_44, an_45, rv_46_0, rv_46_1, rv_46_2, rv_46_3, rv_46_4, rv_46_6, an_47, an_48, rv_49_0, rv_49_1, an_50, rv_51_0, rv_51_1, rv_51_2, rv_51_3, rv_51_4, rv_51_6, rv_51_7, an_52, an_53, an_54, an_55, rv_56_1, rv_56_2, rv_56_3, rv_56_4, rv_56_15, rv_56_16, rv_56_17, rv_56_19, rv_56_22, rv_56_23, rv_56_24, rv_56_25, rv_56_26, rv_56_27, rv_56_28, rv_56_31, rv_56_33, rv_56_35, rv_56_36, rv_56_37, rv_56_39, rv_56_40, rv_56_41, rv_56_42, rv_56_43, rv_56_44, rv_56_46, rv_56_47, rv_56_48, rv_56_49, rv_56_51, rv_56_52, rv_56_54, an_57, an_58, an_59, an_60, an_61, an_62, an_63, an_64, an_65, an_66, an_67, an_68, an_69, an_70, an_71, an_72, an_73, an_74, an_75, an_76, an_77, an_78, an_79, an_80, an_81, an_82, an_83, an_84, an_85, an_86, an_87, R.cn, hz, e_X11_envy_21 R, f_X11_envy_15]
    grind
  have e2 : f_X12_envy 56 a h = some (if v.n = 0 then -1 else if -1 ≤ a then srR v.n (envS v) a else -1, sI h 56 0 0) := by
    simp only [f_X12_envy, nm_id, R1.mn, hz, e_X12_envy_23 R1, f_X12_envy_17]
    grind
  exact ⟨_, _, _, e1, e2, v, R1⟩
