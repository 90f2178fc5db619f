/-! texts: both sides read signs -/
def skf (t : Nat → Nat) (L : Nat) : Nat → Nat → Nat
  | 0, p => p
  | k + 1, p => if p < L ∧ t p = 32 then skf t L k (p + 1) else p
def skp (t : Nat → Nat) (L p : Nat) : Nat := skf t L (L - p) p
def chr (t : Nat → Nat) (L p : Nat) : Int32 := if p < L then nI (t p) else -1
theorem skp_step {t : Nat → Nat} {L p : Nat} (h : p < L ∧ t p = 32) : skp t L p = skp t L (p + 1) := by
  unfold skp
  rw [show L - p = (L - (p + 1)) + 1 by omega, skf, if_pos h]
theorem skp_stop {t : Nat → Nat} {L p : Nat} (h : ¬ (p < L ∧ t p = 32)) : skp t L p = p := by
  unfold skp
  cases e : L - p with
  | zero => rfl
  | succ k => rw [skf, if_neg h]
theorem skf_b {t : Nat → Nat} {L : Nat} (k : Nat) : ∀ p, p ≤ L → L - p ≤ k → p ≤ skf t L k p ∧ skf t L k p ≤ L ∧ ¬ (skf t L k p < L ∧ t (skf t L k p) = 32) := by
  induction k with
  | zero =>
    intro p h1 h2
    have : p = L := by omega
    subst this
    exact ⟨Nat.le_refl _, Nat.le_refl _, fun h => absurd h.1 (by show ¬ p < p; omega)⟩
  | succ k ih =>
    intro p h1 h2
    rw [skf]
    by_cases c : p < L ∧ t p = 32
    · rw [if_pos c]
      have := ih (p + 1) (by omega) (by omega)
      exact ⟨by omega, this.2.1, this.2.2⟩
    · rw [if_neg c]
      exact ⟨Nat.le_refl _, h1, c⟩
theorem skp_ge {t : Nat → Nat} {L p : Nat} (h : p ≤ L) : p ≤ skp t L p := (skf_b (L - p) p h (Nat.le_refl _)).1
theorem skp_le {t : Nat → Nat} {L p : Nat} (h : p ≤ L) : skp t L p ≤ L := (skf_b (L - p) p h (Nat.le_refl _)).2.1
theorem skp_nb {t : Nat → Nat} {L p : Nat} (h : p ≤ L) : ¬ (skp t L p < L ∧ t (skp t L p) = 32) := (skf_b (L - p) p h (Nat.le_refl _)).2.2
theorem skp_idem {t : Nat → Nat} {L p : Nat} (h : p ≤ L) : skp t L (skp t L p) = skp t L p := skp_stop (skp_nb h)
/-- the class's text and place -/
def cX (t : Nat → Nat) (L p : Nat) (h : AH) : Prop := L ≤ 160 ∧ (∀ j, j < L → 0 < t j ∧ t j < 256) ∧ h.1 1 1 = nI L ∧ (∀ j, j < L → h.1 2 j = nI (t j)) ∧ h.1 1 2 = nI p ∧ p ≤ L
/-- the model's text and place -/
def mX (t : Nat → Nat) (L T b p : Nat) (h : AH) : Prop := L ≤ 160 ∧ (∀ j, j < L → 0 < t j ∧ t j < 256) ∧ ((kd T).1 = 3 ∧ T ≠ 56 ∧ T ≠ 60 ∧ T ≠ 61) ∧ b + L ≤ an T ∧ an T ≤ 640 ∧ h.2.2 56 = T ∧ h.1 56 8 = nI b ∧ h.1 56 9 = nI L ∧ (∀ j, j < L → h.1 T (b + j) = bys (t j)) ∧ h.1 56 10 = nI p ∧ p ≤ L
theorem cX_at {t : Nat → Nat} {L p q : Nat} {h : AH} (c : cX t L p h) (hq : q ≤ L) : cX t L q (sI h 1 2 (nI q)) := ⟨c.1, c.2.1, c.2.2.1, c.2.2.2.1, rfl, hq⟩
theorem mX_at {t : Nat → Nat} {L T b p q : Nat} {h : AH} (c : mX t L T b p h) (hq : q ≤ L) : mX t L T b q (sI h 56 10 (nI q)) := by
  obtain ⟨c1, c2, c3, c4, c5, c6, c7, c8, c9, c10⟩ := c
  refine ⟨c1, c2, c3, c4, c5, c6, c7, c8, fun j hj => ?_, rfl, hq⟩
  rw [sI_n (Or.inl c3.2.1)]
  exact c9 j hj
theorem sI_self {h : AH} {k j : Nat} {v : Int32} (e : h.1 k j = v) : sI h k j v = h := by
  unfold sI
  refine Prod.ext ?_ rfl
  funext a b
  simp only
  split
  · split
    · rename_i e1 e2
      rw [e1, e2, e]
    · rfl
  · rfl
theorem sI_sI {h : AH} {k j : Nat} {v w : Int32} : sI (sI h k j v) k j w = sI h k j w := by
  unfold sI
  refine Prod.ext ?_ rfl
  funext a b
  simp only
  split
  · split <;> rfl
  · rfl
theorem e_next {t : Nat → Nat} {L p : Nat} {h : AH} (c : cX t L p h) : f_X10_next 1 h = some (chr t L (skp t L p), sI h 1 2 (nI (skp t L p))) := by
  have st : ∀ n p h, cX t L p h → L - p < n → f_X10_next_0 n 1 h = some (chr t L (skp t L p), sI h 1 2 (nI (skp t L p))) := by
    intro n
    induction n with
    | zero => intro p h _ q; omega
    | succ n ih =>
      intro p h c q
      obtain ⟨c1, c2, c3, c4, c5, c6⟩ := id c
      have ee : ¬ (p < L ∧ t p = 32) → f_X10_next_38 1 h = some (chr t L (skp t L p), sI h 1 2 (nI (skp t L p))) := by
        intro hn
        rw [skp_stop hn, sI_self c5]
        unfold f_X10_next_38 chr
        by_cases z : p < L
        · have := c2 p z
          simp (disch := omega) only [c3, c5, n_le, if_neg (show ¬ L ≤ p by omega), rv_0_0, rv_0_1, rv_0_2, rv_0_3, rv_0_4, rv_0_6, rv_0_7, rv_0_9, rv_0_10, rv_0_11, rv_0_12, rv_0_13, rv_0_14, rv_1_0, an_2, rv_3_0, rv_3_1, an_4, an_5, rv_6_0, rv_6_1, an_7, an_8, rv_9_0, rv_9_1, an_10, an_11, rv_12_0, rv_12_1, an_13, an_14, rv_15_0, rv_15_1, an_16, an_17, rv_18_0, rv_18_1, an_19, an_20, rv_21_0, rv_21_1, an_22, an_23, rv_24_0, rv_24_1, rv_24_2, an_25, an_26, an_27, rv_28_0, rv_28_1, rv_28_2, an_29, an_30, an_31, rv_32_0, rv_32_1, an_33, an_34, rv_35_0, rv_35_1, rv_35_2, rv_35_3, rv_35_4, rv_35_5, rv_35_6, an_36, an_37, an_38, an_39, an_40, rv_41_0, rv_41_1, rv_41_3, rv_41_4, rv_41_5, an_42, an_43, an_44, an_45, rv_46_0, rv_46_1, rv_46_2, rv_46_3, rv_46_4, rv_46_6, an_47, an_48, rv_49_0, rv_49_1, an_50, rv_51_0, rv_51_1, rv_51_2, rv_51_3, rv_51_4, rv_51_6, rv_51_7, an_52, an_53, an_54, an_55, rv_56_1, rv_56_2, rv_56_3, rv_56_4, rv_56_15, rv_56_16, rv_56_17, rv_56_19, rv_56_22, rv_56_23, rv_56_24, rv_56_25, rv_56_26, rv_56_27, rv_56_28, rv_56_31, rv_56_33, rv_56_35, rv_56_36, rv_56_37, rv_56_39, rv_56_40, rv_56_41, rv_56_42, rv_56_43, rv_56_44, rv_56_46, rv_56_47, rv_56_48, rv_56_49, rv_56_51, rv_56_52, rv_56_54, an_57, an_58, an_59, an_60, an_61, an_62, an_63, an_64, an_65, an_66, an_67, an_68, an_69, an_70, an_71, an_72, an_73, an_74, an_75, an_76, an_77, an_78, an_79, an_80, an_81, an_82, an_83, an_84, an_85, an_86, an_87, og_ix, nI_clamp, c4 p z, f_X10_next_62, if_pos z]
        · simp (disch := omega) only [c3, c5, n_le, if_pos (show L ≤ p by omega), f_X10_next_62, if_neg z]
      rw [f_X10_next_0]
      by_cases z : p < L
      · have tb := c2 p z
        simp (disch := omega) only [c3, c5, n_le, if_neg (show ¬ L ≤ p by omega), rv_0_0, rv_0_1, rv_0_2, rv_0_3, rv_0_4, rv_0_6, rv_0_7, rv_0_9, rv_0_10, rv_0_11, rv_0_12, rv_0_13, rv_0_14, rv_1_0, an_2, rv_3_0, rv_3_1, an_4, an_5, rv_6_0, rv_6_1, an_7, an_8, rv_9_0, rv_9_1, an_10, an_11, rv_12_0, rv_12_1, an_13, an_14, rv_15_0, rv_15_1, an_16, an_17, rv_18_0, rv_18_1, an_19, an_20, rv_21_0, rv_21_1, an_22, an_23, rv_24_0, rv_24_1, rv_24_2, an_25, an_26, an_27, rv_28_0, rv_28_1, rv_28_2, an_29, an_30, an_31, rv_32_0, rv_32_1, an_33, an_34, rv_35_0, rv_35_1, rv_35_2, rv_35_3, rv_35_4, rv_35_5, rv_35_6, an_36, an_37, an_38, an_39, an_40, rv_41_0, rv_41_1, rv_41_3, rv_41_4, rv_41_5, an_42, an_43, an_44, an_45, rv_46_0, rv_46_1, rv_46_2, rv_46_3, rv_46_4, rv_46_6, an_47, an_48, rv_49_0, rv_49_1, an_50, rv_51_0, rv_51_1, rv_51_2, rv_51_3, rv_51_4, rv_51_6, rv_51_7, an_52, an_53, an_54, an_55, rv_56_1, rv_56_2, rv_56_3, rv_56_4, rv_56_15, rv_56_16, rv_56_17, rv_56_19, rv_56_22, rv_56_23, rv_56_24, rv_56_25, rv_56_26, rv_56_27, rv_56_28, rv_56_31, rv_56_33, rv_56_35, rv_56_36, rv_56_37, rv_56_39, rv_56_40, rv_56_41, rv_56_42, rv_56_43, rv_56_44, rv_56_46, rv_56_47, rv_56_48, rv_56_49, rv_56_51, rv_56_52, rv_56_54, an_57, an_58, an_59, an_60, an_61, an_62, an_63, an_64, an_65, an_66, an_67, an_68, an_69, an_70, an_71, an_72, an_73, an_74, an_75, an_76, an_77, an_78, an_79, an_80, an_81, an_82, an_83, an_84, an_85, an_86, an_87, og_ix, nI_clamp, c4 p z, k_eq, nm_id, nI_1]
        by_cases w : t p = 32
        · rw [if_pos w, ih (p + 1) _ (cX_at c (by omega)) (by omega), skp_step ⟨z, w⟩, sI_sI]
        · rw [if_neg w, ee (fun q => w q.2)]
      · simp (disch := omega) only [c3, c5, n_le, if_pos (show L ≤ p by omega)]
        exact ee (fun q => z q.1)
  exact st FU p h c (by have := c.1; unfold FU; omega)
theorem og_true {R : Type} {k : Option R} : og true k = k := rfl
theorem bys_128 {c : Nat} (h : c < 256) : (bys c = 32 ↔ c = 32) ∧ (bys c &&& 255 = nI c) ∧ ((¬ bys c < 48 ∧ ¬ 57 < bys c) ↔ (48 ≤ c ∧ c ≤ 57)) ∧ (48 ≤ c → c ≤ 57 → bys c = nI c) := by
  have : ∀ c, c < 256 → (bys c = 32 ↔ c = 32) ∧ (bys c &&& 255 = nI c) ∧ ((¬ bys c < 48 ∧ ¬ 57 < bys c) ↔ (48 ≤ c ∧ c ≤ 57)) ∧ (48 ≤ c → c ≤ 57 → bys c = nI c) := by decide +kernel
  exact this c h
theorem e_look {t : Nat → Nat} {L T b p : Nat} {h : AH} (c : mX t L T b p h) : f_X12_look 56 h = some (chr t L (skp t L p), sI h 56 10 (nI (skp t L p))) := by
  have st : ∀ n p h, mX t L T b p h → L - p < n → f_X12_look_0 n 56 h = some (chr t L (skp t L p), sI h 56 10 (nI (skp t L p))) := by
    intro n
    induction n with
    | zero => intro p h _ q; omega
    | succ n ih =>
      intro p h c q
      obtain ⟨c1, c2, c3, c4, c5, c6, c7, c8, c9, c10, c11⟩ := id c
      have k3 : decide ((kd T).1 = 3) = true := decide_eq_true c3.1
      have ee : ¬ (p < L ∧ t p = 32) → f_X12_look_43 56 h = some (chr t L (skp t L p), sI h 56 10 (nI (skp t L p))) := by
        intro hn
        rw [skp_stop hn, sI_self c10]
        unfold f_X12_look_43 chr
        by_cases z : p < L
        · have := c2 p z
          simp (disch := omega) only [c8, c10, n_le, if_neg (show ¬ L ≤ p by omega), c6, k3, og_true, c7, nI_add, og_ix, nI_clamp, c9 p z, (bys_128 this.2).2.1, f_X12_look_76, if_pos z]
        · simp (disch := omega) only [c8, c10, n_le, if_pos (show L ≤ p by omega), f_X12_look_76, if_neg z]
      rw [f_X12_look_0]
      by_cases z : p < L
      · have tb := c2 p z
        simp (disch := omega) only [c8, c10, n_le, if_neg (show ¬ L ≤ p by omega), c6, k3, og_true, c7, nI_add, og_ix, nI_clamp, c9 p z, (bys_128 tb.2).1, nm_id, nI_1]
        by_cases w : t p = 32
        · rw [if_pos w, ih (p + 1) _ (mX_at c (by omega)) (by omega), skp_step ⟨z, w⟩, sI_sI]
        · rw [if_neg w, ee (fun q => w q.2)]
      · simp (disch := omega) only [c8, c10, n_le, if_pos (show L ≤ p by omega)]
        exact ee (fun q => z q.1)
  exact st FU p h c (by have := c.1; unfold FU; omega)
def dgB (t : Nat → Nat) (L p : Nat) : Bool := decide (p < L ∧ 48 ≤ t p ∧ t p ≤ 57)
theorem e_isDigitM {t : Nat → Nat} {L T b p : Nat} {h : AH} (c : mX t L T b p h) : f_X12_isDigit 56 h = some (zb (dgB t L p), h) := by
  obtain ⟨c1, c2, c3, c4, c5, c6, c7, c8, c9, c10, c11⟩ := id c
  have k3 : decide ((kd T).1 = 3) = true := decide_eq_true c3.1
  unfold f_X12_isDigit dgB
  by_cases z : p < L
  · have tb := c2 p z
    have d := (bys_128 tb.2).2.2.1
    simp (disch := omega) only [c8, c10, n_le, if_neg (show ¬ L ≤ p by omega), c6, k3, og_true, c7, nI_add, og_ix, nI_clamp, c9 p z, f_X12_isDigit_53, f_X12_isDigit_54]
    by_cases q1 : bys (t p) < 48
    · have : ¬ (48 ≤ t p ∧ t p ≤ 57) := fun q => (d.mpr q).1 q1
      simp [q1, this]
      rfl
    · by_cases q2 : 57 < bys (t p)
      · have : ¬ (48 ≤ t p ∧ t p ≤ 57) := fun q => (d.mpr q).2 q2
        simp [q1, q2, this]
        rfl
      · have := d.mp ⟨q1, q2⟩
        simp [q1, q2, this, z]
        rfl
  · simp (disch := omega) only [c8, c10, n_le, if_pos (show L ≤ p by omega), f_X12_isDigit_53, f_X12_isDigit_54]
    simp [z]
    rfl
theorem e_isDigitC {t : Nat → Nat} {L p : Nat} (tb : ∀ j, j < L → 0 < t j ∧ t j < 256) (h : AH) : f_X11_isDigit (chr t L p) h = some (zb (dgB t L p), h) := by
  unfold f_X11_isDigit dgB chr
  by_cases z : p < L
  · have := tb p z
    simp (disch := omega) only [if_pos z, k_lt, k_lt', f_X11_isDigit_16, f_X11_isDigit_17]
    by_cases q1 : t p < 48
    · simp [q1, show ¬ 48 ≤ t p by omega]
      rfl
    · by_cases q2 : 57 < t p
      · simp [q1, q2, show ¬ t p ≤ 57 by omega]
        rfl
      · simp [q1, q2, z, show 48 ≤ t p by omega, show t p ≤ 57 by omega]
        rfl
  · simp only [if_neg z, show ((-1 : Int32) < 48) = True by decide, if_true, f_X11_isDigit_16, f_X11_isDigit_17]
    simp [z]
    rfl
