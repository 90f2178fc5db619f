/-! tokens -/
def cC (c : List Int32) (h : AH) : Prop := h.1 9 2 = nI c.length ∧ ∀ j, j < c.length → h.1 10 j = c.getD j 0
def cS (t : Nat → Nat) (L p : Nat) (c : List Int32) (h : AH) : Prop := cX t L p h ∧ cC c h
def lch (i : Nat) : Nat := if i = 0 then 119 else if i = 1 then 102 else if i = 2 then 115 else if i = 3 then 111 else if i = 4 then 110 else 112
def mS (t : Nat → Nat) (L T b p d : Nat) (lt : Nat → Int32) (h : AH) : Prop := mX t L T b p h ∧ h.1 56 11 = -1 ∧ h.1 56 12 = nI d ∧ ∀ i, i < 6 → h.1 60 (lch i) = lt i
def mF (p : Nat) (h : AH) : Prop := h.1 56 11 = nI p ∧ p ≤ 160
theorem c_next {t : Nat → Nat} {L p : Nat} {c : List Int32} {h : AH} (s : cS t L p c h) : ∃ h', f_X10_next 1 h = some (chr t L (skp t L p), h') ∧ cS t L (skp t L p) c h' := ⟨_, e_next s.1, cX_at s.1 (skp_le s.1.2.2.2.2.2), s.2⟩
theorem c_adv {t : Nat → Nat} {L p : Nat} {c : List Int32} {h : AH} (s : cS t L p c h) (hp : p < L) : cS t L (p + 1) c (sI h 1 2 (h.1 1 2 + 1)) := by
  rw [s.1.2.2.2.2.1, nI_1]
  exact ⟨cX_at s.1 (by omega), s.2⟩
theorem getD_app1 {c : List Int32} {x : Int32} {j : Nat} (h : j < c.length) : (c ++ [x]).getD j 0 = c.getD j 0 := by
  simp [List.getD_eq_getElem?_getD, List.getElem?_append_left h]
theorem getD_app2 {c : List Int32} {x : Int32} : (c ++ [x]).getD c.length 0 = x := by
  simp [List.getD_eq_getElem?_getD]
theorem c_write {t : Nat → Nat} {L p : Nat} {c : List Int32} {h : AH} (x : Int32) (s : cS t L p c h) (hc : c.length < 161) : ∃ h', f_X8_write 9 x h = some h' ∧ cS t L p (c ++ [x]) h' := by
  refine ⟨sI (sI h 10 c.length x) 9 2 (nI (c.length + 1)), ?_, ⟨s.1.1, s.1.2.1, s.1.2.2.1, s.1.2.2.2.1, s.1.2.2.2.2⟩, ?_⟩
  · have e : (sI h 10 c.length x).1 9 2 = nI c.length := s.2.1
    simp (disch := omega) only [f_X8_write, s.2.1, k_le', if_neg (show ¬ 161 ≤ c.length by omega), rv_0_0, rv_0_1, rv_0_2, rv_0_3, rv_0_4, rv_0_6, rv_0_7, rv_0_9, rv_0_10, rv_0_11, rv_0_12, rv_0_13, rv_0_14, rv_1_0, an_2, rv_3_0, rv_3_1, an_4, an_5, rv_6_0, rv_6_1, an_7, an_8, rv_9_0, rv_9_1, an_10, an_11, rv_12_0, rv_12_1, an_13, an_14, rv_15_0, rv_15_1, an_16, an_17, rv_18_0, rv_18_1, an_19, an_20, rv_21_0, rv_21_1, an_22, an_23, rv_24_0, rv_24_1, rv_24_2, an_25, an_26, an_27, rv_28_0, rv_28_1, rv_28_2, an_29, an_30, an_31, rv_32_0, rv_32_1, an_33, an_34, rv_35_0, rv_35_1, rv_35_2, rv_35_3, rv_35_4, rv_35_5, rv_35_6, an_36, an_37, an_38, an_39, an_40, rv_41_0, rv_41_1, rv_41_3, rv_41_4, rv_41_5, an_42, an_43, an_44, an_45, rv_46_0, rv_46_1, rv_46_2, rv_46_3, rv_46_4, rv_46_6, an_47, an_48, rv_49_0, rv_49_1, an_50, rv_51_0, rv_51_1, rv_51_2, rv_51_3, rv_51_4, rv_51_6, rv_51_7, an_52, an_53, an_54, an_55, rv_56_1, rv_56_2, rv_56_3, rv_56_4, rv_56_15, rv_56_16, rv_56_17, rv_56_19, rv_56_22, rv_56_23, rv_56_24, rv_56_25, rv_56_26, rv_56_27, rv_56_28, rv_56_31, rv_56_33, rv_56_35, rv_56_36, rv_56_37, rv_56_39, rv_56_40, rv_56_41, rv_56_42, rv_56_43, rv_56_44, rv_56_46, rv_56_47, rv_56_48, rv_56_49, rv_56_51, rv_56_52, rv_56_54, an_57, an_58, an_59, an_60, an_61, an_62, an_63, an_64, an_65, an_66, an_67, an_68, an_69, an_70, an_71, an_72, an_73, an_74, an_75, an_76, an_77, an_78, an_79, an_80, an_81, an_82, an_83, an_84, an_85, an_86, an_87, og_ix, nI_clamp, nm_id, e, nI_1, f_X8_write_30]
  · refine ⟨by rw [sI_s]; simp, fun j hj => ?_⟩
    rw [sI_n (Or.inl (by decide))]
    by_cases q : j = c.length
    · subst q
      rw [sI_s, getD_app2]
    · have : j < c.length := by simp at hj; omega
      rw [sI_n (Or.inr q), getD_app1 this]
      exact s.2.2 j this
theorem chr_n {t : Nat → Nat} {L p x : Nat} (h : chr t L p = nI x) (hx : x < 2 ^ 31) : p < L ∧ (t p < 2 ^ 31 → t p = x) := by
  unfold chr at h
  by_cases c : p < L
  · rw [if_pos c] at h
    exact ⟨c, fun q => (nI_eq q hx).mp h⟩
  · rw [if_neg c] at h
    exact absurd h.symm (by rw [n_m1 hx]; exact id)
theorem c_pass {t : Nat → Nat} {L p : Nat} {c : List Int32} {h : AH} (x : Nat) (hx : x < 2 ^ 31) (s : cS t L p c h) : (chr t L (skp t L p) = nI x → ∃ h', f_X10_pass 1 (nI x) h = some (1, h') ∧ cS t L (skp t L p + 1) c h' ∧ skp t L p < L) ∧ (chr t L (skp t L p) ≠ nI x → ∃ h', f_X10_pass 1 (nI x) h = some (0, h') ∧ cS t L (skp t L p) c h') := by
  obtain ⟨h', e, s'⟩ := c_next s
  unfold f_X10_pass
  rw [e, ob_some]
  refine ⟨fun q => ?_, fun q => ?_⟩
  · have l := (chr_n q hx).1
    refine ⟨_, by rw [if_pos q, nm_id], c_adv s' l, l⟩
  · exact ⟨_, by rw [if_neg q], s'⟩
theorem m_look {t : Nat → Nat} {L T b p d : Nat} {lt : Nat → Int32} {h : AH} (s : mS t L T b p d lt h) : ∃ h', f_X12_look 56 h = some (chr t L (skp t L p), h') ∧ mS t L T b (skp t L p) d lt h' := ⟨_, e_look s.1, mX_at s.1 (skp_le s.1.2.2.2.2.2.2.2.2.2.2), s.2⟩
theorem mS_p {t : Nat → Nat} {L T b p d : Nat} {lt : Nat → Int32} {h : AH} (s : mS t L T b p d lt h) : p ≤ L ∧ L ≤ 160 := ⟨s.1.2.2.2.2.2.2.2.2.2.2, s.1.1⟩
theorem cS_p {t : Nat → Nat} {L p : Nat} {c : List Int32} {h : AH} (s : cS t L p c h) : p ≤ L ∧ L ≤ 160 := ⟨s.1.2.2.2.2.2, s.1.1⟩
theorem m_adv {t : Nat → Nat} {L T b p d : Nat} {lt : Nat → Int32} {h : AH} (s : mS t L T b p d lt h) (hp : p < L) : mS t L T b (p + 1) d lt (sI h 56 10 (h.1 56 10 + 1)) := by
  rw [s.1.2.2.2.2.2.2.2.2.2.1, nI_1]
  exact ⟨mX_at s.1 (by omega), s.2⟩
theorem m_fails {t : Nat → Nat} {L T b p d : Nat} {lt : Nat → Int32} {h : AH} (s : mS t L T b p d lt h) : ∃ h', f_X12_fails 56 h = some (0, h') ∧ mF p h' := by
  have := mS_p s
  refine ⟨sI h 56 11 (nI p), ?_, rfl, by omega⟩
  unfold f_X12_fails
  rw [if_pos s.2.1, nm_id, s.1.2.2.2.2.2.2.2.2.2.1, f_X12_fails_16]
theorem m_deep {t : Nat → Nat} {L T b p d d' : Nat} {lt : Nat → Int32} {h : AH} (s : mS t L T b p d lt h) : mS t L T b p d' lt (sI h 56 12 (nI d')) := by
  obtain ⟨⟨c1, c2, c3, c4, c5, c6, c7, c8, c9, c10⟩, s2, s3, s4⟩ := s
  refine ⟨⟨c1, c2, c3, c4, c5, c6, c7, c8, fun j hj => ?_, c10⟩, s2, rfl, s4⟩
  rw [sI_n (Or.inl c3.2.1)]
  exact c9 j hj
theorem m_goesIn {t : Nat → Nat} {L T b p d : Nat} {lt : Nat → Int32} {h : AH} (s : mS t L T b p d lt h) (hd : d ≤ 6) (hp : p < L) : (d < 6 → ∃ h', f_X12_goesIn 56 h = some (1, h') ∧ mS t L T b (p + 1) (d + 1) lt h') ∧ (d = 6 → ∃ h', f_X12_goesIn 56 h = some (0, h') ∧ mF p h') := by
  refine ⟨fun q => ?_, fun q => ?_⟩
  · refine ⟨_, ?_, m_adv (m_deep (d' := d + 1) s) hp⟩
    unfold f_X12_goesIn
    simp (disch := omega) only [s.2.2.1, k_eq, if_neg (show ¬ d = 6 by omega), nm_id, nI_1]
  · obtain ⟨h', e, f⟩ := m_fails s
    refine ⟨h', ?_, f⟩
    unfold f_X12_goesIn
    simp (disch := omega) only [s.2.2.1, k_eq, if_pos q, e, ob_some]
    rfl
theorem m_takes {t : Nat → Nat} {L T b p d : Nat} {lt : Nat → Int32} {h : AH} (x : Nat) (hx : x < 2 ^ 31) (s : mS t L T b p d lt h) : (chr t L (skp t L p) = nI x → ∃ h', f_X12_takes 56 (nI x) h = some (1, h') ∧ mS t L T b (skp t L p + 1) d lt h') ∧ (chr t L (skp t L p) ≠ nI x → ∃ h', f_X12_takes 56 (nI x) h = some (0, h') ∧ mF (skp t L p) h') := by
  obtain ⟨h', e, s'⟩ := m_look s
  unfold f_X12_takes
  rw [if_pos s.2.1, e, ob_some]
  refine ⟨fun q => ?_, fun q => ?_⟩
  · exact ⟨_, by rw [if_pos q, nm_id], m_adv s' (chr_n q hx).1⟩
  · obtain ⟨h2, e2, f⟩ := m_fails s'
    refine ⟨h2, ?_, f⟩
    rw [if_neg q, f_X12_takes_16, e2, ob_some]
    rfl
theorem mF_n {p : Nat} {h : AH} (f : mF p h) : ¬ h.1 56 11 = -1 := by
  rw [f.1, n_m1 (by have := f.2; omega)]
  exact id
theorem f_takes {p : Nat} {h : AH} (x : Int32) (f : mF p h) : f_X12_takes 56 x h = some (0, h) := by
  unfold f_X12_takes f_X12_takes_16 f_X12_fails
  rw [if_neg (mF_n f), if_neg (mF_n f), f_X12_fails_16, ob_some]
  rfl
theorem mF_deep {p : Nat} {h : AH} {x : Int32} (f : mF p h) : mF p (sI h 56 12 x) := f
theorem str_len {k : Nat} (hk : isS k = true) (h : AH) : f_J0_length_8abf5 k h = some (nI (strb k).length, h) := by
  unfold f_J0_length_8abf5
  rw [og_t hk]
  rfl
theorem str_at {k i : Nat} (hk : isS k = true) (hi : i < (strb k).length) (hl : (strb k).length < 100) (h : AH) : f_J0_charAt_5068e k (nI i) h = some ((strb k).getD i 0 &&& 255, h) := by
  unfold f_J0_charAt_5068e
  rw [og_t hk, og_ix hi (by omega), nI_clamp (by omega)]
theorem e_indexIn {k : Nat} (hk : isS k = true) (hl : (strb k).length < 100) (x : Int32) (h : AH) : ∃ r, f_X11_indexIn k x h = some (r, h) ∧ ((r = -1 ∧ ∀ i, i < (strb k).length → (strb k).getD i 0 &&& 255 ≠ x) ∨ ∃ i, i < (strb k).length ∧ r = nI i ∧ (strb k).getD i 0 &&& 255 = x) := by
  unfold f_X11_indexIn
  refine lp (σ := Unit) (fun n i _ => ∃ r, f_X11_indexIn_2 n k x (nI i) h = some (r, h) ∧ ((r = -1 ∧ ∀ i, i < (strb k).length → (strb k).getD i 0 &&& 255 ≠ x) ∨ ∃ i, i < (strb k).length ∧ r = nI i ∧ (strb k).getD i 0 &&& 255 = x)) (fun i _ => ∀ j, j < i → (strb k).getD j 0 &&& 255 ≠ x) (strb k).length (by omega) ?_ ?_ (s := ()) (fun j hj => absurd hj (by omega))
  · intro n _ q
    rw [f_X11_indexIn_2]
    simp (disch := omega) only [str_len hk, ob_some, n_le, Nat.le_refl, if_true]
    exact ⟨_, rfl, Or.inl ⟨rfl, q⟩⟩
  · intro n i _ hi q K
    rw [f_X11_indexIn_2]
    simp (disch := omega) only [str_len hk, ob_some, n_le, if_neg (show ¬ (strb k).length ≤ i by omega), str_at hk hi, nm_id, nI_1]
    by_cases c : (strb k).getD i 0 &&& 255 = x
    · rw [if_pos c]
      exact ⟨_, rfl, Or.inr ⟨i, hi, rfl, c⟩⟩
    · rw [if_neg c]
      exact K () (fun j hj => by
        by_cases e : j = i
        · subst e
          exact c
        · exact q j (by omega))
theorem e_placeOf {k : Nat} (hk : isS k = true) (hl : (strb k).length < 100) (x : Int32) (h : AH) : ∃ r, f_X12_placeOf k x h = some (r, h) ∧ ((r = -1 ∧ ∀ i, i < (strb k).length → (strb k).getD i 0 &&& 255 ≠ x) ∨ ∃ i, i < (strb k).length ∧ r = nI i ∧ (strb k).getD i 0 &&& 255 = x) := by
  unfold f_X12_placeOf
  refine lp (σ := Unit) (fun n i _ => ∃ r, f_X12_placeOf_2 n k x (nI i) h = some (r, h) ∧ ((r = -1 ∧ ∀ i, i < (strb k).length → (strb k).getD i 0 &&& 255 ≠ x) ∨ ∃ i, i < (strb k).length ∧ r = nI i ∧ (strb k).getD i 0 &&& 255 = x)) (fun i _ => ∀ j, j < i → (strb k).getD j 0 &&& 255 ≠ x) (strb k).length (by omega) ?_ ?_ (s := ()) (fun j hj => absurd hj (by omega))
  · intro n _ q
    rw [f_X12_placeOf_2]
    simp (disch := omega) only [str_len hk, ob_some, n_le, Nat.le_refl, if_true]
    exact ⟨_, rfl, Or.inl ⟨rfl, q⟩⟩
  · intro n i _ hi q K
    rw [f_X12_placeOf_2]
    simp (disch := omega) only [str_len hk, ob_some, n_le, if_neg (show ¬ (strb k).length ≤ i by omega), str_at hk hi, nm_id, nI_1]
    by_cases c : (strb k).getD i 0 &&& 255 = x
    · rw [if_pos c]
      exact ⟨_, rfl, Or.inr ⟨i, hi, rfl, c⟩⟩
    · rw [if_neg c]
      exact K () (fun j hj => by
        by_cases e : j = i
        · subst e
          exact c
        · exact q j (by omega))
theorem e_isAmong {k : Nat} (hk : isS k = true) (hl : (strb k).length < 100) (x : Int32) (h : AH) : (f_X12_isAmong k x h = some (0, h) ∧ ∀ i, i < (strb k).length → (strb k).getD i 0 &&& 255 ≠ x) ∨ (f_X12_isAmong k x h = some (1, h) ∧ ∃ i, i < (strb k).length ∧ (strb k).getD i 0 &&& 255 = x) := by
  unfold f_X12_isAmong
  refine lp (σ := Unit) (fun n i _ => (f_X12_isAmong_2 n k x (nI i) h = some (0, h) ∧ ∀ i, i < (strb k).length → (strb k).getD i 0 &&& 255 ≠ x) ∨ (f_X12_isAmong_2 n k x (nI i) h = some (1, h) ∧ ∃ i, i < (strb k).length ∧ (strb k).getD i 0 &&& 255 = x)) (fun i _ => ∀ j, j < i → (strb k).getD j 0 &&& 255 ≠ x) (strb k).length (by omega) ?_ ?_ (s := ()) (fun j hj => absurd hj (by omega))
  · intro n _ q
    rw [f_X12_isAmong_2]
    simp (disch := omega) only [str_len hk, ob_some, n_le, Nat.le_refl, if_true]
    exact Or.inl ⟨trivial, q⟩
  · intro n i _ hi q K
    rw [f_X12_isAmong_2]
    simp (disch := omega) only [str_len hk, ob_some, n_le, if_neg (show ¬ (strb k).length ≤ i by omega), str_at hk hi, nm_id, nI_1]
    by_cases c : (strb k).getD i 0 &&& 255 = x
    · rw [if_pos c]
      exact Or.inr ⟨rfl, i, hi, c⟩
    · rw [if_neg c]
      exact K () (fun j hj => by
        by_cases e : j = i
        · subst e
          exact c
        · exact q j (by omega))
theorem lch_e : ∀ i, i < 6 → (strb 1001).getD i 0 &&& 255 = nI (lch i) := by decide
theorem e_letC (x : Int32) (h : AH) : (f_X11_indexIn 1001 x h = some (-1, h) ∧ f_X12_isAmong 1001 x h = some (0, h) ∧ ∀ i, i < 6 → nI (lch i) ≠ x) ∨ ∃ i, i < 6 ∧ x = nI (lch i) ∧ f_X11_indexIn 1001 x h = some (nI i, h) := by
  obtain ⟨r, e, q⟩ := e_indexIn (k := 1001) rfl (by decide) x h
  rcases q with ⟨rfl, q⟩ | ⟨i, hi, rfl, q⟩
  · left
    have z : ∀ i, i < 6 → nI (lch i) ≠ x := fun i hi => by
      rw [← lch_e i hi]
      exact q i hi
    refine ⟨e, ?_, z⟩
    rcases e_isAmong (k := 1001) rfl (by decide) x h with ⟨e2, _⟩ | ⟨_, i, hi, e3⟩
    · exact e2
    · exact absurd e3 (q i hi)
  · right
    exact ⟨i, hi, by rw [← lch_e i hi]; exact q.symm, e⟩
theorem e_letM {i : Nat} (hi : i < 6) (h : AH) : f_X12_isAmong 1001 (nI (lch i)) h = some (1, h) := by
  rcases e_isAmong (k := 1001) rfl (by decide) (nI (lch i)) h with ⟨_, e3⟩ | ⟨e2, _⟩
  · exact absurd (lch_e i hi) (e3 i hi)
  · exact e2
