/-! swap -/
def sg (a b x : Nat) : Nat := if x = a then b else if x = b then a else x
theorem sg_inv (a b x : Nat) : sg a b (sg a b x) = x := by
  unfold sg
  grind
theorem gRow_sg {n G : Nat} {row : Nat → Nat} (r : gRow n G row) {a b : Nat} (ha : G.testBit a = true) (hb : G.testBit b = true) : gRow n G (fun j => sg a b (row j)) := by
  obtain ⟨ja, la, ea⟩ := r.2.2 a ha
  obtain ⟨jb, lb, eb⟩ := r.2.2 b hb
  have na := r.1.2.1 ja la
  have nb := r.1.2.1 jb lb
  rw [ea] at na
  rw [eb] at nb
  have sG : ∀ x, G.testBit x = true → G.testBit (sg a b x) = true := by
    intro x hx
    unfold sg
    split
    · exact hb
    · split
      · exact ha
      · exact hx
  refine ⟨⟨r.1.1, fun j hj => ?_, fun i j hi hj e => ?_⟩, fun j hj => sG _ (r.2.1 j hj), fun p hp => ?_⟩
  · have := r.1.2.1 j hj
    show sg a b (row j) < n
    unfold sg
    split
    · exact nb
    · split
      · exact na
      · exact this
  · have e' : sg a b (sg a b (row i)) = sg a b (sg a b (row j)) := congrArg (sg a b) e
    rw [sg_inv, sg_inv] at e'
    exact r.1.2.2 i j hi hj e'
  · obtain ⟨j, hj, e⟩ := r.2.2 _ (sG p hp)
    exact ⟨j, hj, by show sg a b (row j) = p; rw [e, sg_inv]⟩
def swp (row : Nat → Nat) (a b j : Nat) : Nat := if j = b then row a else if j = a then row b else row j
theorem cRw_cong {row row' : Nat → Nat} {m : Nat} {h : AH} (e : ∀ j, j < m → row j = row' j) (c : cRw row m h) : cRw row' m h := ⟨c.1, fun j hj => by rw [c.2 j hj, e j hj]⟩
theorem e_exch {row : Nat → Nat} {m : Nat} {h : AH} (c : cRw row m h) (m6 : m ≤ 6) {a b : Nat} (ha : a < m) (hb : b < m) : ∃ h', f_X5_exchange 41 (nI a) (nI b) h = some h' ∧ cRw (swp row a b) m h' := by
  unfold f_X5_exchange
  simp (disch := omega) only [rv_0_0, rv_0_1, rv_0_2, rv_0_3, rv_0_4, rv_0_6, rv_0_7, rv_0_9, rv_0_10, rv_0_11, rv_0_12, rv_0_13, rv_0_14, rv_1_0, an_2, rv_3_0, rv_3_1, an_4, an_5, rv_6_0, rv_6_1, an_7, an_8, rv_9_0, rv_9_1, an_10, an_11, rv_12_0, rv_12_1, an_13, an_14, rv_15_0, rv_15_1, an_16, an_17, rv_18_0, rv_18_1, an_19, an_20, rv_21_0, rv_21_1, an_22, an_23, rv_24_0, rv_24_1, rv_24_2, an_25, an_26, an_27, rv_28_0, rv_28_1, rv_28_2, an_29, an_30, an_31, rv_32_0, rv_32_1, an_33, an_34, rv_35_0, rv_35_1, rv_35_2, rv_35_3, rv_35_4, rv_35_5, rv_35_6, an_36, an_37, an_38, an_39, an_40, rv_41_0, rv_41_1, rv_41_3, rv_41_4, rv_41_5, an_42, an_43, an_44, an_45, rv_46_0, rv_46_1, rv_46_2, rv_46_3, rv_46_4, rv_46_6, an_47, an_48, rv_49_0, rv_49_1, an_50, rv_51_0, rv_51_1, rv_51_2, rv_51_3, rv_51_4, rv_51_6, rv_51_7, an_52, an_53, an_54, an_55, rv_56_1, rv_56_2, rv_56_3, rv_56_4, rv_56_15, rv_56_16, rv_56_17, rv_56_19, rv_56_22, rv_56_23, rv_56_24, rv_56_25, rv_56_26, rv_56_27, rv_56_28, rv_56_31, rv_56_33, rv_56_35, rv_56_36, rv_56_37, rv_56_39, rv_56_40, rv_56_41, rv_56_42, rv_56_43, rv_56_44, rv_56_46, rv_56_47, rv_56_48, rv_56_49, rv_56_51, rv_56_52, rv_56_54, an_57, an_58, an_59, an_60, an_61, an_62, an_63, an_64, an_65, an_66, an_67, an_68, an_69, an_70, an_71, an_72, an_73, an_74, an_75, an_76, an_77, an_78, an_79, an_80, an_81, an_82, an_83, an_84, an_85, an_86, an_87, og_ix, nm_id, nI_clamp]
  refine ⟨_, rfl, c.1, fun j hj => ?_⟩
  unfold swp
  by_cases e1 : j = b
  · subst e1
    rw [sI_s, if_pos rfl, c.2 a ha]
  · rw [sI_n (Or.inr e1), if_neg e1]
    by_cases e2 : j = a
    · subst e2
      rw [sI_s, if_pos rfl, c.2 b hb]
    · rw [sI_n (Or.inr e2), if_neg e2, c.2 j hj]
theorem e_placeC {row : Nat → Nat} {m : Nat} {h : AH} (c : cRw row m h) {n : Nat} (ro : rOk n row m) (hn : n ≤ 6) {j : Nat} (hj : j < m) : f_X5_placeOf 41 (nI (row j)) h = some (nI j, h) := by
  have m6 := ro.1
  have rj := ro.2.1 j hj
  have st : ∀ f i, i ≤ j → j - i < f → f_X5_placeOf_2 f 41 (nI (row j)) (nI i) h = some (nI j, h) := by
    intro f
    induction f with
    | zero => intro i _ q; omega
    | succ f ih =>
      intro i hi hf
      have ri := ro.2.1 i (by omega)
      rw [f_X5_placeOf_2, c.1, if_neg (by rw [nI_leI (by omega) (by omega)]; omega), rv_41_1, an_42, og_ix (by omega) (by omega), nI_clamp (by omega), c.2 i (by omega)]
      by_cases e : i = j
      · subst e
        rw [if_pos rfl]
      · rw [if_neg (by rw [n_eq (by omega) (by omega)]; exact fun w => e (ro.2.2 i j (by omega) hj w)), nm_id, nI_1]
        exact ih (i + 1) (by omega) (by omega)
  exact st FU 0 (by omega) (by unfold FU; omega)
def wS (wo : Nat → Nat) (x : Int32) : Int32 := if x = -1 then 0 else nI (wo x.toNatClampNeg)
theorem e_worthC {v : Wd} {sz wo : Nat → Nat} {h : AH} (F : cF v sz wo h) {p : Nat} (hp : p < 6) {x : Int32} (e : h.1 43 p = x) (hx : x = -1 ∨ ∃ q, q < v.n ∧ x = nI q) : f_X5_worthOf 41 (nI p) h = some (wS wo x, h) := by
  have hn := F.1.1.1
  unfold f_X5_worthOf f_X2_worthOf wS
  simp (disch := omega) only [rv_0_0, rv_0_1, rv_0_2, rv_0_3, rv_0_4, rv_0_6, rv_0_7, rv_0_9, rv_0_10, rv_0_11, rv_0_12, rv_0_13, rv_0_14, rv_1_0, an_2, rv_3_0, rv_3_1, an_4, an_5, rv_6_0, rv_6_1, an_7, an_8, rv_9_0, rv_9_1, an_10, an_11, rv_12_0, rv_12_1, an_13, an_14, rv_15_0, rv_15_1, an_16, an_17, rv_18_0, rv_18_1, an_19, an_20, rv_21_0, rv_21_1, an_22, an_23, rv_24_0, rv_24_1, rv_24_2, an_25, an_26, an_27, rv_28_0, rv_28_1, rv_28_2, an_29, an_30, an_31, rv_32_0, rv_32_1, an_33, an_34, rv_35_0, rv_35_1, rv_35_2, rv_35_3, rv_35_4, rv_35_5, rv_35_6, an_36, an_37, an_38, an_39, an_40, rv_41_0, rv_41_1, rv_41_3, rv_41_4, rv_41_5, an_42, an_43, an_44, an_45, rv_46_0, rv_46_1, rv_46_2, rv_46_3, rv_46_4, rv_46_6, an_47, an_48, rv_49_0, rv_49_1, an_50, rv_51_0, rv_51_1, rv_51_2, rv_51_3, rv_51_4, rv_51_6, rv_51_7, an_52, an_53, an_54, an_55, rv_56_1, rv_56_2, rv_56_3, rv_56_4, rv_56_15, rv_56_16, rv_56_17, rv_56_19, rv_56_22, rv_56_23, rv_56_24, rv_56_25, rv_56_26, rv_56_27, rv_56_28, rv_56_31, rv_56_33, rv_56_35, rv_56_36, rv_56_37, rv_56_39, rv_56_40, rv_56_41, rv_56_42, rv_56_43, rv_56_44, rv_56_46, rv_56_47, rv_56_48, rv_56_49, rv_56_51, rv_56_52, rv_56_54, an_57, an_58, an_59, an_60, an_61, an_62, an_63, an_64, an_65, an_66, an_67, an_68, an_69, an_70, an_71, an_72, an_73, an_74, an_75, an_76, an_77, an_78, an_79, an_80, an_81, an_82, an_83, an_84, an_85, an_86, an_87, og_ix, nI_clamp, e]
  rcases hx with rfl | ⟨q, hq, rfl⟩
  · rfl
  · rw [if_neg (by rw [n_m1 (by omega)]; exact id), if_neg (by rw [n_m1 (by omega)]; exact id), og_ix (by omega) (by omega), nI_clamp (by omega), (F.2.2.2.2.2 q hq).2]
    rfl
theorem e_worthM {v : Wd} {sz wo : Nat → Nat} {h : AH} (F : mG v sz wo h) {p : Nat} (hp : p < 6) {x : Int32} (e : h.1 68 p = x) (hx : x = -1 ∨ ∃ q, q < v.n ∧ x = nI q) : f_X12_worthOf 56 (nI p) h = some (wS wo x, h) := by
  have hn := F.1.1.1
  unfold f_X12_worthOf wS
  simp (disch := omega) only [rv_0_0, rv_0_1, rv_0_2, rv_0_3, rv_0_4, rv_0_6, rv_0_7, rv_0_9, rv_0_10, rv_0_11, rv_0_12, rv_0_13, rv_0_14, rv_1_0, an_2, rv_3_0, rv_3_1, an_4, an_5, rv_6_0, rv_6_1, an_7, an_8, rv_9_0, rv_9_1, an_10, an_11, rv_12_0, rv_12_1, an_13, an_14, rv_15_0, rv_15_1, an_16, an_17, rv_18_0, rv_18_1, an_19, an_20, rv_21_0, rv_21_1, an_22, an_23, rv_24_0, rv_24_1, rv_24_2, an_25, an_26, an_27, rv_28_0, rv_28_1, rv_28_2, an_29, an_30, an_31, rv_32_0, rv_32_1, an_33, an_34, rv_35_0, rv_35_1, rv_35_2, rv_35_3, rv_35_4, rv_35_5, rv_35_6, an_36, an_37, an_38, an_39, an_40, rv_41_0, rv_41_1, rv_41_3, rv_41_4, rv_41_5, an_42, an_43, an_44, an_45, rv_46_0, rv_46_1, rv_46_2, rv_46_3, rv_46_4, rv_46_6, an_47, an_48, rv_49_0, rv_49_1, an_50, rv_51_0, rv_51_1, rv_51_2, rv_51_3, rv_51_4, rv_51_6, rv_51_7, an_52, an_53, an_54, an_55, rv_56_1, rv_56_2, rv_56_3, rv_56_4, rv_56_15, rv_56_16, rv_56_17, rv_56_19, rv_56_22, rv_56_23, rv_56_24, rv_56_25, rv_56_26, rv_56_27, rv_56_28, rv_56_31, rv_56_33, rv_56_35, rv_56_36, rv_56_37, rv_56_39, rv_56_40, rv_56_41, rv_56_42, rv_56_43, rv_56_44, rv_56_46, rv_56_47, rv_56_48, rv_56_49, rv_56_51, rv_56_52, rv_56_54, an_57, an_58, an_59, an_60, an_61, an_62, an_63, an_64, an_65, an_66, an_67, an_68, an_69, an_70, an_71, an_72, an_73, an_74, an_75, an_76, an_77, an_78, an_79, an_80, an_81, an_82, an_83, an_84, an_85, an_86, an_87, og_ix, nI_clamp, e]
  rcases hx with rfl | ⟨q, hq, rfl⟩
  · rfl
  · rw [if_neg (by rw [n_m1 (by omega)]; exact id), if_neg (by rw [n_m1 (by omega)]; exact id), og_ix (by omega) (by omega), nI_clamp (by omega), (F.2.2.2.2.2 q hq).2]
    rfl
theorem cGo_w {v : Wd} {sz wo : Nat → Nat} {row : Nat → Nat} {D G : Nat} {h : AH} (g : cGo v sz wo row (pc G) D h) (r : gRow v.n G row) {p : Nat} (hp : p < v.n) (pb : G.testBit p = true) : f_X5_worthOf 41 (nI p) h = some (wS wo (tkP v sz wo row (pc G) D p), h) := e_worthC g.1.1 (by have := g.1.1.1.1.1; omega) (cGo_t g r pb) tkP_c
theorem mGo_w {v : Wd} {sz wo : Nat → Nat} {row : Nat → Nat} {D G : Nat} {h : AH} (g : mGo v sz wo row (pc G) D h) (r : gRow v.n G row) {p : Nat} (hp : p < v.n) (pb : G.testBit p = true) : f_X12_worthOf 56 (nI p) h = some (wS wo (tkP v sz wo row (pc G) D p), h) := e_worthM g.1 (by have := g.1.1.1.1; omega) (mGo_t g r pb) tkP_c
theorem c_go1 {v : Wd} {sz wo : Nat → Nat} {row : Nat → Nat} {m D : Nat} {h : AH} (Z : cZ v sz wo h) (Rw : cRw row m h) (ro : rOk v.n row m) (hD : D < 2 ^ v.n) (e0 : h.1 44 0 = nI D) : ∃ h5, f_X5_go 41 0 h = some h5 ∧ cGo v sz wo row m D h5 ∧ Agr W_X5_go_i41 h h5 := by
  obtain ⟨h5, e5, a, b, c⟩ := e_go (i := 0) (row := row) (m := m) ro hD (Nat.zero_le _) Z Rw ⟨fun j hj => by
    have : j = 0 := by omega
    subst this
    exact e0, fun j hj => absurd hj (by omega)⟩
  exact ⟨h5, e5, ⟨a, b, c⟩, w_f_X5_go_i41 _ _ _ e5⟩
/-- the model's exchange in the order -/
theorem e_swap82 {v : Wd} {row : Nat → Nat} {G u a b : Nat} {x6 : Int32} {h : AH} (B : mB v h) (Rw : mRw row (pc G) h) (r : gRow v.n G row) (hu : u < 4) (hG : G < 64) (ha : a < v.n) (hb : b < v.n) (pa : G.testBit a = true) (pb : G.testBit b = true) : ∃ h', f_X12_swap_82 FU 56 (nI u) (nI G) (nI a) (nI b) x6 0 h = some (wS v.wo (tkP v (fun q => v.it q 3) v.wo (fun j => sg a b (row j)) (pc G) (door v u G) a) + wS v.wo (tkP v (fun q => v.it q 3) v.wo (fun j => sg a b (row j)) (pc G) (door v u G) b) - x6, h') := by
  have hn := B.n6
  have r2 := gRow_sg r pa pb
  have m6 := r.1.1
  refine lp (fun n i g => ∃ h', f_X12_swap_82 n 56 (nI u) (nI G) (nI a) (nI b) x6 (nI i) g = some (wS v.wo (tkP v (fun q => v.it q 3) v.wo (fun j => sg a b (row j)) (pc G) (door v u G) a) + wS v.wo (tkP v (fun q => v.it q 3) v.wo (fun j => sg a b (row j)) (pc G) (door v u G) b) - x6, h')) (fun i g => mB v g ∧ g.1 56 29 = nI (pc G) ∧ (∀ j, j < i → g.1 67 j = nI (sg a b (row j))) ∧ ∀ j, i ≤ j → j < pc G → g.1 67 j = nI (row j)) (pc G) (by omega) ?_ ?_ ⟨B, Rw.1, fun j hj => absurd hj (by omega), fun j _ hj => Rw.2 j hj⟩
  · rintro n g ⟨B, g1, g2, _⟩
    obtain ⟨h5, e5, g5, a5⟩ := m_go0 B.1 (row := fun j => sg a b (row j)) (m := pc G) ⟨g1, g2⟩ r2.1 (door_lt v u G)
    rw [f_X12_swap_82, g1, if_pos (by rw [nI_leI (by omega) (by omega)]; omega), B.door hu hG, ob_some, e5, ov_some, mGo_w g5 r2 ha pa, ob_some, mGo_w g5 r2 hb pb, ob_some]
    exact ⟨_, rfl⟩
  · rintro n i g hi ⟨B, g1, g2, g3⟩ K
    have ri := r.1.2.1 i hi
    have K' : ∀ y, sg a b (row i) = y → ∃ h', f_X12_swap_82 n 56 (nI u) (nI G) (nI a) (nI b) x6 (nI (i + 1)) (sI g 67 i (nI y)) = some (wS v.wo (tkP v (fun q => v.it q 3) v.wo (fun j => sg a b (row j)) (pc G) (door v u G) a) + wS v.wo (tkP v (fun q => v.it q 3) v.wo (fun j => sg a b (row j)) (pc G) (door v u G) b) - x6, h') := by
      intro y hy
      refine K _ ⟨mB_agr (W := (67, 1000) :: []) (agr_sI (agr_refl g) rfl) rfl B, g1, fun j hj => ?_, fun j h1 h2 => ?_⟩
      · by_cases e : j = i
        · subst e
          rw [sI_s, hy]
        · rw [sI_n (Or.inr e)]
          exact g2 j (by omega)
      · rw [sI_n (Or.inr (by omega))]
        exact g3 j (by omega) h2
    rw [f_X12_swap_82]
    simp (disch := omega) only [g1, if_neg (show ¬ nI (pc G) ≤ nI i by rw [nI_leI (by omega) (by omega)]; omega), rv_0_0, rv_0_1, rv_0_2, rv_0_3, rv_0_4, rv_0_6, rv_0_7, rv_0_9, rv_0_10, rv_0_11, rv_0_12, rv_0_13, rv_0_14, rv_1_0, an_2, rv_3_0, rv_3_1, an_4, an_5, rv_6_0, rv_6_1, an_7, an_8, rv_9_0, rv_9_1, an_10, an_11, rv_12_0, rv_12_1, an_13, an_14, rv_15_0, rv_15_1, an_16, an_17, rv_18_0, rv_18_1, an_19, an_20, rv_21_0, rv_21_1, an_22, an_23, rv_24_0, rv_24_1, rv_24_2, an_25, an_26, an_27, rv_28_0, rv_28_1, rv_28_2, an_29, an_30, an_31, rv_32_0, rv_32_1, an_33, an_34, rv_35_0, rv_35_1, rv_35_2, rv_35_3, rv_35_4, rv_35_5, rv_35_6, an_36, an_37, an_38, an_39, an_40, rv_41_0, rv_41_1, rv_41_3, rv_41_4, rv_41_5, an_42, an_43, an_44, an_45, rv_46_0, rv_46_1, rv_46_2, rv_46_3, rv_46_4, rv_46_6, an_47, an_48, rv_49_0, rv_49_1, an_50, rv_51_0, rv_51_1, rv_51_2, rv_51_3, rv_51_4, rv_51_6, rv_51_7, an_52, an_53, an_54, an_55, rv_56_1, rv_56_2, rv_56_3, rv_56_4, rv_56_15, rv_56_16, rv_56_17, rv_56_19, rv_56_22, rv_56_23, rv_56_24, rv_56_25, rv_56_26, rv_56_27, rv_56_28, rv_56_31, rv_56_33, rv_56_35, rv_56_36, rv_56_37, rv_56_39, rv_56_40, rv_56_41, rv_56_42, rv_56_43, rv_56_44, rv_56_46, rv_56_47, rv_56_48, rv_56_49, rv_56_51, rv_56_52, rv_56_54, an_57, an_58, an_59, an_60, an_61, an_62, an_63, an_64, an_65, an_66, an_67, an_68, an_69, an_70, an_71, an_72, an_73, an_74, an_75, an_76, an_77, an_78, an_79, an_80, an_81, an_82, an_83, an_84, an_85, an_86, an_87, og_ix, nI_clamp, g3 i (Nat.le_refl _) hi, f_X12_swap_138, nm_id, nI_1, n_eq]
    by_cases c1 : row i = a
    · rw [if_pos c1]
      exact K' b (by unfold sg; rw [if_pos c1])
    · rw [if_neg c1]
      by_cases c2 : row i = b
      · rw [if_pos c2]
        exact K' a (by unfold sg; rw [if_neg c1, if_pos c2])
      · rw [if_neg c2]
        exact K' (row i) (by unfold sg; rw [if_neg c1, if_neg c2])
theorem g24 : G24 Rel := by
  intro h ⟨v, R⟩ a1 a2 a3 a4 a5
  have hn := R.n6
  have h64 := pow_le6 hn
  suffices H : ∃ r h1 h2, f_X11_swap 0 a1 a2 a3 a4 a5 h = some (r, h1) ∧ f_X12_swap 56 a1 a2 a3 a4 a5 h1 = some (r, h2) by
    obtain ⟨r, h1, h2, e1, e2⟩ := H
    exact ⟨r, h1, h2, e1, e2, G_of R (w_f_X11_swap_i0 _ _ _ _ _ _ _ e1) (w_f_X12_swap_i56 _ _ _ _ _ _ _ e2) rfl rfl⟩
  cases hp : ptB v.n a1 a2 with
  | false =>
    refine ⟨-1000000, h, sI h 56 0 0, ?_, ?_⟩
    · unfold f_X11_swap
      simp only [e_isParty hn R.cn, hp, ob_some, zi, f_X11_swap_48, Bool.false_eq_true, if_false]
    · unfold f_X12_swap
      simp only [nm_id, e_isGuestM hn (R.thr (x := 0)).mn, hp, Bool.false_and, ob_some, zi, f_X12_swap_50, Bool.false_eq_true, if_false]
  | true =>
    obtain ⟨u, G, hu, rfl, g0, hG, rfl⟩ := (ptB_iff hn).mp hp
    have n0 := n_of_G g0 hG
    cases hg : guB v.n (nI G) a4 with
    | false =>
      refine ⟨-1000000, h, sI h 56 0 0, ?_, ?_⟩
      · unfold f_X11_swap
        simp only [e_isParty hn R.cn, hp, ob_some, zi, f_X11_swap_48, if_true, e_isGuestC R.cn, hg, Bool.false_eq_true, if_false]
      · unfold f_X12_swap
        simp only [nm_id, e_isGuestM hn (R.thr (x := 0)).mn, hp, hg, Bool.true_and, ob_some, zi, f_X12_swap_50, Bool.false_eq_true, if_false]
    | true =>
      cases hg2 : guB v.n (nI G) a5 with
      | false =>
        refine ⟨-1000000, h, sI h 56 0 0, ?_, ?_⟩
        · unfold f_X11_swap
          simp only [e_isParty hn R.cn, hp, ob_some, zi, f_X11_swap_48, if_true, e_isGuestC R.cn, hg, hg2, Bool.false_eq_true, if_false]
        · unfold f_X12_swap
          simp only [nm_id, e_isGuestM hn (R.thr (x := 0)).mn, hp, hg, Bool.true_and, ob_some, zi, if_true, e_X12_isPerson, (R.thr (x := 0)).mn, e_X12_has, f_X12_swap_50]
          unfold guB at hg2
          rw [Bool.and_eq_false_iff] at hg2
          rcases hg2 with q | q
          · rw [q]
            rfl
          · rw [q]
            cases knB (nI v.n) a5 <;> rfl
      | true =>
        obtain ⟨a, ha, rfl, pa⟩ := (guB_iff hn (by omega)).mp hg
        obtain ⟨b, hb, rfl, pb⟩ := (guB_iff hn (by omega)).mp hg2
        have hg2' := hg2
        unfold guB at hg2'
        rw [Bool.and_eq_true] at hg2'
        by_cases eab : nI a = nI b
        · refine ⟨-1000000, h, sI h 56 0 0, ?_, ?_⟩
          · unfold f_X11_swap
            simp only [e_isParty hn R.cn, hp, ob_some, zi, f_X11_swap_48, if_true, e_isGuestC R.cn, hg, hg2, if_pos eab]
          · unfold f_X12_swap
            simp only [nm_id, e_isGuestM hn (R.thr (x := 0)).mn, hp, hg, Bool.true_and, ob_some, zi, if_true, e_X12_isPerson, (R.thr (x := 0)).mn, e_X12_has, hg2'.1, hg2'.2, if_pos eab, f_X12_swap_50]
        · obtain ⟨k, ek, fk⟩ := e_readC hn hG a3 h
          have Rk : RelV v k := rel_agr (w_f_X5_readOrder_i41 _ _ _ _ ek) rfl R
          cases hq : ordB v.n G a3 with
          | false =>
            have R2 := Rk.thr (x := 0)
            obtain ⟨m, em, fm⟩ := e_layM hn hG g0 a3 (sI k 56 0 0) R2.mn
            refine ⟨-1000000, k, m, ?_, ?_⟩
            · unfold f_X11_swap
              simp only [e_isParty hn R.cn, hp, ob_some, zi, f_X11_swap_48, if_true, e_isGuestC R.cn, hg, hg2, if_neg eab, rv_0_0, rv_0_1, rv_0_2, rv_0_3, rv_0_4, rv_0_6, rv_0_7, rv_0_9, rv_0_10, rv_0_11, rv_0_12, rv_0_13, rv_0_14, rv_1_0, an_2, rv_3_0, rv_3_1, an_4, an_5, rv_6_0, rv_6_1, an_7, an_8, rv_9_0, rv_9_1, an_10, an_11, rv_12_0, rv_12_1, an_13, an_14, rv_15_0, rv_15_1, an_16, an_17, rv_18_0, rv_18_1, an_19, an_20, rv_21_0, rv_21_1, an_22, an_23, rv_24_0, rv_24_1, rv_24_2, an_25, an_26, an_27, rv_28_0, rv_28_1, rv_28_2, an_29, an_30, an_31, rv_32_0, rv_32_1, an_33, an_34, rv_35_0, rv_35_1, rv_35_2, rv_35_3, rv_35_4, rv_35_5, rv_35_6, an_36, an_37, an_38, an_39, an_40, rv_41_0, rv_41_1, rv_41_3, rv_41_4, rv_41_5, an_42, an_43, an_44, an_45, rv_46_0, rv_46_1, rv_46_2, rv_46_3, rv_46_4, rv_46_6, an_47, an_48, rv_49_0, rv_49_1, an_50, rv_51_0, rv_51_1, rv_51_2, rv_51_3, rv_51_4, rv_51_6, rv_51_7, an_52, an_53, an_54, an_55, rv_56_1, rv_56_2, rv_56_3, rv_56_4, rv_56_15, rv_56_16, rv_56_17, rv_56_19, rv_56_22, rv_56_23, rv_56_24, rv_56_25, rv_56_26, rv_56_27, rv_56_28, rv_56_31, rv_56_33, rv_56_35, rv_56_36, rv_56_37, rv_56_39, rv_56_40, rv_56_41, rv_56_42, rv_56_43, rv_56_44, rv_56_46, rv_56_47, rv_56_48, rv_56_49, rv_56_51, rv_56_52, rv_56_54, an_57, an_58, an_59, an_60, an_61, an_62, an_63, an_64, an_65, an_66, an_67, an_68, an_69, an_70, an_71, an_72, an_73, an_74, an_75, an_76, an_77, an_78, an_79, an_80, an_81, an_82, an_83, an_84, an_85, an_86, an_87, ek, hq, Bool.false_eq_true, if_false]
            · unfold f_X12_swap
              simp only [nm_id, e_isGuestM hn R2.mn, hp, hg, Bool.true_and, ob_some, zi, if_true, e_X12_isPerson, R2.mn, e_X12_has, hg2'.1, hg2'.2, if_neg eab, em, hq, f_X12_swap_50, Bool.false_eq_true, if_false]
          | true =>
            have gr := ord_row hn hG hq
            generalize hrow : rowN a3.toNatClampNeg (pc G) = row at gr fk
            have gr2 := gRow_sg gr pa pb
            obtain ⟨ja, la, ea⟩ := gr.2.2 a pa
            obtain ⟨jb, lb, eb⟩ := gr.2.2 b pb
            obtain ⟨h3, e3, B3, Z3, a3'⟩ := e_openDoor (Rk.cB n0) hu (show G < 64 by omega)
            obtain ⟨h4, h5, e4, e5, g5, a5'⟩ := c_go0 Z3 (cRw_agr a3' rfl (fk hq)) gr.1 (door_lt v u G)
            have pA := e_placeC g5.2.1 gr.1 hn la
            have pB := e_placeC g5.2.1 gr.1 hn lb
            rw [ea] at pA
            rw [eb] at pB
            obtain ⟨h6, e6, c6⟩ := e_exch g5.2.1 gr.1.1 la lb
            have f6 : Agr W_X5_exchange_i41 h5 h6 := w_f_X5_exchange_i41 _ _ _ _ e6
            have c6' : cRw (fun j => sg a b (row j)) (pc G) h6 := by
              refine cRw_cong (fun j hj => ?_) c6
              unfold swp sg
              by_cases q1 : j = jb
              · subst q1
                rw [if_pos rfl, ea, eb]
                by_cases q2 : b = a
                · rw [if_pos q2, q2]
                · rw [if_neg q2, if_pos rfl]
              · rw [if_neg q1]
                by_cases q2 : j = ja
                · subst q2
                  rw [if_pos rfl, if_pos ea, eb]
                · rw [if_neg q2, if_neg (fun w => q2 (gr.1.2.2 j ja hj la (by rw [w, ea]))), if_neg (fun w => q1 (gr.1.2.2 j jb hj lb (by rw [w, eb])))]
            have Z6 := cZ_agr f6 rfl g5.1
            obtain ⟨h7, e7, g7, a7⟩ := c_go1 Z6 c6' gr2.1 (door_lt v u G) (by
              have c44 : h6.1 44 = h5.1 44 := agr_cell f6 44 rfl
              rw [c44]
              exact g5.2.2.1 0 (Nat.zero_le _))
            have E1 : f_X11_swap 0 (nI u) (nI G) a3 (nI a) (nI b) h = some (wS v.wo (tkP v (fun q => v.it q 3) v.wo (fun j => sg a b (row j)) (pc G) (door v u G) a) + wS v.wo (tkP v (fun q => v.it q 3) v.wo (fun j => sg a b (row j)) (pc G) (door v u G) b) - (wS v.wo (tkP v (fun q => v.it q 3) v.wo row (pc G) (door v u G) a) + wS v.wo (tkP v (fun q => v.it q 3) v.wo row (pc G) (door v u G) b)), h7) := by
              unfold f_X11_swap
              simp only [e_isParty hn R.cn, hp, ob_some, zi, if_true, e_isGuestC R.cn, hg, hg2, if_neg eab, rv_0_0, rv_0_1, rv_0_2, rv_0_3, rv_0_4, rv_0_6, rv_0_7, rv_0_9, rv_0_10, rv_0_11, rv_0_12, rv_0_13, rv_0_14, rv_1_0, an_2, rv_3_0, rv_3_1, an_4, an_5, rv_6_0, rv_6_1, an_7, an_8, rv_9_0, rv_9_1, an_10, an_11, rv_12_0, rv_12_1, an_13, an_14, rv_15_0, rv_15_1, an_16, an_17, rv_18_0, rv_18_1, an_19, an_20, rv_21_0, rv_21_1, an_22, an_23, rv_24_0, rv_24_1, rv_24_2, an_25, an_26, an_27, rv_28_0, rv_28_1, rv_28_2, an_29, an_30, an_31, rv_32_0, rv_32_1, an_33, an_34, rv_35_0, rv_35_1, rv_35_2, rv_35_3, rv_35_4, rv_35_5, rv_35_6, an_36, an_37, an_38, an_39, an_40, rv_41_0, rv_41_1, rv_41_3, rv_41_4, rv_41_5, an_42, an_43, an_44, an_45, rv_46_0, rv_46_1, rv_46_2, rv_46_3, rv_46_4, rv_46_6, an_47, an_48, rv_49_0, rv_49_1, an_50, rv_51_0, rv_51_1, rv_51_2, rv_51_3, rv_51_4, rv_51_6, rv_51_7, an_52, an_53, an_54, an_55, rv_56_1, rv_56_2, rv_56_3, rv_56_4, rv_56_15, rv_56_16, rv_56_17, rv_56_19, rv_56_22, rv_56_23, rv_56_24, rv_56_25, rv_56_26, rv_56_27, rv_56_28, rv_56_31, rv_56_33, rv_56_35, rv_56_36, rv_56_37, rv_56_39, rv_56_40, rv_56_41, rv_56_42, rv_56_43, rv_56_44, rv_56_46, rv_56_47, rv_56_48, rv_56_49, rv_56_51, rv_56_52, rv_56_54, an_57, an_58, an_59, an_60, an_61, an_62, an_63, an_64, an_65, an_66, an_67, an_68, an_69, an_70, an_71, an_72, an_73, an_74, an_75, an_76, an_77, an_78, an_79, an_80, an_81, an_82, an_83, an_84, an_85, an_86, an_87, ek, hq, e3, e4, e5, ov_some, cGo_w g5 gr ha pa, cGo_w g5 gr hb pb, nm_id, pA, pB, e6, e7, cGo_w g7 gr2 ha pa, cGo_w g7 gr2 hb pb]
            have R5 : RelV v h7 := rel_agr (w_f_X11_swap_i0 _ _ _ _ _ _ _ E1) rfl R
            have R2 := R5.thr (x := 0)
            obtain ⟨m, em, fm⟩ := e_layM hn hG g0 a3 (sI h7 56 0 0) R2.mn
            rw [hrow] at fm
            have R3 : RelV v m := rel_agr (w_f_X12_layOrder_i56 _ _ _ _ em) rfl R2
            obtain ⟨k5, i5, q5, b5⟩ := m_go0 R3.mG (fm hq) gr.1 (door_lt v u G)
            obtain ⟨k6, i6⟩ := e_swap82 (x6 := wS v.wo (tkP v (fun q => v.it q 3) v.wo row (pc G) (door v u G) a) + wS v.wo (tkP v (fun q => v.it q 3) v.wo row (pc G) (door v u G) b)) (mB_agr b5 rfl (R3.mB n0)) q5.2.1 gr hu (show G < 64 by omega) ha hb pa pb
            refine ⟨_, h7, k6, E1, ?_⟩
            unfold f_X12_swap
            simp only [nm_id, e_isGuestM hn R2.mn, hp, hg, Bool.true_and, ob_some, zi, if_true, e_X12_isPerson, R2.mn, e_X12_has, hg2'.1, hg2'.2, if_neg eab, em, hq, (R3.mB n0).door hu (show G < 64 by omega), i5, ov_some, mGo_w q5 gr ha pa, mGo_w q5 gr hb pb, i6]
