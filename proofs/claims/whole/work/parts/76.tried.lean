/-! who takes what: calls with an order -/
def cGo (v : Wd) (sz wo : Nat → Nat) (row : Nat → Nat) (m D : Nat) (h : AH) : Prop := cZ v sz wo h ∧ cRw row m h ∧ cSt v sz wo row D m h
def mGo (v : Wd) (sz wo : Nat → Nat) (row : Nat → Nat) (m D : Nat) (h : AH) : Prop := mG v sz wo h ∧ mRw row m h ∧ mSt v sz wo row D m h
def fnd (row : Nat → Nat) (p : Nat) : Nat → Nat
  | 0 => 0
  | k + 1 => if row k = p then k else fnd row p k
theorem fnd_j {row : Nat → Nat} {p : Nat} : ∀ m j, j < m → row j = p → (∀ i, i < m → row i = p → i = j) → fnd row p m = j := by
  intro m
  induction m with
  | zero => intro j hj; omega
  | succ m ih =>
    intro j hj e u
    rw [fnd]
    by_cases c : row m = p
    · rw [if_pos c]
      exact u m (by omega) c
    · rw [if_neg c]
      refine ih j ?_ e (fun i hi => u i (by omega))
      rcases Nat.lt_or_ge j m with q | q
      · exact q
      · have : j = m := by omega
        rw [this] at e
        exact absurd e c
def tkP (v : Wd) (sz wo : Nat → Nat) (row : Nat → Nat) (m D p : Nat) : Int32 := tkS v sz wo row D (fnd row p m)
theorem tkP_j {v : Wd} {sz wo : Nat → Nat} {row : Nat → Nat} {m D : Nat} {n : Nat} (ro : rOk n row m) {j : Nat} (hj : j < m) : tkP v sz wo row m D (row j) = tkS v sz wo row D j := by
  unfold tkP
  rw [fnd_j m j hj rfl (fun i hi e => ro.2.2 i j hi hj e)]
theorem tkP_c {v : Wd} {sz wo : Nat → Nat} {row : Nat → Nat} {m D p : Nat} : tkP v sz wo row m D p = -1 ∨ ∃ q, q < v.n ∧ tkP v sz wo row m D p = nI q := (pk_c _ _).imp id (fun ⟨j, a, b, _⟩ => ⟨j, a, b⟩)
theorem cGo_t {v : Wd} {sz wo : Nat → Nat} {row : Nat → Nat} {D G : Nat} {h : AH} (g : cGo v sz wo row (pc G) D h) (r : gRow v.n G row) {p : Nat} (hp : G.testBit p = true) : h.1 43 p = tkP v sz wo row (pc G) D p := by
  obtain ⟨j, hj, rfl⟩ := r.2.2 p hp
  rw [tkP_j r.1 hj]
  exact g.2.2.2 j hj
theorem mGo_t {v : Wd} {sz wo : Nat → Nat} {row : Nat → Nat} {D G : Nat} {h : AH} (g : mGo v sz wo row (pc G) D h) (r : gRow v.n G row) {p : Nat} (hp : G.testBit p = true) : h.1 68 p = tkP v sz wo row (pc G) D p := by
  obtain ⟨j, hj, rfl⟩ := r.2.2 p hp
  rw [tkP_j r.1 hj]
  exact g.2.2.2 j hj
theorem cZ_agr {W : List (Nat × Nat)} {v : Wd} {sz wo : Nat → Nat} {h0 h : AH} (a : Agr W h0 h) (d : Wdis W ((38, 1000) :: (39, 1000) :: STc) = true) (Z : cZ v sz wo h0) : cZ v sz wo h := by
  have e := agr_on a d
  exact ⟨cF_eq (eqOn_sub e rfl) Z.1, cK_eq (eqOn_c e 38 (fun _ => rfl)) (eqOn_c e 39 (fun _ => rfl)) Z.2⟩
theorem cRw_agr {W : List (Nat × Nat)} {row : Nat → Nat} {m : Nat} {h0 h : AH} (a : Agr W h0 h) (d : Wdis W ((41, 2) :: (42, 1000) :: []) = true) (Z : cRw row m h0) : cRw row m h := by
  have e := agr_on a d
  unfold cRw at Z ⊢
  rw [e 41 2 rfl, eqOn_c e 42 (fun _ => rfl)]
  exact Z
theorem mRw_agr {W : List (Nat × Nat)} {row : Nat → Nat} {m : Nat} {h0 h : AH} (a : Agr W h0 h) (d : Wdis W ((56, 29) :: (67, 1000) :: []) = true) (Z : mRw row m h0) : mRw row m h := by
  have e := agr_on a d
  unfold mRw at Z ⊢
  rw [e 56 29 rfl, eqOn_c e 67 (fun _ => rfl)]
  exact Z
theorem mG_agr {W : List (Nat × Nat)} {v : Wd} {sz wo : Nat → Nat} {h0 h : AH} (a : Agr W h0 h) (d : Wdis W STm = true) (Z : mG v sz wo h0) : mG v sz wo h := mG_eq (agr_on a d) Z
theorem c_go0 {v : Wd} {sz wo : Nat → Nat} {row : Nat → Nat} {m D : Nat} {h : AH} (Z : cZ v sz wo h) (Rw : cRw row m h) (ro : rOk v.n row m) (hD : D < 2 ^ v.n) : ∃ h4 h5, f_X5_begin 41 (nI D) h = some h4 ∧ f_X5_go 41 0 h4 = some h5 ∧ cGo v sz wo row m D h5 ∧ Agr W_X5_go_i41 h h5 := by
  have e4 : f_X5_begin 41 (nI D) h = some (sI h 44 0 (nI D)) := by
    unfold f_X5_begin
    rw [rv_41_4, an_44, og_t (by decide), nm_id, lc0]
  have ag : Agr W_X5_begin_i41 h (sI h 44 0 (nI D)) := w_f_X5_begin_i41 _ _ _ e4
  obtain ⟨h5, e5, a, b, c⟩ := e_go (i := 0) (row := row) (m := m) ro hD (Nat.zero_le _) (cZ_agr ag rfl Z) (cRw_agr ag rfl Rw) ⟨fun j hj => by
    have : j = 0 := by omega
    subst this
    rw [sI_s]
    rfl, fun j hj => absurd hj (by omega)⟩
  exact ⟨_, h5, e4, e5, ⟨a, b, c⟩, agr_tr (agr_up ag rfl) (w_f_X5_go_i41 _ _ _ e5) rfl⟩
theorem m_go0 {v : Wd} {sz wo : Nat → Nat} {row : Nat → Nat} {m D : Nat} {h : AH} (Z : mG v sz wo h) (Rw : mRw row m h) (ro : rOk v.n row m) (hD : D < 2 ^ v.n) : ∃ h5, f_X12_go 56 (nI D) h = some h5 ∧ mGo v sz wo row m D h5 ∧ Agr W_X12_go_i56 h h5 := by
  obtain ⟨h5, e5, a, b, c⟩ := e_mgo ro hD Z Rw
  exact ⟨h5, e5, ⟨a, b, c⟩, w_f_X12_go_i56 _ _ _ e5⟩
theorem zi {R : Type} (b : Bool) (A B : R) : (if zb b = 0 then A else B) = (if b = true then B else A) := by cases b <;> simp [zb]
theorem n_of_G {n G : Nat} (g0 : 0 < G) (hG : G < 2 ^ n) : n ≠ 0 := by
  intro q
  rw [q] at hG
  omega
theorem g9 : G9 Rel := by
  intro h ⟨v, R⟩ a1 a2 a3 a4
  have hn := R.n6
  have h64 := pow_le6 hn
  suffices H : ∃ r h1 h2, f_X11_tried 0 a1 a2 a3 a4 h = some (r, h1) ∧ f_X12_tried 56 a1 a2 a3 a4 h1 = some (r, h2) by
    obtain ⟨r, h1, h2, e1, e2⟩ := H
    exact ⟨r, h1, h2, e1, e2, G_of R (w_f_X11_tried_i0 _ _ _ _ _ _ e1) (w_f_X12_tried_i56 _ _ _ _ _ _ e2) rfl rfl⟩
  cases hp : ptB v.n a1 a2 with
  | false =>
    refine ⟨-1000000, h, sI h 56 0 0, ?_, ?_⟩
    · unfold f_X11_tried
      simp only [e_isParty hn R.cn, hp, ob_some, zi, f_X11_tried_31, Bool.false_eq_true, if_false]
    · unfold f_X12_tried
      simp only [nm_id, e_isVisit hn (R.thr (x := 0)).mn, hp, ob_some, zi, f_X12_tried_41, Bool.false_eq_true, if_false]
  | true =>
    obtain ⟨u, G, hu, rfl, g0, hG, rfl⟩ := (ptB_iff hn).mp hp
    have n0 := n_of_G g0 hG
    -- the model
    have M : ∀ h1, RelV v h1 → ∃ h2, f_X12_tried 56 (nI u) (nI G) a3 a4 h1 = some (if ordB v.n G a3 = true ∧ guB v.n (nI G) a4 = true then tkP v (fun q => v.it q 3) v.wo (rowN a3.toNatClampNeg (pc G)) (pc G) (door v u G) a4.toNatClampNeg else -1000000, h2) := by
      intro h1 R1
      have R2 := R1.thr (x := 0)
      obtain ⟨k, ek, fk⟩ := e_layM hn hG g0 a3 (sI h1 56 0 0) R2.mn
      have R3 : RelV v k := rel_agr (w_f_X12_layOrder_i56 _ _ _ _ ek) rfl R2
      unfold f_X12_tried
      simp only [nm_id, e_isVisit hn R2.mn, hp, ob_some, zi, if_true, ek, f_X12_tried_41]
      cases hq : ordB v.n G a3 with
      | false => exact ⟨k, by simp⟩
      | true =>
        simp only [if_true, e_X12_isPerson, R3.mn, ob_some, zi, e_X12_has]
        cases hg : guB v.n (nI G) a4 with
        | false =>
          unfold guB at hg
          rw [Bool.and_eq_false_iff] at hg
          rcases hg with hg | hg
          · exact ⟨k, by simp [hg]⟩
          · cases knB (nI v.n) a4 with
            | false => exact ⟨k, by simp⟩
            | true => exact ⟨k, by simp [hg]⟩
        | true =>
          obtain ⟨p, hp', rfl, pb⟩ := (guB_iff hn (by omega)).mp hg
          unfold guB at hg
          rw [Bool.and_eq_true] at hg
          have gr := ord_row hn hG hq
          obtain ⟨h5, e5, g5, a5⟩ := m_go0 R3.mG (fk hq) gr.1 (door_lt v u G)
          simp only [hg.1, hg.2, if_true, (R3.mB n0).door hu (show G < 64 by omega), ob_some, e5, ov_some, rv_0_0, rv_0_1, rv_0_2, rv_0_3, rv_0_4, rv_0_6, rv_0_7, rv_0_9, rv_0_10, rv_0_11, rv_0_12, rv_0_13, rv_0_14, rv_1_0, an_2, rv_3_0, rv_3_1, an_4, an_5, rv_6_0, rv_6_1, an_7, an_8, rv_9_0, rv_9_1, an_10, an_11, rv_12_0, rv_12_1, an_13, an_14, rv_15_0, rv_15_1, an_16, an_17, rv_18_0, rv_18_1, an_19, an_20, rv_21_0, rv_21_1, an_22, an_23, rv_24_0, rv_24_1, rv_24_2, an_25, an_26, an_27, rv_28_0, rv_28_1, rv_28_2, an_29, an_30, an_31, rv_32_0, rv_32_1, an_33, an_34, rv_35_0, rv_35_1, rv_35_2, rv_35_3, rv_35_4, rv_35_5, rv_35_6, an_36, an_37, an_38, an_39, an_40, rv_41_0, rv_41_1, rv_41_3, rv_41_4, rv_41_5, an_42, an_43, an_44, an_45, rv_46_0, rv_46_1, rv_46_2, rv_46_3, rv_46_4, rv_46_6, an_47, an_48, rv_49_0, rv_49_1, an_50, rv_51_0, rv_51_1, rv_51_2, rv_51_3, rv_51_4, rv_51_6, rv_51_7, an_52, an_53, an_54, an_55, rv_56_1, rv_56_2, rv_56_3, rv_56_4, rv_56_15, rv_56_16, rv_56_17, rv_56_19, rv_56_22, rv_56_23, rv_56_24, rv_56_25, rv_56_26, rv_56_27, rv_56_28, rv_56_31, rv_56_33, rv_56_35, rv_56_36, rv_56_37, rv_56_39, rv_56_40, rv_56_41, rv_56_42, rv_56_43, rv_56_44, rv_56_46, rv_56_47, rv_56_48, rv_56_49, rv_56_51, rv_56_52, rv_56_54, an_57, an_58, an_59, an_60, an_61, an_62, an_63, an_64, an_65, an_66, an_67, an_68, an_69, an_70, an_71, an_72, an_73, an_74, an_75, an_76, an_77, an_78, an_79, an_80, an_81, an_82, an_83, an_84, an_85, an_86, an_87, true_and]
          rw [og_ix (by omega) (by omega), nI_clamp (by omega), mGo_t g5 gr pb]
          exact ⟨_, rfl⟩
    cases hg : guB v.n (nI G) a4 with
    | false =>
      obtain ⟨h2, e2⟩ := M h R
      rw [if_neg (by rw [hg]; simp)] at e2
      refine ⟨-1000000, h, h2, ?_, e2⟩
      unfold f_X11_tried
      simp only [e_isParty hn R.cn, hp, ob_some, zi, f_X11_tried_31, if_true, e_isGuestC R.cn, hg, Bool.false_eq_true, if_false]
    | true =>
      obtain ⟨k, ek, fk⟩ := e_readC hn hG a3 h
      have Rk : RelV v k := rel_agr (w_f_X5_readOrder_i41 _ _ _ _ ek) rfl R
      cases hq : ordB v.n G a3 with
      | false =>
        obtain ⟨h2, e2⟩ := M k Rk
        rw [if_neg (by rw [hq]; simp)] at e2
        refine ⟨-1000000, k, h2, ?_, e2⟩
        unfold f_X11_tried
        simp only [e_isParty hn R.cn, hp, ob_some, zi, f_X11_tried_31, if_true, e_isGuestC R.cn, hg, rv_0_0, rv_0_1, rv_0_2, rv_0_3, rv_0_4, rv_0_6, rv_0_7, rv_0_9, rv_0_10, rv_0_11, rv_0_12, rv_0_13, rv_0_14, rv_1_0, an_2, rv_3_0, rv_3_1, an_4, an_5, rv_6_0, rv_6_1, an_7, an_8, rv_9_0, rv_9_1, an_10, an_11, rv_12_0, rv_12_1, an_13, an_14, rv_15_0, rv_15_1, an_16, an_17, rv_18_0, rv_18_1, an_19, an_20, rv_21_0, rv_21_1, an_22, an_23, rv_24_0, rv_24_1, rv_24_2, an_25, an_26, an_27, rv_28_0, rv_28_1, rv_28_2, an_29, an_30, an_31, rv_32_0, rv_32_1, an_33, an_34, rv_35_0, rv_35_1, rv_35_2, rv_35_3, rv_35_4, rv_35_5, rv_35_6, an_36, an_37, an_38, an_39, an_40, rv_41_0, rv_41_1, rv_41_3, rv_41_4, rv_41_5, an_42, an_43, an_44, an_45, rv_46_0, rv_46_1, rv_46_2, rv_46_3, rv_46_4, rv_46_6, an_47, an_48, rv_49_0, rv_49_1, an_50, rv_51_0, rv_51_1, rv_51_2, rv_51_3, rv_51_4, rv_51_6, rv_51_7, an_52, an_53, an_54, an_55, rv_56_1, rv_56_2, rv_56_3, rv_56_4, rv_56_15, rv_56_16, rv_56_17, rv_56_19, rv_56_22, rv_56_23, rv_56_24, rv_56_25, rv_56_26, rv_56_27, rv_56_28, rv_56_31, rv_56_33, rv_56_35, rv_56_36, rv_56_37, rv_56_39, rv_56_40, rv_56_41, rv_56_42, rv_56_43, rv_56_44, rv_56_46, rv_56_47, rv_56_48, rv_56_49, rv_56_51, rv_56_52, rv_56_54, an_57, an_58, an_59, an_60, an_61, an_62, an_63, an_64, an_65, an_66, an_67, an_68, an_69, an_70, an_71, an_72, an_73, an_74, an_75, an_76, an_77, an_78, an_79, an_80, an_81, an_82, an_83, an_84, an_85, an_86, an_87, ek, hq, Bool.false_eq_true, if_false]
      | true =>
        have gr := ord_row hn hG hq
        obtain ⟨p, hp', rfl, pb⟩ := (guB_iff hn (by omega)).mp hg
        obtain ⟨h3, e3, B3, Z3, a3'⟩ := e_openDoor (Rk.cB n0) hu (show G < 64 by omega)
        obtain ⟨h4, h5, e4, e5, g5, a5⟩ := c_go0 Z3 (cRw_agr a3' rfl (fk hq)) gr.1 (door_lt v u G)
        have R5 : RelV v h5 := rel_agr a5 rfl (rel_agr a3' rfl Rk)
        obtain ⟨h2, e2⟩ := M h5 R5
        rw [if_pos ⟨hq, hg⟩, nI_clamp (by omega)] at e2
        refine ⟨_, h5, h2, ?_, e2⟩
        unfold f_X11_tried
        simp only [e_isParty hn R.cn, hp, ob_some, zi, if_true, e_isGuestC R.cn, hg, rv_0_0, rv_0_1, rv_0_2, rv_0_3, rv_0_4, rv_0_6, rv_0_7, rv_0_9, rv_0_10, rv_0_11, rv_0_12, rv_0_13, rv_0_14, rv_1_0, an_2, rv_3_0, rv_3_1, an_4, an_5, rv_6_0, rv_6_1, an_7, an_8, rv_9_0, rv_9_1, an_10, an_11, rv_12_0, rv_12_1, an_13, an_14, rv_15_0, rv_15_1, an_16, an_17, rv_18_0, rv_18_1, an_19, an_20, rv_21_0, rv_21_1, an_22, an_23, rv_24_0, rv_24_1, rv_24_2, an_25, an_26, an_27, rv_28_0, rv_28_1, rv_28_2, an_29, an_30, an_31, rv_32_0, rv_32_1, an_33, an_34, rv_35_0, rv_35_1, rv_35_2, rv_35_3, rv_35_4, rv_35_5, rv_35_6, an_36, an_37, an_38, an_39, an_40, rv_41_0, rv_41_1, rv_41_3, rv_41_4, rv_41_5, an_42, an_43, an_44, an_45, rv_46_0, rv_46_1, rv_46_2, rv_46_3, rv_46_4, rv_46_6, an_47, an_48, rv_49_0, rv_49_1, an_50, rv_51_0, rv_51_1, rv_51_2, rv_51_3, rv_51_4, rv_51_6, rv_51_7, an_52, an_53, an_54, an_55, rv_56_1, rv_56_2, rv_56_3, rv_56_4, rv_56_15, rv_56_16, rv_56_17, rv_56_19, rv_56_22, rv_56_23, rv_56_24, rv_56_25, rv_56_26, rv_56_27, rv_56_28, rv_56_31, rv_56_33, rv_56_35, rv_56_36, rv_56_37, rv_56_39, rv_56_40, rv_56_41, rv_56_42, rv_56_43, rv_56_44, rv_56_46, rv_56_47, rv_56_48, rv_56_49, rv_56_51, rv_56_52, rv_56_54, an_57, an_58, an_59, an_60, an_61, an_62, an_63, an_64, an_65, an_66, an_67, an_68, an_69, an_70, an_71, an_72, an_73, an_74, an_75, an_76, an_77, an_78, an_79, an_80, an_81, an_82, an_83, an_84, an_85, an_86, an_87, ek, hq, e3, e4, e5, ov_some]
        rw [og_ix (by omega) (by omega), nI_clamp (by omega), cGo_t g5 gr pb]
/-! hide -/
def hdS (t : Nat → Int32) (x : Int32) (D : Nat) : Nat → Int32
  | 0 => 0
  | k + 1 => if D.testBit k = true then hdS t x D k ||| (if t k = x then (1 : Int32) <<< (nI k &&& 31) else 0) else hdS t x D k
theorem hdS_ext {t : Nat → Int32} {x : Int32} {D n : Nat} (hD : D < 2 ^ n) : ∀ k, n ≤ k → hdS t x D k = hdS t x D n := by
  intro k
  induction k with
  | zero =>
    intro h
    have : n = 0 := by omega
    rw [this]
  | succ k ih =>
    intro h
    by_cases e : n = k + 1
    · rw [e]
    · rw [hdS, if_neg, ih (by omega)]
      intro b
      have := tb_lt hD b
      omega
theorem e_hideC {v : Wd} {sz wo : Nat → Nat} {row : Nat → Nat} {G D p : Nat} {h : AH} (x : Int32) (hn : v.n ≤ 6) (Z : cZ v sz wo h) (Rw : cRw row (pc G) h) (gr : gRow v.n G row) (hD : D < 2 ^ v.n) (hp : p < v.n) (pb : G.testBit p = true) : ∃ h', f_X11_hide_56 FU 0 (nI p) x (nI D) 0 0 h = some (hdS (fun k => tkP v sz wo row (pc G) (rmv D (nI k)) p) x D v.n, h') := by
  have h64 := pow_le6 hn
  rw [← hdS_ext hD 6 hn]
  refine lp (fun n i (s : Int32 × AH) => ∃ h', f_X11_hide_56 n 0 (nI p) x (nI D) s.1 (nI i) s.2 = some (hdS (fun k => tkP v sz wo row (pc G) (rmv D (nI k)) p) x D 6, h')) (fun i s => s.1 = hdS (fun k => tkP v sz wo row (pc G) (rmv D (nI k)) p) x D i ∧ cZ v sz wo s.2 ∧ cRw row (pc G) s.2) 6 (by decide) ?_ ?_ (s := (0, h)) ⟨rfl, Z, Rw⟩
  · rintro n ⟨s, g⟩ ⟨rfl, Z, Rw⟩
    simp only
    rw [f_X11_hide_56, if_pos (by decide)]
    exact ⟨g, rfl⟩
  · rintro n i ⟨s, g⟩ hi ⟨rfl, Z, Rw⟩ K
    simp only at K ⊢
    rw [f_X11_hide_56]
    simp only [if_neg (show ¬ (6 : Int32) ≤ nI i by rw [show (6 : Int32) = nI 6 from rfl, nI_leI (by decide) (by omega)]; omega), e_X11_isIn, ob_some, inS_tb D (by omega) i hi, zi, f_X11_hide_125, f_X11_hide_122, nm_id, nI_1, rv_0_0, rv_0_1, rv_0_2, rv_0_3, rv_0_4, rv_0_6, rv_0_7, rv_0_9, rv_0_10, rv_0_11, rv_0_12, rv_0_13, rv_0_14, rv_1_0, an_2, rv_3_0, rv_3_1, an_4, an_5, rv_6_0, rv_6_1, an_7, an_8, rv_9_0, rv_9_1, an_10, an_11, rv_12_0, rv_12_1, an_13, an_14, rv_15_0, rv_15_1, an_16, an_17, rv_18_0, rv_18_1, an_19, an_20, rv_21_0, rv_21_1, an_22, an_23, rv_24_0, rv_24_1, rv_24_2, an_25, an_26, an_27, rv_28_0, rv_28_1, rv_28_2, an_29, an_30, an_31, rv_32_0, rv_32_1, an_33, an_34, rv_35_0, rv_35_1, rv_35_2, rv_35_3, rv_35_4, rv_35_5, rv_35_6, an_36, an_37, an_38, an_39, an_40, rv_41_0, rv_41_1, rv_41_3, rv_41_4, rv_41_5, an_42, an_43, an_44, an_45, rv_46_0, rv_46_1, rv_46_2, rv_46_3, rv_46_4, rv_46_6, an_47, an_48, rv_49_0, rv_49_1, an_50, rv_51_0, rv_51_1, rv_51_2, rv_51_3, rv_51_4, rv_51_6, rv_51_7, an_52, an_53, an_54, an_55, rv_56_1, rv_56_2, rv_56_3, rv_56_4, rv_56_15, rv_56_16, rv_56_17, rv_56_19, rv_56_22, rv_56_23, rv_56_24, rv_56_25, rv_56_26, rv_56_27, rv_56_28, rv_56_31, rv_56_33, rv_56_35, rv_56_36, rv_56_37, rv_56_39, rv_56_40, rv_56_41, rv_56_42, rv_56_43, rv_56_44, rv_56_46, rv_56_47, rv_56_48, rv_56_49, rv_56_51, rv_56_52, rv_56_54, an_57, an_58, an_59, an_60, an_61, an_62, an_63, an_64, an_65, an_66, an_67, an_68, an_69, an_70, an_71, an_72, an_73, an_74, an_75, an_76, an_77, an_78, an_79, an_80, an_81, an_82, an_83, an_84, an_85, an_86, an_87]
    cases hb : D.testBit i with
    | false => exact K (_, g) ⟨by rw [hdS, if_neg (by rw [hb]; decide)], Z, Rw⟩
    | true =>
      have ra := rmv_all D (by omega) i hi
      obtain ⟨h4, h5, e4, e5, g5, a5⟩ := c_go0 (D := rmv D (nI i)) Z Rw gr.1 (by omega)
      simp only [if_true, ra.1, e4, ov_some, e5, og_ix (show p < 6 by omega) (by omega), nI_clamp (show p < 2 ^ 31 by omega), cGo_t g5 gr pb]
      by_cases c : tkP v sz wo row (pc G) (rmv D (nI i)) p = x
      · rw [if_pos c]
        exact K (_, h5) ⟨by rw [hdS, if_pos hb, if_pos c], g5.1, g5.2.1⟩
      · rw [if_neg c]
        exact K (_, h5) ⟨by rw [hdS, if_pos hb, if_neg c], g5.1, g5.2.1⟩
theorem e_hideM {v : Wd} {sz wo : Nat → Nat} {row : Nat → Nat} {G D p : Nat} {h : AH} (x : Int32) (Z : mG v sz wo h) (Rw : mRw row (pc G) h) (gr : gRow v.n G row) (hD : D < 2 ^ v.n) (hp : p < v.n) (pb : G.testBit p = true) : ∃ h', f_X12_hide_50 FU 56 (nI p) x (nI D) 0 0 h = some (hdS (fun k => tkP v sz wo row (pc G) (rmv D (nI k)) p) x D v.n, h') := by
  have hn := Z.1.1.1
  have h64 := pow_le6 hn
  refine lp (fun n i (s : Int32 × AH) => ∃ h', f_X12_hide_50 n 56 (nI p) x (nI D) s.1 (nI i) s.2 = some (hdS (fun k => tkP v sz wo row (pc G) (rmv D (nI k)) p) x D v.n, h')) (fun i s => s.1 = hdS (fun k => tkP v sz wo row (pc G) (rmv D (nI k)) p) x D i ∧ mG v sz wo s.2 ∧ mRw row (pc G) s.2) v.n (by omega) ?_ ?_ (s := (0, h)) ⟨rfl, Z, Rw⟩
  · rintro n ⟨s, g⟩ ⟨rfl, Z, Rw⟩
    simp only
    rw [f_X12_hide_50, Z.1.2.1, if_pos (by rw [nI_leI (by omega) (by omega)]; omega)]
    exact ⟨g, rfl⟩
  · rintro n i ⟨s, g⟩ hi ⟨rfl, Z, Rw⟩ K
    simp only at K ⊢
    have Z : mG v sz wo g := Z
    rw [f_X12_hide_50]
    simp only [Z.1.2.1, if_neg (show ¬ nI v.n ≤ nI i by rw [nI_leI (by omega) (by omega)]; omega), e_X12_has, ob_some, inS_tb D (by omega) i (by omega), zi, f_X12_hide_110, f_X12_hide_107, nm_id, nI_1, rv_0_0, rv_0_1, rv_0_2, rv_0_3, rv_0_4, rv_0_6, rv_0_7, rv_0_9, rv_0_10, rv_0_11, rv_0_12, rv_0_13, rv_0_14, rv_1_0, an_2, rv_3_0, rv_3_1, an_4, an_5, rv_6_0, rv_6_1, an_7, an_8, rv_9_0, rv_9_1, an_10, an_11, rv_12_0, rv_12_1, an_13, an_14, rv_15_0, rv_15_1, an_16, an_17, rv_18_0, rv_18_1, an_19, an_20, rv_21_0, rv_21_1, an_22, an_23, rv_24_0, rv_24_1, rv_24_2, an_25, an_26, an_27, rv_28_0, rv_28_1, rv_28_2, an_29, an_30, an_31, rv_32_0, rv_32_1, an_33, an_34, rv_35_0, rv_35_1, rv_35_2, rv_35_3, rv_35_4, rv_35_5, rv_35_6, an_36, an_37, an_38, an_39, an_40, rv_41_0, rv_41_1, rv_41_3, rv_41_4, rv_41_5, an_42, an_43, an_44, an_45, rv_46_0, rv_46_1, rv_46_2, rv_46_3, rv_46_4, rv_46_6, an_47, an_48, rv_49_0, rv_49_1, an_50, rv_51_0, rv_51_1, rv_51_2, rv_51_3, rv_51_4, rv_51_6, rv_51_7, an_52, an_53, an_54, an_55, rv_56_1, rv_56_2, rv_56_3, rv_56_4, rv_56_15, rv_56_16, rv_56_17, rv_56_19, rv_56_22, rv_56_23, rv_56_24, rv_56_25, rv_56_26, rv_56_27, rv_56_28, rv_56_31, rv_56_33, rv_56_35, rv_56_36, rv_56_37, rv_56_39, rv_56_40, rv_56_41, rv_56_42, rv_56_43, rv_56_44, rv_56_46, rv_56_47, rv_56_48, rv_56_49, rv_56_51, rv_56_52, rv_56_54, an_57, an_58, an_59, an_60, an_61, an_62, an_63, an_64, an_65, an_66, an_67, an_68, an_69, an_70, an_71, an_72, an_73, an_74, an_75, an_76, an_77, an_78, an_79, an_80, an_81, an_82, an_83, an_84, an_85, an_86, an_87]
    cases hb : D.testBit i with
    | false => exact K (_, g) ⟨by rw [hdS, if_neg (by rw [hb]; decide)], Z, Rw⟩
    | true =>
      have ra := rmv_all D (by omega) i (by omega)
      obtain ⟨h5, e5, g5, a5⟩ := m_go0 (D := rmv D (nI i)) Z Rw gr.1 (by omega)
      simp only [if_true, ra.1, ov_some, e5, og_ix (show p < 6 by omega) (by omega), nI_clamp (show p < 2 ^ 31 by omega), mGo_t g5 gr pb]
      by_cases c : tkP v sz wo row (pc G) (rmv D (nI i)) p = x
      · rw [if_pos c]
        exact K (_, h5) ⟨by rw [hdS, if_pos hb, if_pos c], g5.1, g5.2.1⟩
      · rw [if_neg c]
        exact K (_, h5) ⟨by rw [hdS, if_pos hb, if_neg c], g5.1, g5.2.1⟩
theorem g13 : G13 Rel := by
  intro h ⟨v, R⟩ a1 a2 a3 a4 a5
  have hn := R.n6
  have h64 := pow_le6 hn
  suffices H : ∃ r h1 h2, f_X11_hide 0 a1 a2 a3 a4 a5 h = some (r, h1) ∧ f_X12_hide 56 a1 a2 a3 a4 a5 h1 = some (r, h2) by
    obtain ⟨r, h1, h2, e1, e2⟩ := H
    exact ⟨r, h1, h2, e1, e2, G_of R (w_f_X11_hide_i0 _ _ _ _ _ _ _ e1) (w_f_X12_hide_i56 _ _ _ _ _ _ _ e2) rfl rfl⟩
  cases hp : ptB v.n a1 a2 with
  | false =>
    refine ⟨-1, h, sI h 56 0 0, ?_, ?_⟩
    · unfold f_X11_hide
      simp only [e_isParty hn R.cn, hp, ob_some, zi, f_X11_hide_40, Bool.false_eq_true, if_false]
    · unfold f_X12_hide
      simp only [nm_id, e_isGuestM hn (R.thr (x := 0)).mn, hp, Bool.false_and, ob_some, zi, f_X12_hide_34, Bool.false_eq_true, if_false]
  | true =>
    obtain ⟨u, G, hu, rfl, g0, hG, rfl⟩ := (ptB_iff hn).mp hp
    have n0 := n_of_G g0 hG
    cases hg : guB v.n (nI G) a4 with
    | false =>
      refine ⟨-1, h, sI h 56 0 0, ?_, ?_⟩
      · unfold f_X11_hide
        simp only [e_isParty hn R.cn, hp, ob_some, zi, f_X11_hide_40, if_true, e_isGuestC R.cn, hg, Bool.false_eq_true, if_false]
      · unfold f_X12_hide
        simp only [nm_id, e_isGuestM hn (R.thr (x := 0)).mn, hp, hg, Bool.true_and, ob_some, zi, f_X12_hide_34, Bool.false_eq_true, if_false]
    | true =>
      cases hk : koB v.n a5 with
      | false =>
        refine ⟨-1, h, sI h 56 0 0, ?_, ?_⟩
        · unfold f_X11_hide
          simp only [e_isParty hn R.cn, hp, ob_some, zi, f_X11_hide_40, if_true, e_isGuestC R.cn, hg, e_known1 R.cn, hk, Bool.false_eq_true, if_false]
        · unfold f_X12_hide
          simp only [nm_id, e_isGuestM hn (R.thr (x := 0)).mn, hp, hg, Bool.true_and, ob_some, zi, if_true, e_isPair (R.thr (x := 0)).mn, hk, f_X12_hide_34, Bool.false_eq_true, if_false]
      | true =>
        obtain ⟨k, ek, fk⟩ := e_readC hn hG a3 h
        have Rk : RelV v k := rel_agr (w_f_X5_readOrder_i41 _ _ _ _ ek) rfl R
        cases hq : ordB v.n G a3 with
        | false =>
          have R2 := Rk.thr (x := 0)
          obtain ⟨m, em, fm⟩ := e_layM hn hG g0 a3 (sI k 56 0 0) R2.mn
          refine ⟨-1, k, m, ?_, ?_⟩
          · unfold f_X11_hide
            simp only [e_isParty hn R.cn, hp, ob_some, zi, f_X11_hide_40, if_true, e_isGuestC R.cn, hg, e_known1 R.cn, hk, rv_0_0, rv_0_1, rv_0_2, rv_0_3, rv_0_4, rv_0_6, rv_0_7, rv_0_9, rv_0_10, rv_0_11, rv_0_12, rv_0_13, rv_0_14, rv_1_0, an_2, rv_3_0, rv_3_1, an_4, an_5, rv_6_0, rv_6_1, an_7, an_8, rv_9_0, rv_9_1, an_10, an_11, rv_12_0, rv_12_1, an_13, an_14, rv_15_0, rv_15_1, an_16, an_17, rv_18_0, rv_18_1, an_19, an_20, rv_21_0, rv_21_1, an_22, an_23, rv_24_0, rv_24_1, rv_24_2, an_25, an_26, an_27, rv_28_0, rv_28_1, rv_28_2, an_29, an_30, an_31, rv_32_0, rv_32_1, an_33, an_34, rv_35_0, rv_35_1, rv_35_2, rv_35_3, rv_35_4, rv_35_5, rv_35_6, an_36, an_37, an_38, an_39, an_40, rv_41_0, rv_41_1, rv_41_3, rv_41_4, rv_41_5, an_42, an_43, an_44, an_45, rv_46_0, rv_46_1, rv_46_2, rv_46_3, rv_46_4, rv_46_6, an_47, an_48, rv_49_0, rv_49_1, an_50, rv_51_0, rv_51_1, rv_51_2, rv_51_3, rv_51_4, rv_51_6, rv_51_7, an_52, an_53, an_54, an_55, rv_56_1, rv_56_2, rv_56_3, rv_56_4, rv_56_15, rv_56_16, rv_56_17, rv_56_19, rv_56_22, rv_56_23, rv_56_24, rv_56_25, rv_56_26, rv_56_27, rv_56_28, rv_56_31, rv_56_33, rv_56_35, rv_56_36, rv_56_37, rv_56_39, rv_56_40, rv_56_41, rv_56_42, rv_56_43, rv_56_44, rv_56_46, rv_56_47, rv_56_48, rv_56_49, rv_56_51, rv_56_52, rv_56_54, an_57, an_58, an_59, an_60, an_61, an_62, an_63, an_64, an_65, an_66, an_67, an_68, an_69, an_70, an_71, an_72, an_73, an_74, an_75, an_76, an_77, an_78, an_79, an_80, an_81, an_82, an_83, an_84, an_85, an_86, an_87, ek, hq, Bool.false_eq_true, if_false]
          · unfold f_X12_hide
            simp only [nm_id, e_isGuestM hn R2.mn, hp, hg, Bool.true_and, ob_some, zi, if_true, e_isPair R2.mn, hk, em, hq, f_X12_hide_34, Bool.false_eq_true, if_false]
        | true =>
          have gr := ord_row hn hG hq
          obtain ⟨p, hp', rfl, pb⟩ := (guB_iff hn (by omega)).mp hg
          obtain ⟨h3, e3, B3, Z3, a3'⟩ := e_openDoor (Rk.cB n0) hu (show G < 64 by omega)
          obtain ⟨h5, e5⟩ := e_hideC a5 hn Z3 (cRw_agr a3' rfl (fk hq)) gr (door_lt v u G) hp' pb
          have E1 : f_X11_hide 0 (nI u) (nI G) a3 (nI p) a5 h = some (hdS (fun k => tkP v (fun q => v.it q 3) v.wo (rowN a3.toNatClampNeg (pc G)) (pc G) (rmv (door v u G) (nI k)) p) a5 (door v u G) v.n, h5) := by
            unfold f_X11_hide
            simp only [e_isParty hn R.cn, hp, ob_some, zi, if_true, e_isGuestC R.cn, hg, e_known1 R.cn, hk, rv_0_0, rv_0_1, rv_0_2, rv_0_3, rv_0_4, rv_0_6, rv_0_7, rv_0_9, rv_0_10, rv_0_11, rv_0_12, rv_0_13, rv_0_14, rv_1_0, an_2, rv_3_0, rv_3_1, an_4, an_5, rv_6_0, rv_6_1, an_7, an_8, rv_9_0, rv_9_1, an_10, an_11, rv_12_0, rv_12_1, an_13, an_14, rv_15_0, rv_15_1, an_16, an_17, rv_18_0, rv_18_1, an_19, an_20, rv_21_0, rv_21_1, an_22, an_23, rv_24_0, rv_24_1, rv_24_2, an_25, an_26, an_27, rv_28_0, rv_28_1, rv_28_2, an_29, an_30, an_31, rv_32_0, rv_32_1, an_33, an_34, rv_35_0, rv_35_1, rv_35_2, rv_35_3, rv_35_4, rv_35_5, rv_35_6, an_36, an_37, an_38, an_39, an_40, rv_41_0, rv_41_1, rv_41_3, rv_41_4, rv_41_5, an_42, an_43, an_44, an_45, rv_46_0, rv_46_1, rv_46_2, rv_46_3, rv_46_4, rv_46_6, an_47, an_48, rv_49_0, rv_49_1, an_50, rv_51_0, rv_51_1, rv_51_2, rv_51_3, rv_51_4, rv_51_6, rv_51_7, an_52, an_53, an_54, an_55, rv_56_1, rv_56_2, rv_56_3, rv_56_4, rv_56_15, rv_56_16, rv_56_17, rv_56_19, rv_56_22, rv_56_23, rv_56_24, rv_56_25, rv_56_26, rv_56_27, rv_56_28, rv_56_31, rv_56_33, rv_56_35, rv_56_36, rv_56_37, rv_56_39, rv_56_40, rv_56_41, rv_56_42, rv_56_43, rv_56_44, rv_56_46, rv_56_47, rv_56_48, rv_56_49, rv_56_51, rv_56_52, rv_56_54, an_57, an_58, an_59, an_60, an_61, an_62, an_63, an_64, an_65, an_66, an_67, an_68, an_69, an_70, an_71, an_72, an_73, an_74, an_75, an_76, an_77, an_78, an_79, an_80, an_81, an_82, an_83, an_84, an_85, an_86, an_87, ek, hq, e3, e5]
          have R5 : RelV v h5 := rel_agr (w_f_X11_hide_i0 _ _ _ _ _ _ _ E1) rfl R
          have R2 := R5.thr (x := 0)
          obtain ⟨m, em, fm⟩ := e_layM hn hG g0 a3 (sI h5 56 0 0) R2.mn
          have R3 : RelV v m := rel_agr (w_f_X12_layOrder_i56 _ _ _ _ em) rfl R2
          obtain ⟨h6, e6⟩ := e_hideM a5 R3.mG (fm hq) gr (door_lt v u G) hp' pb
          refine ⟨_, h5, h6, E1, ?_⟩
          unfold f_X12_hide
          simp only [nm_id, e_isGuestM hn R2.mn, hp, hg, Bool.true_and, ob_some, zi, if_true, e_isPair R2.mn, hk, em, hq, (R3.mB n0).door hu (show G < 64 by omega), e6]
