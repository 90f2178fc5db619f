/-! an evening: both sides -/
def cD (v : Wd) (h : AH) : Prop := v.E ≤ 30 ∧ h.1 32 2 = nI v.E ∧ ∀ e, e < v.E → ∀ p, p < v.n → h.1 33 (e * 6 + p) = v.di e p
def mD (v : Wd) (h : AH) : Prop := v.E ≤ 30 ∧ h.1 56 32 = nI v.E ∧ ∀ e, e < v.E → ∀ p, p < v.n → h.1 69 (e * 6 + p) = v.di e p
theorem cD_agr {W : List (Nat × Nat)} {v : Wd} {h0 h : AH} (a : Agr W h0 h) (d : Wdis W ((32, 2) :: (33, 1000) :: []) = true) (F : cD v h0) : cD v h := by
  have e := agr_on a d
  unfold cD at F ⊢
  rw [e 32 2 rfl, eqOn_c e 33 (fun _ => rfl)]
  exact F
theorem mD_agr {W : List (Nat × Nat)} {v : Wd} {h0 h : AH} (a : Agr W h0 h) (d : Wdis W ((56, 32) :: (69, 1000) :: []) = true) (F : mD v h0) : mD v h := by
  have e := agr_on a d
  unfold mD at F ⊢
  rw [e 56 32 rfl, eqOn_c e 69 (fun _ => rfl)]
  exact F
theorem nbeq {a k : Nat} (h : k ≠ a) : Nat.beq a k = false := by
  cases w : Nat.beq a k with
  | false => rfl
  | true => exact absurd (Nat.eq_of_beq_eq_true w).symm h
theorem agr_c1 {a x k : Nat} {h0 h : AH} (ag : Agr ((a, x) :: []) h0 h) (hk : k ≠ a) : h.1 k = h0.1 k := agr_cell ag k (by simp [nbeq hk])
theorem agr_c3 {a b c x y z k : Nat} {h0 h : AH} (ag : Agr ((a, x) :: (b, y) :: (c, z) :: []) h0 h) (h1 : k ≠ a) (h2 : k ≠ b) (h3 : k ≠ c) : h.1 k = h0.1 k := agr_cell ag k (by simp [nbeq h1, nbeq h2, nbeq h3])
theorem e_settle39 {v : Wd} {u G : Nat} {row : Nat → Nat} {base : Nat → Int32} (hn : v.n ≤ 6) (r : gRow v.n G row) : ∀ n k g, k ≤ pc G → pc G - k < n → cP v g → szB v (fun q => v.it q 3) v.wo → g.1 41 2 = nI (pc G) → (∀ j, j < pc G → g.1 42 j = nI (row j)) → (∀ j, j < pc G → g.1 43 (row j) = evT v u G row j) → Ph v u G row base (fun j => j < k) (g.1 25) (g.1 26) (g.1 27) → ∃ h', f_X9_settle_39 n 24 41 3 (nI k) g = some h' ∧ Ph v u G row base (fun _ => True) (h'.1 25) (h'.1 26) (h'.1 27) := by
  intro n
  have m6 := r.1.1
  induction n with
  | zero => intro k g _ q; omega
  | succ n ih =>
    intro k g hk hkn C Z g41 g42 g43 H
    rw [f_X9_settle_39, g41]
    by_cases e : k = pc G
    · subst e
      rw [if_pos (by rw [nI_leI (by omega) (by omega)]; omega)]
      exact ⟨g, rfl, Ph_cong (fun j hj => ⟨fun _ => trivial, fun _ => hj⟩) H⟩
    · have km : k < pc G := by omega
      have rn := r.1.2.1 k km
      rw [if_neg (by rw [nI_leI (by omega) (by omega)]; omega), rv_41_1, an_42, og_ix (by omega) (by omega), nm_id, nI_clamp (by omega), g42 k km, rv_41_3, an_43, og_ix (by omega) (by omega), nI_clamp (by omega), g43 k km, nm_id, rv_24_0, an_25, og_ix (by omega) (by omega), nm_id]
      have pe : ∀ j, j < pc G → ((fun j => j < k) j ∨ j = k ↔ j < k + 1) := fun j hj => ⟨fun w => by rcases w with w | w <;> omega, fun w => by
        by_cases q : j = k
        · exact Or.inr q
        · exact Or.inl (show j < k by omega)⟩
      rcases pk_c (v := v) (sz := fun q => v.it q 3) (wo := v.wo) (row k) (stS v (fun q => v.it q 3) v.wo row (door v u G) k) with a | ⟨q, hq, a, _⟩
      · have a' : evT v u G row k = -1 := a
        rw [a', if_pos rfl, f_X9_settle_117, nm_id, nI_1]
        refine ih (k + 1) _ (by omega) (by omega) C Z g41 g42 g43 ?_
        exact Ph_cong pe (Ph_s0 hn r km H a' (fun p => by rw [sI_eq, if_pos rfl]))
      · have a' : evT v u G row k = nI q := a
        have z := Z q hq
        have b5 : v.it (row k) 5 ≤ 9 := (C.1.2 (row k) rn 5 (by omega)).2
        have i5 : ∀ x y, f_X6_item 3 (nI (row k)) 5 (sI (sI g 25 (row k) x) 26 q y) = some (nI (v.it (row k) 5), sI (sI g 25 (row k) x) 26 q y) := fun x y => e_X6_item (v := v) (h := sI (sI g 25 (row k) x) 26 q y) ⟨C.1, C.2.1, C.2.2⟩ rn (i := 5) (by omega)
        have c27 : g.1 27 q = nI (v.wo q) := H.2.2.2.2 q hq (fun j hj w e => by
          have := tk_uniq hn (door_lt v u G) (by omega) e a'
          have w : j < k := w
          omega)
        rw [a', if_neg (by rw [n_m1 (by omega)]; exact id), rv_24_1, an_26, og_ix (by omega) (by omega), nm_id, rv_24_2, an_27, og_ix (by omega) (by omega), nI_clamp (show q < 2 ^ 31 by omega), i5, ob_some, og_ix (by omega) (by omega), nm_id, sI_n (Or.inl (by decide)), sI_n (Or.inl (by decide)), c27, max_sub (by omega) (by omega), f_X9_settle_117, nm_id, nI_1]
        refine ih (k + 1) _ (by omega) (by omega) ⟨C.1, C.2.1, C.2.2⟩ Z g41 g42 g43 ?_
        exact Ph_cong pe (Ph_s1 hn r km (fun w => Nat.lt_irrefl _ w) H hq a' (fun p => rfl) (fun p => rfl) (fun p => rfl))
theorem e_settle {v : Wd} {u G : Nat} {row : Nat → Nat} {h : AH} (B : cB v h) (go : cGo v (fun q => v.it q 3) v.wo row (pc G) (door v u G) h) (r : gRow v.n G row) (hG : G < 64) (hu : u < 4) : ∃ h', f_X9_settle 24 (nI u) (nI (door v u G)) 41 3 h = some h' ∧ (∀ p, p < v.n → h'.1 25 p = (evS v u G row).has p ∧ h'.1 26 p = (evS v u G row).pl p ∧ h'.1 27 p = nI ((evS v u G row).wo p)) ∧ ∀ q, v.n ≤ q → q < 6 → h'.1 26 q = -1 := by
  have hn := B.n6
  have h64 := pow_le6 hn
  have dl := door_lt v u G
  unfold f_X9_settle
  refine lp (fun n i g => ∃ h', f_X9_settle_3 n 24 (nI u) (nI (door v u G)) 41 3 (nI i) g = some h' ∧ (∀ p, p < v.n → h'.1 25 p = (evS v u G row).has p ∧ h'.1 26 p = (evS v u G row).pl p ∧ h'.1 27 p = nI ((evS v u G row).wo p)) ∧ ∀ q, v.n ≤ q → q < 6 → h'.1 26 q = -1) (fun i g => Agr ((26, 1000) :: []) h g ∧ ∀ q, q < 6 → g.1 26 q = if q < i ∧ (door v u G).testBit q = true then nI (10 + u) else h.1 26 q) 6 (by decide) ?_ ?_ ⟨agr_refl h, fun q hq => by rw [if_neg (fun w => absurd w.1 (by omega))]⟩
  · rintro n g ⟨ag, g26⟩
    have cs : ∀ k, k ≠ 26 → g.1 k = h.1 k := fun k hk => agr_c1 ag hk
    have C : cP v g := by
      unfold cP
      rw [cs 3 (by decide), cs 4 (by decide)]
      exact B.1
    rw [f_X9_settle_3, if_pos (by decide)]
    obtain ⟨h', e, H⟩ := e_settle39 (base := g.1 26) hn r FU 0 g (by omega) (by have := r.1.1; unfold FU; omega) C B.2.2.1 (by rw [cs 41 (by decide)]; exact go.2.1.1) (by rw [cs 42 (by decide)]; exact go.2.1.2) (by rw [cs 43 (by decide)]; exact go.2.2.2) ⟨fun j hj w => absurd w (by simp), fun p hp _ => by rw [cs 25 (by decide)]; exact (B.2.2.2.2.2.2.2.1 p hp).1, fun j hj w => absurd w (by simp), fun q hq _ => rfl, fun q hq _ => by rw [cs 27 (by decide)]; exact (B.2.2.2.2.2.2.2.1 q hq).2.2⟩
    refine ⟨h', e, Ph_end hn r H (fun q hq _ => ?_), fun q h1 h2 => ?_⟩
    · rw [g26 q (by omega), (B.2.2.2.2.2.2.2.1 q hq).2.1]
      by_cases d : (door v u G).testBit q = true
      · rw [if_pos ⟨by omega, d⟩, if_pos d]
      · rw [if_neg (fun w => d w.2), if_neg d]
    · rw [H.2.2.2.1 q h2 (fun j hj _ w => absurd (tk_in hn h2 w).1 (by omega)), g26 q h2, if_neg (fun w => absurd (tb_lt dl w.2) (by omega))]
      exact B.2.2.2.2.2.2.2.2 q h1 h2
  · rintro n i g hi ⟨ag, g26⟩ K
    rw [f_X9_settle_3, if_neg (by rw [show (6 : Int32) = nI 6 from rfl, nI_leI (by decide) (by omega)]; omega), e_X11_isIn, ob_some, inS_tb _ (by omega) i hi, zi]
    cases d : (door v u G).testBit i with
    | false =>
      rw [if_neg (by decide), f_X9_settle_30, nm_id, nI_1]
      refine K g ⟨ag, fun q hq => ?_⟩
      rw [g26 q hq]
      by_cases e : q = i
      · subst e
        rw [if_neg (fun w => by rw [d] at w; exact absurd w.2 (by decide)), if_neg (fun w => by rw [d] at w; exact absurd w.2 (by decide))]
      · by_cases l : q < i ∧ (door v u G).testBit q = true
        · rw [if_pos l, if_pos ⟨by omega, l.2⟩]
        · rw [if_neg l, if_neg (fun w => l ⟨by omega, w.2⟩)]
    | true =>
      rw [if_pos rfl, rv_24_1, an_26, og_ix (by omega) (by omega), nm_id, nI_clamp (by omega), f_X9_settle_30, nm_id, nI_1, show (10 : Int32) + nI u = nI (10 + u) from nI_add 10 u]
      refine K _ ⟨agr_sI ag rfl, fun q hq => ?_⟩
      by_cases e : q = i
      · subst e
        rw [sI_s, if_pos ⟨by omega, d⟩]
      · rw [sI_n (Or.inr e), g26 q hq]
        by_cases l : q < i ∧ (door v u G).testBit q = true
        · rw [if_pos l, if_pos ⟨by omega, l.2⟩]
        · rw [if_neg l, if_neg (fun w => l ⟨by omega, w.2⟩)]
theorem evS_E (v : Wd) (u G : Nat) (row : Nat → Nat) : (evS v u G row).E = if v.E = 30 then 30 else v.E + 1 := rfl
theorem evS_di (v : Wd) (u G : Nat) (row : Nat → Nat) (e q : Nat) : (evS v u G row).di e q = if e = v.E then (evS v u G row).pl q else v.di e q := rfl
theorem evS_n (v : Wd) (u G : Nat) (row : Nat → Nat) : (evS v u G row).n = v.n := rfl
theorem e_write {v : Wd} {u G : Nat} {row : Nat → Nat} {h : AH} (hn : v.n ≤ 6) (D : cD v h) (e26 : ∀ p, p < v.n → h.1 26 p = (evS v u G row).pl p) : ∃ h', f_X1_write 32 24 h = some h' ∧ cD (evS v u G row) h' := by
  obtain ⟨E30, D1, D2⟩ := D
  unfold f_X1_write
  rw [D1]
  by_cases c : v.E = 30
  · rw [if_pos (by rw [c]; decide)]
    refine ⟨h, rfl, by rw [evS_E, if_pos c]; omega, by rw [evS_E, if_pos c, D1, c], fun e he p hp => ?_⟩
    rw [evS_E, if_pos c] at he
    rw [evS_di, if_neg (by omega)]
    exact D2 e (by omega) p hp
  · have e6 : nI v.E * 6 = nI (v.E * 6) := k_mul v.E 6
    rw [if_neg (by rw [show (30 : Int32) = nI 30 from rfl, nI_leI (by decide) (by omega)]; omega), rv_24_1, rv_32_0, an_26, an_33, e6, og_t, nm_id, nm_id, cpn (by decide), D1, nI_1]
    · refine ⟨_, rfl, by rw [evS_E, if_neg c]; omega, by rw [evS_E, if_neg c, sI_s], fun e he p hp => ?_⟩
      rw [evS_E, if_neg c] at he
      have hp : p < v.n := hp
      rw [sI_n (Or.inl (by decide))]
      show (if 33 = 33 then va_cpy (h.1 26) (h.1 33) (0 : Int32).toNatClampNeg (nI (v.E * 6)).toNatClampNeg (6 : Int32).toNatClampNeg (e * 6 + p) else h.1 33 (e * 6 + p)) = _
      rw [if_pos rfl, nI_clamp (by omega), show (0 : Int32).toNatClampNeg = 0 from rfl, show (6 : Int32).toNatClampNeg = 6 from rfl, evS_di]
      unfold va_cpy
      by_cases q : e = v.E
      · subst q
        rw [if_pos (by omega), if_pos rfl, show 0 + (v.E * 6 + p - v.E * 6) = p by omega]
        exact e26 p hp
      · rw [if_neg (by omega), if_neg q]
        exact D2 e (by omega) p hp
    · unfold cok
      rw [decide_eq_true_eq, nI_clamp (by omega), show (0 : Int32).toNatClampNeg = 0 from rfl, show (6 : Int32).toNatClampNeg = 6 from rfl]
      exact ⟨by decide, nI_pos (by omega), by decide, by omega, by omega⟩
/-- the class's evening -/
theorem c_hold {v : Wd} {u G : Nat} {row : Nat → Nat} {h : AH} (B : cB v h) (D : cD v h) (Rw : cRw row (pc G) h) (r : gRow v.n G row) (hG : G < 64) (hu : u < 4) : ∃ h', f_X11_holdEvening 0 (nI u) (nI G) h = some h' ∧ cB (evS v u G row) h' ∧ cD (evS v u G row) h' := by
  have hn := B.n6
  obtain ⟨h3, e3, B3, Z3, a3⟩ := e_openDoor B hu hG
  obtain ⟨h4, h5, e4, e5, g5, a5⟩ := c_go0 Z3 (cRw_agr a3 rfl Rw) r.1 (door_lt v u G)
  have B5 : cB v h5 := cB_agr a5 rfl B3
  have D5 : cD v h5 := cD_agr a5 rfl (cD_agr a3 rfl D)
  obtain ⟨h6, e6, s1, s2⟩ := e_settle B5 g5 r hG hu
  have f6 : Agr W_X9_settle_i24_41_3 h5 h6 := w_f_X9_settle_i24_41_3 _ _ _ _ e6
  obtain ⟨h7, e7, D7⟩ := e_write hn (cD_agr f6 rfl D5) (fun p hp => (s1 p hp).2.1)
  have f7 : Agr W_X1_write_i32_24 h6 h7 := w_f_X1_write_i32_24 _ _ e7
  refine ⟨h7, ?_, ?_, D7⟩
  · unfold f_X11_holdEvening
    simp only [e3, ob_some, rv_0_0, rv_0_1, rv_0_2, rv_0_3, rv_0_4, rv_0_6, rv_0_7, rv_0_9, rv_0_10, rv_0_11, rv_0_12, rv_0_13, rv_0_14, rv_1_0, an_2, rv_3_0, rv_3_1, an_4, an_5, rv_6_0, rv_6_1, an_7, an_8, rv_9_0, rv_9_1, an_10, an_11, rv_12_0, rv_12_1, an_13, an_14, rv_15_0, rv_15_1, an_16, an_17, rv_18_0, rv_18_1, an_19, an_20, rv_21_0, rv_21_1, an_22, an_23, rv_24_0, rv_24_1, rv_24_2, an_25, an_26, an_27, rv_28_0, rv_28_1, rv_28_2, an_29, an_30, an_31, rv_32_0, rv_32_1, an_33, an_34, rv_35_0, rv_35_1, rv_35_2, rv_35_3, rv_35_4, rv_35_5, rv_35_6, an_36, an_37, an_38, an_39, an_40, rv_41_0, rv_41_1, rv_41_3, rv_41_4, rv_41_5, an_42, an_43, an_44, an_45, rv_46_0, rv_46_1, rv_46_2, rv_46_3, rv_46_4, rv_46_6, an_47, an_48, rv_49_0, rv_49_1, an_50, rv_51_0, rv_51_1, rv_51_2, rv_51_3, rv_51_4, rv_51_6, rv_51_7, an_52, an_53, an_54, an_55, rv_56_1, rv_56_2, rv_56_3, rv_56_4, rv_56_15, rv_56_16, rv_56_17, rv_56_19, rv_56_22, rv_56_23, rv_56_24, rv_56_25, rv_56_26, rv_56_27, rv_56_28, rv_56_31, rv_56_33, rv_56_35, rv_56_36, rv_56_37, rv_56_39, rv_56_40, rv_56_41, rv_56_42, rv_56_43, rv_56_44, rv_56_46, rv_56_47, rv_56_48, rv_56_49, rv_56_51, rv_56_52, rv_56_54, an_57, an_58, an_59, an_60, an_61, an_62, an_63, an_64, an_65, an_66, an_67, an_68, an_69, an_70, an_71, an_72, an_73, an_74, an_75, an_76, an_77, an_78, an_79, an_80, an_81, an_82, an_83, an_84, an_85, an_86, an_87, e4, e5, e6, e7, ov_some]
  · refine cB_agr f7 rfl ?_
    obtain ⟨F1, F2, F3, F4, F5, F6, F7, F8, F9⟩ := B5
    have so' := evS_so (row := row) hn hG F4 hu r
    have cs : ∀ k, k ≠ 25 → k ≠ 26 → k ≠ 27 → h6.1 k = h5.1 k := fun k h1 h2 h3 => agr_c3 f6 h1 h2 h3
    refine ⟨⟨F1.1, ?_, ?_⟩, F2, fun q hq => ⟨(F3 q hq).1, so'.2.2 q hq⟩, so', F5, ?_, fun q hq => ?_, s1, s2⟩
    · rw [cs 3 (by decide) (by decide) (by decide)]
      exact F1.2.1
    · rw [cs 4 (by decide) (by decide) (by decide)]
      exact F1.2.2
    · rw [cs 5 (by decide) (by decide) (by decide)]
      exact F6
    · have h4 : v.rc ≤ 4 := F2.1
      have hq : q < v.rc := hq
      have := F7 q hq
      rw [cs (12 + 3 * q) (by omega) (by omega) (by omega), cs (13 + 3 * q) (by omega) (by omega) (by omega)]
      exact this
/-- the model's -/
theorem e_vis49 {v : Wd} {u G : Nat} {row : Nat → Nat} {base : Nat → Int32} (hn : v.n ≤ 6) (hG : G < 2 ^ v.n) (r : gRow v.n G row) : ∀ n p g, p ≤ v.n → v.n - p < n → mP v g → szB v (fun q => v.it q 3) v.wo → (∀ j, j < pc G → g.1 68 (row j) = evT v u G row j) → Ph v u G row base (fun j => row j < p) (g.1 62) (g.1 63) (g.1 65) → ∃ g', f_X12_visits_49 n 56 (nI G) (nI p) g = (if g'.1 56 32 = 30 then some g' else f_X12_visits_156 FU 56 0 g') ∧ Ph v u G row base (fun _ => True) (g'.1 62) (g'.1 63) (g'.1 65) ∧ Agr ((62, 1000) :: (63, 1000) :: (65, 1000) :: []) g g' := by
  have h64 := pow_le6 hn
  intro n
  induction n with
  | zero => intro p g _ q; omega
  | succ n ih =>
    intro p g hp hpn C Z g68 H
    rw [f_X12_visits_49, C.2.1]
    by_cases e : p = v.n
    · subst e
      rw [if_pos (by rw [nI_leI (by omega) (by omega)]; omega)]
      exact ⟨g, rfl, Ph_cong (fun j hj => ⟨fun _ => trivial, fun _ => r.1.2.1 j hj⟩) H, agr_refl g⟩
    · have pn : p < v.n := by omega
      rw [if_neg (by rw [nI_leI (by omega) (by omega)]; omega), e_X12_has, ob_some, inS_tb G (by omega) p (by omega), zi]
      by_cases c : G.testBit p = true
      · obtain ⟨k, km, rfl⟩ := r.2.2 p c
        have pe : ∀ j, j < pc G → ((fun j => row j < row k) j ∨ j = k ↔ row j < row k + 1) := fun j hj => ⟨fun w => by
          rcases w with w | w
          · have w : row j < row k := w
            omega
          · rw [w]
            omega, fun w => by
          by_cases q : row j = row k
          · exact Or.inr (r.1.2.2 j k hj km q)
          · exact Or.inl (show row j < row k by omega)⟩
        rw [if_pos c, rv_56_28, rv_56_22, an_68, an_62, og_ix (by omega) (by omega), og_ix (by omega) (by omega), nm_id, og_ix (by omega) (by omega), nI_clamp (by omega), sI_n (Or.inl (by decide)), g68 k km]
        rcases pk_c (v := v) (sz := fun q => v.it q 3) (wo := v.wo) (row k) (stS v (fun q => v.it q 3) v.wo row (door v u G) k) with a | ⟨q, hq, a, _⟩
        · have a' : evT v u G row k = -1 := a
          rw [a', if_pos rfl, f_X12_visits_138, nm_id, nI_1]
          obtain ⟨g', e1, e2, e3⟩ := ih (row k + 1) (sI g 62 (row k) (-1)) (by omega) (by omega) ⟨C.1, C.2.1, C.2.2⟩ Z g68 (Ph_cong pe (Ph_s0 hn r km H a' (fun p => by rw [sI_eq, if_pos rfl])))
          exact ⟨g', e1, e2, agr_tr (agr_sI (agr_refl g) rfl) e3 rfl⟩
        · have a' : evT v u G row k = nI q := a
          have z := Z q hq
          have b5 : v.it (row k) 5 ≤ 9 := (C.1.2 (row k) pn 5 (by omega)).2
          have i5 : ∀ x y, f_X12_partOf 56 (nI (row k)) 5 (sI (sI g 62 (row k) x) 63 q y) = some (nI (v.it (row k) 5), sI (sI g 62 (row k) x) 63 q y) := fun x y => e_X12_partOf (v := v) (h := sI (sI g 62 (row k) x) 63 q y) ⟨C.1, C.2.1, C.2.2⟩ pn (i := 5) (by omega)
          have c65 : g.1 65 q = nI (v.wo q) := H.2.2.2.2 q hq (fun j hj w e => by
            have := tk_uniq hn (door_lt v u G) (by omega) e a'
            have w : row j < row k := w
            rw [this] at w
            omega)
          have s68 : ∀ y, (sI (sI g 62 (row k) (nI q)) 63 q y).1 68 (row k) = nI q := fun y => by
            rw [sI_n (Or.inl (by decide)), sI_n (Or.inl (by decide)), g68 k km, a']
          rw [a', if_neg (by rw [n_m1 (by omega)]; exact id), og_ix (by omega) (by omega), rv_56_23, an_63, og_ix (by omega) (by omega), nm_id, nI_clamp (show q < 2 ^ 31 by omega)]
          simp only [s68]
          rw [og_ix (by omega) (by omega), og_ix (by omega) (by omega), rv_56_25, an_65, og_ix (by omega) (by omega), i5, ob_some, og_ix (by omega) (by omega), nm_id, nI_clamp (show q < 2 ^ 31 by omega), sI_n (Or.inl (by decide)), sI_n (Or.inl (by decide)), c65, max_sub (by omega) (by omega), f_X12_visits_138, nm_id, nI_1]
          obtain ⟨g', e1, e2, e3⟩ := ih (row k + 1) (sI (sI (sI g 62 (row k) (nI q)) 63 q (nI (row k))) 65 q (nI (v.wo q - v.it (row k) 5))) (by omega) (by omega) ⟨C.1, C.2.1, C.2.2⟩ Z g68 (Ph_cong pe (Ph_s1 hn r km (fun w => Nat.lt_irrefl _ w) H hq a' (fun p => rfl) (fun p => rfl) (fun p => rfl)))
          exact ⟨g', e1, e2, agr_tr (agr_sI (agr_sI (agr_sI (agr_refl g) rfl) rfl) rfl) e3 rfl⟩
      · rw [if_neg c, f_X12_visits_138, nm_id, nI_1]
        refine ih (p + 1) g (by omega) (by omega) C Z g68 (Ph_cong (fun j hj => ⟨fun w => ?_, fun w => ?_⟩) H)
        · have w : row j < p := w
          show row j < p + 1
          omega
        · have w : row j < p + 1 := w
          show row j < p
          have : row j ≠ p := fun q => c (by rw [← q]; exact r.2.1 j hj)
          omega
theorem e_vis156 {v : Wd} {E : Nat} (hn : v.n ≤ 6) (hE : E < 30) (h : AH) (h20 : h.1 56 20 = nI v.n) (h32 : h.1 56 32 = nI E) : ∃ h', f_X12_visits_156 FU 56 0 h = some h' ∧ Agr ((56, 32) :: (69, 1000) :: []) h h' ∧ h'.1 56 32 = nI (E + 1) ∧ (∀ p, p < v.n → h'.1 69 (E * 6 + p) = h.1 63 p) ∧ ∀ e p, e < E → p < 6 → h'.1 69 (e * 6 + p) = h.1 69 (e * 6 + p) := by
  refine lp (fun n i g => ∃ h', f_X12_visits_156 n 56 (nI i) g = some h' ∧ Agr ((56, 32) :: (69, 1000) :: []) h h' ∧ h'.1 56 32 = nI (E + 1) ∧ (∀ p, p < v.n → h'.1 69 (E * 6 + p) = h.1 63 p) ∧ ∀ e p, e < E → p < 6 → h'.1 69 (e * 6 + p) = h.1 69 (e * 6 + p)) (fun i g => Agr ((69, 1000) :: []) h g ∧ (∀ p, p < i → g.1 69 (E * 6 + p) = h.1 63 p) ∧ ∀ e p, e < E → p < 6 → g.1 69 (e * 6 + p) = h.1 69 (e * 6 + p)) v.n (by omega) ?_ ?_ ⟨agr_refl h, fun p hp => absurd hp (by omega), fun _ _ _ _ => rfl⟩
  · rintro n g ⟨ag, g1, g2⟩
    have c56 : g.1 56 = h.1 56 := agr_cell ag 56 rfl
    rw [f_X12_visits_156, c56, h20, if_pos (by rw [nI_leI (by omega) (by omega)]; omega), nm_id, h32, nI_1]
    exact ⟨_, rfl, agr_sI (agr_up ag rfl) rfl, sI_s .., g1, g2⟩
  · rintro n i g hi ⟨ag, g1, g2⟩ K
    have c56 : g.1 56 = h.1 56 := agr_cell ag 56 rfl
    have c63 : g.1 63 = h.1 63 := agr_cell ag 63 rfl
    rw [f_X12_visits_156, c56, h20, if_neg (by rw [nI_leI (by omega) (by omega)]; omega), h32, show (6 : Int32) * nI E = nI (E * 6) from k_mul' E 6, nI_add, rv_56_23, c63, an_63, rv_56_31, an_69, og_ix (by omega) (by omega), og_ix (by omega) (by omega), nm_id, nm_id, nI_1, nI_clamp (by omega), nI_clamp (by omega)]
    refine K _ ⟨agr_sI ag rfl, fun p hp => ?_, fun e p he hp => ?_⟩
    · by_cases q : p = i
      · subst q
        exact sI_s ..
      · rw [sI_n (Or.inr (by omega))]
        exact g1 p (by omega)
    · rw [sI_n (Or.inr (by omega))]
      exact g2 e p he hp
theorem m_visits {v : Wd} {u G : Nat} {row : Nat → Nat} {h : AH} (B : mB v h) (D : mD v h) (Rw : mRw row (pc G) h) (r : gRow v.n G row) (hG : G < 2 ^ v.n) (hu : u < 4) : ∃ h', f_X12_visits 56 (nI u) (nI G) h = some h' ∧ mB (evS v u G row) h' ∧ mD (evS v u G row) h' := by
  have hn := B.n6
  have h64 := pow_le6 hn
  have dl := door_lt v u G
  have so' := evS_so (row := row) hn (show G < 64 by omega) B.2.1 hu r
  obtain ⟨h5, e5, g5, a5⟩ := m_go0 B.1 Rw r.1 dl
  have B5 : mB v h5 := mB_agr a5 rfl B
  have D5 : mD v h5 := mD_agr a5 rfl D
  have sl := stS_le (sz := fun q => v.it q 3) (wo := v.wo) (row := row) hn dl (pc G)
  unfold f_X12_visits
  rw [B.door hu (by omega), ob_some, e5, ov_some]
  refine lp (fun n i g => ∃ h', f_X12_visits_12 n 56 (nI u) (nI G) (nI i) g = some h' ∧ mB (evS v u G row) h' ∧ mD (evS v u G row) h') (fun i g => Agr ((63, 1000) :: []) h5 g ∧ ∀ q, q < 6 → g.1 63 q = if q < i ∧ (stS v (fun q => v.it q 3) v.wo row (door v u G) (pc G)).testBit q = true then nI (10 + u) else h5.1 63 q) v.n (by omega) ?_ ?_ ⟨agr_refl h5, fun q hq => by rw [if_neg (fun w => absurd w.1 (by omega))]⟩
  · rintro n g ⟨ag, g63⟩
    have cs : ∀ k, k ≠ 63 → g.1 k = h5.1 k := fun k hk => agr_c1 ag hk
    have C : mP v g := by
      unfold mP
      rw [cs 56 (by decide), cs 61 (by decide)]
      exact B5.1.1
    rw [f_X12_visits_12, C.2.1, if_pos (by rw [nI_leI (by omega) (by omega)]; omega)]
    obtain ⟨g', e, H, a⟩ := e_vis49 (u := u) (base := g.1 63) hn hG r FU 0 g (by omega) (by unfold FU; omega) C B.1.2.2.1 (by rw [cs 68 (by decide)]; exact g5.2.2.2) ⟨fun j hj w => absurd w (by simp), fun p hp _ => by rw [cs 62 (by decide)]; exact (B5.2.2.2 p hp).1, fun j hj w => absurd w (by simp), fun q hq _ => rfl, fun q hq _ => by rw [cs 65 (by decide)]; exact (B5.1.2.2.2.2.2 q hq).2⟩
    have e' : f_X12_visits_49 FU 56 (nI G) 0 g = (if g'.1 56 32 = 30 then some g' else f_X12_visits_156 FU 56 0 g') := e
    have H1 := Ph_end hn r H (fun q hq nt => by
      rw [g63 q (by omega), (B5.2.2.2 q hq).2]
      have li := left_in hn dl (show q < 6 by omega) (pc G) nt
      by_cases d : (door v u G).testBit q = true
      · rw [if_pos ⟨hq, by rw [li]; exact d⟩, if_pos d]
      · rw [if_neg (fun w => d (by rw [← li]; exact w.2)), if_neg d])
    have ag2 : Agr ((62, 1000) :: (63, 1000) :: (65, 1000) :: []) h5 g' := agr_tr (agr_up ag rfl) a rfl
    have ct : ∀ k, k ≠ 62 → k ≠ 63 → k ≠ 65 → g'.1 k = h5.1 k := fun k h1 h2 h3 => agr_c3 ag2 h1 h2 h3
    have B' : mB (evS v u G row) g' := by
      obtain ⟨⟨F1, F2, F3, F4, F5, F6⟩, F7, F8, F9⟩ := B5
      refine ⟨⟨⟨F1.1, ?_, ?_⟩, F2, fun q hq => ⟨(F3 q hq).1, so'.2.2 q hq⟩, ?_, ?_, fun q hq => ⟨?_, (H1 q hq).2.2⟩⟩, so', F8, fun q hq => ⟨(H1 q hq).1, (H1 q hq).2.1⟩⟩
      · rw [ct 56 (by decide) (by decide) (by decide)]
        exact F1.2.1
      · rw [ct 61 (by decide) (by decide) (by decide)]
        exact F1.2.2
      · rw [ct 66 (by decide) (by decide) (by decide)]
        exact F4
      · rw [ct 58 (by decide) (by decide) (by decide), ct 59 (by decide) (by decide) (by decide)]
        exact F5
      · rw [ct 64 (by decide) (by decide) (by decide)]
        exact (F6 q hq).1
    have D' : mD v g' := mD_agr ag2 rfl D5
    rw [e']
    by_cases c : v.E = 30
    · rw [if_pos (by rw [D'.2.1, c]; rfl)]
      refine ⟨g', rfl, B', by rw [evS_E, if_pos c]; omega, by rw [evS_E, if_pos c, D'.2.1, c], fun e he p hp => ?_⟩
      rw [evS_E, if_pos c] at he
      rw [evS_di, if_neg (by omega)]
      exact D'.2.2 e (by omega) p hp
    · have E30 := D'.1
      rw [if_neg (by rw [D'.2.1, show (30 : Int32) = nI 30 from rfl, nI_eq (by omega) (by decide)]; exact c)]
      obtain ⟨h', i1, i2, i3, i4, i5⟩ := e_vis156 (v := v) (E := v.E) hn (by omega) g' B'.mn D'.2.1
      refine ⟨h', i1, mB_agr i2 rfl B', by rw [evS_E, if_neg c]; omega, by rw [evS_E, if_neg c]; exact i3, fun e he p hp => ?_⟩
      rw [evS_E, if_neg c] at he
      have hp : p < v.n := hp
      rw [evS_di]
      by_cases q : e = v.E
      · subst q
        rw [if_pos rfl, i4 p hp]
        exact (H1 p hp).2.1
      · rw [if_neg q, i5 e p (by omega) (by omega)]
        exact D'.2.2 e (by omega) p hp
  · rintro n i g hi ⟨ag, g63⟩ K
    have c30 : g.1 56 = h5.1 56 := agr_cell ag 56 rfl
    rw [f_X12_visits_12, c30, B5.mn, if_neg (by rw [nI_leI (by omega) (by omega)]; omega), g5.2.2.1, e_X12_has, ob_some, inS_tb _ (by omega) i (by omega), zi]
    cases d : (stS v (fun q => v.it q 3) v.wo row (door v u G) (pc G)).testBit i with
    | false =>
      rw [if_neg (by decide), f_X12_visits_41, nm_id, nI_1]
      refine K g ⟨ag, fun q hq => ?_⟩
      rw [g63 q hq]
      by_cases e : q = i
      · subst e
        rw [if_neg (fun w => by rw [d] at w; exact absurd w.2 (by decide)), if_neg (fun w => by rw [d] at w; exact absurd w.2 (by decide))]
      · by_cases l : q < i ∧ (stS v (fun q => v.it q 3) v.wo row (door v u G) (pc G)).testBit q = true
        · rw [if_pos l, if_pos ⟨by omega, l.2⟩]
        · rw [if_neg l, if_neg (fun w => l ⟨by omega, w.2⟩)]
    | true =>
      rw [if_pos rfl, rv_56_23, an_63, og_ix (by omega) (by omega), nm_id, nI_clamp (by omega), f_X12_visits_41, nm_id, nI_1, show (10 : Int32) + nI u = nI (10 + u) from nI_add 10 u]
      refine K _ ⟨agr_sI ag rfl, fun q hq => ?_⟩
      by_cases e : q = i
      · subst e
        rw [sI_s, if_pos ⟨by omega, d⟩]
      · rw [sI_n (Or.inr e), g63 q hq]
        by_cases l : q < i ∧ (stS v (fun q => v.it q 3) v.wo row (door v u G) (pc G)).testBit q = true
        · rw [if_pos l, if_pos ⟨by omega, l.2⟩]
        · rw [if_neg l, if_neg (fun w => l ⟨by omega, w.2⟩)]
