/-! worst -/
def wwS (v : Wd) (sz wo : Nat → Nat) (G D p i k : Nat) : Int32 := if rw_ G k i = p then wS wo (tkP v sz wo (rw_ G k) (pc G) D p) else 0
def wmF (s : Nat → Int32) : Nat → Nat
  | 0 => 0
  | k + 1 => if s (wmF s k) ≤ s (k + 1) then wmF s k else k + 1
theorem wmF_le (s : Nat → Int32) : ∀ k, wmF s k ≤ k := by
  intro k
  induction k with
  | zero => exact Nat.le_refl _
  | succ k ih =>
    rw [wmF]
    split <;> omega
theorem wmF_cong {s t : Nat → Int32} : ∀ k, (∀ i, i ≤ k → s i = t i) → wmF s k = wmF t k := by
  intro k
  induction k with
  | zero => intro _; rfl
  | succ k ih =>
    intro h
    have := wmF_le t k
    rw [wmF, wmF, ih (fun i hi => h i (by omega)), h _ (by omega), h (k + 1) (Nat.le_refl _)]
theorem e_wp71 {m : Nat} {h : AH} (m0 : 0 < m) (m6 : m ≤ 6) (e : h.1 41 2 = nI m) : f_X5_worstPlace_71 FU 41 0 1 h = some (nI (wmF (h.1 45) (m - 1)), h) := by
  refine lp (fun n i (_ : Unit) => f_X5_worstPlace_71 n 41 (nI (wmF (h.1 45) i)) (nI (i + 1)) h = some (nI (wmF (h.1 45) (m - 1)), h)) (fun i _ => True) (m - 1) (by omega) ?_ ?_ (s := ()) trivial
  · rintro n _ _
    rw [f_X5_worstPlace_71, e, if_pos (by rw [nI_leI (by omega) (by omega)]; omega)]
  · rintro n i _ hi _ K
    have := wmF_le (h.1 45) i
    have K := K () trivial
    rw [wmF] at K
    rw [f_X5_worstPlace_71, e, if_neg (by rw [nI_leI (by omega) (by omega)]; omega), rv_41_5, an_45, og_ix (by omega) (by omega), og_ix (by omega) (by omega), nI_clamp (by omega), nI_clamp (by omega)]
    by_cases c : h.1 45 (wmF (h.1 45) i) ≤ h.1 45 (i + 1)
    · rw [if_pos c] at K ⊢
      rw [f_X5_worstPlace_101, nm_id, nI_1]
      exact K
    · rw [if_neg c] at K ⊢
      rw [f_X5_worstPlace_101, nm_id, nI_1]
      exact K
theorem e_wp131 {m : Nat} {h : AH} (m0 : 0 < m) (m6 : m ≤ 6) (e : h.1 56 29 = nI m) : f_X12_worst_131 FU 56 0 1 h = some (nI (wmF (h.1 71) (m - 1)), h) := by
  refine lp (fun n i (_ : Unit) => f_X12_worst_131 n 56 (nI (wmF (h.1 71) i)) (nI (i + 1)) h = some (nI (wmF (h.1 71) (m - 1)), h)) (fun i _ => True) (m - 1) (by omega) ?_ ?_ (s := ()) trivial
  · rintro n _ _
    rw [f_X12_worst_131, e, if_pos (by rw [nI_leI (by omega) (by omega)]; omega)]
  · rintro n i _ hi _ K
    have := wmF_le (h.1 71) i
    have K := K () trivial
    rw [wmF] at K
    rw [f_X12_worst_131, e, if_neg (by rw [nI_leI (by omega) (by omega)]; omega), rv_56_35, an_71, og_ix (by omega) (by omega), og_ix (by omega) (by omega), nI_clamp (by omega), nI_clamp (by omega)]
    by_cases c : h.1 71 (wmF (h.1 71) i) ≤ h.1 71 (i + 1)
    · rw [if_pos c] at K ⊢
      rw [f_X12_worst_161, nm_id, nI_1]
      exact K
    · rw [if_neg c] at K ⊢
      rw [f_X12_worst_161, nm_id, nI_1]
      exact K
theorem e_worstC {v : Wd} {sz wo : Nat → Nat} {G D p : Nat} {h : AH} (hG : G < 2 ^ v.n) (g0 : 0 < G) (hD : D < 2 ^ v.n) (Z : cZ v sz wo h) (hp : p < v.n) (pb : G.testBit p = true) : ∃ h', f_X5_worstPlace 41 (nI D) (nI G) (nI p) h = some (nI (wmF (fun i => zs (wwS v sz wo G D p i) (nW G)) (pc G - 1)), h') := by
  have hn := Z.1.1.1.1
  have h64 := pow_le6 hn
  have p7 := (pc_ok G (by omega)).2
  have pp := pc_pos G (by omega) g0
  obtain ⟨_, _, _, _, w5, w6⟩ := W_parts g0 (show G < 64 by omega)
  obtain ⟨h0, e0, z0, a0⟩ := e_fill (k := 45) (by rw [an_45]; omega) 0 h
  obtain ⟨h1, e1, I1, a1⟩ := c_first (D := D) hn hG g0 (cZ_agr a0 rfl Z)
  unfold f_X5_worstPlace
  rw [rv_41_5, e0, ov_some, e1, ob_some]
  refine lp (fun n i (s : Int32 × AH) => ∃ h', f_X5_worstPlace_22 n 41 (nI p) (nI (nW G)) s.1 (nI i) s.2 = some (nI (wmF (fun i => zs (wwS v sz wo G D p i) (nW G)) (pc G - 1)), h')) (fun i s => cI v sz wo G D i s.1 s.2 ∧ (∀ j, j < pc G → s.2.1 45 j = zs (wwS v sz wo G D p j) i) ∧ s.2.1 41 2 = nI (pc G)) (nW G) (by omega) ?_ ?_ (s := (0, h1)) ⟨I1, fun j hj => ?_, ?_⟩
  · rintro n ⟨y, g⟩ ⟨I, g1, g2⟩
    have g1 : ∀ j, j < pc G → g.1 45 j = zs (wwS v sz wo G D p j) (nW G) := g1
    have g2 : g.1 41 2 = nI (pc G) := g2
    simp only
    rw [f_X5_worstPlace_22, if_pos (by rw [nI_leI (by omega) (by omega)]; omega), e_wp71 pp (by omega) g2]
    exact ⟨g, by rw [wmF_cong (pc G - 1) (fun i hi => g1 i (by omega))]⟩
  · rintro n i ⟨y, g⟩ hi ⟨I, g1, g2⟩ K
    simp only at K ⊢
    have g1 : ∀ j, j < pc G → g.1 45 j = zs (wwS v sz wo G D p j) i := g1
    have I : cI v sz wo G D i y g := I
    obtain ⟨h3, e3, g3, a3⟩ := c_step hG g0 hD I hi
    have r := W_row hn hG g0 hi
    obtain ⟨j, hj, ej⟩ := r.2.2 p pb
    have pl := e_placeC g3.2.1 r.1 hn hj
    rw [ej] at pl
    have c45 : h3.1 45 = g.1 45 := agr_cell a3 45 rfl
    have ag : ∀ x, Agr ((45, 1000) :: []) h3 (sI h3 45 j x) := fun x => agr_sI (agr_refl h3) rfl
    obtain ⟨y', h4, e4, I4, a4⟩ := c_nxt hG g0 (cGo_agr (ag (h3.1 45 j + wS wo (tkP v sz wo (rw_ G i) (pc G) D p))) rfl g3) hi
    rw [f_X5_worstPlace_22, if_neg (by rw [nI_leI (by omega) (by omega)]; omega), e3, ov_some, pl, ob_some, rv_41_5, an_45, og_ix (by omega) (by omega), cGo_w g3 r hp pb, ob_some, og_ix (by omega) (by omega), nm_id, nI_clamp (by omega), e4, ob_some, nm_id, nI_1]
    refine K (y', h4) ⟨I4, fun k hk => ?_, ?_⟩
    · show h4.1 45 k = _
      rw [agr_cell a4 45 rfl, zs, wwS]
      by_cases q : k = j
      · subst q
        rw [sI_s, if_pos ej, c45, g1 k hk]
      · rw [sI_n (Or.inr q), if_neg (fun w => q (r.1.2.2 k j hk hj (by rw [w, ej]))), c45, g1 k hk, Int32.add_zero]
    · show h4.1 41 2 = _
      rw [agr_on a4 (B := (41, 2) :: []) rfl 41 2 rfl]
      exact g3.2.1.1
  · show h1.1 45 j = _
    rw [agr_cell a1 45 rfl]
    exact z0 j (by rw [an_45]; omega)
  · show h1.1 41 2 = _
    obtain ⟨f, _, _, q, _⟩ := I1.2 w6
    exact q.1
theorem e_w74 {v : Wd} {sz wo : Nat → Nat} {G D p k : Nat} {x1 x2 : Int32} {h : AH} (g : mGo v sz wo (rw_ G k) (pc G) D h) (r : gRow v.n G (rw_ G k)) (hp : p < v.n) (pb : G.testBit p = true) (q : Nat → Int32 → Int32 → Int32 → Int32 → AH → Option (Int32 × AH)) : ∃ h', f_X12_worst_74 q FU 56 x1 x2 (nI p) (nI k) 0 h = q 56 x1 x2 (nI p) (nI (k + 1)) h' ∧ Agr ((71, 1000) :: []) h h' ∧ ∀ j, j < pc G → h'.1 71 j = h.1 71 j + wwS v sz wo G D p j k := by
  have hn := g.1.1.1.1
  have m6 := r.1.1
  refine lp (fun n i s => ∃ h', f_X12_worst_74 q n 56 x1 x2 (nI p) (nI k) (nI i) s = q 56 x1 x2 (nI p) (nI (k + 1)) h' ∧ Agr ((71, 1000) :: []) h h' ∧ ∀ j, j < pc G → h'.1 71 j = h.1 71 j + wwS v sz wo G D p j k) (fun i s => Agr ((71, 1000) :: []) h s ∧ ∀ j, j < pc G → s.1 71 j = if j < i then h.1 71 j + wwS v sz wo G D p j k else h.1 71 j) (pc G) (by omega) ?_ ?_ ⟨agr_refl h, fun j hj => by rw [if_neg (by omega)]⟩
  · rintro n s ⟨ag, s1⟩
    have c56 : s.1 56 = h.1 56 := agr_cell ag 56 rfl
    rw [f_X12_worst_74, c56, g.2.1.1, if_pos (by rw [nI_leI (by omega) (by omega)]; omega), nm_id, nI_1]
    exact ⟨s, rfl, ag, fun j hj => by rw [s1 j hj, if_pos hj]⟩
  · rintro n i s hi ⟨ag, s1⟩ K
    have c56 : s.1 56 = h.1 56 := agr_cell ag 56 rfl
    have c67 : s.1 67 = h.1 67 := agr_cell ag 67 rfl
    have c68 : s.1 68 = h.1 68 := agr_cell ag 68 rfl
    have ri := r.1.2.1 i hi
    have G' := mG_agr ag rfl g.1
    have wo' : f_X12_worthOf 56 (nI p) s = some (wS wo (tkP v sz wo (rw_ G k) (pc G) D p), s) := e_worthM G' (by omega) (by rw [c68]; exact mGo_t g r pb) tkP_c
    have K' : ∀ y, h.1 71 i + wwS v sz wo G D p i k = y → ∃ h', f_X12_worst_74 q n 56 x1 x2 (nI p) (nI k) (nI (i + 1)) (sI s 71 i y) = q 56 x1 x2 (nI p) (nI (k + 1)) h' ∧ Agr ((71, 1000) :: []) h h' ∧ ∀ j, j < pc G → h'.1 71 j = h.1 71 j + wwS v sz wo G D p j k := by
      intro y hy
      refine K _ ⟨agr_sI ag rfl, fun j hj => ?_⟩
      by_cases e : j = i
      · subst e
        rw [sI_s, if_pos (by omega), hy]
      · rw [sI_n (Or.inr e), s1 j hj]
        by_cases l : j < i
        · rw [if_pos l, if_pos (by omega)]
        · rw [if_neg l, if_neg (by omega)]
    rw [f_X12_worst_74, c56, g.2.1.1, if_neg (by rw [nI_leI (by omega) (by omega)]; omega), rv_56_35, rv_56_27, an_71, an_67, og_ix (by omega) (by omega), og_ix (by omega) (by omega), nI_clamp (by omega), c67, g.2.1.2 i hi, s1 i hi, if_neg (show ¬ i < i by omega)]
    by_cases c : rw_ G k i = p
    · rw [if_pos (by rw [c]), wo', ob_some, f_X12_worst_111, an_71, og_ix (by omega) (by omega), nm_id, nI_clamp (by omega), nm_id, nI_1]
      exact K' _ (by rw [wwS, if_pos c])
    · rw [if_neg (by rw [n_eq (by omega) (by omega)]; exact c), f_X12_worst_111, an_71, og_ix (by omega) (by omega), nm_id, nI_clamp (by omega), nm_id, nI_1]
      exact K' _ (by rw [wwS, if_neg c])
theorem e_worstM {v : Wd} {G u p : Nat} {h : AH} (hG : G < 2 ^ v.n) (g0 : 0 < G) (hu : u < 4) (B : mB v h) (M : mW G h) (hp : p < v.n) (pb : G.testBit p = true) : ∃ h', f_X12_worst_25 FU 56 (nI u) (nI G) (nI p) 0 h = some (nI (wmF (fun i => zs (wwS v (fun q => v.it q 3) v.wo G (door v u G) p i) (nW G)) (pc G - 1)), h') := by
  have hn := B.n6
  have h64 := pow_le6 hn
  have p7 := (pc_ok G (by omega)).2
  have pp := pc_pos G (by omega) g0
  obtain ⟨_, _, _, _, w5, w6⟩ := W_parts g0 (show G < 64 by omega)
  refine lp (fun n i s => ∃ h', f_X12_worst_25 n 56 (nI u) (nI G) (nI p) (nI i) s = some (nI (wmF (fun i => zs (wwS v (fun q => v.it q 3) v.wo G (door v u G) p i) (nW G)) (pc G - 1)), h')) (fun i s => Agr ((71, 1000) :: []) h s ∧ ∀ j, j < i → s.1 71 j = 0) 6 (by decide) ?_ ?_ ⟨agr_refl h, fun j hj => absurd hj (by omega)⟩
  · rintro n s ⟨ag, s1⟩
    rw [f_X12_worst_25, if_pos (by decide)]
    refine lp (fun n i s => ∃ h', f_X12_worst_49 n 56 (nI u) (nI G) (nI p) (nI i) s = some (nI (wmF (fun i => zs (wwS v (fun q => v.it q 3) v.wo G (door v u G) p i) (nW G)) (pc G - 1)), h')) (fun i s => mB v s ∧ mW G s ∧ (∀ j, j < pc G → s.1 71 j = zs (wwS v (fun q => v.it q 3) v.wo G (door v u G) p j) i) ∧ (0 < i → s.1 56 29 = nI (pc G))) (nW G) (by omega) ?_ ?_ ⟨mB_agr ag rfl B, mW_agr ag rfl M, fun j hj => s1 j (by omega), fun w => absurd w (by omega)⟩
    · rintro n g ⟨B, M, g1, g2⟩
      rw [f_X12_worst_49, M.1, if_pos (by rw [nI_leI (by omega) (by omega)]; omega), e_wp131 pp (by omega) (g2 w6)]
      exact ⟨g, by rw [wmF_cong (pc G - 1) (fun i hi => g1 i (by omega))]⟩
    · rintro n i g hi ⟨B, M, g1, g2⟩ K
      obtain ⟨h3, e3, g3, M3, a3⟩ := m_way hG g0 (door_lt v u G) B.1 M hi
      have r := W_row hn hG g0 hi
      rw [f_X12_worst_49, M.1, if_neg (by rw [nI_leI (by omega) (by omega)]; omega), B.door hu (by omega), ob_some, e3, ov_some]
      obtain ⟨h4, e4, a4, s4⟩ := e_w74 (x1 := nI u) (x2 := nI G) g3 r hp pb (f_X12_worst_49 n)
      rw [e4]
      refine K h4 ⟨mB_agr a4 rfl (mB_agr a3 rfl B), mW_agr a4 rfl M3, fun j hj => ?_, fun _ => ?_⟩
      · rw [s4 j hj, zs, agr_cell a3 71 rfl, g1 j hj]
      · rw [agr_on a4 (B := (56, 29) :: []) rfl 56 29 rfl]
        exact g3.2.1.1
  · rintro n i s hi ⟨ag, s1⟩ K
    rw [f_X12_worst_25, if_neg (by rw [show (6 : Int32) = nI 6 from rfl, nI_leI (by decide) (by omega)]; omega), rv_56_35, an_71, og_ix (by omega) (by omega), nm_id, nI_clamp (by omega), nm_id, nI_1]
    refine K _ ⟨agr_sI ag rfl, fun j hj => ?_⟩
    by_cases e : j = i
    · subst e
      exact sI_s ..
    · rw [sI_n (Or.inr e)]
      exact s1 j (by omega)
theorem g11 : G11 Rel := by
  intro h ⟨v, R⟩ a1 a2 a3
  have hn := R.n6
  have h64 := pow_le6 hn
  suffices H : ∃ r h1 h2, f_X11_worst 0 a1 a2 a3 h = some (r, h1) ∧ f_X12_worst 56 a1 a2 a3 h1 = some (r, h2) by
    obtain ⟨r, h1, h2, e1, e2⟩ := H
    exact ⟨r, h1, h2, e1, e2, G_of R (w_f_X11_worst_i0 _ _ _ _ _ e1) (w_f_X12_worst_i56 _ _ _ _ _ e2) rfl rfl⟩
  have R2 := R.thr (x := 0)
  cases hp : ptB v.n a1 a2 with
  | false =>
    refine ⟨-1, h, sI h 56 0 0, ?_, ?_⟩
    · unfold f_X11_worst
      simp only [e_isParty hn R.cn, hp, ob_some, zi, f_X11_worst_18, Bool.false_eq_true, if_false]
    · unfold f_X12_worst
      simp only [nm_id, e_isGuestM hn R2.mn, hp, Bool.false_and, ob_some, zi, Bool.false_eq_true, if_false]
  | true =>
    obtain ⟨u, G, hu, rfl, g0, hG, rfl⟩ := (ptB_iff hn).mp hp
    have n0 := n_of_G g0 hG
    cases hg : guB v.n (nI G) a3 with
    | false =>
      refine ⟨-1, h, sI h 56 0 0, ?_, ?_⟩
      · unfold f_X11_worst
        simp only [e_isParty hn R.cn, hp, ob_some, zi, f_X11_worst_18, if_true, e_isGuestC R.cn, hg, Bool.false_eq_true, if_false]
      · unfold f_X12_worst
        simp only [nm_id, e_isGuestM hn R2.mn, hp, hg, Bool.true_and, ob_some, zi, Bool.false_eq_true, if_false]
    | true =>
      obtain ⟨p, hp', rfl, pb⟩ := (guB_iff hn (by omega)).mp hg
      obtain ⟨h3, e3, B3, Z3, a3'⟩ := e_openDoor (R.cB n0) hu (show G < 64 by omega)
      obtain ⟨h4, e4⟩ := e_worstC hG g0 (door_lt v u G) Z3 hp' pb
      have E1 : f_X11_worst 0 (nI u) (nI G) (nI p) h = some (nI (wmF (fun i => zs (wwS v (fun q => v.it q 3) v.wo G (door v u G) p i) (nW G)) (pc G - 1)), h4) := by
        unfold f_X11_worst
        rw [e_isParty hn R.cn, hp, ob_some, zi, if_pos rfl, e_isGuestC R.cn, hg, ob_some, zi, if_pos rfl, e3, ob_some, rv_0_11, e4, ob_some]
      have R5 : RelV v h4 := rel_agr (w_f_X11_worst_i0 _ _ _ _ _ E1) rfl R
      have R6 := R5.thr (x := 0)
      obtain ⟨h6, e6, M6, a6⟩ := m_all hn hG g0 R6.mn
      have R7 : RelV v h6 := rel_agr a6 rfl R6
      obtain ⟨h7, e7⟩ := e_worstM hG g0 hu (R7.mB n0) M6 hp' pb
      refine ⟨_, h4, h7, E1, ?_⟩
      unfold f_X12_worst
      rw [nm_id, e_isGuestM hn R6.mn, hp, hg, Bool.true_and, ob_some, zi, if_pos rfl, e6, ov_some]
      exact e7
