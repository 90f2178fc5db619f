/-! left, steady -/
def lfS (v : Wd) (sz wo : Nat → Nat) (G D k : Nat) : Nat := stS v sz wo (rw_ G k) D (pc G)
def anF (c : Nat → Int32) (x : Int32) : Nat → Int32
  | 0 => x
  | n + 1 => anF c x n &&& c n
theorem e_rest {v : Wd} {sz wo : Nat → Nat} {row : Nat → Nat} {m D : Nat} {h : AH} (g : cGo v sz wo row m D h) (m6 : m ≤ 6) : f_X5_rest 41 h = some (nI (stS v sz wo row D m), h) := by
  unfold f_X5_rest
  rw [g.2.1.1, rv_41_4, an_44, og_ix (by omega) (by omega), nI_clamp (by omega), g.2.2.1 m (Nat.le_refl _)]
theorem e_leftC {v : Wd} {sz wo : Nat → Nat} {G D : Nat} {h : AH} (x3 y : Int32) (hG : G < 2 ^ v.n) (g0 : 0 < G) (hD : D < 2 ^ v.n) (I0 : cI v sz wo G D 0 0 h) : ∃ h', f_X11_left_53 FU 0 x3 (nI (nW G)) y 0 0 0 h = some (if x3 = 0 then anF (fun k => nI (lfS v sz wo G D k)) y (nW G) else zo (fun k => nI (lfS v sz wo G D k)) (nW G), h') := by
  have hn := I0.1.1.1.1.1
  have h64 := pow_le6 hn
  have p7 := (pc_ok G (by omega)).2
  obtain ⟨_, _, _, _, w5, _⟩ := W_parts g0 (show G < 64 by omega)
  refine lp (fun n i (s : Int32 × Int32 × Int32 × AH) => ∃ h', f_X11_left_53 n 0 x3 (nI (nW G)) s.1 s.2.1 s.2.2.1 (nI i) s.2.2.2 = some (if x3 = 0 then anF (fun k => nI (lfS v sz wo G D k)) y (nW G) else zo (fun k => nI (lfS v sz wo G D k)) (nW G), h')) (fun i s => s.1 = anF (fun k => nI (lfS v sz wo G D k)) y i ∧ s.2.1 = zo (fun k => nI (lfS v sz wo G D k)) i ∧ cI v sz wo G D i s.2.2.1 s.2.2.2) (nW G) (by omega) ?_ ?_ (s := (y, 0, 0, h)) ⟨rfl, rfl, I0⟩
  · rintro n ⟨s, t, z, g⟩ ⟨e1, e2, I⟩
    have e1 : s = _ := e1
    have e2 : t = _ := e2
    subst e1 e2
    simp only
    rw [f_X11_left_53, if_pos (by rw [nI_leI (by omega) (by omega)]; omega)]
    refine ⟨g, ?_⟩
    by_cases c : x3 = 0
    · rw [if_pos c, if_pos c]
      rfl
    · rw [if_neg c, if_neg c]
      rfl
  · rintro n i ⟨s, t, z, g⟩ hi ⟨e1, e2, I⟩ K
    have e1 : s = _ := e1
    have e2 : t = _ := e2
    subst e1 e2
    simp only at K ⊢
    have I : cI v sz wo G D i z g := I
    obtain ⟨h3, y', h4, e3, g3, e4, I4⟩ := c_it hG g0 hD I hi
    rw [f_X11_left_53, if_neg (by rw [nI_leI (by omega) (by omega)]; omega), rv_0_11, e3, ov_some, e_rest g3 (by omega), ob_some, nm_id, e_rest g3 (by omega), ob_some, nm_id, e4, ob_some, nm_id, nI_1]
    exact K (_, _, y', h4) ⟨rfl, rfl, I4⟩
theorem e_leftM {v : Wd} {G u : Nat} {h : AH} (x3 y : Int32) (hG : G < 2 ^ v.n) (g0 : 0 < G) (hu : u < 4) (B : mB v h) (M : mW G h) : ∃ h', f_X12_left_47 FU 56 (nI u) (nI G) x3 y 0 0 h = some (if x3 = 0 then anF (fun k => nI (lfS v (fun q => v.it q 3) v.wo G (door v u G) k)) y (nW G) else zo (fun k => nI (lfS v (fun q => v.it q 3) v.wo G (door v u G) k)) (nW G), h') := by
  have hn := B.n6
  have h64 := pow_le6 hn
  obtain ⟨_, _, _, _, w5, _⟩ := W_parts g0 (show G < 64 by omega)
  refine lp (fun n i (s : Int32 × Int32 × AH) => ∃ h', f_X12_left_47 n 56 (nI u) (nI G) x3 s.1 s.2.1 (nI i) s.2.2 = some (if x3 = 0 then anF (fun k => nI (lfS v (fun q => v.it q 3) v.wo G (door v u G) k)) y (nW G) else zo (fun k => nI (lfS v (fun q => v.it q 3) v.wo G (door v u G) k)) (nW G), h')) (fun i s => s.1 = anF (fun k => nI (lfS v (fun q => v.it q 3) v.wo G (door v u G) k)) y i ∧ s.2.1 = zo (fun k => nI (lfS v (fun q => v.it q 3) v.wo G (door v u G) k)) i ∧ mB v s.2.2 ∧ mW G s.2.2) (nW G) (by omega) ?_ ?_ (s := (y, 0, h)) ⟨rfl, rfl, B, M⟩
  · rintro n ⟨s, t, g⟩ ⟨e1, e2, B, M⟩
    have e1 : s = _ := e1
    have e2 : t = _ := e2
    subst e1 e2
    have M : mW G g := M
    simp only
    rw [f_X12_left_47, M.1, if_pos (by rw [nI_leI (by omega) (by omega)]; omega)]
    refine ⟨g, ?_⟩
    by_cases c : x3 = 0
    · rw [if_pos c, if_pos c]
      rfl
    · rw [if_neg c, if_neg c]
      rfl
  · rintro n i ⟨s, t, g⟩ hi ⟨e1, e2, B, M⟩ K
    have e1 : s = _ := e1
    have e2 : t = _ := e2
    subst e1 e2
    simp only at K ⊢
    have M : mW G g := M
    have B : mB v g := B
    obtain ⟨h3, e3, g3, M3, a3⟩ := m_way hG g0 (door_lt v u G) B.1 M hi
    rw [f_X12_left_47, M.1, if_neg (by rw [nI_leI (by omega) (by omega)]; omega), B.door hu (by omega), ob_some, e3, ov_some, g3.2.2.1, nm_id, nm_id, nm_id, nI_1]
    exact K (_, _, h3) ⟨rfl, rfl, mB_agr a3 rfl B, M3⟩
/-- the class begins with the pairs at the door, the model with all -/
theorem and_sub : ∀ A, A < 64 → ∀ B, B < 64 → (∀ i, i < 6 → A.testBit i = true → B.testBit i = true) → nI B &&& nI A = nI A ∧ nI A &&& nI A = nI A := by decide +kernel
theorem anF_eq {c : Nat → Int32} {x y : Int32} (h : x &&& c 0 = y &&& c 0) : ∀ n, anF c x (n + 1) = anF c y (n + 1) := by
  intro n
  induction n with
  | zero => exact h
  | succ n ih => rw [anF, ih]; rfl
theorem isIn01 {x : Int32} : (¬ x < 0 ∧ ¬ 1 < x) ↔ (¬ x < 0 ∧ x ≤ 1) := by
  rw [Int32.lt_iff_toInt_lt, Int32.lt_iff_toInt_lt, Int32.le_iff_toInt_le]
  constructor <;> (intro h; exact ⟨h.1, by omega⟩)
theorem e_isIn01 (x : Int32) (h : AH) : f_X12_isIn x.toInt64 0 1 h = some (zb (decide (¬ x < 0 ∧ x ≤ 1)), h) := by
  have := e_X12_isIn x 0 1 h
  rw [show decide (¬ x < 0 ∧ ¬ 1 < x) = decide (¬ x < 0 ∧ x ≤ 1) from decide_eq_decide.mpr isIn01] at this
  exact this
theorem everyG : ∀ n, n < 7 → ∀ p, p < n → (2 ^ n - 1).testBit p = true := by decide +kernel
theorem left_ea {v : Wd} {u G : Nat} (hn : v.n ≤ 6) (g0 : 0 < G) (hG : G < 64) : anF (fun k => nI (lfS v (fun q => v.it q 3) v.wo G (door v u G) k)) (nI (2 ^ v.n - 1)) (nW G) = anF (fun k => nI (lfS v (fun q => v.it q 3) v.wo G (door v u G) k)) (nI (door v u G)) (nW G) := by
  have h64 := pow_le6 hn
  have dl := door_lt v u G
  have w6 := (W_parts g0 hG).2.2.2.2.2
  have sl := stS_le (sz := fun q => v.it q 3) (wo := v.wo) (row := rw_ G 0) hn dl (pc G)
  have k1 : nI (2 ^ v.n - 1) &&& nI (lfS v (fun q => v.it q 3) v.wo G (door v u G) 0) = nI (door v u G) &&& nI (lfS v (fun q => v.it q 3) v.wo G (door v u G) 0) := by
    have q : ∀ X, X = lfS v (fun q => v.it q 3) v.wo G (door v u G) 0 → nI (2 ^ v.n - 1) &&& nI X = nI (door v u G) &&& nI X := by
      intro X hX
      have X1 : X ≤ door v u G := by
        rw [hX]
        exact sl
      rw [(and_sub X (by omega) (2 ^ v.n - 1) (by omega) (fun i hi b => ?_)).1, (and_sub X (by omega) (door v u G) (by omega) (fun i hi b => ?_)).1]
      · rw [hX] at b
        exact stS_mono hn dl hi (pc G) 0 (Nat.zero_le _) b
      · have il := tb_lt (Nat.lt_of_le_of_lt X1 dl) b
        exact everyG v.n (by omega) i il
    exact q _ rfl
  generalize nW G = M at w6
  obtain ⟨N, rfl⟩ : ∃ N, M = N + 1 := ⟨M - 1, by omega⟩
  exact anF_eq k1 N
theorem left_C {v : Wd} {h : AH} {u G : Nat} {a3 : Int32} (R : RelV v h) (n0 : v.n ≠ 0) (hu : u < 4) (hG : G < 2 ^ v.n) (g0 : 0 < G) (hp : ptB v.n (nI u) (nI G) = true) (hx : ¬ a3 < 0 ∧ a3 ≤ 1) : ∃ h5, f_X11_left 0 (nI u) (nI G) a3 h = some (if a3 = 0 then anF (fun k => nI (lfS v (fun q => v.it q 3) v.wo G (door v u G) k)) (nI (door v u G)) (nW G) else zo (fun k => nI (lfS v (fun q => v.it q 3) v.wo G (door v u G) k)) (nW G), h5) := by
  have hn := R.n6
  have h64 := pow_le6 hn
  obtain ⟨h3, e3, B3, Z3, a3'⟩ := e_openDoor (R.cB n0) hu (show G < 64 by omega)
  obtain ⟨h4, e4, I4, _⟩ := c_first (D := door v u G) hn hG g0 Z3
  obtain ⟨h5, e5⟩ := e_leftC a3 (nI (door v u G)) hG g0 (door_lt v u G) I4
  refine ⟨h5, ?_⟩
  unfold f_X11_left
  rw [e_isParty hn R.cn, hp, ob_some, zi, if_pos rfl, if_neg hx.1, if_pos hx.2, e3, ob_some, rv_0_11, e4, ob_some]
  exact e5
theorem left_M {v : Wd} {h : AH} {u G : Nat} {a3 : Int32} (R : RelV v h) (n0 : v.n ≠ 0) (hu : u < 4) (hG : G < 2 ^ v.n) (g0 : 0 < G) (hp : ptB v.n (nI u) (nI G) = true) (hx : ¬ a3 < 0 ∧ a3 ≤ 1) : ∃ h5, f_X12_left 56 (nI u) (nI G) a3 h = some (if a3 = 0 then anF (fun k => nI (lfS v (fun q => v.it q 3) v.wo G (door v u G) k)) (nI (door v u G)) (nW G) else zo (fun k => nI (lfS v (fun q => v.it q 3) v.wo G (door v u G) k)) (nW G), h5) := by
  have hn := R.n6
  have h64 := pow_le6 hn
  have R6 := R.thr (x := 0)
  obtain ⟨h6, e6, M6, a6⟩ := m_all hn hG g0 R6.mn
  have R7 : RelV v h6 := rel_agr a6 rfl R6
  obtain ⟨h7, e7⟩ := e_leftM a3 (nI (2 ^ v.n - 1)) hG g0 hu (R7.mB n0) M6
  rw [left_ea hn g0 (show G < 64 by omega)] at e7
  have p1 := Nat.two_pow_pos v.n
  have eq1 : nI (2 ^ v.n) - 1 = nI (2 ^ v.n - 1) := pk_sub (a := 2 ^ v.n) (b := 1) p1
  refine ⟨h7, ?_⟩
  unfold f_X12_left
  rw [nm_id, e_isVisit hn R6.mn, hp, ob_some, zi, if_pos rfl, e_isIn01, ob_some, decide_eq_true hx, zi, if_pos rfl, e6, ov_some, R7.mn, shl_n v.n (by omega), eq1, nm_id]
  exact e7
theorem g23 : G23 Rel := by
  intro h ⟨v, R⟩ a1 a2 a3
  have hn := R.n6
  have h64 := pow_le6 hn
  suffices H : ∃ r h1 h2, f_X11_left 0 a1 a2 a3 h = some (r, h1) ∧ f_X12_left 56 a1 a2 a3 h1 = some (r, h2) by
    obtain ⟨r, h1, h2, e1, e2⟩ := H
    exact ⟨r, h1, h2, e1, e2, G_of R (w_f_X11_left_i0 _ _ _ _ _ e1) (w_f_X12_left_i56 _ _ _ _ _ e2) rfl rfl⟩
  have R2 := R.thr (x := 0)
  cases hp : ptB v.n a1 a2 with
  | false =>
    refine ⟨-1, h, sI h 56 0 0, ?_, ?_⟩
    · unfold f_X11_left
      simp only [e_isParty hn R.cn, hp, ob_some, zi, f_X11_left_18, Bool.false_eq_true, if_false]
    · unfold f_X12_left
      simp only [nm_id, e_isVisit hn R2.mn, hp, ob_some, zi, f_X12_left_24, Bool.false_eq_true, if_false]
  | true =>
    obtain ⟨u, G, hu, rfl, g0, hG, rfl⟩ := (ptB_iff hn).mp hp
    have n0 := n_of_G g0 hG
    by_cases hx : ¬ a3 < 0 ∧ a3 ≤ 1
    · obtain ⟨h5, E1⟩ := left_C R n0 hu hG g0 hp hx
      obtain ⟨h7, E2⟩ := left_M (rel_agr (w_f_X11_left_i0 _ _ _ _ _ E1) rfl R) n0 hu hG g0 hp hx
      exact ⟨_, h5, h7, E1, E2⟩
    · refine ⟨-1, h, sI h 56 0 0, ?_, ?_⟩
      · unfold f_X11_left
        simp only [e_isParty hn R.cn, hp, ob_some, zi, f_X11_left_18, if_true]
        by_cases c1 : a3 < 0
        · rw [if_pos c1]
        · rw [if_neg c1, if_neg (fun c2 => hx ⟨c1, c2⟩)]
      · unfold f_X12_left
        simp only [nm_id, e_isVisit hn R2.mn, hp, ob_some, zi, if_true, e_isIn01, decide_eq_false hx, f_X12_left_24, Bool.false_eq_true, if_false]
/-! steady -/
def sdB (v : Wd) (G D k : Nat) : Nat → Bool
  | 0 => true
  | p + 1 => sdB v G D k p && decide (tkP v (fun q => v.it q 3) v.wo (rw_ G k) (pc G) D p = v.has p)
theorem sdB_f {v : Wd} {G D k : Nat} : ∀ p n, p ≤ n → sdB v G D k p = false → sdB v G D k n = false := by
  intro p n
  induction n with
  | zero =>
    intro h e
    have : p = 0 := by omega
    rw [this] at e
    exact e
  | succ n ih =>
    intro h e
    by_cases q : p = n + 1
    · rw [← q]
      exact e
    · rw [sdB, ih (by omega) e]
      rfl
def sdA (v : Wd) (G D : Nat) : Nat → Bool
  | 0 => true
  | k + 1 => sdA v G D k && sdB v G D k v.n
theorem sdA_f {v : Wd} {G D : Nat} : ∀ p n, p ≤ n → sdA v G D p = false → sdA v G D n = false := by
  intro p n
  induction n with
  | zero =>
    intro h e
    have : p = 0 := by omega
    rw [this] at e
    exact e
  | succ n ih =>
    intro h e
    by_cases q : p = n + 1
    · rw [← q]
      exact e
    · rw [sdA, ih (by omega) e]
      rfl
theorem e_sd64 {v : Wd} {G D k N : Nat} {h : AH} (B : cB v h) (g : cGo v (fun q => v.it q 3) v.wo (rw_ G k) (pc G) D h) (hG : G = 2 ^ v.n - 1) (r : gRow v.n G (rw_ G k)) (q : Nat → Int32 → Int32 → Int32 → AH → Option (Int32 × AH)) : f_X11_steady_64 q FU 0 (nI N) (nI k) 0 h = if sdB v G D k v.n = true then (ob (f_X5_advance 41 h) fun r_4 h_3 => q 0 (nI N) r_4 (nI (k + 1)) h_3) else some (0, h) := by
  have hn := B.n6
  refine lp (fun n i (_ : Unit) => f_X11_steady_64 q n 0 (nI N) (nI k) (nI i) h = if sdB v G D k v.n = true then (ob (f_X5_advance 41 h) fun r_4 h_3 => q 0 (nI N) r_4 (nI (k + 1)) h_3) else some (0, h)) (fun i _ => sdB v G D k i = true) v.n (by omega) ?_ ?_ (s := ()) rfl
  · rintro n _ e
    rw [f_X11_steady_64, rv_0_1, B.cn, if_pos (by rw [nI_leI (by omega) (by omega)]; omega), if_pos e, rv_0_11]
    simp only [nm_id, nI_1]
  · rintro n i _ hi e K
    have tb : G.testBit i = true := by
      rw [hG]
      exact everyG v.n (by omega) i hi
    rw [f_X11_steady_64, rv_0_1, B.cn, if_neg (by rw [nI_leI (by omega) (by omega)]; omega), rv_0_11, rv_41_3, rv_0_6, rv_24_0, an_43, an_25, og_ix (by omega) (by omega), og_ix (by omega) (by omega), nI_clamp (by omega), cGo_t g r tb, (B.2.2.2.2.2.2.2.1 i hi).1]
    by_cases c : tkP v (fun q => v.it q 3) v.wo (rw_ G k) (pc G) D i = v.has i
    · rw [if_pos c, nm_id, nI_1]
      exact K () (by rw [sdB, e, decide_eq_true c]; rfl)
    · rw [if_neg c, if_neg]
      rw [sdB_f (i + 1) v.n hi (by rw [sdB, decide_eq_false c, Bool.and_false])]
      decide
theorem e_sd60 {v : Wd} {G D k : Nat} {x1 : Int32} {h : AH} (B : mB v h) (g : mGo v (fun q => v.it q 3) v.wo (rw_ G k) (pc G) D h) (hG : G = 2 ^ v.n - 1) (r : gRow v.n G (rw_ G k)) (q : Nat → Int32 → Int32 → AH → Option (Int32 × AH)) : f_X12_steady_60 q FU 56 x1 (nI k) 0 h = if sdB v G D k v.n = true then q 56 x1 (nI (k + 1)) h else some (0, h) := by
  have hn := B.n6
  refine lp (fun n i (_ : Unit) => f_X12_steady_60 q n 56 x1 (nI k) (nI i) h = if sdB v G D k v.n = true then q 56 x1 (nI (k + 1)) h else some (0, h)) (fun i _ => sdB v G D k i = true) v.n (by omega) ?_ ?_ (s := ()) rfl
  · rintro n _ e
    rw [f_X12_steady_60, B.mn, if_pos (by rw [nI_leI (by omega) (by omega)]; omega), if_pos e, nm_id, nI_1]
  · rintro n i _ hi e K
    have tb : G.testBit i = true := by
      rw [hG]
      exact everyG v.n (by omega) i hi
    rw [f_X12_steady_60, B.mn, if_neg (by rw [nI_leI (by omega) (by omega)]; omega), rv_56_28, rv_56_22, an_68, an_62, og_ix (by omega) (by omega), og_ix (by omega) (by omega), nI_clamp (by omega), mGo_t g r tb, (B.2.2.2 i hi).1]
    by_cases c : tkP v (fun q => v.it q 3) v.wo (rw_ G k) (pc G) D i = v.has i
    · rw [if_pos c, nm_id, nI_1]
      exact K () (by rw [sdB, e, decide_eq_true c]; rfl)
    · rw [if_neg c, if_neg]
      rw [sdB_f (i + 1) v.n hi (by rw [sdB, decide_eq_false c, Bool.and_false])]
      decide
theorem e_sd48 {v : Wd} {G D : Nat} {h : AH} (B : cB v h) (hG : G = 2 ^ v.n - 1) (g0 : 0 < G) (hD : D < 2 ^ v.n) (I0 : cI v (fun q => v.it q 3) v.wo G D 0 0 h) : ∃ h', f_X11_steady_48 FU 0 (nI (nW G)) 0 0 h = some (zb (sdA v G D (nW G)), h') := by
  have hn := B.n6
  have h64 := pow_le6 hn
  have hG2 : G < 2 ^ v.n := by omega
  obtain ⟨_, _, _, _, w5, _⟩ := W_parts g0 (show G < 64 by omega)
  refine lp (fun n i (s : Int32 × AH) => ∃ h', f_X11_steady_48 n 0 (nI (nW G)) s.1 (nI i) s.2 = some (zb (sdA v G D (nW G)), h')) (fun i s => sdA v G D i = true ∧ cB v s.2 ∧ cI v (fun q => v.it q 3) v.wo G D i s.1 s.2) (nW G) (by omega) ?_ ?_ (s := (0, h)) ⟨rfl, B, I0⟩
  · rintro n ⟨s, g⟩ ⟨e, B, I⟩
    simp only
    rw [f_X11_steady_48, if_pos (by rw [nI_leI (by omega) (by omega)]; omega), e]
    exact ⟨g, rfl⟩
  · rintro n i ⟨s, g⟩ hi ⟨e, B, I⟩ K
    simp only at K ⊢
    have I : cI v (fun q => v.it q 3) v.wo G D i s g := I
    have B : cB v g := B
    obtain ⟨h3, e3, g3, a3⟩ := c_step hG2 g0 hD I hi
    obtain ⟨y, h4, e4, I4, a4⟩ := c_nxt hG2 g0 g3 hi
    have B3 : cB v h3 := cB_agr a3 rfl B
    rw [f_X11_steady_48, if_neg (by rw [nI_leI (by omega) (by omega)]; omega), rv_0_11, e3, ov_some, e_sd64 B3 g3 hG (W_row hn hG2 g0 hi), e4, ob_some]
    by_cases c : sdB v G D i v.n = true
    · rw [if_pos c]
      exact K (y, h4) ⟨by rw [sdA, e, c]; rfl, cB_agr a4 rfl B3, I4⟩
    · rw [if_neg c, sdA_f (i + 1) (nW G) hi (by rw [sdA, e]; simpa using c)]
      exact ⟨h3, rfl⟩
theorem e_sd38 {v : Wd} {G : Nat} {h : AH} (B : mB v h) (M : mW G h) (hG : G = 2 ^ v.n - 1) (g0 : 0 < G) : ∃ h', f_X12_steady_38 FU 56 (nI G) 0 h = some (zb (sdA v G (door v 0 G) (nW G)), h') := by
  have hn := B.n6
  have h64 := pow_le6 hn
  have hG2 : G < 2 ^ v.n := by omega
  obtain ⟨_, _, _, _, w5, _⟩ := W_parts g0 (show G < 64 by omega)
  refine lp (fun n i (g : AH) => ∃ h', f_X12_steady_38 n 56 (nI G) (nI i) g = some (zb (sdA v G (door v 0 G) (nW G)), h')) (fun i g => sdA v G (door v 0 G) i = true ∧ mB v g ∧ mW G g) (nW G) (by omega) ?_ ?_ ⟨rfl, B, M⟩
  · rintro n g ⟨e, B, M⟩
    rw [f_X12_steady_38, M.1, if_pos (by rw [nI_leI (by omega) (by omega)]; omega), e]
    exact ⟨g, rfl⟩
  · rintro n i g hi ⟨e, B, M⟩ K
    obtain ⟨h3, e3, g3, M3, a3⟩ := m_way hG2 g0 (door_lt v 0 G) B.1 M hi
    have B3 := mB_agr a3 rfl B
    have d0 : f_X12_doorOf 56 0 (nI G) g = some (nI (door v 0 G), g) := B.door (u := 0) (by omega) (by omega)
    rw [f_X12_steady_38, M.1, if_neg (by rw [nI_leI (by omega) (by omega)]; omega), d0, ob_some, e3, ov_some, e_sd60 B3 g3 hG (W_row hn hG2 g0 hi)]
    by_cases c : sdB v G (door v 0 G) i v.n = true
    · rw [if_pos c]
      exact K h3 ⟨by rw [sdA, e, c]; rfl, B3, M3⟩
    · rw [if_neg c, sdA_f (i + 1) (nW G) hi (by rw [sdA, e]; simpa using c)]
      exact ⟨h3, rfl⟩
theorem g27 : G27 Rel := by
  intro h ⟨v, R⟩
  have hn := R.n6
  have h64 := pow_le6 hn
  suffices H : ∃ r h1 h2, f_X11_steady 0 h = some (r, h1) ∧ f_X12_steady 56 h1 = some (r, h2) by
    obtain ⟨r, h1, h2, e1, e2⟩ := H
    exact ⟨r, h1, h2, e1, e2, G_of R (w_f_X11_steady_i0 _ _ e1) (w_f_X12_steady_i56 _ _ e2) rfl rfl⟩
  have R2 := R.thr (x := 0)
  by_cases n0 : v.n = 0
  · refine ⟨-1, h, sI h 56 0 0, ?_, ?_⟩
    · unfold f_X11_steady
      rw [rv_0_1, R.cn, n0, if_pos (show nI 0 = 0 from rfl)]
      rfl
    · unfold f_X12_steady
      rw [nm_id, R2.mn, n0, if_pos (show nI 0 = 0 from rfl)]
      rfl
  · have z0 : ¬ nI v.n = 0 := nI_ne0 (by omega) (by omega)
    by_cases n4 : v.n ≤ 4
    · have z4 : nI v.n ≤ 4 := by
        rw [show (4 : Int32) = nI 4 from rfl, nI_leI (by omega) (by decide)]
        exact n4
      have p1 := Nat.two_pow_pos v.n
      have p2 : 2 ≤ 2 ^ v.n := by
        have : 2 ^ 1 ≤ 2 ^ v.n := Nat.pow_le_pow_right (by decide) (by omega)
        exact this
      obtain ⟨G, hG⟩ : ∃ G, G = 2 ^ v.n - 1 := ⟨_, rfl⟩
      have g0 : 0 < G := by omega
      have eq1 : nI (2 ^ v.n) - 1 = nI G := by
        rw [hG]
        exact pk_sub (a := 2 ^ v.n) (b := 1) p1
      have ev : ∀ g : AH, g.1 3 2 = nI v.n → f_X11_everybody 0 g = some (nI G, g) := by
        intro g e
        unfold f_X11_everybody
        rw [rv_0_1, e, shl_n v.n (by omega), eq1]
      obtain ⟨h3, e3, B3, Z3, a3⟩ := e_openDoor (u := 0) (G := G) (R.cB n0) (by omega) (by omega)
      have e3' : f_X11_openDoor 0 0 (nI G) h = some (nI (door v 0 G), h3) := e3
      obtain ⟨h4, e4, I4, a4⟩ := c_first (D := door v 0 G) hn (show G < 2 ^ v.n by omega) g0 Z3
      obtain ⟨h5, e5⟩ := e_sd48 (cB_agr a4 rfl B3) hG g0 (door_lt v 0 G) I4
      have E1 : f_X11_steady 0 h = some (zb (sdA v G (door v 0 G) (nW G)), h5) := by
        unfold f_X11_steady
        rw [rv_0_1, R.cn, if_neg z0, if_pos z4, ev h R.cn, ob_some, e3', ob_some, ev h3 B3.cn, ob_some, rv_0_11, e4, ob_some, e5]
      have R5 : RelV v h5 := rel_agr (w_f_X11_steady_i0 _ _ E1) rfl R
      have R6 := R5.thr (x := 0)
      obtain ⟨h6, e6, M6, a6⟩ := m_all hn (show G < 2 ^ v.n by omega) g0 R6.mn
      have R7 : RelV v h6 := rel_agr a6 rfl R6
      obtain ⟨h7, e7⟩ := e_sd38 (R7.mB n0) M6 hG g0
      refine ⟨_, h5, h7, E1, ?_⟩
      unfold f_X12_steady
      rw [nm_id, R6.mn, if_neg z0, if_pos z4, shl_n v.n (by omega), eq1, nm_id, e6, ov_some, e7]
    · have z4 : ¬ nI v.n ≤ 4 := by
        rw [show (4 : Int32) = nI 4 from rfl, nI_leI (by omega) (by decide)]
        exact n4
      refine ⟨-1, h, sI h 56 0 0, ?_, ?_⟩
      · unfold f_X11_steady
        rw [rv_0_1, R.cn, if_neg z0, if_neg z4]
        rfl
      · unfold f_X12_steady
        rw [nm_id, R2.mn, if_neg z0, if_neg z4]
        rfl
