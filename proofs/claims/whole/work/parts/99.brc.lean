/-! the class's search -/
theorem nT_add {b : Nat → Bool} {c : Nat} (hb : b c = false) : ∀ k, nT (fun y => b y || decide (y = c)) k = if c < k then nT b k + 1 else nT b k := by
  intro k
  induction k with
  | zero => rfl
  | succ k ih =>
    rw [nT, nT, ih]
    by_cases e : k = c
    · subst e
      rw [if_pos (show (b k || decide (k = k)) = true by simp), if_neg (show ¬ k < k by omega), if_pos (show k < k + 1 by omega), if_neg (show ¬ b k = true by rw [hb]; decide)]
    · by_cases d : b k = true
      · rw [if_pos (by rw [d]; rfl), if_pos d]
        by_cases l : c < k
        · rw [if_pos l, if_pos (by omega)]
        · rw [if_neg l, if_neg (by omega)]
      · rw [if_neg (by rw [Bool.eq_false_iff.mpr d, decide_eq_false e]; decide), if_neg d]
        by_cases l : c < k
        · rw [if_pos l, if_pos (by omega)]
        · rw [if_neg l, if_neg (by omega)]
theorem nT_tr : ∀ k, nT (fun _ => true) k = k := by
  intro k
  induction k with
  | zero => rfl
  | succ k ih => rw [nT, if_pos rfl, ih]
def QI (q : Nat → Nat) (b : Nat → Bool) (l : Nat → Nat) (h : AH) : Prop := h.1 51 8 = nI (nT b 625) ∧ (∀ i, i < nT b 625 → q i < 625 ∧ b (q i) = true ∧ h.1 55 i = nI (q i)) ∧ (∀ c, c < 625 → b c = true → ∃ i, i < nT b 625 ∧ q i = c) ∧ ∀ c, c < 625 → h.1 54 c = if b c = true then nI (l c) else -1
def vld (v : Wd) (G k : Nat) : Prop := 0 < G ∧ G < 2 ^ v.n ∧ k < nW G
def core (v : Wd) (p : Nat) (x : Int32) (t : Nat) (q : Nat → Nat) (b : Nat → Bool) (l : Nat → Nat) (h : AH) : Prop := QI q b l h ∧ (∀ c, c < 625 → b c = true → Tr v (l c) c) ∧ (∀ i j, i ≤ j → j < nT b 625 → l (q i) ≤ l (q j)) ∧ (∀ i, i < nT b 625 → l (q i) ≤ i) ∧ (∀ i, i < t → i < nT b 625 → ∀ G k, vld v G k → b (nx v (q i) G k) = true ∧ l (nx v (q i) G k) ≤ l (q i) + 1) ∧ (∀ i, i < t → i < nT b 625 → hq (q i) p ≠ x) ∧ b (st0 v) = true ∧ l (st0 v) = 0
def HB (v : Wd) (p : Nat) (x : Int32) (t : Nat) (h : AH) : Prop := ∃ q b l, core v p x t q b l h ∧ t ≤ nT b 625 ∧ (t < nT b 625 → ∀ i, i < nT b 625 → l (q i) ≤ l (q t) + 1)
def SB (v : Wd) (p : Nat) (x : Int32) (t s : Nat) (Dn : Nat → Nat → Prop) (h : AH) : Prop := ∃ q b l, core v p x t q b l h ∧ t < nT b 625 ∧ q t = s ∧ (∀ i, i < nT b 625 → l (q i) ≤ l s + 1) ∧ ∀ G k, vld v G k → Dn G k → b (nx v s G k) = true ∧ l (nx v s G k) ≤ l s + 1
theorem SB_agr {W : List (Nat × Nat)} {v : Wd} {p : Nat} {x : Int32} {t s : Nat} {Dn : Nat → Nat → Prop} {h0 h : AH} (a : Agr W h0 h) (d : Wdis W ((51, 8) :: (54, 1000) :: (55, 1000) :: []) = true) (S : SB v p x t s Dn h0) : SB v p x t s Dn h := by
  have e := agr_on a d
  obtain ⟨q, b, l, ⟨Q, c⟩, r⟩ := S
  refine ⟨q, b, l, ⟨?_, c⟩, r⟩
  unfold QI at Q ⊢
  rw [e 51 8 rfl, eqOn_c e 54 (fun _ => rfl), eqOn_c e 55 (fun _ => rfl)]
  exact Q
theorem SB_up {v : Wd} {p : Nat} {x : Int32} {t s : Nat} {Dn Dn' : Nat → Nat → Prop} {h : AH} (S : SB v p x t s Dn h) (w : ∀ G k, vld v G k → Dn' G k → Dn G k) : SB v p x t s Dn' h := by
  obtain ⟨q, b, l, c, r1, r2, r3, r4⟩ := S
  exact ⟨q, b, l, c, r1, r2, r3, fun G k a d => r4 G k a (w G k a d)⟩
theorem e_reach {v : Wd} {p : Nat} {x : Int32} {t s G k : Nat} {Dn : Nat → Nat → Prop} {h : AH} (hn : v.n ≤ 4) (S : SB v p x t s Dn h) (w : vld v G k) : ∃ h', f_X4_reach 51 (nI (nx v s G k)) (h.1 54 s + 1) h = some h' ∧ SB v p x t s (fun G' k' => Dn G' k' ∨ (G' = G ∧ k' = k)) h' := by
  have p5 := q5_le hn
  have cl := nx_lt hn s G k
  obtain ⟨q, b, l, ⟨⟨Q1, Q2, Q3, Q4⟩, c1, c2, c3, c4, c5, c6, c7⟩, r1, r2, r3, r4⟩ := S
  have NL := nT_le b 625
  have hs := (Q2 t r1).1
  have bs := (Q2 t r1).2.1
  rw [r2] at hs bs
  have ls : l s ≤ t := by
    have := c3 t r1
    rw [r2] at this
    exact this
  have e54 : h.1 54 s = nI (l s) := by rw [Q4 s hs, if_pos bs]
  have lb : ∀ c, c < 625 → b c = true → l c < 625 := by
    intro c hc hb
    obtain ⟨i, hi, rfl⟩ := Q3 c hc hb
    have := c3 i hi
    omega
  generalize hc : nx v s G k = c at cl
  have cl6 : c < 625 := by omega
  unfold f_X4_reach f_X4_reach_47
  rw [rv_51_6, an_54, og_ix cl6 (by omega), nI_clamp (by omega), Q4 c cl6, e54, nI_1]
  by_cases hb : b c = true
  · rw [if_pos hb, if_neg (by rw [n_m1 (by have := lb c cl6 hb; omega)]; exact id)]
    refine ⟨h, rfl, q, b, l, ⟨⟨Q1, Q2, Q3, Q4⟩, c1, c2, c3, c4, c5, c6, c7⟩, r1, r2, r3, fun G' k' a d => ?_⟩
    rcases d with d | ⟨d1, d2⟩
    · exact r4 G' k' a d
    · rw [d1, d2, hc]
      refine ⟨hb, ?_⟩
      obtain ⟨i, hi, e⟩ := Q3 c cl6 hb
      rw [← e]
      exact r3 i hi
  · have hbf : b c = false := Bool.eq_false_iff.mpr hb
    have N6 : nT b 625 < 625 := by
      have := nT_lt (b := b) (b' := fun _ => true) hbf rfl 625 cl6 (fun _ _ _ => rfl)
      rw [nT_tr] at this
      exact this
    have N' : nT (fun y => b y || decide (y = c)) 625 = nT b 625 + 1 := by rw [nT_add hbf, if_pos cl6]
    have bt : ∀ y, (b y || decide (y = c)) = true ↔ (b y = true ∨ y = c) := fun y => by rw [Bool.or_eq_true, decide_eq_true_eq]
    have nq : ∀ i, i < nT b 625 → q i ≠ c := by
      intro i hi e
      rw [← e] at hb
      exact hb (Q2 i hi).2.1
    have sc : s ≠ c := fun e => hb (by rw [← e]; exact bs)
    have lk : ∀ y, b y = true → up l c (l s + 1) y = l y := fun y hy => up_n (fun e => hb (by rw [← e]; exact hy))
    have qi : ∀ i, i < nT b 625 → up q (nT b 625) c i = q i := fun i hi => up_n (by omega)
    rw [if_neg hb, if_pos rfl, Q1, if_neg (by rw [show (625 : Int32) = nI 625 from rfl, nI_leI (by decide) (by omega)]; omega), og_ix cl6 (by omega), nm_id, sI_n (Or.inl (by decide)), Q1, rv_51_7, an_55, og_ix N6 (by omega), nm_id, sI_n (Or.inl (by decide)), sI_n (Or.inl (by decide)), Q1, nI_clamp (by omega), nI_1, nm_id]
    refine ⟨_, rfl, up q (nT b 625) c, fun y => b y || decide (y = c), up l c (l s + 1), ⟨⟨?_, fun i hi => ?_, fun y hy hby => ?_, fun y hy => ?_⟩, fun y hy hby => ?_, fun i j hij hj => ?_, fun i hi => ?_, fun i hi hi' G' k' a => ?_, fun i hi hi' => ?_, ?_, ?_⟩, ?_, ?_, fun i hi => ?_, fun G' k' a d => ?_⟩
    · rw [N', sI_s]
    · rw [N'] at hi
      rw [sI_n (Or.inl (by decide))]
      by_cases e : i = nT b 625
      · subst e
        rw [up_p, sI_s]
        exact ⟨cl6, (bt c).mpr (Or.inr rfl), rfl⟩
      · have hi' : i < nT b 625 := by omega
        rw [qi i hi', sI_n (Or.inr e), sI_n (Or.inl (by decide))]
        exact ⟨(Q2 i hi').1, (bt _).mpr (Or.inl (Q2 i hi').2.1), (Q2 i hi').2.2⟩
    · rw [N']
      rcases (bt y).mp hby with z | z
      · obtain ⟨i, hi, e⟩ := Q3 y hy z
        exact ⟨i, by omega, by rw [qi i hi, e]⟩
      · exact ⟨nT b 625, by omega, by rw [up_p, z]⟩
    · rw [sI_n (Or.inl (by decide)), sI_n (Or.inl (by decide))]
      by_cases e : y = c
      · rw [e, sI_s, if_pos ((bt c).mpr (Or.inr rfl)), up_p]
      · rw [sI_n (Or.inr e), Q4 y hy, up_n e]
        show _ = if (b y || decide (y = c)) = true then nI (l y) else -1
        rw [decide_eq_false e, Bool.or_false]
    · rcases (bt y).mp hby with z | z
      · rw [lk y z]
        exact c1 y hy z
      · rw [z, up_p, ← hc]
        exact Or.inr ⟨s, G, k, c1 s hs bs, w, rfl⟩
    · rw [N'] at hj
      by_cases e : j = nT b 625
      · by_cases e2 : i = nT b 625
        · rw [e, e2]
          exact Nat.le_refl _
        · have hi : i < nT b 625 := by omega
          rw [e, up_p, qi i hi, lk _ (Q2 i hi).2.1, up_p]
          exact r3 i hi
      · have hj' : j < nT b 625 := by omega
        have hi : i < nT b 625 := by omega
        rw [qi i hi, qi j hj', lk _ (Q2 i hi).2.1, lk _ (Q2 j hj').2.1]
        exact c2 i j hij hj'
    · rw [N'] at hi
      by_cases e : i = nT b 625
      · rw [e, up_p, up_p]
        omega
      · have hi' : i < nT b 625 := by omega
        rw [qi i hi', lk _ (Q2 i hi').2.1]
        exact c3 i hi'
    · have hi2 : i < nT b 625 := by omega
      have z := c4 i hi hi2 G' k' a
      rw [qi i hi2, lk _ (Q2 i hi2).2.1, lk _ z.1]
      exact ⟨(bt _).mpr (Or.inl z.1), z.2⟩
    · have hi2 : i < nT b 625 := by omega
      rw [qi i hi2]
      exact c5 i hi hi2
    · exact (bt _).mpr (Or.inl c6)
    · rw [lk _ c6]
      exact c7
    · rw [N']
      omega
    · rw [qi t r1]
      exact r2
    · rw [N'] at hi
      rw [lk s bs]
      by_cases e : i = nT b 625
      · rw [e, up_p, up_p]
        exact Nat.le_refl _
      · have hi' : i < nT b 625 := by omega
        rw [qi i hi', lk _ (Q2 i hi').2.1]
        exact r3 i hi'
    · rw [lk s bs]
      rcases d with d | ⟨d1, d2⟩
      · have z := r4 G' k' a d
        rw [lk _ z.1]
        exact ⟨(bt _).mpr (Or.inl z.1), z.2⟩
      · rw [d1, d2, hc, up_p]
        exact ⟨(bt _).mpr (Or.inr rfl), Nat.le_refl _⟩
theorem e_spreadC {v : Wd} {p : Nat} {x : Int32} {t s G : Nat} {h : AH} (hn : v.n ≤ 4) (so : SOk v.n v.has v.pl v.wo) (ok : stOk v s) (g0 : 0 < G) (hG : G < 2 ^ v.n) (B : cB v h) (Z : cZ v (fun q => v.it q 3) v.wo h) (S : SB v p x t s (fun G' _ => G' < G) h) : ∃ h', f_X4_spread 51 (nI s) (nI G) h = some h' ∧ cB v h' ∧ cZ v (fun q => v.it q 3) v.wo h' ∧ SB v p x t s (fun G' _ => G' < G + 1) h' := by
  have hn6 : v.n ≤ 6 := by omega
  have h64 := pow_le6 hn6
  have p5 := q5_le hn
  have s5 := ok.1
  obtain ⟨_, _, _, _, w5, _⟩ := W_parts g0 (show G < 64 by omega)
  have dl : door (stW v s) 0 G < 2 ^ v.n := door_lt (stW v s) 0 G
  obtain ⟨h1, e1, I1, a1⟩ := c_first (D := door (stW v s) 0 G) hn6 hG g0 Z
  unfold f_X4_spread
  rw [e_for hn so ok (by omega) B.cn (fun q hq' => (B.2.2.2.2.2.2.2.1 q hq').2.1), ob_some, rv_51_2, e1, ob_some]
  refine lp (fun fu i (y : Int32 × AH) => ∃ h', f_X4_spread_21 fu 51 (nI s) (nI (nW G)) y.1 (nI i) y.2 = some h' ∧ cB v h' ∧ cZ v (fun q => v.it q 3) v.wo h' ∧ SB v p x t s (fun G' _ => G' < G + 1) h') (fun i y => cB v y.2 ∧ cI v (fun q => v.it q 3) v.wo G (door (stW v s) 0 G) i y.1 y.2 ∧ SB v p x t s (fun G' k' => G' < G ∨ (G' = G ∧ k' < i)) y.2) (nW G) (by omega) ?_ ?_ (s := (0, h1)) ⟨cB_agr a1 rfl B, I1, SB_up (SB_agr a1 rfl S) (fun G' k' _ d => by
    rcases d with d | d
    · exact d
    · omega)⟩
  · rintro fu ⟨y, g⟩ ⟨Bg, Ig, Sg⟩
    simp only
    rw [f_X4_spread_21, if_pos (by rw [nI_leI (by omega) (by omega)]; omega)]
    refine ⟨g, rfl, Bg, Ig.1, SB_up Sg (fun G' k' w d => ?_)⟩
    by_cases e : G' = G
    · refine Or.inr ⟨e, ?_⟩
      rw [← e]
      exact w.2.2
    · exact Or.inl (by omega)
  · rintro fu i ⟨y, g⟩ hi ⟨Bg, Ig, Sg⟩ K
    have Bg : cB v g := Bg
    have Ig : cI v (fun q => v.it q 3) v.wo G (door (stW v s) 0 G) i y g := Ig
    have Sg : SB v p x t s (fun G' k' => G' < G ∨ (G' = G ∧ k' < i)) g := Sg
    simp only at K ⊢
    obtain ⟨h3, e3, g3, a3⟩ := c_step hG g0 dl Ig hi
    have eb := e_behind hn hG g0 hi s5 g3
    obtain ⟨h5, e5, S5⟩ := e_reach (k := i) hn (SB_agr a3 rfl Sg) ⟨g0, hG, hi⟩
    have a5 : Agr W_X4_reach_i51 h3 h5 := w_f_X4_reach_i51 _ _ _ _ e5
    obtain ⟨y', h6, e6, I6, a6⟩ := c_nxt hG g0 (cGo_agr a5 rfl g3) hi
    rw [f_X4_spread_21, if_neg (by rw [nI_leI (by omega) (by omega)]; omega), rv_51_2, e3, ov_some, eb, ob_some, rv_51_6, an_54, og_ix (by omega) (by omega), nI_clamp (by omega), e5, ov_some, e6, ob_some, nm_id, nI_1]
    refine K (y', h6) ⟨cB_agr a6 rfl (cB_agr a5 rfl (cB_agr a3 rfl Bg)), I6, SB_up (SB_agr a6 rfl S5) (fun G' k' w d => ?_)⟩
    rcases d with d | ⟨d1, d2⟩
    · exact Or.inl (Or.inl d)
    · by_cases e : k' = i
      · exact Or.inr ⟨d1, e⟩
      · exact Or.inl (Or.inr ⟨d1, by omega⟩)
theorem e_f68 {v : Wd} {p : Nat} {x x1 x2 x3 : Int32} {t s : Nat} {h : AH} (q24 : Nat → Int32 → Int32 → Int32 → AH → Option (Int32 × AH)) (hn : v.n ≤ 4) (so : SOk v.n v.has v.pl v.wo) (ok : stOk v s) (B : cB v h) (Z : cZ v (fun q => v.it q 3) v.wo h) (S : SB v p x t s (fun _ _ => False) h) : ∃ h', f_X4_fewest_68 q24 FU 51 x1 x2 x3 (nI s) 1 h = q24 51 x1 x2 (x3 + 1) h' ∧ cB v h' ∧ cZ v (fun q => v.it q 3) v.wo h' ∧ SB v p x t s (fun _ _ => True) h' := by
  have hn6 : v.n ≤ 6 := by omega
  have h64 := pow_le6 hn6
  have p1 := Nat.two_pow_pos v.n
  refine lp (fun fu i g => ∃ h', f_X4_fewest_68 q24 fu 51 x1 x2 x3 (nI s) (nI (i + 1)) g = q24 51 x1 x2 (x3 + 1) h' ∧ cB v h' ∧ cZ v (fun q => v.it q 3) v.wo h' ∧ SB v p x t s (fun _ _ => True) h') (fun i g => cB v g ∧ cZ v (fun q => v.it q 3) v.wo g ∧ SB v p x t s (fun G' _ => G' < i + 1) g) (2 ^ v.n - 1) (by omega) ?_ ?_ ⟨B, Z, SB_up S (fun G' k' w d => by have := w.1; omega)⟩
  · rintro fu g ⟨Bg, Zg, Sg⟩
    refine ⟨g, ?_, Bg, Zg, SB_up Sg (fun G' k' w _ => by have := w.2.1; omega)⟩
    rw [f_X4_fewest_68, rv_51_0, Bg.cn, shl_n _ (by omega), if_pos (by rw [nI_leI (by omega) (by omega)]; omega), nm_id]
  · rintro fu i g hi ⟨Bg, Zg, Sg⟩ K
    obtain ⟨h2, e2, B2, Z2, S2⟩ := e_spreadC hn so ok (show 0 < i + 1 by omega) (by omega) Bg Zg Sg
    rw [f_X4_fewest_68, rv_51_0, Bg.cn, shl_n _ (by omega), if_neg (by rw [nI_leI (by omega) (by omega)]; omega), e2, ov_some, nm_id, nI_1]
    exact K h2 ⟨B2, Z2, S2⟩
theorem core_all {v : Wd} {p : Nat} {x : Int32} {t : Nat} {q : Nat → Nat} {b : Nat → Bool} {l : Nat → Nat} {h : AH} (hn : v.n ≤ 4) (so : SOk v.n v.has v.pl v.wo) (C : core v p x t q b l h) : ∀ e c, Tr v e c → (∀ j, t ≤ j → j < nT b 625 → e ≤ l (q j)) → b c = true ∧ l c ≤ e := by
  have p5 := q5_le hn
  obtain ⟨⟨Q1, Q2, Q3, Q4⟩, c1, c2, c3, c4, c5, c6, c7⟩ := C
  intro e
  induction e with
  | zero =>
    intro c hc _
    have hc : c = st0 v := hc
    rw [hc, c7]
    exact ⟨c6, Nat.le_refl _⟩
  | succ e ih =>
    intro c hc he
    rcases hc with hc | ⟨s, G, k, hs, w, rfl⟩
    · have := ih c hc (fun j a d => by have := he j a d; omega)
      exact ⟨this.1, by omega⟩
    · have z := ih s hs (fun j a d => by have := he j a d; omega)
      have s5 := (Tr_ok hn so e s hs).1
      obtain ⟨i, hi, rfl⟩ := Q3 s (by omega) z.1
      have it : i < t := by
        refine Decidable.byContradiction (fun n => ?_)
        have := he i (by omega) hi
        omega
      have u := c4 i it hi G k w
      exact ⟨u.1, by omega⟩
theorem e_f24 {v : Wd} {p : Nat} {x : Int32} (hn : v.n ≤ 4) (so : SOk v.n v.has v.pl v.wo) (hp : p < v.n) : ∀ fu t h, 627 ≤ fu + t → cB v h → cZ v (fun q => v.it q 3) v.wo h → HB v p x t h → ∃ r h', f_X4_fewest_24 fu 51 (nI p) x (nI t) h = some (r, h') ∧ Ans v p x r := by
  have p5 := q5_le hn
  intro fu
  induction fu with
  | zero =>
    intro t h hf _ _ H
    obtain ⟨q, b, l, _, H2, _⟩ := H
    have := nT_le b 625
    omega
  | succ fu ih =>
    intro t h hf B Z H
    obtain ⟨q, b, l, C, H2, H3⟩ := H
    have NL := nT_le b 625
    have C' := C
    obtain ⟨⟨Q1, Q2, Q3, Q4⟩, c1, c2, c3, c4, c5, c6, c7⟩ := C'
    have none : t = nT b 625 → Ans v p x (-1) := by
      intro e
      refine Or.inr ⟨rfl, fun e' c tr w => ?_⟩
      have z := core_all hn so C e' c tr (fun j a d => by omega)
      have s5 := (Tr_ok hn so e' c tr).1
      obtain ⟨i, hi, rfl⟩ := Q3 c (by omega) z.1
      exact c5 i (by omega) hi w
    rw [f_X4_fewest_24]
    unfold f_X4_fewest_102
    by_cases t6 : 625 ≤ t
    · rw [if_pos (by rw [show (625 : Int32) = nI 625 from rfl, nI_leI (by decide) (by omega)]; exact t6)]
      exact ⟨_, _, rfl, none (by omega)⟩
    · rw [if_neg (by rw [show (625 : Int32) = nI 625 from rfl, nI_leI (by decide) (by omega)]; exact t6), Q1]
      by_cases tN : nT b 625 ≤ t
      · rw [if_pos (by rw [nI_leI (by omega) (by omega)]; exact tN)]
        exact ⟨_, _, rfl, none (by omega)⟩
      · have tl : t < nT b 625 := by omega
        have qt := Q2 t tl
        have ok := Tr_ok hn so _ _ (c1 (q t) qt.1 qt.2.1)
        rw [if_neg (by rw [nI_leI (by omega) (by omega)]; exact tN), rv_51_7, an_55, og_ix (by omega) (by omega), nm_id, nI_clamp (by omega), qt.2.2, e_pairIn qt.1 (by omega), ob_some]
        by_cases g : hq (q t) p = x
        · rw [if_pos g, rv_51_6, an_54, og_ix qt.1 (by omega), nI_clamp (by omega), Q4 _ qt.1, if_pos qt.2.1]
          refine ⟨_, _, rfl, Or.inl ⟨l (q t), rfl, ⟨q t, c1 _ qt.1 qt.2.1, g⟩, fun e' he' st tr w => ?_⟩⟩
          have z := core_all hn so C e' st tr (fun j a d => by have := c2 t j a d; omega)
          have s5 := (Tr_ok hn so e' st tr).1
          obtain ⟨i, hi, rfl⟩ := Q3 st (by omega) z.1
          have it : i < t := by
            refine Decidable.byContradiction (fun n => ?_)
            have := c2 t i (by omega) hi
            omega
          exact c5 i it hi w
        · have S : SB v p x t (q t) (fun _ _ => False) h := ⟨q, b, l, C, tl, rfl, H3 tl, fun _ _ _ d => d.elim⟩
          obtain ⟨h2, e2, B2, Z2, S2⟩ := e_f68 (x1 := nI p) (x2 := x) (x3 := nI t) (f_X4_fewest_24 fu) hn so ok B Z S
          rw [if_neg g, e2, nI_1]
          refine ih (t + 1) h2 (by omega) B2 Z2 ?_
          obtain ⟨q', b', l', ⟨Q', d1, d2, d3, d4, d5, d6, d7⟩, r1, r2, r3, r4⟩ := S2
          refine ⟨q', b', l', ⟨Q', d1, d2, d3, fun i hi hi' G k w => ?_, fun i hi hi' => ?_, d6, d7⟩, by omega, fun lt i hi => ?_⟩
          · by_cases e : i = t
            · rw [e, r2]
              exact r4 G k w trivial
            · exact d4 i (by omega) hi' G k w
          · by_cases e : i = t
            · rw [e, r2]
              exact g
            · exact d5 i (by omega) hi'
          · have a := d2 t (t + 1) (by omega) lt
            have c := r3 i hi
            rw [r2] at a
            omega
theorem e_fewest {v : Wd} {p : Nat} {x : Int32} {h : AH} (hn : v.n ≤ 4) (hp : p < v.n) (B : cB v h) (Z : cZ v (fun q => v.it q 3) v.wo h) : ∃ r h', f_X4_fewest 51 (nI p) x h = some (r, h') ∧ Ans v p x r := by
  have so := B.2.2.2.1
  have p5 := q5_le hn
  have s0 := (st0_ok hn so).1
  have s6 : st0 v < 625 := by omega
  obtain ⟨h1, e1, f1, a1⟩ := e_fill (k := 54) (by rw [an_54]; omega) (-1) h
  rw [an_54] at f1
  have a2 : Agr ((51, 8) :: (54, 1000) :: []) h (sI h1 51 8 0) := agr_sI (agr_up a1 rfl) rfl
  have B2 := cB_agr a2 rfl B
  have es : f_X4_stateNow 51 (sI h1 51 8 0) = some (nI (st0 v), sI h1 51 8 0) := e_stNow (f := fun p => tkN (v.has p)) hn B2.cn (fun q hq' => by rw [(B2.2.2.2.2.2.2.2.1 q hq').1, (has_e hn so hq').1])
  unfold f_X4_fewest
  rw [rv_51_6, e1, ov_some, nm_id, es, ob_some]
  have er : f_X4_reach 51 (nI (st0 v)) 0 (sI h1 51 8 0) = some (sI (sI (sI (sI h1 51 8 0) 54 (st0 v) 0) 55 0 (nI (st0 v))) 51 8 1) := by
    unfold f_X4_reach f_X4_reach_47
    rw [rv_51_6, an_54, og_ix s6 (by omega), nI_clamp (by omega), sI_n (Or.inl (by decide)), f1 _ s6, if_pos rfl, sI_s, if_neg (by decide), og_ix s6 (by omega), nm_id, sI_n (Or.inl (by decide)), sI_s, rv_51_7, an_55, og_t (by decide), nm_id, sI_n (Or.inl (by decide)), sI_n (Or.inl (by decide)), sI_s, nm_id]
    rfl
  rw [er, ov_some]
  have a3 : Agr ((51, 8) :: (54, 1000) :: (55, 1000) :: []) h (sI (sI (sI (sI h1 51 8 0) 54 (st0 v) 0) 55 0 (nI (st0 v))) 51 8 1) := agr_sI (agr_sI (agr_sI (agr_up a2 rfl) rfl) rfl) rfl
  have N1 : nT (fun y => (fun _ => false) y || decide (y = st0 v)) 625 = 1 := by
    have z : ∀ k, nT (fun _ => false) k = 0 := by
      intro k
      induction k with
      | zero => rfl
      | succ k ih => rw [nT, if_neg (by decide), ih]
    rw [nT_add rfl, if_pos s6, z]
  have N1 : nT (fun y => decide (y = st0 v)) 625 = 1 := by
    rw [← N1]
    congr 1
  have o : 0 < nT (fun y => decide (y = st0 v)) 625 := by omega
  refine e_f24 hn so hp FU 0 _ (by unfold FU; omega) (cB_agr a3 rfl B) (cZ_agr a3 rfl Z) ⟨fun _ => st0 v, fun y => decide (y = st0 v), fun _ => 0, ⟨⟨?_, fun i hi => ?_, fun c hc hb => ⟨0, o, (of_decide_eq_true hb).symm⟩, fun c hc => ?_⟩, fun c hc hb => (show c = st0 v from of_decide_eq_true hb), fun _ _ _ _ => Nat.le_refl _, fun _ _ => Nat.zero_le _, fun i hi => absurd hi (by omega), fun i hi => absurd hi (by omega), decide_eq_true rfl, rfl⟩, Nat.zero_le _, fun _ _ _ => Nat.zero_le _⟩
  · rw [sI_s, N1]
    rfl
  · rw [N1] at hi
    have : i = 0 := by omega
    rw [this, sI_n (Or.inl (by decide)), sI_s]
    exact ⟨s6, decide_eq_true rfl, rfl⟩
  · rw [sI_n (Or.inl (by decide)), sI_n (Or.inl (by decide))]
    by_cases d : c = st0 v
    · rw [d, sI_s, if_pos (decide_eq_true rfl)]
      rfl
    · rw [sI_n (Or.inr d), sI_n (Or.inl (by decide)), f1 c hc, if_neg (show ¬ decide (c = st0 v) = true by rw [decide_eq_false d]; decide)]
/-- the relation, with what was put back -/
theorem rel_back {W : List (Nat × Nat)} {v : Wd} {h0 h : AH} (a : Agr W h0 h) (d : Wdis (wless 62 63 W) ST = true) (f : ∀ q, q < v.n → h.1 62 q = v.has q ∧ h.1 63 q = v.pl q) (R : RelV v h0) : RelV v h := by
  -- a heap whose cells 62 and 63 are those before
  let h' : AH := sA (sA h 62 (h0.1 62)) 63 (h0.1 63)
  have h62 : h'.1 62 = h0.1 62 := by
    funext j
    show (sA (sA h 62 (h0.1 62)) 63 (h0.1 63)).1 62 j = _
    rw [sA_eq, if_neg (by decide), sA_eq, if_pos rfl]
  have h63 : h'.1 63 = h0.1 63 := by
    funext j
    show (sA (sA h 62 (h0.1 62)) 63 (h0.1 63)).1 63 j = _
    rw [sA_eq, if_pos rfl]
  have ho : ∀ k, k ≠ 62 → k ≠ 63 → h'.1 k = h.1 k := by
    intro k k1 k2
    funext j
    show (sA (sA h 62 (h0.1 62)) 63 (h0.1 63)).1 k j = _
    rw [sA_eq, if_neg k2, sA_eq, if_neg k1]
  have E : EqOn ST h0 h' := by
    intro k j hb
    by_cases ka : k = 62
    · rw [ka, h62]
    · by_cases kb : k = 63
      · rw [kb, h63]
      · rw [ho k ka kb]
        refine a.1 k j ?_
        cases hw : Wmem W k j with
        | false => rfl
        | true =>
          obtain ⟨c, hc, rfl, hj⟩ := Wmem_iff.mp hw
          have : Wmem (wless 62 63 W) c.1 j = true := Wmem_iff.mpr ⟨c, List.mem_filter.mpr ⟨hc, by rw [nbeq (fun w => ka w.symm), nbeq (fun w => kb w.symm)]; rfl⟩, rfl, hj⟩
          rw [Wdis_no d hb] at this
          cases this
  have R' := rel_eq E R
  have back : ∀ (A : List (Nat × Nat)), (A.all (fun c => !(Nat.beq c.1 62) && !(Nat.beq c.1 63))) = true → EqOn A h' h := by
    intro A hA k j hk
    obtain ⟨c, hc, rfl, hj⟩ := Wmem_iff.mp hk
    have := List.all_eq_true.mp hA c hc
    rw [Bool.and_eq_true, Bool.not_eq_true', Bool.not_eq_true'] at this
    rw [ho c.1 (fun w => by rw [w] at this; exact absurd this.1 (by decide)) (fun w => by rw [w] at this; exact absurd this.2 (by decide))]
  obtain ⟨R1, R2, R3, R4, R5, R6, R7, R8⟩ := R'
  refine ⟨gT_eq (back _ rfl) R1, gP_eq (back _ rfl) R2, gO_eq (back _ rfl) R3, gR_eq (back _ rfl) R4, ?_, gD_eq (back _ rfl) R6, gG_eq (back _ rfl) R7, gI_eq (back _ rfl) R8⟩
  have e := back ((25, 1000) :: (26, 1000) :: (27, 1000) :: (65, 1000) :: []) rfl
  unfold gS at R5 ⊢
  rw [eqOn_c e 25 (fun _ => rfl), eqOn_c e 26 (fun _ => rfl), eqOn_c e 27 (fun _ => rfl), eqOn_c e 65 (fun _ => rfl)]
  refine ⟨R5.1, fun p hp => ⟨(R5.2.1 p hp).1, (f p hp).1, (f p hp).2, (R5.2.1 p hp).2.2.2⟩, R5.2.2⟩
theorem g26 : G26 Rel := by
  intro h ⟨v, R⟩ a1 a2
  have hn := R.n6
  have R2 := R.thr (x := 0)
  by_cases k1 : knB (nI v.n) a1 = true
  · by_cases k2 : knB (nI v.n) a2 = true
    · by_cases n4 : v.n ≤ 4
      · obtain ⟨p, hp, rfl⟩ := (knB_iff (by omega)).mp k1
        have n0 : v.n ≠ 0 := by omega
        obtain ⟨h3, e3, B3, Z3⟩ := e_opened (R.cB n0)
        obtain ⟨r, h4, e4, A4⟩ := e_fewest (x := a2) n4 hp B3 Z3
        have E1 : f_X11_bring 0 (nI p) a2 h = some (r, h4) := by
          unfold f_X11_bring
          rw [e_X11_isKnown, R.cn, k1, ob_some, zi, if_pos rfl, e_X11_isKnown, R.cn, k2, ob_some, zi, if_pos rfl, rv_0_1, R.cn, if_pos (by rw [show (4 : Int32) = nI 4 from rfl, nI_leI (by omega) (by decide)]; exact n4), rv_0_10, rv_0_6, e3, ov_some, rv_0_14, e4, ob_some]
        have R4 : RelV v h4 := rel_agr (w_f_X11_bring_i0 _ _ _ _ E1) rfl R
        obtain ⟨r', h5, e5, A5, f5⟩ := bring_M (x := a2) n4 n0 hp k2 (R4.mB n0)
        rw [Ans_u A5 A4] at e5
        have W5 : Agr W_X12_bring_i56 h4 h5 := w_f_X12_bring_i56 _ _ _ _ e5
        exact ⟨r, h4, h5, E1, e5, v, rel_back W5 rfl f5 R4⟩
      · refine ⟨-1, h, sI h 56 0 0, ?_, ?_, v, R2⟩
        · unfold f_X11_bring f_X11_bring_27
          rw [e_X11_isKnown, R.cn, k1, ob_some, zi, if_pos rfl, e_X11_isKnown, R.cn, k2, ob_some, zi, if_pos rfl, rv_0_1, R.cn, if_neg (by rw [show (4 : Int32) = nI 4 from rfl, nI_leI (by omega) (by decide)]; exact n4)]
        · unfold f_X12_bring f_X12_bring_29
          rw [nm_id, R2.mn, if_pos (by rw [show (4 : Int32) = nI 4 from rfl, nI_ltI (by decide) (by omega)]; omega)]
    · refine ⟨-1, h, sI h 56 0 0, ?_, ?_, v, R2⟩
      · unfold f_X11_bring f_X11_bring_27
        rw [e_X11_isKnown, R.cn, k1, ob_some, zi, if_pos rfl, e_X11_isKnown, R.cn, ob_some, zi, if_neg k2]
      · unfold f_X12_bring f_X12_bring_29
        rw [nm_id, e_X12_isPerson, R2.mn, k1, ob_some, zi, if_pos rfl, e_X12_isPerson, R2.mn, ob_some, zi, if_neg k2]
        simp
  · refine ⟨-1, h, sI h 56 0 0, ?_, ?_, v, R2⟩
    · unfold f_X11_bring f_X11_bring_27
      rw [e_X11_isKnown, R.cn, ob_some, zi, if_neg k1]
    · unfold f_X12_bring f_X12_bring_29
      rw [nm_id, e_X12_isPerson, R2.mn, ob_some, zi, if_neg k1]
      simp
