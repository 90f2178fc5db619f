/-! cobbler -/
def wless (a b : Nat) (W : List (Nat × Nat)) : List (Nat × Nat) := W.filter (fun c => !(Nat.beq c.1 a) && !(Nat.beq c.1 b))
theorem eqOn_less {a b : Nat} {W B : List (Nat × Nat)} {h0 h : AH} (ag : Agr W h0 h) (ea : h.1 a = h0.1 a) (eb : h.1 b = h0.1 b) (d : Wdis (wless a b W) B = true) : EqOn B h0 h := by
  intro k j hb
  by_cases ka : k = a
  · rw [ka, ea]
  · by_cases kb : k = b
    · rw [kb, eb]
    · refine ag.1 k j ?_
      cases hw : Wmem W k j with
      | false => rfl
      | true =>
        obtain ⟨c, hc, rfl, hj⟩ := Wmem_iff.mp hw
        have : Wmem (wless a b W) c.1 j = true := Wmem_iff.mpr ⟨c, List.mem_filter.mpr ⟨hc, by rw [nbeq (fun w => ka w.symm), nbeq (fun w => kb w.symm)]; rfl⟩, rfl, hj⟩
        rw [Wdis_no d hb] at this
        cases this
def up (f : Nat → Nat) (p x q : Nat) : Nat := if q = p then x else f q
theorem dsr_cong {v : Wd} {sz wo sz' wo' : Nat → Nat} {p q st : Nat} (e1 : sz q = sz' q) (e2 : wo q = wo' q) : dsr v sz wo p q st = dsr v sz' wo' p q st := by
  have : ltS v sz wo p q st = ltS v sz' wo' p q st := by
    funext i
    unfold ltS
    rw [e1, e2]
  unfold dsr rlV
  rw [e1, e2, this]
theorem e_rep39 {k0' : Nat} (q : Nat → Int32 → Int32 → AH → Option AH) {p a : Nat} (hp : p < 6) (ha : a < 6) (h : AH) : ∃ h', f_X2_replace_39 q FU 35 (nI p) (nI a) (nI ((a * 6 + p) * 7)) 0 h = q 35 (nI p) (nI (a + 1)) h' ∧ Agr ((38, 1000) :: []) h h' ∧ (∀ st, st < 7 → h'.1 38 ((a * 6 + p) * 7 + st) = -2) ∧ ∀ j, (j < (a * 6 + p) * 7 ∨ (a * 6 + p) * 7 + 7 ≤ j) → h'.1 38 j = h.1 38 j := by
  refine lp (fun n i g => ∃ h', f_X2_replace_39 q n 35 (nI p) (nI a) (nI ((a * 6 + p) * 7)) (nI i) g = q 35 (nI p) (nI (a + 1)) h' ∧ Agr ((38, 1000) :: []) h h' ∧ (∀ st, st < 7 → h'.1 38 ((a * 6 + p) * 7 + st) = -2) ∧ ∀ j, (j < (a * 6 + p) * 7 ∨ (a * 6 + p) * 7 + 7 ≤ j) → h'.1 38 j = h.1 38 j) (fun i g => Agr ((38, 1000) :: []) h g ∧ (∀ st, st < i → g.1 38 ((a * 6 + p) * 7 + st) = -2) ∧ ∀ j, (j < (a * 6 + p) * 7 ∨ (a * 6 + p) * 7 + 7 ≤ j) → g.1 38 j = h.1 38 j) 7 (by decide) ?_ ?_ ⟨agr_refl h, fun st hs => absurd hs (by omega), fun _ _ => rfl⟩
  · rintro n g ⟨g1, g2, g3⟩
    rw [f_X2_replace_39, if_pos (by decide), nm_id, nI_1]
    exact ⟨g, rfl, g1, g2, g3⟩
  · rintro n i g hi ⟨g1, g2, g3⟩ K
    rw [f_X2_replace_39, if_neg (by rw [show (7 : Int32) = nI 7 from rfl, nI_leI (by decide) (by omega)]; omega), nI_add, rv_35_4, an_38, og_ix (by omega) (by omega), nm_id, nI_clamp (by omega), nm_id, nI_1]
    refine K _ ⟨agr_sI g1 rfl, fun st hs => ?_, fun j hj => ?_⟩
    · by_cases e : st = i
      · subst e
        exact sI_s ..
      · rw [sI_n (Or.inr (by omega))]
        exact g2 st (by omega)
    · rw [sI_n (Or.inr (by omega))]
      exact g3 j hj
theorem e_replace {v : Wd} {sz wo sz' wo' : Nat → Nat} {p : Nat} {h : AH} (Z : cZ v sz wo h) (hp : p < v.n) (ag : ∀ q, q < v.n → q ≠ p → sz q = sz' q ∧ wo q = wo' q) (B : szB v sz' wo') : ∃ h', f_X2_replace 35 (nI p) (nI (sz' p)) (nI (wo' p)) h = some h' ∧ cZ v sz' wo' h' := by
  have hn := Z.1.1.1.1
  have h64 := pow_le6 hn
  unfold f_X2_replace
  rw [rv_35_2, an_36, og_ix (by omega) (by omega), nm_id, rv_35_3, an_37, og_ix (by omega) (by omega), nm_id, nI_clamp (by omega)]
  have a0 : Agr ((36, 1000) :: (37, 1000) :: []) h (sI (sI h 36 p (nI (sz' p))) 37 p (nI (wo' p))) := agr_sI (agr_sI (agr_refl h) rfl) rfl
  generalize hg : sI (sI h 36 p (nI (sz' p))) 37 p (nI (wo' p)) = g0 at a0
  have F0 : cF v sz' wo' g0 := by
    obtain ⟨F1, F2, F3, F4, F5, F6⟩ := Z.1
    have cs : ∀ k, k ≠ 36 → k ≠ 37 → g0.1 k = h.1 k := fun k h1 h2 => agr_cell a0 k (by simp [nbeq h1, nbeq h2])
    refine ⟨⟨F1.1, by rw [cs 3 (by decide) (by decide)]; exact F1.2.1, by rw [cs 4 (by decide) (by decide)]; exact F1.2.2⟩, F2, B, by rw [cs 5 (by decide) (by decide)]; exact F4, fun r hr => ?_, fun q hq => ?_⟩
    · have := F2.1
      rw [cs (12 + 3 * r) (by omega) (by omega), cs (13 + 3 * r) (by omega) (by omega)]
      exact F5 r hr
    · rw [← hg]
      by_cases e : q = p
      · subst e
        rw [sI_n (Or.inl (by decide)), sI_s, sI_s]
        exact ⟨rfl, rfl⟩
      · rw [sI_n (Or.inl (by decide)), sI_n (Or.inr e), sI_n (Or.inr e), sI_n (Or.inl (by decide)), (F6 q hq).1, (F6 q hq).2, (ag q hq e).1, (ag q hq e).2]
        exact ⟨rfl, rfl⟩
  have e38 : g0.1 38 = h.1 38 := agr_cell a0 38 rfl
  clear hg
  refine lp (fun n i g => ∃ h', f_X2_replace_17 n 35 (nI p) (nI i) g = some h' ∧ cZ v sz' wo' h') (fun i g => Agr ((38, 1000) :: []) g0 g ∧ (∀ a, a < i → ∀ st, st < 7 → g.1 38 ((a * 6 + p) * 7 + st) = -2) ∧ ∀ a q st, a < 6 → q < 6 → st < 7 → q ≠ p → g.1 38 ((a * 6 + q) * 7 + st) = g0.1 38 ((a * 6 + q) * 7 + st)) 6 (by decide) ?_ ?_ ⟨agr_refl g0, fun a ha => absurd ha (by omega), fun _ _ _ _ _ _ _ => rfl⟩
  · rintro n g ⟨g1, g2, g3⟩
    obtain ⟨h2, e2, a2, b2⟩ := e_fill (k := 39) (by rw [an_39]; omega) (-2) g
    rw [f_X2_replace_17, if_pos (by decide), rv_35_5, e2, ov_some]
    refine ⟨h2, rfl, cF_eq (agr_on b2 rfl) (cF_eq (agr_on g1 rfl) F0), fun a ha q hq st hs => ?_, fun a ha D hD => Or.inl (a2 _ (by rw [an_39]; omega))⟩
    rw [agr_cell b2 38 rfl]
    by_cases e : q = p
    · subst e
      exact Or.inl (g2 a (by omega) st hs)
    · rw [g3 a q st (by omega) (by omega) hs e, e38, dsr_cong (ag q hq e).1.symm (ag q hq e).2.symm]
      exact Z.2.1 a ha q hq st hs
  · rintro n i g hi ⟨g1, g2, g3⟩ K
    obtain ⟨h2, e2, a2, b2, c2⟩ := e_rep39 (k0' := 0) (f_X2_replace_17 n) (show p < 6 by omega) hi g
    rw [f_X2_replace_17, if_neg (by rw [show (6 : Int32) = nI 6 from rfl, nI_leI (by decide) (by omega)]; omega), nm_id, show nI i * 6 = nI (i * 6) from k_mul i 6, nI_add, show nI (i * 6 + p) * 7 = nI ((i * 6 + p) * 7) from k_mul _ 7, e2]
    refine K h2 ⟨agr_tr g1 a2 rfl, fun a ha st hs => ?_, fun a q st ha hq hs hne => ?_⟩
    · by_cases e : a = i
      · subst e
        exact b2 st hs
      · rw [c2 _ (by omega)]
        exact g2 a (by omega) st hs
    · rw [c2 _ (by omega)]
      exact g3 a q st ha hq hs hne
theorem e_ever {v : Wd} {sz wo : Nat → Nat} {p : Nat} {h : AH} (Z : cZ v sz wo h) (hp : p < v.n) : ∃ b h', f_X2_isEverTaken 35 (nI p) (nI p) h = some (zb b, h') ∧ cZ v sz wo h' ∧ (b = false → ∀ st, 1 ≤ st → st < 7 → ¬ 0 < dsr v sz wo p p st) := by
  unfold f_X2_isEverTaken
  refine lp (fun n i g => ∃ b h', f_X2_isEverTaken_2 n 35 (nI p) (nI p) (nI (i + 1)) g = some (zb b, h') ∧ cZ v sz wo h' ∧ (b = false → ∀ st, 1 ≤ st → st < 7 → ¬ 0 < dsr v sz wo p p st)) (fun i g => cZ v sz wo g ∧ ∀ st, 1 ≤ st → st < i + 1 → ¬ 0 < dsr v sz wo p p st) 6 (by decide) ?_ ?_ ⟨Z, fun st h1 h2 => absurd h2 (by omega)⟩
  · rintro n g ⟨g1, g2⟩
    rw [f_X2_isEverTaken_2, if_pos (by decide)]
    exact ⟨false, g, rfl, g1, fun _ => g2⟩
  · rintro n i g hi ⟨g1, g2⟩ K
    obtain ⟨h1, e1, Z1⟩ := e_desire g1 hp hp (show i + 1 < 7 by omega)
    rw [f_X2_isEverTaken_2, if_neg (by rw [show (7 : Int32) = nI 7 from rfl, nI_leI (by decide) (by omega)]; omega), e1, ob_some]
    by_cases c : dsr v sz wo p p (i + 1) ≤ 0
    · rw [if_pos c, nm_id, nI_1]
      refine K h1 ⟨Z1, fun st a b => ?_⟩
      by_cases e : st = i + 1
      · rw [e]
        intro w
        rw [Int32.lt_iff_toInt_lt] at w
        rw [Int32.le_iff_toInt_le] at c
        omega
      · exact g2 st a (by omega)
    · rw [if_neg c]
      exact ⟨true, h1, rfl, Z1, fun w => absurd w (by decide)⟩
theorem pkF_v {ds : Nat → Int32} {p D : Nat} : ∀ k, pkF ds p D k = (-1, 0) ∨ ∃ j, j < k ∧ pkF ds p D k = (nI j, ds j) ∧ 0 < ds j ∧ D.testBit j = true := by
  intro k
  induction k with
  | zero => exact Or.inl rfl
  | succ k ih =>
    rw [pkF]
    split
    · rename_i c
      refine Or.inr ⟨k, by omega, rfl, ?_, c.1⟩
      rcases c.2 with a | a
      · rcases ih with b | ⟨j, _, b, d, _⟩
        · rw [b] at a
          exact a
        · rw [b] at a
          have a : ds j < ds k := a
          rw [Int32.lt_iff_toInt_lt] at a d ⊢
          omega
      · exact a.2.1
    · rcases ih with b | ⟨j, a, b⟩
      · exact Or.inl b
      · exact Or.inr ⟨j, by omega, b⟩
theorem pk_pos {v : Wd} {sz wo : Nat → Nat} {p D q : Nat} (hn : v.n ≤ 6) (hq : q < 6) (e : pk v sz wo p D = nI q) : 0 < dsr v sz wo p q (pc D) ∧ D.testBit q = true := by
  unfold pk at e
  rcases pkF_v (ds := fun q => dsr v sz wo p q (pc D)) (p := p) (D := D) v.n with a | ⟨j, hj, a, b, c⟩
  · rw [a] at e
    have : (nI q = -1) = False := n_m1 (by omega)
    rw [← e] at this
    simp at this
  · rw [a] at e
    have e : nI j = nI q := e
    rw [nI_eq (by omega) (by omega)] at e
    rw [← e]
    exact ⟨b, c⟩
theorem cnt_0 {v : Wd} {sz wo : Nat → Nat} {G D p : Nat} (hn : v.n ≤ 6) (hD : D < 2 ^ v.n) (hp : p < v.n) (h : ∀ st, 1 ≤ st → st < 7 → ¬ 0 < dsr v sz wo p p st) (hr : ∀ k, k < nW G → ∃ j, j < pc G ∧ rw_ G k j = p ∧ gRow v.n G (rw_ G k)) : ∀ k, k ≤ nW G → zs (cnF v sz wo G D p (nI p)) k = 0 := by
  have h64 := pow_le6 hn
  intro k
  induction k with
  | zero => intro _; rfl
  | succ k ih =>
    intro hk
    rw [zs, ih (by omega), cnF, if_neg]
    · rfl
    · intro e
      obtain ⟨j, hj, ej, r⟩ := hr k hk
      have sl := stS_le (sz := sz) (wo := wo) (row := rw_ G k) hn hD j
      have tp := tkP_j (v := v) (sz := sz) (wo := wo) (D := D) r.1 hj
      rw [ej] at tp
      rw [tp] at e
      unfold tkS at e
      rw [ej] at e
      have q := pk_pos hn (by omega) e
      have d0 : 0 < stS v sz wo (rw_ G k) D j := by
        rcases Nat.eq_zero_or_pos (stS v sz wo (rw_ G k) D j) with z | z
        · have := q.2
          rw [z] at this
          simp at this
        · exact z
      exact h _ (pc_pos _ (by omega) d0) (pc_ok _ (by omega)).2 q.1
def ctS (v : Wd) (G D p w s : Nat) : Int32 := zs (cnF v (up (fun q => v.it q 3) p s) (up v.wo p w) G D p (nI p)) (nW G)
def cbF (ct : Nat → Int32) : Nat → Int32 × Int32
  | 0 => (20, 0)
  | k + 1 => if (cbF ct k).2 < ct (20 + k) then (nI (20 + k), ct (20 + k)) else cbF ct k
theorem up_p (f : Nat → Nat) (p x : Nat) : up f p x p = x := if_pos rfl
theorem up_n {f : Nat → Nat} {p x q : Nat} (h : q ≠ p) : up f p x q = f q := if_neg h
theorem e_cobC {v : Wd} {G D p w : Nat} {h : AH} (y : Int32) (hG : G < 2 ^ v.n) (g0 : 0 < G) (hD : D < 2 ^ v.n) (Z : cZ v (fun q => v.it q 3) v.wo h) (hp : p < v.n) (pb : G.testBit p = true) (hw : w ≤ 99) : ∃ h', f_X11_cobbler_101 FU 0 (nI G) (nI p) (nI w) y (nI D) 20 0 20 h = some (if y = 0 then (cbF (ctS v G D p w) 31).1 else (cbF (ctS v G D p w) 31).2, h') := by
  have hn := Z.1.1.1.1
  have h64 := pow_le6 hn
  refine lp (fun n i (s : (Int32 × Int32) × AH) => ∃ h', f_X11_cobbler_101 n 0 (nI G) (nI p) (nI w) y (nI D) s.1.1 s.1.2 (nI (20 + i)) s.2 = some (if y = 0 then (cbF (ctS v G D p w) 31).1 else (cbF (ctS v G D p w) 31).2, h')) (fun i s => s.1 = cbF (ctS v G D p w) i ∧ ∃ sz wo, cZ v sz wo s.2 ∧ ∀ q, q < v.n → q ≠ p → sz q = v.it q 3 ∧ wo q = v.wo q) 31 (by decide) ?_ ?_ (s := ((20, 0), h)) ⟨rfl, _, _, Z, fun _ _ _ => ⟨rfl, rfl⟩⟩
  · rintro n ⟨s, g⟩ ⟨e, _⟩
    have e : s = _ := e
    subst e
    simp only
    rw [f_X11_cobbler_101, if_pos (by decide)]
    refine ⟨g, ?_⟩
    by_cases c : y = 0
    · rw [if_pos c, if_pos c]
      rfl
    · rw [if_neg c, if_neg c]
      rfl
  · rintro n i ⟨s, g⟩ hi ⟨e, sz, wo, Z, ag⟩ K
    have e : s = _ := e
    subst e
    have Z : cZ v sz wo g := Z
    simp only at K ⊢
    have B' : szB v (up (fun q => v.it q 3) p (20 + i)) (up v.wo p w) := by
      intro q hq
      unfold up
      by_cases c : q = p
      · rw [if_pos c, if_pos c]
        omega
      · rw [if_neg c, if_neg c]
        show v.it q 3 ≤ 50 ∧ v.wo q ≤ 99
        rw [← (ag q hq c).1, ← (ag q hq c).2]
        exact Z.1.2.2.1 q hq
    obtain ⟨h1, e1, Z1⟩ := e_replace (sz' := up (fun q => v.it q 3) p (20 + i)) (wo' := up v.wo p w) Z hp (fun q hq c => by rw [up_n c, up_n c]; exact ag q hq c) B'
    rw [up_p, up_p] at e1
    obtain ⟨b, h2, e2, Z2, nb⟩ := e_ever Z1 hp
    rw [f_X11_cobbler_101, if_neg (by rw [show (50 : Int32) = nI 50 from rfl, nI_ltI (by decide) (by omega)]; omega), rv_0_10, e1, ov_some, e2, ob_some, zi]
    have fin : ∀ h3, cZ v (up (fun q => v.it q 3) p (20 + i)) (up v.wo p w) h3 → ∃ h', f_X11_cobbler_148 (f_X11_cobbler_101 n) 0 (nI G) (nI p) (nI w) y (nI D) (cbF (ctS v G D p w) i).1 (cbF (ctS v G D p w) i).2 (nI (20 + i)) (ctS v G D p w (20 + i)) h3 = some (if y = 0 then (cbF (ctS v G D p w) 31).1 else (cbF (ctS v G D p w) 31).2, h') := by
      intro h3 Z3
      have K := K (cbF (ctS v G D p w) (i + 1), h3) ⟨rfl, _, _, Z3, fun q hq c => ⟨up_n c, up_n c⟩⟩
      simp only at K
      rw [cbF] at K
      unfold f_X11_cobbler_148 f_X11_cobbler_165
      simp only [nm_id, nI_1]
      by_cases c : ctS v G D p w (20 + i) ≤ (cbF (ctS v G D p w) i).2
      · rw [if_pos c]
        rw [if_neg (by rw [Int32.lt_iff_toInt_lt]; rw [Int32.le_iff_toInt_le] at c; omega)] at K
        exact K
      · rw [if_neg c]
        rw [if_pos (by rw [Int32.lt_iff_toInt_lt]; rw [Int32.le_iff_toInt_le] at c; omega)] at K
        exact K
    cases b with
    | false =>
      rw [if_neg (by decide)]
      have c0 : ctS v G D p w (20 + i) = 0 := cnt_0 hn hD hp (nb rfl) (fun k hk => by
        have r := W_row hn hG g0 hk
        obtain ⟨j, hj, ej⟩ := r.2.2 p pb
        exact ⟨j, hj, ej, r⟩) (nW G) (Nat.le_refl _)
      have F := fin h2 Z2
      rw [c0] at F
      exact F
    | true =>
      obtain ⟨h3, e3, Z3⟩ := e_countC (nI p) hG g0 hD Z2 hp pb
      rw [if_pos rfl, rv_0_11, e3, ob_some]
      exact fin h3 Z3
theorem cbF_ne {ct : Nat → Int32} : ∀ k, k < 40 → (cbF ct k).1 ≠ -1 := by
  intro k
  induction k with
  | zero => intro _; show ¬ (20 : Int32) = -1; decide
  | succ k ih =>
    intro hk
    rw [cbF]
    split
    · show ¬ nI (20 + k) = -1
      rw [n_m1 (by omega)]
      exact id
    · exact ih (by omega)
theorem cbF_1 {ct : Nat → Int32} (h0 : ¬ ct 20 < 0) : cbF ct 1 = (nI 20, ct 20) := by
  show (if (0 : Int32) < ct 20 then (nI 20, ct 20) else ((20 : Int32), (0 : Int32))) = _
  by_cases c : 0 < ct 20
  · rw [if_pos c]
  · rw [if_neg c]
    have : ct 20 = 0 := by
      rw [Int32.lt_iff_toInt_lt] at c h0
      rw [← Int32.toInt_inj]
      have z : (0 : Int32).toInt = 0 := rfl
      rw [z] at c h0 ⊢
      omega
    rw [this]
    rfl
theorem ct_nn (v : Wd) (G D p w s : Nat) (hN : nW G ≤ 720) : ¬ ctS v G D p w s < 0 := by
  obtain ⟨x, hx, e⟩ := zs01 (c := cnF v (up (fun q => v.it q 3) p s) (up v.wo p w) G D p (nI p)) (fun i => by
    unfold cnF
    split
    · exact Or.inr rfl
    · exact Or.inl rfl) (nW G)
  unfold ctS
  rw [e]
  exact nI_pos (by omega)
theorem e_cob142 {v : Wd} {sz wo : Nat → Nat} {G D p : Nat} {y x7 x8 x9 x10 x11 : Int32} {h : AH} (q : Nat → Int32 → Int32 → Int32 → Int32 → Int32 → Int32 → Int32 → Int32 → Int32 → AH → Option (Int32 × AH)) (hG : G < 2 ^ v.n) (g0 : 0 < G) (hD : D < 2 ^ v.n) (Z : mG v sz wo h) (M : mW G h) (hp : p < v.n) (pb : G.testBit p = true) : ∃ g, f_X12_cobbler_142 q FU 56 (nI G) (nI p) y (nI D) x7 x8 x9 x10 x11 0 0 h = (if x9 = -1 ∨ x10 < zs (cnF v sz wo G D p (nI p)) (nW G) then q 56 (nI G) (nI p) y (nI D) x7 x8 x11 (zs (cnF v sz wo G D p (nI p)) (nW G)) (x11 + 1) g else q 56 (nI G) (nI p) y (nI D) x7 x8 x9 x10 (x11 + 1) g) ∧ mG v sz wo g ∧ mW G g ∧ Agr W_X12_goWay_i56 h g := by
  have hn := Z.1.1.1
  have h64 := pow_le6 hn
  obtain ⟨_, _, _, _, w5, _⟩ := W_parts g0 (show G < 64 by omega)
  refine lp (fun n i (s : Int32 × AH) => ∃ g, f_X12_cobbler_142 q n 56 (nI G) (nI p) y (nI D) x7 x8 x9 x10 x11 s.1 (nI i) s.2 = (if x9 = -1 ∨ x10 < zs (cnF v sz wo G D p (nI p)) (nW G) then q 56 (nI G) (nI p) y (nI D) x7 x8 x11 (zs (cnF v sz wo G D p (nI p)) (nW G)) (x11 + 1) g else q 56 (nI G) (nI p) y (nI D) x7 x8 x9 x10 (x11 + 1) g) ∧ mG v sz wo g ∧ mW G g ∧ Agr W_X12_goWay_i56 h g) (fun i s => s.1 = zs (cnF v sz wo G D p (nI p)) i ∧ mG v sz wo s.2 ∧ mW G s.2 ∧ Agr W_X12_goWay_i56 h s.2) (nW G) (by omega) ?_ ?_ (s := (0, h)) ⟨rfl, Z, M, agr_refl h⟩
  · rintro n ⟨s, g⟩ ⟨e, Z, M, A⟩
    have e : s = _ := e
    subst e
    have M : mW G g := M
    simp only
    refine ⟨g, ?_, Z, M, A⟩
    rw [f_X12_cobbler_142, M.1, if_pos (by rw [nI_leI (by omega) (by omega)]; omega)]
    unfold f_X12_cobbler_202 f_X12_cobbler_210
    simp only [nm_id]
    by_cases c1 : x9 = -1
    · rw [if_pos c1, if_pos (Or.inl c1)]
    · rw [if_neg c1]
      by_cases c2 : x10 < zs (cnF v sz wo G D p (nI p)) (nW G)
      · rw [if_pos c2, if_pos (Or.inr c2)]
      · rw [if_neg c2, if_neg (fun w => w.elim c1 c2)]
  · rintro n i ⟨s, g⟩ hi ⟨e, Z, M, A⟩ K
    have e : s = _ := e
    subst e
    simp only at K ⊢
    have M : mW G g := M
    have Z : mG v sz wo g := Z
    obtain ⟨h3, e3, g3, M3, a3⟩ := m_way hG g0 hD Z M hi
    have A3 : Agr W_X12_goWay_i56 h h3 := agr_tr A a3 rfl
    rw [f_X12_cobbler_142, M.1, if_neg (by rw [nI_leI (by omega) (by omega)]; omega), e3, ov_some, rv_56_28, an_68, og_ix (by omega) (by omega), nI_clamp (by omega), mGo_t g3 (W_row hn hG g0 hi) pb]
    by_cases c : tkP v sz wo (rw_ G i) (pc G) D p = nI p
    · rw [if_pos c, f_X12_cobbler_177, nm_id, nm_id, nI_1]
      exact K (_, h3) ⟨by rw [zs, cnF, if_pos c], g3.1, M3, A3⟩
    · rw [if_neg c, f_X12_cobbler_177, nm_id, nm_id, nI_1]
      exact K (_, h3) ⟨by rw [zs, cnF, if_neg c], g3.1, M3, A3⟩
theorem e_cobM {v : Wd} {G D p w : Nat} {h h0 : AH} (y : Int32) (hG : G < 2 ^ v.n) (g0 : 0 < G) (hD : D < 2 ^ v.n) {sz0 : Nat → Nat} (Z : mG v sz0 (up v.wo p w) h) (s0 : ∀ q, q < v.n → q ≠ p → sz0 q = v.it q 3) (M : mW G h) (hp : p < v.n) (pb : G.testBit p = true) (hw : w ≤ 99) (b3 : ∀ q, q < v.n → v.it q 3 ≤ 50) (c64 : ∀ j, j ≠ p → h.1 64 j = h0.1 64 j) (c65 : ∀ j, j ≠ p → h.1 65 j = h0.1 65 j) : ∃ h', f_X12_cobbler_121 FU 56 (nI G) (nI p) y (nI D) (h0.1 64 p) (h0.1 65 p) (-1) 0 20 h = some (if y = 0 then (cbF (ctS v G D p w) 31).1 else (cbF (ctS v G D p w) 31).2, h') ∧ h'.1 64 = h0.1 64 ∧ h'.1 65 = h0.1 65 := by
  have hn := Z.1.1.1
  have h64 := pow_le6 hn
  obtain ⟨_, _, _, _, w5, _⟩ := W_parts g0 (show G < 64 by omega)
  refine lp (fun n i (s : (Int32 × Int32) × AH) => ∃ h', f_X12_cobbler_121 n 56 (nI G) (nI p) y (nI D) (h0.1 64 p) (h0.1 65 p) s.1.1 s.1.2 (nI (20 + i)) s.2 = some (if y = 0 then (cbF (ctS v G D p w) 31).1 else (cbF (ctS v G D p w) 31).2, h') ∧ h'.1 64 = h0.1 64 ∧ h'.1 65 = h0.1 65) (fun i s => ((i = 0 ∧ s.1 = (-1, 0)) ∨ (0 < i ∧ s.1 = cbF (ctS v G D p w) i)) ∧ (∃ sz, mG v sz (up v.wo p w) s.2 ∧ ∀ q, q < v.n → q ≠ p → sz q = v.it q 3) ∧ mW G s.2 ∧ (∀ j, j ≠ p → s.2.1 64 j = h0.1 64 j) ∧ ∀ j, j ≠ p → s.2.1 65 j = h0.1 65 j) 31 (by decide) ?_ ?_ (s := ((-1, 0), h)) ⟨Or.inl ⟨rfl, rfl⟩, ⟨sz0, Z, s0⟩, M, c64, c65⟩
  · rintro n ⟨s, g⟩ ⟨e, _, M, d1, d2⟩
    rcases e with e | ⟨_, e⟩
    · omega
    · have e : s = _ := e
      subst e
      have d1 : ∀ j, j ≠ p → g.1 64 j = h0.1 64 j := d1
      have d2 : ∀ j, j ≠ p → g.1 65 j = h0.1 65 j := d2
      simp only
      rw [f_X12_cobbler_121, if_pos (by decide), rv_56_24, an_64, og_ix (by omega) (by omega), nm_id, rv_56_25, an_65, og_ix (by omega) (by omega), nm_id, nI_clamp (by omega)]
      refine ⟨sI (sI g 64 p (h0.1 64 p)) 65 p (h0.1 65 p), ?_, ?_, ?_⟩
      · by_cases c : y = 0
        · rw [if_pos c, if_pos c]
          rfl
        · rw [if_neg c, if_neg c]
          rfl
      · funext j
        rw [sI_n (Or.inl (by decide))]
        by_cases q : j = p
        · subst q
          exact sI_s ..
        · rw [sI_n (Or.inr q)]
          exact d1 j q
      · funext j
        by_cases q : j = p
        · subst q
          exact sI_s ..
        · rw [sI_n (Or.inr q), sI_n (Or.inl (by decide))]
          exact d2 j q
  · rintro n i ⟨s, g⟩ hi ⟨e, ⟨sz, Z, sq⟩, M, d1, d2⟩ K
    have Z : mG v sz (up v.wo p w) g := Z
    have M : mW G g := M
    have d1 : ∀ j, j ≠ p → g.1 64 j = h0.1 64 j := d1
    have d2 : ∀ j, j ≠ p → g.1 65 j = h0.1 65 j := d2
    simp only at K ⊢
    have a64 : Agr ((64, 1000) :: []) g (sI g 64 p (nI (20 + i))) := agr_sI (agr_refl g) rfl
    have Z1 : mG v (up (fun q => v.it q 3) p (20 + i)) (up v.wo p w) (sI g 64 p (nI (20 + i))) := by
      obtain ⟨F1, F2, F3, F4, F5, F6⟩ := Z
      refine ⟨⟨F1.1, F1.2.1, F1.2.2⟩, F2, fun q hq => ⟨?_, (F3 q hq).2⟩, F4, F5, fun q hq => ⟨?_, (F6 q hq).2⟩⟩
      · unfold up
        by_cases c : q = p
        · rw [if_pos c]
          omega
        · rw [if_neg c]
          exact b3 q hq
      · by_cases c : q = p
        · subst c
          rw [sI_s, up_p]
        · rw [sI_n (Or.inr c), up_n c, ← sq q hq c]
          exact (F6 q hq).1
    obtain ⟨g3, e3, Z3, M3, A3⟩ := e_cob142 (y := y) (x7 := h0.1 64 p) (x8 := h0.1 65 p) (x9 := s.1) (x10 := s.2) (x11 := nI (20 + i)) (f_X12_cobbler_121 n) hG g0 hD Z1 (mW_agr a64 rfl M) hp pb
    rw [f_X12_cobbler_121, if_neg (by rw [show (50 : Int32) = nI 50 from rfl, nI_ltI (by decide) (by omega)]; omega), rv_56_24, an_64, og_ix (by omega) (by omega), nm_id, nI_clamp (by omega), e3, nI_1]
    have T : zs (cnF v (up (fun q => v.it q 3) p (20 + i)) (up v.wo p w) G D p (nI p)) (nW G) = ctS v G D p w (20 + i) := rfl
    rw [T]
    have f64 : ∀ j, j ≠ p → g3.1 64 j = h0.1 64 j := fun j hj => by
      rw [agr_cell A3 64 rfl, sI_n (Or.inr hj)]
      exact d1 j hj
    have f65 : ∀ j, j ≠ p → g3.1 65 j = h0.1 65 j := fun j hj => by
      rw [agr_cell A3 65 rfl, sI_n (Or.inl (by decide))]
      exact d2 j hj
    have K' : ∀ t : Int32 × Int32, t = cbF (ctS v G D p w) (i + 1) → ∃ h', f_X12_cobbler_121 n 56 (nI G) (nI p) y (nI D) (h0.1 64 p) (h0.1 65 p) t.1 t.2 (nI (20 + i + 1)) g3 = some (if y = 0 then (cbF (ctS v G D p w) 31).1 else (cbF (ctS v G D p w) 31).2, h') ∧ h'.1 64 = h0.1 64 ∧ h'.1 65 = h0.1 65 := fun t ht => K (t, g3) ⟨Or.inr ⟨by omega, ht⟩, ⟨_, Z3, fun q hq c => up_n c⟩, M3, f64, f65⟩
    rcases e with ⟨e0, e⟩ | ⟨e0, e⟩
    · have e : s = _ := e
      subst e e0
      rw [if_pos (Or.inl rfl)]
      exact K' (nI 20, ctS v G D p w 20) (cbF_1 (ct_nn v G D p w 20 w5)).symm
    · have e : s = _ := e
      subst e
      have ne := cbF_ne (ct := ctS v G D p w) i (by omega)
      by_cases c : (cbF (ctS v G D p w) i).2 < ctS v G D p w (20 + i)
      · rw [if_pos (Or.inr c)]
        exact K' (nI (20 + i), ctS v G D p w (20 + i)) (by rw [cbF, if_pos c])
      · rw [if_neg (fun w => w.elim ne c)]
        exact K' (cbF (ctS v G D p w) i) (by rw [cbF, if_neg c])
theorem e_isIn099 (x : Int32) (h : AH) : f_X12_isIn x.toInt64 0 99 h = some (zb (decide (¬ x < 0 ∧ ¬ 99 < x)), h) := e_X12_isIn x 0 99 h
def cbD (v : Wd) (u G p : Nat) : Nat := rmv (door v u G) (v.has p) ||| 2 ^ p
theorem cbD_e {v : Wd} {u G p : Nat} {h : AH} (hn : v.n ≤ 6) (so : SOk v.n v.has v.pl v.wo) (hp : p < v.n) : nI (rmv (door v u G) (v.has p)) ||| ((1 : Int32) <<< (nI p &&& 31)) = nI (cbD v u G p) ∧ cbD v u G p < 2 ^ v.n ∧ (¬ v.has p = -1 → nI (door v u G) &&& (((1 : Int32) <<< (v.has p &&& 31)) ^^^ (-1)) = nI (rmv (door v u G) (v.has p))) := by
  have h64 := pow_le6 hn
  have dl := door_lt v u G
  have rl : rmv (door v u G) (v.has p) ≤ door v u G := by
    rcases so.1 p hp with e | ⟨q, hq, e, _⟩
    · rw [e, rmv_m1]
      exact Nat.le_refl _
    · rw [e]
      exact (rmv_all _ (by omega) q (by omega)).2
  refine ⟨or_n _ (by omega) p (by omega), Nat.or_lt_two_pow (by omega) (Nat.pow_lt_pow_right (by decide) hp), fun ne => ?_⟩
  rcases so.1 p hp with e | ⟨q, hq, e, _⟩
  · exact absurd e ne
  · rw [e]
    exact (rmv_all _ (by omega) q (by omega)).1
theorem cob_C {v : Wd} {h : AH} {u G p w : Nat} {a5 : Int32} (R : RelV v h) (n0 : v.n ≠ 0) (hu : u < 4) (hG : G < 2 ^ v.n) (g0 : 0 < G) (hpt : ptB v.n (nI u) (nI G) = true) (hg : guB v.n (nI G) (nI p) = true) (hp : p < v.n) (pb : G.testBit p = true) (hw : w ≤ 99) (hx : ¬ a5 < 0 ∧ a5 ≤ 1) : ∃ h5, f_X11_cobbler 0 (nI u) (nI G) (nI p) (nI w) a5 h = some (if a5 = 0 then (cbF (ctS v G (cbD v u G p) p w) 31).1 else (cbF (ctS v G (cbD v u G p) p w) 31).2, h5) := by
  have hn := R.n6
  have h64 := pow_le6 hn
  obtain ⟨h3, e3, B3, Z3, a3'⟩ := e_openDoor (R.cB n0) hu (show G < 64 by omega)
  obtain ⟨c1, c2, c3⟩ := cbD_e (h := h) (u := u) (G := G) hn R.so hp
  obtain ⟨h5, e5⟩ := e_cobC a5 hG g0 c2 Z3 hp pb hw
  refine ⟨h5, ?_⟩
  unfold f_X11_cobbler
  rw [e_isParty hn R.cn, hpt, ob_some, zi, if_pos rfl, e_isGuestC R.cn, hg, ob_some, zi, if_pos rfl, if_neg (nI_pos (by omega)), if_neg (by rw [show (99 : Int32) = nI 99 from rfl, nI_ltI (by decide) (by omega)]; omega), if_neg hx.1, if_pos hx.2, e3, ob_some, rv_0_6, rv_24_0, an_25, og_ix (by omega) (by omega), nI_clamp (by omega), (B3.2.2.2.2.2.2.2.1 p hp).1]
  by_cases e : v.has p = -1
  · rw [e, rmv_m1] at c1
    rw [if_pos e, f_X11_cobbler_82, nm_id, c1]
    exact e5
  · rw [if_neg e, og_ix (by omega) (by omega), nm_id, c3 e, f_X11_cobbler_82, nm_id, c1]
    exact e5
theorem cob_M {v : Wd} {h : AH} {u G p w : Nat} {a5 : Int32} (R : RelV v h) (n0 : v.n ≠ 0) (hu : u < 4) (hG : G < 2 ^ v.n) (g0 : 0 < G) (hpt : ptB v.n (nI u) (nI G) = true) (hg : guB v.n (nI G) (nI p) = true) (hp : p < v.n) (pb : G.testBit p = true) (hw : w ≤ 99) (hx : ¬ a5 < 0 ∧ a5 ≤ 1) : ∃ h5, f_X12_cobbler 56 (nI u) (nI G) (nI p) (nI w) a5 h = some (if a5 = 0 then (cbF (ctS v G (cbD v u G p) p w) 31).1 else (cbF (ctS v G (cbD v u G p) p w) 31).2, h5) ∧ h5.1 64 = h.1 64 ∧ h5.1 65 = h.1 65 := by
  have hn := R.n6
  have h64 := pow_le6 hn
  have R6 := R.thr (x := 0)
  have w99 : ¬ nI w < 0 ∧ ¬ 99 < nI w := ⟨nI_pos (by omega), by rw [show (99 : Int32) = nI 99 from rfl, nI_ltI (by decide) (by omega)]; omega⟩
  obtain ⟨c1, c2, c3⟩ := cbD_e (h := h) (u := u) (G := G) hn R.so hp
  have aw : Agr ((65, 1000) :: []) (sI h 56 0 0) (sI (sI h 56 0 0) 65 p (nI w)) := agr_sI (agr_refl _) rfl
  obtain ⟨h6, e6, M6, a6⟩ := m_all hn hG g0 (h := sI (sI h 56 0 0) 65 p (nI w)) R6.mn
  have Z0 : mG v (fun q => v.it q 3) (up v.wo p w) (sI (sI h 56 0 0) 65 p (nI w)) := by
    obtain ⟨F1, F2, F3, F4, F5, F6⟩ := R6.mG
    refine ⟨⟨F1.1, F1.2.1, F1.2.2⟩, F2, fun q hq => ⟨(F3 q hq).1, ?_⟩, F4, F5, fun q hq => ⟨(F6 q hq).1, ?_⟩⟩
    · unfold up
      by_cases c : q = p
      · rw [if_pos c]
        exact hw
      · rw [if_neg c]
        exact (F3 q hq).2
    · by_cases c : q = p
      · subst c
        rw [sI_s, up_p]
      · rw [sI_n (Or.inr c), up_n c]
        exact (F6 q hq).2
  obtain ⟨h7, e7, f64, f65⟩ := e_cobM (h0 := h) a5 hG g0 c2 (mG_agr a6 rfl Z0) (fun _ _ _ => rfl) M6 hp pb hw (fun q hq => (R.ib hq (i := 3) (by omega)).2) (fun j hj => by rw [agr_cell a6 64 rfl]; rfl) (fun j hj => by rw [agr_cell a6 65 rfl, sI_n (Or.inr hj)]; rfl)
  refine ⟨h7, ?_, f64, f65⟩
  have fin : f_X12_cobbler_74 56 (nI G) (nI p) (nI w) a5 (nI (rmv (door v u G) (v.has p))) (sI h 56 0 0) = some (if a5 = 0 then (cbF (ctS v G (cbD v u G p) p w) 31).1 else (cbF (ctS v G (cbD v u G p) p w) 31).2, h7) := by
    unfold f_X12_cobbler_74
    rw [c1, nm_id, rv_56_24, an_64, og_ix (by omega) (by omega), nm_id, rv_56_25, an_65, og_ix (by omega) (by omega), nm_id, og_ix (by omega) (by omega), nm_id, nI_clamp (by omega), e6, ov_some]
    exact e7
  unfold f_X12_cobbler
  rw [nm_id, e_isGuestM hn R6.mn, hpt, hg, Bool.true_and, ob_some, zi, if_pos rfl, e_isIn099, ob_some, decide_eq_true w99, zi, if_pos rfl, e_isIn01, ob_some, decide_eq_true hx, zi, if_pos rfl, (R6.mB n0).door hu (by omega), ob_some, rv_56_22, an_62, og_ix (by omega) (by omega), nI_clamp (by omega), R6.mh hp]
  by_cases e : v.has p = -1
  · rw [e, rmv_m1] at fin
    rw [if_pos e]
    exact fin
  · rw [if_neg e, og_ix (by omega) (by omega), nm_id, c3 e]
    exact fin
theorem g18 : G18 Rel := by
  intro h ⟨v, R⟩ a1 a2 a3 a4 a5
  have hn := R.n6
  have h64 := pow_le6 hn
  have R2 := R.thr (x := 0)
  cases hp : ptB v.n a1 a2 with
  | false =>
    refine ⟨-1, h, sI h 56 0 0, ?_, ?_, v, R2⟩
    · unfold f_X11_cobbler
      rw [e_isParty hn R.cn, hp, ob_some, zi, if_neg (by decide)]
      rfl
    · unfold f_X12_cobbler
      rw [nm_id, e_isGuestM hn R2.mn, hp, Bool.false_and, ob_some, zi, if_neg (by decide)]
      rfl
  | true =>
    obtain ⟨u, G, hu, rfl, g0, hG, rfl⟩ := (ptB_iff hn).mp hp
    have n0 := n_of_G g0 hG
    cases hg : guB v.n (nI G) a3 with
    | false =>
      refine ⟨-1, h, sI h 56 0 0, ?_, ?_, v, R2⟩
      · unfold f_X11_cobbler
        rw [e_isParty hn R.cn, hp, ob_some, zi, if_pos rfl, e_isGuestC R.cn, hg, ob_some, zi, if_neg (by decide)]
        rfl
      · unfold f_X12_cobbler
        rw [nm_id, e_isGuestM hn R2.mn, hp, hg, Bool.true_and, ob_some, zi, if_neg (by decide)]
        rfl
    | true =>
      obtain ⟨p, hp', rfl, pb⟩ := (guB_iff hn (by omega)).mp hg
      by_cases hw : ¬ a4 < 0 ∧ ¬ 99 < a4
      · by_cases hx : ¬ a5 < 0 ∧ a5 ≤ 1
        · obtain ⟨w, wl, rfl⟩ := nI_of hw.1
          have w9 : w ≤ 99 := by
            have := hw.2
            rw [show (99 : Int32) = nI 99 from rfl, nI_ltI (by decide) wl] at this
            omega
          obtain ⟨h5, E1⟩ := cob_C R n0 hu hG g0 hp hg hp' pb w9 hx
          have R5 : RelV v h5 := rel_agr (w_f_X11_cobbler_i0 _ _ _ _ _ _ _ E1) rfl R
          obtain ⟨h7, E2, c64, c65⟩ := cob_M R5 n0 hu hG g0 hp hg hp' pb w9 hx
          have W2 : Agr W_X12_cobbler_i56 h5 h7 := w_f_X12_cobbler_i56 _ _ _ _ _ _ _ E2
          exact ⟨_, h5, h7, E1, E2, v, rel_eq (eqOn_less W2 c64 c65 rfl) R5⟩
        · refine ⟨-1, h, sI h 56 0 0, ?_, ?_, v, R2⟩
          · unfold f_X11_cobbler
            rw [e_isParty hn R.cn, hp, ob_some, zi, if_pos rfl, e_isGuestC R.cn, hg, ob_some, zi, if_pos rfl, if_neg hw.1, if_neg hw.2]
            by_cases c1 : a5 < 0
            · rw [if_pos c1]
              rfl
            · rw [if_neg c1, if_neg (fun c2 => hx ⟨c1, c2⟩)]
              rfl
          · unfold f_X12_cobbler
            rw [nm_id, e_isGuestM hn R2.mn, hp, hg, Bool.true_and, ob_some, zi, if_pos rfl, e_isIn099, ob_some, decide_eq_true hw, zi, if_pos rfl, e_isIn01, ob_some, decide_eq_false hx, zi, if_neg (by decide)]
            rfl
      · refine ⟨-1, h, sI h 56 0 0, ?_, ?_, v, R2⟩
        · unfold f_X11_cobbler
          rw [e_isParty hn R.cn, hp, ob_some, zi, if_pos rfl, e_isGuestC R.cn, hg, ob_some, zi, if_pos rfl]
          by_cases c1 : a4 < 0
          · rw [if_pos c1]
            rfl
          · rw [if_neg c1, if_pos (Decidable.byContradiction (fun c2 => hw ⟨c1, c2⟩))]
            rfl
        · unfold f_X12_cobbler
          rw [nm_id, e_isGuestM hn R2.mn, hp, hg, Bool.true_and, ob_some, zi, if_pos rfl, e_isIn099, ob_some, decide_eq_false hw, zi, if_neg (by decide)]
          rfl
