theorem e_great5 {v : Wd} {G D : Nat} (hG : G < 2 ^ v.n) (hD : D < 2 ^ v.n) (hn : v.n ≤ 6) : ∀ n f h, f ≤ v.n → v.n - f < n → dC v h → dTb v G D f h → ∃ h', f_X3_greatest_5 n 49 (nI D) (nI G) (nI (gqF v G f)) (nI (v.n - f) - 1) h = some (nI (Tf v G v.n D), h') ∧ dC v h' ∧ dTb v G D v.n h' ∧ ∀ j, j < 64 → h'.1 50 j = h.1 50 j := by
  have h64 := pow_le6 hn
  have sD : sbB D D = true := by
    unfold sbB
    rw [Nat.and_self]
    exact Nat.beq_refl _
  intro n
  induction n with
  | zero => intro f h _ q; omega
  | succ n ih =>
    intro f h hf hfn F tb
    have gl := gqF_le v G f
    rw [f_X3_greatest_5]
    by_cases e : f = v.n
    · subst e
      rw [Nat.sub_self, if_pos (show nI 0 - 1 < 0 by decide), show nI (gqF v G v.n) * 64 = nI (gqF v G v.n * 64) from k_mul _ 64, nI_add, rv_49_1, an_50, og_ix (by omega) (by omega), nI_clamp (by omega), tb v.n (Nat.le_refl _) D (by omega) sD]
      exact ⟨h, rfl, F, tb, fun _ _ => rfl⟩
    · obtain ⟨p, hp⟩ : ∃ p, v.n - f = p + 1 := ⟨v.n - f - 1, by omega⟩
      have hp' : v.n - (f + 1) = p := by omega
      rw [hp, nI_pred, if_neg (nI_pos (by omega)), e_X11_isIn, ob_some, inS_tb G (by omega) p (by omega), zi]
      by_cases g : G.testBit p = true
      · have g' : G.testBit (v.n - (f + 1)) = true := by
          rw [hp']
          exact g
        obtain ⟨h1, e1, F1, t1, z1⟩ := e_great25 (f_X3_greatest_5 n) F tb (by omega) hD g'
        rw [hp'] at e1
        rw [if_pos g, nm_id, nI_1, e1]
        obtain ⟨h2, e2, F2, t2, z2⟩ := ih (f + 1) h1 (by omega) (by omega) F1 t1
        rw [hp', gqF, if_pos g'] at e2
        exact ⟨h2, e2, F2, t2, fun j hj => by rw [z2 j hj, z1 j hj]⟩
      · have g' : ¬ G.testBit (v.n - (f + 1)) = true := by
          rw [hp']
          exact g
        have t1 : dTb v G D (f + 1) h := by
          intro g1 hg1 S hS sb
          by_cases q : g1 = f + 1
          · rw [q, gqF, if_neg g', Tf, if_neg g']
            exact tb f (Nat.le_refl _) S hS sb
          · exact tb g1 (by omega) S hS sb
        rw [if_neg g, f_X3_greatest_67, nm_id, m1_e]
        obtain ⟨h2, e2, F2, t2, z2⟩ := ih (f + 1) h (by omega) (by omega) F t1
        rw [hp', gqF, if_neg g'] at e2
        exact ⟨h2, e2, F2, t2, z2⟩
theorem e_great {v : Wd} {G D : Nat} {h : AH} (hG : G < 2 ^ v.n) (hD : D < 2 ^ v.n) (F : dC v h) (z : ∀ j, j < 64 → h.1 50 j = 0) : ∃ h', f_X3_greatest 49 (nI D) (nI G) h = some (nI (Tf v G v.n D), h') ∧ dC v h' ∧ dTb v G D v.n h' ∧ ∀ j, j < 64 → h'.1 50 j = 0 := by
  have hn := F.1.1.1
  have h64 := pow_le6 hn
  have tb0 : dTb v G D 0 h := by
    intro g hg S hS _
    have : g = 0 := by omega
    subst this
    show h.1 50 (0 * 64 + S) = nI 0
    rw [Nat.zero_mul, Nat.zero_add]
    exact z S hS
  have st : ∀ d n, v.n + d ≤ 6 → d + 10 < n → ∃ h', f_X3_greatest_5 n 49 (nI D) (nI G) 0 (nI (v.n + d) - 1) h = some (nI (Tf v G v.n D), h') ∧ dC v h' ∧ dTb v G D v.n h' ∧ ∀ j, j < 64 → h'.1 50 j = 0 := by
    intro d
    induction d with
    | zero =>
      intro n _ hn'
      obtain ⟨h', e, a, b, c⟩ := e_great5 hG hD hn n 0 h (by omega) (by omega) F tb0
      rw [show gqF v G 0 = 0 from rfl, show nI 0 = 0 from rfl, Nat.sub_zero] at e
      rw [Nat.add_zero]
      exact ⟨h', e, a, b, fun j hj => by rw [c j hj, z j hj]⟩
    | succ d ih =>
      intro n hd hn'
      obtain ⟨n', rfl⟩ : ∃ n', n = n' + 1 := ⟨n - 1, by omega⟩
      have nb : ¬ G.testBit (v.n + d) = true := fun w => by
        have := tb_lt hG w
        omega
      rw [f_X3_greatest_5, ← Nat.add_assoc, nI_pred, if_neg (nI_pos (by omega)), e_X11_isIn, ob_some, inS_tb G (by omega) _ (by omega), zi, if_neg nb, f_X3_greatest_67, nm_id, m1_e]
      exact ih n' (by omega) (by omega)
  have := st (6 - v.n) FU (by omega) (by unfold FU; omega)
  rw [show v.n + (6 - v.n) = 6 by omega, show nI 6 - 1 = 5 by decide] at this
  unfold f_X3_greatest
  exact this
/-- whom it falls to -/
theorem e_low {v : Wd} {G D f S : Nat} {h : AH} (F : dC v h) (tb : dTb v G D (f + 1) h) (hf : f + 1 ≤ v.n) (hS : S < 2 ^ v.n) (sb : sbB S D = true) (hD : D < 64) (hg : G.testBit (v.n - (f + 1)) = true) : f_X3_lowestOf 49 (nI (v.n - (f + 1))) (nI (gqF v G f + 1)) (nI S) h = some (chF v G f S, h) := by
  have hn := F.1.1.1
  have h64 := pow_le6 hn
  have gl := gqF_le v G f
  have wb : ∀ q, q < v.n → v.wo q ≤ 99 := fun q hq => (F.2.2.1 q hq).2
  have tb' : dTb v G D f h := fun g hg S hS sb => tb g (by omega) S hS sb
  have tT := tb (f + 1) (Nat.le_refl _) S (by omega) sb
  rw [gqF, if_pos hg] at tT
  have eT : Tf v G (f + 1) S = mxV (Tf v G f S) (vkF v (Tf v G f) (v.n - (f + 1)) S v.n) := by
    rw [Tf, if_pos hg]
  have eC : chF v G f S = chV (Tf v G f S) (vkF v (Tf v G f) (v.n - (f + 1)) S v.n) := by
    unfold chF
    rw [if_pos hg]
  have Tb := Tf_b (G := G) wb (f + 1) S
  unfold f_X3_lowestOf
  refine lp (fun n i (_ : Unit) => f_X3_lowestOf_3 n 49 (nI (v.n - (f + 1))) (nI (gqF v G f + 1)) (nI S) (nI i) h = some (chF v G f S, h)) (fun i _ => ∀ j, j < i → vaB v (v.n - (f + 1)) S j = true → vaV v (Tf v G f) S j ≠ Tf v G (f + 1) S) 6 (by decide) ?_ ?_ (s := ()) (fun j hj => absurd hj (by omega))
  · rintro n _ H
    rw [f_X3_lowestOf_3, if_pos (by decide), eC]
    rcases vk_ok (v := v) (T := Tf v G f) (p := v.n - (f + 1)) (S := S) v.n with ⟨e, _⟩ | ⟨m, a, e, h1, h2, h3, h4, _⟩
    · rw [e]
      rfl
    · rw [e] at eT ⊢
      show some (-1, h) = some (if Tf v G f S ≤ m then nI a else -1, h)
      rw [if_neg]
      intro w
      have eT : Tf v G (f + 1) S = if Tf v G f S ≤ m then m else Tf v G f S := eT
      rw [if_pos w] at eT
      exact H a (by omega) h2 (by rw [h3, eT])
  · rintro n i _ hi H K
    rw [f_X3_lowestOf_3, if_neg (by rw [show (6 : Int32) = nI 6 from rfl, nI_leI (by decide) (by omega)]; omega), e_X11_isIn, ob_some, inS_tb S (by omega) i hi, zi]
    have nxt : (vaB v (v.n - (f + 1)) S i = true → vaV v (Tf v G f) S i ≠ Tf v G (f + 1) S) → f_X3_lowestOf_3 n 49 (nI (v.n - (f + 1))) (nI (gqF v G f + 1)) (nI S) (nI (i + 1)) h = some (chF v G f S, h) := fun w => K () (fun j hj vb => by
      by_cases e : j = i
      · rw [e] at vb ⊢
        exact w vb
      · exact H j (by omega) vb)
    cases b : S.testBit i with
    | false =>
      rw [if_neg (by decide), f_X3_lowestOf_68, nm_id, nI_1]
      exact nxt (fun w => by unfold vaB at w; rw [b, Bool.false_and] at w; cases w)
    | true =>
      have ik := tb_lt hS b
      rw [if_pos rfl, rv_49_0, rv_35_2, rv_35_0, an_36, og_ix (by omega) (by omega), nI_clamp (by omega), e_wear F (by omega) ik, ob_some, zi]
      cases c : fitS v (v.n - (f + 1)) (v.it i 3) with
      | false =>
        rw [if_neg (by decide), f_X3_lowestOf_68, nm_id, nI_1]
        exact nxt (fun w => by unfold vaB at w; rw [b, c, Bool.true_and] at w; cases w)
      | true =>
        have vb : vaB v (v.n - (f + 1)) S i = true := by
          unfold vaB
          rw [b, c]
          rfl
        have vl := vaV_b (G := G) (f := f) (S := S) wb ik (by omega)
        rw [if_pos rfl, e_worthW F tb' (by omega) ik (by omega) sb hD, ob_some, show nI (gqF v G f + 1) * 64 = nI ((gqF v G f + 1) * 64) from k_mul _ 64, nI_add, rv_49_1, an_50, og_ix (by omega) (by omega), nI_clamp (by omega), tT]
        by_cases d : vaV v (Tf v G f) S i = Tf v G (f + 1) S
        · rw [if_pos (by rw [d]), eC]
          rcases vk_ok (v := v) (T := Tf v G f) (p := v.n - (f + 1)) (S := S) v.n with ⟨_, w⟩ | ⟨m, a, e, h1, h2, h3, h4, h5⟩
          · rw [w i ik] at vb
            cases vb
          · rw [e] at eT ⊢
            have eT : Tf v G (f + 1) S = if Tf v G f S ≤ m then m else Tf v G f S := eT
            have li := h4 i ik vb
            show some (nI i, h) = some (if Tf v G f S ≤ m then nI a else -1, h)
            have tm : Tf v G f S ≤ m := by
              by_cases w : Tf v G f S ≤ m
              · exact w
              · rw [if_neg w] at eT
                omega
            rw [if_pos tm] at eT ⊢
            have ai : a = i := by
              rcases Nat.lt_trichotomy a i with w | w | w
              · exact absurd (by rw [h3, eT]) (H a w h2)
              · exact w
              · have := h5 i w vb
                omega
            rw [ai]
        · rw [if_neg (by rw [n_eq (by omega) (by omega)]; exact d), f_X3_lowestOf_68, nm_id, nI_1]
          exact nxt (fun _ => d)
theorem chF_c {v : Wd} {G f S : Nat} : chF v G f S = -1 ∨ ∃ k, k < v.n ∧ chF v G f S = nI k := by
  unfold chF
  by_cases g : G.testBit (v.n - (f + 1)) = true
  · rw [if_pos g]
    rcases vk_ok (v := v) (T := Tf v G f) (p := v.n - (f + 1)) (S := S) v.n with ⟨e, _⟩ | ⟨m, a, e, h1, _⟩
    · rw [e]
      exact Or.inl rfl
    · rw [e]
      show (if Tf v G f S ≤ m then nI a else -1) = -1 ∨ ∃ k, k < v.n ∧ (if Tf v G f S ≤ m then nI a else -1) = nI k
      by_cases w : Tf v G f S ≤ m
      · rw [if_pos w]
        exact Or.inr ⟨a, h1, rfl⟩
      · rw [if_neg w]
        exact Or.inl rfl
  · rw [if_neg g]
    exact Or.inl rfl
theorem e_pairOf15 {v : Wd} {G D p : Nat} {h : AH} (F : dC v h) (tb : dTb v G D v.n h) (hG : G < 2 ^ v.n) (hD : D < 2 ^ v.n) (hp : p < v.n) (pb : G.testBit p = true) : ∀ n f S y, f ≤ v.n → v.n - p ≤ f → f < n → S < 2 ^ v.n → sbB S D = true → f_X3_pairOf_15 n 49 (nI p) (nI G) (nI S) (nI (gqF v G f)) y (nI (v.n - f)) h = some (grF v G f S p, h) := by
  have hn := F.1.1.1
  have h64 := pow_le6 hn
  have fin : ∀ (g : Nat) (n : Nat) (S : Nat) (y : Int32) (z : Int32), g + p + 1 = v.n → 0 < n → f_X3_pairOf_15 n 49 (nI p) (nI G) (nI S) z y (nI (v.n - g)) h = some (y, h) := by
    intro g n S y z e n0
    obtain ⟨n', rfl⟩ : ∃ n', n = n' + 1 := ⟨n - 1, by omega⟩
    rw [f_X3_pairOf_15, if_pos (show nI p < nI (v.n - g) from nI_lt (by omega) (by omega))]
  intro n
  induction n with
  | zero => intro f S y _ _ q; omega
  | succ n ih =>
    intro f S y hf hpf hfn hS sb
    obtain ⟨f', rfl⟩ : ∃ f', f = f' + 1 := ⟨f - 1, by omega⟩
    have gl := gqF_le v G f'
    rw [f_X3_pairOf_15, if_neg (show ¬ nI p < nI (v.n - (f' + 1)) from nI_nlt (by omega) (by omega)), e_X11_isIn, ob_some, inS_tb G (by omega) _ (by omega), zi, grF]
    have e1 : v.n - (f' + 1) + 1 = v.n - f' := by omega
    by_cases g : G.testBit (v.n - (f' + 1)) = true
    · rw [if_pos g, gqF, if_pos g, e_low F (fun a ha S hS sb => tb a (by omega) S hS sb) hf hS sb (by omega) g, ob_some]
      have rS : rmv S (chF v G f' S) < 2 ^ v.n ∧ sbB (rmv S (chF v G f' S)) D = true := by
        rcases chF_c (v := v) (G := G) (f := f') (S := S) with e | ⟨k, hk, e⟩
        · rw [e, rmv_m1]
          exact ⟨hS, sb⟩
        · rw [e]
          have := (rmv_all S (by omega) k (by omega)).2
          exact ⟨by omega, (sb_i (show S < 64 by omega) (show D < 64 by omega) sb).2 k (by omega)⟩
      have goal : f_X3_pairOf_62 (f_X3_pairOf_15 n) 49 (nI p) (nI G) (nI (gqF v G f' + 1)) (chF v G f' S) (nI (v.n - (f' + 1))) (nI (rmv S (chF v G f' S))) h = some (if p = v.n - (f' + 1) then chF v G f' S else grF v G f' (rmv S (chF v G f' S)) p, h) := by
        rw [f_X3_pairOf_62, nm_id, pk_m1, f_X3_pairOf_67, nm_id, nI_1, e1]
        by_cases q : p = v.n - (f' + 1)
        · rw [if_pos q]
          exact fin f' n _ _ _ (by omega) (by omega)
        · rw [if_neg q]
          exact ih f' _ _ (by omega) (by omega) (by omega) rS.1 rS.2
      rcases chF_c (v := v) (G := G) (f := f') (S := S) with e | ⟨k, hk, e⟩
      · rw [if_pos e]
        rw [show rmv S (chF v G f' S) = S by rw [e, rmv_m1]] at goal ⊢
        exact goal
      · rw [if_neg (by rw [e, n_m1 (by omega)]; exact id)]
        have : nI S &&& (((1 : Int32) <<< (chF v G f' S &&& 31)) ^^^ (-1)) = nI (rmv S (chF v G f' S)) := by
          rw [e]
          exact (rmv_all S (by omega) k (by omega)).1
        rw [this]
        exact goal
    · have q : ¬ p = v.n - (f' + 1) := fun w => g (by rw [← w]; exact pb)
      have ec : chF v G f' S = -1 := by
        unfold chF
        rw [if_neg g]
      rw [if_neg g, if_neg q, ec, rmv_m1, f_X3_pairOf_67, nm_id, nI_1, e1, gqF, if_neg g]
      exact ih f' S y (by omega) (by omega) (by omega) hS sb
/-! dream: the model tries all -/
def gqN (n G : Nat) : Nat → Nat
  | 0 => 0
  | f + 1 => if G.testBit (n - (f + 1)) = true then gqN n G f + 1 else gqN n G f
theorem gq_N (v : Wd) (G : Nat) : ∀ f, gqF v G f = gqN v.n G f := by
  intro f
  induction f with
  | zero => rfl
  | succ f ih => rw [gqF, gqN, ih]
theorem gqN_all : ∀ n, n < 7 → ∀ G, G < 64 → G < 2 ^ n → gqN n G n = pc G := by decide +kernel
theorem e_gd27 {n : Nat} (cb : Nat → Int32 → Int32 → Int32 → Int32 → AH → Option AH) (h : AH) (hn : n ≤ 6) (h20 : h.1 56 20 = nI n) : ∃ h', f_X12_goDream_27 cb FU 56 0 h = some h' ∧ Agr ((85, 1000) :: []) h h' ∧ ∀ q, q < n → h'.1 85 q = h.1 84 q := by
  refine lp (fun k i g => ∃ h', f_X12_goDream_27 cb k 56 (nI i) g = some h' ∧ Agr ((85, 1000) :: []) h h' ∧ ∀ q, q < n → h'.1 85 q = h.1 84 q) (fun i g => Agr ((85, 1000) :: []) h g ∧ ∀ q, q < i → g.1 85 q = h.1 84 q) n (by omega) ?_ ?_ ⟨agr_refl h, fun q hq => absurd hq (by omega)⟩
  · rintro k g ⟨A, g1⟩
    have c56 : g.1 56 = h.1 56 := agr_cell A 56 rfl
    rw [f_X12_goDream_27, c56, h20, if_pos (by rw [nI_leI (by omega) (by omega)]; omega)]
    exact ⟨g, rfl, A, g1⟩
  · rintro k i g hi ⟨A, g1⟩ K
    have c56 : g.1 56 = h.1 56 := agr_cell A 56 rfl
    have c84 : g.1 84 = h.1 84 := agr_cell A 84 rfl
    rw [f_X12_goDream_27, c56, h20, if_neg (by rw [nI_leI (by omega) (by omega)]; omega), rv_56_51, rv_56_52, an_84, an_85, og_ix (by omega) (by omega), og_ix (by omega) (by omega), nm_id, nI_clamp (by omega), c84, nm_id, nI_1]
    refine K _ ⟨agr_sI A rfl, fun q hq => ?_⟩
    by_cases e : q = i
    · subst e
      exact sI_s ..
    · rw [sI_n (Or.inr e)]
      exact g1 q (by omega)
theorem cmpw {w s : Nat} (hw : w < 2 ^ 30) (hs : s < 2 ^ 30) : (nI w - 1 < nI s) ↔ w ≤ s := by
  have e : (nI w - nI 1).toInt = (w : Int) - (1 : Nat) := pk_sub_toInt hw (by decide)
  have e2 : (nI s).toInt = (s : Int) := nI_toInt (by omega)
  rw [Int32.lt_iff_toInt_lt, show nI w - 1 = nI w - nI 1 from rfl, e, e2]
  omega
def dRs (v : Wd) (G f S s w : Nat) (h h' : AH) : Prop := (if w ≤ s + Tf v G f S then h'.1 56 53 = nI (s + Tf v G f S) ∧ ∀ q, q < v.n → h'.1 85 q = (if q < v.n - f then h.1 84 q else grF v G f S q) else h'.1 56 53 = nI w - 1 ∧ ∀ q, q < v.n → h'.1 85 q = h.1 85 q) ∧ ∀ q, q < v.n - f → h'.1 84 q = h.1 84 q
/-- the best so far: what is to be passed, and by whom -/
def bSt (w s : Nat) : Option (Nat × Nat) → Nat × Option Nat
  | none => (w, none)
  | some (m, a) => if w ≤ s + m then (s + m + 1, some a) else (w, none)
theorem bSt_s {v : Wd} {T : Nat → Nat} {p S w s k : Nat} : bSt w s (vkF v T p S (k + 1)) = if vaB v p S k = true then (if (bSt w s (vkF v T p S k)).1 ≤ s + vaV v T S k then (s + vaV v T S k + 1, some k) else bSt w s (vkF v T p S k)) else bSt w s (vkF v T p S k) := by
  rw [vkF]
  cases hb : vaB v p S k with
  | false => rfl
  | true =>
    rw [if_pos rfl, if_pos rfl]
    cases vkF v T p S k with
    | none => rfl
    | some q =>
      obtain ⟨m, a⟩ := q
      show bSt w s (if m < vaV v T S k then some (vaV v T S k, k) else some (m, a)) = _
      by_cases c : m < vaV v T S k
      · rw [if_pos c]
        show (if w ≤ s + vaV v T S k then (s + vaV v T S k + 1, some k) else (w, none)) = _
        by_cases d : w ≤ s + m
        · have e : bSt w s (some (m, a)) = (s + m + 1, some a) := if_pos d
          rw [e, if_pos (by omega), if_pos (by show s + m + 1 ≤ _; omega)]
        · have e : bSt w s (some (m, a)) = (w, none) := if_neg d
          rw [e]
      · rw [if_neg c]
        by_cases d : w ≤ s + m
        · have e : bSt w s (some (m, a)) = (s + m + 1, some a) := if_pos d
          rw [e, if_neg (by show ¬ s + m + 1 ≤ _; omega)]
        · have e : bSt w s (some (m, a)) = (w, none) := if_neg d
          rw [e, if_neg (by show ¬ w ≤ _; omega)]
def bCd (v : Wd) (G f S p : Nat) (h : AH) (o : Option Nat) (q : Nat) : Int32 := match o with
  | none => h.1 85 q
  | some a => if q < p then h.1 84 q else if q = p then nI a else grF v G f (rmv S (nI a)) q
theorem bSt_b {v : Wd} {G f p S w s k : Nat} (wb : ∀ q, q < v.n → v.wo q ≤ 99) (hk : k ≤ v.n) (hf : f ≤ 6) (hw : w ≤ 5000) (hs : s ≤ 1000) : (bSt w s (vkF v (Tf v G f) p S k)).1 ≤ 5000 := by
  rcases vk_ok (v := v) (T := Tf v G f) (p := p) (S := S) k with ⟨e, _⟩ | ⟨m, a, e, h1, h2, h3, _⟩
  · rw [e]
    exact hw
  · rw [e]
    have := vaV_b (G := G) (f := f) (S := S) wb (show a < v.n by omega) hf
    show (if w ≤ s + m then (s + m + 1, some a) else (w, none)).1 ≤ 5000
    split
    · show s + m + 1 ≤ 5000
      omega
    · exact hw
theorem e_goD {v : Wd} {G : Nat} (hG : G < 2 ^ v.n) (hn : v.n ≤ 6) : ∀ f fu S s w h, f ≤ v.n → f < fu → mG v (fun q => v.it q 3) v.wo h → S < 2 ^ v.n → s + 99 * f ≤ 1000 → w ≤ 5000 → h.1 56 53 = nI w - 1 → ∃ h', r_X12_goDream fu 56 (nI (v.n - f)) (nI G) (nI S) (nI s) h = some h' ∧ dRs v G f S s w h h' := by
  have h64 := pow_le6 hn
  intro f
  induction f with
  | zero =>
    intro fu S s w h _ hfu Z hS hs hw h53
    obtain ⟨fu', rfl⟩ : ∃ k, fu = k + 1 := ⟨fu - 1, by omega⟩
    rw [r_X12_goDream, f_X12_goDream, Z.1.2.1, Nat.sub_zero, if_pos rfl, h53]
    by_cases c : w ≤ s
    · rw [if_pos ((cmpw (by omega) (by omega)).mpr c), nm_id]
      obtain ⟨h', e, A, b⟩ := e_gd27 (n := v.n) (r_X12_goDream fu') (sI h 56 53 (nI s)) hn Z.1.2.1
      rw [e]
      refine ⟨h', rfl, ?_, fun q hq => ?_⟩
      · have T0 : Tf v G 0 S = 0 := rfl
        rw [T0, Nat.add_zero, if_pos c]
        refine ⟨?_, fun q hq => ?_⟩
        · rw [agr_on A (B := (56, 53) :: []) rfl 56 53 rfl]
          exact sI_s ..
        · rw [b q hq, if_pos (by omega)]
          rfl
      · rw [agr_cell A 84 rfl]
        rfl
    · rw [if_neg (fun q => c ((cmpw (by omega) (by omega)).mp q))]
      have T0 : Tf v G 0 S = 0 := rfl
      refine ⟨h, rfl, ?_, fun _ _ => rfl⟩
      rw [T0, Nat.add_zero, if_neg c]
      exact ⟨h53, fun _ _ => rfl⟩
  | succ f ih =>
    intro fu S s w h hf hfu Z hS hs hw h53
    obtain ⟨fu', rfl⟩ : ∃ k, fu = k + 1 := ⟨fu - 1, by omega⟩
    have wb : ∀ q, q < v.n → v.wo q ≤ 99 := fun q hq => (Z.2.2.1 q hq).2
    obtain ⟨p, hp⟩ : ∃ p, v.n - (f + 1) = p := ⟨_, rfl⟩
    have pn : p < v.n := by omega
    have pf : v.n - f = p + 1 := by omega
    have ih2 := fun S s w g (Zg : mG v (fun q => v.it q 3) v.wo g) hS hs hw h53 => ih fu' S s w g (by omega) (by omega) Zg hS hs hw h53
    rw [pf] at ih2
    rw [hp]
    rw [r_X12_goDream, f_X12_goDream, Z.1.2.1, if_neg (by rw [nI_eq (by omega) (by omega)]; omega), rv_56_51, an_84, og_ix (by omega) (by omega), nm_id, nI_clamp (by omega)]
    have aZ : ∀ (g : AH) x, mG v (fun q => v.it q 3) v.wo g → mG v (fun q => v.it q 3) v.wo (sI g 84 p x) := fun g x Zg => mG_agr (W := (84, 1000) :: []) (agr_sI (agr_refl g) rfl) rfl Zg
    by_cases g : G.testBit p = true
    · have eT : Tf v G (f + 1) S = mxV (Tf v G f S) (vkF v (Tf v G f) p S v.n) := by
        rw [Tf, hp, if_pos g]
      have eC : chF v G f S = chV (Tf v G f S) (vkF v (Tf v G f) p S v.n) := by
        unfold chF
        rw [hp, if_pos g]
      refine lp (fun k i u => ∃ h', f_X12_goDream_67 (r_X12_goDream fu') k 56 (nI p) (nI G) (nI S) (nI s) (nI i) u = some h' ∧ dRs v G (f + 1) S s w h h') (fun i u => mG v (fun q => v.it q 3) v.wo u ∧ u.1 56 53 = nI (bSt w s (vkF v (Tf v G f) p S i)).1 - 1 ∧ (∀ q, q < v.n → u.1 85 q = bCd v G f S p h (bSt w s (vkF v (Tf v G f) p S i)).2 q) ∧ ∀ q, q < p → u.1 84 q = h.1 84 q) v.n (by omega) ?_ ?_ (s := sI h 84 p (-1)) ⟨aZ h (-1) Z, h53, fun q hq => rfl, fun q hq => sI_n (Or.inr (by omega))⟩
      · rintro k u ⟨Zu, u53, u85, u84⟩
        have sb := bSt_b (G := G) (f := f) (p := p) (S := S) (w := w) (s := s) (k := v.n) wb (Nat.le_refl _) (by omega) hw (by omega)
        rw [f_X12_goDream_67, Zu.1.2.1, if_pos (by rw [nI_leI (by omega) (by omega)]; omega), f_X12_goDream_146, rv_56_51, an_84, og_ix (by omega) (by omega), nm_id, nI_clamp (by omega), nI_1]
        obtain ⟨h3, e3, r3, d3⟩ := ih2 S s _ (sI u 84 p (-1)) (aZ u (-1) Zu) hS (by omega) sb u53
        rw [e3, ov_some]
        refine ⟨h3, rfl, ?_, fun q hq => ?_⟩
        · rw [eT]
          rw [pf] at r3
          have grE : ∀ q, ¬ q < p → grF v G (f + 1) S q = if q = p then chF v G f S else grF v G f (rmv S (chF v G f S)) q := by
            intro q _
            rw [grF, hp]
          have upd : ∀ q, q < v.n → (if q < p + 1 then (sI u 84 p (-1)).1 84 q else grF v G f S q) = if q < p then h.1 84 q else if q = p then -1 else grF v G f S q := by
            intro q hq
            by_cases c1 : q < p
            · rw [if_pos (by omega), if_pos c1, sI_n (Or.inr (by omega))]
              exact u84 q c1
            · rw [if_neg c1]
              by_cases c2 : q = p
              · rw [if_pos (by omega), if_pos c2, c2, sI_s]
              · rw [if_neg (by omega), if_neg c2]
          have s85 : ∀ q, (sI u 84 p (-1)).1 85 q = u.1 85 q := fun q => sI_n (Or.inl (by decide))
          rcases vk_ok (v := v) (T := Tf v G f) (p := p) (S := S) v.n with ⟨e, _⟩ | ⟨m, a, e, h1, h2, h3', _⟩
          · rw [e] at r3 u53 u85 eC ⊢
            have r3 : (if w ≤ s + Tf v G f S then h3.1 56 53 = nI (s + Tf v G f S) ∧ ∀ q, q < v.n → h3.1 85 q = (if q < p + 1 then (sI u 84 p (-1)).1 84 q else grF v G f S q) else h3.1 56 53 = nI w - 1 ∧ ∀ q, q < v.n → h3.1 85 q = (sI u 84 p (-1)).1 85 q) := r3
            have eC : chF v G f S = -1 := eC
            show (if w ≤ s + Tf v G f S then _ else _)
            by_cases c : w ≤ s + Tf v G f S
            · rw [if_pos c] at r3 ⊢
              refine ⟨r3.1, fun q hq => ?_⟩
              rw [r3.2 q hq, upd q hq, hp]
              by_cases c1 : q < p
              · rw [if_pos c1, if_pos c1]
              · rw [if_neg c1, if_neg c1, grE q c1, eC, rmv_m1]
            · rw [if_neg c] at r3 ⊢
              refine ⟨r3.1, fun q hq => ?_⟩
              rw [r3.2 q hq, s85, u85 q hq]
              rfl
          · rw [e] at r3 u53 u85 eC ⊢
            have eC : chF v G f S = if Tf v G f S ≤ m then nI a else -1 := eC
            show (if w ≤ s + (if Tf v G f S ≤ m then m else Tf v G f S) then h3.1 56 53 = nI (s + (if Tf v G f S ≤ m then m else Tf v G f S)) ∧ ∀ q, q < v.n → h3.1 85 q = (if q < v.n - (f + 1) then h.1 84 q else grF v G (f + 1) S q) else h3.1 56 53 = nI w - 1 ∧ ∀ q, q < v.n → h3.1 85 q = h.1 85 q)
            by_cases d : w ≤ s + m
            · have eb : bSt w s (some (m, a)) = (s + m + 1, some a) := if_pos d
              rw [eb] at r3 u53 u85
              have r3 : (if s + m + 1 ≤ s + Tf v G f S then h3.1 56 53 = nI (s + Tf v G f S) ∧ ∀ q, q < v.n → h3.1 85 q = (if q < p + 1 then (sI u 84 p (-1)).1 84 q else grF v G f S q) else h3.1 56 53 = nI (s + m + 1) - 1 ∧ ∀ q, q < v.n → h3.1 85 q = (sI u 84 p (-1)).1 85 q) := r3
              by_cases t : Tf v G f S ≤ m
              · rw [if_pos t] at eC ⊢
                rw [if_neg (by omega)] at r3
                rw [if_pos d]
                refine ⟨by rw [r3.1, nI_pred], fun q hq => ?_⟩
                rw [r3.2 q hq, s85, u85 q hq, hp]
                show (if q < p then h.1 84 q else if q = p then nI a else grF v G f (rmv S (nI a)) q) = _
                by_cases c1 : q < p
                · rw [if_pos c1, if_pos c1]
                · rw [if_neg c1, if_neg c1, grE q c1, eC]
              · rw [if_neg t] at eC ⊢
                rw [if_pos (by omega)] at r3
                rw [if_pos (by omega)]
                refine ⟨r3.1, fun q hq => ?_⟩
                rw [r3.2 q hq, upd q hq, hp]
                by_cases c1 : q < p
                · rw [if_pos c1, if_pos c1]
                · rw [if_neg c1, if_neg c1, grE q c1, eC, rmv_m1]
            · have eb : bSt w s (some (m, a)) = (w, none) := if_neg d
              rw [eb] at r3 u53 u85
              have r3 : (if w ≤ s + Tf v G f S then h3.1 56 53 = nI (s + Tf v G f S) ∧ ∀ q, q < v.n → h3.1 85 q = (if q < p + 1 then (sI u 84 p (-1)).1 84 q else grF v G f S q) else h3.1 56 53 = nI w - 1 ∧ ∀ q, q < v.n → h3.1 85 q = (sI u 84 p (-1)).1 85 q) := r3
              by_cases t : Tf v G f S ≤ m
              · rw [if_pos t]
                rw [if_neg (by omega)] at r3
                rw [if_neg d]
                refine ⟨r3.1, fun q hq => ?_⟩
                rw [r3.2 q hq, s85, u85 q hq]
                rfl
              · rw [if_neg t] at eC ⊢
                by_cases c : w ≤ s + Tf v G f S
                · rw [if_pos c] at r3 ⊢
                  refine ⟨r3.1, fun q hq => ?_⟩
                  rw [r3.2 q hq, upd q hq, hp]
                  by_cases c1 : q < p
                  · rw [if_pos c1, if_pos c1]
                  · rw [if_neg c1, if_neg c1, grE q c1, eC, rmv_m1]
                · rw [if_neg c] at r3 ⊢
                  refine ⟨r3.1, fun q hq => ?_⟩
                  rw [r3.2 q hq, s85, u85 q hq]
                  rfl
        · rw [hp] at hq
          rw [pf] at d3
          rw [d3 q (by omega), sI_n (Or.inr (by omega))]
          exact u84 q hq
      · rintro k i u hi ⟨Zu, u53, u85, u84⟩ K
        have sb := bSt_b (G := G) (f := f) (p := p) (S := S) (w := w) (s := s) (k := i) wb (by omega) (by omega) hw (by omega)
        have K := K
        rw [bSt_s] at K
        rw [f_X12_goDream_67, Zu.1.2.1, if_neg (by rw [nI_leI (by omega) (by omega)]; omega), e_X12_has, ob_some, inS_tb G (by omega) p (by omega), zi, if_pos g, e_X12_has, ob_some, inS_tb S (by omega) i (by omega), zi]
        unfold vaB at K
        cases b : S.testBit i with
        | false =>
          rw [b, Bool.false_and, if_neg (by decide)] at K
          rw [if_neg (by decide), f_X12_goDream_140, nm_id, nI_1]
          exact K u ⟨Zu, u53, u85, u84⟩
        | true =>
          have it3 : v.it i 3 ≤ 50 := (Zu.2.2.1 i hi).1
          rw [b, Bool.true_and] at K
          rw [if_pos rfl, e_X12_doesFit Zu.1 pn (by omega) (Zu.2.2.2.2.2 i hi).1 (by show v.it i 3 < 2 ^ 30; omega), ob_some, zi]
          cases c : fitS v p (v.it i 3) with
          | false =>
            rw [c, if_neg (by decide)] at K
            rw [if_neg (by decide), f_X12_goDream_140, nm_id, nI_1]
            exact K u ⟨Zu, u53, u85, u84⟩
          | true =>
            rw [c, if_pos rfl] at K
            have wi := wb i hi
            have ra := rmv_all S (by omega) i (by omega)
            have w65 : (sI u 84 p (nI i)).1 65 i = nI (v.wo i) := (Zu.2.2.2.2.2 i hi).2
            obtain ⟨h3, e3, r3, d3⟩ := ih2 (rmv S (nI i)) (s + v.wo i) _ (sI u 84 p (nI i)) (aZ u _ Zu) (by omega) (by omega) sb u53
            have Z3 : mG v (fun q => v.it q 3) v.wo h3 := mG_agr (w_r_X12_goDream_i56 fu' _ _ _ _ _ (agr_refl _) _ e3) rfl (aZ u _ Zu)
            rw [if_pos rfl, rv_56_51, an_84, og_ix (by omega) (by omega), nm_id, rv_56_25, an_65, og_ix (by omega) (by omega), nI_clamp (by omega), nI_clamp (by omega), w65, ra.1, nI_add, nI_1, e3, ov_some, f_X12_goDream_140, nm_id, nI_1]
            rw [pf] at r3 d3
            have ev : s + v.wo i + Tf v G f (rmv S (nI i)) = s + vaV v (Tf v G f) S i := by
              unfold vaV
              omega
            rw [ev] at r3
            have d4 : ∀ q, q < p → h3.1 84 q = h.1 84 q := fun q hq => by
              rw [d3 q (by omega), sI_n (Or.inr (by omega))]
              exact u84 q hq
            by_cases t : (bSt w s (vkF v (Tf v G f) p S i)).1 ≤ s + vaV v (Tf v G f) S i
            · rw [if_pos t] at K r3
              refine K h3 ⟨Z3, ?_, fun q hq => ?_, d4⟩
              · rw [r3.1]
                show _ = nI (s + vaV v (Tf v G f) S i + 1) - 1
                rw [nI_pred]
              · rw [r3.2 q hq]
                show _ = (if q < p then h.1 84 q else if q = p then nI i else grF v G f (rmv S (nI i)) q)
                by_cases c1 : q < p
                · rw [if_pos (by omega), if_pos c1, sI_n (Or.inr (by omega))]
                  exact u84 q c1
                · rw [if_neg c1]
                  by_cases c2 : q = p
                  · rw [if_pos (by omega), if_pos c2, c2, sI_s]
                  · rw [if_neg (by omega), if_neg c2]
            · rw [if_neg t] at K r3
              refine K h3 ⟨Z3, r3.1, fun q hq => ?_, d4⟩
              rw [r3.2 q hq, sI_n (Or.inl (by decide))]
              exact u85 q hq
    · have eT : Tf v G (f + 1) S = Tf v G f S := by
        rw [Tf, hp, if_neg g]
      have eC : chF v G f S = -1 := by
        unfold chF
        rw [hp, if_neg g]
      obtain ⟨k, hk⟩ : ∃ k, FU = k + 1 := ⟨4095, rfl⟩
      have Z2 := aZ _ (-1) (aZ h (-1) Z)
      have z20 : (sI h 84 p (-1)).1 56 20 = nI v.n := Z.1.2.1
      rw [hk, f_X12_goDream_67, z20, if_neg (show ¬ nI v.n ≤ 0 from nI_nle (by omega) (by omega)), e_X12_has, ob_some, inS_tb G (by omega) p (by omega), zi, if_neg g, f_X12_goDream_146, rv_56_51, an_84, og_ix (by omega) (by omega), nm_id, nI_clamp (by omega), nI_1]
      obtain ⟨h3, e3, r3, d3⟩ := ih2 S s w (sI (sI h 84 p (-1)) 84 p (-1)) Z2 hS (by omega) hw h53
      rw [e3, ov_some]
      rw [pf] at r3 d3
      refine ⟨h3, rfl, ?_, fun q hq => ?_⟩
      · rw [eT]
        by_cases c : w ≤ s + Tf v G f S
        · rw [if_pos c] at r3 ⊢
          refine ⟨r3.1, fun q hq => ?_⟩
          rw [r3.2 q hq, hp]
          by_cases c1 : q < p
          · rw [if_pos (by omega), if_pos c1, sI_n (Or.inr (by omega)), sI_n (Or.inr (by omega))]
          · rw [if_neg c1, grF, hp, eC, rmv_m1]
            by_cases c2 : q = p
            · rw [if_pos (by omega), if_pos c2, c2, sI_s]
            · rw [if_neg (by omega), if_neg c2]
        · rw [if_neg c] at r3 ⊢
          refine ⟨r3.1, fun q hq => ?_⟩
          rw [r3.2 q hq, sI_n (Or.inl (by decide)), sI_n (Or.inl (by decide))]
      · rw [hp] at hq
        rw [d3 q (by omega), sI_n (Or.inr (by omega)), sI_n (Or.inr (by omega))]
/-! both -/
def Rel2 (h : AH) : Prop := Rel h ∧ ∀ j, j < 64 → h.1 50 j = 0
theorem dream_C {v : Wd} {h : AH} {u G : Nat} (x : Int32) (R : RelV v h) (z : ∀ j, j < 64 → h.1 50 j = 0) (n0 : v.n ≠ 0) (hu : u < 4) (hG : G < 2 ^ v.n) (hx : x = -1 ∨ ∃ p, p < v.n ∧ x = nI p ∧ G.testBit p = true) : ∃ h', f_X11_dream_26 0 (nI u) (nI G) x h = some (if x = -1 then nI (Tf v G v.n (door v u G)) else grF v G v.n (door v u G) x.toNatClampNeg, h') ∧ ∀ j, j < 64 → h'.1 50 j = 0 := by
  have hn := R.n6
  have h64 := pow_le6 hn
  have dl := door_lt v u G
  obtain ⟨h3, e3, B3, Z3, a3⟩ := e_openDoor (R.cB n0) hu (show G < 64 by omega)
  obtain ⟨h4, e4, F4, t4, z4⟩ := e_great hG dl Z3.1 (fun j hj => by rw [agr_cell a3 50 rfl]; exact z j hj)
  unfold f_X11_dream_26
  rw [e3, ob_some, rv_0_13, e4, ob_some]
  rcases hx with rfl | ⟨p, hp, rfl, pb⟩
  · rw [if_pos rfl, if_pos rfl]
    exact ⟨h4, rfl, z4⟩
  · have ne : ¬ nI p = -1 := by
      rw [n_m1 (by omega)]
      exact id
    have sD : sbB (door v u G) (door v u G) = true := by
      unfold sbB
      rw [Nat.and_self]
      exact Nat.beq_refl _
    have gq : gqF v G v.n = pc G := by
      rw [gq_N]
      exact gqN_all v.n (by omega) G (by omega) hG
    have po := e_pairOf15 F4 t4 hG dl hp pb FU v.n (door v u G) (-1) (Nat.le_refl _) (by omega) (by unfold FU; omega) dl sD
    rw [gq, Nat.sub_self, show nI 0 = 0 from rfl] at po
    rw [if_neg ne, if_neg ne, nI_clamp (by omega)]
    unfold f_X3_pairOf
    rw [e_bc, ob_some, (pc_ok G (by omega)).1, po, ob_some]
    exact ⟨h4, rfl, z4⟩
theorem dream_M {v : Wd} {h : AH} {u G : Nat} (x : Int32) (B : mB v h) (hu : u < 4) (hG : G < 2 ^ v.n) (hx : x = -1 ∨ ∃ p, p < v.n ∧ x = nI p ∧ G.testBit p = true) : ∃ h', f_X12_dream_33 56 (nI u) (nI G) x h = some (if x = -1 then nI (Tf v G v.n (door v u G)) else grF v G v.n (door v u G) x.toNatClampNeg, h') := by
  have hn := B.n6
  have h64 := pow_le6 hn
  have dl := door_lt v u G
  have B1 : mB v (sI h 56 53 (-1)) := mB_agr (W := (56, 53) :: []) (agr_sI (agr_refl h) rfl) rfl B
  obtain ⟨h3, e3, r3, _⟩ := e_goD hG hn v.n 12 (door v u G) 0 0 (sI h 56 53 (-1)) (Nat.le_refl _) (by omega) B1.1 dl (by omega) (by omega) (sI_s ..)
  rw [Nat.sub_self, if_pos (Nat.zero_le _), Nat.zero_add] at r3
  rw [Nat.sub_self, show nI 0 = 0 from rfl] at e3
  unfold f_X12_dream_33
  rw [nm_id, B1.door hu (by omega), ob_some, e3, ov_some]
  rcases hx with rfl | ⟨p, hp, rfl, pb⟩
  · rw [if_pos rfl, if_pos rfl, r3.1]
    exact ⟨h3, rfl⟩
  · have ne : ¬ nI p = -1 := by
      rw [n_m1 (by omega)]
      exact id
    rw [if_neg ne, if_neg ne, rv_56_52, an_85, og_ix (by omega) (by omega), nI_clamp (by omega), r3.2 p hp, if_neg (by omega)]
    exact ⟨h3, rfl⟩
theorem g25 : G25 Rel2 := by
  intro h ⟨⟨v, R⟩, z⟩ a1 a2 a3
  have hn := R.n6
  have h64 := pow_le6 hn
  have R2 := R.thr (x := 0)
  cases hp : ptB v.n a1 a2 with
  | false =>
    refine ⟨-1000000, h, sI h 56 0 0, ?_, ?_, ⟨v, R2⟩, z⟩
    · unfold f_X11_dream
      rw [e_isParty hn R.cn, hp, ob_some, zi, if_neg (by decide)]
      rfl
    · unfold f_X12_dream
      rw [nm_id, e_isVisit hn R2.mn, hp, ob_some, zi, if_neg (by decide)]
      rfl
  | true =>
    obtain ⟨u, G, hu, rfl, g0, hG, rfl⟩ := (ptB_iff hn).mp hp
    have n0 := n_of_G g0 hG
    have main : (a3 = -1 ∨ ∃ p, p < v.n ∧ a3 = nI p ∧ G.testBit p = true) → ∃ r h1 h2, f_X11_dream 0 (nI u) (nI G) a3 h = some (r, h1) ∧ f_X12_dream 56 (nI u) (nI G) a3 h1 = some (r, h2) ∧ Rel2 h2 := by
      intro hx
      obtain ⟨h1, e1, z1⟩ := dream_C a3 R z n0 hu hG hx
      have gg : ¬ a3 = -1 → guB v.n (nI G) a3 = true := fun ne => (guB_iff hn (by omega)).mpr (by
        rcases hx with e | e
        · exact absurd e ne
        · exact e)
      have E1 : f_X11_dream 0 (nI u) (nI G) a3 h = some (if a3 = -1 then nI (Tf v G v.n (door v u G)) else grF v G v.n (door v u G) a3.toNatClampNeg, h1) := by
        unfold f_X11_dream
        rw [e_isParty hn R.cn, hp, ob_some, zi, if_pos rfl]
        by_cases c : a3 = -1
        · rw [if_pos c]
          exact e1
        · rw [if_neg c, e_isGuestC R.cn, gg c, ob_some, zi, if_pos rfl]
          exact e1
      have W1 : Agr W_X11_dream_i0 h h1 := w_f_X11_dream_i0 _ _ _ _ _ E1
      have R5 : RelV v h1 := rel_agr W1 rfl R
      have R6 := R5.thr (x := 0)
      obtain ⟨h2, e2⟩ := dream_M a3 (R6.mB n0) hu hG hx
      have E2 : f_X12_dream 56 (nI u) (nI G) a3 h1 = some (if a3 = -1 then nI (Tf v G v.n (door v u G)) else grF v G v.n (door v u G) a3.toNatClampNeg, h2) := by
        unfold f_X12_dream
        rw [nm_id, e_isVisit hn R6.mn, hp, ob_some, zi, if_pos rfl]
        by_cases c : a3 = -1
        · rw [if_pos c]
          exact e2
        · rw [if_neg c, e_isGuestM hn R6.mn, hp, gg c, Bool.and_self, ob_some, zi, if_pos rfl]
          exact e2
      have W2 : Agr W_X12_dream_i56 h1 h2 := w_f_X12_dream_i56 _ _ _ _ _ E2
      exact ⟨_, h1, h2, E1, E2, ⟨v, rel_agr W2 rfl R5⟩, fun j hj => by rw [agr_cell W2 50 rfl]; exact z1 j hj⟩
    by_cases c : a3 = -1
    · exact main (Or.inl c)
    · cases hg : guB v.n (nI G) a3 with
      | true => exact main (Or.inr ((guB_iff hn (by omega)).mp hg))
      | false =>
        refine ⟨-1000000, h, sI h 56 0 0, ?_, ?_, ⟨v, R2⟩, z⟩
        · unfold f_X11_dream
          rw [e_isParty hn R.cn, hp, ob_some, zi, if_pos rfl, if_neg c, e_isGuestC R.cn, hg, ob_some, zi, if_neg (by decide)]
          rfl
        · unfold f_X12_dream
          rw [nm_id, e_isVisit hn R2.mn, hp, ob_some, zi, if_pos rfl, if_neg c, e_isGuestM hn R2.mn, hp, hg, Bool.and_false, ob_some, zi, if_neg (by decide)]
          rfl
