theorem e_great5 {v : Wd} {G D : Nat} (hG : G < 2 ^ v.n) (hD : D < 2 ^ v.n) (hn : v.n ≤ 6) : ∀ n f h, f ≤ v.n → v.n - f < n → dC v h → dTb v G D f h → ∃ h', f_X3_greatest_5 n 49 (nI D) (nI G) (nI (gqF v G f)) (nI (v.n - f) - 1) h = some (nI (Tf v G v.n D), h') ∧ dC v h' ∧ dTb v G D v.n h' ∧ ∀ j, j < 64 → h'.1 50 j = h.1 50 j := by
  have h64 := pow_le6 hn
  have sD : sbB D D = true := by
    unfold sbB
    rw [Nat.and_self]
    exact Nat.beq_refl _
  intro n
  induction n with
  | zero => intro f h _ q; omega
  | succ n ih =>
    intro f h hf hfn F tb
    have gl := gqF_le v G f
    rw [f_X3_greatest_5]
    by_cases e : f = v.n
    · subst e
      rw [Nat.sub_self, if_pos (show nI 0 - 1 < 0 by decide), show nI (gqF v G v.n) * 64 = nI (gqF v G v.n * 64) from k_mul _ 64, nI_add, rv_49_1, an_50, og_ix (by omega) (by omega), nI_clamp (by omega), tb v.n (Nat.le_refl _) D (by omega) sD]
      exact ⟨h, rfl, F, tb, fun _ _ => rfl⟩
    · obtain ⟨p, hp⟩ : ∃ p, v.n - f = p + 1 := ⟨v.n - f - 1, by omega⟩
      have hp' : v.n - (f + 1) = p := by omega
      rw [hp, nI_pred, if_neg (nI_pos (by omega)), e_X11_isIn, ob_some, inS_tb G (by omega) p (by omega), zi]
      by_cases g : G.testBit p = true
      · have g' : G.testBit (v.n - (f + 1)) = true := by
          rw [hp']
          exact g
        obtain ⟨h1, e1, F1, t1, z1⟩ := e_great25 (f_X3_greatest_5 n) F tb (by omega) hD g'
        rw [hp'] at e1
        rw [if_pos g, nm_id, nI_1, e1]
        obtain ⟨h2, e2, F2, t2, z2⟩ := ih (f + 1) h1 (by omega) (by omega) F1 t1
        rw [hp', gqF, if_pos g'] at e2
        exact ⟨h2, e2, F2, t2, fun j hj => by rw [z2 j hj, z1 j hj]⟩
      · have g' : ¬ G.testBit (v.n - (f + 1)) = true := by
          rw [hp']
          exact g
        have t1 : dTb v G D (f + 1) h := by
          intro g1 hg1 S hS sb
          by_cases q : g1 = f + 1
          · rw [q, gqF, if_neg g', Tf, if_neg g']
            exact tb f (Nat.le_refl _) S hS sb
          · exact tb g1 (by omega) S hS sb
        rw [if_neg g, f_X3_greatest_67, nm_id, m1_e]
        obtain ⟨h2, e2, F2, t2, z2⟩ := ih (f + 1) h (by omega) (by omega) F t1
        rw [hp', gqF, if_neg g'] at e2
        exact ⟨h2, e2, F2, t2, z2⟩
theorem e_great {v : Wd} {G D : Nat} {h : AH} (hG : G < 2 ^ v.n) (hD : D < 2 ^ v.n) (F : dC v h) (z : ∀ j, j < 64 → h.1 50 j = 0) : ∃ h', f_X3_greatest 49 (nI D) (nI G) h = some (nI (Tf v G v.n D), h') ∧ dC v h' ∧ dTb v G D v.n h' ∧ ∀ j, j < 64 → h'.1 50 j = 0 := by
  have hn := F.1.1.1
  have h64 := pow_le6 hn
  have tb0 : dTb v G D 0 h := by
    intro g hg S hS _
    have : g = 0 := by omega
    subst this
    show h.1 50 (0 * 64 + S) = nI 0
    rw [Nat.zero_mul, Nat.zero_add]
    exact z S hS
  have st : ∀ d n, v.n + d ≤ 6 → d + 10 < n → ∃ h', f_X3_greatest_5 n 49 (nI D) (nI G) 0 (nI (v.n + d) - 1) h = some (nI (Tf v G v.n D), h') ∧ dC v h' ∧ dTb v G D v.n h' ∧ ∀ j, j < 64 → h'.1 50 j = 0 := by
    intro d
    induction d with
    | zero =>
      intro n _ hn'
      obtain ⟨h', e, a, b, c⟩ := e_great5 hG hD hn n 0 h (by omega) (by omega) F tb0
      rw [show gqF v G 0 = 0 from rfl, show nI 0 = 0 from rfl, Nat.sub_zero] at e
      rw [Nat.add_zero]
      exact ⟨h', e, a, b, fun j hj => by rw [c j hj, z j hj]⟩
    | succ d ih =>
      intro n hd hn'
      obtain ⟨n', rfl⟩ : ∃ n', n = n' + 1 := ⟨n - 1, by omega⟩
      have nb : ¬ G.testBit (v.n + d) = true := fun w => by
        have := tb_lt hG w
        omega
      rw [f_X3_greatest_5, ← Nat.add_assoc, nI_pred, if_neg (nI_pos (by omega)), e_X11_isIn, ob_some, inS_tb G (by omega) _ (by omega), zi, if_neg nb, f_X3_greatest_67, nm_id, m1_e]
      exact ih n' (by omega) (by omega)
  have := st (6 - v.n) FU (by omega) (by unfold FU; omega)
  rw [show v.n + (6 - v.n) = 6 by omega, show nI 6 - 1 = 5 by decide] at this
  unfold f_X3_greatest
  exact this
/-- whom it falls to -/
theorem e_low {v : Wd} {G D f S : Nat} {h : AH} (F : dC v h) (tb : dTb v G D (f + 1) h) (hf : f + 1 ≤ v.n) (hS : S < 2 ^ v.n) (sb : sbB S D = true) (hD : D < 64) (hg : G.testBit (v.n - (f + 1)) = true) : f_X3_lowestOf 49 (nI (v.n - (f + 1))) (nI (gqF v G f + 1)) (nI S) h = some (chF v G f S, h) := by
  have hn := F.1.1.1
  have h64 := pow_le6 hn
  have gl := gqF_le v G f
  have wb : ∀ q, q < v.n → v.wo q ≤ 99 := fun q hq => (F.2.2.1 q hq).2
  have tb' : dTb v G D f h := fun g hg S hS sb => tb g (by omega) S hS sb
  have tT := tb (f + 1) (Nat.le_refl _) S (by omega) sb
  rw [gqF, if_pos hg] at tT
  have eT : Tf v G (f + 1) S = mxV (Tf v G f S) (vkF v (Tf v G f) (v.n - (f + 1)) S v.n) := by
    rw [Tf, if_pos hg]
  have eC : chF v G f S = chV (Tf v G f S) (vkF v (Tf v G f) (v.n - (f + 1)) S v.n) := by
    unfold chF
    rw [if_pos hg]
  have Tb := Tf_b (G := G) wb (f + 1) S
  unfold f_X3_lowestOf
  refine lp (fun n i (_ : Unit) => f_X3_lowestOf_3 n 49 (nI (v.n - (f + 1))) (nI (gqF v G f + 1)) (nI S) (nI i) h = some (chF v G f S, h)) (fun i _ => ∀ j, j < i → vaB v (v.n - (f + 1)) S j = true → vaV v (Tf v G f) S j ≠ Tf v G (f + 1) S) 6 (by decide) ?_ ?_ (s := ()) (fun j hj => absurd hj (by omega))
  · rintro n _ H
    rw [f_X3_lowestOf_3, if_pos (by decide), eC]
    rcases vk_ok (v := v) (T := Tf v G f) (p := v.n - (f + 1)) (S := S) v.n with ⟨e, _⟩ | ⟨m, a, e, h1, h2, h3, h4, _⟩
    · rw [e]
      rfl
    · rw [e] at eT ⊢
      show some (-1, h) = some (if Tf v G f S ≤ m then nI a else -1, h)
      rw [if_neg]
      intro w
      have eT : Tf v G (f + 1) S = if Tf v G f S ≤ m then m else Tf v G f S := eT
      rw [if_pos w] at eT
      exact H a (by omega) h2 (by rw [h3, eT])
  · rintro n i _ hi H K
    rw [f_X3_lowestOf_3, if_neg (by rw [show (6 : Int32) = nI 6 from rfl, nI_leI (by decide) (by omega)]; omega), e_X11_isIn, ob_some, inS_tb S (by omega) i hi, zi]
    have nxt : (vaB v (v.n - (f + 1)) S i = true → vaV v (Tf v G f) S i ≠ Tf v G (f + 1) S) → f_X3_lowestOf_3 n 49 (nI (v.n - (f + 1))) (nI (gqF v G f + 1)) (nI S) (nI (i + 1)) h = some (chF v G f S, h) := fun w => K () (fun j hj vb => by
      by_cases e : j = i
      · rw [e] at vb ⊢
        exact w vb
      · exact H j (by omega) vb)
    cases b : S.testBit i with
    | false =>
      rw [if_neg (by decide), f_X3_lowestOf_68, nm_id, nI_1]
      exact nxt (fun w => by unfold vaB at w; rw [b, Bool.false_and] at w; cases w)
    | true =>
      have ik := tb_lt hS b
      rw [if_pos rfl, rv_49_0, rv_35_2, rv_35_0, an_36, og_ix (by omega) (by omega), nI_clamp (by omega), e_wear F (by omega) ik, ob_some, zi]
      cases c : fitS v (v.n - (f + 1)) (v.it i 3) with
      | false =>
        rw [if_neg (by decide), f_X3_lowestOf_68, nm_id, nI_1]
        exact nxt (fun w => by unfold vaB at w; rw [b, c, Bool.true_and] at w; cases w)
      | true =>
        have vb : vaB v (v.n - (f + 1)) S i = true := by
          unfold vaB
          rw [b, c]
          rfl
        have vl := vaV_b (G := G) (f := f) (S := S) wb ik (by omega)
        rw [if_pos rfl, e_worthW F tb' (by omega) ik (by omega) sb hD, ob_some, show nI (gqF v G f + 1) * 64 = nI ((gqF v G f + 1) * 64) from k_mul _ 64, nI_add, rv_49_1, an_50, og_ix (by omega) (by omega), nI_clamp (by omega), tT]
        by_cases d : vaV v (Tf v G f) S i = Tf v G (f + 1) S
        · rw [if_pos (by rw [d]), eC]
          rcases vk_ok (v := v) (T := Tf v G f) (p := v.n - (f + 1)) (S := S) v.n with ⟨_, w⟩ | ⟨m, a, e, h1, h2, h3, h4, h5⟩
          · rw [w i ik] at vb
            cases vb
          · rw [e] at eT ⊢
            have eT : Tf v G (f + 1) S = if Tf v G f S ≤ m then m else Tf v G f S := eT
            have li := h4 i ik vb
            show some (nI i, h) = some (if Tf v G f S ≤ m then nI a else -1, h)
            have tm : Tf v G f S ≤ m := by
              by_cases w : Tf v G f S ≤ m
              · exact w
              · rw [if_neg w] at eT
                omega
            rw [if_pos tm] at eT ⊢
            have ai : a = i := by
              rcases Nat.lt_trichotomy a i with w | w | w
              · exact absurd (by rw [h3, eT]) (H a w h2)
              · exact w
              · have := h5 i w vb
                omega
            rw [ai]
        · rw [if_neg (by rw [n_eq (by omega) (by omega)]; exact d), f_X3_lowestOf_68, nm_id, nI_1]
          exact nxt (fun _ => d)
theorem chF_c {v : Wd} {G f S : Nat} : chF v G f S = -1 ∨ ∃ k, k < v.n ∧ chF v G f S = nI k := by
  unfold chF
  by_cases g : G.testBit (v.n - (f + 1)) = true
  · rw [if_pos g]
    rcases vk_ok (v := v) (T := Tf v G f) (p := v.n - (f + 1)) (S := S) v.n with ⟨e, _⟩ | ⟨m, a, e, h1, _⟩
    · rw [e]
      exact Or.inl rfl
    · rw [e]
      show (if Tf v G f S ≤ m then nI a else -1) = -1 ∨ ∃ k, k < v.n ∧ (if Tf v G f S ≤ m then nI a else -1) = nI k
      by_cases w : Tf v G f S ≤ m
      · rw [if_pos w]
        exact Or.inr ⟨a, h1, rfl⟩
      · rw [if_neg w]
        exact Or.inl rfl
  · rw [if_neg g]
    exact Or.inl rfl
theorem e_pairOf15 {v : Wd} {G D p : Nat} {h : AH} (F : dC v h) (tb : dTb v G D v.n h) (hG : G < 2 ^ v.n) (hD : D < 2 ^ v.n) (hp : p < v.n) (pb : G.testBit p = true) : ∀ n f S y, f ≤ v.n → v.n - p ≤ f → f < n → S < 2 ^ v.n → sbB S D = true → f_X3_pairOf_15 n 49 (nI p) (nI G) (nI S) (nI (gqF v G f)) y (nI (v.n - f)) h = some (grF v G f S p, h) := by
  have hn := F.1.1.1
  have h64 := pow_le6 hn
  have fin : ∀ (g : Nat) (n : Nat) (S : Nat) (y : Int32) (z : Int32), g + p + 1 = v.n → 0 < n → f_X3_pairOf_15 n 49 (nI p) (nI G) (nI S) z y (nI (v.n - g)) h = some (y, h) := by
    intro g n S y z e n0
    obtain ⟨n', rfl⟩ : ∃ n', n = n' + 1 := ⟨n - 1, by omega⟩
    rw [f_X3_pairOf_15, if_pos (show nI p < nI (v.n - g) from nI_lt (by omega) (by omega))]
  intro n
  induction n with
  | zero => intro f S y _ _ q; omega
  | succ n ih =>
    intro f S y hf hpf hfn hS sb
    obtain ⟨f', rfl⟩ : ∃ f', f = f' + 1 := ⟨f - 1, by omega⟩
    have gl := gqF_le v G f'
    rw [f_X3_pairOf_15, if_neg (show ¬ nI p < nI (v.n - (f' + 1)) from nI_nlt (by omega) (by omega)), e_X11_isIn, ob_some, inS_tb G (by omega) _ (by omega), zi, grF]
    have e1 : v.n - (f' + 1) + 1 = v.n - f' := by omega
    by_cases g : G.testBit (v.n - (f' + 1)) = true
    · rw [if_pos g, gqF, if_pos g, e_low F (fun a ha S hS sb => tb a (by omega) S hS sb) hf hS sb (by omega) g, ob_some]
      have rS : rmv S (chF v G f' S) < 2 ^ v.n ∧ sbB (rmv S (chF v G f' S)) D = true := by
        rcases chF_c (v := v) (G := G) (f := f') (S := S) with e | ⟨k, hk, e⟩
        · rw [e, rmv_m1]
          exact ⟨hS, sb⟩
        · rw [e]
          have := (rmv_all S (by omega) k (by omega)).2
          exact ⟨by omega, (sb_i (show S < 64 by omega) (show D < 64 by omega) sb).2 k (by omega)⟩
      have goal : f_X3_pairOf_62 (f_X3_pairOf_15 n) 49 (nI p) (nI G) (nI (gqF v G f' + 1)) (chF v G f' S) (nI (v.n - (f' + 1))) (nI (rmv S (chF v G f' S))) h = some (if p = v.n - (f' + 1) then chF v G f' S else grF v G f' (rmv S (chF v G f' S)) p, h) := by
        rw [f_X3_pairOf_62, nm_id, pk_m1, f_X3_pairOf_67, nm_id, nI_1, e1]
        by_cases q : p = v.n - (f' + 1)
        · rw [if_pos q]
          exact fin f' n _ _ _ (by omega) (by omega)
        · rw [if_neg q]
          exact ih f' _ _ (by omega) (by omega) (by omega) rS.1 rS.2
      rcases chF_c (v := v) (G := G) (f := f') (S := S) with e | ⟨k, hk, e⟩
      · rw [if_pos e]
        rw [show rmv S (chF v G f' S) = S by rw [e, rmv_m1]] at goal ⊢
        exact goal
      · rw [if_neg (by rw [e, n_m1 (by omega)]; exact id)]
        have : nI S &&& (((1 : Int32) <<< (chF v G f' S &&& 31)) ^^^ (-1)) = nI (rmv S (chF v G f' S)) := by
          rw [e]
          exact (rmv_all S (by omega) k (by omega)).1
        rw [this]
        exact goal
    · have q : ¬ p = v.n - (f' + 1) := fun w => g (by rw [← w]; exact pb)
      have ec : chF v G f' S = -1 := by
        unfold chF
        rw [if_neg g]
      rw [if_neg g, if_neg q, ec, rmv_m1, f_X3_pairOf_67, nm_id, nI_1, e1, gqF, if_neg g]
      exact ih f' S y (by omega) (by omega) (by omega) hS sb
