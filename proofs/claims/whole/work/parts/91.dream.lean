theorem e_worthW {v : Wd} {G D f k S : Nat} {h : AH} (F : dC v h) (tb : dTb v G D f h) (hf : f ≤ v.n) (hk : k < v.n) (hS : S < 64) (sb : sbB S D = true) (hD : D < 64) : f_X3_worthWith 49 (nI k) (nI (gqF v G f + 1)) (nI S) h = some (nI (vaV v (Tf v G f) S k), h) := by
  have hn := F.1.1.1
  have gl := gqF_le v G f
  have ra := rmv_all S hS k (by omega)
  have sk := sb_i hS hD sb
  unfold f_X3_worthWith
  rw [rv_49_0, rv_35_3, an_37, og_ix (by omega) (by omega), nI_pred, ra.1, show nI (gqF v G f) * 64 = nI (gqF v G f * 64) from k_mul _ 64, nI_add, rv_49_1, an_50, og_ix (by omega) (by omega), nI_clamp (by omega), nI_clamp (by omega), (F.2.2.2.2.2 k hk).2, tb f (Nat.le_refl _) _ (by omega) (sk.2 k (by omega)), nI_add]
  rfl
theorem vaV_b {v : Wd} {G f S k : Nat} (wb : ∀ q, q < v.n → v.wo q ≤ 99) (hk : k < v.n) (hf : f ≤ 6) : vaV v (Tf v G f) S k ≤ 700 := by
  have := wb k hk
  have := Tf_b (G := G) wb f (rmv S (nI k))
  unfold vaV
  omega
theorem mxV_b {v : Wd} {G f p S k : Nat} (wb : ∀ q, q < v.n → v.wo q ≤ 99) (hk : k ≤ v.n) (hf : f ≤ 6) : mxV (Tf v G f S) (vkF v (Tf v G f) p S k) ≤ 700 := by
  have t := Tf_b (G := G) wb f S
  rcases vk_ok (v := v) (T := Tf v G f) (p := p) (S := S) k with ⟨e, _⟩ | ⟨m, a, e, h1, h2, h3, _⟩
  · rw [e]
    show Tf v G f S ≤ _
    omega
  · rw [e]
    have := vaV_b (G := G) (f := f) (S := S) wb (show a < v.n by omega) hf
    show (if Tf v G f S ≤ m then m else Tf v G f S) ≤ _
    split <;> omega
theorem e_wear {v : Wd} {p k : Nat} {h : AH} (F : dC v h) (hp : p < v.n) (hk : k < v.n) : f_X6_canWear 3 (nI p) (h.1 36 k) h = some (zb (fitS v p (v.it k 3)), h) := by
  have := (F.2.2.1 k hk).1
  rw [(F.2.2.2.2.2 k hk).1]
  exact e_X6_canWear F.1 hp (by
    have q : v.it k 3 ≤ 50 := this
    show v.it k 3 < 2 ^ 30
    omega)
theorem e_bestOf {v : Wd} {G D f S : Nat} {h : AH} (F : dC v h) (tb : dTb v G D f h) (hf : f + 1 ≤ v.n) (hS : S < 2 ^ v.n) (sb : sbB S D = true) (hD : D < 64) (hg : G.testBit (v.n - (f + 1)) = true) : f_X3_bestOf 49 (nI (v.n - (f + 1))) (nI (gqF v G f + 1)) (nI S) h = some (nI (Tf v G (f + 1) S), h) := by
  have hn := F.1.1.1
  have h64 := pow_le6 hn
  have gl := gqF_le v G f
  have wb : ∀ q, q < v.n → v.wo q ≤ 99 := fun q hq => (F.2.2.1 q hq).2
  have eT : Tf v G (f + 1) S = mxV (Tf v G f S) (vkF v (Tf v G f) (v.n - (f + 1)) S v.n) := by
    rw [Tf, if_pos hg]
  have ex : ∀ d, vkF v (Tf v G f) (v.n - (f + 1)) S (v.n + d) = vkF v (Tf v G f) (v.n - (f + 1)) S v.n := by
    intro d
    induction d with
    | zero => rfl
    | succ d ih =>
      rw [← Nat.add_assoc, vkF, if_neg, ih]
      unfold vaB
      intro w
      rw [Bool.and_eq_true] at w
      have := tb_lt hS w.1
      omega
  have e6 : Tf v G (f + 1) S = mxV (Tf v G f S) (vkF v (Tf v G f) (v.n - (f + 1)) S 6) := by
    have := ex (6 - v.n)
    rw [show v.n + (6 - v.n) = 6 by omega] at this
    rw [this, eT]
  unfold f_X3_bestOf
  rw [nI_pred, show nI (gqF v G f) * 64 = nI (gqF v G f * 64) from k_mul _ 64, nI_add, rv_49_1, an_50, og_ix (by omega) (by omega), nm_id, nI_clamp (by omega), tb f (Nat.le_refl _) S (by omega) sb, e6]
  refine lp (fun n i (s : Int32) => f_X3_bestOf_18 n 49 (nI (v.n - (f + 1))) (nI (gqF v G f + 1)) (nI S) s (nI i) h = some (nI (mxV (Tf v G f S) (vkF v (Tf v G f) (v.n - (f + 1)) S 6)), h)) (fun i s => s = nI (mxV (Tf v G f S) (vkF v (Tf v G f) (v.n - (f + 1)) S i))) 6 (by decide) ?_ ?_ rfl
  · rintro n s rfl
    rw [f_X3_bestOf_18, if_pos (by decide)]
  · rintro n i s hi rfl K
    have K := K _ rfl
    rw [mxV_s] at K
    rw [f_X3_bestOf_18, if_neg (by rw [show (6 : Int32) = nI 6 from rfl, nI_leI (by decide) (by omega)]; omega), e_X11_isIn, ob_some, inS_tb S (by omega) i hi, zi]
    unfold vaB at K
    cases b : S.testBit i with
    | false =>
      rw [b, Bool.false_and, if_neg (by decide)] at K
      rw [if_neg (by decide), f_X3_bestOf_73, nm_id, nI_1]
      exact K
    | true =>
      have ik := tb_lt hS b
      rw [b, Bool.true_and] at K
      rw [if_pos rfl, rv_49_0, rv_35_2, rv_35_0, an_36, og_ix (by omega) (by omega), nI_clamp (by omega), e_wear F (by omega) ik, ob_some, zi]
      cases c : fitS v (v.n - (f + 1)) (v.it i 3) with
      | false =>
        rw [c, if_neg (by decide)] at K
        rw [if_neg (by decide), f_X3_bestOf_73, nm_id, nI_1]
        exact K
      | true =>
        rw [c, if_pos rfl] at K
        have mb := mxV_b (G := G) (f := f) (p := v.n - (f + 1)) (S := S) (k := i) wb (by omega) (by omega)
        have vb := vaV_b (G := G) (f := f) (S := S) wb ik (by omega)
        rw [if_pos rfl, e_worthW F tb (by omega) ik (by omega) sb hD, ob_some, nm_id, f_X3_bestOf_73, nm_id, nI_1]
        by_cases d : mxV (Tf v G f S) (vkF v (Tf v G f) (v.n - (f + 1)) S i) < vaV v (Tf v G f) S i
        · rw [if_pos d] at K
          rw [if_pos (show nI _ < nI _ from nI_lt d (by omega))]
          exact K
        · rw [if_neg d] at K
          rw [if_neg (show ¬ nI _ < nI _ from nI_nlt (by omega) (by omega))]
          exact K
theorem dC_50 {v : Wd} {h : AH} {j : Nat} {x : Int32} (F : dC v h) : dC v (sI h 50 j x) := cF_eq (agr_on (W := (50, 1000) :: []) (agr_sI (agr_refl h) rfl) rfl) F
theorem e_great25 {v : Wd} {G D f : Nat} {h : AH} (q : Nat → Int32 → Int32 → Int32 → Int32 → AH → Option (Int32 × AH)) (F : dC v h) (tb : dTb v G D f h) (hf : f + 1 ≤ v.n) (hD : D < 2 ^ v.n) (hg : G.testBit (v.n - (f + 1)) = true) : ∃ h', f_X3_greatest_25 q FU 49 (nI D) (nI G) (nI (gqF v G f + 1)) (nI (v.n - (f + 1))) 0 h = q 49 (nI D) (nI G) (nI (gqF v G f + 1)) (nI (v.n - (f + 1)) - 1) h' ∧ dC v h' ∧ dTb v G D (f + 1) h' ∧ ∀ j, j < 64 → h'.1 50 j = h.1 50 j := by
  have hn := F.1.1.1
  have h64 := pow_le6 hn
  have gl := gqF_le v G f
  have g1 : gqF v G (f + 1) = gqF v G f + 1 := by rw [gqF, if_pos hg]
  refine lp (fun n i s => ∃ h', f_X3_greatest_25 q n 49 (nI D) (nI G) (nI (gqF v G f + 1)) (nI (v.n - (f + 1))) (nI i) s = q 49 (nI D) (nI G) (nI (gqF v G f + 1)) (nI (v.n - (f + 1)) - 1) h' ∧ dC v h' ∧ dTb v G D (f + 1) h' ∧ ∀ j, j < 64 → h'.1 50 j = h.1 50 j) (fun i s => dC v s ∧ dTb v G D f s ∧ (∀ S, S < i → sbB S D = true → s.1 50 ((gqF v G f + 1) * 64 + S) = nI (Tf v G (f + 1) S)) ∧ ∀ j, j < 64 → s.1 50 j = h.1 50 j) (D + 1) (by omega) ?_ ?_ ⟨F, tb, fun S hS => absurd hS (by omega), fun _ _ => rfl⟩
  · rintro n s ⟨F, tb, s1, s2⟩
    rw [f_X3_greatest_25, if_pos (show nI D < nI (D + 1) from nI_lt (by omega) (by omega)), f_X3_greatest_67, nm_id, m1_e]
    refine ⟨s, rfl, F, fun g hg' S hS sb => ?_, s2⟩
    by_cases e : g = f + 1
    · rw [e, g1]
      exact s1 S (by have := (sb_i hS (show D < 64 by omega) sb).1; omega) sb
    · exact tb g (by omega) S hS sb
  · rintro n i s hi ⟨F, tb, s1, s2⟩ K
    rw [f_X3_greatest_25, if_neg (show ¬ nI D < nI i from nI_nlt (by omega) (by omega))]
    have si := sb_1 i (by omega) D (by omega)
    cases c : sbB i D with
    | false =>
      rw [if_neg (fun w => by rw [si.mp w] at c; cases c), f_X3_greatest_61, nm_id, nI_1]
      refine K s ⟨F, tb, fun S hS sb => ?_, s2⟩
      by_cases e : S = i
      · rw [e, c] at sb
        cases sb
      · exact s1 S (by omega) sb
    | true =>
      rw [if_pos (si.mpr c), e_bestOf F tb hf (by omega) c (by omega) hg, ob_some, show nI (gqF v G f + 1) * 64 = nI ((gqF v G f + 1) * 64) from k_mul _ 64, nI_add, rv_49_1, an_50, og_ix (by omega) (by omega), nm_id, nI_clamp (by omega), f_X3_greatest_61, nm_id, nI_1]
      refine K _ ⟨dC_50 F, fun g hg' S hS sb => ?_, fun S hS sb => ?_, fun j hj => ?_⟩
      · have := gqF_mono v G f g hg'
        rw [sI_n (Or.inr (by omega))]
        exact tb g hg' S hS sb
      · by_cases e : S = i
        · subst e
          exact sI_s ..
        · rw [sI_n (Or.inr (by omega))]
          exact s1 S (by omega) sb
      · rw [sI_n (Or.inr (by omega))]
        exact s2 j hj
