/-! dream: what is the greatest -/
def vaB (v : Wd) (p S k : Nat) : Bool := S.testBit k && fitS v p (v.it k 3)
def vaV (v : Wd) (T : Nat → Nat) (S k : Nat) : Nat := v.wo k + T (rmv S (nI k))
def vkF (v : Wd) (T : Nat → Nat) (p S : Nat) : Nat → Option (Nat × Nat)
  | 0 => none
  | k + 1 => if vaB v p S k = true then (match vkF v T p S k with
      | none => some (vaV v T S k, k)
      | some (m, a) => if m < vaV v T S k then some (vaV v T S k, k) else some (m, a)) else vkF v T p S k
def mxV (t : Nat) : Option (Nat × Nat) → Nat
  | none => t
  | some (m, _) => if t ≤ m then m else t
def Tf (v : Wd) (G : Nat) : Nat → Nat → Nat
  | 0, _ => 0
  | f + 1, S => if G.testBit (v.n - (f + 1)) = true then mxV (Tf v G f S) (vkF v (Tf v G f) (v.n - (f + 1)) S v.n) else Tf v G f S
def chV (t : Nat) : Option (Nat × Nat) → Int32
  | none => -1
  | some (m, a) => if t ≤ m then nI a else -1
def chF (v : Wd) (G f S : Nat) : Int32 := if G.testBit (v.n - (f + 1)) = true then chV (Tf v G f S) (vkF v (Tf v G f) (v.n - (f + 1)) S v.n) else -1
def grF (v : Wd) (G : Nat) : Nat → Nat → Nat → Int32
  | 0, _, _ => -1
  | f + 1, S, q => if q = v.n - (f + 1) then chF v G f S else grF v G f (rmv S (chF v G f S)) q
theorem vk_ok {v : Wd} {T : Nat → Nat} {p S : Nat} : ∀ k, (vkF v T p S k = none ∧ ∀ j, j < k → vaB v p S j = false) ∨ ∃ m a, vkF v T p S k = some (m, a) ∧ a < k ∧ vaB v p S a = true ∧ vaV v T S a = m ∧ (∀ j, j < k → vaB v p S j = true → vaV v T S j ≤ m) ∧ ∀ j, j < a → vaB v p S j = true → vaV v T S j < m := by
  intro k
  induction k with
  | zero => exact Or.inl ⟨rfl, fun j hj => absurd hj (by omega)⟩
  | succ k ih =>
    rw [vkF]
    cases hb : vaB v p S k with
    | false =>
      rw [if_neg (by decide)]
      rcases ih with ⟨e, h⟩ | ⟨m, a, e, h1, h2, h3, h4, h5⟩
      · refine Or.inl ⟨e, fun j hj => ?_⟩
        by_cases q : j = k
        · rw [q]
          exact hb
        · exact h j (by omega)
      · refine Or.inr ⟨m, a, e, by omega, h2, h3, fun j hj w => ?_, h5⟩
        by_cases q : j = k
        · rw [q, hb] at w
          cases w
        · exact h4 j (by omega) w
    | true =>
      rw [if_pos rfl]
      rcases ih with ⟨e, h⟩ | ⟨m, a, e, h1, h2, h3, h4, h5⟩
      · rw [e]
        refine Or.inr ⟨_, k, rfl, by omega, hb, rfl, fun j hj w => ?_, fun j hj w => ?_⟩
        · by_cases q : j = k
          · rw [q]
            exact Nat.le_refl _
          · rw [h j (by omega)] at w
            cases w
        · rw [h j hj] at w
          cases w
      · rw [e]
        by_cases c : m < vaV v T S k
        · refine Or.inr ⟨_, k, if_pos c, by omega, hb, rfl, fun j hj w => ?_, fun j hj w => ?_⟩
          · by_cases q : j = k
            · rw [q]
              exact Nat.le_refl _
            · have := h4 j (by omega) w
              omega
          · have := h4 j hj w
            omega
        · refine Or.inr ⟨m, a, if_neg c, by omega, h2, h3, fun j hj w => ?_, h5⟩
          by_cases q : j = k
          · rw [q]
            omega
          · exact h4 j (by omega) w
theorem mxV_s {v : Wd} {T : Nat → Nat} {p S t k : Nat} : mxV t (vkF v T p S (k + 1)) = if vaB v p S k = true then (if mxV t (vkF v T p S k) < vaV v T S k then vaV v T S k else mxV t (vkF v T p S k)) else mxV t (vkF v T p S k) := by
  rw [vkF]
  cases hb : vaB v p S k with
  | false => rfl
  | true =>
    rw [if_pos rfl, if_pos rfl]
    cases vkF v T p S k with
    | none =>
      show (if t ≤ vaV v T S k then vaV v T S k else t) = if t < vaV v T S k then vaV v T S k else t
      by_cases c : t < vaV v T S k
      · rw [if_pos (by omega), if_pos c]
      · rw [if_neg c]
        by_cases d : t ≤ vaV v T S k
        · rw [if_pos d]
          omega
        · rw [if_neg d]
    | some q =>
      obtain ⟨m, a⟩ := q
      show mxV t (if m < vaV v T S k then some (vaV v T S k, k) else some (m, a)) = if (if t ≤ m then m else t) < vaV v T S k then vaV v T S k else (if t ≤ m then m else t)
      by_cases c : m < vaV v T S k
      · rw [if_pos c]
        show (if t ≤ vaV v T S k then vaV v T S k else t) = _
        by_cases d : t ≤ m
        · rw [if_pos d, if_pos c, if_pos (by omega)]
        · rw [if_neg d]
          by_cases e : t < vaV v T S k
          · rw [if_pos e, if_pos (by omega)]
          · rw [if_neg e]
            by_cases d' : t ≤ vaV v T S k
            · rw [if_pos d']
              omega
            · rw [if_neg d']
      · rw [if_neg c]
        show (if t ≤ m then m else t) = _
        by_cases d : t ≤ m
        · rw [if_pos d, if_neg c]
        · rw [if_neg d, if_neg (by omega)]
theorem mxV_ge (t : Nat) (o : Option (Nat × Nat)) : t ≤ mxV t o := by
  cases o with
  | none => exact Nat.le_refl _
  | some q =>
    obtain ⟨m, a⟩ := q
    show t ≤ if t ≤ m then m else t
    split <;> omega
theorem Tf_b {v : Wd} {G : Nat} (wb : ∀ q, q < v.n → v.wo q ≤ 99) : ∀ f S, Tf v G f S ≤ 99 * f := by
  intro f
  induction f with
  | zero => intro S; exact Nat.le_refl _
  | succ f ih =>
    intro S
    have i0 := ih S
    rw [Tf]
    by_cases g : G.testBit (v.n - (f + 1)) = true
    · rw [if_pos g]
      rcases vk_ok (v := v) (T := Tf v G f) (p := v.n - (f + 1)) (S := S) v.n with ⟨e, _⟩ | ⟨m, a, e, h1, h2, h3, _⟩
      · rw [e]
        show Tf v G f S ≤ _
        omega
      · rw [e]
        have := wb a h1
        have := ih (rmv S (nI a))
        unfold vaV at h3
        show (if Tf v G f S ≤ m then m else Tf v G f S) ≤ _
        split <;> omega
    · rw [if_neg g]
      omega
/-- the class's table -/
def gqF (v : Wd) (G : Nat) : Nat → Nat
  | 0 => 0
  | f + 1 => if G.testBit (v.n - (f + 1)) = true then gqF v G f + 1 else gqF v G f
theorem gqF_le (v : Wd) (G : Nat) : ∀ f, gqF v G f ≤ f := by
  intro f
  induction f with
  | zero => exact Nat.le_refl _
  | succ f ih =>
    rw [gqF]
    split <;> omega
theorem gqF_mono (v : Wd) (G : Nat) : ∀ f g, g ≤ f → gqF v G g ≤ gqF v G f := by
  intro f
  induction f with
  | zero =>
    intro g hg
    have : g = 0 := by omega
    rw [this]
    exact Nat.le_refl _
  | succ f ih =>
    intro g hg
    by_cases e : g = f + 1
    · rw [e]
      exact Nat.le_refl _
    · have := ih g (by omega)
      rw [gqF]
      split <;> omega
def sbB (S D : Nat) : Bool := Nat.beq (S &&& D) S
theorem sb_1 : ∀ S, S < 64 → ∀ D, D < 64 → (nI S &&& (nI D ^^^ (-1)) = 0 ↔ sbB S D = true) := by decide +kernel
theorem sb_tb {S D : Nat} (h : sbB S D = true) {i : Nat} (b : S.testBit i = true) : D.testBit i = true := by
  have e := Nat.eq_of_beq_eq_true h
  rw [← e, Nat.testBit_and, Bool.and_eq_true] at b
  exact b.2
theorem sb_i {S : Nat} (hS : S < 64) {D : Nat} (_ : D < 64) (h : sbB S D = true) : S ≤ D ∧ ∀ k, k < 6 → sbB (rmv S (nI k)) D = true := by
  have e := Nat.eq_of_beq_eq_true h
  refine ⟨by rw [← e]; exact Nat.and_le_right, fun k hk => ?_⟩
  have ra := (rmv_all S hS k hk).2
  unfold sbB
  have : rmv S (nI k) &&& D = rmv S (nI k) := by
    apply Nat.eq_of_testBit_eq
    intro i
    rw [Nat.testBit_and]
    cases b : (rmv S (nI k)).testBit i with
    | false => rfl
    | true =>
      have i6 : i < 6 := tb_lt (n := 6) (show rmv S (nI k) < 2 ^ 6 by omega) b
      rw [rmv_tb S hS k hk i i6, Bool.and_eq_true] at b
      rw [sb_tb h b.1]
      rfl
  rw [this]
  exact Nat.beq_refl _
def dTb (v : Wd) (G D f : Nat) (h : AH) : Prop := ∀ g, g ≤ f → ∀ S, S < 64 → sbB S D = true → h.1 50 (gqF v G g * 64 + S) = nI (Tf v G g S)
def dC (v : Wd) (h : AH) : Prop := cF v (fun q => v.it q 3) v.wo h
theorem e_worthW {v : Wd} {G D f k S : Nat} {h : AH} (F : dC v h) (tb : dTb v G D f h) (hf : f ≤ v.n) (hk : k < v.n) (hS : S < 64) (sb : sbB S D = true) (hD : D < 64) : f_X3_worthWith 49 (nI k) (nI (gqF v G f + 1)) (nI S) h = some (nI (vaV v (Tf v G f) S k), h) := by
  have hn := F.1.1.1
  have gl := gqF_le v G f
  have ra := rmv_all S hS k (by omega)
  have sk := sb_i hS hD sb
  unfold f_X3_worthWith
  rw [rv_49_0, rv_35_3, an_37, og_ix (by omega) (by omega), nI_pred, ra.1, show nI (gqF v G f) * 64 = nI (gqF v G f * 64) from k_mul _ 64, nI_add, rv_49_1, an_50, og_ix (by omega) (by omega), nI_clamp (by omega), nI_clamp (by omega), (F.2.2.2.2.2 k hk).2, tb f (Nat.le_refl _) _ (by omega) (sk.2 k (by omega)), nI_add]
  rfl
theorem vaV_b {v : Wd} {G f S k : Nat} (wb : ∀ q, q < v.n → v.wo q ≤ 99) (hk : k < v.n) (hf : f ≤ 6) : vaV v (Tf v G f) S k ≤ 700 := by
  have := wb k hk
  have := Tf_b (G := G) wb f (rmv S (nI k))
  unfold vaV
  omega
theorem mxV_b {v : Wd} {G f p S k : Nat} (wb : ∀ q, q < v.n → v.wo q ≤ 99) (hk : k ≤ v.n) (hf : f ≤ 6) : mxV (Tf v G f S) (vkF v (Tf v G f) p S k) ≤ 700 := by
  have t := Tf_b (G := G) wb f S
  rcases vk_ok (v := v) (T := Tf v G f) (p := p) (S := S) k with ⟨e, _⟩ | ⟨m, a, e, h1, h2, h3, _⟩
  · rw [e]
    show Tf v G f S ≤ _
    omega
  · rw [e]
    have := vaV_b (G := G) (f := f) (S := S) wb (show a < v.n by omega) hf
    show (if Tf v G f S ≤ m then m else Tf v G f S) ≤ _
    split <;> omega
theorem e_wear {v : Wd} {p k : Nat} {h : AH} (F : dC v h) (hp : p < v.n) (hk : k < v.n) : f_X6_canWear 3 (nI p) (h.1 36 k) h = some (zb (fitS v p (v.it k 3)), h) := by
  have := (F.2.2.1 k hk).1
  rw [(F.2.2.2.2.2 k hk).1]
  exact e_X6_canWear F.1 hp (by
    have q : v.it k 3 ≤ 50 := this
    show v.it k 3 < 2 ^ 30
    omega)
theorem e_bestOf {v : Wd} {G D f S : Nat} {h : AH} (F : dC v h) (tb : dTb v G D f h) (hf : f + 1 ≤ v.n) (hS : S < 2 ^ v.n) (sb : sbB S D = true) (hD : D < 64) (hg : G.testBit (v.n - (f + 1)) = true) : f_X3_bestOf 49 (nI (v.n - (f + 1))) (nI (gqF v G f + 1)) (nI S) h = some (nI (Tf v G (f + 1) S), h) := by
  have hn := F.1.1.1
  have h64 := pow_le6 hn
  have gl := gqF_le v G f
  have wb : ∀ q, q < v.n → v.wo q ≤ 99 := fun q hq => (F.2.2.1 q hq).2
  have eT : Tf v G (f + 1) S = mxV (Tf v G f S) (vkF v (Tf v G f) (v.n - (f + 1)) S v.n) := by
    rw [Tf, if_pos hg]
  have ex : ∀ d, vkF v (Tf v G f) (v.n - (f + 1)) S (v.n + d) = vkF v (Tf v G f) (v.n - (f + 1)) S v.n := by
    intro d
    induction d with
    | zero => rfl
    | succ d ih =>
      rw [← Nat.add_assoc, vkF, if_neg, ih]
      unfold vaB
      intro w
      rw [Bool.and_eq_true] at w
      have := tb_lt hS w.1
      omega
  have e6 : Tf v G (f + 1) S = mxV (Tf v G f S) (vkF v (Tf v G f) (v.n - (f + 1)) S 6) := by
    have := ex (6 - v.n)
    rw [show v.n + (6 - v.n) = 6 by omega] at this
    rw [this, eT]
  unfold f_X3_bestOf
  rw [nI_pred, show nI (gqF v G f) * 64 = nI (gqF v G f * 64) from k_mul _ 64, nI_add, rv_49_1, an_50, og_ix (by omega) (by omega), nm_id, nI_clamp (by omega), tb f (Nat.le_refl _) S (by omega) sb, e6]
  refine lp (fun n i (s : Int32) => f_X3_bestOf_18 n 49 (nI (v.n - (f + 1))) (nI (gqF v G f + 1)) (nI S) s (nI i) h = some (nI (mxV (Tf v G f S) (vkF v (Tf v G f) (v.n - (f + 1)) S 6)), h)) (fun i s => s = nI (mxV (Tf v G f S) (vkF v (Tf v G f) (v.n - (f + 1)) S i))) 6 (by decide) ?_ ?_ rfl
  · rintro n s rfl
    rw [f_X3_bestOf_18, if_pos (by decide)]
  · rintro n i s hi rfl K
    have K := K _ rfl
    rw [mxV_s] at K
    rw [f_X3_bestOf_18, if_neg (by rw [show (6 : Int32) = nI 6 from rfl, nI_leI (by decide) (by omega)]; omega), e_X11_isIn, ob_some, inS_tb S (by omega) i hi, zi]
    unfold vaB at K
    cases b : S.testBit i with
    | false =>
      rw [b, Bool.false_and, if_neg (by decide)] at K
      rw [if_neg (by decide), f_X3_bestOf_73, nm_id, nI_1]
      exact K
    | true =>
      have ik := tb_lt hS b
      rw [b, Bool.true_and] at K
      rw [if_pos rfl, rv_49_0, rv_35_2, rv_35_0, an_36, og_ix (by omega) (by omega), nI_clamp (by omega), e_wear F (by omega) ik, ob_some, zi]
      cases c : fitS v (v.n - (f + 1)) (v.it i 3) with
      | false =>
        rw [c, if_neg (by decide)] at K
        rw [if_neg (by decide), f_X3_bestOf_73, nm_id, nI_1]
        exact K
      | true =>
        rw [c, if_pos rfl] at K
        have mb := mxV_b (G := G) (f := f) (p := v.n - (f + 1)) (S := S) (k := i) wb (by omega) (by omega)
        have vb := vaV_b (G := G) (f := f) (S := S) wb ik (by omega)
        rw [if_pos rfl, e_worthW F tb (by omega) ik (by omega) sb hD, ob_some, nm_id, f_X3_bestOf_73, nm_id, nI_1]
        by_cases d : mxV (Tf v G f S) (vkF v (Tf v G f) (v.n - (f + 1)) S i) < vaV v (Tf v G f) S i
        · rw [if_pos d] at K
          rw [if_pos (show nI _ < nI _ from nI_lt d (by omega))]
          exact K
        · rw [if_neg d] at K
          rw [if_neg (show ¬ nI _ < nI _ from nI_nlt (by omega) (by omega))]
          exact K
theorem dC_50 {v : Wd} {h : AH} {j : Nat} {x : Int32} (F : dC v h) : dC v (sI h 50 j x) := cF_eq (agr_on (W := (50, 1000) :: []) (agr_sI (agr_refl h) rfl) rfl) F
theorem e_great25 {v : Wd} {G D f : Nat} {h : AH} (q : Nat → Int32 → Int32 → Int32 → Int32 → AH → Option (Int32 × AH)) (F : dC v h) (tb : dTb v G D f h) (hf : f + 1 ≤ v.n) (hD : D < 2 ^ v.n) (hg : G.testBit (v.n - (f + 1)) = true) : ∃ h', f_X3_greatest_25 q FU 49 (nI D) (nI G) (nI (gqF v G f + 1)) (nI (v.n - (f + 1))) 0 h = q 49 (nI D) (nI G) (nI (gqF v G f + 1)) (nI (v.n - (f + 1)) - 1) h' ∧ dC v h' ∧ dTb v G D (f + 1) h' ∧ ∀ j, j < 64 → h'.1 50 j = h.1 50 j := by
  have hn := F.1.1.1
  have h64 := pow_le6 hn
  have gl := gqF_le v G f
  have g1 : gqF v G (f + 1) = gqF v G f + 1 := by rw [gqF, if_pos hg]
  refine lp (fun n i s => ∃ h', f_X3_greatest_25 q n 49 (nI D) (nI G) (nI (gqF v G f + 1)) (nI (v.n - (f + 1))) (nI i) s = q 49 (nI D) (nI G) (nI (gqF v G f + 1)) (nI (v.n - (f + 1)) - 1) h' ∧ dC v h' ∧ dTb v G D (f + 1) h' ∧ ∀ j, j < 64 → h'.1 50 j = h.1 50 j) (fun i s => dC v s ∧ dTb v G D f s ∧ (∀ S, S < i → sbB S D = true → s.1 50 ((gqF v G f + 1) * 64 + S) = nI (Tf v G (f + 1) S)) ∧ ∀ j, j < 64 → s.1 50 j = h.1 50 j) (D + 1) (by omega) ?_ ?_ ⟨F, tb, fun S hS => absurd hS (by omega), fun _ _ => rfl⟩
  · rintro n s ⟨F, tb, s1, s2⟩
    rw [f_X3_greatest_25, if_pos (show nI D < nI (D + 1) from nI_lt (by omega) (by omega)), f_X3_greatest_67, nm_id, m1_e]
    refine ⟨s, rfl, F, fun g hg' S hS sb => ?_, s2⟩
    by_cases e : g = f + 1
    · rw [e, g1]
      exact s1 S (by have := (sb_i hS (show D < 64 by omega) sb).1; omega) sb
    · exact tb g (by omega) S hS sb
  · rintro n i s hi ⟨F, tb, s1, s2⟩ K
    rw [f_X3_greatest_25, if_neg (show ¬ nI D < nI i from nI_nlt (by omega) (by omega))]
    have si := sb_1 i (by omega) D (by omega)
    cases c : sbB i D with
    | false =>
      rw [if_neg (fun w => by rw [si.mp w] at c; cases c), f_X3_greatest_61, nm_id, nI_1]
      refine K s ⟨F, tb, fun S hS sb => ?_, s2⟩
      by_cases e : S = i
      · rw [e, c] at sb
        cases sb
      · exact s1 S (by omega) sb
    | true =>
      rw [if_pos (si.mpr c), e_bestOf F tb hf (by omega) c (by omega) hg, ob_some, show nI (gqF v G f + 1) * 64 = nI ((gqF v G f + 1) * 64) from k_mul _ 64, nI_add, rv_49_1, an_50, og_ix (by omega) (by omega), nm_id, nI_clamp (by omega), f_X3_greatest_61, nm_id, nI_1]
      refine K _ ⟨dC_50 F, fun g hg' S hS sb => ?_, fun S hS sb => ?_, fun j hj => ?_⟩
      · have := gqF_mono v G f g hg'
        rw [sI_n (Or.inr (by omega))]
        exact tb g hg' S hS sb
      · by_cases e : S = i
        · subst e
          exact sI_s ..
        · rw [sI_n (Or.inr (by omega))]
          exact s1 S (by omega) sb
      · rw [sI_n (Or.inr (by omega))]
        exact s2 j hj
