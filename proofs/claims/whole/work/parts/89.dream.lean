/-! dream: what is the greatest -/
def vaB (v : Wd) (p S k : Nat) : Bool := S.testBit k && fitS v p (v.it k 3)
def vaV (v : Wd) (T : Nat → Nat) (S k : Nat) : Nat := v.wo k + T (rmv S (nI k))
def vkF (v : Wd) (T : Nat → Nat) (p S : Nat) : Nat → Option (Nat × Nat)
  | 0 => none
  | k + 1 => if vaB v p S k = true then (match vkF v T p S k with
      | none => some (vaV v T S k, k)
      | some (m, a) => if m < vaV v T S k then some (vaV v T S k, k) else some (m, a)) else vkF v T p S k
def mxV (t : Nat) : Option (Nat × Nat) → Nat
  | none => t
  | some (m, _) => if t ≤ m then m else t
def Tf (v : Wd) (G : Nat) : Nat → Nat → Nat
  | 0, _ => 0
  | f + 1, S => if G.testBit (v.n - (f + 1)) = true then mxV (Tf v G f S) (vkF v (Tf v G f) (v.n - (f + 1)) S v.n) else Tf v G f S
def chV (t : Nat) : Option (Nat × Nat) → Int32
  | none => -1
  | some (m, a) => if t ≤ m then nI a else -1
def chF (v : Wd) (G f S : Nat) : Int32 := if G.testBit (v.n - (f + 1)) = true then chV (Tf v G f S) (vkF v (Tf v G f) (v.n - (f + 1)) S v.n) else -1
def grF (v : Wd) (G : Nat) : Nat → Nat → Nat → Int32
  | 0, _, _ => -1
  | f + 1, S, q => if q = v.n - (f + 1) then chF v G f S else grF v G f (rmv S (chF v G f S)) q
theorem vk_ok {v : Wd} {T : Nat → Nat} {p S : Nat} : ∀ k, (vkF v T p S k = none ∧ ∀ j, j < k → vaB v p S j = false) ∨ ∃ m a, vkF v T p S k = some (m, a) ∧ a < k ∧ vaB v p S a = true ∧ vaV v T S a = m ∧ (∀ j, j < k → vaB v p S j = true → vaV v T S j ≤ m) ∧ ∀ j, j < a → vaB v p S j = true → vaV v T S j < m := by
  intro k
  induction k with
  | zero => exact Or.inl ⟨rfl, fun j hj => absurd hj (by omega)⟩
  | succ k ih =>
    rw [vkF]
    cases hb : vaB v p S k with
    | false =>
      rw [if_neg (by decide)]
      rcases ih with ⟨e, h⟩ | ⟨m, a, e, h1, h2, h3, h4, h5⟩
      · refine Or.inl ⟨e, fun j hj => ?_⟩
        by_cases q : j = k
        · rw [q]
          exact hb
        · exact h j (by omega)
      · refine Or.inr ⟨m, a, e, by omega, h2, h3, fun j hj w => ?_, h5⟩
        by_cases q : j = k
        · rw [q, hb] at w
          cases w
        · exact h4 j (by omega) w
    | true =>
      rw [if_pos rfl]
      rcases ih with ⟨e, h⟩ | ⟨m, a, e, h1, h2, h3, h4, h5⟩
      · rw [e]
        refine Or.inr ⟨_, k, rfl, by omega, hb, rfl, fun j hj w => ?_, fun j hj w => ?_⟩
        · by_cases q : j = k
          · rw [q]
            exact Nat.le_refl _
          · rw [h j (by omega)] at w
            cases w
        · rw [h j hj] at w
          cases w
      · rw [e]
        by_cases c : m < vaV v T S k
        · refine Or.inr ⟨_, k, if_pos c, by omega, hb, rfl, fun j hj w => ?_, fun j hj w => ?_⟩
          · by_cases q : j = k
            · rw [q]
              exact Nat.le_refl _
            · have := h4 j (by omega) w
              omega
          · have := h4 j hj w
            omega
        · refine Or.inr ⟨m, a, if_neg c, by omega, h2, h3, fun j hj w => ?_, h5⟩
          by_cases q : j = k
          · rw [q]
            omega
          · exact h4 j (by omega) w
theorem mxV_s {v : Wd} {T : Nat → Nat} {p S t k : Nat} : mxV t (vkF v T p S (k + 1)) = if vaB v p S k = true then (if mxV t (vkF v T p S k) < vaV v T S k then vaV v T S k else mxV t (vkF v T p S k)) else mxV t (vkF v T p S k) := by
  rw [vkF]
  cases hb : vaB v p S k with
  | false => rfl
  | true =>
    rw [if_pos rfl, if_pos rfl]
    cases vkF v T p S k with
    | none =>
      show (if t ≤ vaV v T S k then vaV v T S k else t) = if t < vaV v T S k then vaV v T S k else t
      by_cases c : t < vaV v T S k
      · rw [if_pos (by omega), if_pos c]
      · rw [if_neg c]
        by_cases d : t ≤ vaV v T S k
        · rw [if_pos d]
          omega
        · rw [if_neg d]
    | some q =>
      obtain ⟨m, a⟩ := q
      show mxV t (if m < vaV v T S k then some (vaV v T S k, k) else some (m, a)) = if (if t ≤ m then m else t) < vaV v T S k then vaV v T S k else (if t ≤ m then m else t)
      by_cases c : m < vaV v T S k
      · rw [if_pos c]
        show (if t ≤ vaV v T S k then vaV v T S k else t) = _
        by_cases d : t ≤ m
        · rw [if_pos d, if_pos c, if_pos (by omega)]
        · rw [if_neg d]
          by_cases e : t < vaV v T S k
          · rw [if_pos e, if_pos (by omega)]
          · rw [if_neg e]
            by_cases d' : t ≤ vaV v T S k
            · rw [if_pos d']
              omega
            · rw [if_neg d']
      · rw [if_neg c]
        show (if t ≤ m then m else t) = _
        by_cases d : t ≤ m
        · rw [if_pos d, if_neg c]
        · rw [if_neg d, if_neg (by omega)]
theorem mxV_ge (t : Nat) (o : Option (Nat × Nat)) : t ≤ mxV t o := by
  cases o with
  | none => exact Nat.le_refl _
  | some q =>
    obtain ⟨m, a⟩ := q
    show t ≤ if t ≤ m then m else t
    split <;> omega
theorem Tf_b {v : Wd} {G : Nat} (wb : ∀ q, q < v.n → v.wo q ≤ 99) : ∀ f S, Tf v G f S ≤ 99 * f := by
  intro f
  induction f with
  | zero => intro S; exact Nat.le_refl _
  | succ f ih =>
    intro S
    have i0 := ih S
    rw [Tf]
    by_cases g : G.testBit (v.n - (f + 1)) = true
    · rw [if_pos g]
      rcases vk_ok (v := v) (T := Tf v G f) (p := v.n - (f + 1)) (S := S) v.n with ⟨e, _⟩ | ⟨m, a, e, h1, h2, h3, _⟩
      · rw [e]
        show Tf v G f S ≤ _
        omega
      · rw [e]
        have := wb a h1
        have := ih (rmv S (nI a))
        unfold vaV at h3
        show (if Tf v G f S ≤ m then m else Tf v G f S) ≤ _
        split <;> omega
    · rw [if_neg g]
      omega
