/-- the class's table -/
def gqF (v : Wd) (G : Nat) : Nat → Nat
  | 0 => 0
  | f + 1 => if G.testBit (v.n - (f + 1)) = true then gqF v G f + 1 else gqF v G f
theorem gqF_le (v : Wd) (G : Nat) : ∀ f, gqF v G f ≤ f := by
  intro f
  induction f with
  | zero => exact Nat.le_refl _
  | succ f ih =>
    rw [gqF]
    split <;> omega
theorem gqF_mono (v : Wd) (G : Nat) : ∀ f g, g ≤ f → gqF v G g ≤ gqF v G f := by
  intro f
  induction f with
  | zero =>
    intro g hg
    have : g = 0 := by omega
    rw [this]
    exact Nat.le_refl _
  | succ f ih =>
    intro g hg
    by_cases e : g = f + 1
    · rw [e]
      exact Nat.le_refl _
    · have := ih g (by omega)
      rw [gqF]
      split <;> omega
def sbB (S D : Nat) : Bool := Nat.beq (S &&& D) S
theorem sb_1 : ∀ S, S < 64 → ∀ D, D < 64 → (nI S &&& (nI D ^^^ (-1)) = 0 ↔ sbB S D = true) := by decide +kernel
theorem sb_tb {S D : Nat} (h : sbB S D = true) {i : Nat} (b : S.testBit i = true) : D.testBit i = true := by
  have e := Nat.eq_of_beq_eq_true h
  rw [← e, Nat.testBit_and, Bool.and_eq_true] at b
  exact b.2
theorem sb_i {S : Nat} (hS : S < 64) {D : Nat} (_ : D < 64) (h : sbB S D = true) : S ≤ D ∧ ∀ k, k < 6 → sbB (rmv S (nI k)) D = true := by
  have e := Nat.eq_of_beq_eq_true h
  refine ⟨by rw [← e]; exact Nat.and_le_right, fun k hk => ?_⟩
  have ra := (rmv_all S hS k hk).2
  unfold sbB
  have : rmv S (nI k) &&& D = rmv S (nI k) := by
    apply Nat.eq_of_testBit_eq
    intro i
    rw [Nat.testBit_and]
    cases b : (rmv S (nI k)).testBit i with
    | false => rfl
    | true =>
      have i6 : i < 6 := tb_lt (n := 6) (show rmv S (nI k) < 2 ^ 6 by omega) b
      rw [rmv_tb S hS k hk i i6, Bool.and_eq_true] at b
      rw [sb_tb h b.1]
      rfl
  rw [this]
  exact Nat.beq_refl _
def dTb (v : Wd) (G D f : Nat) (h : AH) : Prop := ∀ g, g ≤ f → ∀ S, S < 64 → sbB S D = true → h.1 50 (gqF v G g * 64 + S) = nI (Tf v G g S)
def dC (v : Wd) (h : AH) : Prop := cF v (fun q => v.it q 3) v.wo h
