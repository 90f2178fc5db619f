/-! an evening -/
def evD (v : Wd) (u G : Nat) : Nat := door v u G
def evT (v : Wd) (u G : Nat) (row : Nat → Nat) (j : Nat) : Int32 := tkS v (fun q => v.it q 3) v.wo row (door v u G) j
def fT (t : Nat → Int32) (q : Nat) : Nat → Option Nat
  | 0 => none
  | k + 1 => if t k = nI q then some k else fT t q k
theorem fT_none {t : Nat → Int32} {q : Nat} : ∀ m, fT t q m = none → ∀ j, j < m → t j ≠ nI q := by
  intro m
  induction m with
  | zero => intro _ j hj; omega
  | succ m ih =>
    intro h j hj
    rw [fT] at h
    by_cases c : t m = nI q
    · rw [if_pos c] at h
      cases h
    · rw [if_neg c] at h
      by_cases e : j = m
      · subst e
        exact c
      · exact ih h j (by omega)
theorem fT_some {t : Nat → Int32} {q j : Nat} : ∀ m, fT t q m = some j → j < m ∧ t j = nI q := by
  intro m
  induction m with
  | zero => intro h; cases h
  | succ m ih =>
    intro h
    rw [fT] at h
    by_cases c : t m = nI q
    · rw [if_pos c] at h
      cases h
      exact ⟨by omega, c⟩
    · rw [if_neg c] at h
      have := ih h
      exact ⟨by omega, this.2⟩
theorem stS_mono {v : Wd} {sz wo : Nat → Nat} {row : Nat → Nat} {D : Nat} (hn : v.n ≤ 6) (hD : D < 2 ^ v.n) {q : Nat} (hq : q < 6) : ∀ j i, i ≤ j → (stS v sz wo row D j).testBit q = true → (stS v sz wo row D i).testBit q = true := by
  have h64 := pow_le6 hn
  intro j
  induction j with
  | zero =>
    intro i hi h
    have : i = 0 := by omega
    subst this
    exact h
  | succ j ih =>
    intro i hi h
    by_cases e : i = j + 1
    · subst e
      exact h
    · refine ih i (by omega) ?_
      have sl := stS_le (sz := sz) (wo := wo) (row := row) hn hD j
      rw [stS] at h
      rcases pk_c (v := v) (sz := sz) (wo := wo) (row j) (stS v sz wo row D j) with a | ⟨k, hk, a, _⟩
      · rw [a, rmv_m1] at h
        exact h
      · rw [a, rmv_tb _ (by omega) k (by omega) q hq, Bool.and_eq_true] at h
        exact h.1
theorem tk_in {v : Wd} {sz wo : Nat → Nat} {row : Nat → Nat} {D j q : Nat} (hn : v.n ≤ 6) (hq : q < 6) (e : tkS v sz wo row D j = nI q) : q < v.n ∧ (stS v sz wo row D j).testBit q = true := by
  unfold tkS at e
  rcases pk_c (v := v) (sz := sz) (wo := wo) (row j) (stS v sz wo row D j) with a | ⟨k, hk, a, b⟩
  · rw [a] at e
    have : (nI q = -1) = False := n_m1 (by omega)
    rw [← e] at this
    simp at this
  · rw [a, nI_eq (by omega) (by omega)] at e
    rw [← e]
    exact ⟨hk, b⟩
theorem tk_gone {v : Wd} {sz wo : Nat → Nat} {row : Nat → Nat} {D j q : Nat} (hn : v.n ≤ 6) (hD : D < 2 ^ v.n) (hq : q < 6) (e : tkS v sz wo row D j = nI q) : (stS v sz wo row D (j + 1)).testBit q = false := by
  have h64 := pow_le6 hn
  have sl := stS_le (sz := sz) (wo := wo) (row := row) hn hD j
  have : pk v sz wo (row j) (stS v sz wo row D j) = nI q := e
  rw [stS, this, rmv_tb _ (by omega) q hq q hq]
  simp
theorem tk_uniq {v : Wd} {sz wo : Nat → Nat} {row : Nat → Nat} {D i j q : Nat} (hn : v.n ≤ 6) (hD : D < 2 ^ v.n) (hq : q < 6) (e1 : tkS v sz wo row D i = nI q) (e2 : tkS v sz wo row D j = nI q) : i = j := by
  have a : ∀ i j, tkS v sz wo row D i = nI q → tkS v sz wo row D j = nI q → ¬ i < j := by
    intro i j e1 e2 l
    have b := (tk_in hn hq e2).2
    have c := tk_gone hn hD hq e1
    rw [stS_mono hn hD hq j (i + 1) (by omega) b] at c
    cases c
  have := a i j e1 e2
  have := a j i e2 e1
  omega
theorem left_in {v : Wd} {sz wo : Nat → Nat} {row : Nat → Nat} {D q : Nat} (hn : v.n ≤ 6) (hD : D < 2 ^ v.n) (hq : q < 6) : ∀ m, (∀ j, j < m → tkS v sz wo row D j ≠ nI q) → (stS v sz wo row D m).testBit q = D.testBit q := by
  have h64 := pow_le6 hn
  intro m
  induction m with
  | zero => intro _; rfl
  | succ m ih =>
    intro h
    rw [← ih (fun j hj => h j (by omega))]
    have sl := stS_le (sz := sz) (wo := wo) (row := row) hn hD m
    have hm := h m (by omega)
    unfold tkS at hm
    rw [stS]
    rcases pk_c (v := v) (sz := sz) (wo := wo) (row m) (stS v sz wo row D m) with a | ⟨k, hk, a, _⟩
    · rw [a, rmv_m1]
    · rw [a] at hm
      rw [a, rmv_tb _ (by omega) k (by omega) q hq]
      have : Nat.beq q k = false := by
        cases w : Nat.beq q k with
        | false => rfl
        | true => exact absurd (by rw [Nat.eq_of_beq_eq_true w]) hm
      rw [this]
      simp
def evS (v : Wd) (u G : Nat) (row : Nat → Nat) : Wd :=
  mkW v.L v.n v.rc (if v.E = 30 then 30 else v.E + 1) v.S v.tx v.it v.ro
    (fun p => if G.testBit p = true then evT v u G row (fnd row p (pc G)) else v.has p)
    (fun q => match fT (evT v u G row) q (pc G) with
      | some j => nI (row j)
      | none => if (door v u G).testBit q = true then nI (10 + u) else v.pl q)
    (fun q => match fT (evT v u G row) q (pc G) with
      | some j => v.wo q - v.it (row j) 5
      | none => v.wo q)
    v.cl v.co
    (fun e q => if e = v.E then (match fT (evT v u G row) q (pc G) with
      | some j => nI (row j)
      | none => if (door v u G).testBit q = true then nI (10 + u) else v.pl q) else v.di e q)
    v.se v.sw v.ss v.im v.kE v.kS v.kh v.kp v.kw
theorem evS_pl1 {v : Wd} {u G : Nat} {row : Nat → Nat} {j q : Nat} (hn : v.n ≤ 6) (hq : q < 6) (hj : j < pc G) (e : evT v u G row j = nI q) : (evS v u G row).pl q = nI (row j) ∧ (evS v u G row).wo q = v.wo q - v.it (row j) 5 := by
  show (match fT (evT v u G row) q (pc G) with
      | some j => nI (row j)
      | none => if (door v u G).testBit q = true then nI (10 + u) else v.pl q) = _ ∧ (match fT (evT v u G row) q (pc G) with
      | some j => v.wo q - v.it (row j) 5
      | none => v.wo q) = _
  cases c : fT (evT v u G row) q (pc G) with
  | none => exact absurd e (fT_none _ c j hj)
  | some i =>
    have ei : i = j := tk_uniq hn (door_lt v u G) hq (fT_some _ c).2 e
    subst ei
    exact ⟨rfl, rfl⟩
theorem evS_pl0 {v : Wd} {u G : Nat} {row : Nat → Nat} {q : Nat} (h : ∀ j, j < pc G → evT v u G row j ≠ nI q) : (evS v u G row).pl q = (if (door v u G).testBit q = true then nI (10 + u) else v.pl q) ∧ (evS v u G row).wo q = v.wo q := by
  show (match fT (evT v u G row) q (pc G) with
      | some j => nI (row j)
      | none => if (door v u G).testBit q = true then nI (10 + u) else v.pl q) = _ ∧ (match fT (evT v u G row) q (pc G) with
      | some j => v.wo q - v.it (row j) 5
      | none => v.wo q) = _
  cases c : fT (evT v u G row) q (pc G) with
  | none => exact ⟨rfl, rfl⟩
  | some i => exact absurd (fT_some _ c).2 (h i (fT_some _ c).1)
theorem evS_has1 {v : Wd} {u G : Nat} {row : Nat → Nat} {j : Nat} (r : gRow v.n G row) (hj : j < pc G) : (evS v u G row).has (row j) = evT v u G row j := by
  show (if G.testBit (row j) = true then evT v u G row (fnd row (row j) (pc G)) else v.has (row j)) = _
  rw [if_pos (r.2.1 j hj), fnd_j (pc G) j hj rfl (fun i hi e => r.1.2.2 i j hi hj e)]
theorem evS_has0 {v : Wd} {u G : Nat} {row : Nat → Nat} {p : Nat} (h : ¬ G.testBit p = true) : (evS v u G row).has p = v.has p := if_neg h
theorem door_tb {v : Wd} {u G q : Nat} (hn : v.n ≤ 6) (hG : G < 64) (so : SOk v.n v.has v.pl v.wo) (hu : u < 4) (hq : q < v.n) : ((door v u G).testBit q = true ↔ ((∃ p, p < v.n ∧ v.pl q = nI p ∧ G.testBit p = true) ∨ v.pl q = nI (10 + u))) := by
  unfold door
  rw [zoB_tb, decide_eq_true hq, Bool.true_and]
  unfold bq
  rcases so.2.1 q hq with ⟨p, hp, e, _⟩ | ⟨w, hw, e⟩
  · rw [e, decide_eq_false (by rw [nI_eq (by omega) (by omega)]; omega), decide_eq_true (show nI p < 10 by rw [show (10 : Int32) = nI 10 from rfl, nI_ltI (by omega) (by decide)]; omega), Bool.false_or, Bool.true_and, inS_tb G hG p (by omega)]
    constructor
    · intro b
      exact Or.inl ⟨p, hp, rfl, b⟩
    · rintro (⟨p', hp', e', b⟩ | e')
      · rw [nI_eq (by omega) (by omega)] at e'
        rw [e']
        exact b
      · rw [nI_eq (by omega) (by omega)] at e'
        omega
  · rw [e, decide_eq_false (show ¬ nI (10 + w) < 10 by rw [show (10 : Int32) = nI 10 from rfl, nI_ltI (by omega) (by decide)]; omega), Bool.false_and, Bool.or_false, decide_eq_true_eq]
    constructor
    · exact fun b => Or.inr b
    · rintro (⟨p', hp', e', b⟩ | e')
      · rw [nI_eq (by omega) (by omega)] at e'
        omega
      · exact e'
theorem evS_so {v : Wd} {u G : Nat} {row : Nat → Nat} (hn : v.n ≤ 6) (hG : G < 64) (so : SOk v.n v.has v.pl v.wo) (hu : u < 4) (r : gRow v.n G row) : SOk (evS v u G row).n (evS v u G row).has (evS v u G row).pl (evS v u G row).wo := by
  have unt : ∀ q, q < v.n → ¬ (door v u G).testBit q = true → ∀ j, j < pc G → evT v u G row j ≠ nI q := by
    intro q hq hd j hj e
    have := (tk_in hn (by omega) e).2
    exact hd (stS_mono hn (door_lt v u G) (by omega) j 0 (by omega) this)
  refine ⟨fun p hp => ?_, fun q hq => ?_, fun q hq => ?_⟩
  · have hp : p < v.n := hp
    by_cases c : G.testBit p = true
    · obtain ⟨j, hj, rfl⟩ := r.2.2 p c
      rw [evS_has1 r hj]
      rcases pk_c (v := v) (sz := fun q => v.it q 3) (wo := v.wo) (row j) (stS v (fun q => v.it q 3) v.wo row (door v u G) j) with a | ⟨q, hq, a, _⟩
      · exact Or.inl a
      · exact Or.inr ⟨q, hq, a, (evS_pl1 hn (by omega) hj a).1⟩
    · rw [evS_has0 c]
      rcases so.1 p hp with a | ⟨q, hq, a, b⟩
      · exact Or.inl a
      · have nd : ¬ (door v u G).testBit q = true := by
          rw [door_tb hn hG so hu hq, b]
          rintro (⟨p', hp', e, t⟩ | e)
          · rw [nI_eq (by omega) (by omega)] at e
            rw [e] at c
            exact c t
          · rw [nI_eq (by omega) (by omega)] at e
            omega
        refine Or.inr ⟨q, hq, a, ?_⟩
        rw [(evS_pl0 (unt q hq nd)).1, if_neg nd]
        exact b
  · have hq : q < v.n := hq
    cases c : fT (evT v u G row) q (pc G) with
    | some j =>
      obtain ⟨hj, e⟩ := fT_some _ c
      exact Or.inl ⟨row j, r.1.2.1 j hj, (evS_pl1 hn (by omega) hj e).1, by rw [evS_has1 r hj]; exact e⟩
    | none =>
      rw [(evS_pl0 (fT_none _ c)).1]
      by_cases d : (door v u G).testBit q = true
      · rw [if_pos d]
        exact Or.inr ⟨u, hu, rfl⟩
      · rw [if_neg d]
        rcases so.2.1 q hq with ⟨p, hp, a, b⟩ | a
        · refine Or.inl ⟨p, hp, a, ?_⟩
          rw [evS_has0]
          · exact b
          · intro t
            exact d ((door_tb hn hG so hu hq).mpr (Or.inl ⟨p, hp, a, t⟩))
        · exact Or.inr a
  · have hq : q < v.n := hq
    have := so.2.2 q hq
    cases c : fT (evT v u G row) q (pc G) with
    | some j =>
      obtain ⟨hj, e⟩ := fT_some _ c
      rw [(evS_pl1 hn (by omega) hj e).2]
      omega
    | none =>
      rw [(evS_pl0 (fT_none _ c)).2]
      exact this
/-- who has gone: a, b, c are who has what, where each pair is, its worth -/
def Ph (v : Wd) (u G : Nat) (row : Nat → Nat) (base : Nat → Int32) (P : Nat → Prop) (a b c : Nat → Int32) : Prop :=
  (∀ j, j < pc G → P j → a (row j) = evT v u G row j) ∧ (∀ p, p < v.n → (∀ j, j < pc G → P j → row j ≠ p) → a p = v.has p) ∧ (∀ j, j < pc G → P j → ∀ q, q < 6 → evT v u G row j = nI q → b q = nI (row j) ∧ c q = nI (v.wo q - v.it (row j) 5)) ∧ (∀ q, q < 6 → (∀ j, j < pc G → P j → evT v u G row j ≠ nI q) → b q = base q) ∧ ∀ q, q < v.n → (∀ j, j < pc G → P j → evT v u G row j ≠ nI q) → c q = nI (v.wo q)
theorem Ph_cong {v : Wd} {u G : Nat} {row : Nat → Nat} {base : Nat → Int32} {P P' : Nat → Prop} {a b c : Nat → Int32} (e : ∀ j, j < pc G → (P j ↔ P' j)) (h : Ph v u G row base P a b c) : Ph v u G row base P' a b c := by
  obtain ⟨h1, h2, h3, h4, h5⟩ := h
  exact ⟨fun j hj q => h1 j hj ((e j hj).mpr q), fun p hp q => h2 p hp (fun j hj w => q j hj ((e j hj).mp w)), fun j hj q => h3 j hj ((e j hj).mpr q), fun p hp q => h4 p hp (fun j hj w => q j hj ((e j hj).mp w)), fun p hp q => h5 p hp (fun j hj w => q j hj ((e j hj).mp w))⟩
theorem max_sub {a b : Nat} (ha : a < 2 ^ 30) (hb : b < 2 ^ 30) : (if 0 < nI a - nI b then nI a - nI b else 0) = nI (a - b) := by
  have e : (nI a - nI b).toInt = (a : Int) - b := pk_sub_toInt ha hb
  by_cases c : b ≤ a
  · rw [pk_sub c]
    by_cases d : a = b
    · subst d
      rw [Nat.sub_self]
      rfl
    · rw [if_pos (show (0 : Int32) < nI (a - b) from (show nI 0 < nI (a - b) from nI_lt (by omega) (by omega)))]
  · rw [if_neg (by rw [Int32.lt_iff_toInt_lt, e, show (0 : Int32).toInt = 0 from rfl]; omega), show a - b = 0 by omega]
    rfl
/-- one more has gone, bare -/
theorem Ph_s0 {v : Wd} {u G : Nat} {row : Nat → Nat} {base : Nat → Int32} {P : Nat → Prop} {a b c a' : Nat → Int32} {i : Nat} (hn : v.n ≤ 6) (r : gRow v.n G row) (hi : i < pc G) (h : Ph v u G row base P a b c) (e : evT v u G row i = -1) (ha : ∀ p, a' p = if p = row i then -1 else a p) : Ph v u G row base (fun j => P j ∨ j = i) a' b c := by
  obtain ⟨h1, h2, h3, h4, h5⟩ := h
  refine ⟨fun j hj q => ?_, fun p hp q => ?_, fun j hj q k hk ek => ?_, fun k hk q => h4 k hk (fun j hj w => q j hj (Or.inl w)), fun k hk q => h5 k hk (fun j hj w => q j hj (Or.inl w))⟩
  · rw [ha]
    by_cases c : row j = row i
    · have := r.1.2.2 j i hj hi c
      rw [if_pos c, this, e]
    · rw [if_neg c]
      rcases q with q | q
      · exact h1 j hj q
      · exact absurd (by rw [q]) c
  · rw [ha, if_neg (fun w => q i hi (Or.inr rfl) w.symm)]
    exact h2 p hp (fun j hj w => q j hj (Or.inl w))
  · rcases q with q | q
    · exact h3 j hj q k hk ek
    · rw [q, e] at ek
      have : (nI k = -1) = False := n_m1 (by omega)
      rw [← ek] at this
      simp at this
theorem Ph_s1 {v : Wd} {u G : Nat} {row : Nat → Nat} {base : Nat → Int32} {P : Nat → Prop} {a b c a' b' c' : Nat → Int32} {i q0 : Nat} (hn : v.n ≤ 6) (r : gRow v.n G row) (hi : i < pc G) (hP : ¬ P i) (h : Ph v u G row base P a b c) (hq : q0 < v.n) (e : evT v u G row i = nI q0) (ha : ∀ p, a' p = if p = row i then nI q0 else a p) (hb : ∀ q, b' q = if q = q0 then nI (row i) else b q) (hc : ∀ q, c' q = if q = q0 then nI (v.wo q0 - v.it (row i) 5) else c q) : Ph v u G row base (fun j => P j ∨ j = i) a' b' c' := by
  obtain ⟨h1, h2, h3, h4, h5⟩ := h
  refine ⟨fun j hj q => ?_, fun p hp q => ?_, fun j hj q k hk ek => ?_, fun k hk q => ?_, fun k hk q => ?_⟩
  · rw [ha]
    by_cases c : row j = row i
    · have := r.1.2.2 j i hj hi c
      rw [if_pos c, this, e]
    · rw [if_neg c]
      rcases q with q | q
      · exact h1 j hj q
      · exact absurd (by rw [q]) c
  · rw [ha, if_neg (fun w => q i hi (Or.inr rfl) w.symm)]
    exact h2 p hp (fun j hj w => q j hj (Or.inl w))
  · rw [hb, hc]
    by_cases ck : k = q0
    · subst ck
      have := tk_uniq hn (door_lt v u G) hk ek e
      subst this
      rw [if_pos rfl, if_pos rfl]
      exact ⟨rfl, rfl⟩
    · rw [if_neg ck, if_neg ck]
      rcases q with q | q
      · exact h3 j hj q k hk ek
      · rw [q, e, nI_eq (by omega) (by omega)] at ek
        exact absurd ek.symm ck
  · rw [hb, if_neg (fun w => q i hi (Or.inr rfl) (by rw [w]; exact e))]
    exact h4 k hk (fun j hj w => q j hj (Or.inl w))
  · rw [hc, if_neg (fun w => q i hi (Or.inr rfl) (by rw [w]; exact e))]
    exact h5 k hk (fun j hj w => q j hj (Or.inl w))
theorem Ph_end {v : Wd} {u G : Nat} {row : Nat → Nat} {base : Nat → Int32} {a b c : Nat → Int32} (hn : v.n ≤ 6) (r : gRow v.n G row) (h : Ph v u G row base (fun _ => True) a b c) (hb : ∀ q, q < v.n → (∀ j, j < pc G → evT v u G row j ≠ nI q) → base q = if (door v u G).testBit q = true then nI (10 + u) else v.pl q) : ∀ p, p < v.n → a p = (evS v u G row).has p ∧ b p = (evS v u G row).pl p ∧ c p = nI ((evS v u G row).wo p) := by
  obtain ⟨h1, h2, h3, h4, h5⟩ := h
  intro p hp
  refine ⟨?_, ?_⟩
  · by_cases g : G.testBit p = true
    · obtain ⟨j, hj, rfl⟩ := r.2.2 p g
      rw [evS_has1 r hj]
      exact h1 j hj trivial
    · rw [evS_has0 g]
      exact h2 p hp (fun j hj _ w => g (by rw [← w]; exact r.2.1 j hj))
  · cases f : fT (evT v u G row) p (pc G) with
    | some j =>
      obtain ⟨hj, e⟩ := fT_some _ f
      rw [(evS_pl1 hn (by omega) hj e).1, (evS_pl1 hn (by omega) hj e).2]
      exact h3 j hj trivial p (by omega) e
    | none =>
      have nn := fT_none _ f
      rw [(evS_pl0 nn).1, (evS_pl0 nn).2, ← hb p hp nn]
      exact ⟨h4 p (by omega) (fun j hj _ => nn j hj), h5 p hp (fun j hj _ => nn j hj)⟩
