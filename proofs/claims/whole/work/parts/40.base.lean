/-! which cells a call may write: lists of (cell, place); place 1000: the whole cell; (200, 0): longs; (201, 0): moving references -/
def Wmem (W : List (Nat × Nat)) (k j : Nat) : Bool := W.any (fun c => Nat.beq c.1 k && (Nat.beq c.2 1000 || Nat.beq c.2 j))
def Wsub (A B : List (Nat × Nat)) : Bool := A.all (fun c => Wmem B c.1 c.2)
theorem Wmem_iff {W : List (Nat × Nat)} {k j : Nat} : Wmem W k j = true ↔ ∃ c ∈ W, c.1 = k ∧ (c.2 = 1000 ∨ c.2 = j) := by
  unfold Wmem
  rw [List.any_eq_true]
  constructor
  · rintro ⟨c, hc, h⟩
    rw [Bool.and_eq_true, Bool.or_eq_true] at h
    exact ⟨c, hc, Nat.eq_of_beq_eq_true h.1, h.2.imp Nat.eq_of_beq_eq_true Nat.eq_of_beq_eq_true⟩
  · rintro ⟨c, hc, rfl, h⟩
    refine ⟨c, hc, ?_⟩
    rw [Bool.and_eq_true, Bool.or_eq_true]
    refine ⟨Nat.beq_refl _, ?_⟩
    rcases h with h | h
    · left
      rw [h]
      rfl
    · right
      rw [h]
      exact Nat.beq_refl _
theorem Wsub_mem {A B : List (Nat × Nat)} (h : Wsub A B = true) {k j : Nat} (hb : Wmem B k j = false) : Wmem A k j = false := by
  cases ha : Wmem A k j with
  | false => rfl
  | true =>
    obtain ⟨c, hc, rfl, hj⟩ := Wmem_iff.mp ha
    unfold Wsub at h
    rw [List.all_eq_true] at h
    obtain ⟨d, hd, hk, h2⟩ := Wmem_iff.mp (h c hc)
    have : Wmem B c.1 j = true := Wmem_iff.mpr ⟨d, hd, hk, by
      rcases h2 with h2 | h2
      · exact Or.inl h2
      · rw [h2]
        exact hj⟩
    rw [this] at hb
    cases hb
def Agr (W : List (Nat × Nat)) (h0 h : AH) : Prop := (∀ k j, Wmem W k j = false → h.1 k j = h0.1 k j) ∧ (Wmem W 200 0 = false → h.2.1 = h0.2.1) ∧ (Wmem W 201 0 = false → h.2.2 = h0.2.2)
def Fm {R : Type} (pr : R → AH) (W : List (Nat × Nat)) (h0 : AH) (e : Option R) : Prop := ∀ r, e = some r → Agr W h0 (pr r)
theorem agr_refl {W : List (Nat × Nat)} (h : AH) : Agr W h h := ⟨fun _ _ _ => rfl, fun _ => rfl, fun _ => rfl⟩
theorem agr_tr {W W' : List (Nat × Nat)} {a b c : AH} (h1 : Agr W a b) (h2 : Agr W' b c) (hs : Wsub W' W = true) : Agr W a c :=
  ⟨fun k j h => (h2.1 k j (Wsub_mem hs h)).trans (h1.1 k j h), fun h => (h2.2.1 (Wsub_mem hs h)).trans (h1.2.1 h), fun h => (h2.2.2 (Wsub_mem hs h)).trans (h1.2.2 h)⟩
theorem agr_up {W W' : List (Nat × Nat)} {b c : AH} (h2 : Agr W' b c) (hs : Wsub W' W = true) : Agr W b c := agr_tr (agr_refl b) h2 hs
theorem agr_sI {W : List (Nat × Nat)} {h0 h : AH} {k j : Nat} {v : Int32} (ha : Agr W h0 h) (hw : Wmem W k j = true) : Agr W h0 (sI h k j v) := by
  refine ⟨fun a b hf => ?_, ha.2.1, ha.2.2⟩
  show (if a = k then (if b = j then v else h.1 a b) else h.1 a b) = _
  by_cases e1 : a = k
  · by_cases e2 : b = j
    · subst e1 e2
      rw [hw] at hf
      cases hf
    · rw [if_pos e1, if_neg e2]
      exact ha.1 a b hf
  · rw [if_neg e1]
    exact ha.1 a b hf
theorem agr_sA {W : List (Nat × Nat)} {h0 h : AH} {k : Nat} {f : Nat → Int32} (ha : Agr W h0 h) (hw : ∀ j, Wmem W k j = true) : Agr W h0 (sA h k f) := by
  refine ⟨fun a b hf => ?_, ha.2.1, ha.2.2⟩
  show (if a = k then f b else h.1 a b) = _
  by_cases e1 : a = k
  · subst e1
    rw [hw b] at hf
    cases hf
  · rw [if_neg e1]
    exact ha.1 a b hf
theorem agr_sL {W : List (Nat × Nat)} {h0 h : AH} {k : Nat} {v : Int64} (ha : Agr W h0 h) (hw : Wmem W 200 0 = true) : Agr W h0 (sL h k v) :=
  ⟨ha.1, fun hf => absurd (hw.symm.trans hf) (by decide), ha.2.2⟩
theorem agr_sR {W : List (Nat × Nat)} {h0 h : AH} {k r : Nat} (ha : Agr W h0 h) (hw : Wmem W 201 0 = true) : Agr W h0 (sR h k r) :=
  ⟨ha.1, ha.2.1, fun hf => absurd (hw.symm.trans hf) (by decide)⟩
theorem fm_some {R : Type} {pr : R → AH} {W : List (Nat × Nat)} {h0 : AH} {r : R} (h : Agr W h0 (pr r)) : Fm pr W h0 (some r) := by
  intro r' e
  cases e
  exact h
theorem fm_none {R : Type} {pr : R → AH} {W : List (Nat × Nat)} {h0 : AH} : Fm pr W h0 none := by
  intro r' e
  cases e
theorem fm_og {R : Type} {pr : R → AH} {W : List (Nat × Nat)} {h0 : AH} {b : Bool} {k : Option R} (h : b = true → Fm pr W h0 k) : Fm pr W h0 (og b k) := by
  intro r e
  obtain ⟨e1, e2⟩ := og_s e
  exact h e1 r e2
theorem fm_nm {R α : Type} {pr : R → AH} {W : List (Nat × Nat)} {h0 : AH} {e : α} {k : α → Option R} (h : ∀ x, Fm pr W h0 (k x)) : Fm pr W h0 (nm e k) := h e
theorem fm_nh {R : Type} {pr : R → AH} {W : List (Nat × Nat)} {h0 : AH} {e : AH} {k : AH → Option R} (ha : Agr W h0 e) (h : ∀ x, Agr W h0 x → Fm pr W h0 (k x)) : Fm pr W h0 (nm e k) := h e ha
theorem fm_ite {R : Type} {pr : R → AH} {W : List (Nat × Nat)} {h0 : AH} {c : Prop} [Decidable c] {a b : Option R} (h1 : Fm pr W h0 a) (h2 : Fm pr W h0 b) : Fm pr W h0 (if c then a else b) := by
  by_cases h : c
  · rw [if_pos h]
    exact h1
  · rw [if_neg h]
    exact h2
theorem fm_obi {R : Type} {pr : R → AH} {W : List (Nat × Nat)} {h0 : AH} {e : Option (Int32 × AH)} {k : Int32 → AH → Option R} (he : Fm Prod.snd W h0 e) (hk : ∀ r h, Agr W h0 h → Fm pr W h0 (k r h)) : Fm pr W h0 (ob e k) := by
  intro r er
  obtain ⟨x, u, e1, e2⟩ := ob_s er
  exact hk x u (he _ e1) r e2
theorem fm_ovi {R : Type} {pr : R → AH} {W : List (Nat × Nat)} {h0 : AH} {e : Option AH} {k : AH → Option R} (he : Fm id W h0 e) (hk : ∀ h, Agr W h0 h → Fm pr W h0 (k h)) : Fm pr W h0 (ov e k) := by
  intro r er
  obtain ⟨u, e1, e2⟩ := ov_s er
  exact hk u (he _ e1) r e2
theorem fm_tl {R : Type} {pr : R → AH} {W W' : List (Nat × Nat)} {h0 h : AH} {e : Option R} (he : Fm pr W' h e) (hs : Wsub W' W = true) (ha : Agr W h0 h) : Fm pr W h0 e := fun r er => agr_tr ha (he r er) hs
theorem fm_ob {R : Type} {pr : R → AH} {W W' : List (Nat × Nat)} {h0 h : AH} {e : Option (Int32 × AH)} {k : Int32 → AH → Option R} (he : Fm Prod.snd W' h e) (hs : Wsub W' W = true) (ha : Agr W h0 h) (hk : ∀ r h, Agr W h0 h → Fm pr W h0 (k r h)) : Fm pr W h0 (ob e k) := fm_obi (fm_tl he hs ha) hk
theorem fm_ov {R : Type} {pr : R → AH} {W W' : List (Nat × Nat)} {h0 h : AH} {e : Option AH} {k : AH → Option R} (he : Fm id W' h e) (hs : Wsub W' W = true) (ha : Agr W h0 h) (hk : ∀ h, Agr W h0 h → Fm pr W h0 (k h)) : Fm pr W h0 (ov e k) := fm_ovi (fm_tl he hs ha) hk
theorem agr_cell {W : List (Nat × Nat)} {h0 h : AH} (ha : Agr W h0 h) (k : Nat) (hw : (W.all (fun c => !(Nat.beq c.1 k))) = true) : h.1 k = h0.1 k := by
  funext j
  refine ha.1 k j ?_
  cases hc : Wmem W k j with
  | false => rfl
  | true =>
    obtain ⟨c, hc1, rfl, _⟩ := Wmem_iff.mp hc
    rw [List.all_eq_true] at hw
    have := hw c hc1
    rw [Nat.beq_refl] at this
    cases this
