/-! the next order -/
def lowF (row : Nat → Nat) : Nat → Nat
  | 0 => 0
  | k + 1 => if row k ≤ row (k + 1) then k + 1 else lowF row k
def highF (row : Nat → Nat) (l : Nat) : Nat → Nat
  | 0 => 0
  | x + 1 => if x + 1 ≤ l ∨ row l ≤ row (x + 1) then x + 1 else highF row l x
def revF : Nat → (Nat → Nat) → Nat → Nat → Nat → Nat
  | 0, row, _, _ => row
  | f + 1, row, a, b => if a ≤ b then row else revF f (swp row b a) (a - 1) (b + 1)
def advF (row : Nat → Nat) (m : Nat) : Nat × (Nat → Nat) := if lowF row (m - 1) = 0 then (m, row) else (lowF row (m - 1) - 1, revF 6 (swp row (lowF row (m - 1) - 1) (highF row (lowF row (m - 1) - 1) (m - 1))) (m - 1) (lowF row (m - 1)))
theorem lowF_le (row : Nat → Nat) : ∀ k, lowF row k ≤ k := by
  intro k
  induction k with
  | zero => exact Nat.le_refl _
  | succ k ih =>
    rw [lowF]
    split <;> omega
theorem highF_b {row : Nat → Nat} {l : Nat} : ∀ x, l ≤ x → l ≤ highF row l x ∧ highF row l x ≤ x := by
  intro x
  induction x with
  | zero => intro h; rw [highF]; omega
  | succ x ih =>
    intro h
    rw [highF]
    split
    · omega
    · rename_i c
      have := ih (by omega)
      omega
theorem e_adv7 {row : Nat → Nat} {m n : Nat} {h : AH} (c : cRw row m h) (ro : rOk n row m) (hn : n ≤ 6) : ∀ f k, k + 1 ≤ m → k < f → f_X5_advance_7 f 41 (nI k - 1) h = f_X5_advance_34 41 (nI (lowF row k) - 1) h := by
  have m6 := ro.1
  intro f
  induction f with
  | zero => intro k _ q; omega
  | succ f ih =>
    intro k hk hf
    rw [f_X5_advance_7]
    cases k with
    | zero =>
      rw [if_pos (by decide)]
      rfl
    | succ k =>
      have r1 := ro.2.1 k (by omega)
      have r2 := ro.2.1 (k + 1) (by omega)
      rw [nI_pred, if_neg (nI_pos (by omega)), nI_1, rv_41_1, an_42, og_ix (by omega) (by omega), og_ix (by omega) (by omega), nI_clamp (by omega), nI_clamp (by omega), c.2 k (by omega), c.2 (k + 1) (by omega), lowF]
      by_cases d : row k ≤ row (k + 1)
      · rw [if_pos (show nI (row k) ≤ nI (row (k + 1)) by rw [nI_leI (by omega) (by omega)]; exact d), if_pos d, nI_pred]
      · rw [if_neg (show ¬ nI (row k) ≤ nI (row (k + 1)) by rw [nI_leI (by omega) (by omega)]; exact d), if_neg d, nm_id, m1_e]
        exact ih k (by omega) (by omega)
theorem e_adv50 {row : Nat → Nat} {m n l : Nat} {h : AH} (c : cRw row m h) (ro : rOk n row m) (hn : n ≤ 6) (hl : l < m) : ∀ f x, l ≤ x → x < m → x < f → f_X5_advance_50 f 41 (nI l) (nI x) h = f_X5_advance_76 41 (nI l) (nI (highF row l x)) h := by
  have m6 := ro.1
  intro f
  induction f with
  | zero => intro x _ _ q; omega
  | succ f ih =>
    intro x h1 h2 hf
    have r1 := ro.2.1 l hl
    have r2 := ro.2.1 x h2
    rw [f_X5_advance_50]
    by_cases d : x ≤ l
    · rw [if_pos (show nI x ≤ nI l by rw [nI_leI (by omega) (by omega)]; exact d)]
      cases x with
      | zero => rfl
      | succ x => rw [highF, if_pos (Or.inl d)]
    · rw [if_neg (show ¬ nI x ≤ nI l by rw [nI_leI (by omega) (by omega)]; exact d), rv_41_1, an_42, og_ix (by omega) (by omega), og_ix (by omega) (by omega), nI_clamp (by omega), nI_clamp (by omega), c.2 l hl, c.2 x h2]
      cases x with
      | zero => omega
      | succ x =>
        rw [highF]
        by_cases e : row l ≤ row (x + 1)
        · rw [if_pos (show nI (row l) ≤ nI (row (x + 1)) by rw [nI_leI (by omega) (by omega)]; exact e), if_pos (Or.inr e)]
        · rw [if_neg (show ¬ nI (row l) ≤ nI (row (x + 1)) by rw [nI_leI (by omega) (by omega)]; exact e), if_neg (fun w => w.elim d e), nm_id, pk_m1]
          exact ih x (by omega) (by omega) (by omega)
theorem e_adv94 {m : Nat} (m6 : m ≤ 6) (x1 : Int32) : ∀ f k row a b h, cRw row m h → a < m → a ≤ b + k → b ≤ 6 → k < f → ∃ h', f_X5_advance_94 f 41 x1 (nI a) (nI b) h = some (x1, h') ∧ cRw (revF k row a b) m h' := by
  intro f
  induction f with
  | zero => intro k _ _ _ _ _ _ _ _ q; omega
  | succ f ih =>
    intro k row a b h c ha hk hb hf
    rw [f_X5_advance_94]
    by_cases d : a ≤ b
    · rw [if_pos (show nI a ≤ nI b by rw [nI_leI (by omega) (by omega)]; exact d)]
      refine ⟨h, rfl, ?_⟩
      cases k with
      | zero => exact c
      | succ k =>
        rw [revF, if_pos d]
        exact c
    · rw [if_neg (show ¬ nI a ≤ nI b by rw [nI_leI (by omega) (by omega)]; exact d)]
      obtain ⟨h3, e3, c3⟩ := e_exch c m6 (show b < m by omega) ha
      obtain ⟨a', rfl⟩ : ∃ a', a = a' + 1 := ⟨a - 1, by omega⟩
      rw [e3, ov_some, nm_id, nm_id, pk_m1, nI_1]
      cases k with
      | zero => omega
      | succ k =>
        rw [revF, if_neg d, Nat.add_sub_cancel]
        exact ih k _ a' (b + 1) h3 c3 (by omega) (by omega) (by omega) (by omega)
theorem m2_e : ∀ m, m < 7 → nI (m + 1) - 2 = nI m - 1 := by decide +kernel
theorem e_advance {row : Nat → Nat} {m n : Nat} {h : AH} (c : cRw row m h) (ro : rOk n row m) (hn : n ≤ 6) (m0 : 0 < m) : ∃ h', f_X5_advance 41 h = some (nI (advF row m).1, h') ∧ cRw (advF row m).2 m h' := by
  have m6 := ro.1
  obtain ⟨k, rfl⟩ : ∃ k, m = k + 1 := ⟨m - 1, by omega⟩
  unfold f_X5_advance advF
  rw [nm_id, c.1, m2_e k (by omega), e_adv7 c ro hn FU k (by omega) (by unfold FU; omega), Nat.add_sub_cancel]
  have ll := lowF_le row k
  cases hl : lowF row k with
  | zero =>
    rw [if_pos rfl]
    refine ⟨h, ?_, c⟩
    unfold f_X5_advance_34
    rw [if_neg (by decide), c.1]
  | succ l =>
    have hb := highF_b (row := row) (l := l) k (by omega)
    obtain ⟨h3, e3, c3⟩ := e_exch c m6 (show l < k + 1 by omega) (show highF row l k < k + 1 by omega)
    obtain ⟨h4, e4, c4⟩ := e_adv94 m6 (nI l) FU 6 _ k (l + 1) h3 c3 (by omega) (by omega) (by omega) (by unfold FU; omega)
    rw [if_neg (by omega), Nat.add_sub_cancel]
    refine ⟨h4, ?_, c4⟩
    unfold f_X5_advance_34
    rw [nI_pred, if_pos (nI_pos' (by omega)), nm_id, c.1, nI_pred, e_adv50 c ro hn (show l < k + 1 by omega) FU k (by omega) (by omega) (by unfold FU; omega)]
    unfold f_X5_advance_76
    rw [e3, ov_some, nm_id, nm_id, c3.1, nI_pred, nI_1]
    exact e4
/-- the lowest order -/
def gl (G : Nat) : Nat → List Nat
  | 0 => []
  | k + 1 => if G.testBit k = true then gl G k ++ [k] else gl G k
theorem gN1 {c : List Nat} {x : Nat} {j : Nat} (h : j < c.length) : (c ++ [x]).getD j 0 = c.getD j 0 := by
  simp [List.getD_eq_getElem?_getD, List.getElem?_append_left h]
theorem gN2 {c : List Nat} {x : Nat} : (c ++ [x]).getD c.length 0 = x := by
  simp [List.getD_eq_getElem?_getD]
theorem gl_len (G : Nat) : ∀ k, (gl G k).length ≤ k := by
  intro k
  induction k with
  | zero => exact Nat.le_refl _
  | succ k ih =>
    rw [gl]
    split
    · simp
      exact ih
    · omega
theorem cRw_add {l : List Nat} {h : AH} {x : Nat} (c : cRw (fun j => l.getD j 0) l.length h) : cRw (fun j => (l ++ [x]).getD j 0) (l ++ [x]).length (sI (sI h 42 l.length (nI x)) 41 2 (nI (l.length + 1))) := by
  refine ⟨by rw [sI_s, List.length_append]; rfl, fun j hj => ?_⟩
  rw [sI_n (Or.inl (by decide))]
  by_cases e : j = l.length
  · subst e
    show (sI h 42 l.length (nI x)).1 42 l.length = nI ((l ++ [x]).getD l.length 0)
    rw [sI_s, gN2]
  · have hj' : j < l.length := by
      rw [List.length_append] at hj
      have : j < l.length + 1 := hj
      omega
    show (sI h 42 l.length (nI x)).1 42 j = nI ((l ++ [x]).getD j 0)
    rw [sI_n (Or.inr e), gN1 hj']
    exact c.2 j hj'
theorem e_add {l : List Nat} {h : AH} (x : Nat) (c : cRw (fun j => l.getD j 0) l.length h) (hl : l.length < 6) : ∃ h', f_X5_add 41 (nI x) h = some h' ∧ cRw (fun j => (l ++ [x]).getD j 0) (l ++ [x]).length h' := by
  unfold f_X5_add
  rw [c.1, if_neg (by rw [show (6 : Int32) = nI 6 from rfl, nI_leI (by decide) (by omega)]; omega), rv_41_1, an_42, og_ix (by omega) (by omega), nm_id, nI_clamp (by omega), nm_id, sI_n (Or.inl (by decide)), c.1, nI_1, f_X5_add_29]
  exact ⟨_, rfl, cRw_add c⟩
theorem e_lowest {G : Nat} (hG : G < 64) (h : AH) : ∃ h', f_X5_lowest 41 (nI G) h = some h' ∧ cRw (fun j => (gl G 6).getD j 0) (gl G 6).length h' := by
  unfold f_X5_lowest
  rw [nm_id]
  refine lp (fun n i g => ∃ h', f_X5_lowest_7 n 41 (nI G) (nI i) g = some h' ∧ cRw (fun j => (gl G 6).getD j 0) (gl G 6).length h') (fun i g => cRw (fun j => (gl G i).getD j 0) (gl G i).length g) 6 (by decide) ?_ ?_ (s := sI h 41 2 0) ⟨sI_s .., fun j hj => absurd hj (by simp [gl])⟩
  · intro n g c
    rw [f_X5_lowest_7, if_pos (by decide)]
    exact ⟨g, rfl, c⟩
  · intro n i g hi c K
    have gll := gl_len G i
    rw [f_X5_lowest_7, if_neg (by rw [show (6 : Int32) = nI 6 from rfl, nI_leI (by decide) (by omega)]; omega), e_X11_isIn, ob_some, inS_tb G hG i hi, zi]
    rw [gl] at K
    by_cases b : G.testBit i = true
    · rw [if_pos b] at K
      obtain ⟨h3, e3, c3⟩ := e_add i c (by omega)
      rw [if_pos b, e3, ov_some, f_X5_lowest_26, nm_id, nI_1]
      exact K h3 c3
    · rw [if_neg b] at K
      rw [if_neg b, f_X5_lowest_26, nm_id, nI_1]
      exact K g c
def rChk (G : Nat) (l : List Nat) : Bool := Nat.beq l.length (pcN G) && ((List.range l.length).all (fun i => Nat.blt (l.getD i 0) 6 && (G.testBit (l.getD i 0) && (List.range l.length).all (fun j => !(Nat.beq (l.getD i 0) (l.getD j 0)) || Nat.beq i j))) && (List.range 6).all (fun p => !(G.testBit p) || (List.range l.length).any (fun j => Nat.beq (l.getD j 0) p)))
theorem rChk_ok {n G : Nat} (hn : n ≤ 6) (hG : G < 2 ^ n) {l : List Nat} (h : rChk G l = true) : l.length = pc G ∧ gRow n G (fun j => l.getD j 0) := by
  have h64 := pow_le6 hn
  unfold rChk at h
  rw [Bool.and_eq_true, Bool.and_eq_true, List.all_eq_true, List.all_eq_true] at h
  obtain ⟨h1, h2, h3⟩ := h
  have e : l.length = pc G := by
    rw [pc_N G (by omega)]
    exact Nat.eq_of_beq_eq_true h1
  have p7 := (pc_ok G (by omega)).2
  have k : ∀ i, i < pc G → G.testBit (l.getD i 0) = true ∧ ∀ j, j < pc G → l.getD i 0 = l.getD j 0 → i = j := by
    intro i hi
    have := h2 i (List.mem_range.mpr (by omega))
    rw [Bool.and_eq_true, Bool.and_eq_true, List.all_eq_true] at this
    refine ⟨this.2.1, fun j hj q => ?_⟩
    have w := this.2.2 j (List.mem_range.mpr (by omega))
    rw [Bool.or_eq_true] at w
    rcases w with w | w
    · rw [q, Nat.beq_refl] at w
      cases w
    · exact Nat.eq_of_beq_eq_true w
  refine ⟨e, ⟨by omega, fun j hj => tb_lt hG (k j hj).1, fun i j hi hj q => (k i hi).2 j hj q⟩, fun j hj => (k j hj).1, fun p hp => ?_⟩
  have p6 : p < 6 := by
    have := tb_lt hG hp
    omega
  have w := h3 p (List.mem_range.mpr p6)
  rw [hp, Bool.not_true, Bool.false_or, List.any_eq_true] at w
  obtain ⟨j, hj, q⟩ := w
  exact ⟨j, by rw [← e]; exact List.mem_range.mp hj, Nat.eq_of_beq_eq_true q⟩
