/-! fault and text -/
theorem rd0 {v : Wd} {h k : AH} (R : RelV v h) (m6 : k.1 56 6 = nI v.L) (m57 : k.1 57 = h.1 57) : RdR k (f_X6_read 6 1 h) (f_X12_readPeople 56 k) :=
  sim_ppl R.L160 (fun j hj => ⟨(R.1.2.2.2 j hj).1, (R.1.2.2.2 j hj).2.1⟩) R.cL (fun j hj => (R.1.2.2.2 j hj).2.2.1) m6 (fun j hj => by
    have := (R.1.2.2.2 j hj).2.2.2
    rw [Nat.zero_add] at this
    rw [m57]
    exact this)
theorem rd1 {v : Wd} {h k : AH} (R : RelV v h) (m57 : k.1 57 = h.1 57) : ∃ r hc' hm' rem, f_X8_read 9 h = some (r, hc') ∧ f_X12_goThrough 56 57 0 (nI v.L) k = some hm' ∧ hm'.1 56 11 = r ∧ (r = -1 → cC rem hc' ∧ rem.length ≤ 161) := by
  have L160 := R.L160
  have my : mY v.tx v.L 57 0 k := ⟨R.L160, fun j hj => ⟨(R.1.2.2.2 j hj).1, (R.1.2.2.2 j hj).2.1⟩, ⟨rfl, by decide, by decide, by decide⟩, by rw [an_57]; omega, by rw [an_57]; omega, fun j hj => by rw [m57]; exact (R.1.2.2.2 j hj).2.2.2⟩
  obtain ⟨r, hc, hm, rem, e1, e2, e3, _, e5⟩ := sim_read (lt := fun i => k.1 60 (lch i)) (fun j hj => (R.1.2.2.2 j hj).2.2.1) R.cL my (fun _ _ => rfl)
  exact ⟨r, hc, hm, rem, e1, e2, e3, fun z => ⟨(e5 z).1, (e5 z).2.1⟩⟩
theorem n01 {x : Int32} (h0 : x ≠ 0) (h1 : x ≠ 1) : ¬ (¬ x < 0 ∧ x ≤ 1) := by
  rintro ⟨a, b⟩
  rw [Int32.lt_iff_toInt_lt] at a
  rw [Int32.le_iff_toInt_le] at b
  have z0 : (0 : Int32).toInt = 0 := rfl
  have z1 : (1 : Int32).toInt = 1 := rfl
  rw [z0] at a
  rw [z1] at b
  have : x.toInt = 0 ∨ x.toInt = 1 := by omega
  rcases this with q | q
  · exact h0 (Int32.toInt_inj.mp (by rw [q]; rfl))
  · exact h1 (Int32.toInt_inj.mp (by rw [q]; rfl))
theorem is01_0 : decide (¬ (0 : Int32) < 0 ∧ (0 : Int32) ≤ 1) = true := by decide
theorem is01_1 : decide (¬ (1 : Int32) < 0 ∧ (1 : Int32) ≤ 1) = true := by decide
theorem g2 : G2 Rel := by
  intro h ⟨v, R⟩ a1
  by_cases c0 : a1 = 0
  · subst c0
    obtain ⟨r, hc, _, e1, _⟩ := rd0 R R.mL rfl
    have f1 : Agr W_X6_read_i6_1 h hc := w_f_X6_read_i6_1 _ _ e1
    have R1 : RelV v hc := rel_agr f1 rfl R
    have R2 := R1.thr (x := 0)
    obtain ⟨r', hc', hm, e1', e2, e3, lo, _⟩ := rd0 (k := sI hc 56 0 0) R R2.mL (agr_cell f1 57 rfl)
    rw [e1] at e1'
    have er : r = r' := congrArg Prod.fst (Option.some.inj e1')
    have f2 : Agr W_X12_readPeople_i56 (sI hc 56 0 0) hm := w_f_X12_readPeople_i56 _ _ e2
    refine ⟨r, hc, hm, ?_, ?_, v, rel_61 f2 lo rfl R2⟩
    · unfold f_X11_fault
      rw [if_pos rfl, rv_0_2, rv_0_0, e1, ob_some]
    · unfold f_X12_fault f_X12_fault_42
      rw [nm_id, e_isIn01, ob_some, is01_0, zi, if_pos rfl, if_pos rfl, e2, ov_some, e3, er]
  · by_cases c1 : a1 = 1
    · subst c1
      obtain ⟨r, hc, _, _, e1, _⟩ := rd1 (k := h) R rfl
      have f1 : Agr W_X8_read_i9 h hc := w_f_X8_read_i9 _ _ e1
      have R1 : RelV v hc := rel_agr f1 rfl R
      have R2 := R1.thr (x := 0)
      obtain ⟨r', hc', hm, _, e1', e2, e3, _⟩ := rd1 (k := sI hc 56 0 0) R (agr_cell f1 57 rfl)
      rw [e1] at e1'
      have er : r = r' := congrArg Prod.fst (Option.some.inj e1')
      have f2 : Agr W_X12_goThrough_i56_57 (sI hc 56 0 0) hm := w_f_X12_goThrough_i56_57 _ _ _ _ e2
      refine ⟨r, hc, hm, ?_, ?_, v, rel_agr f2 rfl R2⟩
      · unfold f_X11_fault f_X11_fault_33
        rw [if_neg (by decide), if_pos rfl, rv_0_3, e1, ob_some]
      · unfold f_X12_fault f_X12_fault_42
        rw [nm_id, e_isIn01, ob_some, is01_1, zi, if_pos rfl, if_neg (by decide), rv_56_1, R2.mL, e2, ov_some, e3, er]
    · refine ⟨-2, h, sI h 56 0 0, ?_, ?_, v, R.thr⟩
      · unfold f_X11_fault f_X11_fault_33
        rw [if_neg c0, if_neg c1]
      · unfold f_X12_fault
        rw [nm_id, e_isIn01, ob_some, decide_eq_false (n01 c0 c1), zi, if_neg (by decide)]
