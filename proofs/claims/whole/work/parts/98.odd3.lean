/-! odd: facts of the tables -/
theorem cAll_ok {n K : Nat} (hn : 2 ≤ n ∧ n ≤ 5) (hK : 2 ≤ K ∧ K ≤ n) : cAll n K = true := by
  obtain ⟨n1, n2⟩ := hn
  obtain ⟨k1, k2⟩ := hK
  have : (n = 2 ∧ K = 2) ∨ (n = 3 ∧ (K = 2 ∨ K = 3)) ∨ (n = 4 ∧ (K = 2 ∨ K = 3 ∨ K = 4)) ∨ (n = 5 ∧ (K = 2 ∨ K = 3 ∨ K = 4 ∨ K = 5)) := by omega
  rcases this with ⟨rfl, rfl⟩ | ⟨rfl, rfl | rfl⟩ | ⟨rfl, rfl | rfl | rfl⟩ | ⟨rfl, rfl | rfl | rfl | rfl⟩
  · exact cAll_2_2
  · exact cAll_3_2
  · exact cAll_3_3
  · exact cAll_4_2
  · exact cAll_4_3
  · exact cAll_4_4
  · exact cAll_5_2
  · exact cAll_5_3
  · exact cAll_5_4
  · exact cAll_5_5
theorem cd5_0 : cd5 [] = 0 := rfl
/-- no meeting brings a row nearer by more than one -/
theorem T5_A {n K x S : Nat} (hn : 2 ≤ n ∧ n ≤ 5) (hK : 2 ≤ K ∧ K ≤ n) (hx : x < 5 ^ n) (v : T5 n K x ≠ 7) (hS : S < 2 ^ n) (pS : pcN S = K) : ∀ w ∈ gv n S (dec5 n x) n 0 0 [], T5 n K (cd5 w) ≠ 7 ∧ T5 n K x ≤ T5 n K (cd5 w) + 1 := by
  have a := cAll_ok hn hK
  unfold cAll at a
  have a := List.all_eq_true.mp a x (List.mem_range.mpr hx)
  rw [Bool.and_eq_true, Bool.or_eq_true, Bool.and_eq_true, List.all_eq_true] at a
  rcases a.2 with q | q
  · exact absurd (Nat.eq_of_beq_eq_true q) v
  · have b := q.1 S (List.mem_filter.mpr ⟨List.mem_range.mpr hS, by rw [pS]; exact Nat.beq_refl K⟩)
    unfold cA at b
    rw [← cd5_0, ck5_gv n 0 0 [] (by omega), List.all_eq_true] at b
    intro w hw
    have c := b w hw
    rw [Bool.and_eq_true] at c
    refine ⟨fun e => ?_, Nat.le_of_ble_eq_true c.2⟩
    rw [e] at c
    exact absurd c.1 (by decide)
/-- a row that is not home is brought nearer by some meeting -/
theorem T5_B {n K x : Nat} (hn : 2 ≤ n ∧ n ≤ 5) (hK : 2 ≤ K ∧ K ≤ n) (hx : x < 5 ^ n) (v : T5 n K x ≠ 7) : (T5 n K x = 0 → x = cd5 (List.range n)) ∧ (T5 n K x ≠ 0 → ∃ S, S < 2 ^ n ∧ pcN S = K ∧ ∃ w ∈ gv n S (dec5 n x) n 0 0 [], T5 n K (cd5 w) + 1 = T5 n K x) := by
  have a := cAll_ok hn hK
  unfold cAll at a
  have a := List.all_eq_true.mp a x (List.mem_range.mpr hx)
  rw [Bool.and_eq_true, Bool.or_eq_true, Bool.and_eq_true] at a
  rcases a.2 with q | q
  · exact absurd (Nat.eq_of_beq_eq_true q) v
  · have b := q.2
    refine ⟨fun e => ?_, fun e => ?_⟩
    · rw [e, if_pos (by rfl)] at b
      exact Nat.eq_of_beq_eq_true b
    · rw [if_neg (fun w => e (Nat.eq_of_beq_eq_true w)), Bool.not_eq_true', List.all_eq_false] at b
      obtain ⟨S, hS, hb⟩ := b
      have m := List.mem_filter.mp hS
      unfold cB5 at hb
      rw [← cd5_0, ck5_gv n 0 0 [] (by omega), Bool.not_eq_true, List.all_eq_false] at hb
      obtain ⟨w, hw, hc⟩ := hb
      refine ⟨S, List.mem_range.mp m.1, Nat.eq_of_beq_eq_true m.2, w, hw, ?_⟩
      rw [Bool.not_eq_true, Bool.not_eq_false'] at hc
      exact Nat.eq_of_beq_eq_true hc
theorem T5_T {n K x : Nat} (hn : 2 ≤ n ∧ n ≤ 5) (hK : 2 ≤ K ∧ K ≤ n) (hx : x < 5 ^ n) (v : orR (dec5 n x) n = 2 ^ n - 1) : T5 n K x = cf5 n K (dec5 n x) := by
  have a := cAll_ok hn hK
  unfold cAll at a
  have a := List.all_eq_true.mp a x (List.mem_range.mpr hx)
  rw [Bool.and_eq_true] at a
  have b := Nat.eq_of_beq_eq_true a.1
  rw [b, if_pos (by rw [v]; exact Nat.beq_refl _)]
/-- digits of a code -/
theorem dec_cd : ∀ (l : List Nat), (∀ x ∈ l, x < 5) → dec5 l.length (cd5 l) = l := by
  have key : ∀ (n : Nat) (l : List Nat), l.length = n → (∀ x ∈ l, x < 5) → dec5 n (cd5 l) = l := by
    intro n
    induction n with
    | zero =>
      intro l hl _
      rw [List.length_eq_zero_iff.mp hl]
      rfl
    | succ n ih =>
      intro l hl h
      have tk := take_1 (l := l) (j := n) (by omega)
      rw [show n + 1 = l.length by omega, List.take_length] at tk
      have l1 : (l.take n).length = n := by rw [List.length_take]; omega
      have i1 := ih (l.take n) l1 (fun x hx => h x (List.mem_of_mem_take hx))
      generalize l.take n = a at tk l1 i1
      generalize l.getD n 0 = y at tk
      have y5 : y < 5 := h y (by rw [tk]; exact List.mem_append_right _ (List.mem_singleton.mpr rfl))
      rw [tk, cd5_1]
      unfold dec5 at i1 ⊢
      rw [List.range_succ, List.map_append]
      congr 1
      · rw [← i1]
        refine List.map_congr_left (fun i hi => ?_)
        have hi := List.mem_range.mp hi
        rw [show n + 1 - 1 - i = (n - 1 - i) + 1 by omega, Nat.pow_succ, Nat.mul_comm (5 ^ (n - 1 - i)) 5, ← Nat.div_div_eq_div_mul, show (5 * cd5 a + y) / 5 = cd5 a by omega, i1]
      · show [(5 * cd5 a + y) / 5 ^ (n + 1 - 1 - n) % 5] = [y]
        rw [show n + 1 - 1 - n = 0 by omega, Nat.pow_zero, Nat.div_one, show (5 * cd5 a + y) % 5 = y by omega]
  exact fun l h => key l.length l rfl h
