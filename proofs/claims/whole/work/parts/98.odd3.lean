/-! odd: facts of the tables -/
theorem cAll_ok {n K : Nat} (hn : 2 ≤ n ∧ n ≤ 5) (hK : 2 ≤ K ∧ K ≤ n) : cAll n K = true := by
  obtain ⟨n1, n2⟩ := hn
  obtain ⟨k1, k2⟩ := hK
  have : (n = 2 ∧ K = 2) ∨ (n = 3 ∧ (K = 2 ∨ K = 3)) ∨ (n = 4 ∧ (K = 2 ∨ K = 3 ∨ K = 4)) ∨ (n = 5 ∧ (K = 2 ∨ K = 3 ∨ K = 4 ∨ K = 5)) := by omega
  rcases this with ⟨rfl, rfl⟩ | ⟨rfl, rfl | rfl⟩ | ⟨rfl, rfl | rfl | rfl⟩ | ⟨rfl, rfl | rfl | rfl | rfl⟩
  · exact cAll_2_2
  · exact cAll_3_2
  · exact cAll_3_3
  · exact cAll_4_2
  · exact cAll_4_3
  · exact cAll_4_4
  · exact cAll_5_2
  · exact cAll_5_3
  · exact cAll_5_4
  · exact cAll_5_5
theorem ck5_top {P : Nat → Bool} {n S X : Nat} : ck5 P n S X n 0 0 0 = (gv n S (dec5 n X) n 0 0 []).all (fun w => P (cd5 w)) := ck5_gv n 0 0 [] (Nat.zero_add n)
/-- no meeting brings a row nearer by more than one -/
theorem T5_A {n K x S : Nat} (hn : 2 ≤ n ∧ n ≤ 5) (hK : 2 ≤ K ∧ K ≤ n) (hx : x < 5 ^ n) (v : T5 n K x ≠ 7) (hS : S < 2 ^ n) (pS : pcN S = K) : ∀ w ∈ gv n S (dec5 n x) n 0 0 [], T5 n K (cd5 w) ≠ 7 ∧ T5 n K x ≤ T5 n K (cd5 w) + 1 := by
  have a := cAll_ok hn hK
  unfold cAll at a
  have a := List.all_eq_true.mp a x (List.mem_range.mpr hx)
  rw [Bool.and_eq_true, Bool.or_eq_true, Bool.and_eq_true, List.all_eq_true] at a
  rcases a.2 with q | q
  · exact absurd (Nat.eq_of_beq_eq_true q) v
  · have b := q.1 S (List.mem_filter.mpr ⟨List.mem_range.mpr hS, by rw [pS]; exact Nat.beq_refl K⟩)
    unfold cA at b
    rw [ck5_top, List.all_eq_true] at b
    intro w hw
    have c := b w hw
    rw [Bool.and_eq_true] at c
    refine ⟨fun e => ?_, Nat.le_of_ble_eq_true c.2⟩
    rw [e] at c
    exact absurd c.1 (by decide)
/-- a row that is not home is brought nearer by some meeting -/
theorem T5_B {n K x : Nat} (hn : 2 ≤ n ∧ n ≤ 5) (hK : 2 ≤ K ∧ K ≤ n) (hx : x < 5 ^ n) (v : T5 n K x ≠ 7) : (T5 n K x = 0 → x = cd5 (List.range n)) ∧ (T5 n K x ≠ 0 → ∃ S, S < 2 ^ n ∧ pcN S = K ∧ ∃ w ∈ gv n S (dec5 n x) n 0 0 [], T5 n K (cd5 w) + 1 = T5 n K x) := by
  have a := cAll_ok hn hK
  unfold cAll at a
  have a := List.all_eq_true.mp a x (List.mem_range.mpr hx)
  rw [Bool.and_eq_true, Bool.or_eq_true, Bool.and_eq_true] at a
  rcases a.2 with q | q
  · exact absurd (Nat.eq_of_beq_eq_true q) v
  · have b := q.2
    refine ⟨fun e => ?_, fun e => ?_⟩
    · rw [e, if_pos (by rfl)] at b
      exact Nat.eq_of_beq_eq_true b
    · rw [if_neg (fun w => e (Nat.eq_of_beq_eq_true w)), Bool.not_eq_true', List.all_eq_false] at b
      obtain ⟨S, hS, hb⟩ := b
      have m := List.mem_filter.mp hS
      unfold cB5 at hb
      rw [ck5_top, Bool.not_eq_true, List.all_eq_false] at hb
      obtain ⟨w, hw, hc⟩ := hb
      refine ⟨S, List.mem_range.mp m.1, Nat.eq_of_beq_eq_true m.2, w, hw, ?_⟩
      rw [Bool.not_eq_true, Bool.not_eq_false'] at hc
      exact Nat.eq_of_beq_eq_true hc
theorem T5_T {n K x : Nat} (hn : 2 ≤ n ∧ n ≤ 5) (hK : 2 ≤ K ∧ K ≤ n) (hx : x < 5 ^ n) (v : orR (dec5 n x) n = 2 ^ n - 1) : T5 n K x = cf5 n K (dec5 n x) := by
  have a := cAll_ok hn hK
  unfold cAll at a
  have a := List.all_eq_true.mp a x (List.mem_range.mpr hx)
  rw [Bool.and_eq_true] at a
  have b := Nat.eq_of_beq_eq_true a.1
  rw [b, if_pos (by rw [v]; exact Nat.beq_refl _)]
/-- digits of a code -/
theorem dec_cd : ∀ (l : List Nat), (∀ x ∈ l, x < 5) → dec5 l.length (cd5 l) = l := by
  have key : ∀ (n : Nat) (l : List Nat), l.length = n → (∀ x ∈ l, x < 5) → dec5 n (cd5 l) = l := by
    intro n
    induction n with
    | zero =>
      intro l hl _
      rw [List.length_eq_zero_iff.mp hl]
      rfl
    | succ n ih =>
      intro l hl h
      have tk := take_1 (l := l) (j := n) (by omega)
      rw [show n + 1 = l.length by omega, List.take_length] at tk
      have l1 : (l.take n).length = n := by rw [List.length_take]; omega
      have i1 := ih (l.take n) l1 (fun x hx => h x (List.mem_of_mem_take hx))
      generalize l.take n = a at tk l1 i1
      generalize l.getD n 0 = y at tk
      have y5 : y < 5 := h y (by rw [tk]; exact List.mem_append_right _ (List.mem_singleton.mpr rfl))
      rw [tk, cd5_1]
      unfold dec5 at i1 ⊢
      rw [List.range_succ, List.map_append]
      congr 1
      · refine Eq.trans ?_ i1
        refine List.map_congr_left (fun i hi => ?_)
        have hi := List.mem_range.mp hi
        rw [show n + 1 - 1 - i = (n - 1 - i) + 1 by omega, Nat.pow_succ, Nat.mul_comm (5 ^ (n - 1 - i)) 5, ← Nat.div_div_eq_div_mul, show (5 * cd5 a + y) / 5 = cd5 a by omega]
      · show [(5 * cd5 a + y) / 5 ^ (n + 1 - 1 - n) % 5] = [y]
        rw [show n + 1 - 1 - n = 0 by omega, Nat.pow_zero, Nat.div_one, show (5 * cd5 a + y) % 5 = y by omega]
  exact fun l h => key l.length l rfl h

theorem gv_len {n S : Nat} {v : List Nat} (hv : ∀ j, j < n → v.getD j 0 < 5) : ∀ d i U acc, i + d = n → (∀ y ∈ acc, y < 5) → ∀ w ∈ gv n S v d i U acc, w.length = acc.length + d ∧ ∀ y ∈ w, y < 5 := by
  intro d
  induction d with
  | zero =>
    intro i U acc _ ha w hw
    rw [gv] at hw
    rw [List.mem_singleton.mp hw]
    exact ⟨rfl, ha⟩
  | succ d ih =>
    intro i U acc hi ha w hw
    have mem : ∀ y, y < n → ∀ z ∈ acc ++ [v.getD y 0], z < 5 := by
      intro y hy z hz
      rcases List.mem_append.mp hz with q | q
      · exact ha z q
      · rw [List.mem_singleton.mp q]
        exact hv y hy
    rw [gv] at hw
    by_cases b : S.testBit i = true
    · rw [if_pos b] at hw
      obtain ⟨x, hx, hw⟩ := List.mem_flatMap.mp hw
      by_cases q : (S.testBit x && !(U.testBit x)) = true
      · rw [if_pos q] at hw
        obtain ⟨h1, h2⟩ := ih (i + 1) _ _ (by omega) (mem x (List.mem_range.mp hx)) w hw
        refine ⟨?_, h2⟩
        rw [h1, List.length_append, List.length_singleton]
        omega
      · rw [if_neg q] at hw
        cases hw
    · rw [if_neg b] at hw
      obtain ⟨h1, h2⟩ := ih (i + 1) _ _ (by omega) (mem i (by omega)) w hw
      refine ⟨?_, h2⟩
      rw [h1, List.length_append, List.length_singleton]
      omega
theorem dec5_5 {n x : Nat} : ∀ j, j < n → (dec5 n x).getD j 0 < 5 := by
  intro j hj
  rw [dec5_g hj]
  exact Nat.mod_lt _ (by decide)
theorem gv_cd {n S x : Nat} : ∀ w ∈ gv n S (dec5 n x) n 0 0 [], cd5 w < 5 ^ n := by
  intro w hw
  obtain ⟨h1, h2⟩ := gv_len (dec5_5 (n := n) (x := x)) n 0 0 [] (Nat.zero_add n) (fun y hy => by cases hy) w hw
  have := cd5_lt w h2
  rw [h1, List.length_nil, Nat.zero_add] at this
  exact this
/-- what marking does -/
theorem mk5_keep {x : Int32} {c k : Nat} {s : (Nat → Int32) × Int32} (h : s.1 k ≠ -1) : (mk5 x c s).1 k = s.1 k := by
  unfold mk5
  by_cases b : s.1 c = -1
  · rw [if_pos b]
    show (if k = c then x else s.1 k) = s.1 k
    rw [if_neg (fun e => h (by rw [e]; exact b))]
  · rw [if_neg b]
theorem mkL_keep {x : Int32} {k : Nat} : ∀ (l : List (List Nat)) (s : (Nat → Int32) × Int32), s.1 k ≠ -1 → (mkL x l s).1 k = s.1 k := by
  intro l
  induction l with
  | nil => intro s _; rfl
  | cons w l ih =>
    intro s h
    have a := mk5_keep (x := x) (c := cd5 w) h
    show (mkL x l (mk5 x (cd5 w) s)).1 k = _
    rw [ih _ (by rw [a]; exact h), a]
theorem mkL_hit {x : Int32} (hx : x ≠ -1) : ∀ (l : List (List Nat)) (s : (Nat → Int32) × Int32) w, w ∈ l → (mkL x l s).1 (cd5 w) ≠ -1 := by
  intro l
  induction l with
  | nil => intro s w hw; cases hw
  | cons y l ih =>
    intro s w hw
    show (mkL x l (mk5 x (cd5 y) s)).1 (cd5 w) ≠ -1
    rcases List.mem_cons.mp hw with rfl | hw
    · have : (mk5 x (cd5 w) s).1 (cd5 w) ≠ -1 := by
        unfold mk5
        by_cases b : s.1 (cd5 w) = -1
        · rw [if_pos b]
          show (if cd5 w = cd5 w then x else s.1 (cd5 w)) ≠ -1
          rw [if_pos rfl]
          exact hx
        · rw [if_neg b]
          exact b
      rw [mkL_keep l _ this]
      exact this
    · exact ih _ w hw
theorem mkL_flag {x : Int32} : ∀ (l : List (List Nat)) (s : (Nat → Int32) × Int32), (mkL x l s).2 = 1 ∨ mkL x l s = s := by
  intro l
  induction l with
  | nil => intro s; exact Or.inr rfl
  | cons y l ih =>
    intro s
    show (mkL x l (mk5 x (cd5 y) s)).2 = 1 ∨ mkL x l (mk5 x (cd5 y) s) = s
    have a : (mk5 x (cd5 y) s).2 = 1 ∨ mk5 x (cd5 y) s = s := by
      unfold mk5
      by_cases b : s.1 (cd5 y) = -1
      · rw [if_pos b]
        exact Or.inl rfl
      · rw [if_neg b]
        exact Or.inr rfl
    rcases ih (mk5 x (cd5 y) s) with q | q
    · exact Or.inl q
    · rw [q]
      exact a
def oM (n K C s : Nat) (T : Nat → Int32) : Prop := ∀ c, T c = -1 ∨ 3125 ≤ c ∨ ∃ j, T c = nI j ∧ j ≤ s ∧ c < 5 ^ n ∧ T5 n K c ≠ 7 ∧ C ≤ T5 n K c + j
theorem mkL_oM {n K C s : Nat} : ∀ (l : List (List Nat)) (t : (Nat → Int32) × Int32), (∀ w ∈ l, cd5 w < 5 ^ n ∧ T5 n K (cd5 w) ≠ 7 ∧ C ≤ T5 n K (cd5 w) + s) → oM n K C s t.1 → oM n K C s (mkL (nI s) l t).1 := by
  intro l
  induction l with
  | nil => intro t _ o; exact o
  | cons y l ih =>
    intro t h o
    show oM n K C s (mkL (nI s) l (mk5 (nI s) (cd5 y) t)).1
    refine ih _ (fun w hw => h w (List.mem_cons_of_mem _ hw)) ?_
    intro c
    unfold mk5
    by_cases b : t.1 (cd5 y) = -1
    · rw [if_pos b]
      by_cases e : c = cd5 y
      · subst e
        have q := h y (List.mem_cons_self ..)
        exact Or.inr (Or.inr ⟨s, if_pos rfl, Nat.le_refl _, q.1, q.2.1, q.2.2⟩)
      · have := o c
        dsimp only
        rw [if_neg e]
        exact this
    · rw [if_neg b]
      exact o c
