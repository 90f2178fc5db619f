/-! odd: facts of the tables -/
theorem cAll_ok {n K : Nat} (hn : 2 ≤ n ∧ n ≤ 5) (hK : 2 ≤ K ∧ K ≤ n) : cAll n K = true := by
  obtain ⟨n1, n2⟩ := hn
  obtain ⟨k1, k2⟩ := hK
  have : (n = 2 ∧ K = 2) ∨ (n = 3 ∧ (K = 2 ∨ K = 3)) ∨ (n = 4 ∧ (K = 2 ∨ K = 3 ∨ K = 4)) ∨ (n = 5 ∧ (K = 2 ∨ K = 3 ∨ K = 4 ∨ K = 5)) := by omega
  rcases this with ⟨rfl, rfl⟩ | ⟨rfl, rfl | rfl⟩ | ⟨rfl, rfl | rfl | rfl⟩ | ⟨rfl, rfl | rfl | rfl | rfl⟩
  · exact cAll_2_2
  · exact cAll_3_2
  · exact cAll_3_3
  · exact cAll_4_2
  · exact cAll_4_3
  · exact cAll_4_4
  · exact cAll_5_2
  · exact cAll_5_3
  · exact cAll_5_4
  · exact cAll_5_5
theorem ck5_top {P : Nat → Bool} {n S X : Nat} : ck5 P n S X n 0 0 0 = (gv n S (dec5 n X) n 0 0 []).all (fun w => P (cd5 w)) := ck5_gv n 0 0 [] (Nat.zero_add n)
/-- no meeting brings a row nearer by more than one -/
theorem T5_A {n K x S : Nat} (hn : 2 ≤ n ∧ n ≤ 5) (hK : 2 ≤ K ∧ K ≤ n) (hx : x < 5 ^ n) (v : T5 n K x ≠ 7) (hS : S < 2 ^ n) (pS : pcN S = K) : ∀ w ∈ gv n S (dec5 n x) n 0 0 [], T5 n K (cd5 w) ≠ 7 ∧ T5 n K x ≤ T5 n K (cd5 w) + 1 := by
  have a := cAll_ok hn hK
  unfold cAll at a
  have a := List.all_eq_true.mp a x (List.mem_range.mpr hx)
  rw [Bool.and_eq_true, Bool.or_eq_true, Bool.and_eq_true, List.all_eq_true] at a
  rcases a.2 with q | q
  · exact absurd (Nat.eq_of_beq_eq_true q) v
  · have b := q.1 S (List.mem_filter.mpr ⟨List.mem_range.mpr hS, by rw [pS]; exact Nat.beq_refl K⟩)
    unfold cA at b
    rw [ck5_top, List.all_eq_true] at b
    intro w hw
    have c := b w hw
    rw [Bool.and_eq_true] at c
    refine ⟨fun e => ?_, Nat.le_of_ble_eq_true c.2⟩
    rw [e] at c
    exact absurd c.1 (by decide)
/-- a row that is not home is brought nearer by some meeting -/
theorem T5_B {n K x : Nat} (hn : 2 ≤ n ∧ n ≤ 5) (hK : 2 ≤ K ∧ K ≤ n) (hx : x < 5 ^ n) (v : T5 n K x ≠ 7) : (T5 n K x = 0 → x = cd5 (List.range n)) ∧ (T5 n K x ≠ 0 → ∃ S, S < 2 ^ n ∧ pcN S = K ∧ ∃ w ∈ gv n S (dec5 n x) n 0 0 [], T5 n K (cd5 w) + 1 = T5 n K x) := by
  have a := cAll_ok hn hK
  unfold cAll at a
  have a := List.all_eq_true.mp a x (List.mem_range.mpr hx)
  rw [Bool.and_eq_true, Bool.or_eq_true, Bool.and_eq_true] at a
  rcases a.2 with q | q
  · exact absurd (Nat.eq_of_beq_eq_true q) v
  · have b := q.2
    refine ⟨fun e => ?_, fun e => ?_⟩
    · rw [e, if_pos (by rfl)] at b
      exact Nat.eq_of_beq_eq_true b
    · rw [if_neg (fun w => e (Nat.eq_of_beq_eq_true w)), Bool.not_eq_true', List.all_eq_false] at b
      obtain ⟨S, hS, hb⟩ := b
      have m := List.mem_filter.mp hS
      unfold cB5 at hb
      rw [ck5_top, Bool.not_eq_true, List.all_eq_false] at hb
      obtain ⟨w, hw, hc⟩ := hb
      refine ⟨S, List.mem_range.mp m.1, Nat.eq_of_beq_eq_true m.2, w, hw, ?_⟩
      rw [Bool.not_eq_true, Bool.not_eq_false'] at hc
      exact Nat.eq_of_beq_eq_true hc
theorem T5_T {n K x : Nat} (hn : 2 ≤ n ∧ n ≤ 5) (hK : 2 ≤ K ∧ K ≤ n) (hx : x < 5 ^ n) (v : orR (dec5 n x) n = 2 ^ n - 1) : T5 n K x = cf5 n K (dec5 n x) := by
  have a := cAll_ok hn hK
  unfold cAll at a
  have a := List.all_eq_true.mp a x (List.mem_range.mpr hx)
  rw [Bool.and_eq_true] at a
  have b := Nat.eq_of_beq_eq_true a.1
  rw [b, if_pos (by rw [v]; exact Nat.beq_refl _)]
/-- digits of a code -/
theorem dec_cd : ∀ (l : List Nat), (∀ x ∈ l, x < 5) → dec5 l.length (cd5 l) = l := by
  have key : ∀ (n : Nat) (l : List Nat), l.length = n → (∀ x ∈ l, x < 5) → dec5 n (cd5 l) = l := by
    intro n
    induction n with
    | zero =>
      intro l hl _
      rw [List.length_eq_zero_iff.mp hl]
      rfl
    | succ n ih =>
      intro l hl h
      have tk := take_1 (l := l) (j := n) (by omega)
      rw [show n + 1 = l.length by omega, List.take_length] at tk
      have l1 : (l.take n).length = n := by rw [List.length_take]; omega
      have i1 := ih (l.take n) l1 (fun x hx => h x (List.mem_of_mem_take hx))
      generalize l.take n = a at tk l1 i1
      generalize l.getD n 0 = y at tk
      have y5 : y < 5 := h y (by rw [tk]; exact List.mem_append_right _ (List.mem_singleton.mpr rfl))
      rw [tk, cd5_1]
      unfold dec5 at i1 ⊢
      rw [List.range_succ, List.map_append]
      congr 1
      · refine Eq.trans ?_ i1
        refine List.map_congr_left (fun i hi => ?_)
        have hi := List.mem_range.mp hi
        rw [show n + 1 - 1 - i = (n - 1 - i) + 1 by omega, Nat.pow_succ, Nat.mul_comm (5 ^ (n - 1 - i)) 5, ← Nat.div_div_eq_div_mul, show (5 * cd5 a + y) / 5 = cd5 a by omega]
      · show [(5 * cd5 a + y) / 5 ^ (n + 1 - 1 - n) % 5] = [y]
        rw [show n + 1 - 1 - n = 0 by omega, Nat.pow_zero, Nat.div_one, show (5 * cd5 a + y) % 5 = y by omega]
  exact fun l h => key l.length l rfl h

theorem gv_len {n S : Nat} {v : List Nat} (hv : ∀ j, j < n → v.getD j 0 < 5) : ∀ d i U acc, i + d = n → (∀ y ∈ acc, y < 5) → ∀ w ∈ gv n S v d i U acc, w.length = acc.length + d ∧ ∀ y ∈ w, y < 5 := by
  intro d
  induction d with
  | zero =>
    intro i U acc _ ha w hw
    rw [gv] at hw
    rw [List.mem_singleton.mp hw]
    exact ⟨rfl, ha⟩
  | succ d ih =>
    intro i U acc hi ha w hw
    have mem : ∀ y, y < n → ∀ z ∈ acc ++ [v.getD y 0], z < 5 := by
      intro y hy z hz
      rcases List.mem_append.mp hz with q | q
      · exact ha z q
      · rw [List.mem_singleton.mp q]
        exact hv y hy
    rw [gv] at hw
    by_cases b : S.testBit i = true
    · rw [if_pos b] at hw
      obtain ⟨x, hx, hw⟩ := List.mem_flatMap.mp hw
      by_cases q : (S.testBit x && !(U.testBit x)) = true
      · rw [if_pos q] at hw
        obtain ⟨h1, h2⟩ := ih (i + 1) _ _ (by omega) (mem x (List.mem_range.mp hx)) w hw
        refine ⟨?_, h2⟩
        rw [h1, List.length_append, List.length_singleton]
        omega
      · rw [if_neg q] at hw
        cases hw
    · rw [if_neg b] at hw
      obtain ⟨h1, h2⟩ := ih (i + 1) _ _ (by omega) (mem i (by omega)) w hw
      refine ⟨?_, h2⟩
      rw [h1, List.length_append, List.length_singleton]
      omega
theorem dec5_5 {n x : Nat} : ∀ j, j < n → (dec5 n x).getD j 0 < 5 := by
  intro j hj
  rw [dec5_g hj]
  exact Nat.mod_lt _ (by decide)
theorem gv_cd {n S x : Nat} : ∀ w ∈ gv n S (dec5 n x) n 0 0 [], cd5 w < 5 ^ n := by
  intro w hw
  obtain ⟨h1, h2⟩ := gv_len (dec5_5 (n := n) (x := x)) n 0 0 [] (Nat.zero_add n) (fun y hy => by cases hy) w hw
  have := cd5_lt w h2
  rw [h1, List.length_nil, Nat.zero_add] at this
  exact this
/-- what marking does -/
theorem mk5_keep {x : Int32} {c k : Nat} {s : (Nat → Int32) × Int32} (h : s.1 k ≠ -1) : (mk5 x c s).1 k = s.1 k := by
  unfold mk5
  by_cases b : s.1 c = -1
  · rw [if_pos b]
    show (if k = c then x else s.1 k) = s.1 k
    rw [if_neg (fun e => h (by rw [e]; exact b))]
  · rw [if_neg b]
theorem mkL_keep {x : Int32} {k : Nat} : ∀ (l : List (List Nat)) (s : (Nat → Int32) × Int32), s.1 k ≠ -1 → (mkL x l s).1 k = s.1 k := by
  intro l
  induction l with
  | nil => intro s _; rfl
  | cons w l ih =>
    intro s h
    have a := mk5_keep (x := x) (c := cd5 w) h
    show (mkL x l (mk5 x (cd5 w) s)).1 k = _
    rw [ih _ (by rw [a]; exact h), a]
theorem mkL_hit {x : Int32} (hx : x ≠ -1) : ∀ (l : List (List Nat)) (s : (Nat → Int32) × Int32) w, w ∈ l → (mkL x l s).1 (cd5 w) ≠ -1 := by
  intro l
  induction l with
  | nil => intro s w hw; cases hw
  | cons y l ih =>
    intro s w hw
    show (mkL x l (mk5 x (cd5 y) s)).1 (cd5 w) ≠ -1
    rcases List.mem_cons.mp hw with rfl | hw
    · have : (mk5 x (cd5 w) s).1 (cd5 w) ≠ -1 := by
        unfold mk5
        by_cases b : s.1 (cd5 w) = -1
        · rw [if_pos b]
          show (if cd5 w = cd5 w then x else s.1 (cd5 w)) ≠ -1
          rw [if_pos rfl]
          exact hx
        · rw [if_neg b]
          exact b
      rw [mkL_keep l _ this]
      exact this
    · exact ih _ w hw
theorem mkL_flag {x : Int32} : ∀ (l : List (List Nat)) (s : (Nat → Int32) × Int32), (mkL x l s).2 = 1 ∨ mkL x l s = s := by
  intro l
  induction l with
  | nil => intro s; exact Or.inr rfl
  | cons y l ih =>
    intro s
    show (mkL x l (mk5 x (cd5 y) s)).2 = 1 ∨ mkL x l (mk5 x (cd5 y) s) = s
    have a : (mk5 x (cd5 y) s).2 = 1 ∨ mk5 x (cd5 y) s = s := by
      unfold mk5
      by_cases b : s.1 (cd5 y) = -1
      · rw [if_pos b]
        exact Or.inl rfl
      · rw [if_neg b]
        exact Or.inr rfl
    rcases ih (mk5 x (cd5 y) s) with q | q
    · exact Or.inl q
    · rw [q]
      exact a
def oM (n K C s : Nat) (T : Nat → Int32) : Prop := ∀ c, T c = -1 ∨ 3125 ≤ c ∨ ∃ j, T c = nI j ∧ j ≤ s ∧ c < 5 ^ n ∧ T5 n K c ≠ 7 ∧ C ≤ T5 n K c + j
theorem mkL_oM {n K C s : Nat} : ∀ (l : List (List Nat)) (t : (Nat → Int32) × Int32), (∀ w ∈ l, cd5 w < 5 ^ n ∧ T5 n K (cd5 w) ≠ 7 ∧ C ≤ T5 n K (cd5 w) + s) → oM n K C s t.1 → oM n K C s (mkL (nI s) l t).1 := by
  intro l
  induction l with
  | nil => intro t _ o; exact o
  | cons y l ih =>
    intro t h o
    show oM n K C s (mkL (nI s) l (mk5 (nI s) (cd5 y) t)).1
    refine ih _ (fun w hw => h w (List.mem_cons_of_mem _ hw)) ?_
    intro c
    unfold mk5
    by_cases b : t.1 (cd5 y) = -1
    · rw [if_pos b]
      by_cases e : c = cd5 y
      · subst e
        have q := h y (List.mem_cons_self ..)
        exact Or.inr (Or.inr ⟨s, if_pos rfl, Nat.le_refl _, q.1, q.2.1, q.2.2⟩)
      · have := o c
        dsimp only
        rw [if_neg e]
        exact this
    · rw [if_neg b]
      exact o c

/-! odd: one level of the model's search -/
theorem rem5 {N : Nat} (h : N < 2 ^ 31) : jirem (nI N) 5 = nI (N % 5) ∧ nI N / 5 = nI (N / 5) := ⟨pk_rem (d := 5) h (by decide) (by decide), pk_div (d := 5) h (by decide) (by decide)⟩
def oS (n K C s : Nat) (T0 : Nat → Int32) (g : AH) : Prop := oM n K C s (g.1 79) ∧ (g.1 56 45 = 1 ∨ g.1 79 = T0)
def kpT (g g' : AH) : Prop := ∀ c, g.1 79 c ≠ -1 → g'.1 79 c = g.1 79 c
theorem kpT_tr {a b c : AH} (h1 : kpT a b) (h2 : kpT b c) : kpT a c := fun k hk => by rw [h2 k (by rw [h1 k hk]; exact hk), h1 k hk]
theorem e_285 {n K C s x : Nat} {T0 : Nat → Int32} {g0 : AH} {x6 : Int32} (q : Nat → Int32 → Int32 → Int32 → Int32 → Int32 → AH → Option (Int32 × AH)) (hn : 2 ≤ n ∧ n ≤ 5) (hK : 2 ≤ K ∧ K ≤ n) (s0 : s < 2 ^ 31) (hx : x < 5 ^ n) (tv : T5 n K x ≠ 7) (tc : C ≤ T5 n K x + (s - 1)) (s1 : 1 ≤ s) (e80 : ∀ j, j < n → g0.1 80 j = nI (dg5 n x j)) (o : oS n K C s T0 g0) : ∃ h', f_X12_odd_285 q FU 56 (nI n) (nI K) x6 (nI s) (nI x) 0 g0 = f_X12_odd_323 q 56 (nI n) (nI K) x6 (nI s) (nI x) h' ∧ oS n K C s T0 h' ∧ kpT g0 h' ∧ (∀ S, S < 2 ^ n → pcN S = K → ∀ w ∈ gv n S (dec5 n x) n 0 0 [], h'.1 79 (cd5 w) ≠ -1) ∧ Agr W_X12_giveRound_i56_80 g0 h' := by
  have p32 : 2 ^ n ≤ 32 := Nat.le_trans (Nat.pow_le_pow_right (by decide) hn.2) (by decide)
  refine lp (fun f S g => ∃ h', f_X12_odd_285 q f 56 (nI n) (nI K) x6 (nI s) (nI x) (nI S) g = f_X12_odd_323 q 56 (nI n) (nI K) x6 (nI s) (nI x) h' ∧ oS n K C s T0 h' ∧ kpT g0 h' ∧ (∀ S, S < 2 ^ n → pcN S = K → ∀ w ∈ gv n S (dec5 n x) n 0 0 [], h'.1 79 (cd5 w) ≠ -1) ∧ Agr W_X12_giveRound_i56_80 g0 h') (fun S g => oS n K C s T0 g ∧ kpT g0 g ∧ (∀ S', S' < S → pcN S' = K → ∀ w ∈ gv n S' (dec5 n x) n 0 0 [], g.1 79 (cd5 w) ≠ -1) ∧ Agr W_X12_giveRound_i56_80 g0 g) (2 ^ n) (by omega) ?_ ?_ ⟨o, fun _ _ => rfl, fun S hS => absurd hS (by omega), agr_refl g0⟩
  · rintro f g ⟨q1, q2, q3, q4⟩
    rw [f_X12_odd_285, shl_n n (by omega), if_pos (by rw [nI_leI (by omega) (by omega)]; omega)]
    exact ⟨g, rfl, q1, q2, q3, q4⟩
  · rintro f S g hS ⟨q1, q2, q3, q4⟩ K1
    have bc := (pc_ok S (by omega)).1
    have p7 := (pc_ok S (by omega)).2
    rw [pc_N S (by omega)] at bc p7
    rw [f_X12_odd_285, shl_n n (by omega), if_neg (by rw [nI_leI (by omega) (by omega)]; omega), e_bc, ob_some, bc]
    by_cases e : pcN S = K
    · have g80 : ∀ j, j < n → g.1 80 j = nI ((dec5 n x).getD j 0) := fun j hj => by
        rw [agr_cell q4 80 rfl, dec5_g hj]
        exact e80 j hj
      obtain ⟨h3, r1, r2, _⟩ := e_give (n := n) (S := S) (x := s) (v := dec5 n x) hn.2 (by omega) dec5_5 n 0 0 [] 12 g (Nat.zero_add n) (by omega) (by omega) rfl (fun y hy => by cases hy) (fun j hj => absurd hj (by omega)) g80
      have r1' : r_X12_giveRound 12 56 (nI n) (nI S) 0 0 80 (nI s) g = some h3 := r1
      have a3 : Agr W_X12_giveRound_i56_80 g0 h3 := w_r_X12_giveRound_i56_80 _ _ _ _ _ _ _ q4 _ r1
      have A := T5_A hn hK hx tv hS e
      have t1 : h3.1 79 = (mkL (nI s) (gv n S (dec5 n x) n 0 0 []) (g.1 79, g.1 56 45)).1 := congrArg Prod.fst r2
      have t2 : h3.1 56 45 = (mkL (nI s) (gv n S (dec5 n x) n 0 0 []) (g.1 79, g.1 56 45)).2 := congrArg Prod.snd r2
      have kp : kpT g h3 := fun c hc => by rw [t1]; exact mkL_keep _ _ hc
      rw [if_pos (by rw [e]), rv_56_46, r1', ov_some, f_X12_odd_317, nm_id, nI_1]
      refine K1 h3 ⟨⟨?_, ?_⟩, kpT_tr q2 kp, fun S' hS' pS' w hw => ?_, a3⟩
      · rw [t1]
        exact mkL_oM _ (g.1 79, g.1 56 45) (fun w hw => ⟨gv_cd w hw, (A w hw).1, by have := (A w hw).2; omega⟩) q1.1
      · rcases mkL_flag (x := nI s) (gv n S (dec5 n x) n 0 0 []) (g.1 79, g.1 56 45) with w | w
        · exact Or.inl (by rw [t2]; exact w)
        · rw [w] at t1 t2
          rw [t1, t2]
          exact q1.2
      · by_cases es : S' = S
        · subst es
          rw [t1]
          exact mkL_hit (by rw [ne_eq, n_m1 s0]; exact id) _ _ w hw
        · have := q3 S' (by omega) pS' w hw
          rw [kp _ this]
          exact this
    · rw [if_neg (by rw [nI_eq (by omega) (by omega)]; exact e), f_X12_odd_317, nm_id, nI_1]
      refine K1 g ⟨q1, q2, fun S' hS' pS' => ?_, q4⟩
      by_cases es : S' = S
      · subst es
        exact absurd pS' e
      · exact q3 S' (by omega) pS'
theorem e_254 {n x : Nat} {x3 x6 x7 : Int32} (q : Nat → Int32 → Int32 → Int32 → Int32 → Int32 → AH → Option (Int32 × AH)) (hn : n ≤ 5) (hx : x < 3125) : ∀ i, i ≤ n → ∀ f, i < f → ∀ g : AH, (∀ j, i ≤ j → j < n → g.1 80 j = nI (dg5 n x j)) → ∃ h', f_X12_odd_254 q f 56 (nI n) x3 x6 x7 (nI x) (nI (x / 5 ^ (n - i))) (nI i - 1) g = f_X12_odd_285 q FU 56 (nI n) x3 x6 x7 (nI x) 0 h' ∧ (∀ j, j < n → h'.1 80 j = nI (dg5 n x j)) ∧ Agr ((80, 1000) :: []) g h' := by
  intro i
  induction i with
  | zero =>
    intro _ f hf g I
    obtain ⟨f', rfl⟩ : ∃ z, f = z + 1 := ⟨f - 1, by omega⟩
    rw [f_X12_odd_254, if_pos (by decide)]
    exact ⟨g, rfl, fun j hj => I j (by omega) hj, agr_refl _⟩
  | succ i ih =>
    intro hi f hf g I
    obtain ⟨f', rfl⟩ : ∃ z, f = z + 1 := ⟨f - 1, by omega⟩
    have y31 : x / 5 ^ (n - (i + 1)) < 2 ^ 31 := Nat.lt_of_le_of_lt (Nat.div_le_self _ _) (by omega)
    have r := rem5 y31
    have ed : x / 5 ^ (n - (i + 1)) / 5 = x / 5 ^ (n - i) := by
      rw [Nat.div_div_eq_div_mul, ← Nat.pow_succ, show (n - (i + 1)).succ = n - i by omega]
    have er : x / 5 ^ (n - (i + 1)) % 5 = dg5 n x i := by
      unfold dg5
      rw [show n - (i + 1) = n - 1 - i by omega]
      rfl
    rw [f_X12_odd_254, nI_pred, if_neg (show ¬ nI i < 0 from nI_pos (by omega)), rv_56_46, show an 80 = 5 from rfl, og_ix (by omega) (by omega), nI_clamp (by omega), r.1, r.2, nm_id, nm_id, nm_id, nI_m1', ed, er]
    obtain ⟨h', e1, e2, e3⟩ := ih (by omega) f' (by omega) (sI g 80 i (nI (dg5 n x i))) (fun j hj hjn => by
      by_cases e : j = i
      · subst e
        exact sI_s ..
      · rw [sI_n (Or.inr e)]
        exact I j (by omega) hjn)
    exact ⟨h', e1, e2, agr_tr (agr_sI (agr_refl g) rfl) e3 rfl⟩

theorem oM_up {n K C s : Nat} {T : Nat → Int32} (o : oM n K C s T) : oM n K C (s + 1) T := by
  intro c
  rcases o c with w | w | ⟨j, a, b, d⟩
  · exact Or.inl w
  · exact Or.inr (Or.inl w)
  · exact Or.inr (Or.inr ⟨j, a, by omega, d⟩)
def oF (n K C s : Nat) (T : Nat → Int32) : Prop := ∃ c, c < 5 ^ n ∧ T c = nI s ∧ T5 n K c ≠ 7 ∧ T5 n K c + s = C
theorem p5_le {n : Nat} (hn : n ≤ 5) : 5 ^ n ≤ 3125 := Nat.le_trans (Nat.pow_le_pow_right (by decide) hn) (by decide)
theorem e_218 {n K C s : Nat} {g0 : AH} {x6 : Int32} (q : Nat → Int32 → Int32 → Int32 → Int32 → AH → Option (Int32 × AH)) (hn : 2 ≤ n ∧ n ≤ 5) (hK : 2 ≤ K ∧ K ≤ n) (s0 : s < 100) (sC : s < C) (o : oM n K C s (g0.1 79)) (v : oF n K C s (g0.1 79)) : ∃ h', f_X12_odd_218 q FU 56 (nI n) (nI K) x6 (nI (s + 1)) 0 g0 = q 56 (nI n) (nI K) x6 (nI (s + 2)) h' ∧ oM n K C (s + 1) (h'.1 79) ∧ oF n K C (s + 1) (h'.1 79) := by
  have p5 := p5_le hn.2
  obtain ⟨v0, v1, v2, v3, v4⟩ := v
  obtain ⟨S, S1, S2, w, w1, w2⟩ := (T5_B hn hK v1 v3).2 (by omega)
  have wc := gv_cd w w1
  have wA := (T5_A hn hK v1 v3 S1 S2 w w1).1
  have T0w : g0.1 79 (cd5 w) = -1 := by
    rcases o (cd5 w) with z | z | ⟨j, z1, z2, z3, z4, z5⟩
    · exact z
    · omega
    · omega
  refine lp (fun f k g => ∃ h', f_X12_odd_218 q f 56 (nI n) (nI K) x6 (nI (s + 1)) (nI k) g = q 56 (nI n) (nI K) x6 (nI (s + 2)) h' ∧ oM n K C (s + 1) (h'.1 79) ∧ oF n K C (s + 1) (h'.1 79)) (fun k g => oS n K C (s + 1) (g0.1 79) g ∧ kpT g0 g ∧ (v0 < k → g.1 79 (cd5 w) ≠ -1)) 3125 (by decide) ?_ ?_ ⟨⟨oM_up o, Or.inr rfl⟩, fun _ _ => rfl, fun z => absurd z (by omega)⟩
  · rintro f g ⟨q1, q2, q3⟩
    have hw := q3 (by omega)
    have fl : ¬ g.1 56 45 = 0 := by
      rcases q1.2 with z | z
      · rw [z]
        decide
      · rw [z] at hw
        exact absurd T0w hw
    rw [f_X12_odd_218, rv_56_44, show Int32.ofNat (an 79) = nI 3125 from rfl, if_pos (by decide), if_neg fl, nm_id, nI_1]
    refine ⟨g, rfl, q1.1, cd5 w, wc, ?_, wA, by omega⟩
    rcases q1.1 (cd5 w) with z | z | ⟨j, z1, z2, z3, z4, z5⟩
    · exact absurd z hw
    · omega
    · rw [z1, show j = s + 1 by omega]
  · rintro f k g hk ⟨q1, q2, q3⟩ K1
    rw [f_X12_odd_218, rv_56_44, show Int32.ofNat (an 79) = nI 3125 from rfl, if_neg (by rw [nI_leI (by omega) (by omega)]; omega), an_79, og_ix hk (by omega), nI_clamp (by omega), nI_pred]
    by_cases e : g.1 79 k = nI s
    · have kk : k < 5 ^ n ∧ T5 n K k ≠ 7 ∧ C ≤ T5 n K k + s := by
        rcases q1.1 k with z | z | ⟨j, z1, z2, z3, z4, z5⟩
        · rw [e, n_m1 (by omega)] at z
          exact z.elim
        · omega
        · rw [e, nI_eq (by omega) (by omega)] at z1
          exact ⟨z3, z4, by omega⟩
      obtain ⟨h1, d1, d2, d3⟩ := e_254 (n := n) (x := k) (x3 := nI K) (x6 := x6) (x7 := nI (s + 1)) (f_X12_odd_218 q f) hn.2 hk n (Nat.le_refl _) FU (by unfold FU; omega) g (fun j hj hjn => absurd hjn (by omega))
      rw [Nat.sub_self, Nat.pow_zero, Nat.div_one] at d1
      have o1 : oS n K C (s + 1) (g0.1 79) h1 := by
        unfold oS
        rw [agr_cell d3 79 rfl, agr_cell d3 56 rfl]
        exact q1
      obtain ⟨h2, b1, b2, b3, b4, b5⟩ := e_285 (x6 := x6) (f_X12_odd_218 q f) hn hK (show s + 1 < 2 ^ 31 by omega) kk.1 kk.2.1 (show C ≤ T5 n K k + (s + 1 - 1) from kk.2.2) (by omega) d2 o1
      have k1 : kpT g h2 := by
        have : kpT g h1 := fun c _ => by rw [agr_cell d3 79 rfl]
        exact kpT_tr this b3
      rw [if_pos e, nm_id, d1, b1, f_X12_odd_323, nm_id, nI_1]
      refine K1 h2 ⟨b2, kpT_tr q2 k1, fun z => ?_⟩
      by_cases ek : v0 = k
      · subst ek
        exact b4 S S1 S2 w w1
      · have := q3 (by omega)
        rw [k1 _ this]
        exact this
    · rw [if_neg e, f_X12_odd_323, nm_id, nI_1]
      refine K1 g ⟨q1, q2, fun z => ?_⟩
      by_cases ek : v0 = k
      · subst ek
        have := q2 v0 (by rw [v2, ne_eq, n_m1 (by omega)]; exact id)
        rw [this] at e
        exact absurd v2 e
      · exact q3 (by omega)
theorem T5_home : ∀ n, n < 6 → ∀ K, K < 6 → (2 ≤ n ∧ 2 ≤ K ∧ K ≤ n) → T5 n K (cd5 (List.range n)) = 0 ∧ cd5 (List.range n) < 3125 := by decide +kernel
theorem e_199 {n K C : Nat} (hn : 2 ≤ n ∧ n ≤ 5) (hK : 2 ≤ K ∧ K ≤ n) (hC : C < 90) : ∀ t s f g, s + t = C → t < f → oM n K C s (g.1 79) → oF n K C s (g.1 79) → ∃ h', f_X12_odd_199 f 56 (nI n) (nI K) (nI (cd5 (List.range n))) (nI (s + 1)) g = some (nI C, h') := by
  have H := T5_home n (by omega) K (by omega) ⟨hn.1, hK.1, hK.2⟩
  have p5 := p5_le hn.2
  intro t
  induction t with
  | zero =>
    intro s f g hs hf o v
    obtain ⟨f', rfl⟩ : ∃ z, f = z + 1 := ⟨f - 1, by omega⟩
    obtain ⟨v0, v1, v2, v3, v4⟩ := v
    have e := (T5_B hn hK v1 v3).1 (by omega)
    rw [e] at v2
    rw [f_X12_odd_199, rv_56_44, an_79, og_ix H.2 (by omega), nI_clamp (by omega), v2, if_neg (by rw [n_m1 (by omega)]; exact id), og_ix H.2 (by omega), show s = C by omega]
    exact ⟨g, rfl⟩
  | succ t ih =>
    intro s f g hs hf o v
    obtain ⟨f', rfl⟩ : ∃ z, f = z + 1 := ⟨f - 1, by omega⟩
    have hm : g.1 79 (cd5 (List.range n)) = -1 := by
      rcases o (cd5 (List.range n)) with z | z | ⟨j, z1, z2, z3, z4, z5⟩
      · exact z
      · omega
      · rw [H.1] at z5
        omega
    rw [f_X12_odd_199, rv_56_44, an_79, og_ix H.2 (by omega), nI_clamp (by omega), hm, if_pos rfl, nm_id]
    obtain ⟨h1, a1, a2, a3⟩ := e_218 (g0 := sI g 56 45 0) (x6 := nI (cd5 (List.range n))) (f_X12_odd_199 f') hn hK (show s < 100 by omega) (by omega) o v
    obtain ⟨h2, b1⟩ := ih (s + 1) f' h1 (by omega) (by omega) a2 a3
    rw [a1]
    exact ⟨h2, b1⟩

theorem cd5_r (i : Nat) : cd5 (List.range (i + 1)) = 5 * cd5 (List.range i) + i := by
  rw [List.range_succ, cd5_1]
theorem e_175 {n K C : Nat} {g : AH} (hn : 2 ≤ n ∧ n ≤ 5) (hK : 2 ≤ K ∧ K ≤ n) (hC : C < 90) (o : oM n K C 0 (g.1 79)) (v : oF n K C 0 (g.1 79)) : ∃ h', f_X12_odd_175 FU 56 (nI n) (nI K) 0 0 g = some (nI C, h') := by
  refine lp (fun f i (y : Int32) => ∃ h', f_X12_odd_175 f 56 (nI n) (nI K) y (nI i) g = some (nI C, h')) (fun i y => y = nI (cd5 (List.range i))) n (by omega) ?_ ?_ (s := 0) rfl
  · intro f y e
    obtain ⟨h', e1⟩ := e_199 hn hK hC C 0 FU g (by omega) (by unfold FU; omega) o v
    rw [f_X12_odd_175, if_pos (by rw [nI_leI (by omega) (by omega)]; omega), e]
    exact ⟨h', e1⟩
  · intro f i y hi e K1
    rw [f_X12_odd_175, if_neg (by rw [nI_leI (by omega) (by omega)]; omega), e, nm_id, nm_id, nI_1]
    refine K1 _ ?_
    rw [cd5_r, show (5 : Int32) * nI (cd5 (List.range i)) = nI (cd5 (List.range i) * 5) from k_mul' _ 5, nI_add, Nat.mul_comm]
theorem e_131 {n K : Nat} {v : List Nat} {g : AH} (hn : 2 ≤ n ∧ n ≤ 5) (hK : 2 ≤ K ∧ K ≤ n) (lv : v.length = n) (v5 : ∀ y ∈ v, y < 5) (tv : T5 n K (cd5 v) ≠ 7) (e80 : ∀ j, j < n → g.1 80 j = nI (v.getD j 0)) : ∃ h', f_X12_odd_131 FU 56 (nI n) (nI K) 0 g = some (nI (T5 n K (cd5 v)), h') := by
  have p5 := p5_le hn.2
  have cl : cd5 v < 5 ^ n := by
    have := cd5_lt v v5
    rw [lv] at this
    exact this
  refine lp (fun f i g => ∃ h', f_X12_odd_131 f 56 (nI n) (nI K) (nI i) g = some (nI (T5 n K (cd5 v)), h')) (fun i g' => Agr ((79, 1000) :: []) g g' ∧ ∀ c, c < i → g'.1 79 c = -1) 3125 (by decide) ?_ ?_ ⟨agr_refl g, fun c hc => absurd hc (by omega)⟩
  · rintro f g' ⟨a, q⟩
    have ro := e_rowOf (k := 80) (l := v) (h := g') (Or.inl rfl) (by omega) (fun j hj => by rw [agr_cell a 80 rfl]; exact e80 j (by omega))
    rw [lv] at ro
    have C8 : T5 n K (cd5 v) < 8 := Nat.lt_of_le_of_lt Nat.and_le_right (by decide)
    obtain ⟨h', e1⟩ := e_175 (n := n) (K := K) (C := T5 n K (cd5 v)) (g := sI g' 79 (cd5 v) 0) hn hK (by omega) (fun c => by
      by_cases e : c = cd5 v
      · subst e
        exact Or.inr (Or.inr ⟨0, sI_s .., Nat.le_refl _, cl, tv, Nat.le_refl _⟩)
      · rw [sI_n (Or.inr e)]
        by_cases b : c < 3125
        · exact Or.inl (q c b)
        · exact Or.inr (Or.inl (by omega))) ⟨cd5 v, cl, sI_s .., tv, rfl⟩
    rw [f_X12_odd_131, rv_56_44, rv_56_46, show Int32.ofNat (an 79) = nI 3125 from rfl, if_pos (by decide), ro, ob_some, an_79, og_ix (by omega) (by omega), nI_clamp (by omega), nm_id]
    exact ⟨h', e1⟩
  · rintro f i g' hi ⟨a, q⟩ K1
    rw [f_X12_odd_131, rv_56_44, show Int32.ofNat (an 79) = nI 3125 from rfl, if_neg (by rw [nI_leI (by omega) (by omega)]; omega), an_79, og_ix hi (by omega), nI_clamp (by omega), nm_id, nm_id, nI_1]
    refine K1 _ ⟨agr_sI a rfl, fun c hc => ?_⟩
    by_cases e : c = i
    · subst e
      exact sI_s ..
    · rw [sI_n (Or.inr e)]
      exact q c (by omega)

theorem e_49 {n K : Nat} (hn : n ≤ 5) : ∀ k, k ≤ n → ∀ f, k < f → ∀ N U (g : AH), N < 2 ^ 31 → U < 32 → ∃ h', f_X12_odd_49 f 56 (nI n) (nI K) (nI N) (nI U) (nI k - 1) g = (if mOk n (2 ^ n - 1) k N U = true then f_X12_odd_131 FU 56 (nI n) (nI K) 0 h' else some (-1, h')) ∧ (∀ j, j < k → mOk n (2 ^ n - 1) k N U = true → h'.1 80 j = nI (rowN N k j)) ∧ ∀ j, k ≤ j → h'.1 80 j = g.1 80 j := by
  intro k
  induction k with
  | zero =>
    intro _ f hf N U g hN hU
    obtain ⟨f', rfl⟩ : ∃ z, f = z + 1 := ⟨f - 1, by omega⟩
    refine ⟨g, ?_, fun j hj => absurd hj (by omega), fun _ _ => rfl⟩
    rw [f_X12_odd_49, if_pos (by decide), mOk]
    by_cases e : N = 0
    · rw [if_pos (show nI N = 0 by rw [e]; rfl), if_pos (decide_eq_true e)]
    · rw [if_neg (show ¬ nI N = 0 by rw [show (0 : Int32) = nI 0 from rfl, nI_eq hN (by decide)]; exact e), if_neg (fun w => e (of_decide_eq_true w))]
  | succ k ih =>
    intro hk f hf N U g hN hU
    obtain ⟨f', rfl⟩ : ∃ z, f = z + 1 := ⟨f - 1, by omega⟩
    have r := rem10 hN
    have d10 : N % 10 < 10 := Nat.mod_lt _ (by decide)
    rw [f_X12_odd_49, nI_pred, if_neg (show ¬ nI k < 0 from nI_pos (by omega)), rv_56_46, show an 80 = 5 from rfl, og_ix (by omega) (by omega), nI_clamp (by omega), r.1, r.2, nm_id, nm_id, og_ix (by omega) (by omega), sI_s, mOk]
    by_cases c : N % 10 < n
    · rw [if_neg (by rw [nI_leI (by omega) (by omega)]; omega), og_ix (by omega) (by omega), e_X12_has, ob_some, inS_tb U (by omega) _ (by omega), zi, decide_eq_true c, Bool.true_and, everyG n (by omega) _ c, Bool.true_and]
      cases b : U.testBit (N % 10) with
      | true =>
        rw [if_pos rfl, Bool.not_true, Bool.false_and, f_X12_odd_99]
        exact ⟨sI g 80 k (nI (N % 10)), (if_neg (by decide)).symm, fun j hj w => absurd w (by decide), fun j hj => by rw [sI_n (Or.inr (by omega))]⟩
      | false =>
        have o := u5_or U hU (N % 10) (by omega)
        rw [if_neg (by decide), Bool.not_false, Bool.true_and, og_ix (by omega) (by omega), sI_s, o.1, nm_id, nm_id, nI_m1']
        obtain ⟨h', e1, e2, e3⟩ := ih (by omega) f' (by omega) (N / 10) (U ||| 2 ^ (N % 10)) (sI g 80 k (nI (N % 10))) (by omega) o.2
        refine ⟨h', e1, fun j hj w => ?_, fun j hj => ?_⟩
        · by_cases e : j = k
          · rw [e, e3 k (Nat.le_refl _), sI_s, rowN_k]
          · rw [rowN_j _ (show j < k by omega)]
            exact e2 j (by omega) w
        · rw [e3 j (by omega), sI_n (Or.inr (by omega))]
    · rw [if_pos (by rw [nI_leI (by omega) (by omega)]; omega), decide_eq_false c, Bool.false_and, f_X12_odd_99]
      exact ⟨sI g 80 k (nI (N % 10)), (if_neg (by decide)).symm, fun j hj w => absurd w (by decide), fun j hj => by rw [sI_n (Or.inr (by omega))]⟩
