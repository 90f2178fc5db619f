/-! odd: the class -/
theorem sT4 : ∀ e, e < 5 → sT 4 e = nI (10 ^ e) ∧ ¬ sT 4 e = 0 := by decide +kernel
theorem e_right {n N i : Nat} {h : AH} (hn : n ≤ 5) (hN : N < 2 ^ 31) (hi : i < n) : f_X11_rightOf (nI n) (nI N) (nI i) h = some (nI (rowN N n i), h) := by
  obtain ⟨k, rfl⟩ : ∃ k, n = k + 1 := ⟨n - 1, by omega⟩
  have p := sT4 (k - i) (by omega)
  have p10 : 10 ^ (k - i) ≤ 10 ^ 4 := Nat.pow_le_pow_right (by decide) (by omega)
  have pp : 0 < 10 ^ (k - i) := Nat.pow_pos (by decide)
  unfold f_X11_rightOf
  rw [nI_pred, show nI k - nI i = nI (k - i) from pk_sub (by omega), show sN 4 = 5 from rfl, og_ix (by omega) (by omega), nI_clamp (by omega), og_t (decide_eq_true p.2), p.1, pk_div hN pp (by omega), (rem10 (Nat.lt_of_le_of_lt (Nat.div_le_self _ _) hN)).1]
  unfold rowN
  rw [show k + 1 - 1 - i = k - i by omega]
def rwL (N n : Nat) : List Nat := (List.range n).map (rowN N n)
theorem rwL_g {N n i : Nat} (h : i < n) : (rwL N n).getD i 0 = rowN N n i := by
  unfold rwL
  rw [List.getD_eq_getElem?_getD, List.getElem?_map, List.getElem?_range h]
  rfl
theorem e_ring {n N i : Nat} {h : AH} (hn : n ≤ 5) (hN : N < 2 ^ 31) (hi : i < n) (vl : ∀ j, j < n → rowN N n j < n) : f_X11_isLowestOfRing (nI n) (nI N) (nI i) h = some (zb (lrR (rwL N n) i n ((rwL N n).getD i 0)), h) := by
  have fin : ∀ y, y < n → f_X11_isLowestOfRing_34 (nI i) (nI y) h = some (zb (Nat.beq y i), h) := by
    intro y hy
    unfold f_X11_isLowestOfRing_34 f_X11_isLowestOfRing_44
    by_cases e : y = i
    · rw [if_pos (by rw [e]), og_t (by decide), e, Nat.beq_refl]
      rfl
    · rw [if_neg (by rw [nI_eq (by omega) (by omega)]; exact e), og_t (by decide), nbeq (fun w => e w.symm)]
      rfl
  unfold f_X11_isLowestOfRing
  rw [e_right hn hN hi, ob_some, rwL_g hi]
  refine lp (fun f k (y : Nat) => f_X11_isLowestOfRing_10 f (nI n) (nI N) (nI i) (nI y) (nI k) h = some (zb (lrR (rwL N n) i n (rowN N n i)), h)) (fun k y => y < n ∧ lrR (rwL N n) i (n - k) y = lrR (rwL N n) i n (rowN N n i)) n (by omega) ?_ ?_ (s := rowN N n i) ⟨vl i hi, rfl⟩
  · rintro f y ⟨hy, q⟩
    rw [Nat.sub_self, lrR] at q
    rw [f_X11_isLowestOfRing_10, if_pos (by rw [nI_leI (by omega) (by omega)]; omega), fin y hy, q]
  · rintro f k y hk ⟨hy, q⟩ K
    rw [show n - k = (n - (k + 1)) + 1 by omega, lrR] at q
    rw [f_X11_isLowestOfRing_10, if_neg (by rw [nI_leI (by omega) (by omega)]; omega)]
    by_cases b : y ≤ i
    · rw [if_pos (Nat.ble_eq_true_of_le b)] at q
      rw [if_pos (by rw [nI_leI (by omega) (by omega)]; exact b), fin y hy, q]
    · rw [if_neg (fun w => b (Nat.le_of_ble_eq_true w)), rwL_g hy] at q
      rw [if_neg (by rw [nI_leI (by omega) (by omega)]; exact b), e_right hn hN hy, ob_some, nm_id, nI_1]
      exact K _ ⟨vl y hy, q⟩
theorem b2_1 (b : Bool) : b2 b ≤ 1 := by cases b <;> decide
theorem rgs_le {n : Nat} {v : List Nat} : ∀ i, rgs n v i ≤ i := by
  intro i
  induction i with
  | zero => exact Nat.le_refl _
  | succ i ih =>
    rw [rgs]
    have := b2_1 (lrR v i n (v.getD i 0))
    omega
theorem dsp_le {v : List Nat} : ∀ i, dsp v i ≤ i := by
  intro i
  induction i with
  | zero => exact Nat.le_refl _
  | succ i ih =>
    rw [dsp]
    have := b2_1 (!(Nat.beq (v.getD i 0) i))
    omega
theorem e_39 {n N K : Nat} {h : AH} (hn : n ≤ 5) (hN : N < 2 ^ 31) (hK : 2 ≤ K ∧ K ≤ n) (vl : ∀ j, j < n → rowN N n j < n) : f_X11_odd_39 FU (nI n) (nI N) (nI K) 0 0 0 h = some (nI (cf5 n K (rwL N n)), h) := by
  refine lp (fun f i (z : Nat × Nat) => f_X11_odd_39 f (nI n) (nI N) (nI K) (nI z.1) (nI z.2) (nI i) h = some (nI (cf5 n K (rwL N n)), h)) (fun i z => z.1 = dsp (rwL N n) i ∧ z.2 = rgs n (rwL N n) i) n (by omega) ?_ ?_ (s := (0, 0)) ⟨rfl, rfl⟩
  · rintro f ⟨a, b⟩ ⟨ea, eb⟩
    dsimp only at ea eb ⊢
    have la := dsp_le (v := rwL N n) n
    have lb := rgs_le (n := n) (v := rwL N n) n
    rw [f_X11_odd_39, if_pos (by rw [nI_leI (by omega) (by omega)]; omega), f_X11_odd_123, f_X11_odd_123, f_X11_odd_123]
    unfold cf5
    rw [← ea, ← eb]
    by_cases k2 : K = 2
    · rw [if_pos (show nI K = 2 by rw [k2]; rfl), if_pos (by rw [k2]; rfl), show nI n - nI b = nI (n - b) from pk_sub (by omega)]
    · rw [if_neg (show ¬ nI K = 2 by rw [show (2 : Int32) = nI 2 from rfl, nI_eq (by omega) (by decide)]; exact k2), if_neg (fun w => k2 (Nat.eq_of_beq_eq_true w))]
      by_cases a0 : a = 0
      · rw [if_pos (show nI a = 0 by rw [a0]; rfl), if_pos (by rw [a0]; rfl)]
        rfl
      · rw [if_neg (show ¬ nI a = 0 by rw [show (0 : Int32) = nI 0 from rfl, nI_eq (by omega) (by decide)]; exact a0), if_neg (fun w => a0 (Nat.eq_of_beq_eq_true w))]
        by_cases l : a ≤ K
        · rw [if_neg (nI_nlt l (by omega)), if_pos (Nat.ble_eq_true_of_le l)]
          rfl
        · rw [if_pos (nI_lt (by omega) (by omega)), if_neg (fun w => l (Nat.le_of_ble_eq_true w))]
          rfl
  · rintro f i ⟨a, b⟩ hi ⟨ea, eb⟩ K1
    dsimp only at ea eb ⊢
    have z0 : ∀ y : Nat, nI y + 0 = nI (y + 0) := fun y => nI_add y 0
    have rest : ∀ a', a' = dsp (rwL N n) (i + 1) → (if zb (lrR (rwL N n) i n ((rwL N n).getD i 0)) = 0 then f_X11_odd_84 (f_X11_odd_39 f) (nI n) (nI N) (nI K) (nI a') (nI i) 0 (nI b) h else f_X11_odd_84 (f_X11_odd_39 f) (nI n) (nI N) (nI K) (nI a') (nI i) 1 (nI b) h) = some (nI (cf5 n K (rwL N n)), h) := by
      intro a' ha'
      have r1 := rgs.eq_2 n (rwL N n) i
      rw [zi]
      cases q : lrR (rwL N n) i n ((rwL N n).getD i 0) with
      | false =>
        rw [q] at r1
        rw [if_neg (by decide), f_X11_odd_84, nm_id, nm_id, z0, nI_1]
        exact K1 (a', b + 0) ⟨ha', by rw [r1, eb]; rfl⟩
      | true =>
        rw [q] at r1
        rw [if_pos rfl, f_X11_odd_84, nm_id, nm_id, nI_1, nI_1]
        exact K1 (a', b + 1) ⟨ha', by rw [r1, eb]; rfl⟩
    have d1 := dsp.eq_2 (rwL N n) i
    rw [rwL_g hi] at d1
    rw [f_X11_odd_39, if_neg (by rw [nI_leI (by omega) (by omega)]; omega), e_right hn hN hi, ob_some]
    have vi := vl i hi
    by_cases e : rowN N n i = i
    · rw [e, Nat.beq_refl] at d1
      rw [if_pos (by rw [e]), f_X11_odd_64, nm_id, z0, e_ring hn hN hi vl, ob_some]
      exact rest (a + 0) (by rw [d1, ea]; rfl)
    · rw [nbeq (fun w => e w.symm)] at d1
      rw [if_neg (by rw [nI_eq (by omega) (by omega)]; exact e), f_X11_odd_64, nm_id, nI_1, e_ring hn hN hi vl, ob_some]
      exact rest (a + 1) (by rw [d1, ea]; rfl)
/-! odd: a mixed row -/
def orJ (N n : Nat) : Nat → Nat
  | 0 => 0
  | i + 1 => orJ N n i ||| 2 ^ rowN N n i
theorem orJ_j {N k : Nat} : ∀ i, i ≤ k → orJ N (k + 1) i = orJ (N / 10) k i := by
  intro i
  induction i with
  | zero => intro _; rfl
  | succ i ih =>
    intro hi
    rw [orJ, orJ, ih (by omega), rowN_j _ (by omega)]
theorem orJ_k {N k : Nat} : orJ N (k + 1) (k + 1) = orJ (N / 10) k k ||| 2 ^ (N % 10) := by
  rw [orJ, orJ_j k (Nat.le_refl k), rowN_k]
theorem cOk_or {G : Nat} (hG : G < 64) : ∀ k N S, S < 64 → (cOk G k N S = true ↔ N / 10 ^ k = 0 ∧ S ||| orJ N k k = G) := by
  intro k
  induction k with
  | zero =>
    intro N S _
    rw [cOk, decide_eq_true_iff, Nat.pow_zero, Nat.div_one, orJ, Nat.or_zero]
  | succ k ih =>
    intro N S hS
    rw [cOk, Bool.and_eq_true, decide_eq_true_iff, orJ_k, Nat.pow_succ, Nat.mul_comm, ← Nat.div_div_eq_div_mul]
    by_cases c : N % 10 < 6
    · have s2 : S ||| 2 ^ (N % 10) < 64 := Nat.or_lt_two_pow (n := 6) hS (Nat.pow_lt_pow_right (by decide) c)
      rw [ih (N / 10) (S ||| 2 ^ (N % 10)) s2, Nat.or_assoc, Nat.or_comm (2 ^ (N % 10))]
      exact ⟨fun w => w.2, fun w => ⟨c, w⟩⟩
    · refine ⟨fun w => absurd w.1 c, fun w => absurd (congrArg (fun z => z.testBit (N % 10)) w.2) ?_⟩
      rw [Nat.testBit_or, Nat.testBit_or, Nat.testBit_two_pow_self, Bool.or_true, Bool.or_true, Nat.testBit_lt_two_pow (Nat.lt_of_lt_of_le hG (Nat.pow_le_pow_right (n := 2) (by decide) (show 6 ≤ N % 10 by omega)))]
      decide
theorem pcF : ∀ n, n < 7 → pcN (2 ^ n - 1) = n := by decide +kernel
theorem u10_or : ∀ U, U < 1024 → ∀ x, x < 10 → nI U ||| ((1 : Int32) <<< (nI x &&& 31)) = nI (U ||| 2 ^ x) ∧ U ||| 2 ^ x < 1024 := by decide +kernel
theorem e_mixed {n N : Nat} {h : AH} (hn : 2 ≤ n ∧ n ≤ 5) (hN : N < 2 ^ 31) : f_X11_isMixedRow (nI n) (nI N) h = some (zb (mOk n (2 ^ n - 1) n N 0), h) := by
  have p32 : 2 ^ n ≤ 32 := Nat.le_trans (Nat.pow_le_pow_right (by decide) hn.2) (by decide)
  have pp : 0 < 2 ^ n := Nat.pow_pos (by decide)
  have cm : cOk (2 ^ n - 1) n N 0 = mOk n (2 ^ n - 1) n N 0 := cOk_2 (by omega) (by omega) n N 0 (by decide) (fun i _ q => by simp at q) (by rw [pcF n (by omega)]; show 0 + n = n; omega)
  have co := cOk_or (G := 2 ^ n - 1) (by omega) n N 0 (by decide)
  rw [cm, Nat.zero_or] at co
  obtain ⟨k, hk⟩ : ∃ k, n = k + 1 := ⟨n - 1, by omega⟩
  have p := sT4 k (by omega)
  have p10 : 10 ^ k ≤ 10 ^ 4 := Nat.pow_le_pow_right (by decide) (by omega)
  have p0 : 0 < 10 ^ k := Nat.pow_pos (by decide)
  have dd : N / 10 ^ n = N / 10 ^ k / 10 := by rw [hk, Nat.pow_succ, Nat.div_div_eq_div_mul]
  have dl : N / 10 ^ k < 2 ^ 31 := Nat.lt_of_le_of_lt (Nat.div_le_self _ _) hN
  unfold f_X11_isMixedRow
  rw [if_neg (show ¬ nI N < 0 from nI_pos hN), show nI n - 1 = nI k by rw [hk, nI_pred], show sN 4 = 5 from rfl, og_ix (by omega) (by omega), nI_clamp (by omega), og_t (decide_eq_true p.2), p.1, pk_div hN p0 (by omega)]
  by_cases c : N / 10 ^ k ≤ 9
  · rw [if_pos (show nI (N / 10 ^ k) ≤ 9 by rw [show (9 : Int32) = nI 9 from rfl, nI_leI dl (by decide)]; exact c)]
    refine lp (fun f i (U : Nat) => f_X11_isMixedRow_24 f (nI n) (nI N) (nI U) (nI i) h = some (zb (mOk n (2 ^ n - 1) n N 0), h)) (fun i U => U = orJ N n i ∧ U < 1024) n (by omega) ?_ ?_ (s := 0) ⟨rfl, by decide⟩
    · rintro f U ⟨eU, hU⟩
      rw [f_X11_isMixedRow_24, if_pos (by rw [nI_leI (by omega) (by omega)]; omega), shl_n n (by omega), show nI (2 ^ n) - 1 = nI (2 ^ n - 1) from pk_sub (b := 1) (by omega), f_X11_isMixedRow_60, f_X11_isMixedRow_60, og_t (by decide), og_t (by decide)]
      by_cases e : U = 2 ^ n - 1
      · rw [if_pos (by rw [e]), co.mpr ⟨by rw [dd]; exact Nat.div_eq_of_lt (by omega), by rw [← eU]; exact e⟩]
        rfl
      · rw [if_neg (by rw [nI_eq (by omega) (by omega)]; exact e)]
        cases w : mOk n (2 ^ n - 1) n N 0 with
        | false => rfl
        | true => exact absurd (by rw [eU]; exact (co.mp w).2) e
    · rintro f i U hi ⟨eU, hU⟩ K1
      have d10 : rowN N n i < 10 := Nat.mod_lt _ (by decide)
      have o := u10_or U hU _ d10
      rw [f_X11_isMixedRow_24, if_neg (by rw [nI_leI (by omega) (by omega)]; omega), e_right hn.2 hN hi, ob_some, o.1, nm_id, nm_id, nI_1]
      exact K1 _ ⟨by rw [orJ, eU], o.2⟩
  · rw [if_neg (show ¬ nI (N / 10 ^ k) ≤ 9 by rw [show (9 : Int32) = nI 9 from rfl, nI_leI dl (by decide)]; exact c), f_X11_isMixedRow_18]
    cases w : mOk n (2 ^ n - 1) n N 0 with
    | false => rfl
    | true =>
      have := (co.mp w).1
      rw [dd] at this
      omega

theorem orL_J {N n : Nat} : ∀ i, i ≤ n → orR (rwL N n) i = orJ N n i := by
  intro i
  induction i with
  | zero => intro _; rfl
  | succ i ih =>
    intro hi
    rw [orR, orJ, ih (by omega), rwL_g (by omega)]
theorem in25 {x : Int32} (h1 : ¬ x < 2) (h3 : ¬ 5 < x) : ∃ n, (2 ≤ n ∧ n ≤ 5) ∧ x = nI n := by
  rw [Int32.lt_iff_toInt_lt] at h1 h3
  have z1 : (2 : Int32).toInt = 2 := rfl
  have z3 : (5 : Int32).toInt = 5 := rfl
  rw [z1] at h1
  rw [z3] at h3
  have : x.toInt = 2 ∨ x.toInt = 3 ∨ x.toInt = 4 ∨ x.toInt = 5 := by omega
  rcases this with q | q | q | q
  · exact ⟨2, by decide, Int32.toInt_inj.mp (by rw [q]; rfl)⟩
  · exact ⟨3, by decide, Int32.toInt_inj.mp (by rw [q]; rfl)⟩
  · exact ⟨4, by decide, Int32.toInt_inj.mp (by rw [q]; rfl)⟩
  · exact ⟨5, by decide, Int32.toInt_inj.mp (by rw [q]; rfl)⟩
theorem e_isIn25 (x : Int32) (h : AH) : f_X12_isIn x.toInt64 2 5 h = some (zb (decide (¬ x < 2 ∧ ¬ 5 < x)), h) := e_X12_isIn x 2 5 h
theorem e_isIn2x (x y : Int32) (h : AH) : f_X12_isIn x.toInt64 2 y.toInt64 h = some (zb (decide (¬ x < 2 ∧ ¬ y < x)), h) := e_X12_isIn x 2 y h
theorem g19 : G19 Rel := by
  intro h ⟨v, R⟩ a1 a2 a3
  have R2 := R.thr (x := 0)
  by_cases c1 : a1 < 2
  · refine ⟨-1, h, sI h 56 0 0, ?_, ?_, v, R2⟩
    · unfold f_X11_odd f_X11_odd_28
      rw [if_pos c1]
    · unfold f_X12_odd f_X12_odd_36
      rw [nm_id, e_isIn25, ob_some, decide_eq_false (fun w => w.1 c1), zi, if_neg (by decide)]
  · by_cases c2 : 5 < a1
    · refine ⟨-1, h, sI h 56 0 0, ?_, ?_, v, R2⟩
      · unfold f_X11_odd f_X11_odd_28
        rw [if_neg c1, if_pos c2]
      · unfold f_X12_odd f_X12_odd_36
        rw [nm_id, e_isIn25, ob_some, decide_eq_false (fun w => w.2 c2), zi, if_neg (by decide)]
    · have t1 : decide (¬ a1 < 2 ∧ ¬ 5 < a1) = true := decide_eq_true ⟨c1, c2⟩
      by_cases c3 : a3 < 2
      · refine ⟨-1, h, sI h 56 0 0, ?_, ?_, v, R2⟩
        · unfold f_X11_odd f_X11_odd_28
          rw [if_neg c1, if_neg c2, if_pos c3]
        · unfold f_X12_odd f_X12_odd_36
          rw [nm_id, e_isIn25, ob_some, t1, zi, if_pos rfl, e_isIn2x, ob_some, decide_eq_false (fun w => w.1 c3), zi, if_neg (by decide)]
      · by_cases c4 : a1 < a3
        · refine ⟨-1, h, sI h 56 0 0, ?_, ?_, v, R2⟩
          · unfold f_X11_odd f_X11_odd_28
            rw [if_neg c1, if_neg c2, if_neg c3, if_pos c4]
          · unfold f_X12_odd f_X12_odd_36
            rw [nm_id, e_isIn25, ob_some, t1, zi, if_pos rfl, e_isIn2x, ob_some, decide_eq_false (fun w => w.2 c4), zi, if_neg (by decide)]
        · have t2 : decide (¬ a3 < 2 ∧ ¬ a1 < a3) = true := decide_eq_true ⟨c3, c4⟩
          by_cases c5 : a2 < 0
          · refine ⟨-1, h, sI h 56 0 0, ?_, ?_, v, R2⟩
            · unfold f_X11_odd f_X11_odd_28 f_X11_isMixedRow f_X11_isMixedRow_18
              rw [if_neg c1, if_neg c2, if_neg c3, if_neg c4, if_pos c5, ob_some, if_pos rfl]
            · unfold f_X12_odd f_X12_odd_36
              rw [nm_id, e_isIn25, ob_some, t1, zi, if_pos rfl, e_isIn2x, ob_some, t2, zi, if_pos rfl, if_neg (fun w => Int32.not_lt.mpr w c5)]
          · obtain ⟨n, hn, en⟩ := in25 c1 c2
            have c3' : ¬ 5 < a3 := by
              intro w
              rw [Int32.lt_iff_toInt_lt] at c4 w c2
              omega
            obtain ⟨K, hK0, eK⟩ := in25 c3 c3'
            have hK : 2 ≤ K ∧ K ≤ n := by
              refine ⟨hK0.1, ?_⟩
              rw [en, eK, nI_ltI (by omega) (by omega)] at c4
              omega
            obtain ⟨N, hN, eN⟩ : ∃ N, N < 2 ^ 31 ∧ a2 = nI N := nI_of c5
            subst en eK eN
            have mx := e_mixed (h := h) hn hN
            obtain ⟨h3, e1, e2, _⟩ := e_49 (n := n) (K := K) hn.2 n (Nat.le_refl _) FU (by unfold FU; omega) N 0 (sI h 56 0 0) hN (by decide)
            have M1 : f_X12_odd 56 (nI n) (nI N) (nI K) h = if mOk n (2 ^ n - 1) n N 0 = true then f_X12_odd_131 FU 56 (nI n) (nI K) 0 h3 else some (-1, h3) := by
              unfold f_X12_odd
              rw [nm_id, e_isIn25, ob_some, t1, zi, if_pos rfl, e_isIn2x, ob_some, t2, zi, if_pos rfl, if_pos (Int32.not_lt.mp c5), nm_id]
              exact e1
            cases w : mOk n (2 ^ n - 1) n N 0 with
            | false =>
              rw [w, if_neg (by decide)] at M1
              have W2 : Agr W_X12_odd_i56 h h3 := w_f_X12_odd_i56 _ _ _ _ _ M1
              refine ⟨-1, h, h3, ?_, M1, v, rel_agr W2 rfl R⟩
              unfold f_X11_odd f_X11_odd_28
              rw [if_neg c1, if_neg c2, if_neg c3, if_neg c4, mx, w, ob_some, zi, if_neg (by decide)]
            | true =>
              have mr := (mOk_r n N 0 w).1
              have vl : ∀ j, j < n → rowN N n j < n := fun j hj => (mr j hj).1
              have lv : (rwL N n).length = n := by
                unfold rwL
                rw [List.length_map, List.length_range]
              have v5 : ∀ y ∈ rwL N n, y < 5 := by
                intro y hy
                obtain ⟨j, hj, rfl⟩ := List.mem_map.mp hy
                have := vl j (List.mem_range.mp hj)
                omega
              have cl : cd5 (rwL N n) < 5 ^ n := by
                have := cd5_lt _ v5
                rw [lv] at this
                exact this
              have dc := dec_cd _ v5
              rw [lv] at dc
              have oo : orR (dec5 n (cd5 (rwL N n))) n = 2 ^ n - 1 := by
                rw [dc, orL_J n (Nat.le_refl n)]
                have p32 : 2 ^ n ≤ 32 := Nat.le_trans (Nat.pow_le_pow_right (by decide) hn.2) (by decide)
                have pp : 0 < 2 ^ n := Nat.pow_pos (by decide)
                have cm : cOk (2 ^ n - 1) n N 0 = mOk n (2 ^ n - 1) n N 0 := cOk_2 (by omega) (by omega) n N 0 (by decide) (fun i _ q => by simp at q) (by rw [pcF n (by omega)]; show 0 + n = n; omega)
                have co := cOk_or (G := 2 ^ n - 1) (by omega) n N 0 (by decide)
                rw [cm, Nat.zero_or] at co
                exact (co.mp w).2
              have tt := T5_T hn hK cl oo
              rw [dc] at tt
              have c4' : cf5 n K (rwL N n) ≠ 7 := by
                unfold cf5
                have := rgs_le (n := n) (v := rwL N n) n
                split
                · omega
                · split
                  · decide
                  · split <;> decide
              obtain ⟨h4, e4⟩ := e_131 (g := h3) hn hK lv v5 (by rw [tt]; exact c4') (fun j hj => by rw [e2 j hj w, rwL_g hj])
              rw [w, if_pos rfl, e4, tt] at M1
              have W2 : Agr W_X12_odd_i56 h h4 := w_f_X12_odd_i56 _ _ _ _ _ M1
              refine ⟨nI (cf5 n K (rwL N n)), h, h4, ?_, M1, v, rel_agr W2 rfl R⟩
              unfold f_X11_odd
              rw [if_neg c1, if_neg c2, if_neg c3, if_neg c4, mx, w, ob_some, zi, if_pos rfl, e_39 hn.2 hN hK vl]
/-! from Rel to Rel2: cell 50 is only the dream's -/
theorem q0 (g : G0 Rel) : G0 Rel2 := by
  intro h ⟨R, z⟩ a1 a2 a3 a4 a5
  obtain ⟨r, h1, h2, e1, e2, R2⟩ := g h R a1 a2 a3 a4 a5
  have f1 : Agr W_X11_feed_i0 h h1 := w_f_X11_feed_i0 _ _ _ _ _ _ _ e1
  have f2 : Agr W_X12_feed_i56 h1 h2 := w_f_X12_feed_i56 _ _ _ _ _ _ _ e2
  exact ⟨r, h1, h2, e1, e2, R2, fun j hj => by rw [agr_cell f2 50 rfl, agr_cell f1 50 rfl]; exact z j hj⟩
theorem q1 (g : G1 Rel) : G1 Rel2 := by
  intro h ⟨R, z⟩ a1
  obtain ⟨r, h1, h2, e1, e2, R2⟩ := g h R a1
  have f1 : Agr W_X11_end_i0 h h1 := w_f_X11_end_i0 _ _ _ e1
  have f2 : Agr W_X12_end_i56 h1 h2 := w_f_X12_end_i56 _ _ _ e2
  exact ⟨r, h1, h2, e1, e2, R2, fun j hj => by rw [agr_cell f2 50 rfl, agr_cell f1 50 rfl]; exact z j hj⟩
theorem q2 (g : G2 Rel) : G2 Rel2 := by
  intro h ⟨R, z⟩ a1
  obtain ⟨r, h1, h2, e1, e2, R2⟩ := g h R a1
  have f1 : Agr W_X11_fault_i0 h h1 := w_f_X11_fault_i0 _ _ _ e1
  have f2 : Agr W_X12_fault_i56 h1 h2 := w_f_X12_fault_i56 _ _ _ e2
  exact ⟨r, h1, h2, e1, e2, R2, fun j hj => by rw [agr_cell f2 50 rfl, agr_cell f1 50 rfl]; exact z j hj⟩
theorem q3 (g : G3 Rel) : G3 Rel2 := by
  intro h ⟨R, z⟩ a1
  obtain ⟨r, h1, h2, e1, e2, R2⟩ := g h R a1
  have f1 : Agr W_X11_text_i0 h h1 := w_f_X11_text_i0 _ _ _ e1
  have f2 : Agr W_X12_text_i56 h1 h2 := w_f_X12_text_i56 _ _ _ e2
  exact ⟨r, h1, h2, e1, e2, R2, fun j hj => by rw [agr_cell f2 50 rfl, agr_cell f1 50 rfl]; exact z j hj⟩
theorem q5 (g : G5 Rel) : G5 Rel2 := by
  intro h ⟨R, z⟩ a1 a2
  obtain ⟨r, h1, h2, e1, e2, R2⟩ := g h R a1 a2
  have f1 : Agr W_X11_pair_i0 h h1 := w_f_X11_pair_i0 _ _ _ _ e1
  have f2 : Agr W_X12_pair_i56 h1 h2 := w_f_X12_pair_i56 _ _ _ _ e2
  exact ⟨r, h1, h2, e1, e2, R2, fun j hj => by rw [agr_cell f2 50 rfl, agr_cell f1 50 rfl]; exact z j hj⟩
theorem q6 (g : G6 Rel) : G6 Rel2 := by
  intro h ⟨R, z⟩ a1 a2
  obtain ⟨r, h1, h2, e1, e2, R2⟩ := g h R a1 a2
  have f1 : Agr W_X11_fits_i0 h h1 := w_f_X11_fits_i0 _ _ _ _ e1
  have f2 : Agr W_X12_fits_i56 h1 h2 := w_f_X12_fits_i56 _ _ _ _ e2
  exact ⟨r, h1, h2, e1, e2, R2, fun j hj => by rw [agr_cell f2 50 rfl, agr_cell f1 50 rfl]; exact z j hj⟩
theorem q7 (g : G7 Rel) : G7 Rel2 := by
  intro h ⟨R, z⟩ a1 a2
  obtain ⟨r, h1, h2, e1, e2, R2⟩ := g h R a1 a2
  have f1 : Agr W_X11_rule_i0 h h1 := w_f_X11_rule_i0 _ _ _ _ e1
  have f2 : Agr W_X12_rule_i56 h1 h2 := w_f_X12_rule_i56 _ _ _ _ e2
  exact ⟨r, h1, h2, e1, e2, R2, fun j hj => by rw [agr_cell f2 50 rfl, agr_cell f1 50 rfl]; exact z j hj⟩
theorem q8 (g : G8 Rel) : G8 Rel2 := by
  intro h ⟨R, z⟩ a1 a2 a3
  obtain ⟨r, h1, h2, e1, e2, R2⟩ := g h R a1 a2 a3
  have f1 : Agr W_X11_evening_i0 h h1 := w_f_X11_evening_i0 _ _ _ _ _ e1
  have f2 : Agr W_X12_evening_i56 h1 h2 := w_f_X12_evening_i56 _ _ _ _ _ e2
  exact ⟨r, h1, h2, e1, e2, R2, fun j hj => by rw [agr_cell f2 50 rfl, agr_cell f1 50 rfl]; exact z j hj⟩
theorem q9 (g : G9 Rel) : G9 Rel2 := by
  intro h ⟨R, z⟩ a1 a2 a3 a4
  obtain ⟨r, h1, h2, e1, e2, R2⟩ := g h R a1 a2 a3 a4
  have f1 : Agr W_X11_tried_i0 h h1 := w_f_X11_tried_i0 _ _ _ _ _ _ e1
  have f2 : Agr W_X12_tried_i56 h1 h2 := w_f_X12_tried_i56 _ _ _ _ _ _ e2
  exact ⟨r, h1, h2, e1, e2, R2, fun j hj => by rw [agr_cell f2 50 rfl, agr_cell f1 50 rfl]; exact z j hj⟩
theorem q10 (g : G10 Rel) : G10 Rel2 := by
  intro h ⟨R, z⟩ a1 a2 a3 a4
  obtain ⟨r, h1, h2, e1, e2, R2⟩ := g h R a1 a2 a3 a4
  have f1 : Agr W_X11_orders_i0 h h1 := w_f_X11_orders_i0 _ _ _ _ _ _ e1
  have f2 : Agr W_X12_orders_i56 h1 h2 := w_f_X12_orders_i56 _ _ _ _ _ _ e2
  exact ⟨r, h1, h2, e1, e2, R2, fun j hj => by rw [agr_cell f2 50 rfl, agr_cell f1 50 rfl]; exact z j hj⟩
theorem q11 (g : G11 Rel) : G11 Rel2 := by
  intro h ⟨R, z⟩ a1 a2 a3
  obtain ⟨r, h1, h2, e1, e2, R2⟩ := g h R a1 a2 a3
  have f1 : Agr W_X11_worst_i0 h h1 := w_f_X11_worst_i0 _ _ _ _ _ e1
  have f2 : Agr W_X12_worst_i56 h1 h2 := w_f_X12_worst_i56 _ _ _ _ _ e2
  exact ⟨r, h1, h2, e1, e2, R2, fun j hj => by rw [agr_cell f2 50 rfl, agr_cell f1 50 rfl]; exact z j hj⟩
theorem q12 (g : G12 Rel) : G12 Rel2 := by
  intro h ⟨R, z⟩ a1 a2 a3 a4
  obtain ⟨r, h1, h2, e1, e2, R2⟩ := g h R a1 a2 a3 a4
  have f1 : Agr W_X11_host_i0 h h1 := w_f_X11_host_i0 _ _ _ _ _ _ e1
  have f2 : Agr W_X12_host_i56 h1 h2 := w_f_X12_host_i56 _ _ _ _ _ _ e2
  exact ⟨r, h1, h2, e1, e2, R2, fun j hj => by rw [agr_cell f2 50 rfl, agr_cell f1 50 rfl]; exact z j hj⟩
theorem q13 (g : G13 Rel) : G13 Rel2 := by
  intro h ⟨R, z⟩ a1 a2 a3 a4 a5
  obtain ⟨r, h1, h2, e1, e2, R2⟩ := g h R a1 a2 a3 a4 a5
  have f1 : Agr W_X11_hide_i0 h h1 := w_f_X11_hide_i0 _ _ _ _ _ _ _ e1
  have f2 : Agr W_X12_hide_i56 h1 h2 := w_f_X12_hide_i56 _ _ _ _ _ _ _ e2
  exact ⟨r, h1, h2, e1, e2, R2, fun j hj => by rw [agr_cell f2 50 rfl, agr_cell f1 50 rfl]; exact z j hj⟩
theorem q14 (g : G14 Rel) : G14 Rel2 := by
  intro h ⟨R, z⟩ a1 a2 a3 a4
  obtain ⟨r, h1, h2, e1, e2, R2⟩ := g h R a1 a2 a3 a4
  have f1 : Agr W_X11_rests_i0 h h1 := w_f_X11_rests_i0 _ _ _ _ _ _ e1
  have f2 : Agr W_X12_rests_i56 h1 h2 := w_f_X12_rests_i56 _ _ _ _ _ _ e2
  exact ⟨r, h1, h2, e1, e2, R2, fun j hj => by rw [agr_cell f2 50 rfl, agr_cell f1 50 rfl]; exact z j hj⟩
theorem q15 (g : G15 Rel) : G15 Rel2 := by
  intro h ⟨R, z⟩ a1 a2
  obtain ⟨r, h1, h2, e1, e2, R2⟩ := g h R a1 a2
  have f1 : Agr W_X11_quiet_i0 h h1 := w_f_X11_quiet_i0 _ _ _ _ e1
  have f2 : Agr W_X12_quiet_i56 h1 h2 := w_f_X12_quiet_i56 _ _ _ _ e2
  exact ⟨r, h1, h2, e1, e2, R2, fun j hj => by rw [agr_cell f2 50 rfl, agr_cell f1 50 rfl]; exact z j hj⟩
theorem q16 (g : G16 Rel) : G16 Rel2 := by
  intro h ⟨R, z⟩ a1 a2
  obtain ⟨r, h1, h2, e1, e2, R2⟩ := g h R a1 a2
  have f1 : Agr W_X11_year_i0 h h1 := w_f_X11_year_i0 _ _ _ _ e1
  have f2 : Agr W_X12_year_i56 h1 h2 := w_f_X12_year_i56 _ _ _ _ e2
  exact ⟨r, h1, h2, e1, e2, R2, fun j hj => by rw [agr_cell f2 50 rfl, agr_cell f1 50 rfl]; exact z j hj⟩
theorem q17 (g : G17 Rel) : G17 Rel2 := by
  intro h ⟨R, z⟩ a1 a2 a3
  obtain ⟨r, h1, h2, e1, e2, R2⟩ := g h R a1 a2 a3
  have f1 : Agr W_X11_likely_i0 h h1 := w_f_X11_likely_i0 _ _ _ _ _ e1
  have f2 : Agr W_X12_likely_i56 h1 h2 := w_f_X12_likely_i56 _ _ _ _ _ e2
  exact ⟨r, h1, h2, e1, e2, R2, fun j hj => by rw [agr_cell f2 50 rfl, agr_cell f1 50 rfl]; exact z j hj⟩
theorem q18 (g : G18 Rel) : G18 Rel2 := by
  intro h ⟨R, z⟩ a1 a2 a3 a4 a5
  obtain ⟨r, h1, h2, e1, e2, R2⟩ := g h R a1 a2 a3 a4 a5
  have f1 : Agr W_X11_cobbler_i0 h h1 := w_f_X11_cobbler_i0 _ _ _ _ _ _ _ e1
  have f2 : Agr W_X12_cobbler_i56 h1 h2 := w_f_X12_cobbler_i56 _ _ _ _ _ _ _ e2
  exact ⟨r, h1, h2, e1, e2, R2, fun j hj => by rw [agr_cell f2 50 rfl, agr_cell f1 50 rfl]; exact z j hj⟩
theorem q19 (g : G19 Rel) : G19 Rel2 := by
  intro h ⟨R, z⟩ a1 a2 a3
  obtain ⟨r, h1, h2, e1, e2, R2⟩ := g h R a1 a2 a3
  have f1 : Agr W_X11_odd_i0 h h1 := w_f_X11_odd_i0 _ _ _ _ _ e1
  have f2 : Agr W_X12_odd_i56 h1 h2 := w_f_X12_odd_i56 _ _ _ _ _ e2
  exact ⟨r, h1, h2, e1, e2, R2, fun j hj => by rw [agr_cell f2 50 rfl, agr_cell f1 50 rfl]; exact z j hj⟩
theorem q20 (g : G20 Rel) : G20 Rel2 := by
  intro h ⟨R, z⟩ a1 a2 a3
  obtain ⟨r, h1, h2, e1, e2, R2⟩ := g h R a1 a2 a3
  have f1 : Agr W_X11_sight_i0 h h1 := w_f_X11_sight_i0 _ _ _ _ _ e1
  have f2 : Agr W_X12_sight_i56 h1 h2 := w_f_X12_sight_i56 _ _ _ _ _ e2
  exact ⟨r, h1, h2, e1, e2, R2, fun j hj => by rw [agr_cell f2 50 rfl, agr_cell f1 50 rfl]; exact z j hj⟩
theorem q21 (g : G21 Rel) : G21 Rel2 := by
  intro h ⟨R, z⟩ 
  obtain ⟨r, h1, h2, e1, e2, R2⟩ := g h R 
  have f1 : Agr W_X11_agree_i0 h h1 := w_f_X11_agree_i0 _ _ e1
  have f2 : Agr W_X12_agree_i56 h1 h2 := w_f_X12_agree_i56 _ _ e2
  exact ⟨r, h1, h2, e1, e2, R2, fun j hj => by rw [agr_cell f2 50 rfl, agr_cell f1 50 rfl]; exact z j hj⟩
theorem q22 (g : G22 Rel) : G22 Rel2 := by
  intro h ⟨R, z⟩ a1 a2
  obtain ⟨r, h1, h2, e1, e2, R2⟩ := g h R a1 a2
  have f1 : Agr W_X11_been_i0 h h1 := w_f_X11_been_i0 _ _ _ _ e1
  have f2 : Agr W_X12_been_i56 h1 h2 := w_f_X12_been_i56 _ _ _ _ e2
  exact ⟨r, h1, h2, e1, e2, R2, fun j hj => by rw [agr_cell f2 50 rfl, agr_cell f1 50 rfl]; exact z j hj⟩
theorem q23 (g : G23 Rel) : G23 Rel2 := by
  intro h ⟨R, z⟩ a1 a2 a3
  obtain ⟨r, h1, h2, e1, e2, R2⟩ := g h R a1 a2 a3
  have f1 : Agr W_X11_left_i0 h h1 := w_f_X11_left_i0 _ _ _ _ _ e1
  have f2 : Agr W_X12_left_i56 h1 h2 := w_f_X12_left_i56 _ _ _ _ _ e2
  exact ⟨r, h1, h2, e1, e2, R2, fun j hj => by rw [agr_cell f2 50 rfl, agr_cell f1 50 rfl]; exact z j hj⟩
theorem q24 (g : G24 Rel) : G24 Rel2 := by
  intro h ⟨R, z⟩ a1 a2 a3 a4 a5
  obtain ⟨r, h1, h2, e1, e2, R2⟩ := g h R a1 a2 a3 a4 a5
  have f1 : Agr W_X11_swap_i0 h h1 := w_f_X11_swap_i0 _ _ _ _ _ _ _ e1
  have f2 : Agr W_X12_swap_i56 h1 h2 := w_f_X12_swap_i56 _ _ _ _ _ _ _ e2
  exact ⟨r, h1, h2, e1, e2, R2, fun j hj => by rw [agr_cell f2 50 rfl, agr_cell f1 50 rfl]; exact z j hj⟩
theorem q26 (g : G26 Rel) : G26 Rel2 := by
  intro h ⟨R, z⟩ a1 a2
  obtain ⟨r, h1, h2, e1, e2, R2⟩ := g h R a1 a2
  have f1 : Agr W_X11_bring_i0 h h1 := w_f_X11_bring_i0 _ _ _ _ e1
  have f2 : Agr W_X12_bring_i56 h1 h2 := w_f_X12_bring_i56 _ _ _ _ e2
  exact ⟨r, h1, h2, e1, e2, R2, fun j hj => by rw [agr_cell f2 50 rfl, agr_cell f1 50 rfl]; exact z j hj⟩
theorem q27 (g : G27 Rel) : G27 Rel2 := by
  intro h ⟨R, z⟩ 
  obtain ⟨r, h1, h2, e1, e2, R2⟩ := g h R 
  have f1 : Agr W_X11_steady_i0 h h1 := w_f_X11_steady_i0 _ _ e1
  have f2 : Agr W_X12_steady_i56 h1 h2 := w_f_X12_steady_i56 _ _ e2
  exact ⟨r, h1, h2, e1, e2, R2, fun j hj => by rw [agr_cell f2 50 rfl, agr_cell f1 50 rfl]; exact z j hj⟩
theorem q28 (g : G28 Rel) : G28 Rel2 := by
  intro h ⟨R, z⟩ 
  obtain ⟨r, h1, h2, e1, e2, R2⟩ := g h R 
  have f1 : Agr W_X11_lost_i0 h h1 := w_f_X11_lost_i0 _ _ e1
  have f2 : Agr W_X12_lost_i56 h1 h2 := w_f_X12_lost_i56 _ _ e2
  exact ⟨r, h1, h2, e1, e2, R2, fun j hj => by rw [agr_cell f2 50 rfl, agr_cell f1 50 rfl]; exact z j hj⟩
theorem q29 (g : G29 Rel) : G29 Rel2 := by
  intro h ⟨R, z⟩ a1
  obtain ⟨r, h1, h2, e1, e2, R2⟩ := g h R a1
  have f1 : Agr W_X11_envy_i0 h h1 := w_f_X11_envy_i0 _ _ _ e1
  have f2 : Agr W_X12_envy_i56 h1 h2 := w_f_X12_envy_i56 _ _ _ e2
  exact ⟨r, h1, h2, e1, e2, R2, fun j hj => by rw [agr_cell f2 50 rfl, agr_cell f1 50 rfl]; exact z j hj⟩
theorem q30 (g : G30 Rel) : G30 Rel2 := by
  intro h ⟨R, z⟩ 
  obtain ⟨r, h1, h2, e1, e2, R2⟩ := g h R 
  have f1 : Agr W_X11_image_i0 h h1 := w_f_X11_image_i0 _ _ e1
  have f2 : Agr W_X12_image_i56 h1 h2 := w_f_X12_image_i56 _ _ e2
  exact ⟨r, h1, h2, e1, e2, R2, fun j hj => by rw [agr_cell f2 50 rfl, agr_cell f1 50 rfl]; exact z j hj⟩
theorem q31 (g : G31 Rel) : G31 Rel2 := by
  intro h ⟨R, z⟩ 
  obtain ⟨r, h1, h2, e1, e2, R2⟩ := g h R 
  have f1 : Agr W_X11_back_i0 h h1 := w_f_X11_back_i0 _ _ e1
  have f2 : Agr W_X12_back_i56 h1 h2 := w_f_X12_back_i56 _ _ e2
  exact ⟨r, h1, h2, e1, e2, R2, fun j hj => by rw [agr_cell f2 50 rfl, agr_cell f1 50 rfl]; exact z j hj⟩
theorem q32 (g : G32 Rel) : G32 Rel2 := by
  intro h ⟨R, z⟩ a1
  obtain ⟨r, h1, h2, e1, e2, R2⟩ := g h R a1
  have f1 : Agr W_X11_count_i0 h h1 := w_f_X11_count_i0 _ _ _ e1
  have f2 : Agr W_X12_count_i56 h1 h2 := w_f_X12_count_i56 _ _ _ e2
  exact ⟨r, h1, h2, e1, e2, R2, fun j hj => by rw [agr_cell f2 50 rfl, agr_cell f1 50 rfl]; exact z j hj⟩
theorem w_persC (x1 x2 : Int32) (h : AH) : Fm Prod.snd [] h (f_X11_person 0 x1 x2 h) := by
  unfold f_X11_person f_X11_person_22 f_X11_person_81
  have a_h : Agr [] h h := agr_refl h
  refine fm_ob (w_f_X11_isKnown_i0 _ _) rfl a_h (fun r_3 h_2 a_h_2 => ?_)
  refine fm_ite fm_none (fm_ite fm_none (fm_ite (fm_ite (fm_ite (fm_og (fun _ => fm_some a_h_2)) (fm_og (fun _ => fm_some a_h_2))) (fm_og (fun _ => ?_))) fm_none))
  refine fm_ob (w_f_X6_item_i3 _ _ _) rfl a_h_2 (fun r h_13 a => fm_some a)
theorem q4 (g : G4 Rel) : G4 Rel2 := by
  intro h ⟨R, z⟩ a1 a2
  obtain ⟨r, h1, v, h2, h3, e1, e2, e3, e4, R3⟩ := g h R a1 a2
  have k1 : ∀ j, h1.1 50 j = h.1 50 j := by
    rcases e1 with ⟨v', g1, p1, _, rfl⟩ | ⟨_, _, rfl⟩
    · intro j
      have a : Agr [] h g1 := w_persC _ _ _ _ p1
      show g1.1 50 j = h.1 50 j
      rw [agr_cell a 50 rfl]
    · exact fun _ => rfl
  have f2 : Agr W_X12_person_i56 h1 h2 := w_f_X12_person_i56 _ _ _ _ e2
  have f3 : Agr W_X12_thrown_i56 h2 h3 := w_f_X12_thrown_i56 _ _ e3
  exact ⟨r, h1, v, h2, h3, e1, e2, e3, e4, R3, fun j hj => by rw [agr_cell f3 50 rfl, agr_cell f2 50 rfl, k1]; exact z j hj⟩
theorem rel2_init : Rel2 hInit := by
  refine ⟨rel_mk (L := 0) (n := 0) (rc := 0) (E := 0) (S := 0) (tx := fun _ => 0) (it := fun _ _ => 0) (ro := fun _ => 0) (has := fun _ => 0) (pl := fun _ => 0) (wo := fun _ => 0) (cl := fun _ => 0) (co := fun _ _ => 0) (di := fun _ _ => 0) (se := fun _ => 0) (sw := fun _ => 0) (ss := fun _ => 0) (im := false) (kE := 0) (kS := 0) (kh := fun _ => 0) (kp := fun _ => 0) (kw := fun _ => 0) ⟨by decide, rfl, rfl, fun j hj => absurd hj (by omega)⟩ ⟨Or.inl rfl, by decide, fun p hp => absurd hp (by omega), rfl, rfl, fun p hp => absurd hp (by omega), fun p hp => absurd hp (by omega)⟩ (fun p hp => absurd hp (by omega)) ⟨by decide, rfl, rfl, fun r hr => absurd hr (by omega)⟩ ⟨⟨fun p hp => absurd hp (by omega), fun p hp => absurd hp (by omega), fun p hp => absurd hp (by omega)⟩, fun p hp => absurd hp (by omega), fun p _ _ => rfl⟩ ⟨by decide, rfl, rfl, fun e he => absurd he (by omega)⟩ ⟨by decide, rfl, rfl, fun e he => absurd he (by omega)⟩ ⟨rfl, rfl, fun w => absurd w (by decide)⟩, fun j _ => rfl⟩
theorem good_of (h17 : G17 Rel) (h26 : G26 Rel) : Good Rel2 := ⟨q0 g0, q1 g1, q2 g2, q3 g3, q4 g4, q5 g5, q6 g6, q7 g7, q8 g8, q9 g9, q10 g10, q11 g11, q12 g12, q13 g13, q14 g14, q15 g15, q16 g16, q17 h17, q18 g18, q19 g19, q20 g20, q21 g21, q22 g22, q23 g23, q24 g24, g25, q26 h26, q27 g27, q28 g28, q29 g29, q30 g30, q31 g31, q32 g32⟩
