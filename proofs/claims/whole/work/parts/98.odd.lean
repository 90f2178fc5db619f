/-! odd: a meeting -/
def gv (n S : Nat) (v : List Nat) : Nat → Nat → Nat → List Nat → List (List Nat)
  | 0, _, _, acc => [acc]
  | d + 1, i, U, acc => if S.testBit i = true then (List.range n).flatMap (fun x => if (S.testBit x && !(U.testBit x)) = true then gv n S v d (i + 1) (U ||| 2 ^ x) (acc ++ [v.getD x 0]) else []) else gv n S v d (i + 1) U (acc ++ [v.getD i 0])
def cd5 (l : List Nat) : Nat := l.foldl (fun a x => 5 * a + x) 0
theorem cd5_1 (l : List Nat) (x : Nat) : cd5 (l ++ [x]) = 5 * cd5 l + x := by
  unfold cd5
  rw [List.foldl_append]
  rfl
theorem cd5_g : ∀ (l : List Nat) (a : Nat), (∀ x ∈ l, x < 5) → l.foldl (fun a x => 5 * a + x) a < (a + 1) * 5 ^ l.length := by
  intro l
  induction l with
  | nil => intro a _; simp
  | cons x l ih =>
    intro a h
    have b := h x (List.mem_cons_self ..)
    have c := ih (5 * a + x) (fun y hy => h y (List.mem_cons_of_mem _ hy))
    have d : (5 * a + x + 1) * 5 ^ l.length ≤ (5 * (a + 1)) * 5 ^ l.length := Nat.mul_le_mul_right _ (by omega)
    have e : (5 * (a + 1)) * 5 ^ l.length = (a + 1) * 5 ^ (x :: l).length := by
      rw [List.length_cons, Nat.pow_succ, Nat.mul_comm 5 (a + 1), Nat.mul_assoc, Nat.mul_comm 5]
    rw [← e]
    exact Nat.lt_of_lt_of_le c d
theorem cd5_lt (l : List Nat) (h : ∀ x ∈ l, x < 5) : cd5 l < 5 ^ l.length := by
  have := cd5_g l 0 h
  rw [Nat.zero_add, Nat.one_mul] at this
  exact this
def mk5 (x : Int32) (c : Nat) (s : (Nat → Int32) × Int32) : (Nat → Int32) × Int32 := if s.1 c = -1 then (fun j => if j = c then x else s.1 j, 1) else s
def mkL (x : Int32) (l : List (List Nat)) (s : (Nat → Int32) × Int32) : (Nat → Int32) × Int32 := l.foldl (fun s w => mk5 x (cd5 w) s) s
theorem mkL_app {x : Int32} {a b : List (List Nat)} {s : (Nat → Int32) × Int32} : mkL x (a ++ b) s = mkL x b (mkL x a s) := List.foldl_append ..
theorem e_rowOf {k : Nat} {l : List Nat} {h : AH} (hk : an k = 5 ∨ an k = 6) (hl : l.length ≤ 5) (e : ∀ j, j < l.length → h.1 k j = nI (l.getD j 0)) : f_X12_rowOf k (nI l.length) h = some (nI (cd5 l), h) := by
  unfold f_X12_rowOf
  refine lp (fun f i (y : Int32) => f_X12_rowOf_4 f k (nI l.length) y (nI i) h = some (nI (cd5 l), h)) (fun i y => y = nI (cd5 (l.take i))) l.length (by omega) ?_ ?_ (s := 0) rfl
  · intro f y q
    rw [f_X12_rowOf_4, if_pos (by rw [nI_leI (by omega) (by omega)]; omega), q, List.take_length]
  · intro f i y hi q K
    rw [f_X12_rowOf_4, if_neg (by rw [nI_leI (by omega) (by omega)]; omega), og_ix (by omega) (by omega), nI_clamp (by omega), e i hi, q, nm_id, nm_id, nI_1]
    refine K _ ?_
    rw [take_1 hi, cd5_1, show (5 : Int32) * nI (cd5 (l.take i)) = nI (cd5 (l.take i) * 5) from k_mul' _ 5, nI_add, Nat.mul_comm]
theorem u5_or : ∀ U, U < 32 → ∀ x, x < 5 → nI U ||| ((1 : Int32) <<< (nI x &&& 31)) = nI (U ||| 2 ^ x) ∧ U ||| 2 ^ x < 32 := by decide +kernel
theorem e_give {n S x : Nat} {v : List Nat} (hn : n ≤ 5) (hS : S < 32) (hv : ∀ j, j < n → v.getD j 0 < 5) : ∀ d i U acc dp h, i + d = n → d < dp → U < 32 → acc.length = i → (∀ y ∈ acc, y < 5) → (∀ j, j < i → h.1 78 j = nI (acc.getD j 0)) → (∀ j, j < n → h.1 80 j = nI (v.getD j 0)) → ∃ h', r_X12_giveRound dp 56 (nI n) (nI S) (nI i) (nI U) 80 (nI x) h = some h' ∧ (h'.1 79, h'.1 56 45) = mkL (nI x) (gv n S v d i U acc) (h.1 79, h.1 56 45) ∧ ∀ j, j < i → h'.1 78 j = h.1 78 j := by
  intro d
  induction d with
  | zero =>
    intro i U acc dp h hi hdp hU hl ha e78 e80
    obtain ⟨dp', rfl⟩ : ∃ z, dp = z + 1 := ⟨dp - 1, by omega⟩
    have ii : i = n := by omega
    have cl := cd5_lt acc ha
    have c5 : cd5 acc < 3125 := Nat.lt_of_lt_of_le cl (Nat.le_trans (Nat.pow_le_pow_right (by decide) (show acc.length ≤ 5 by omega)) (by decide))
    have ro := e_rowOf (k := 78) (l := acc) (h := h) (Or.inl rfl) (by omega) (fun j hj => e78 j (by omega))
    rw [hl] at ro
    rw [show mkL (nI x) (gv n S v 0 i U acc) (h.1 79, h.1 56 45) = mk5 (nI x) (cd5 acc) (h.1 79, h.1 56 45) from rfl]
    rw [r_X12_giveRound, f_X12_giveRound, ii, if_pos rfl, rv_56_43, rv_56_44, ← ii, ro, ob_some, an_79, og_ix c5 (by omega), nI_clamp (by omega)]
    unfold mk5
    by_cases b : h.1 79 (cd5 acc) = -1
    · rw [if_pos b, if_pos b, og_ix c5 (by omega), nm_id, nm_id]
      refine ⟨_, rfl, ?_, fun j hj => rfl⟩
      refine Prod.ext ?_ rfl
      funext j
      show (sI h 79 (cd5 acc) (nI x)).1 79 j = if j = cd5 acc then nI x else h.1 79 j
      by_cases e : j = cd5 acc
      · subst e
        rw [sI_s, if_pos rfl]
      · rw [sI_n (Or.inr e), if_neg e]
    · rw [if_neg b, if_neg b]
      exact ⟨h, rfl, rfl, fun _ _ => rfl⟩
  | succ d ih =>
    intro i U acc dp h hi hdp hU hl ha e78 e80
    obtain ⟨dp', rfl⟩ : ∃ z, dp = z + 1 := ⟨dp - 1, by omega⟩
    rw [r_X12_giveRound, f_X12_giveRound, if_neg (by rw [nI_eq (by omega) (by omega)]; omega), e_X12_has, ob_some, inS_tb S (by omega) i (by omega), zi, gv]
    have step : ∀ y, y < n → ∀ g : AH, (∀ j, j < i → g.1 78 j = nI (acc.getD j 0)) → ∀ j, j < i + 1 → (sI g 78 i (nI (v.getD y 0))).1 78 j = nI ((acc ++ [v.getD y 0]).getD j 0) := by
      intro y hy g e j hj
      by_cases q : j = i
      · subst q
        rw [sI_s, ← hl, gN2]
      · rw [sI_n (Or.inr q), gN1 (by omega)]
        exact e j (by omega)
    have mem : ∀ y, y < n → ∀ z ∈ acc ++ [v.getD y 0], z < 5 := by
      intro y hy z hz
      rcases List.mem_append.mp hz with q | q
      · exact ha z q
      · rw [List.mem_singleton.mp q]
        exact hv y hy
    by_cases b : S.testBit i = true
    · rw [if_pos b, if_pos b]
      unfold f_X12_giveRound_138 at *
      refine lp (fun f y g => ∃ h', f_X12_giveRound_79 (r_X12_giveRound dp') f 56 (nI n) (nI S) (nI i) (nI U) 80 (nI x) (nI y) g = some h' ∧ (h'.1 79, h'.1 56 45) = mkL (nI x) ((List.range n).flatMap (fun x => if (S.testBit x && !(U.testBit x)) = true then gv n S v d (i + 1) (U ||| 2 ^ x) (acc ++ [v.getD x 0]) else [])) (h.1 79, h.1 56 45) ∧ ∀ j, j < i → h'.1 78 j = h.1 78 j) (fun y g => (g.1 79, g.1 56 45) = mkL (nI x) ((List.range y).flatMap (fun x => if (S.testBit x && !(U.testBit x)) = true then gv n S v d (i + 1) (U ||| 2 ^ x) (acc ++ [v.getD x 0]) else [])) (h.1 79, h.1 56 45) ∧ (∀ j, j < i → g.1 78 j = h.1 78 j) ∧ Agr W_X12_giveRound_i56_80 h g) n (by omega) ?_ ?_ ⟨rfl, fun _ _ => rfl, agr_refl h⟩
      · rintro f g ⟨q1, q2, q3⟩
        rw [f_X12_giveRound_79, if_pos (by rw [nI_leI (by omega) (by omega)]; omega)]
        exact ⟨g, rfl, q1, q2⟩
      · rintro f y g hy ⟨q1, q2, q3⟩ K
        rw [List.range_succ, List.flatMap_append, List.flatMap_singleton, mkL_app] at K
        rw [f_X12_giveRound_79, if_neg (by rw [nI_leI (by omega) (by omega)]; omega), e_X12_has, ob_some, inS_tb S (by omega) y (by omega), zi]
        cases b1 : S.testBit y with
        | false =>
          rw [b1, Bool.false_and, if_neg (by decide)] at K
          rw [if_neg (by decide), f_X12_giveRound_138, nm_id, nI_1]
          exact K g ⟨q1, q2, q3⟩
        | true =>
          rw [b1, Bool.true_and] at K
          rw [if_pos rfl, e_X12_has, ob_some, inS_tb U (by omega) y (by omega), zi]
          cases b2 : U.testBit y with
          | true =>
            rw [b2, if_neg (by decide)] at K
            rw [if_pos rfl, f_X12_giveRound_138, nm_id, nI_1]
            exact K g ⟨q1, q2, q3⟩
          | false =>
            rw [b2, if_pos (by rfl)] at K
            have o := u5_or U hU y (by omega)
            have g80 : ∀ j, j < n → g.1 80 j = nI (v.getD j 0) := fun j hj => by rw [agr_cell q3 80 rfl]; exact e80 j hj
            have st := step y hy g (fun j hj => by rw [q2 j hj]; exact e78 j hj)
            obtain ⟨h3, r1, r2, r3⟩ := ih (i + 1) (U ||| 2 ^ y) (acc ++ [v.getD y 0]) dp' (sI g 78 i (nI (v.getD y 0))) (by omega) (by omega) o.2 (by rw [List.length_append, hl]; rfl) (mem y hy) st g80
            have a3 : Agr W_X12_giveRound_i56_80 h h3 := w_r_X12_giveRound_i56_80 _ _ _ _ _ _ _ (agr_sI q3 rfl) _ r1
            rw [if_neg (by decide), show an 80 = 5 from rfl, rv_56_43, an_78, og_ix (by omega) (by omega), og_ix (by omega) (by omega), nI_clamp (by omega), nI_clamp (by omega), g80 y hy, nm_id, nI_1, o.1, r1, ov_some, f_X12_giveRound_138, nm_id, nI_1]
            refine K h3 ⟨?_, fun j hj => ?_, a3⟩
            · rw [r2, ← q1]
              rfl
            · rw [r3 j (by omega), sI_n (Or.inr (by omega))]
              exact q2 j hj
    · rw [if_neg b, if_neg b]
      have st := step i (by omega) h e78
      obtain ⟨h3, r1, r2, r3⟩ := ih (i + 1) U (acc ++ [v.getD i 0]) dp' (sI h 78 i (nI (v.getD i 0))) (by omega) (by omega) hU (by rw [List.length_append, hl]; rfl) (mem i (by omega)) st e80
      rw [show an 80 = 5 from rfl, rv_56_43, an_78, og_ix (by omega) (by omega), og_ix (by omega) (by omega), nI_clamp (by omega), e80 i (by omega), nm_id, nI_1, r1, ov_some]
      refine ⟨h3, rfl, r2, fun j hj => ?_⟩
      rw [r3 j (by omega), sI_n (Or.inr (by omega))]
