/-! all orders -/
def wy (G : Nat) : Nat → Nat → List Nat → List (List Nat)
  | 0, _, _ => []
  | f + 1, U, r => if U = G then [r] else (List.range 6).flatMap (fun p => if G.testBit p = true ∧ U.testBit p = false then wy G f (U ||| 2 ^ p) (r ++ [p]) else [])
def wq (G f U : Nat) (r : List Nat) (k : Nat) : List (List Nat) := (List.range k).flatMap (fun p => if G.testBit p = true ∧ U.testBit p = false then wy G f (U ||| 2 ^ p) (r ++ [p]) else [])
def WG (G : Nat) : List (List Nat) := wy G 12 0 []
theorem wy_s (G f U : Nat) (r : List Nat) : wy G (f + 1) U r = if U = G then [r] else wq G f U r 6 := rfl
theorem wq_0 (G f U : Nat) (r : List Nat) : wq G f U r 0 = [] := rfl
theorem wq_s (G f U : Nat) (r : List Nat) (k : Nat) : wq G f U r (k + 1) = wq G f U r k ++ (if G.testBit k = true ∧ U.testBit k = false then wy G f (U ||| 2 ^ k) (r ++ [k]) else []) := by
  unfold wq
  rw [List.range_succ, List.flatMap_append]
  simp
theorem wq_mono (G f U : Nat) (r : List Nat) : ∀ d k, (wq G f U r k).length ≤ (wq G f U r (k + d)).length := by
  intro d
  induction d with
  | zero => intro k; exact Nat.le_refl _
  | succ d ih =>
    intro k
    rw [← Nat.add_assoc, wq_s, List.length_append]
    have := ih k
    omega
theorem wq_ext {G f U : Nat} {r : List Nat} {n : Nat} (hG : G < 2 ^ n) : ∀ d, wq G f U r (n + d) = wq G f U r n := by
  intro d
  induction d with
  | zero => rfl
  | succ d ih =>
    rw [← Nat.add_assoc, wq_s, if_neg, List.append_nil, ih]
    rintro ⟨b, _⟩
    have := tb_lt hG b
    omega
def num (r : List Nat) : Nat := r.foldl (fun a p => 10 * a + p) 0
theorem num_app (r : List Nat) (p : Nat) : num (r ++ [p]) = 10 * num r + p := by
  unfold num
  rw [List.foldl_append]
  rfl
/-- the model's list of ways, from c on -/
def mWy (c : Nat) (L : List (List Nat)) (h0 h : AH) : Prop := h.1 56 34 = nI (c + L.length) ∧ (∀ i, i < c → h.1 70 i = h0.1 70 i) ∧ ∀ i, i < L.length → h.1 70 (c + i) = nI (num (L.getD i []))
theorem gL1 {A B : List (List Nat)} {i : Nat} (h : i < A.length) : (A ++ B).getD i [] = A.getD i [] := by
  simp [List.getD_eq_getElem?_getD, List.getElem?_append_left h]
theorem gL2 {A B : List (List Nat)} {i : Nat} (h : A.length ≤ i) : (A ++ B).getD i [] = B.getD (i - A.length) [] := by
  simp [List.getD_eq_getElem?_getD, List.getElem?_append_right h]
theorem mWy_app {c : Nat} {A B : List (List Nat)} {h0 h1 h2 : AH} (a : mWy c A h0 h1) (b : mWy (c + A.length) B h1 h2) : mWy c (A ++ B) h0 h2 := by
  refine ⟨by rw [b.1, List.length_append, Nat.add_assoc], fun i hi => by rw [b.2.1 i (by omega), a.2.1 i hi], fun i hi => ?_⟩
  rw [List.length_append] at hi
  by_cases l : i < A.length
  · rw [gL1 l, b.2.1 (c + i) (by omega)]
    exact a.2.2 i l
  · have := b.2.2 (i - A.length) (by omega)
    rw [show c + A.length + (i - A.length) = c + i by omega] at this
    rw [this, gL2 (by omega)]
theorem e_layWays {n G : Nat} (hn : n ≤ 6) (hG : G < 2 ^ n) : ∀ f U r c h, U < 64 → sub U G → pcN G < pcN U + f → c + (wy G f U r).length ≤ 720 → num r < 10 ^ (pcN U) → h.1 56 20 = nI n → h.1 56 34 = nI c → ∃ h', r_X12_layWays f 56 (nI G) (nI U) (nI (num r)) h = some h' ∧ mWy c (wy G f U r) h h' := by
  have h64 := pow_le6 hn
  intro f
  induction f with
  | zero =>
    intro U r c h hU s hf
    exfalso
    have a0 := b2_le (s 0 (by decide))
    have a1 := b2_le (s 1 (by decide))
    have a2 := b2_le (s 2 (by decide))
    have a3 := b2_le (s 3 (by decide))
    have a4 := b2_le (s 4 (by decide))
    have a5 := b2_le (s 5 (by decide))
    unfold pcN at hf
    omega
  | succ f ih =>
    intro U r c h hU s hf hc hr h20 h34
    have pcb : ∀ D, pcN D ≤ 6 := by
      intro D
      unfold pcN
      have b : ∀ x : Bool, b2 x ≤ 1 := fun x => by cases x <;> decide
      have := b (D.testBit 0)
      have := b (D.testBit 1)
      have := b (D.testBit 2)
      have := b (D.testBit 3)
      have := b (D.testBit 4)
      have := b (D.testBit 5)
      omega
    rw [r_X12_layWays, f_X12_layWays, wy_s]
    rw [wy_s] at hc
    by_cases e : U = G
    · rw [if_pos e] at hc
      have hc : c + 1 ≤ 720 := hc
      rw [if_pos e, if_pos (by rw [e]), h34, rv_56_33, an_70, og_ix (by omega) (by omega), nm_id, nI_clamp (by omega), nm_id, sI_n (Or.inl (by decide)), h34, nI_1]
      refine ⟨_, rfl, sI_s .., fun i hi => ?_, fun i hi => ?_⟩
      · rw [sI_n (Or.inl (by decide)), sI_n (Or.inr (by omega))]
      · have : i = 0 := by
          have : i < 1 := hi
          omega
        subst this
        rw [sI_n (Or.inl (by decide)), Nat.add_zero, sI_s]
        rfl
    · rw [if_neg e] at hc
      have hw : wq G f U r 6 = wq G f U r n := by
        have := wq_ext (f := f) (U := U) (r := r) hG (6 - n)
        rw [show n + (6 - n) = 6 by omega] at this
        exact this
      rw [if_neg e, if_neg (by rw [nI_eq (by omega) (by omega)]; exact e), hw]
      rw [hw] at hc
      refine lp (fun k i g => ∃ h', f_X12_layWays_29 (r_X12_layWays f) k 56 (nI G) (nI U) (nI (num r)) (nI i) g = some h' ∧ mWy c (wq G f U r n) h h') (fun i g => mWy c (wq G f U r i) h g ∧ g.1 56 20 = nI n) n (by omega) ?_ ?_ ⟨⟨by rw [h34]; rfl, fun _ _ => rfl, fun i hi => absurd hi (by simp [wq_0])⟩, h20⟩
      · rintro k g ⟨g1, g2⟩
        rw [f_X12_layWays_29, g2, if_pos (by rw [nI_leI (by omega) (by omega)]; omega)]
        exact ⟨g, rfl, g1⟩
      · rintro k i g hi ⟨g1, g2⟩ K
        rw [f_X12_layWays_29, g2, if_neg (by rw [nI_leI (by omega) (by omega)]; omega), e_X12_has, ob_some, inS_tb G (by omega) i (by omega), zi]
        rw [wq_s] at K
        cases b1 : G.testBit i with
        | false =>
          rw [if_neg (by rw [b1]; simp), List.append_nil] at K
          rw [if_neg (by decide), f_X12_layWays_74, nm_id, nI_1]
          exact K g ⟨g1, g2⟩
        | true =>
          rw [if_pos rfl, e_X12_has, ob_some, inS_tb U hU i (by omega), zi]
          cases b2' : U.testBit i with
          | true =>
            rw [if_neg (by rw [b2']; simp), List.append_nil] at K
            rw [if_pos rfl, f_X12_layWays_74, nm_id, nI_1]
            exact K g ⟨g1, g2⟩
          | false =>
            rw [if_pos ⟨b1, b2'⟩] at K
            have op := or_pc U hU i (by omega)
            rw [if_neg (by rw [b2']; decide)] at op
            have m1 := wq_mono G f U r (n - (i + 1)) (i + 1)
            rw [show i + 1 + (n - (i + 1)) = n by omega, wq_s, if_pos ⟨b1, b2'⟩, List.length_append] at m1
            have pU := pcb U
            have pw : 10 ^ pcN U ≤ 10 ^ 6 := Nat.pow_le_pow_right (by decide) pU
            obtain ⟨h3, e3, w3⟩ := ih (U ||| 2 ^ i) (r ++ [i]) (c + (wq G f U r i).length) g (or_lt U hU i (by omega)) (fun q hq t => by
              rw [or_tb, Bool.or_eq_true, decide_eq_true_eq] at t
              rcases t with t | t
              · exact s q hq t
              · rw [← t]
                exact b1) (by rw [op]; omega) (by omega) (by rw [num_app, op, Nat.pow_succ]; omega) g2 g1.1
            have en : (10 : Int32) * nI (num r) + nI i = nI (num (r ++ [i])) := by
              rw [show (10 : Int32) * nI (num r) = nI (num r * 10) from k_mul' (num r) 10, nI_add, num_app, Nat.mul_comm]
            rw [if_neg (by decide), or_n U hU i (by omega), en, e3, ov_some, f_X12_layWays_74, nm_id, nI_1]
            have fr : Agr W_X12_layWays_i56 g h3 := w_r_X12_layWays_i56 f _ _ _ _ (agr_refl g) _ e3
            exact K h3 ⟨mWy_app g1 w3, by rw [agr_on fr (B := (56, 20) :: []) rfl 56 20 rfl]; exact g2⟩
def fitsL (m : Nat) (q : Nat × (Nat → Nat)) (a b : List Nat) : Bool := Nat.ble q.1 m && ((List.range m).all (fun j => Nat.beq (q.2 j) (b.getD j 0)) && (List.range q.1).all (fun j => Nat.beq (a.getD j 0) (b.getD j 0)))
def chn (m : Nat) : List (List Nat) → Bool
  | [] => true
  | a :: t => (match t with
    | [] => true
    | b :: _ => fitsL m (advF (fun j => a.getD j 0) m) a b) && chn m t
def wChk (G : Nat) : Bool := (match WG G with
  | [] => false
  | a :: _ => decide (a = gl G 6)) && (chn (pcN G) (WG G) && ((WG G).all (rChk G) && Nat.beq (WG G).length (sT 3 (pcN G)).toNatClampNeg))
theorem wChk_all : (List.range 63).all (fun k => wChk (k + 1)) = true := by decide +kernel
