/-! quiet -/
def qF (P : Nat → Bool) (i : Int32) : Nat → Int32 ⊕ Int32
  | 0 => .inl 0
  | k + 1 => match qF P i k with
    | .inr x => .inr x
    | .inl c => if P k = true then (if c = i then .inr (nI k) else .inl (c + 1)) else .inl c
def qR (i : Int32) : Int32 ⊕ Int32 → Int32
  | .inr x => x
  | .inl c => if i = -1 then c else -1
theorem qF_r {P : Nat → Bool} {i x : Int32} {a : Nat} (e : qF P i a = .inr x) : ∀ d, qF P i (a + d) = .inr x := by
  intro d
  induction d with
  | zero => exact e
  | succ d ih =>
    rw [← Nat.add_assoc, qF, ih]
theorem qF_1 {P : Nat → Bool} {i c : Int32} {k : Nat} (e : qF P i k = .inl c) : qF P i (k + 1) = if P k = true then (if c = i then .inr (nI k) else .inl (c + 1)) else .inl c := by
  rw [qF, e]
theorem qF_ext {P : Nat → Bool} {i : Int32} {a : Nat} (h : ∀ k, a ≤ k → P k = false) : ∀ d, qF P i (a + d) = qF P i a := by
  intro d
  induction d with
  | zero => rfl
  | succ d ih =>
    cases q : qF P i a with
    | inr x => exact qF_r q (d + 1)
    | inl c =>
      rw [q] at ih
      rw [← Nat.add_assoc, qF_1 ih, if_neg (by rw [h _ (by omega)]; decide)]
theorem qF_end {P : Nat → Bool} {i x : Int32} {k N : Nat} (hk : k + 1 ≤ N) (e : qF P i (k + 1) = .inr x) : qR i (qF P i N) = x := by
  have := qF_r e (N - (k + 1))
  rw [show k + 1 + (N - (k + 1)) = N by omega] at this
  rw [this]
  rfl
theorem sb_of {X G : Nat} (h : ∀ i, X.testBit i = true → G.testBit i = true) : sbB X G = true := by
  have : X &&& G = X := by
    apply Nat.eq_of_testBit_eq
    intro i
    rw [Nat.testBit_and]
    cases b : X.testBit i with
    | false => rfl
    | true => rw [h i b]; rfl
  unfold sbB
  rw [this]
  exact Nat.beq_refl _
theorem xor_n : ∀ S, S < 64 → ∀ d, d < 6 → nI S ^^^ ((1 : Int32) <<< (nI d &&& 31)) = nI (S ^^^ 2 ^ d) := by decide +kernel
theorem xor_sb {O G p : Nat} (h : sbB O G = true) (pb : G.testBit p = true) : sbB (O ^^^ 2 ^ p) G = true := by
  refine sb_of (fun i b => ?_)
  rw [Nat.testBit_xor, Nat.testBit_two_pow] at b
  by_cases e : p = i
  · rw [← e]
    exact pb
  · rw [decide_eq_false e, Bool.xor_false] at b
    exact sb_tb h b
theorem sb_lt {S G n : Nat} (h : sbB S G = true) (hG : G < 2 ^ n) : S < 2 ^ n := by
  have e := Nat.eq_of_beq_eq_true h
  have : S &&& G ≤ G := Nat.and_le_right
  omega
def woQ (v : Wd) (O q : Nat) : Nat := if O.testBit q = true then v.it q 4 else v.wo q
def gr_ (G j : Nat) : Nat := (gl G 6).getD j 0
def pyQ (v : Wd) (G O p : Nat) : Int32 := wS (woQ v O) (tkP v (fun q => v.it q 3) (woQ v O) (gr_ G) (pc G) G p) + nI (if O.testBit p = true then v.wo p else v.it p 4)
def qtB (v : Wd) (G O : Nat) : Nat → Bool
  | 0 => true
  | p + 1 => qtB v G O p && (!(G.testBit p) || decide (¬ pyQ v G O p < pyQ v G (O ^^^ 2 ^ p) p))
theorem qtB_f {v : Wd} {G O : Nat} : ∀ p n, p ≤ n → qtB v G O p = false → qtB v G O n = false := by
  intro p n
  induction n with
  | zero =>
    intro h e
    have : p = 0 := by omega
    rw [this] at e
    exact e
  | succ n ih =>
    intro h e
    by_cases q : p = n + 1
    · rw [← q]
      exact e
    · rw [qtB, ih (by omega) e]
      rfl
theorem qtB_ext {v : Wd} {G O n : Nat} (hG : G < 2 ^ n) : ∀ d, qtB v G O (n + d) = qtB v G O n := by
  intro d
  induction d with
  | zero => rfl
  | succ d ih =>
    have : G.testBit (n + d) = false := by
      cases b : G.testBit (n + d) with
      | false => rfl
      | true =>
        have := tb_lt hG b
        omega
    rw [← Nat.add_assoc, qtB, this, ih]
    simp
theorem woQ_b {v : Wd} (B : vB v) (wb : ∀ q, q < v.n → v.wo q ≤ 99) (s3 : ∀ q, q < v.n → v.it q 3 ≤ 50) (O : Nat) : szB v (fun q => v.it q 3) (woQ v O) := by
  intro q hq
  refine ⟨s3 q hq, ?_⟩
  unfold woQ
  split
  · exact (B.2 q hq 4 (by omega)).2
  · exact wb q hq
theorem e_comesIn {v : Wd} {h : AH} (B : cB v h) {p : Nat} (hp : p < v.n) (b : Bool) : f_X0_comesIn 46 (nI p) (zb b) h = some (nI (if b = true then v.it p 4 else v.wo p), h) := by
  have hn := B.n6
  unfold f_X0_comesIn
  rw [zi]
  cases b with
  | false =>
    rw [if_neg (by decide), if_neg (by decide), rv_46_1, rv_24_2, an_27, og_ix (by omega) (by omega), nI_clamp (by omega), (B.2.2.2.2.2.2.2.1 p hp).2.2]
    rfl
  | true =>
    have i4 : f_X6_item 3 (nI p) 4 h = some (nI (v.it p 4), h) := e_X6_item B.1 hp (i := 4) (by omega)
    rw [if_pos rfl, if_pos rfl, rv_46_0, i4, ob_some]
    rfl
def qC (v : Wd) (G : Nat) (h : AH) : Prop := cB v h ∧ (∀ q, q < v.n → h.1 36 q = nI (v.it q 3)) ∧ ∀ q, q < v.n → ¬ G.testBit q = true → h.1 37 q = nI (v.wo q)
theorem qC_agr {W : List (Nat × Nat)} {v : Wd} {G : Nat} {h0 h : AH} (a : Agr W h0 h) (d : Wdis W ((36, 1000) :: (37, 1000) :: STb) = true) (F : qC v G h0) : qC v G h := by
  have e := agr_on a d
  refine ⟨cB_eq (eqOn_sub e rfl) F.1, ?_, ?_⟩
  · rw [eqOn_c e 36 (fun _ => rfl)]
    exact F.2.1
  · rw [eqOn_c e 37 (fun _ => rfl)]
    exact F.2.2
theorem e_come {v : Wd} {G O : Nat} {h : AH} (C : qC v G h) (hG : G < 2 ^ v.n) (g0 : 0 < G) (sb : sbB O G = true) : ∃ h', f_X0_come 46 (nI O) (nI G) h = some h' ∧ qC v G h' ∧ (∀ p, G.testBit p = true → h'.1 48 (O * 6 + p) = pyQ v G O p) ∧ ∀ j, (j < O * 6 ∨ O * 6 + 6 ≤ j) → h'.1 48 j = h.1 48 j := by
  have hn := C.1.n6
  have h64 := pow_le6 hn
  have Ol := sb_lt sb hG
  have gL := gl_row hn hG g0
  have m6 := gL.2.1.1
  obtain ⟨h1, e1, c1⟩ := e_lowest (show G < 64 by omega) h
  rw [gL.1] at c1
  have c1 : cRw (gr_ G) (pc G) h1 := c1
  have r : gRow v.n G (gr_ G) := gL.2
  have a1 : Agr W_X5_lowest_i41 h h1 := w_f_X5_lowest_i41 _ _ _ e1
  unfold f_X0_come
  rw [rv_46_3, e1, ov_some]
  have b48 : h1.1 48 = h.1 48 := agr_cell a1 48 rfl
  refine lp (fun n k g => ∃ h', f_X0_come_10 n 46 (nI O) (nI G) (nI k) g = some h' ∧ qC v G h' ∧ (∀ p, G.testBit p = true → h'.1 48 (O * 6 + p) = pyQ v G O p) ∧ ∀ j, (j < O * 6 ∨ O * 6 + 6 ≤ j) → h'.1 48 j = h.1 48 j) (fun k g => qC v G g ∧ cRw (gr_ G) (pc G) g ∧ (∀ j, j < k → g.1 37 (gr_ G j) = nI (woQ v O (gr_ G j))) ∧ g.1 48 = h.1 48) (pc G) (by omega) ?_ ?_ ⟨qC_agr a1 rfl C, c1, fun j hj => absurd hj (by omega), b48⟩
  · rintro n g ⟨C, c, w, g48⟩
    obtain ⟨h2, e2, z38, z39⟩ := e_forget g
    have a2 : Agr W_X2_forget_i35 g h2 := w_f_X2_forget_i35 _ _ e2
    have C2 := qC_agr a2 rfl C
    have w37 : ∀ q, q < v.n → g.1 37 q = nI (woQ v O q) := by
      intro q hq
      by_cases gb : G.testBit q = true
      · obtain ⟨j, hj, ej⟩ := r.2.2 q gb
        rw [← ej]
        exact w j hj
      · have nb : ¬ O.testBit q = true := fun b => gb (sb_tb sb b)
        unfold woQ
        rw [if_neg nb]
        exact C.2.2 q hq gb
    have Z2 : cZ v (fun q => v.it q 3) (woQ v O) h2 := by
      obtain ⟨F1, F2, F3, F4, F5, F6, F7, F8, F9⟩ := C2.1
      refine ⟨⟨F1, F2, woQ_b F1.1 (fun q hq => (F3 q hq).2) (fun q hq => (F3 q hq).1) O, F6, F7, fun q hq => ⟨C2.2.1 q hq, ?_⟩⟩, fun p hp q hq st hs => Or.inl (z38 _ (by omega)), fun p hp D hD => Or.inl (z39 _ (by omega))⟩
      rw [agr_cell a2 37 rfl]
      exact w37 q hq
    obtain ⟨h4, h5, e4, e5, g5, a5⟩ := c_go0 Z2 (cRw_agr a2 rfl c) r.1 hG
    have C5 := qC_agr a5 rfl C2
    have g5_48 : h5.1 48 = h.1 48 := by
      rw [agr_cell a5 48 rfl, agr_cell a2 48 rfl, g48]
    rw [f_X0_come_10, rv_46_3, c.1, if_pos (by rw [nI_leI (by omega) (by omega)]; omega), rv_46_2, e2, ov_some, e4, ov_some, e5, ov_some]
    refine lp (fun n k g => ∃ h', f_X0_come_85 n 46 (nI O) (nI k) g = some h' ∧ qC v G h' ∧ (∀ p, G.testBit p = true → h'.1 48 (O * 6 + p) = pyQ v G O p) ∧ ∀ j, (j < O * 6 ∨ O * 6 + 6 ≤ j) → h'.1 48 j = h.1 48 j) (fun k g => Agr ((48, 1000) :: []) h5 g ∧ (∀ j, j < k → g.1 48 (O * 6 + gr_ G j) = pyQ v G O (gr_ G j)) ∧ ∀ j, (j < O * 6 ∨ O * 6 + 6 ≤ j) → g.1 48 j = h.1 48 j) (pc G) (by omega) ?_ ?_ ⟨agr_refl h5, fun j hj => absurd hj (by omega), fun j _ => by rw [g5_48]⟩
    · rintro n u ⟨A, u1, u2⟩
      have c41 : u.1 41 2 = nI (pc G) := by
        rw [agr_on A (B := (41, 2) :: []) rfl 41 2 rfl]
        exact g5.2.1.1
      rw [f_X0_come_85, rv_46_3, c41, if_pos (by rw [nI_leI (by omega) (by omega)]; omega)]
      refine ⟨u, rfl, qC_agr A rfl C5, fun p pb => ?_, u2⟩
      obtain ⟨j, hj, ej⟩ := r.2.2 p pb
      rw [← ej]
      exact u1 j hj
    · rintro n k u hk ⟨A, u1, u2⟩ K
      have gu : cGo v (fun q => v.it q 3) (woQ v O) (gr_ G) (pc G) G u := cGo_agr A rfl g5
      have Cu := qC_agr A rfl C5
      have rk := r.1.2.1 k hk
      have rb := r.2.1 k hk
      have cm : ∀ b, f_X0_comesIn 46 (nI (gr_ G k)) (zb b) u = some (nI (if b = true then v.it (gr_ G k) 4 else v.wo (gr_ G k)), u) := fun b => e_comesIn Cu.1 rk b
      have fin : ∀ (b : Bool), (b = true ↔ ¬ O.testBit (gr_ G k) = true) → ∃ h', f_X0_come_124 (f_X0_come_85 n) 46 (nI O) (nI k) (nI (gr_ G k)) (zb b) (nI (gr_ G k)) 46 u = some h' ∧ qC v G h' ∧ (∀ p, G.testBit p = true → h'.1 48 (O * 6 + p) = pyQ v G O p) ∧ ∀ j, (j < O * 6 ∨ O * 6 + 6 ≤ j) → h'.1 48 j = h.1 48 j := by
        intro b hb
        have ev : nI (if b = true then v.it (gr_ G k) 4 else v.wo (gr_ G k)) = nI (if O.testBit (gr_ G k) = true then v.wo (gr_ G k) else v.it (gr_ G k) 4) := by
          by_cases o : O.testBit (gr_ G k) = true
          · rw [if_pos o, if_neg (fun w => hb.mp w o)]
          · rw [if_neg o, if_pos (hb.mpr o)]
        rw [f_X0_come_124, cm, ob_some, ev, rv_46_3, cGo_w gu r rk rb, ob_some, show nI O * 6 = nI (O * 6) from k_mul O 6, nI_add, rv_46_6, an_48, og_ix (by omega) (by omega), nm_id, nI_clamp (by omega), nm_id, nI_1]
        refine K _ ⟨agr_sI A rfl, fun j hj => ?_, fun j hj => ?_⟩
        · by_cases e : gr_ G j = gr_ G k
          · rw [e, sI_s]
            rfl
          · rw [sI_n (Or.inr (by omega))]
            refine u1 j ?_
            rcases Nat.lt_or_ge j k with q | q
            · exact q
            · have : j = k := by omega
              rw [this] at e
              exact absurd rfl e
        · rw [sI_n (Or.inr (by omega))]
          exact u2 j hj
      rw [f_X0_come_85, rv_46_3, gu.2.1.1, if_neg (by rw [nI_leI (by omega) (by omega)]; omega), rv_41_1, an_42, og_ix (by omega) (by omega), nm_id, nI_clamp (by omega), gu.2.1.2 k hk, e_X11_isIn, ob_some, inS_tb O (by omega) _ (by omega), zi]
      by_cases o : O.testBit (gr_ G k) = true
      · rw [if_pos o]
        exact fin false ⟨fun w => absurd w (by decide), fun w => absurd o w⟩
      · rw [if_neg o]
        exact fin true ⟨fun _ => o, fun _ => rfl⟩
  · rintro n k g hk ⟨C, c, w, g48⟩ K
    have rk := r.1.2.1 k hk
    have rb := r.2.1 k hk
    rw [f_X0_come_10, rv_46_3, c.1, if_neg (by rw [nI_leI (by omega) (by omega)]; omega), rv_41_1, an_42, og_ix (by omega) (by omega), nm_id, nI_clamp (by omega), c.2 k hk, e_X11_isIn, ob_some, inS_tb O (by omega) _ (by omega), e_comesIn C.1 rk, ob_some, rv_46_2, rv_35_3, an_37, og_ix (by omega) (by omega), nm_id, nI_clamp (by omega), nm_id, nI_1]
    have ag : ∀ x, Agr ((37, 1000) :: []) g (sI g 37 (gr_ G k) x) := fun x => agr_sI (agr_refl g) rfl
    refine K _ ⟨⟨cB_agr (ag _) rfl C.1, C.2.1, fun q hq nb => ?_⟩, cRw_agr (ag _) rfl c, fun j hj => ?_, g48⟩
    · rw [sI_n (Or.inr (fun e => nb (by rw [e]; exact rb)))]
      exact C.2.2 q hq nb
    · by_cases e : gr_ G j = gr_ G k
      · rw [e, sI_s]
        rfl
      · rw [sI_n (Or.inr e)]
        refine w j ?_
        rcases Nat.lt_or_ge j k with q | q
        · exact q
        · have : j = k := by omega
          rw [this] at e
          exact absurd rfl e
theorem e_isQuietC {v : Wd} {G O : Nat} {h : AH} (hn : v.n ≤ 6) (hG : G < 2 ^ v.n) (sb : sbB O G = true) (pay : ∀ Q, sbB Q G = true → ∀ p, G.testBit p = true → h.1 48 (Q * 6 + p) = pyQ v G Q p) : f_X0_isQuiet 46 (nI O) (nI G) h = some (zb (qtB v G O v.n), h) := by
  have h64 := pow_le6 hn
  have Ol := sb_lt sb hG
  have ex : qtB v G O v.n = qtB v G O 6 := by
    have := qtB_ext (v := v) (O := O) hG (6 - v.n)
    rw [show v.n + (6 - v.n) = 6 by omega] at this
    exact this.symm
  rw [ex]
  unfold f_X0_isQuiet
  refine lp (fun n i (_ : Unit) => f_X0_isQuiet_2 n 46 (nI O) (nI G) (nI i) h = some (zb (qtB v G O 6), h)) (fun i _ => qtB v G O i = true) 6 (by decide) ?_ ?_ (s := ()) rfl
  · rintro n _ e
    rw [f_X0_isQuiet_2, if_pos (by decide), e]
    rfl
  · rintro n i _ hi e K
    rw [f_X0_isQuiet_2, if_neg (by rw [show (6 : Int32) = nI 6 from rfl, nI_leI (by decide) (by omega)]; omega), xor_n O (by omega) i hi, nm_id, e_X11_isIn, ob_some, inS_tb G (by omega) i hi, zi]
    by_cases gb : G.testBit i = true
    · have xs := xor_sb sb gb
      have xl := sb_lt xs hG
      rw [if_pos gb, show nI (O ^^^ 2 ^ i) * 6 = nI ((O ^^^ 2 ^ i) * 6) from k_mul _ 6, nI_add, show nI O * 6 = nI (O * 6) from k_mul _ 6, nI_add, rv_46_6, an_48, og_ix (by omega) (by omega), og_ix (by omega) (by omega), nI_clamp (by omega), nI_clamp (by omega), pay _ xs i gb, pay _ sb i gb]
      by_cases c : pyQ v G (O ^^^ 2 ^ i) i ≤ pyQ v G O i
      · rw [if_pos c, f_X0_isQuiet_51, nm_id, nI_1]
        exact K () (by
          rw [qtB, e, decide_eq_true (show ¬ pyQ v G O i < pyQ v G (O ^^^ 2 ^ i) i from fun w => by rw [Int32.le_iff_toInt_le] at c; rw [Int32.lt_iff_toInt_lt] at w; omega)]
          simp)
      · rw [if_neg c, qtB_f (i + 1) 6 hi (by
          rw [qtB, e, gb, decide_eq_false (fun w => w (by rw [Int32.lt_iff_toInt_lt]; rw [Int32.le_iff_toInt_le] at c; omega))]
          rfl)]
        rfl
    · rw [if_neg gb, f_X0_isQuiet_51, nm_id, nI_1]
      exact K () (by
        rw [qtB, e]
        simp [gb])
def qP (v : Wd) (G O : Nat) : Bool := sbB O G && qtB v G O v.n
theorem e_findQ {v : Wd} {G : Nat} {i : Int32} {h : AH} (C : qC v G h) (hG : G < 2 ^ v.n) (g0 : 0 < G) : ∃ h', f_X0_findQuiet 46 (nI G) i h = some (qR i (qF (qP v G) i (G + 1)), h') := by
  have hn := C.1.n6
  have h64 := pow_le6 hn
  unfold f_X0_findQuiet
  refine lp (fun n k g => ∃ h', f_X0_findQuiet_2 n 46 (nI G) i (nI k) g = some (qR i (qF (qP v G) i (G + 1)), h')) (fun k g => qC v G g ∧ ∀ Q, Q < k → sbB Q G = true → ∀ p, G.testBit p = true → g.1 48 (Q * 6 + p) = pyQ v G Q p) (G + 1) (by omega) ?_ ?_ ⟨C, fun Q hQ => absurd hQ (by omega)⟩
  · rintro n g ⟨C, pay⟩
    have pay' : ∀ Q, sbB Q G = true → ∀ p, G.testBit p = true → g.1 48 (Q * 6 + p) = pyQ v G Q p := fun Q sb => pay Q (by
      have e := Nat.eq_of_beq_eq_true sb
      have : Q &&& G ≤ G := Nat.and_le_right
      omega) sb
    rw [f_X0_findQuiet_2, if_pos (show nI G < nI (G + 1) from nI_lt (by omega) (by omega))]
    refine lp (fun n k (c : Int32) => ∃ h', f_X0_findQuiet_32 n 46 (nI G) i c (nI k) g = some (qR i (qF (qP v G) i (G + 1)), h')) (fun k c => qF (qP v G) i k = .inl c) (G + 1) (by omega) ?_ ?_ (s := 0) rfl
    · rintro n c e
      rw [f_X0_findQuiet_32, if_pos (show nI G < nI (G + 1) from nI_lt (by omega) (by omega)), e]
      refine ⟨g, ?_⟩
      show _ = some (if i = -1 then c else -1, g)
      by_cases q : i = -1
      · rw [if_pos q, if_pos q]
        rfl
      · rw [if_neg q, if_neg q]
        rfl
    · rintro n k c hk e K
      have q1 := qF_1 e
      have si := sb_1 k (by omega) G (by omega)
      rw [f_X0_findQuiet_32, if_neg (show ¬ nI G < nI k from nI_nlt (by omega) (by omega))]
      rw [show qP v G k = (sbB k G && qtB v G k v.n) from rfl] at q1
      cases s : sbB k G with
      | false =>
        rw [s, Bool.false_and, if_neg (by decide)] at q1
        rw [if_neg (fun w => by rw [si.mp w] at s; cases s), f_X0_findQuiet_68, nm_id, nI_1]
        exact K _ q1
      | true =>
        rw [s, Bool.true_and] at q1
        rw [if_pos (si.mpr s), e_isQuietC hn hG s pay', ob_some, zi]
        cases t : qtB v G k v.n with
        | false =>
          rw [t, if_neg (by decide)] at q1
          rw [if_neg (by decide), f_X0_findQuiet_68, nm_id, nI_1]
          exact K _ q1
        | true =>
          rw [t, if_pos rfl] at q1
          rw [if_pos rfl]
          by_cases ci : c = i
          · rw [if_pos ci] at q1 ⊢
            rw [qF_end (N := G + 1) (by omega) q1]
            exact ⟨g, rfl⟩
          · rw [if_neg ci] at q1 ⊢
            rw [nm_id, f_X0_findQuiet_68, nm_id, nI_1]
            exact K _ q1
  · rintro n k g hk ⟨C, pay⟩ K
    have si := sb_1 k (by omega) G (by omega)
    rw [f_X0_findQuiet_2, if_neg (show ¬ nI G < nI k from nI_nlt (by omega) (by omega))]
    cases s : sbB k G with
    | false =>
      rw [if_neg (fun w => by rw [si.mp w] at s; cases s), f_X0_findQuiet_21, nm_id, nI_1]
      refine K g ⟨C, fun Q hQ sb => pay Q ?_ sb⟩
      by_cases e : Q = k
      · rw [e, s] at sb
        cases sb
      · omega
    | true =>
      obtain ⟨h2, e2, C2, p2, o2⟩ := e_come C hG g0 s
      rw [if_pos (si.mpr s), e2, ov_some, f_X0_findQuiet_21, nm_id, nI_1]
      refine K h2 ⟨C2, fun Q hQ sb p pb => ?_⟩
      by_cases e : Q = k
      · rw [e]
        exact p2 p pb
      · have := tb_lt hG pb
        rw [o2 _ (by omega)]
        exact pay Q (by omega) sb p pb
/-- the model's -/
theorem e_coming {v : Wd} {G O p : Nat} {h : AH} (B : mB v h) (hG : G < 2 ^ v.n) (g0 : 0 < G) (sb : sbB O G = true) (pb : G.testBit p = true) : ∃ h', f_X12_hasComing 56 (nI p) (nI G) (nI O) h = some (pyQ v G O p, h') ∧ mB v h' ∧ h'.1 65 = h.1 65 := by
  have hn := B.n6
  have h64 := pow_le6 hn
  have Ol := sb_lt sb hG
  have hp := tb_lt hG pb
  have gL := gl_row hn hG g0
  have m6 := gL.2.1.1
  have r : gRow v.n G (gr_ G) := gL.2
  have gn : gl G 6 = gl G v.n := by
    have := gl_ext hG (6 - v.n)
    rw [show v.n + (6 - v.n) = 6 by omega] at this
    exact this
  have main : ∃ h', f_X12_hasComing 56 (nI p) (nI G) (nI O) h = some (pyQ v G O p, h') ∧ h'.1 65 = h.1 65 := by
    unfold f_X12_hasComing
    refine lp (fun n k g => ∃ h', f_X12_hasComing_3 n 56 (nI p) (nI G) (nI O) (nI k) g = some (pyQ v G O p, h') ∧ h'.1 65 = h.1 65) (fun k g => Agr ((65, 1000) :: (73, 1000) :: []) h g ∧ (∀ q, q < k → g.1 73 q = h.1 65 q ∧ g.1 65 q = nI (woQ v O q)) ∧ ∀ q, k ≤ q → g.1 65 q = h.1 65 q) v.n (by omega) ?_ ?_ ⟨agr_refl h, fun q hq => absurd hq (by omega), fun _ _ => rfl⟩
    · rintro n g ⟨A, g1, g2⟩
      have c20 : g.1 56 20 = nI v.n := by
        rw [agr_on A (B := (56, 20) :: []) rfl 56 20 rfl]
        exact B.mn
      rw [f_X12_hasComing_3, c20, if_pos (by rw [nI_leI (by omega) (by omega)]; omega), nm_id]
      refine lp (fun n k u => ∃ h', f_X12_hasComing_73 n 56 (nI p) (nI G) (nI O) (nI k) u = some (pyQ v G O p, h') ∧ h'.1 65 = h.1 65) (fun k u => Agr ((56, 29) :: (67, 1000) :: []) g u ∧ mLo (gl G k) u) v.n (by omega) ?_ ?_ (s := sI g 56 29 0) ⟨agr_sI (agr_refl g) rfl, sI_s .., fun j hj => absurd hj (by simp [gl])⟩
      · rintro n u ⟨A2, c⟩
        rw [← gn, mLo, gL.1] at c
        have c : mRw (gr_ G) (pc G) u := c
        have A3 : Agr ((56, 29) :: (65, 1000) :: (67, 1000) :: (73, 1000) :: []) h u := agr_tr (agr_up A rfl) A2 rfl
        have u20 : u.1 56 20 = nI v.n := by
          rw [agr_on A2 (B := (56, 20) :: []) rfl 56 20 rfl]
          exact c20
        have Zu : mG v (fun q => v.it q 3) (woQ v O) u := by
          obtain ⟨F1, F2, F3, F4, F5, F6⟩ := B.1
          refine ⟨⟨F1.1, u20, by rw [agr_cell A3 61 rfl]; exact F1.2.2⟩, F2, woQ_b F1.1 (fun q hq => (F3 q hq).2) (fun q hq => (F3 q hq).1) O, by rw [agr_cell A3 66 rfl]; exact F4, by rw [agr_cell A3 58 rfl, agr_cell A3 59 rfl]; exact F5, fun q hq => ⟨?_, ?_⟩⟩
          · rw [agr_cell A3 64 rfl]
            exact (F6 q hq).1
          · rw [agr_cell A2 65 rfl]
            exact (g1 q hq).2
        obtain ⟨h5, e5, g5, a5⟩ := m_go0 Zu c r.1 hG
        have k73 : ∀ q, q < v.n → h5.1 73 q = h.1 65 q := fun q hq => by
          rw [agr_cell a5 73 rfl, agr_cell A2 73 rfl]
          exact (g1 q hq).1
        have k65 : ∀ q, v.n ≤ q → h5.1 65 q = h.1 65 q := fun q hq => by
          rw [agr_cell a5 65 rfl, agr_cell A2 65 rfl]
          exact g2 q hq
        have h20 : h5.1 56 20 = nI v.n := g5.1.1.2.1
        have fin : ∀ x, ∃ h', f_X12_hasComing_160 FU 56 x 0 h5 = some (x, h') ∧ h'.1 65 = h.1 65 := by
          intro x
          refine lp (fun n k y => ∃ h', f_X12_hasComing_160 n 56 x (nI k) y = some (x, h') ∧ h'.1 65 = h.1 65) (fun k y => Agr ((65, 1000) :: []) h5 y ∧ (∀ q, q < k → y.1 65 q = h.1 65 q) ∧ ∀ q, v.n ≤ q → y.1 65 q = h.1 65 q) v.n (by omega) ?_ ?_ ⟨agr_refl h5, fun q hq => absurd hq (by omega), k65⟩
          · rintro n y ⟨A5, y1, y2⟩
            rw [f_X12_hasComing_160, agr_cell A5 56 rfl, h20, if_pos (by rw [nI_leI (by omega) (by omega)]; omega)]
            refine ⟨y, rfl, funext (fun q => ?_)⟩
            rcases Nat.lt_or_ge q v.n with l | l
            · exact y1 q l
            · exact y2 q l
          · rintro n k y hk ⟨A5, y1, y2⟩ K
            rw [f_X12_hasComing_160, agr_cell A5 56 rfl, h20, if_neg (by rw [nI_leI (by omega) (by omega)]; omega), rv_56_37, rv_56_25, an_73, an_65, og_ix (by omega) (by omega), og_ix (by omega) (by omega), nm_id, nI_clamp (by omega), agr_cell A5 73 rfl, k73 k hk, nm_id, nI_1]
            refine K _ ⟨agr_sI A5 rfl, fun q hq => ?_, fun q hq => ?_⟩
            · by_cases e : q = k
              · subst e
                exact sI_s ..
              · rw [sI_n (Or.inr e)]
                exact y1 q (by omega)
            · rw [sI_n (Or.inr (by omega))]
              exact y2 q hq
        rw [f_X12_hasComing_73, u20, if_pos (by rw [nI_leI (by omega) (by omega)]; omega), e5, ov_some, mGo_w g5 r hp pb, ob_some, e_X12_has, ob_some, inS_tb O (by omega) p (by omega), zi]
        by_cases o : O.testBit p = true
        · rw [if_pos o, rv_56_37, an_73, og_ix (by omega) (by omega), nI_clamp (by omega), k73 p hp, (B.1.2.2.2.2.2 p hp).2, f_X12_hasComing_154, nm_id]
          have : pyQ v G O p = wS (woQ v O) (tkP v (fun q => v.it q 3) (woQ v O) (gr_ G) (pc G) G p) + nI (v.wo p) := by
            unfold pyQ
            rw [if_pos o]
          rw [this]
          exact fin _
        · have i4 : f_X12_partOf 56 (nI p) 4 h5 = some (nI (v.it p 4), h5) := e_X12_partOf g5.1.1 hp (i := 4) (by omega)
          rw [if_neg o, i4, ob_some, f_X12_hasComing_154, nm_id]
          have : pyQ v G O p = wS (woQ v O) (tkP v (fun q => v.it q 3) (woQ v O) (gr_ G) (pc G) G p) + nI (v.it p 4) := by
            unfold pyQ
            rw [if_neg o]
          rw [this]
          exact fin _
      · rintro n k u hk ⟨A2, c⟩ K
        have u20 : u.1 56 20 = nI v.n := by
          rw [agr_on A2 (B := (56, 20) :: []) rfl 56 20 rfl]
          exact c20
        have gll := gl_len G k
        rw [f_X12_hasComing_73, u20, if_neg (by rw [nI_leI (by omega) (by omega)]; omega), e_X12_has, ob_some, inS_tb G (by omega) k (by omega), zi]
        rw [gl] at K
        by_cases b : G.testBit k = true
        · rw [if_pos b] at K
          rw [if_pos b, c.1, rv_56_27, an_67, og_ix (by omega) (by omega), nm_id, nI_clamp (by omega), nm_id, sI_n (Or.inl (by decide)), c.1, nI_1, f_X12_hasComing_115, nm_id, nI_1]
          refine K _ ⟨agr_sI (agr_sI A2 rfl) rfl, by rw [sI_s, List.length_append]; rfl, fun j hj => ?_⟩
          rw [sI_n (Or.inl (by decide))]
          by_cases e : j = (gl G k).length
          · subst e
            rw [sI_s, gN2]
          · have hj' : j < (gl G k).length := by
              rw [List.length_append] at hj
              have : j < (gl G k).length + 1 := hj
              omega
            rw [sI_n (Or.inr e), gN1 hj']
            exact c.2 j hj'
        · rw [if_neg b] at K
          rw [if_neg b, f_X12_hasComing_115, nm_id, nI_1]
          exact K u ⟨A2, c⟩
    · rintro n k g hk ⟨A, g1, g2⟩ K
      have c20 : g.1 56 20 = nI v.n := by
        rw [agr_on A (B := (56, 20) :: []) rfl 56 20 rfl]
        exact B.mn
      have K' : ∀ x, nI (woQ v O k) = x → ∃ h', f_X12_hasComing_3 n 56 (nI p) (nI G) (nI O) (nI (k + 1)) (sI (sI g 73 k (h.1 65 k)) 65 k x) = some (pyQ v G O p, h') ∧ h'.1 65 = h.1 65 := by
        intro x hx
        refine K _ ⟨agr_sI (agr_sI A rfl) rfl, fun q hq => ?_, fun q hq => ?_⟩
        · by_cases e : q = k
          · subst e
            rw [sI_n (Or.inl (by decide)), sI_s, sI_s]
            exact ⟨rfl, hx.symm⟩
          · rw [sI_n (Or.inl (by decide)), sI_n (Or.inr e), sI_n (Or.inr e), sI_n (Or.inl (by decide))]
            exact g1 q (by omega)
        · rw [sI_n (Or.inr (by omega)), sI_n (Or.inl (by decide))]
          exact g2 q (by omega)
      have s65 : (sI g 73 k (h.1 65 k)).1 65 k = h.1 65 k := by
        rw [sI_n (Or.inl (by decide))]
        exact g2 k (Nat.le_refl _)
      have iP : mP v (sI g 73 k (h.1 65 k)) := by
        refine ⟨B.1.1.1, c20, ?_⟩
        have : (sI g 73 k (h.1 65 k)).1 61 = h.1 61 := by
          have : g.1 61 = h.1 61 := agr_cell A 61 rfl
          exact this
        rw [this]
        exact B.1.1.2.2
      have i4 : f_X12_partOf 56 (nI k) 4 (sI g 73 k (h.1 65 k)) = some (nI (v.it k 4), sI g 73 k (h.1 65 k)) := e_X12_partOf iP hk (i := 4) (by omega)
      rw [f_X12_hasComing_3, c20, if_neg (by rw [nI_leI (by omega) (by omega)]; omega), rv_56_25, rv_56_37, an_65, an_73, og_ix (by omega) (by omega), og_ix (by omega) (by omega), nm_id, nI_clamp (by omega), g2 k (Nat.le_refl _), e_X12_has, ob_some, inS_tb O (by omega) k (by omega), zi]
      by_cases o : O.testBit k = true
      · rw [if_pos o, i4, ob_some, f_X12_hasComing_58, an_65, og_ix (by omega) (by omega), nm_id, nI_clamp (by omega), nm_id, nI_1]
        exact K' _ (by unfold woQ; rw [if_pos o])
      · rw [if_neg o, og_ix (by omega) (by omega), s65, (B.1.2.2.2.2.2 k hk).2, f_X12_hasComing_58, an_65, og_ix (by omega) (by omega), nm_id, nI_clamp (by omega), nm_id, nI_1]
        rw [(B.1.2.2.2.2.2 k hk).2] at K'
        exact K' _ (by unfold woQ; rw [if_neg o])
  obtain ⟨h', e, c65⟩ := main
  have W : Agr W_X12_hasComing_i56 h h' := w_f_X12_hasComing_i56 _ _ _ _ _ e
  have eo : EqOn STn h h' := eqOn_less (a := 65) (b := 65) W c65 c65 rfl
  refine ⟨h', e, ⟨mG_eq (eqOn_sub eo rfl) B.1, B.2.1, B.2.2.1, fun q hq => ?_⟩, c65⟩
  rw [eqOn_c eo 62 (fun _ => rfl), eqOn_c eo 63 (fun _ => rfl)]
  exact B.2.2.2 q hq
theorem e_q61 {v : Wd} {G O : Nat} {x2 x3 : Int32} {h : AH} (q : Nat → Int32 → Int32 → Int32 → Int32 → AH → Option (Int32 × AH)) (B : mB v h) (hG : G < 2 ^ v.n) (g0 : 0 < G) (sb : sbB O G = true) : ∃ h', f_X12_quiet_61 q FU 56 (nI G) x2 x3 (nI O) 1 0 h = (if qtB v G O v.n = true then (if x3 = x2 then some (nI O, h') else q 56 (nI G) x2 (x3 + 1) (nI (O + 1)) h') else q 56 (nI G) x2 x3 (nI (O + 1)) h') ∧ mB v h' ∧ h'.1 65 = h.1 65 := by
  have hn := B.n6
  have h64 := pow_le6 hn
  have Ol := sb_lt sb hG
  refine lp (fun n i (s : Int32 × AH) => ∃ h', f_X12_quiet_61 q n 56 (nI G) x2 x3 (nI O) s.1 (nI i) s.2 = (if qtB v G O v.n = true then (if x3 = x2 then some (nI O, h') else q 56 (nI G) x2 (x3 + 1) (nI (O + 1)) h') else q 56 (nI G) x2 x3 (nI (O + 1)) h') ∧ mB v h' ∧ h'.1 65 = h.1 65) (fun i s => s.1 = zb (qtB v G O i) ∧ mB v s.2 ∧ s.2.1 65 = h.1 65) v.n (by omega) ?_ ?_ (s := (1, h)) ⟨rfl, B, rfl⟩
  · rintro n ⟨s, g⟩ ⟨e, B, c⟩
    have e : s = _ := e
    subst e
    have B : mB v g := B
    simp only
    refine ⟨g, ?_, B, c⟩
    rw [f_X12_quiet_61, B.mn, if_pos (by rw [nI_leI (by omega) (by omega)]; omega), zi]
    unfold f_X12_quiet_142
    simp only [nm_id, nI_1]
  · rintro n i ⟨s, g⟩ hi ⟨e, B, c⟩ K
    have e : s = _ := e
    subst e
    have B : mB v g := B
    have c : g.1 65 = h.1 65 := c
    simp only at K ⊢
    rw [f_X12_quiet_61, B.mn, if_neg (by rw [nI_leI (by omega) (by omega)]; omega), zi]
    unfold f_X12_quiet_114 f_X12_quiet_110 f_X12_quiet_115
    simp only [nm_id, nI_1]
    cases t : qtB v G O i with
    | false =>
      rw [if_neg (by decide)]
      exact K (0, g) ⟨by rw [qtB, t]; rfl, B, c⟩
    | true =>
      rw [if_pos rfl, e_X12_has, ob_some, inS_tb G (by omega) i (by omega), zi]
      by_cases gb : G.testBit i = true
      · obtain ⟨h2, e2, B2, c2⟩ := e_coming B hG g0 (xor_sb sb gb) gb
        obtain ⟨h3, e3, B3, c3⟩ := e_coming B2 hG g0 sb gb
        rw [if_pos gb, xor_n O (by omega) i (by omega), e2, ob_some, e3, ob_some]
        by_cases l : pyQ v G O i < pyQ v G (O ^^^ 2 ^ i) i
        · rw [if_pos l]
          exact K (0, h3) ⟨by rw [qtB, t, gb, decide_eq_false (fun w => w l)]; rfl, B3, by show h3.1 65 = _; rw [c3, c2, c]⟩
        · rw [if_neg l]
          exact K (1, h3) ⟨by rw [qtB, t, gb, decide_eq_true l]; rfl, B3, by show h3.1 65 = _; rw [c3, c2, c]⟩
      · rw [if_neg gb]
        exact K (1, g) ⟨by rw [qtB, t]; simp [gb]; rfl, B, c⟩
theorem e_q32 {v : Wd} {G : Nat} {i : Int32} {h : AH} (B : mB v h) (hG : G < 2 ^ v.n) (g0 : 0 < G) : ∃ h', f_X12_quiet_32 FU 56 (nI G) i 0 0 h = some (qR i (qF (qP v G) i (2 ^ v.n)), h') ∧ h'.1 65 = h.1 65 := by
  have hn := B.n6
  have h64 := pow_le6 hn
  have sh := shl_n v.n (by omega)
  refine lp (fun n k (s : Int32 × AH) => ∃ h', f_X12_quiet_32 n 56 (nI G) i s.1 (nI k) s.2 = some (qR i (qF (qP v G) i (2 ^ v.n)), h') ∧ h'.1 65 = h.1 65) (fun k s => qF (qP v G) i k = .inl s.1 ∧ mB v s.2 ∧ s.2.1 65 = h.1 65) (2 ^ v.n) (by omega) ?_ ?_ (s := (0, h)) ⟨rfl, B, rfl⟩
  · rintro n ⟨c, g⟩ ⟨e, B, c65⟩
    have B : mB v g := B
    have e : qF (qP v G) i (2 ^ v.n) = .inl c := e
    simp only
    rw [f_X12_quiet_32, B.mn, sh, if_pos (by rw [nI_leI (by omega) (by omega)]; omega), e]
    refine ⟨g, ?_, c65⟩
    show _ = some (if i = -1 then c else -1, g)
    by_cases q : i = -1
    · rw [if_pos q, if_pos q]
      rfl
    · rw [if_neg q, if_neg q]
      rfl
  · rintro n k ⟨c, g⟩ hk ⟨e, B, c65⟩ K
    have B : mB v g := B
    have c65 : g.1 65 = h.1 65 := c65
    have e : qF (qP v G) i k = .inl c := e
    simp only at K ⊢
    have q1 := qF_1 e
    have si := sb_1 k (by omega) G (by omega)
    rw [f_X12_quiet_32, B.mn, sh, if_neg (by rw [nI_leI (by omega) (by omega)]; omega)]
    rw [show qP v G k = (sbB k G && qtB v G k v.n) from rfl] at q1
    cases s : sbB k G with
    | false =>
      rw [s, Bool.false_and, if_neg (by decide)] at q1
      rw [if_neg (fun w => by rw [si.mp w] at s; cases s), f_X12_quiet_142, nm_id, nI_1]
      exact K (c, g) ⟨q1, B, c65⟩
    | true =>
      rw [s, Bool.true_and] at q1
      obtain ⟨h2, e2, B2, c2⟩ := e_q61 (x2 := i) (x3 := c) (f_X12_quiet_32 n) B hG g0 s
      rw [if_pos (si.mpr s), e2]
      by_cases t : qtB v G k v.n = true
      · rw [if_pos t] at q1 ⊢
        by_cases ci : c = i
        · rw [if_pos ci] at q1 ⊢
          rw [qF_end (N := 2 ^ v.n) (by omega) q1]
          exact ⟨h2, rfl, by rw [c2, c65]⟩
        · rw [if_neg ci] at q1 ⊢
          exact K (c + 1, h2) ⟨q1, B2, by show h2.1 65 = _; rw [c2, c65]⟩
      · rw [if_neg t] at q1 ⊢
        exact K (c, h2) ⟨q1, B2, by show h2.1 65 = _; rw [c2, c65]⟩
theorem m1_le {x : Int32} : ((-1 : Int32) ≤ x) ↔ ¬ x < -1 := by
  rw [Int32.le_iff_toInt_le, Int32.lt_iff_toInt_lt]
  omega
theorem pt0 {n : Nat} (hn : n ≤ 6) (b : Int32) : ptB n 0 b = decide (¬ b ≤ 0 ∧ ¬ nI (2 ^ n) ≤ b) := by
  unfold ptB
  rw [decide_eq_decide]
  exact ⟨fun h => h.2.2, fun h => ⟨by decide, by decide, h⟩⟩
theorem e_areG {h : AH} {n : Nat} (hn : n ≤ 6) (e : h.1 56 20 = nI n) (b : Int32) : f_X12_areGuests 56 b h = some (zb (ptB n 0 b), h) := by
  unfold f_X12_areGuests
  rw [e, shl_n n (by omega), pt0 hn]
  by_cases c1 : b ≤ 0
  · rw [if_pos c1, decide_eq_false (fun w => w.1 c1)]
    rfl
  · rw [if_neg c1]
    by_cases c2 : nI (2 ^ n) ≤ b
    · rw [if_pos c2, decide_eq_false (fun w => w.2 c2)]
      rfl
    · rw [if_neg c2, decide_eq_true ⟨c1, c2⟩]
      rfl
theorem g15 : G15 Rel := by
  intro h ⟨v, R⟩ a1 a2
  have hn := R.n6
  have h64 := pow_le6 hn
  have R2 := R.thr (x := 0)
  cases hp : ptB v.n 0 a1 with
  | false =>
    refine ⟨-1, h, sI h 56 0 0, ?_, ?_, v, R2⟩
    · unfold f_X11_quiet
      rw [e_isParty hn R.cn, hp, ob_some, zi, if_neg (by decide)]
      rfl
    · unfold f_X12_quiet
      rw [nm_id, R2.mn]
      by_cases n0 : v.n = 0
      · rw [n0, if_pos (show nI 0 = 0 from rfl)]
        rfl
      · rw [if_neg (nI_ne0 (by omega) (by omega)), e_areG hn R2.mn, hp, ob_some, zi, if_neg (by decide)]
        rfl
  | true =>
    obtain ⟨u, G, hu, eu, g0, hG, rfl⟩ := (ptB_iff hn).mp hp
    have n0 := n_of_G g0 hG
    by_cases hi : (-1 : Int32) ≤ a2
    · obtain ⟨h3, e3, B3, Z3⟩ := e_opened (R.cB n0)
      have C3 : qC v G h3 := ⟨B3, fun q hq => (Z3.1.2.2.2.2.2 q hq).1, fun q hq _ => (Z3.1.2.2.2.2.2 q hq).2⟩
      obtain ⟨h4, e4⟩ := e_findQ (i := a2) C3 hG g0
      have E1 : f_X11_quiet 0 (nI G) a2 h = some (qR a2 (qF (qP v G) a2 (G + 1)), h4) := by
        unfold f_X11_quiet
        rw [e_isParty hn R.cn, hp, ob_some, zi, if_pos rfl, if_pos hi, rv_0_10, rv_0_6, e3, ov_some, rv_0_12, e4, ob_some]
      have R5 : RelV v h4 := rel_agr (w_f_X11_quiet_i0 _ _ _ _ E1) rfl R
      have R6 := R5.thr (x := 0)
      obtain ⟨h6, e6, c65⟩ := e_q32 (i := a2) (R6.mB n0) hG g0
      have ex : qF (qP v G) a2 (2 ^ v.n) = qF (qP v G) a2 (G + 1) := by
        have := qF_ext (P := qP v G) (i := a2) (a := G + 1) (fun k hk => by
          unfold qP
          cases s : sbB k G with
          | false => rfl
          | true =>
            have e := Nat.eq_of_beq_eq_true s
            have : k &&& G ≤ G := Nat.and_le_right
            omega) (2 ^ v.n - (G + 1))
        rw [show G + 1 + (2 ^ v.n - (G + 1)) = 2 ^ v.n by omega] at this
        exact this
      have E2 : f_X12_quiet 56 (nI G) a2 h4 = some (qR a2 (qF (qP v G) a2 (G + 1)), h6) := by
        unfold f_X12_quiet
        rw [nm_id, R6.mn, if_neg (nI_ne0 (by omega) (by omega)), e_areG hn R6.mn, hp, ob_some, zi, if_pos rfl, if_pos hi, ← ex]
        exact e6
      have W2 : Agr W_X12_quiet_i56 h4 h6 := w_f_X12_quiet_i56 _ _ _ _ E2
      exact ⟨_, h4, h6, E1, E2, v, rel_eq (eqOn_less (a := 65) (b := 65) W2 c65 c65 rfl) R5⟩
    · refine ⟨-1, h, sI h 56 0 0, ?_, ?_, v, R2⟩
      · unfold f_X11_quiet
        rw [e_isParty hn R.cn, hp, ob_some, zi, if_pos rfl, if_neg hi]
        rfl
      · unfold f_X12_quiet
        rw [nm_id, R2.mn, if_neg (nI_ne0 (by omega) (by omega)), e_areG hn R2.mn, hp, ob_some, zi, if_pos rfl, if_neg hi]
        rfl
