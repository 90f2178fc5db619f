/-! year -/
def dr (x : Int64) : Int64 := x * 6364136223846793005 + 1442695040888963407
theorem u64 (V : UInt64) : V.toInt64 = lN V.toNat := by
  show (⟨V⟩ : Int64) = ⟨⟨BitVec.ofNat 64 V.toBitVec.toNat⟩⟩
  rw [BitVec.ofNat_toNat, BitVec.setWidth_eq]
theorem ushr33 (x : Int64) : ∃ k, k < 2 ^ 31 ∧ jlushr x 33 = lN k := by
  refine ⟨(x.toUInt64 >>> ((33 : Int32).toInt64.toUInt64 &&& Int64.toUInt64 63)).toNat, ?_, u64 _⟩
  have e : ((33 : Int32).toInt64.toUInt64 &&& Int64.toUInt64 63) = 33 := by decide
  rw [e, UInt64.toNat_shiftRight]
  have := x.toUInt64.toNat_lt
  show x.toUInt64.toNat >>> (33 % 64) < 2 ^ 31
  rw [Nat.shiftRight_eq_div_pow]
  exact Nat.div_lt_of_lt_mul (by omega)
def dv (x : Int64) (m : Nat) : Nat := ((jlrem (jlushr x 33) (nI m).toInt64).toInt32).toNatClampNeg
theorem dv_e (x : Int64) {m : Nat} (m0 : 0 < m) (m6 : m ≤ 7) : (jlrem (jlushr x 33) (nI m).toInt64).toInt32 = nI (dv x m) ∧ dv x m < m := by
  obtain ⟨k, hk, e⟩ := ushr33 x
  have e2 : (jlrem (jlushr x 33) (nI m).toInt64).toInt32 = nI (k % m) := by
    show (jlushr x 33 - jlushr x 33 / (nI m).toInt64 * (nI m).toInt64).toInt32 = _
    rw [e, nI_l (by omega), pk_lRem (by omega) m0 (by omega), lN_i]
  have l := Nat.mod_lt k m0
  unfold dv
  rw [e2, nI_clamp (by omega)]
  exact ⟨rfl, l⟩
theorem l_nz {m : Nat} (m0 : 0 < m) (m6 : m ≤ 7) : decide (¬ (nI m).toInt64 = 0) = true := by
  rw [decide_eq_true_eq, nI_l (by omega), show (0 : Int64) = lN 0 from rfl, lN_eq (by omega) (by decide)]
  omega
theorem sL_s (h : AH) (k : Nat) (v : Int64) : (sL h k v).2.1 k = v := if_pos rfl
theorem e_drawC {m : Nat} (m0 : 0 < m) (m6 : m ≤ 7) (h : AH) : f_X11_draw 0 (nI m) h = some (nI (dv (dr (h.2.1 0)) m), sL h 0 (dr (h.2.1 0))) := by
  unfold f_X11_draw f_X11_draw_36
  rw [nm_id, if_pos (show (1 : Int32) ≤ nI m by rw [show (1 : Int32) = nI 1 from rfl, nI_leI (by decide) (by omega)]; omega), og_t (l_nz m0 m6)]
  have E : h.2.1 0 * 6364136223846793005 + 1442695040888963407 = dr (h.2.1 0) := rfl
  rw [E, sL_s, (dv_e _ m0 m6).1]
theorem e_drawM {m : Nat} (m0 : 0 < m) (m6 : m ≤ 7) (h : AH) : f_X12_draw 56 (nI m) h = some (nI (dv (dr (h.2.1 56)) m), sL h 56 (dr (h.2.1 56))) := by
  unfold f_X12_draw
  rw [nm_id, og_t (l_nz m0 m6)]
  have E : h.2.1 56 * 6364136223846793005 + 1442695040888963407 = dr (h.2.1 56) := rfl
  rw [E, sL_s, (dv_e _ m0 m6).1]
def dgF (x : Int64) : Nat → Int64 × Nat
  | 0 => (x, 0)
  | k + 1 => (dr (dgF x k).1, (dgF x k).2 + dv (dr (dgF x k).1) 2 * 2 ^ k)
theorem dgF_lt (x : Int64) : ∀ k, (dgF x k).2 < 2 ^ k := by
  intro k
  induction k with
  | zero => exact Nat.one_pos
  | succ k ih =>
    have := (dv_e (dr (dgF x k).1) (m := 2) (by omega) (by omega)).2
    rw [dgF, Nat.pow_succ]
    show (dgF x k).2 + dv (dr (dgF x k).1) 2 * 2 ^ k < 2 ^ k * 2
    have : dv (dr (dgF x k).1) 2 = 0 ∨ dv (dr (dgF x k).1) 2 = 1 := by omega
    rcases this with q | q
    · rw [q]
      omega
    · rw [q]
      omega
theorem shl0 : ∀ k, k < 6 → nI 0 <<< (nI k &&& 31) = 0 := by decide +kernel
theorem or0 (x : Int32) : x ||| 0 = x := by
  rw [← Int32.toBitVec_inj]
  simp
theorem dg_or (x : Int64) {k : Nat} (hk : k < 6) : nI (dgF x k).2 ||| (nI (dv (dr (dgF x k).1) 2) <<< (nI k &&& 31)) = nI (dgF x (k + 1)).2 := by
  have l := (dv_e (dr (dgF x k).1) (m := 2) (by omega) (by omega)).2
  have lt := dgF_lt x k
  have h64 := pow_le6 (show k ≤ 6 by omega)
  show _ = nI ((dgF x k).2 + dv (dr (dgF x k).1) 2 * 2 ^ k)
  have : dv (dr (dgF x k).1) 2 = 0 ∨ dv (dr (dgF x k).1) 2 = 1 := by omega
  rcases this with q | q
  · rw [q, shl0 k hk, or0, Nat.zero_mul, Nat.add_zero]
  · rw [q, Nat.one_mul]
    exact or_bit _ (by omega) k hk lt
def dG (x : Int64) (n : Nat) : Nat := if (dgF x n).2 = 0 then 2 ^ n - 1 else (dgF x n).2
theorem dG_b (x : Int64) {n : Nat} (n0 : n ≠ 0) : 0 < dG x n ∧ dG x n < 2 ^ n := by
  have lt := dgF_lt x n
  have : 2 ^ 1 ≤ 2 ^ n := Nat.pow_le_pow_right (by decide) (by omega)
  unfold dG
  split <;> omega
theorem e_drawG {n : Nat} {h : AH} (hn : n ≤ 6) (n0 : n ≠ 0) (cn : h.1 3 2 = nI n) : ∃ h', f_X11_drawGuests 0 h = some (nI (dG (h.2.1 0) n), h') ∧ Agr ((200, 0) :: []) h h' ∧ h'.2.1 0 = (dgF (h.2.1 0) n).1 := by
  unfold f_X11_drawGuests
  refine lp (fun f i (s : Int32 × AH) => ∃ h', f_X11_drawGuests_4 f 0 s.1 (nI i) s.2 = some (nI (dG (h.2.1 0) n), h') ∧ Agr ((200, 0) :: []) h h' ∧ h'.2.1 0 = (dgF (h.2.1 0) n).1) (fun i s => s.1 = nI (dgF (h.2.1 0) i).2 ∧ Agr ((200, 0) :: []) h s.2 ∧ s.2.2.1 0 = (dgF (h.2.1 0) i).1) n (by omega) ?_ ?_ (s := (0, h)) ⟨rfl, agr_refl h, rfl⟩
  · rintro f ⟨s, g⟩ ⟨e, A, x⟩
    have e : s = _ := e
    subst e
    have A : Agr ((200, 0) :: []) h g := A
    have c3 : g.1 3 2 = nI n := by
      rw [agr_on A (B := (3, 2) :: []) rfl 3 2 rfl]
      exact cn
    have lt := dgF_lt (h.2.1 0) n
    have h64 := pow_le6 hn
    simp only
    rw [f_X11_drawGuests_4, rv_0_1, c3, if_pos (by rw [nI_leI (by omega) (by omega)]; omega)]
    unfold dG
    by_cases c : (dgF (h.2.1 0) n).2 = 0
    · rw [if_pos (by rw [c]; rfl), if_pos c]
      unfold f_X11_everybody f_X11_drawGuests_43
      rw [rv_0_1, c3, shl_n n (by omega), ob_some]
      exact ⟨g, by rw [show nI (2 ^ n) - 1 = nI (2 ^ n - 1) from pk_sub (a := 2 ^ n) (b := 1) (Nat.two_pow_pos n)], A, x⟩
    · rw [if_neg (nI_ne0 (by omega) (by omega)), if_neg c]
      exact ⟨g, rfl, A, x⟩
  · rintro f i ⟨s, g⟩ hi ⟨e, A, x⟩ K
    have e : s = _ := e
    subst e
    have A : Agr ((200, 0) :: []) h g := A
    have x : g.2.1 0 = _ := x
    have c3 : g.1 3 2 = nI n := by
      rw [agr_on A (B := (3, 2) :: []) rfl 3 2 rfl]
      exact cn
    have d2 : f_X11_draw 0 2 g = some (nI (dv (dr (g.2.1 0)) 2), sL g 0 (dr (g.2.1 0))) := e_drawC (m := 2) (by omega) (by omega) g
    simp only at K ⊢
    rw [f_X11_drawGuests_4, rv_0_1, c3, if_neg (by rw [nI_leI (by omega) (by omega)]; omega), d2, ob_some, nm_id, nm_id, nI_1, x, dg_or _ (by omega)]
    exact K (nI (dgF (h.2.1 0) (i + 1)).2, sL g 0 (dr (dgF (h.2.1 0) i).1)) ⟨rfl, agr_sL A rfl, sL_s ..⟩
theorem e_y53 {n : Nat} {h : AH} {x1 x4 x5 : Int32} (q : Nat → Int32 → Int32 → AH → Option (Int32 × AH)) (hn : n ≤ 6) (n0 : n ≠ 0) (mn : h.1 56 20 = nI n) : ∃ h', f_X12_year_53 q FU 56 x1 x4 x5 0 0 h = f_X12_year_96 q 56 x1 x4 x5 (nI (dG (h.2.1 56) n)) h' ∧ Agr ((200, 0) :: []) h h' ∧ h'.2.1 56 = (dgF (h.2.1 56) n).1 := by
  refine lp (fun f i (s : Int32 × AH) => ∃ h', f_X12_year_53 q f 56 x1 x4 x5 s.1 (nI i) s.2 = f_X12_year_96 q 56 x1 x4 x5 (nI (dG (h.2.1 56) n)) h' ∧ Agr ((200, 0) :: []) h h' ∧ h'.2.1 56 = (dgF (h.2.1 56) n).1) (fun i s => s.1 = nI (dgF (h.2.1 56) i).2 ∧ Agr ((200, 0) :: []) h s.2 ∧ s.2.2.1 56 = (dgF (h.2.1 56) i).1) n (by omega) ?_ ?_ (s := (0, h)) ⟨rfl, agr_refl h, rfl⟩
  · rintro f ⟨s, g⟩ ⟨e, A, x⟩
    have e : s = _ := e
    subst e
    have A : Agr ((200, 0) :: []) h g := A
    have c3 : g.1 56 20 = nI n := by
      rw [agr_on A (B := (56, 20) :: []) rfl 56 20 rfl]
      exact mn
    have lt := dgF_lt (h.2.1 56) n
    have h64 := pow_le6 hn
    simp only
    rw [f_X12_year_53, c3, if_pos (by rw [nI_leI (by omega) (by omega)]; omega)]
    unfold dG
    by_cases c : (dgF (h.2.1 56) n).2 = 0
    · rw [if_pos (by rw [c]; rfl), if_pos c, shl_n n (by omega), nm_id]
      exact ⟨g, by rw [show nI (2 ^ n) - 1 = nI (2 ^ n - 1) from pk_sub (a := 2 ^ n) (b := 1) (Nat.two_pow_pos n)], A, x⟩
    · rw [if_neg (nI_ne0 (by omega) (by omega)), if_neg c]
      exact ⟨g, rfl, A, x⟩
  · rintro f i ⟨s, g⟩ hi ⟨e, A, x⟩ K
    have e : s = _ := e
    subst e
    have A : Agr ((200, 0) :: []) h g := A
    have x : g.2.1 56 = _ := x
    have c3 : g.1 56 20 = nI n := by
      rw [agr_on A (B := (56, 20) :: []) rfl 56 20 rfl]
      exact mn
    have d2 : f_X12_draw 56 2 g = some (nI (dv (dr (g.2.1 56)) 2), sL g 56 (dr (g.2.1 56))) := e_drawM (m := 2) (by omega) (by omega) g
    simp only at K ⊢
    rw [f_X12_year_53, c3, if_neg (by rw [nI_leI (by omega) (by omega)]; omega), d2, ob_some, nm_id, nm_id, nI_1, x, dg_or _ (by omega)]
    exact K (nI (dgF (h.2.1 56) (i + 1)).2, sL g 56 (dr (dgF (h.2.1 56) i).1)) ⟨rfl, agr_sL A rfl, sL_s ..⟩
/-- the drawn order -/
def doF : Nat → Int64 → (Nat → Nat) → Int64 × (Nat → Nat)
  | 0, x, row => (x, row)
  | i + 1, x, row => doF i (dr x) (swp row (i + 1) (dv (dr x) (i + 2)))
theorem swp_sg (row : Nat → Nat) (a b j : Nat) : swp row a b j = row (sg a b j) := by
  unfold swp sg
  grind
theorem gRow_swp {n G : Nat} {row : Nat → Nat} (r : gRow n G row) {a b : Nat} (ha : a < pc G) (hb : b < pc G) : gRow n G (swp row a b) := by
  have sl : ∀ j, j < pc G → sg a b j < pc G := by
    intro j hj
    unfold sg
    split
    · exact hb
    · split
      · exact ha
      · exact hj
  have e : swp row a b = fun j => row (sg a b j) := funext (swp_sg row a b)
  rw [e]
  refine ⟨⟨r.1.1, fun j hj => r.1.2.1 _ (sl j hj), fun i j hi hj q => ?_⟩, fun j hj => r.2.1 _ (sl j hj), fun p hp => ?_⟩
  · have := congrArg (sg a b) (r.1.2.2 _ _ (sl i hi) (sl j hj) q)
    rw [sg_inv, sg_inv] at this
    exact this
  · obtain ⟨j, hj, ej⟩ := r.2.2 p hp
    exact ⟨sg a b j, sl j hj, by show row (sg a b (sg a b j)) = p; rw [sg_inv, ej]⟩
theorem doF_row {n G : Nat} : ∀ i x row, i < pc G → gRow n G row → pc G ≤ 6 → gRow n G (doF i x row).2 := by
  intro i
  induction i with
  | zero => intro x row _ r _; exact r
  | succ i ih =>
    intro x row hi r h6
    have := (dv_e (dr x) (m := i + 2) (by omega) (by omega)).2
    exact ih (dr x) _ (by omega) (gRow_swp r hi (by omega)) h6
theorem e_dOrd {m : Nat} (m6 : m ≤ 6) : ∀ f i row g, i < m → i < f → cRw row m g → ∃ h', f_X11_drawOrder_18 f 0 (nI i) g = some h' ∧ cRw (doF i (g.2.1 0) row).2 m h' ∧ h'.2.1 0 = (doF i (g.2.1 0) row).1 ∧ Agr W_X11_drawOrder_i0 g h' := by
  intro f
  induction f with
  | zero => intro i _ _ _ q; omega
  | succ f ih =>
    intro i row g hi hf c
    rw [f_X11_drawOrder_18]
    cases i with
    | zero =>
      rw [if_pos (by decide)]
      exact ⟨g, rfl, c, rfl, agr_refl g⟩
    | succ i =>
      have dl := (dv_e (dr (g.2.1 0)) (m := i + 2) (by omega) (by omega)).2
      have aL : Agr W_X11_drawOrder_i0 g (sL g 0 (dr (g.2.1 0))) := agr_sL (agr_refl g) rfl
      have c1 : cRw row m (sL g 0 (dr (g.2.1 0))) := c
      obtain ⟨h3, e3, c3⟩ := e_exch c1 m6 hi (show dv (dr (g.2.1 0)) (i + 2) < m by omega)
      have a3 : Agr W_X5_exchange_i41 (sL g 0 (dr (g.2.1 0))) h3 := w_f_X5_exchange_i41 _ _ _ _ e3
      have x3 : h3.2.1 0 = dr (g.2.1 0) := by
        rw [a3.2.1 rfl]
        exact sL_s ..
      obtain ⟨h4, e4, c4, x4, a4⟩ := ih i _ h3 (by omega) (by omega) c3
      rw [if_neg (nI_nle (by omega) (by omega)), nI_1, e_drawC (by omega) (by omega), ob_some, rv_0_11, e3, ov_some, nm_id, pk_m1]
      rw [x3] at c4 x4
      exact ⟨h4, e4, c4, x4, agr_tr (agr_tr aL a3 rfl) a4 rfl⟩
theorem gl_row {n G : Nat} (hn : n ≤ 6) (hG : G < 2 ^ n) (g0 : 0 < G) : (gl G 6).length = pc G ∧ gRow n G (fun j => (gl G 6).getD j 0) := by
  have h64 := pow_le6 hn
  obtain ⟨⟨t, wt⟩, _, w3, _, _, w6⟩ := W_parts g0 (show G < 64 by omega)
  have w0 : (WG G).getD 0 [] = gl G 6 := by rw [wt]; rfl
  have r0 := rChk_ok hn hG (w3 0 w6)
  rw [w0] at r0
  exact r0
def dRow (G : Nat) (x : Int64) : Int64 × (Nat → Nat) := doF (pc G - 1) x (fun j => (gl G 6).getD j 0)
theorem e_drawO {n G : Nat} {h : AH} (hn : n ≤ 6) (hG : G < 2 ^ n) (g0 : 0 < G) : ∃ h', f_X11_drawOrder 0 (nI G) h = some h' ∧ cRw (dRow G (h.2.1 0)).2 (pc G) h' ∧ h'.2.1 0 = (dRow G (h.2.1 0)).1 := by
  have h64 := pow_le6 hn
  have p7 := (pc_ok G (by omega)).2
  have pp := pc_pos G (by omega) g0
  obtain ⟨h1, e1, c1⟩ := e_lowest (show G < 64 by omega) h
  rw [(gl_row hn hG g0).1] at c1
  have a1 : Agr W_X5_lowest_i41 h h1 := w_f_X5_lowest_i41 _ _ _ e1
  obtain ⟨k, hk⟩ : ∃ k, pc G = k + 1 := ⟨pc G - 1, by omega⟩
  obtain ⟨h2, e2, c2, x2, _⟩ := e_dOrd (m := pc G) (by omega) FU (pc G - 1) _ h1 (by omega) (by unfold FU; omega) c1
  rw [a1.2.1 rfl] at c2 x2
  refine ⟨h2, ?_, c2, x2⟩
  unfold f_X11_drawOrder
  rw [rv_0_11, e1, ov_some, nm_id, c1.1, hk, nI_pred]
  rw [hk] at e2
  exact e2
def mLo (l : List Nat) (h : AH) : Prop := h.1 56 29 = nI l.length ∧ ∀ j, j < l.length → h.1 67 j = nI (l.getD j 0)
theorem gl_ext {G n : Nat} (hG : G < 2 ^ n) : ∀ d, gl G (n + d) = gl G n := by
  intro d
  induction d with
  | zero => rfl
  | succ d ih =>
    rw [← Nat.add_assoc, gl, if_neg, ih]
    intro b
    have := tb_lt hG b
    omega
theorem e_y104 {n G : Nat} {h : AH} {x1 x4 x5 : Int32} (q : Nat → Int32 → Int32 → AH → Option (Int32 × AH)) (hn : n ≤ 6) (hG : G < 2 ^ n) (g0 : 0 < G) (mn : h.1 56 20 = nI n) : ∃ h', f_X12_year_96 q 56 x1 x4 x5 (nI G) h = f_X12_year_161 q FU 56 x1 x4 x5 (nI G) (nI (pc G - 1)) h' ∧ mRw (fun j => (gl G 6).getD j 0) (pc G) h' ∧ Agr ((56, 29) :: (67, 1000) :: []) h h' := by
  have h64 := pow_le6 hn
  have pp := pc_pos G (by omega) g0
  have gn : gl G 6 = gl G n := by
    have := gl_ext hG (6 - n)
    rw [show n + (6 - n) = 6 by omega] at this
    exact this
  have gL := (gl_row hn hG g0).1
  unfold f_X12_year_96
  rw [nm_id]
  refine lp (fun f i g => ∃ h', f_X12_year_104 q f 56 x1 x4 x5 (nI G) (nI i) g = f_X12_year_161 q FU 56 x1 x4 x5 (nI G) (nI (pc G - 1)) h' ∧ mRw (fun j => (gl G 6).getD j 0) (pc G) h' ∧ Agr ((56, 29) :: (67, 1000) :: []) h h') (fun i g => mLo (gl G i) g ∧ Agr ((56, 29) :: (67, 1000) :: []) h g) n (by omega) ?_ ?_ (s := sI h 56 29 0) ⟨⟨sI_s .., fun j hj => absurd hj (by simp [gl])⟩, agr_sI (agr_refl h) rfl⟩
  · rintro f g ⟨c, A⟩
    have c20 : g.1 56 20 = nI n := by
      rw [agr_on A (B := (56, 20) :: []) rfl 56 20 rfl]
      exact mn
    rw [← gn, mLo, gL] at c
    obtain ⟨k, hk⟩ : ∃ k, pc G = k + 1 := ⟨pc G - 1, by omega⟩
    refine ⟨g, ?_, c, A⟩
    rw [f_X12_year_104, c20, if_pos (by rw [nI_leI (by omega) (by omega)]; omega), nm_id, c.1, hk, nI_pred]
    rfl
  · rintro f i g hi ⟨c, A⟩ K
    have c20 : g.1 56 20 = nI n := by
      rw [agr_on A (B := (56, 20) :: []) rfl 56 20 rfl]
      exact mn
    have gll := gl_len G i
    rw [f_X12_year_104, c20, if_neg (by rw [nI_leI (by omega) (by omega)]; omega), e_X12_has, ob_some, inS_tb G (by omega) i (by omega), zi]
    rw [gl] at K
    by_cases b : G.testBit i = true
    · rw [if_pos b] at K
      rw [if_pos b, c.1, rv_56_27, an_67, og_ix (by omega) (by omega), nm_id, nI_clamp (by omega), nm_id, sI_n (Or.inl (by decide)), c.1, nI_1, f_X12_year_147, nm_id, nI_1]
      refine K _ ⟨⟨by rw [sI_s, List.length_append]; rfl, fun j hj => ?_⟩, agr_sI (agr_sI A rfl) rfl⟩
      rw [sI_n (Or.inl (by decide))]
      by_cases e : j = (gl G i).length
      · subst e
        rw [sI_s, gN2]
      · have hj' : j < (gl G i).length := by
          rw [List.length_append] at hj
          have : j < (gl G i).length + 1 := hj
          omega
        rw [sI_n (Or.inr e), gN1 hj']
        exact c.2 j hj'
    · rw [if_neg b] at K
      rw [if_neg b, f_X12_year_147, nm_id, nI_1]
      exact K g ⟨c, A⟩
theorem e_y161 {m : Nat} {x1 x4 x5 x6 : Int32} (q : Nat → Int32 → Int32 → AH → Option (Int32 × AH)) (m6 : m ≤ 6) : ∀ f i row g, i < m → i < f → mRw row m g → ∃ h', f_X12_year_161 q f 56 x1 x4 x5 x6 (nI i) g = (ov (f_X12_visits 56 x5 x6 h') fun h_3 => q 56 x1 (x4 + 1) h_3) ∧ mRw (doF i (g.2.1 56) row).2 m h' ∧ h'.2.1 56 = (doF i (g.2.1 56) row).1 ∧ Agr ((67, 1000) :: (200, 0) :: []) g h' := by
  intro f
  induction f with
  | zero => intro i _ _ _ q; omega
  | succ f ih =>
    intro i row g hi hf c
    rw [f_X12_year_161]
    cases i with
    | zero =>
      rw [if_pos (by decide)]
      exact ⟨g, rfl, c, rfl, agr_refl g⟩
    | succ i =>
      have dl := (dv_e (dr (g.2.1 56)) (m := i + 2) (by omega) (by omega)).2
      have c1 : mRw row m (sL g 56 (dr (g.2.1 56))) := c
      generalize hd : dv (dr (g.2.1 56)) (i + 2) = d at dl
      have ag : Agr ((67, 1000) :: (200, 0) :: []) g (sI (sI (sL g 56 (dr (g.2.1 56))) 67 (i + 1) ((sL g 56 (dr (g.2.1 56))).1 67 d)) 67 d ((sL g 56 (dr (g.2.1 56))).1 67 (i + 1))) := agr_sI (agr_sI (agr_sL (agr_refl g) rfl) rfl) rfl
      have x3 : (sI (sI (sL g 56 (dr (g.2.1 56))) 67 (i + 1) ((sL g 56 (dr (g.2.1 56))).1 67 d)) 67 d ((sL g 56 (dr (g.2.1 56))).1 67 (i + 1))).2.1 56 = dr (g.2.1 56) := sL_s ..
      have c3 : mRw (swp row (i + 1) d) m (sI (sI (sL g 56 (dr (g.2.1 56))) 67 (i + 1) ((sL g 56 (dr (g.2.1 56))).1 67 d)) 67 d ((sL g 56 (dr (g.2.1 56))).1 67 (i + 1))) := by
        refine ⟨c1.1, fun j hj => ?_⟩
        unfold swp
        by_cases e1 : j = d
        · rw [if_pos e1, e1, sI_s, c1.2 (i + 1) hi]
        · rw [if_neg e1, sI_n (Or.inr e1)]
          by_cases e2 : j = i + 1
          · rw [if_pos e2, e2, sI_s, c1.2 d (by omega)]
          · rw [if_neg e2, sI_n (Or.inr e2), c1.2 j hj]
      rw [if_neg (nI_nle (by omega) (by omega)), nI_1, e_drawM (by omega) (by omega), ob_some, hd, rv_56_27, an_67, og_ix (by omega) (by omega), nm_id, og_ix (by omega) (by omega), og_ix (by omega) (by omega), nm_id, og_ix (by omega) (by omega), nm_id, nm_id, pk_m1, nI_clamp (by omega), nI_clamp (by omega)]
      generalize sI (sI (sL g 56 (dr (g.2.1 56))) 67 (i + 1) ((sL g 56 (dr (g.2.1 56))).1 67 d)) 67 d ((sL g 56 (dr (g.2.1 56))).1 67 (i + 1)) = g3 at ag x3 c3 ⊢
      obtain ⟨h4, e4, c4, x4', a4⟩ := ih i _ g3 (by omega) (by omega) c3
      rw [x3] at c4 x4'
      rw [doF, hd]
      exact ⟨h4, e4, c4, x4', agr_tr ag a4 rfl⟩
/-- a year -/
def yG (s : Int64 × Wd) : Nat := dG (dr s.1) s.2.n
def yX (s : Int64 × Wd) : Int64 := (dgF (dr s.1) s.2.n).1
def yrS (s : Int64 × Wd) : Int64 × Wd := ((dRow (yG s) (yX s)).1, evS s.2 (dv (dr s.1) 4) (yG s) (dRow (yG s) (yX s)).2)
def yrF (s : Int64 × Wd) : Nat → Int64 × Wd
  | 0 => s
  | k + 1 => yrS (yrF s k)
theorem yr_row {v : Wd} (hn : v.n ≤ 6) (n0 : v.n ≠ 0) (x : Int64) : gRow v.n (yG (x, v)) (dRow (yG (x, v)) (yX (x, v))).2 ∧ 0 < yG (x, v) ∧ yG (x, v) < 2 ^ v.n := by
  have h64 := pow_le6 hn
  have b := dG_b (dr x) n0
  have g0 : 0 < yG (x, v) := b.1
  have hG : yG (x, v) < 2 ^ v.n := b.2
  have p7 := (pc_ok (yG (x, v)) (by omega)).2
  have pp := pc_pos (yG (x, v)) (by omega) g0
  exact ⟨doF_row _ _ _ (by omega) (gl_row hn hG g0).2 (by omega), g0, hG⟩
def brF (v : Wd) (p : Nat) : Int32 := if v.has p = -1 then 1 else 0
theorem e_bare {v : Wd} {h : AH} (B : cB v h) : f_X9_bare 24 (nI v.n) h = some (zs (brF v) v.n, h) := by
  have hn := B.n6
  unfold f_X9_bare
  refine lp (fun n i (s : Int32) => f_X9_bare_4 n 24 (nI v.n) s (nI i) h = some (zs (brF v) v.n, h)) (fun i s => s = zs (brF v) i) v.n (by omega) ?_ ?_ rfl
  · rintro n s rfl
    rw [f_X9_bare_4, if_pos (by rw [nI_leI (by omega) (by omega)]; omega)]
  · rintro n i s hi rfl K
    rw [f_X9_bare_4, if_neg (by rw [nI_leI (by omega) (by omega)]; omega), rv_24_0, an_25, og_ix (by omega) (by omega), nI_clamp (by omega), (B.2.2.2.2.2.2.2.1 i hi).1]
    by_cases c : v.has i = -1
    · rw [if_pos c, f_X9_bare_25, nm_id, nm_id, nI_1]
      exact K _ (by rw [zs, brF, if_pos c])
    · rw [if_neg c, f_X9_bare_25, nm_id, nm_id, nI_1]
      exact K _ (by rw [zs, brF, if_neg c])
theorem e_y234 {v : Wd} {h : AH} (B : mB v h) : f_X12_year_234 FU 56 0 0 h = some (zs (brF v) v.n, h) := by
  have hn := B.n6
  refine lp (fun n i (s : Int32) => f_X12_year_234 n 56 s (nI i) h = some (zs (brF v) v.n, h)) (fun i s => s = zs (brF v) i) v.n (by omega) ?_ ?_ rfl
  · rintro n s rfl
    rw [f_X12_year_234, B.mn, if_pos (by rw [nI_leI (by omega) (by omega)]; omega)]
  · rintro n i s hi rfl K
    rw [f_X12_year_234, B.mn, if_neg (by rw [nI_leI (by omega) (by omega)]; omega), rv_56_22, an_62, og_ix (by omega) (by omega), nI_clamp (by omega), (B.2.2.2 i hi).1]
    by_cases c : v.has i = -1
    · rw [if_pos c, f_X12_year_261, nm_id, nm_id, nI_1]
      exact K _ (by rw [zs, brF, if_pos c])
    · rw [if_neg c, f_X12_year_261, nm_id, nm_id, nI_1]
      exact K _ (by rw [zs, brF, if_neg c])
theorem e_y31 {v0 : Wd} {x0 : Int64} {N : Nat} {h : AH} (hN : N ≤ 60) (B0 : cB v0 h) (D0 : cD v0 h) (l0 : h.2.1 0 = x0) : ∃ h', f_X11_year_31 FU 0 (nI N) 0 h = some (zs (brF (yrF (x0, v0) N).2) v0.n, h') ∧ cB (yrF (x0, v0) N).2 h' ∧ cD (yrF (x0, v0) N).2 h' ∧ Ev v0 (yrF (x0, v0) N).2 := by
  have hn := B0.n6
  have n0 := B0.2.2.2.2.1
  refine lp (fun n i g => ∃ h', f_X11_year_31 n 0 (nI N) (nI i) g = some (zs (brF (yrF (x0, v0) N).2) v0.n, h') ∧ cB (yrF (x0, v0) N).2 h' ∧ cD (yrF (x0, v0) N).2 h' ∧ Ev v0 (yrF (x0, v0) N).2) (fun i g => cB (yrF (x0, v0) i).2 g ∧ cD (yrF (x0, v0) i).2 g ∧ Ev v0 (yrF (x0, v0) i).2 ∧ g.2.1 0 = (yrF (x0, v0) i).1) N (by omega) ?_ ?_ ⟨B0, D0, Ev_refl v0, l0⟩
  · rintro n g ⟨B, D, E, _⟩
    have en : (yrF (x0, v0) N).2.n = v0.n := E.1.2.1
    have eb := e_bare B
    rw [en] at eb
    rw [f_X11_year_31, if_pos (by rw [nI_leI (by omega) (by omega)]; omega), rv_0_6, rv_0_1, B.cn, en, eb, ob_some]
    exact ⟨g, rfl, B, D, E⟩
  · rintro n i g hi ⟨B, D, E, lx⟩ K
    rw [yrF] at K
    generalize hs : yrF (x0, v0) i = s at B D E lx K
    obtain ⟨x, v⟩ := s
    have B : cB v g := B
    have D : cD v g := D
    have lx : g.2.1 0 = x := lx
    have hn := B.n6
    have n0 := B.2.2.2.2.1
    have h64 := pow_le6 hn
    have d4 : f_X11_draw 0 4 g = some (nI (dv (dr (g.2.1 0)) 4), sL g 0 (dr (g.2.1 0))) := e_drawC (m := 4) (by omega) (by omega) g
    have u4 := (dv_e (dr x) (m := 4) (by omega) (by omega)).2
    obtain ⟨yr, y0, yl⟩ := yr_row hn n0 x
    rw [lx] at d4
    have aL : Agr ((200, 0) :: []) g (sL g 0 (dr x)) := agr_sL (agr_refl g) rfl
    have B1 := cB_agr aL rfl B
    have l1 : (sL g 0 (dr x)).2.1 0 = dr x := sL_s ..
    obtain ⟨h2, e2, a2, x2⟩ := e_drawG hn n0 B1.cn
    rw [l1] at e2 x2
    have e2' : f_X11_drawGuests 0 (sL g 0 (dr x)) = some (nI (yG (x, v)), h2) := e2
    have x2' : h2.2.1 0 = yX (x, v) := x2
    have B2 := cB_agr a2 rfl B1
    obtain ⟨h3, e3, c3, x3⟩ := e_drawO (h := h2) hn yl y0
    rw [x2'] at c3 x3
    have a3 : Agr W_X11_drawOrder_i0 h2 h3 := w_f_X11_drawOrder_i0 _ _ _ e3
    have D3 : cD v h3 := cD_agr a3 rfl (cD_agr a2 rfl (cD_agr aL rfl D))
    obtain ⟨h4, e4, B4, D4⟩ := c_hold (u := dv (dr x) 4) (cB_agr a3 rfl B2) D3 c3 yr (by omega) u4
    have a4 : Agr W_X11_holdEvening_i0 h3 h4 := w_f_X11_holdEvening_i0 _ _ _ _ e4
    rw [f_X11_year_31, if_neg (by rw [nI_leI (by omega) (by omega)]; omega), d4, ob_some, e2', ob_some, e3, ov_some, e4, ov_some, nm_id, nI_1]
    refine K h4 ⟨B4, D4, Ev_s _ _ _ D.1 E, ?_⟩
    rw [a4.2.1 rfl, x3]
    rfl
theorem e_y34 {v0 : Wd} {x0 : Int64} {N : Nat} {h : AH} (hN : N ≤ 60) (B0 : mB v0 h) (D0 : mD v0 h) (l0 : h.2.1 56 = x0) : ∃ h', f_X12_year_34 FU 56 (nI N) 0 h = some (zs (brF (yrF (x0, v0) N).2) v0.n, h') ∧ mB (yrF (x0, v0) N).2 h' ∧ mD (yrF (x0, v0) N).2 h' := by
  refine lp (fun n i g => ∃ h', f_X12_year_34 n 56 (nI N) (nI i) g = some (zs (brF (yrF (x0, v0) N).2) v0.n, h') ∧ mB (yrF (x0, v0) N).2 h' ∧ mD (yrF (x0, v0) N).2 h') (fun i g => mB (yrF (x0, v0) i).2 g ∧ mD (yrF (x0, v0) i).2 g ∧ (yrF (x0, v0) i).2.n = v0.n ∧ g.2.1 56 = (yrF (x0, v0) i).1) N (by omega) ?_ ?_ ⟨B0, D0, rfl, l0⟩
  · rintro n g ⟨B, D, en, _⟩
    have eb := e_y234 B
    rw [en] at eb
    rw [f_X12_year_34, if_pos (by rw [nI_leI (by omega) (by omega)]; omega), eb]
    exact ⟨g, rfl, B, D⟩
  · rintro n i g hi ⟨B, D, E, lx⟩ K
    rw [yrF] at K
    generalize hs : yrF (x0, v0) i = s at B D E lx K
    obtain ⟨x, v⟩ := s
    have B : mB v g := B
    have D : mD v g := D
    have lx : g.2.1 56 = x := lx
    have hn := B.n6
    have n0 := B.2.2.1
    have h64 := pow_le6 hn
    have d4 : f_X12_draw 56 4 g = some (nI (dv (dr (g.2.1 56)) 4), sL g 56 (dr (g.2.1 56))) := e_drawM (m := 4) (by omega) (by omega) g
    have u4 := (dv_e (dr x) (m := 4) (by omega) (by omega)).2
    obtain ⟨yr, y0, yl⟩ := yr_row hn n0 x
    have p7 := (pc_ok (yG (x, v)) (by omega)).2
    have pp := pc_pos (yG (x, v)) (by omega) y0
    rw [lx] at d4
    have aL : Agr ((200, 0) :: []) g (sL g 56 (dr x)) := agr_sL (agr_refl g) rfl
    have B1 := mB_agr aL rfl B
    have l1 : (sL g 56 (dr x)).2.1 56 = dr x := sL_s ..
    obtain ⟨h2, e2, a2, x2⟩ := e_y53 (x1 := nI N) (x4 := nI i) (x5 := nI (dv (dr x) 4)) (f_X12_year_34 n) hn n0 B1.mn
    rw [l1] at e2 x2
    have x2' : h2.2.1 56 = yX (x, v) := x2
    have B2 := mB_agr a2 rfl B1
    obtain ⟨h3, e3, c3, a3⟩ := e_y104 (x1 := nI N) (x4 := nI i) (x5 := nI (dv (dr x) 4)) (f_X12_year_34 n) hn yl y0 B2.mn
    have B3 := mB_agr a3 rfl B2
    obtain ⟨h4, e4, c4, x4, a4⟩ := e_y161 (x1 := nI N) (x4 := nI i) (x5 := nI (dv (dr x) 4)) (x6 := nI (yG (x, v))) (f_X12_year_34 n) (show pc (yG (x, v)) ≤ 6 by omega) FU (pc (yG (x, v)) - 1) _ h3 (by omega) (by unfold FU; omega) c3
    have l3 : h3.2.1 56 = yX (x, v) := by
      rw [a3.2.1 rfl]
      exact x2'
    rw [l3] at c4 x4
    have D4 : mD v h4 := mD_agr a4 rfl (mD_agr a3 rfl (mD_agr a2 rfl (mD_agr aL rfl D)))
    obtain ⟨h5, e5, B5, D5⟩ := m_visits (u := dv (dr x) 4) (mB_agr a4 rfl B3) D4 c4 yr yl u4
    have a5 : Agr W_X12_visits_i56 h4 h5 := w_f_X12_visits_i56 _ _ _ _ e5
    have e2' : f_X12_year_53 (f_X12_year_34 n) FU 56 (nI N) (nI i) (nI (dv (dr x) 4)) 0 0 (sL g 56 (dr x)) = f_X12_year_96 (f_X12_year_34 n) 56 (nI N) (nI i) (nI (dv (dr x) 4)) (nI (yG (x, v))) h2 := e2
    rw [f_X12_year_34, if_neg (by rw [nI_leI (by omega) (by omega)]; omega), d4, ob_some, e2', e3, e4, e5, ov_some, nI_1]
    refine K h5 ⟨B5, D5, E, ?_⟩
    rw [a5.2.1 rfl, x4]
    rfl
theorem e_isIn160 (x : Int32) (h : AH) : f_X12_isIn x.toInt64 1 60 h = some (zb (decide (¬ x < 1 ∧ ¬ 60 < x)), h) := e_X12_isIn x 1 60 h
theorem g16 : G16 Rel := by
  intro h ⟨v, R⟩ a1 a2
  have hn := R.n6
  have R2 := R.thr (x := 0)
  by_cases n0 : v.n = 0
  · refine ⟨-1, h, sI h 56 0 0, ?_, ?_, v, R2⟩
    · unfold f_X11_year
      rw [rv_0_1, R.cn, n0, if_pos (show nI 0 = 0 from rfl)]
      rfl
    · unfold f_X12_year
      rw [nm_id, R2.mn, n0, if_pos (show nI 0 = 0 from rfl)]
      rfl
  · have z0 : ¬ nI v.n = 0 := nI_ne0 (by omega) (by omega)
    by_cases hx : ¬ a1 < 1 ∧ ¬ 60 < a1
    · have h1 : ¬ a1 < 0 := fun w => hx.1 (by
        rw [Int32.lt_iff_toInt_lt] at w ⊢
        rw [show (0 : Int32).toInt = 0 from rfl] at w
        rw [show (1 : Int32).toInt = 1 from rfl]
        omega)
      obtain ⟨N, hN, rfl⟩ := nI_of h1
      have N60 : N ≤ 60 := by
        have := hx.2
        rw [show (60 : Int32) = nI 60 from rfl, nI_ltI (by decide) hN] at this
        omega
      have le : nI N ≤ 60 := by
        rw [show (60 : Int32) = nI 60 from rfl, nI_leI hN (by decide)]
        exact N60
      have aL : Agr ((200, 0) :: []) h (sL h 0 a2) := agr_sL (agr_refl h) rfl
      obtain ⟨h1', e1, B1, D1, E1⟩ := e_y31 (x0 := a2) N60 (cB_agr aL rfl (R.cB n0)) (cD_agr aL rfl R.cD) (sL_s ..)
      have EC : f_X11_year 0 (nI N) a2 h = some (zs (brF (yrF (a2, v) N).2) v.n, h1') := by
        unfold f_X11_year
        rw [rv_0_1, R.cn, if_neg z0, if_neg hx.1, if_pos le, nm_id]
        exact e1
      have W1 : Agr W_X11_year_i0 h h1' := w_f_X11_year_i0 _ _ _ _ EC
      have aM : Agr ((56, 0) :: (200, 0) :: []) h1' (sL (sI h1' 56 0 0) 56 a2) := agr_sL (agr_sI (agr_refl h1') rfl) rfl
      obtain ⟨h2', e2, B2, D2⟩ := e_y34 (x0 := a2) N60 (mB_agr aM rfl (mB_agr W1 rfl (R.mB n0))) (mD_agr aM rfl (mD_agr W1 rfl R.mD)) (sL_s ..)
      have mn1 : (sI h1' 56 0 0).1 56 20 = nI v.n := (mB_agr W1 rfl (R.mB n0)).mn
      have EM : f_X12_year 56 (nI N) a2 h1' = some (zs (brF (yrF (a2, v) N).2) v.n, h2') := by
        unfold f_X12_year
        rw [nm_id, mn1, if_neg z0, e_isIn160, ob_some, decide_eq_true hx, zi, if_pos rfl, nm_id]
        exact e2
      have W2 : Agr W_X12_year_i56 h1' h2' := w_f_X12_year_i56 _ _ _ _ EM
      exact ⟨_, h1', h2', EC, EM, _, rel_ev R E1 (eqOn_tr (agr_on W1 rfl) (agr_on W2 rfl)) (cB_agr W2 rfl B1) (cD_agr W2 rfl D1) B2 D2⟩
    · refine ⟨-1, h, sI h 56 0 0, ?_, ?_, v, R2⟩
      · unfold f_X11_year
        rw [rv_0_1, R.cn, if_neg z0]
        by_cases c1 : a1 < 1
        · rw [if_pos c1]
          rfl
        · rw [if_neg c1, if_neg]
          · rfl
          · intro c2
            exact hx ⟨c1, fun w => by
              rw [Int32.le_iff_toInt_le] at c2
              rw [Int32.lt_iff_toInt_lt] at w
              omega⟩
      · unfold f_X12_year
        rw [nm_id, R2.mn, if_neg z0, e_isIn160, ob_some, decide_eq_false hx, zi, if_neg (by decide)]
        rfl
