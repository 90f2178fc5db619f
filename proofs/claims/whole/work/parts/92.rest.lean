/-! rests -/
def rdE (c e : Nat) : Nat := c / 4 ^ e % 4
def psn (G p : Nat) : Nat := (gl G p).length
def rdP (G c p : Nat) : Nat := rdE c (pcN G - 1 - psn G p)
def seat (G j : Nat) : Nat := (gl G 6).getD j 0
def csE (c e r : Nat) : Nat := c - c / 4 ^ e % 4 * 4 ^ e + r * 4 ^ e
def oR (G c : Nat) : Nat → List Nat
  | 0 => []
  | r + 1 => oR G c r ++ (gl G 6).filter (fun p => Nat.beq (rdP G c p) r)
def oChk4 (G : Nat) : Bool := Nat.blt 4 (pcN G) || (List.range (4 ^ pcN G)).all (fun c => rChk G (oR G c 4))
theorem oChk4_all : (List.range 64).all oChk4 = true := by decide +kernel
theorem gl_n : ∀ G, G < 64 → (gl G 6).length = pcN G := by decide +kernel
theorem seat_ok : ∀ G, G < 64 → ∀ j, j < pcN G → seat G j < 6 ∧ G.testBit (seat G j) = true ∧ psn G (seat G j) = j := by decide +kernel
theorem psn_ok : ∀ G, G < 64 → ∀ p, p < 6 → G.testBit p = true → psn G p < pcN G ∧ seat G (psn G p) = p := by decide +kernel
theorem psn_1 {G p : Nat} : psn G (p + 1) = if G.testBit p = true then psn G p + 1 else psn G p := by
  unfold psn
  rw [gl]
  split <;> simp
theorem rd_ok : ∀ c, c < 256 → ∀ e, e < 4 → (nI c >>> (nI (2 * e) &&& 31)) &&& 3 = nI (rdE c e) := by decide +kernel
theorem cs_ok : ∀ c, c < 256 → ∀ e, e < 4 → ∀ r, r < 4 → (nI c &&& (((3 : Int32) <<< (nI (2 * e) &&& 31)) ^^^ (-1))) ||| (nI r <<< (nI (2 * e) &&& 31)) = nI (csE c e r) := by decide +kernel
theorem cs_rd : ∀ c, c < 256 → ∀ e, e < 4 → ∀ r, r < 4 → ∀ e', e' < 4 → rdE (csE c e r) e' = if e' = e then r else rdE c e' := by decide +kernel
theorem cs_lt : ∀ m, m < 5 → ∀ c, c < 4 ^ m → ∀ e, e < m → ∀ r, r < 4 → csE c e r < 4 ^ m := by decide +kernel
theorem j4 : ∀ x, x < 256 → jirem (nI x) 4 = nI (x % 4) ∧ nI x / 4 = nI (x / 4) := by decide +kernel
theorem p4 : ∀ m, m < 5 → (1 : Int32) <<< ((2 * nI m) &&& 31) = nI (4 ^ m) ∧ 4 ^ m ≤ 256 := by decide +kernel
theorem rdE_lt (c e : Nat) : rdE c e < 4 := Nat.mod_lt _ (by decide)
/-- the guests whose rounds are told -/
def toB (G M c : Nat) : Bool := (List.range 6).all (fun p => !(G.testBit p) || Nat.ble (rdP G c p) M)
theorem toB_iff {G M c : Nat} : toB G M c = true ↔ ∀ p, p < 6 → G.testBit p = true → rdP G c p ≤ M := by
  unfold toB
  rw [List.all_eq_true]
  constructor
  · intro h p hp pb
    have := h p (List.mem_range.mpr hp)
    rw [pb] at this
    exact Nat.le_of_ble_eq_true this
  · intro h p hp
    cases pb : G.testBit p with
    | false => rfl
    | true => exact Nat.ble_eq_true_of_le (h p (List.mem_range.mp hp) pb)
theorem oR_row {n G c : Nat} (hn : n ≤ 6) (hG : G < 2 ^ n) (m4 : pcN G ≤ 4) (hc : c < 4 ^ pcN G) : (oR G c 4).length = pc G ∧ gRow n G (fun j => (oR G c 4).getD j 0) := by
  have h64 := pow_le6 hn
  have := List.all_eq_true.mp oChk4_all G (List.mem_range.mpr (by omega))
  unfold oChk4 at this
  rw [Bool.or_eq_true] at this
  rcases this with q | q
  · have := Nat.le_of_ble_eq_true q
    omega
  · exact rChk_ok hn hG (List.all_eq_true.mp q c (List.mem_range.mpr hc))
theorem oR_le (G c : Nat) : ∀ r d, (oR G c r).length ≤ (oR G c (r + d)).length := by
  intro r d
  induction d with
  | zero => exact Nat.le_refl _
  | succ d ih =>
    rw [← Nat.add_assoc, oR, List.length_append]
    omega
theorem oR_b {n G c : Nat} (hn : n ≤ 6) (hG : G < 2 ^ n) (m4 : pcN G ≤ 4) (hc : c < 4 ^ pcN G) {r : Nat} (hr : r < 4) {l : List Nat} (s : l.Sublist (gl G 6)) : (oR G c r ++ l.filter (fun p => Nat.beq (rdP G c p) r)).length ≤ pcN G := by
  have h64 := pow_le6 hn
  have a := (oR_row hn hG m4 hc).1
  have b := oR_le G c (r + 1) (3 - r)
  rw [show r + 1 + (3 - r) = 4 by omega, a, oR, List.length_append, pc_N G (by omega)] at b
  have s2 : (l.filter (fun p => Nat.beq (rdP G c p) r)).length ≤ ((gl G 6).filter (fun p => Nat.beq (rdP G c p) r)).length := (List.Sublist.filter _ s).length_le
  rw [List.length_append]
  omega
theorem gl_sub {G : Nat} : ∀ d k, k + d = 6 → (gl G k).Sublist (gl G 6) := by
  intro d
  induction d with
  | zero => intro k h; rw [show k = 6 by omega]; exact List.Sublist.refl _
  | succ d ih =>
    intro k h
    refine List.Sublist.trans ?_ (ih (k + 1) (by omega))
    rw [gl]
    split
    · exact List.sublist_append_left _ _
    · exact List.Sublist.refl _
/-- rounds above the greatest told hold nobody -/
theorem oR_told {G M c : Nat} (hG : G < 64) (t : toB G M c = true) : ∀ d, oR G c (M + 1 + d) = oR G c (M + 1) := by
  have t := toB_iff.mp t
  intro d
  induction d with
  | zero => rfl
  | succ d ih =>
    rw [← Nat.add_assoc, oR, ih]
    have : (gl G 6).filter (fun p => Nat.beq (rdP G c p) (M + 1 + d)) = [] := by
      rw [List.filter_eq_nil_iff]
      intro p hp w
      obtain ⟨j, hj, rfl⟩ := List.getElem_of_mem hp
      have s := seat_ok G hG j (by rw [← gl_n G hG]; exact hj)
      have e : seat G j = (gl G 6)[j] := by
        unfold seat
        rw [List.getD_eq_getElem?_getD, List.getElem?_eq_getElem hj]
        rfl
      rw [← e] at w
      have := t _ s.1 s.2.1
      have := Nat.eq_of_beq_eq_true w
      omega
    rw [this, List.append_nil]
/-- what a guest has of the rounds -/
def rwO (G c j : Nat) : Nat := (oR G c 4).getD j 0
def gnF (v : Wd) (G D c p : Nat) : Int32 := nI (v.it p 6) * nI (rdP G c p) + wS v.wo (tkP v (fun q => v.it q 3) v.wo (rwO G c) (pc G) D p)
def rsB (v : Wd) (G D M c : Nat) : Bool := (List.range 6).all (fun p => !(G.testBit p) || (List.range (M + 1)).all (fun r => decide (gnF v G D (csE c (pcN G - 1 - psn G p) r) p ≤ gnF v G D c p)))
theorem rsB_iff {v : Wd} {G D M c : Nat} : rsB v G D M c = true ↔ ∀ p, p < 6 → G.testBit p = true → ∀ r, r < M + 1 → gnF v G D (csE c (pcN G - 1 - psn G p) r) p ≤ gnF v G D c p := by
  unfold rsB
  rw [List.all_eq_true]
  constructor
  · intro h p hp pb r hr
    have := h p (List.mem_range.mpr hp)
    rw [pb, Bool.not_true, Bool.false_or, List.all_eq_true] at this
    exact of_decide_eq_true (this r (List.mem_range.mpr hr))
  · intro h p hp
    cases pb : G.testBit p with
    | false => rfl
    | true =>
      rw [Bool.not_true, Bool.false_or, List.all_eq_true]
      intro r hr
      exact decide_eq_true (h p (List.mem_range.mp hp) pb r (List.mem_range.mp hr))
theorem cs_P {G c p r : Nat} (hG : G < 64) (m4 : pcN G ≤ 4) (hc : c < 4 ^ pcN G) (hp : p < 6) (pb : G.testBit p = true) (hr : r < 4) {q : Nat} (hq : q < 6) (qb : G.testBit q = true) : rdP G (csE c (pcN G - 1 - psn G p) r) q = if q = p then r else rdP G c q := by
  have a := psn_ok G hG p hp pb
  have b := psn_ok G hG q hq qb
  have c256 := (p4 _ (show pcN G < 5 by omega)).2
  unfold rdP
  rw [cs_rd c (by omega) _ (by omega) r hr _ (by omega)]
  by_cases e : q = p
  · subst e
    rw [if_pos rfl, if_pos rfl]
  · rw [if_neg e, if_neg]
    intro w
    have : psn G q = psn G p := by omega
    rw [this, a.2] at b
    exact e b.2.symm
theorem to_cs {G M c p r : Nat} (hG : G < 64) (m4 : pcN G ≤ 4) (hc : c < 4 ^ pcN G) (hp : p < 6) (pb : G.testBit p = true) (hr : r < M + 1) (hM : M < 4) (t : toB G M c = true) : toB G M (csE c (pcN G - 1 - psn G p) r) = true := by
  have t := toB_iff.mp t
  refine toB_iff.mpr (fun q hq qb => ?_)
  rw [cs_P hG m4 hc hp pb (by omega) hq qb]
  split
  · omega
  · exact t q hq qb
/-! rests: the class -/
def cTs (G : Nat) (h : AH) : Prop := h.1 46 5 = nI (pcN G) ∧ ∀ j, j < pcN G → h.1 47 j = nI (seat G j)
theorem cTs_agr {W : List (Nat × Nat)} {G : Nat} {h0 h : AH} (a : Agr W h0 h) (d : Wdis W ((46, 5) :: (47, 1000) :: []) = true) (T : cTs G h0) : cTs G h := by
  have e := agr_on a d
  unfold cTs at T ⊢
  rw [e 46 5 rfl, eqOn_c e 47 (fun _ => rfl)]
  exact T
def cLs (l : List Nat) (h : AH) : Prop := h.1 46 5 = nI l.length ∧ ∀ j, j < l.length → h.1 47 j = nI (l.getD j 0)
theorem e_seat {G : Nat} (hG : G < 64) (h : AH) : ∃ h', f_X0_seat 46 (nI G) h = some h' ∧ cTs G h' := by
  unfold f_X0_seat
  rw [nm_id]
  refine lp (fun n i g => ∃ h', f_X0_seat_7 n 46 (nI G) (nI i) g = some h' ∧ cTs G h') (fun i g => cLs (gl G i) g) 6 (by decide) ?_ ?_ (s := sI h 46 5 0) ⟨sI_s .., fun j hj => absurd hj (by simp [gl])⟩
  · intro n g c
    rw [f_X0_seat_7, if_pos (by decide)]
    have l := gl_n G hG
    refine ⟨g, rfl, by rw [← l]; exact c.1, fun j hj => c.2 j (by rw [l]; exact hj)⟩
  · intro n i g hi c K
    have gll := gl_len G i
    rw [f_X0_seat_7, if_neg (by rw [show (6 : Int32) = nI 6 from rfl, nI_leI (by decide) (by omega)]; omega), e_X11_isIn, ob_some, inS_tb G hG i hi, zi]
    rw [gl] at K
    by_cases b : G.testBit i = true
    · rw [if_pos b] at K
      have s5 : (sI g 47 (gl G i).length (nI i)).1 46 5 + 1 = nI ((gl G i).length + 1) := by
        show g.1 46 5 + 1 = _
        rw [c.1, nI_1]
      rw [if_pos b, c.1, rv_46_4, an_47, og_ix (by omega) (by omega), nI_clamp (by omega), nm_id, s5, nm_id, f_X0_seat_41, nm_id, nI_1]
      refine K _ ⟨by rw [sI_s, List.length_append]; rfl, fun j hj => ?_⟩
      rw [sI_n (Or.inl (by decide))]
      by_cases e : j = (gl G i).length
      · subst e
        rw [sI_s, gN2]
      · have hj' : j < (gl G i).length := by
          rw [List.length_append] at hj
          have : j < (gl G i).length + 1 := hj
          omega
        rw [sI_n (Or.inr e), gN1 hj']
        exact c.2 j hj'
    · rw [if_neg b] at K
      rw [if_neg b, f_X0_seat_41, nm_id, nI_1]
      exact K g c
theorem e_shift {G j : Nat} {h : AH} (T : cTs G h) (hj : j < pcN G) (m4 : pcN G ≤ 4) : f_X0_shiftOf 46 (nI j) h = some (nI (2 * (pcN G - 1 - j)), h) := by
  unfold f_X0_shiftOf
  obtain ⟨k, hk⟩ : ∃ k, pcN G = k + 1 := ⟨pcN G - 1, by omega⟩
  rw [T.1, hk, nI_pred, show nI k - nI j = nI (k - j) from pk_sub (by omega), show (2 : Int32) * nI (k - j) = nI ((k - j) * 2) from k_mul' _ 2, show (k - j) * 2 = 2 * (k + 1 - 1 - j) by omega]
theorem e_round {G c j : Nat} {h : AH} (T : cTs G h) (hj : j < pcN G) (m4 : pcN G ≤ 4) (hc : c < 256) : f_X0_roundOf 46 (nI c) (nI j) h = some (nI (rdE c (pcN G - 1 - j)), h) := by
  unfold f_X0_roundOf
  rw [e_shift T hj m4, ob_some, rd_ok c hc _ (by omega)]
theorem e_told {G M c : Nat} {h : AH} (hG : G < 64) (T : cTs G h) (m4 : pcN G ≤ 4) (hc : c < 256) (hM : M < 4) : f_X0_isTold 46 (nI c) (nI M) h = some (zb (toB G M c), h) := by
  unfold f_X0_isTold
  refine lp (fun f j (_ : Unit) => f_X0_isTold_2 f 46 (nI c) (nI M) (nI j) h = some (zb (toB G M c), h)) (fun j _ => ∀ i, i < j → rdE c (pcN G - 1 - i) ≤ M) (pcN G) (by omega) ?_ ?_ (s := ()) (fun i hi => absurd hi (by omega))
  · intro f _ q
    have : toB G M c = true := toB_iff.mpr (fun p hp pb => q _ (psn_ok G hG p hp pb).1)
    rw [f_X0_isTold_2, T.1, if_pos (by rw [nI_leI (by omega) (by omega)]; omega), this]
    rfl
  · intro f j _ hj q K
    have rl := rdE_lt c (pcN G - 1 - j)
    rw [f_X0_isTold_2, T.1, if_neg (by rw [nI_leI (by omega) (by omega)]; omega), e_round T hj m4 hc, ob_some]
    by_cases b : rdE c (pcN G - 1 - j) ≤ M
    · rw [if_pos (by rw [nI_leI (by omega) (by omega)]; exact b), nm_id, nI_1]
      refine K () (fun i hi => ?_)
      by_cases e : i = j
      · rw [e]
        exact b
      · exact q i (by omega)
    · have : toB G M c = false := by
        cases t : toB G M c with
        | false => rfl
        | true =>
          have s := seat_ok G hG j hj
          have := toB_iff.mp t _ s.1 s.2.1
          unfold rdP at this
          rw [s.2.2] at this
          exact absurd this b
      rw [if_neg (by rw [nI_leI (by omega) (by omega)]; exact b), this]
      rfl
theorem take_1 {l : List Nat} {j : Nat} (h : j < l.length) : l.take (j + 1) = l.take j ++ [l.getD j 0] := by
  rw [List.take_succ, List.getElem?_eq_getElem h, List.getD_eq_getElem?_getD, List.getElem?_eq_getElem h]
  rfl
theorem fil_1 (l : List Nat) (x : Nat) (P : Nat → Bool) : (l ++ [x]).filter P = if P x = true then l.filter P ++ [x] else l.filter P := by
  rw [List.filter_append]
  by_cases b : P x = true
  · rw [if_pos b, List.filter_cons, if_pos b]
    rfl
  · rw [if_neg b, List.filter_cons, if_neg b, List.filter_nil, List.append_nil]
theorem e_rise {v : Wd} {G D M c : Nat} {h : AH} (hn : v.n ≤ 6) (hG : G < 2 ^ v.n) (m4 : pcN G ≤ 4) (hc : c < 4 ^ pcN G) (hM : M < 4) (t : toB G M c = true) (hD : D < 2 ^ v.n) (Z : cZ v (fun q => v.it q 3) v.wo h) (T : cTs G h) : ∃ h', f_X0_rise 46 (nI c) (nI D) (nI M) h = some h' ∧ cZ v (fun q => v.it q 3) v.wo h' ∧ (∀ j, j < pcN G → h'.1 48 (c * 4 + j) = gnF v G D c (seat G j)) ∧ ∀ i, ¬ (c * 4 ≤ i ∧ i < c * 4 + 4) → h'.1 48 i = h.1 48 i := by
  have h64 := pow_le6 hn
  have G64 : G < 64 := by omega
  have c256 : c < 256 := Nat.lt_of_lt_of_le hc (p4 _ (by omega)).2
  have row := oR_row hn hG m4 hc
  have pcn := pc_N G G64
  obtain ⟨h1, e1, c1⟩ := e_lowest (G := 0) (by decide) h
  have e1' : f_X5_lowest 41 0 h = some h1 := e1
  have a1 : Agr W_X5_lowest_i41 h h1 := w_f_X5_lowest_i41 _ _ _ e1
  unfold f_X0_rise
  rw [rv_46_3, e1', ov_some]
  refine lp (fun f r g => ∃ h', f_X0_rise_11 f 46 (nI c) (nI D) (nI M) (nI r) g = some h' ∧ cZ v (fun q => v.it q 3) v.wo h' ∧ (∀ j, j < pcN G → h'.1 48 (c * 4 + j) = gnF v G D c (seat G j)) ∧ ∀ i, ¬ (c * 4 ≤ i ∧ i < c * 4 + 4) → h'.1 48 i = h.1 48 i) (fun r g => Agr W_X5_lowest_i41 h g ∧ cRw (fun j => (oR G c r).getD j 0) (oR G c r).length g) (M + 1) (by omega) ?_ ?_ ⟨a1, c1⟩
  · rintro f g ⟨a, rw1⟩
    have o4 := oR_told G64 t (3 - M)
    rw [show M + 1 + (3 - M) = 4 by omega] at o4
    rw [← o4, row.1] at rw1
    have Zg : cZ v (fun q => v.it q 3) v.wo g := cZ_agr a rfl Z
    obtain ⟨h4, h5, e4, e5, go, a5⟩ := c_go0 (row := rwO G c) Zg rw1 row.2.1 hD
    have T5 : cTs G h5 := cTs_agr a5 rfl (cTs_agr a rfl T)
    rw [f_X0_rise_11, if_pos (nI_lt (by omega) (by omega)), rv_46_3, e4, ov_some, e5, ov_some]
    have k48 : ∀ i, h5.1 48 i = h.1 48 i := fun i => by rw [agr_cell a5 48 rfl, agr_cell a 48 rfl]
    refine lp (fun f j g => ∃ h', f_X0_rise_86 f 46 (nI c) (nI j) g = some h' ∧ cZ v (fun q => v.it q 3) v.wo h' ∧ (∀ j, j < pcN G → h'.1 48 (c * 4 + j) = gnF v G D c (seat G j)) ∧ ∀ i, ¬ (c * 4 ≤ i ∧ i < c * 4 + 4) → h'.1 48 i = h.1 48 i) (fun j g => Agr ((48, 1000) :: []) h5 g ∧ (∀ i, i < j → g.1 48 (c * 4 + i) = gnF v G D c (seat G i)) ∧ ∀ i, ¬ (c * 4 ≤ i ∧ i < c * 4 + 4) → g.1 48 i = h.1 48 i) (pcN G) (by omega) ?_ ?_ ⟨agr_refl _, fun i hi => absurd hi (by omega), fun i _ => k48 i⟩
    · rintro f g ⟨b, q1, q2⟩
      have Tg : cTs G g := cTs_agr b rfl T5
      rw [f_X0_rise_86, Tg.1, if_pos (by rw [nI_leI (by omega) (by omega)]; omega)]
      exact ⟨g, rfl, cZ_agr b rfl go.1, q1, q2⟩
    · rintro f j g hj ⟨b, q1, q2⟩ K
      have Tg : cTs G g := cTs_agr b rfl T5
      have gg := cGo_agr b rfl go
      have s := seat_ok G G64 j hj
      have sn := tb_lt hG s.2.1
      have it := e_X6_item gg.1.1.1 sn (i := 6) (by omega)
      have it' : f_X6_item 3 (nI (seat G j)) 6 g = some (nI (v.it (seat G j) 6), g) := it
      have wo := cGo_w gg row.2 sn s.2.1
      rw [f_X0_rise_86, Tg.1, if_neg (by rw [nI_leI (by omega) (by omega)]; omega), rv_46_0, rv_46_3, rv_46_4, rv_46_6, an_47, an_48, og_ix (by omega) (by omega), nI_clamp (by omega), Tg.2 j hj, it', ob_some, e_round Tg hj m4 c256, ob_some, nm_id, og_ix (by omega) (by omega), Tg.2 j hj, wo, ob_some, show nI c * 4 = nI (c * 4) from k_mul c 4, nI_add, og_ix (by omega) (by omega), nI_clamp (by omega), nm_id, nm_id, nI_1]
      refine K _ ⟨agr_sI b rfl, fun i hi => ?_, fun i hi => ?_⟩
      · by_cases e : i = j
        · subst e
          rw [sI_s]
          unfold gnF rdP
          rw [s.2.2]
        · rw [sI_n (Or.inr (by omega))]
          exact q1 i (by omega)
      · rw [sI_n (Or.inr (by omega))]
        exact q2 i hi
  · rintro f r g hr ⟨a, rw1⟩ K
    rw [f_X0_rise_11, if_neg (nI_nlt (by omega) (by omega))]
    refine lp (fun f' j g => ∃ h', f_X0_rise_20 (f_X0_rise_11 f) f' 46 (nI c) (nI D) (nI M) (nI r) (nI j) g = some h' ∧ cZ v (fun q => v.it q 3) v.wo h' ∧ (∀ j, j < pcN G → h'.1 48 (c * 4 + j) = gnF v G D c (seat G j)) ∧ ∀ i, ¬ (c * 4 ≤ i ∧ i < c * 4 + 4) → h'.1 48 i = h.1 48 i) (fun j g => Agr W_X5_lowest_i41 h g ∧ cRw (fun i => (oR G c r ++ ((gl G 6).take j).filter (fun p => Nat.beq (rdP G c p) r)).getD i 0) (oR G c r ++ ((gl G 6).take j).filter (fun p => Nat.beq (rdP G c p) r)).length g) (pcN G) (by omega) ?_ ?_ ⟨a, by rw [List.take_zero, List.filter_nil, List.append_nil]; exact rw1⟩
    · rintro f' g ⟨a, rw2⟩
      have Tg : cTs G g := cTs_agr a rfl T
      rw [f_X0_rise_20, Tg.1, if_pos (by rw [nI_leI (by omega) (by omega)]; omega), nm_id, nI_1]
      refine K g ⟨a, ?_⟩
      rw [← gl_n G G64, List.take_length] at rw2
      exact rw2
    · rintro f' j g hj ⟨a, rw2⟩ K2
      have Tg : cTs G g := cTs_agr a rfl T
      have s := seat_ok G G64 j hj
      have rl := rdE_lt c (pcN G - 1 - j)
      have tk := take_1 (l := gl G 6) (j := j) (by rw [gl_n G G64]; exact hj)
      have hl := oR_b hn hG m4 hc (r := r) (by omega) (List.take_sublist (j + 1) (gl G 6))
      have rp : rdP G c (seat G j) = rdE c (pcN G - 1 - j) := by
        unfold rdP
        rw [s.2.2]
      rw [tk, fil_1] at K2 hl
      have sd : (gl G 6).getD j 0 = seat G j := rfl
      rw [sd, rp] at K2 hl
      rw [f_X0_rise_20, Tg.1, if_neg (by rw [nI_leI (by omega) (by omega)]; omega), e_round Tg hj m4 c256, ob_some]
      by_cases b : rdE c (pcN G - 1 - j) = r
      · have bb : Nat.beq (rdE c (pcN G - 1 - j)) r = true := by rw [b]; exact Nat.beq_refl r
        rw [if_pos bb, ← List.append_assoc] at K2 hl
        rw [List.length_append] at hl
        have hl' : (oR G c r ++ ((gl G 6).take j).filter (fun p => Nat.beq (rdP G c p) r)).length + 1 ≤ pcN G := hl
        obtain ⟨h3, e3, c3⟩ := e_add (seat G j) rw2 (by omega)
        have a3 : Agr W_X5_add_i41 g h3 := w_f_X5_add_i41 _ _ _ e3
        rw [if_pos (by rw [b]), rv_46_3, rv_46_4, an_47, og_ix (by omega) (by omega), nI_clamp (by omega), Tg.2 j hj, e3, ov_some, f_X0_rise_55, nm_id, nI_1]
        exact K2 h3 ⟨agr_tr a a3 rfl, c3⟩
      · have bb : ¬ Nat.beq (rdE c (pcN G - 1 - j)) r = true := fun w => b (Nat.eq_of_beq_eq_true w)
        rw [if_neg bb] at K2
        rw [if_neg (by rw [nI_eq (by omega) (by omega)]; exact b), f_X0_rise_55, nm_id, nI_1]
        exact K2 g ⟨a, rw2⟩

def gnOk (v : Wd) (G D M N : Nat) (h : AH) : Prop := ∀ c, c < N → toB G M c = true → ∀ j, j < pcN G → h.1 48 (c * 4 + j) = gnF v G D c (seat G j)
theorem e_restC {v : Wd} {G D M c : Nat} {h : AH} (hG : G < 64) (T : cTs G h) (m4 : pcN G ≤ 4) (hc : c < 4 ^ pcN G) (hM : M < 4) (t : toB G M c = true) (Q : gnOk v G D M (4 ^ pcN G) h) : f_X0_isRest 46 (nI c) (nI M) h = some (zb (rsB v G D M c), h) := by
  have c256 : c < 256 := Nat.lt_of_lt_of_le hc (p4 _ (by omega)).2
  have N256 := (p4 _ (show pcN G < 5 by omega)).2
  unfold f_X0_isRest
  refine lp (fun f j (_ : Unit) => f_X0_isRest_2 f 46 (nI c) (nI M) (nI j) h = some (zb (rsB v G D M c), h)) (fun j _ => ∀ i, i < j → ∀ r, r < M + 1 → gnF v G D (csE c (pcN G - 1 - i) r) (seat G i) ≤ gnF v G D c (seat G i)) (pcN G) (by omega) ?_ ?_ (s := ()) (fun i hi => absurd hi (by omega))
  · intro f _ q
    have : rsB v G D M c = true := rsB_iff.mpr (fun p hp pb r hr => by
      have w := psn_ok G hG p hp pb
      have := q _ w.1 r hr
      rw [w.2] at this
      exact this)
    rw [f_X0_isRest_2, T.1, if_pos (by rw [nI_leI (by omega) (by omega)]; omega), this]
    rfl
  · intro f j _ hj q K
    have s := seat_ok G hG j hj
    rw [f_X0_isRest_2, T.1, if_neg (by rw [nI_leI (by omega) (by omega)]; omega), e_shift T hj m4, ob_some, nm_id]
    refine lp (fun f' r (_ : Unit) => f_X0_isRest_26 (f_X0_isRest_2 f) f' 46 (nI c) (nI M) (nI j) (nI c &&& (((3 : Int32) <<< (nI (2 * (pcN G - 1 - j)) &&& 31)) ^^^ (-1))) (nI r) h = some (zb (rsB v G D M c), h)) (fun r _ => ∀ i, i < r → gnF v G D (csE c (pcN G - 1 - j) i) (seat G j) ≤ gnF v G D c (seat G j)) (M + 1) (by omega) ?_ ?_ (s := ()) (fun i hi => absurd hi (by omega))
    · intro f' _ q2
      rw [f_X0_isRest_26, if_pos (nI_lt (by omega) (by omega)), nm_id, nI_1]
      refine K () (fun i hi => ?_)
      by_cases e : i = j
      · rw [e]
        exact q2
      · exact q i (by omega)
    · intro f' r _ hr q2 K2
      have ct := cs_lt (pcN G) (by omega) c hc (pcN G - 1 - j) (by omega) r (by omega)
      have tt := to_cs hG m4 hc s.1 s.2.1 hr hM t
      rw [s.2.2] at tt
      have x1 := Q _ ct tt j hj
      have x2 := Q _ hc t j hj
      rw [f_X0_isRest_26, if_neg (nI_nlt (by omega) (by omega)), e_shift T hj m4, ob_some, nm_id, cs_ok c c256 _ (by omega) r (by omega), rv_46_6, an_48, k_mul, k_mul, nI_add, nI_add]
      rw [og_ix (by show _ * 4 + j < 1024; omega) (by show _ * 4 + j < 2 ^ 31; omega), og_ix (by show _ * 4 + j < 1024; omega) (by show _ * 4 + j < 2 ^ 31; omega), nI_clamp (by show _ * 4 + j < 2 ^ 31; omega), nI_clamp (by show _ * 4 + j < 2 ^ 31; omega)]
      have y1 : h.1 48 (csE c (pcN G - 1 - j) r * OfNat.ofNat 4 + j) = gnF v G D (csE c (pcN G - 1 - j) r) (seat G j) := x1
      have y2 : h.1 48 (c * OfNat.ofNat 4 + j) = gnF v G D c (seat G j) := x2
      rw [y1, y2]
      by_cases b : gnF v G D (csE c (pcN G - 1 - j) r) (seat G j) ≤ gnF v G D c (seat G j)
      · rw [if_pos b, nm_id, nI_1]
        refine K2 () (fun i hi => ?_)
        by_cases e : i = r
        · rw [e]
          exact b
        · exact q2 i (by omega)
      · have : rsB v G D M c = false := by
          cases w : rsB v G D M c with
          | false => rfl
          | true =>
            have := rsB_iff.mp w _ s.1 s.2.1 r hr
            rw [s.2.2] at this
            exact absurd this b
        rw [if_neg b, this]
        rfl
theorem e_findC {v : Wd} {G D M : Nat} {h : AH} (x : Int32) (hn : v.n ≤ 6) (hG : G < 2 ^ v.n) (m4 : pcN G ≤ 4) (hM : M < 4) (hD : D < 2 ^ v.n) (Z : cZ v (fun q => v.it q 3) v.wo h) (T : cTs G h) : ∃ h', f_X0_findRest 46 (nI D) (nI M) x h = some (qR x (qF (fun c => toB G M c && rsB v G D M c) x (4 ^ pcN G)), h') := by
  have h64 := pow_le6 hn
  have G64 : G < 64 := by omega
  have N256 := (p4 _ (show pcN G < 5 by omega)).2
  unfold f_X0_findRest
  rw [T.1, if_neg (show ¬ (4 : Int32) < nI (pcN G) by rw [show (4 : Int32) = nI 4 from rfl, nI_ltI (by decide) (by omega)]; omega), (p4 _ (show pcN G < 5 by omega)).1, nm_id]
  refine lp (fun f k g => ∃ h', f_X0_findRest_17 f 46 (nI D) (nI M) x (nI (4 ^ pcN G)) (nI k) g = some (qR x (qF (fun c => toB G M c && rsB v G D M c) x (4 ^ pcN G)), h')) (fun k g => cZ v (fun q => v.it q 3) v.wo g ∧ cTs G g ∧ gnOk v G D M k g) (4 ^ pcN G) (by omega) ?_ ?_ ⟨Z, T, fun c hc => absurd hc (by omega)⟩
  · rintro f g ⟨Zg, Tg, Q⟩
    rw [f_X0_findRest_17, if_pos (by rw [nI_leI (by omega) (by omega)]; omega)]
    refine lp (fun f k (y : Int32) => ∃ h', f_X0_findRest_54 f 46 (nI M) x (nI (4 ^ pcN G)) y (nI k) g = some (qR x (qF (fun c => toB G M c && rsB v G D M c) x (4 ^ pcN G)), h')) (fun k y => qF (fun c => toB G M c && rsB v G D M c) x k = .inl y) (4 ^ pcN G) (by omega) ?_ ?_ rfl
    · intro f y q
      rw [f_X0_findRest_54, if_pos (by rw [nI_leI (by omega) (by omega)]; omega), f_X0_findRest_110, f_X0_findRest_110, q]
      refine ⟨g, ?_⟩
      show _ = some (if x = -1 then y else -1, g)
      by_cases b : x = -1
      · rw [if_pos b, if_pos b]
      · rw [if_neg b, if_neg b]
    · intro f k y hk q K
      have q1 := qF_1 q
      rw [f_X0_findRest_54, if_neg (by rw [nI_leI (by omega) (by omega)]; omega), e_told G64 Tg m4 (by omega) hM, ob_some, zi]
      cases t : toB G M k with
      | false =>
        rw [t, Bool.false_and, if_neg (by decide)] at q1
        rw [if_neg (by decide), f_X0_findRest_93, nm_id, nI_1]
        exact K y q1
      | true =>
        rw [if_pos rfl, e_restC G64 Tg m4 hk hM t Q, ob_some, zi]
        rw [t, Bool.true_and] at q1
        cases rr : rsB v G D M k with
        | false =>
          rw [rr, if_neg (by decide)] at q1
          rw [if_neg (by decide), f_X0_findRest_93, nm_id, nI_1]
          exact K y q1
        | true =>
          rw [rr, if_pos rfl] at q1
          rw [if_pos rfl]
          by_cases b : y = x
          · rw [if_pos b] at q1
            rw [if_pos b, qF_end (by omega) q1]
            exact ⟨g, rfl⟩
          · rw [if_neg b] at q1
            rw [if_neg b, nm_id, f_X0_findRest_93, nm_id, nI_1]
            exact K _ q1
  · rintro f k g hk ⟨Zg, Tg, Q⟩ K
    rw [f_X0_findRest_17, if_neg (by rw [nI_leI (by omega) (by omega)]; omega), e_told G64 Tg m4 (by omega) hM, ob_some, zi]
    cases t : toB G M k with
    | false =>
      rw [if_neg (by decide), f_X0_findRest_42, nm_id, nI_1]
      refine K g ⟨Zg, Tg, fun c hc tc => ?_⟩
      by_cases e : c = k
      · rw [e, t] at tc
        cases tc
      · exact Q c (by omega) tc
    | true =>
      obtain ⟨h3, e3, z3, s3, o3⟩ := e_rise hn hG m4 hk hM t hD Zg Tg
      have a3 : Agr W_X0_rise_i46 g h3 := w_f_X0_rise_i46 _ _ _ _ _ e3
      rw [if_pos rfl, e3, ov_some, f_X0_findRest_42, nm_id, nI_1]
      refine K h3 ⟨z3, cTs_agr a3 rfl Tg, fun c hc tc j hj => ?_⟩
      by_cases e : c = k
      · rw [e]
        exact s3 j hj
      · rw [o3 _ (by omega)]
        exact Q c (by omega) tc j hj

/-! rests: the model -/
theorem mLo_a {l : List Nat} {h : AH} {x : Nat} (c : mLo l h) : mLo (l ++ [x]) (sI (sI h 67 l.length (nI x)) 56 29 (nI (l.length + 1))) := by
  refine ⟨by rw [sI_s, List.length_append]; rfl, fun j hj => ?_⟩
  rw [sI_n (Or.inl (by decide))]
  by_cases e : j = l.length
  · subst e
    rw [sI_s, gN2]
  · have hj' : j < l.length := by
      rw [List.length_append] at hj
      have : j < l.length + 1 := hj
      omega
    rw [sI_n (Or.inr e), gN1 hj']
    exact c.2 j hj'
def mRd (G c : Nat) (h : AH) : Prop := ∀ p, p < 6 → G.testBit p = true → h.1 72 p = nI (rdP G c p)
theorem rv_56_36' : rf 56 36 = 72 := rfl
theorem e_orderBy {n G c : Nat} {h : AH} (hn : n ≤ 6) (hG : G < 2 ^ n) (m4 : pcN G ≤ 4) (hc : c < 4 ^ pcN G) (h20 : h.1 56 20 = nI n) (R : mRd G c h) : ∃ h', f_X12_orderByRounds 56 (nI G) h = some h' ∧ mRw (rwO G c) (pc G) h' := by
  have h64 := pow_le6 hn
  have G64 : G < 64 := by omega
  have row := oR_row hn hG m4 hc
  have gn : gl G n = gl G 6 := by
    have := gl_ext hG (6 - n)
    rw [show n + (6 - n) = 6 by omega] at this
    exact this.symm
  unfold f_X12_orderByRounds
  rw [nm_id]
  refine lp (fun f r g => ∃ h', f_X12_orderByRounds_7 f 56 (nI G) (nI r) g = some h' ∧ mRw (rwO G c) (pc G) h') (fun r g => Agr W_X12_orderByRounds_i56 h g ∧ mLo (oR G c r) g) 4 (by decide) ?_ ?_ ⟨agr_sI (agr_refl h) rfl, sI_s .., fun j hj => absurd hj (by simp [oR])⟩
  · rintro f g ⟨a, l⟩
    rw [f_X12_orderByRounds_7, if_pos (by decide)]
    refine ⟨g, rfl, by rw [← row.1]; exact l.1, fun j hj => l.2 j (by rw [row.1]; exact hj)⟩
  · rintro f r g hr ⟨a, l⟩ K
    rw [f_X12_orderByRounds_7, if_neg (by rw [show (4 : Int32) = nI 4 from rfl, nI_leI (by decide) (by omega)]; omega)]
    refine lp (fun f' p g => ∃ h', f_X12_orderByRounds_14 (f_X12_orderByRounds_7 f) f' 56 (nI G) (nI r) (nI p) g = some h' ∧ mRw (rwO G c) (pc G) h') (fun p g => Agr W_X12_orderByRounds_i56 h g ∧ mLo (oR G c r ++ (gl G p).filter (fun p => Nat.beq (rdP G c p) r)) g) n (by omega) ?_ ?_ ⟨a, by rw [gl, List.filter_nil, List.append_nil]; exact l⟩
    · rintro f' g ⟨a, l⟩
      rw [f_X12_orderByRounds_14, a.1 56 20 rfl, h20, if_pos (by rw [nI_leI (by omega) (by omega)]; omega), nm_id, nI_1]
      rw [gn] at l
      exact K g ⟨a, l⟩
    · rintro f' p g hp ⟨a, l⟩ K2
      rw [f_X12_orderByRounds_14, a.1 56 20 rfl, h20, if_neg (by rw [nI_leI (by omega) (by omega)]; omega), e_X12_has, ob_some, inS_tb G G64 p (by omega), zi]
      rw [gl] at K2
      by_cases b : G.testBit p = true
      · have hl := oR_b hn hG m4 hc (r := r) (by omega) (gl_sub (G := G) (5 - p) (p + 1) (by omega))
        rw [gl, if_pos b, fil_1] at hl
        rw [if_pos b, fil_1] at K2
        rw [if_pos b, rv_56_36', an_72, og_ix (by omega) (by omega), nI_clamp (by omega), agr_cell a 72 rfl, R p (by omega) b]
        have rl := rdE_lt c (pcN G - 1 - psn G p)
        by_cases e : rdP G c p = r
        · have ee : Nat.beq (rdP G c p) r = true := by rw [e]; exact Nat.beq_refl r
          rw [if_pos ee, ← List.append_assoc] at K2 hl
          rw [List.length_append] at hl
          have hl' : (oR G c r ++ (gl G p).filter (fun p => Nat.beq (rdP G c p) r)).length + 1 ≤ pcN G := hl
          have s29 : (sI g 67 (oR G c r ++ (gl G p).filter (fun p => Nat.beq (rdP G c p) r)).length (nI p)).1 56 29 + 1 = nI ((oR G c r ++ (gl G p).filter (fun p => Nat.beq (rdP G c p) r)).length + 1) := by
            rw [sI_n (Or.inl (by decide)), l.1, nI_1]
          rw [if_pos (by rw [e]), l.1, rv_56_27, an_67, og_ix (by omega) (by omega), nI_clamp (by omega), nm_id, s29, nm_id, f_X12_orderByRounds_63, nm_id, nI_1]
          exact K2 _ ⟨agr_sI (agr_sI a rfl) rfl, mLo_a l⟩
        · have ee : ¬ Nat.beq (rdP G c p) r = true := fun w => e (Nat.eq_of_beq_eq_true w)
          rw [if_neg ee] at K2
          have ne : ¬ nI (rdP G c p) = nI r := by
            rw [nI_eq (by unfold rdP; omega) (by omega)]
            exact e
          rw [if_neg ne, f_X12_orderByRounds_63, nm_id, nI_1]
          exact K2 g ⟨a, l⟩
      · rw [if_neg b] at K2
        rw [if_neg b, f_X12_orderByRounds_63, nm_id, nI_1]
        exact K2 g ⟨a, l⟩
theorem e_gain {v : Wd} {u G c p : Nat} {h : AH} (hu : u < 4) (hG : G < 2 ^ v.n) (m4 : pcN G ≤ 4) (hc : c < 4 ^ pcN G) (B : mB v h) (R : mRd G c h) (hp : p < v.n) (pb : G.testBit p = true) : ∃ h', f_X12_gainOf 56 (nI p) (nI u) (nI G) h = some (gnF v G (door v u G) c p, h') ∧ Agr W_X12_gainOf_i56 h h' := by
  have hn := B.n6
  have h64 := pow_le6 hn
  have row := oR_row hn hG m4 hc
  obtain ⟨h1, e1, rw1⟩ := e_orderBy hn hG m4 hc B.mn R
  have a1 : Agr W_X12_orderByRounds_i56 h h1 := w_f_X12_orderByRounds_i56 _ _ _ e1
  have B1 : mB v h1 := mB_agr a1 rfl B
  obtain ⟨h5, e5, go, a5⟩ := m_go0 (row := rwO G c) B1.1 rw1 row.2.1 (door_lt v u G)
  have it : f_X12_partOf 56 (nI p) 6 h5 = some (nI (v.it p 6), h5) := e_X12_partOf go.1.1 hp (i := 6) (by omega)
  have k72 : h5.1 72 p = nI (rdP G c p) := by
    rw [agr_cell a5 72 rfl, agr_cell a1 72 rfl]
    exact R p (by omega) pb
  have E : f_X12_gainOf 56 (nI p) (nI u) (nI G) h = some (gnF v G (door v u G) c p, h5) := by
    unfold f_X12_gainOf
    rw [e1, ov_some, B1.door hu (by omega), ob_some, e5, ov_some, it, ob_some, rv_56_36', an_72, og_ix (by omega) (by omega), nI_clamp (by omega), k72, mGo_w go row.2 hp pb, ob_some]
    rfl
  exact ⟨h5, E, w_f_X12_gainOf_i56 _ _ _ _ _ E⟩
def WRs : List (Nat × Nat) := (72, 1000) :: W_X12_gainOf_i56
theorem e_restM {v : Wd} {u G M c : Nat} {h : AH} (hu : u < 4) (hG : G < 2 ^ v.n) (m4 : pcN G ≤ 4) (hc : c < 4 ^ pcN G) (hM : M < 4) (B : mB v h) (R : mRd G c h) : ∃ h', f_X12_isRest 56 (nI u) (nI G) (nI M) h = some (zb (rsB v G (door v u G) M c), h') ∧ Agr WRs h h' := by
  have hn := B.n6
  have h64 := pow_le6 hn
  have G64 : G < 64 := by omega
  unfold f_X12_isRest
  refine lp (fun f p g => ∃ h', f_X12_isRest_3 f 56 (nI u) (nI G) (nI M) (nI p) g = some (zb (rsB v G (door v u G) M c), h') ∧ Agr WRs h h') (fun p g => Agr WRs h g ∧ mRd G c g ∧ ∀ i, i < p → G.testBit i = true → ∀ r, r < M + 1 → gnF v G (door v u G) (csE c (pcN G - 1 - psn G i) r) i ≤ gnF v G (door v u G) c i) v.n (by omega) ?_ ?_ ⟨agr_refl h, R, fun i hi => absurd hi (by omega)⟩
  · rintro f g ⟨a, Rg, q⟩
    have : rsB v G (door v u G) M c = true := rsB_iff.mpr (fun p hp pb => q p (tb_lt hG pb) pb)
    rw [f_X12_isRest_3, (mB_agr a rfl B).mn, if_pos (by rw [nI_leI (by omega) (by omega)]; omega), this]
    exact ⟨g, rfl, a⟩
  · rintro f p g hp ⟨a, Rg, q⟩ K
    have Bg := mB_agr a rfl B
    rw [f_X12_isRest_3, Bg.mn, if_neg (by rw [nI_leI (by omega) (by omega)]; omega), e_X12_has, ob_some, inS_tb G G64 p (by omega), zi]
    by_cases pb : G.testBit p = true
    · obtain ⟨h3, e3, a3⟩ := e_gain hu hG m4 hc Bg Rg hp pb
      have ps := psn_ok G G64 p (by omega) pb
      rw [if_pos pb, rv_56_36', an_72, og_ix (by omega) (by omega), nI_clamp (by omega), Rg p (by omega) pb, nm_id, e3, ob_some]
      refine lp (fun f' r (z : Int32 × AH) => ∃ h', f_X12_isRest_49 (f_X12_isRest_3 f) f' 56 (nI u) (nI G) (nI M) (nI p) (nI (rdP G c p)) (gnF v G (door v u G) c p) z.1 (nI r) z.2 = some (zb (rsB v G (door v u G) M c), h') ∧ Agr WRs h h') (fun r z => Agr WRs h z.2 ∧ (∀ i, i < 6 → i ≠ p → G.testBit i = true → z.2.1 72 i = nI (rdP G c i)) ∧ ((z.1 = 0 ∧ ∀ i, i < r → gnF v G (door v u G) (csE c (pcN G - 1 - psn G p) i) p ≤ gnF v G (door v u G) c p) ∨ (z.1 = 1 ∧ rsB v G (door v u G) M c = false))) (M + 1) (by omega) ?_ ?_ (s := (0, h3)) ⟨agr_tr a a3 rfl, fun i hi _ ib => by rw [agr_cell a3 72 rfl]; exact Rg i hi ib, Or.inl ⟨rfl, fun i hi => absurd hi (by omega)⟩⟩
      · rintro f' ⟨x7, g'⟩ ⟨a', r', q'⟩
        dsimp only at a' r' q' ⊢
        have aa : Agr WRs h (sI g' 72 p (nI (rdP G c p))) := agr_sI a' rfl
        rw [f_X12_isRest_49, if_pos (nI_lt (by omega) (by omega)), rv_56_36', an_72, og_ix (by omega) (by omega), nI_clamp (by omega), nm_id]
        rcases q' with ⟨rfl, q'⟩ | ⟨rfl, q'⟩
        · rw [if_pos rfl, f_X12_isRest_111, nm_id, nI_1]
          refine K _ ⟨aa, fun i hi ib => ?_, fun i hi ib => ?_⟩
          · by_cases e : i = p
            · subst e
              rw [sI_s]
            · rw [sI_n (Or.inr e)]
              exact r' i hi e ib
          · by_cases e : i = p
            · subst e
              exact q'
            · exact q i (by omega) ib
        · rw [if_neg (by decide), q']
          exact ⟨_, rfl, aa⟩
      · rintro f' r ⟨x7, g'⟩ hr ⟨a', r', q'⟩ K2
        dsimp only at a' r' q' ⊢
        have aa : Agr WRs h (sI g' 72 p (nI r)) := agr_sI a' rfl
        have rr : ∀ i, i < 6 → i ≠ p → G.testBit i = true → (sI g' 72 p (nI r)).1 72 i = nI (rdP G c i) := by
          intro i hi e ib
          rw [sI_n (Or.inr e)]
          exact r' i hi e ib
        rw [f_X12_isRest_49, if_neg (nI_nlt (by omega) (by omega)), rv_56_36', an_72, og_ix (by omega) (by omega), nI_clamp (by omega), nm_id]
        rcases q' with ⟨rfl, q'⟩ | ⟨rfl, q'⟩
        · have ct := cs_lt (pcN G) (by omega) c hc (pcN G - 1 - psn G p) (by omega) r (by omega)
          have R2 : mRd G (csE c (pcN G - 1 - psn G p) r) (sI g' 72 p (nI r)) := by
            intro i hi ib
            rw [cs_P G64 m4 hc (by omega) pb (by omega) hi ib]
            by_cases e : i = p
            · subst e
              rw [sI_s, if_pos rfl]
            · rw [if_neg e]
              exact rr i hi e ib
          obtain ⟨h4, e4, a4⟩ := e_gain hu hG m4 ct (mB_agr aa rfl B) R2 hp pb
          have r4 : ∀ i, i < 6 → i ≠ p → G.testBit i = true → h4.1 72 i = nI (rdP G c i) := by
            intro i hi e ib
            rw [agr_cell a4 72 rfl]
            exact rr i hi e ib
          rw [if_pos rfl, e4, ob_some]
          by_cases le : gnF v G (door v u G) (csE c (pcN G - 1 - psn G p) r) p ≤ gnF v G (door v u G) c p
          · rw [if_pos le, f_X12_isRest_87, nm_id, nI_1]
            refine K2 (0, h4) ⟨agr_tr aa a4 rfl, r4, Or.inl ⟨rfl, fun i hi => ?_⟩⟩
            by_cases e : i = r
            · subst e
              exact le
            · exact q' i (by omega)
          · have : rsB v G (door v u G) M c = false := by
              cases w : rsB v G (door v u G) M c with
              | false => rfl
              | true => exact absurd (rsB_iff.mp w p (by omega) pb r hr) le
            rw [if_neg le, f_X12_isRest_82, f_X12_isRest_87, nm_id, nI_1]
            exact K2 (1, h4) ⟨agr_tr aa a4 rfl, r4, Or.inr ⟨rfl, this⟩⟩
        · rw [if_neg (by decide), f_X12_isRest_82, f_X12_isRest_87, nm_id, nI_1]
          exact K2 (1, _) ⟨aa, rr, Or.inr ⟨rfl, q'⟩⟩
    · rw [if_neg pb, f_X12_isRest_111, nm_id, nI_1]
      refine K g ⟨a, Rg, fun i hi ib => ?_⟩
      by_cases e : i = p
      · rw [e] at ib
        exact absurd ib pb
      · exact q i (by omega) ib

theorem rd_div {c e : Nat} : c / 4 ^ e / 4 = c / 4 ^ (e + 1) := by
  rw [Nat.div_div_eq_div_mul, Nat.pow_succ]
theorem nI_m1' (q : Nat) : nI q + (-1) = nI q - 1 := by
  rw [Int32.sub_eq_add_neg]
theorem e_layR {n G M c : Nat} (hn : n ≤ 6) (hG : G < 2 ^ n) (m4 : pcN G ≤ 4) (hc : c < 4 ^ pcN G) (hM : M < 4) : ∀ q, q ≤ n → ∀ f, q < f → ∀ g : AH, (∀ p, q ≤ p → p < 6 → G.testBit p = true → g.1 72 p = nI (rdP G c p) ∧ rdP G c p ≤ M) → ∃ h', f_X12_layRounds_11 f 56 (nI G) (nI M) (nI (c / 4 ^ (pcN G - psn G q))) (nI q - 1) g = some (zb (toB G M c), h') ∧ (toB G M c = true → mRd G c h') ∧ Agr ((72, 1000) :: []) g h' := by
  have h64 := pow_le6 hn
  have G64 : G < 64 := by omega
  have N256 := (p4 _ (show pcN G < 5 by omega)).2
  intro q
  induction q with
  | zero =>
    intro _ f hf g I
    obtain ⟨f', rfl⟩ : ∃ z, f = z + 1 := ⟨f - 1, by omega⟩
    have t : toB G M c = true := toB_iff.mpr (fun p hp pb => (I p (by omega) hp pb).2)
    rw [f_X12_layRounds_11, if_pos (by decide), t]
    exact ⟨g, rfl, fun _ p hp pb => (I p (by omega) hp pb).1, agr_refl _⟩
  | succ q ih =>
    intro hq f hf g I
    obtain ⟨f', rfl⟩ : ∃ z, f = z + 1 := ⟨f - 1, by omega⟩
    rw [f_X12_layRounds_11, nI_pred, if_neg (show ¬ nI q < 0 from nI_pos (by omega)), e_X12_has, ob_some, inS_tb G G64 q (by omega), zi, psn_1]
    by_cases b : G.testBit q = true
    · have ps := psn_ok G G64 q (by omega) b
      have y256 : c / 4 ^ (pcN G - (psn G q + 1)) < 256 := Nat.lt_of_le_of_lt (Nat.div_le_self _ _) (by omega)
      have jj := j4 _ y256
      have er : c / 4 ^ (pcN G - (psn G q + 1)) % 4 = rdP G c q := by
        unfold rdP rdE
        rw [show pcN G - (psn G q + 1) = pcN G - 1 - psn G q by omega]
      have ed : c / 4 ^ (pcN G - (psn G q + 1)) / 4 = c / 4 ^ (pcN G - psn G q) := by
        rw [rd_div, show pcN G - (psn G q + 1) + 1 = pcN G - psn G q by omega]
      have rl : rdP G c q < 4 := rdE_lt _ _
      rw [if_pos b, if_pos b, rv_56_36', an_72, og_ix (by omega) (by omega), nI_clamp (by omega), jj.1, jj.2, er, ed, nm_id, nm_id, og_ix (by omega) (by omega), sI_s]
      by_cases le : rdP G c q ≤ M
      · rw [if_pos (by rw [nI_leI (by omega) (by omega)]; exact le), f_X12_layRounds_58, nm_id, nI_m1']
        obtain ⟨h', e1, e2, e3⟩ := ih (by omega) f' (by omega) (sI g 72 q (nI (rdP G c q))) (fun p hp h6 pb => by
          by_cases e : p = q
          · subst e
            exact ⟨sI_s .., le⟩
          · rw [sI_n (Or.inr e)]
            exact I p (by omega) h6 pb)
        exact ⟨h', e1, e2, agr_tr (agr_sI (agr_refl g) rfl) e3 rfl⟩
      · have : toB G M c = false := by
          cases w : toB G M c with
          | false => rfl
          | true => exact absurd (toB_iff.mp w q (by omega) b) le
        rw [if_neg (by rw [nI_leI (by omega) (by omega)]; exact le), this]
        exact ⟨_, rfl, fun w => absurd w (by decide), agr_sI (agr_refl g) rfl⟩
    · rw [if_neg b, if_neg b, f_X12_layRounds_58, nm_id, nI_m1']
      exact ih (by omega) f' (by omega) g (fun p hp h6 pb => by
        by_cases e : p = q
        · rw [e] at pb
          exact absurd pb b
        · exact I p (by omega) h6 pb)
theorem e_findM {v : Wd} {u G M : Nat} {h : AH} (x : Int32) (hu : u < 4) (hG : G < 2 ^ v.n) (m4 : pcN G ≤ 4) (hM : M < 4) (B : mB v h) : ∃ h', f_X12_rests_48 FU 56 (nI u) (nI G) (nI M) x 0 0 h = some (qR x (qF (fun c => toB G M c && rsB v G (door v u G) M c) x (4 ^ pcN G)), h') := by
  have hn := B.n6
  have h64 := pow_le6 hn
  have G64 : G < 64 := by omega
  have N256 := (p4 _ (show pcN G < 5 by omega)).2
  have bc := (pc_ok G G64).1
  rw [pc_N G G64] at bc
  have pn : psn G v.n = pcN G := by
    have := gl_ext hG (6 - v.n)
    rw [show v.n + (6 - v.n) = 6 by omega] at this
    unfold psn
    rw [← this, gl_n G G64]
  refine lp (fun f k (z : Int32 × AH) => ∃ h', f_X12_rests_48 f 56 (nI u) (nI G) (nI M) x z.1 (nI k) z.2 = some (qR x (qF (fun c => toB G M c && rsB v G (door v u G) M c) x (4 ^ pcN G)), h')) (fun k z => Agr WRs h z.2 ∧ qF (fun c => toB G M c && rsB v G (door v u G) M c) x k = .inl z.1) (4 ^ pcN G) (by omega) ?_ ?_ (s := (0, h)) ⟨agr_refl h, rfl⟩
  · rintro f ⟨y, g⟩ ⟨a, q⟩
    dsimp only at a q ⊢
    rw [f_X12_rests_48, e_bc, ob_some, bc, (p4 _ (show pcN G < 5 by omega)).1, if_pos (by rw [nI_leI (by omega) (by omega)]; omega), f_X12_rests_116, f_X12_rests_116, q]
    refine ⟨g, ?_⟩
    show _ = some (if x = -1 then y else -1, g)
    by_cases b : x = -1
    · rw [if_pos b, if_pos b]
    · rw [if_neg b, if_neg b]
  · rintro f k ⟨y, g⟩ hk ⟨a, q⟩ K
    dsimp only at a q ⊢
    have Bg := mB_agr a rfl B
    have q1 := qF_1 q
    obtain ⟨h3, e3, r3, a3⟩ := e_layR hn hG m4 hk hM v.n (Nat.le_refl _) FU (by unfold FU; omega) g (fun p hp h6 pb => absurd (tb_lt hG pb) (by omega))
    rw [pn, Nat.sub_self, Nat.pow_zero, Nat.div_one] at e3
    rw [f_X12_rests_48, e_bc, ob_some, bc, (p4 _ (show pcN G < 5 by omega)).1, if_neg (by rw [nI_leI (by omega) (by omega)]; omega)]
    unfold f_X12_layRounds
    rw [Bg.mn, nm_id, e3, ob_some, zi]
    have ag3 : Agr WRs h h3 := agr_tr a a3 rfl
    cases t : toB G M k with
    | false =>
      rw [t, Bool.false_and, if_neg (by decide)] at q1
      rw [if_neg (by decide), f_X12_rests_98, nm_id, nI_1]
      exact K (y, h3) ⟨ag3, q1⟩
    | true =>
      obtain ⟨h4, e4, a4⟩ := e_restM hu hG m4 hk hM (mB_agr ag3 rfl B) (r3 t)
      have ag4 : Agr WRs h h4 := agr_tr ag3 a4 rfl
      rw [if_pos rfl, e4, ob_some, zi]
      rw [t, Bool.true_and] at q1
      cases rr : rsB v G (door v u G) M k with
      | false =>
        rw [rr, if_neg (by decide)] at q1
        rw [if_neg (by decide), f_X12_rests_98, nm_id, nI_1]
        exact K (y, h4) ⟨ag4, q1⟩
      | true =>
        rw [rr, if_pos rfl] at q1
        rw [if_pos rfl]
        by_cases b : y = x
        · rw [if_pos b] at q1
          rw [if_pos b, qF_end (by omega) q1]
          exact ⟨h4, rfl⟩
        · rw [if_neg b] at q1
          rw [if_neg b, nm_id, f_X12_rests_98, nm_id, nI_1]
          exact K (y + 1, h4) ⟨ag4, q1⟩
theorem in13 {x : Int32} (h1 : ¬ x < 1) (h3 : ¬ 3 < x) : ∃ M, M < 4 ∧ x = nI M := by
  rw [Int32.lt_iff_toInt_lt] at h1 h3
  have z1 : (1 : Int32).toInt = 1 := rfl
  have z3 : (3 : Int32).toInt = 3 := rfl
  rw [z1] at h1
  rw [z3] at h3
  have : x.toInt = 1 ∨ x.toInt = 2 ∨ x.toInt = 3 := by omega
  rcases this with q | q | q
  · exact ⟨1, by decide, Int32.toInt_inj.mp (by rw [q]; rfl)⟩
  · exact ⟨2, by decide, Int32.toInt_inj.mp (by rw [q]; rfl)⟩
  · exact ⟨3, by decide, Int32.toInt_inj.mp (by rw [q]; rfl)⟩
theorem e_isIn13 (x : Int32) (h : AH) : f_X12_isIn x.toInt64 1 3 h = some (zb (decide (¬ x < 1 ∧ ¬ 3 < x)), h) := e_X12_isIn x 1 3 h
theorem g14 : G14 Rel := by
  intro h ⟨v, R⟩ a1 a2 a3 a4
  have hn := R.n6
  have h64 := pow_le6 hn
  have R2 := R.thr (x := 0)
  cases hp : ptB v.n a1 a2 with
  | false =>
    refine ⟨-1, h, sI h 56 0 0, ?_, ?_, v, R2⟩
    · unfold f_X11_rests f_X11_rests_33
      rw [e_isParty hn R.cn, hp, ob_some, zi, if_neg (by decide)]
    · unfold f_X12_rests f_X12_rests_40
      rw [nm_id, e_isVisit hn R2.mn, hp, ob_some, zi, if_neg (by decide)]
  | true =>
    obtain ⟨u, G, hu, rfl, g0, hG, rfl⟩ := (ptB_iff hn).mp hp
    have n0 := n_of_G g0 hG
    have G64 : G < 64 := by omega
    have bc := (pc_ok G G64).1
    have p7 := (pc_ok G G64).2
    rw [pc_N G G64] at bc p7
    by_cases m4 : pcN G ≤ 4
    · have nb : ¬ (4 : Int32) < nI (pcN G) := by
        rw [show (4 : Int32) = nI 4 from rfl, nI_ltI (by decide) (by omega)]
        omega
      by_cases c1 : a3 < 1
      · refine ⟨-1, h, sI h 56 0 0, ?_, ?_, v, R2⟩
        · unfold f_X11_rests f_X11_rests_33
          rw [e_isParty hn R.cn, hp, ob_some, zi, if_pos rfl, e_bc, ob_some, bc, if_neg nb, if_pos c1]
        · unfold f_X12_rests f_X12_rests_40
          rw [nm_id, e_isVisit hn R2.mn, hp, ob_some, zi, if_pos rfl, e_bc, ob_some, bc, if_neg nb, e_isIn13, ob_some, decide_eq_false (fun w => w.1 c1), zi, if_neg (by decide)]
      · by_cases c3 : 3 < a3
        · refine ⟨-1, h, sI h 56 0 0, ?_, ?_, v, R2⟩
          · unfold f_X11_rests f_X11_rests_33
            rw [e_isParty hn R.cn, hp, ob_some, zi, if_pos rfl, e_bc, ob_some, bc, if_neg nb, if_neg c1, if_pos c3]
          · unfold f_X12_rests f_X12_rests_40
            rw [nm_id, e_isVisit hn R2.mn, hp, ob_some, zi, if_pos rfl, e_bc, ob_some, bc, if_neg nb, e_isIn13, ob_some, decide_eq_false (fun w => w.2 c3), zi, if_neg (by decide)]
        · by_cases c4 : -1 ≤ a4
          · have ok : (¬ a3 < 1 ∧ ¬ 3 < a3) := ⟨c1, c3⟩
            obtain ⟨M, hM, hMa⟩ := in13 c1 c3
            obtain ⟨h1, e1, T1⟩ := e_seat G64 h
            have f1 : Agr W_X0_seat_i46 h h1 := w_f_X0_seat_i46 _ _ _ e1
            have R1 : RelV v h1 := rel_agr f1 rfl R
            obtain ⟨h2, e2, B2, Z2, f2⟩ := e_openDoor (R1.cB n0) hu G64
            obtain ⟨h3, e3⟩ := e_findC a4 hn hG m4 hM (door_lt v u G) Z2 (cTs_agr f2 rfl T1)
            have E1 : f_X11_rests 0 (nI u) (nI G) a3 a4 h = some (qR a4 (qF (fun c => toB G M c && rsB v G (door v u G) M c) a4 (4 ^ pcN G)), h3) := by
              unfold f_X11_rests
              rw [e_isParty hn R.cn, hp, ob_some, zi, if_pos rfl, e_bc, ob_some, bc, if_neg nb, if_neg c1, if_neg c3, if_pos c4, rv_0_12, e1, ov_some, e2, ob_some, hMa, e3, ob_some]
            have W1 : Agr W_X11_rests_i0 h h3 := w_f_X11_rests_i0 _ _ _ _ _ _ E1
            have R3 : RelV v h3 := rel_agr W1 rfl R
            have R4 := R3.thr (x := 0)
            obtain ⟨h5, e5⟩ := e_findM a4 hu hG m4 hM (R4.mB n0)
            have E2 : f_X12_rests 56 (nI u) (nI G) a3 a4 h3 = some (qR a4 (qF (fun c => toB G M c && rsB v G (door v u G) M c) a4 (4 ^ pcN G)), h5) := by
              unfold f_X12_rests
              rw [nm_id, e_isVisit hn R4.mn, hp, ob_some, zi, if_pos rfl, e_bc, ob_some, bc, if_neg nb, e_isIn13, ob_some, decide_eq_true ok, zi, if_pos rfl, if_pos c4, hMa, e5]
            have W2 : Agr W_X12_rests_i56 h3 h5 := w_f_X12_rests_i56 _ _ _ _ _ _ E2
            exact ⟨_, h3, h5, E1, E2, v, rel_agr W2 rfl R3⟩
          · refine ⟨-1, h, sI h 56 0 0, ?_, ?_, v, R2⟩
            · unfold f_X11_rests f_X11_rests_33
              rw [e_isParty hn R.cn, hp, ob_some, zi, if_pos rfl, e_bc, ob_some, bc, if_neg nb, if_neg c1, if_neg c3, if_neg c4]
            · unfold f_X12_rests f_X12_rests_40
              rw [nm_id, e_isVisit hn R2.mn, hp, ob_some, zi, if_pos rfl, e_bc, ob_some, bc, if_neg nb, e_isIn13, ob_some, decide_eq_true ⟨c1, c3⟩, zi, if_pos rfl, if_neg c4]
    · have nb : (4 : Int32) < nI (pcN G) := by
        rw [show (4 : Int32) = nI 4 from rfl, nI_ltI (by decide) (by omega)]
        omega
      refine ⟨-1, h, sI h 56 0 0, ?_, ?_, v, R2⟩
      · unfold f_X11_rests f_X11_rests_33
        rw [e_isParty hn R.cn, hp, ob_some, zi, if_pos rfl, e_bc, ob_some, bc, if_pos nb]
      · unfold f_X12_rests f_X12_rests_40
        rw [nm_id, e_isVisit hn R2.mn, hp, ob_some, zi, if_pos rfl, e_bc, ob_some, bc, if_pos nb]
