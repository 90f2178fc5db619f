/-! rests -/
def rdE (c e : Nat) : Nat := c / 4 ^ e % 4
def psn (G p : Nat) : Nat := (gl G p).length
def rdP (G c p : Nat) : Nat := rdE c (pcN G - 1 - psn G p)
def seat (G j : Nat) : Nat := (gl G 6).getD j 0
def csE (c e r : Nat) : Nat := c - c / 4 ^ e % 4 * 4 ^ e + r * 4 ^ e
def oR (G c : Nat) : Nat → List Nat
  | 0 => []
  | r + 1 => oR G c r ++ (gl G 6).filter (fun p => Nat.beq (rdP G c p) r)
def oChk4 (G : Nat) : Bool := Nat.blt 4 (pcN G) || (List.range (4 ^ pcN G)).all (fun c => rChk G (oR G c 4))
theorem oChk4_all : (List.range 64).all oChk4 = true := by decide +kernel
theorem gl_n : ∀ G, G < 64 → (gl G 6).length = pcN G := by decide +kernel
theorem seat_ok : ∀ G, G < 64 → ∀ j, j < pcN G → seat G j < 6 ∧ G.testBit (seat G j) = true ∧ psn G (seat G j) = j := by decide +kernel
theorem psn_ok : ∀ G, G < 64 → ∀ p, p < 6 → G.testBit p = true → psn G p < pcN G ∧ seat G (psn G p) = p := by decide +kernel
theorem psn_1 {G p : Nat} : psn G (p + 1) = if G.testBit p = true then psn G p + 1 else psn G p := by
  unfold psn
  rw [gl]
  split <;> simp
theorem rd_ok : ∀ c, c < 256 → ∀ e, e < 4 → (nI c >>> (nI (2 * e) &&& 31)) &&& 3 = nI (rdE c e) := by decide +kernel
theorem cs_ok : ∀ c, c < 256 → ∀ e, e < 4 → ∀ r, r < 4 → (nI c &&& (((3 : Int32) <<< (nI (2 * e) &&& 31)) ^^^ (-1))) ||| (nI r <<< (nI (2 * e) &&& 31)) = nI (csE c e r) := by decide +kernel
theorem cs_rd : ∀ c, c < 256 → ∀ e, e < 4 → ∀ r, r < 4 → ∀ e', e' < 4 → rdE (csE c e r) e' = if e' = e then r else rdE c e' := by decide +kernel
theorem cs_lt : ∀ m, m < 5 → ∀ c, c < 4 ^ m → ∀ e, e < m → ∀ r, r < 4 → csE c e r < 4 ^ m := by decide +kernel
theorem j4 : ∀ x, x < 256 → jirem (nI x) 4 = nI (x % 4) ∧ nI x / 4 = nI (x / 4) := by decide +kernel
theorem p4 : ∀ m, m < 5 → (1 : Int32) <<< ((2 * nI m) &&& 31) = nI (4 ^ m) ∧ 4 ^ m ≤ 256 := by decide +kernel
theorem rdE_lt (c e : Nat) : rdE c e < 4 := Nat.mod_lt _ (by decide)
/-- the guests whose rounds are told -/
def toB (G M c : Nat) : Bool := (List.range 6).all (fun p => !(G.testBit p) || Nat.ble (rdP G c p) M)
theorem toB_iff {G M c : Nat} : toB G M c = true ↔ ∀ p, p < 6 → G.testBit p = true → rdP G c p ≤ M := by
  unfold toB
  rw [List.all_eq_true]
  constructor
  · intro h p hp pb
    have := h p (List.mem_range.mpr hp)
    rw [pb] at this
    exact Nat.le_of_ble_eq_true this
  · intro h p hp
    cases pb : G.testBit p with
    | false => rfl
    | true => exact Nat.ble_eq_true_of_le (h p (List.mem_range.mp hp) pb)
theorem oR_row {n G c : Nat} (hn : n ≤ 6) (hG : G < 2 ^ n) (m4 : pcN G ≤ 4) (hc : c < 4 ^ pcN G) : (oR G c 4).length = pc G ∧ gRow n G (fun j => (oR G c 4).getD j 0) := by
  have h64 := pow_le6 hn
  have := List.all_eq_true.mp oChk4_all G (List.mem_range.mpr (by omega))
  unfold oChk4 at this
  rw [Bool.or_eq_true] at this
  rcases this with q | q
  · have := Nat.le_of_ble_eq_true q
    omega
  · exact rChk_ok hn hG (List.all_eq_true.mp q c (List.mem_range.mpr hc))
theorem oR_le (G c : Nat) : ∀ r d, (oR G c r).length ≤ (oR G c (r + d)).length := by
  intro r d
  induction d with
  | zero => exact Nat.le_refl _
  | succ d ih =>
    rw [← Nat.add_assoc, oR, List.length_append]
    omega
theorem oR_b {n G c : Nat} (hn : n ≤ 6) (hG : G < 2 ^ n) (m4 : pcN G ≤ 4) (hc : c < 4 ^ pcN G) {r : Nat} (hr : r < 4) {l : List Nat} (s : l.Sublist (gl G 6)) : (oR G c r ++ l.filter (fun p => Nat.beq (rdP G c p) r)).length ≤ pcN G := by
  have h64 := pow_le6 hn
  have a := (oR_row hn hG m4 hc).1
  have b := oR_le G c (r + 1) (3 - r)
  rw [show r + 1 + (3 - r) = 4 by omega, a, oR, List.length_append, pc_N G (by omega)] at b
  have s2 : (l.filter (fun p => Nat.beq (rdP G c p) r)).length ≤ ((gl G 6).filter (fun p => Nat.beq (rdP G c p) r)).length := (List.Sublist.filter _ s).length_le
  rw [List.length_append]
  omega
theorem gl_sub {G : Nat} : ∀ d k, k + d = 6 → (gl G k).Sublist (gl G 6) := by
  intro d
  induction d with
  | zero => intro k h; rw [show k = 6 by omega]; exact List.Sublist.refl _
  | succ d ih =>
    intro k h
    refine List.Sublist.trans ?_ (ih (k + 1) (by omega))
    rw [gl]
    split
    · exact List.sublist_append_left _ _
    · exact List.Sublist.refl _
/-- rounds above the greatest told hold nobody -/
theorem oR_told {G M c : Nat} (hG : G < 64) (t : toB G M c = true) : ∀ d, oR G c (M + 1 + d) = oR G c (M + 1) := by
  have t := toB_iff.mp t
  intro d
  induction d with
  | zero => rfl
  | succ d ih =>
    rw [← Nat.add_assoc, oR, ih]
    have : (gl G 6).filter (fun p => Nat.beq (rdP G c p) (M + 1 + d)) = [] := by
      rw [List.filter_eq_nil_iff]
      intro p hp w
      obtain ⟨j, hj, rfl⟩ := List.getElem_of_mem hp
      have s := seat_ok G hG j (by rw [← gl_n G hG]; exact hj)
      have e : seat G j = (gl G 6)[j] := by
        unfold seat
        rw [List.getD_eq_getElem?_getD, List.getElem?_eq_getElem hj]
        rfl
      rw [← e] at w
      have := t _ s.1 s.2.1
      have := Nat.eq_of_beq_eq_true w
      omega
    rw [this, List.append_nil]
/-- what a guest has of the rounds -/
def rwO (G c j : Nat) : Nat := (oR G c 4).getD j 0
def gnF (v : Wd) (G D c p : Nat) : Int32 := nI (v.it p 6) * nI (rdP G c p) + wS v.wo (tkP v (fun q => v.it q 3) v.wo (rwO G c) (pc G) D p)
def rsB (v : Wd) (G D M c : Nat) : Bool := (List.range 6).all (fun p => !(G.testBit p) || (List.range (M + 1)).all (fun r => decide (gnF v G D (csE c (pcN G - 1 - psn G p) r) p ≤ gnF v G D c p)))
theorem rsB_iff {v : Wd} {G D M c : Nat} : rsB v G D M c = true ↔ ∀ p, p < 6 → G.testBit p = true → ∀ r, r < M + 1 → gnF v G D (csE c (pcN G - 1 - psn G p) r) p ≤ gnF v G D c p := by
  unfold rsB
  rw [List.all_eq_true]
  constructor
  · intro h p hp pb r hr
    have := h p (List.mem_range.mpr hp)
    rw [pb, Bool.not_true, Bool.false_or, List.all_eq_true] at this
    exact of_decide_eq_true (this r (List.mem_range.mpr hr))
  · intro h p hp
    cases pb : G.testBit p with
    | false => rfl
    | true =>
      rw [Bool.not_true, Bool.false_or, List.all_eq_true]
      intro r hr
      exact decide_eq_true (h p (List.mem_range.mp hp) pb r (List.mem_range.mp hr))
theorem cs_P {G c p r : Nat} (hG : G < 64) (m4 : pcN G ≤ 4) (hc : c < 4 ^ pcN G) (hp : p < 6) (pb : G.testBit p = true) (hr : r < 4) {q : Nat} (hq : q < 6) (qb : G.testBit q = true) : rdP G (csE c (pcN G - 1 - psn G p) r) q = if q = p then r else rdP G c q := by
  have a := psn_ok G hG p hp pb
  have b := psn_ok G hG q hq qb
  have c256 := (p4 _ (show pcN G < 5 by omega)).2
  unfold rdP
  rw [cs_rd c (by omega) _ (by omega) r hr _ (by omega)]
  by_cases e : q = p
  · subst e
    rw [if_pos rfl, if_pos rfl]
  · rw [if_neg e, if_neg]
    intro w
    have : psn G q = psn G p := by omega
    rw [this, a.2] at b
    exact e b.2.symm
theorem to_cs {G M c p r : Nat} (hG : G < 64) (m4 : pcN G ≤ 4) (hc : c < 4 ^ pcN G) (hp : p < 6) (pb : G.testBit p = true) (hr : r < M + 1) (hM : M < 4) (t : toB G M c = true) : toB G M (csE c (pcN G - 1 - psn G p) r) = true := by
  have t := toB_iff.mp t
  refine toB_iff.mpr (fun q hq qb => ?_)
  rw [cs_P hG m4 hc hp pb (by omega) hq qb]
  split
  · omega
  · exact t q hq qb
