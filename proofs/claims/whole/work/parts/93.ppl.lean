/-! people told as a text -/
def mZ (t : Nat → Nat) (L p : Nat) (h : AH) : Prop := mX t L 57 0 p h ∧ h.1 56 11 = -1
def DR (m : Nat) (hc hm : AH) : Prop := ∀ q, q < m → ∀ i, i < 7 → ∃ x, itLo i ≤ x ∧ x ≤ itHi i ∧ hc.1 7 (q * 7 + i) = nI x ∧ hm.1 61 (42 + (q * 7 + i)) = nI x
theorem z_fails {t : Nat → Nat} {L p : Nat} {h : AH} (z : mZ t L p h) : f_X12_fails 56 h = some (0, sI h 56 11 (nI p)) ∧ mF p (sI h 56 11 (nI p)) := by
  have := z.1.1
  have pl := z.1.2.2.2.2.2.2.2.2.2.2
  refine ⟨?_, rfl, by omega⟩
  unfold f_X12_fails
  rw [if_pos z.2, nm_id, z.1.2.2.2.2.2.2.2.2.2.1, f_X12_fails_16]
theorem z_look {t : Nat → Nat} {L p : Nat} {h : AH} (z : mZ t L p h) : f_X12_look 56 h = some (chr t L (skp t L p), sI h 56 10 (nI (skp t L p))) ∧ mZ t L (skp t L p) (sI h 56 10 (nI (skp t L p))) := ⟨e_look z.1, mX_at z.1 (skp_le z.1.2.2.2.2.2.2.2.2.2.2), z.2⟩
theorem z_at {t : Nat → Nat} {L p q : Nat} {h : AH} (z : mZ t L p h) (hq : q ≤ L) : mZ t L q (sI h 56 10 (nI q)) := ⟨mX_at z.1 hq, z.2⟩
theorem z_p {t : Nat → Nat} {L p : Nat} {h : AH} (z : mZ t L p h) : h.1 56 10 = nI p := z.1.2.2.2.2.2.2.2.2.2.1
theorem z_61 {t : Nat → Nat} {L p j : Nat} {x : Int32} {h : AH} (z : mZ t L p h) : mZ t L p (sI h 61 j x) := by
  obtain ⟨⟨c1, c2, c3, c4, c5, c6, c7, c8, c9, c10⟩, z2⟩ := z
  exact ⟨⟨c1, c2, c3, c4, c5, c6, c7, c8, c9, c10⟩, z2⟩
theorem z_21 {t : Nat → Nat} {L p : Nat} {x : Int32} {h : AH} (z : mZ t L p h) : mZ t L p (sI h 56 21 x) := by
  obtain ⟨⟨c1, c2, c3, c4, c5, c6, c7, c8, c9, c10⟩, z2⟩ := z
  exact ⟨⟨c1, c2, c3, c4, c5, c6, c7, c8, c9, c10⟩, z2⟩
theorem x_7 {t : Nat → Nat} {L p j : Nat} {x : Int32} {h : AH} (c : cX t L p h) : cX t L p (sI h 7 j x) := ⟨c.1, c.2.1, c.2.2.1, c.2.2.2.1, c.2.2.2.2.1, c.2.2.2.2.2⟩
theorem x_6 {t : Nat → Nat} {L p : Nat} {x : Int32} {h : AH} (c : cX t L p h) : cX t L p (sI h 6 2 x) := ⟨c.1, c.2.1, c.2.2.1, c.2.2.2.1, c.2.2.2.2.1, c.2.2.2.2.2⟩
theorem e_hereM {t : Nat → Nat} {L p : Nat} {h : AH} (z : mZ t L p h) (hp : p < L) : f_X12_here 56 h = some (nI (t p), h) := by
  obtain ⟨c1, c2, c3, c4, c5, c6, c7, c8, c9, c10, c11⟩ := z.1
  have k3 : decide ((kd 57).1 = 3) = true := decide_eq_true c3.1
  have tb := c2 p hp
  unfold f_X12_here
  rw [c8, c10, if_neg (by rw [nI_leI (by omega) (by omega)]; omega), c6, og_t k3, c7, nI_add, og_ix (by omega) (by omega), nI_clamp (by omega), c9 p hp, (bys_128 tb.2).2.1, f_X12_here_33]
theorem sT01 : ∀ i, i < 7 → sT 0 i = nI (itLo i) ∧ sT 1 i = nI (itHi i) ∧ itLo i < 100 ∧ itHi i < 100 := by decide +kernel
theorem e_mostOf {i : Nat} (hi : i < 7) (h : AH) : f_X12_mostOf (nI i) h = some (nI (itHi i), h) := by
  match i, hi with
  | 0, _ => rfl
  | 1, _ => rfl
  | 2, _ => rfl
  | 3, _ => rfl
  | 4, _ => rfl
  | 5, _ => rfl
  | 6, _ => rfl
theorem e_item69 {t : Nat → Nat} {L p i w m : Nat} {h : AH} (z : mZ t L (p + 1) h) (nd : dgB t L (p + 1) = false) (hi : i < 7) (hw : w < 100) (hm : m < 6) : f_X12_readItem_69 56 (nI (42 + m * 7)) (nI i) (nI w) h = (if itLo i ≤ w ∧ w ≤ itHi i then some (sI h 61 (42 + (m * 7 + i)) (nI w)) else some (sI (sI h 56 10 (nI p)) 56 11 (nI p))) := by
  have b := sT01 i hi
  have pl := z.1.2.2.2.2.2.2.2.2.2.2
  have zp := z_p z
  unfold f_X12_readItem_69
  rw [e_isDigitM z.1, nd, ob_some, zi, if_neg (by decide)]
  have main : ∀ lo : Nat, lo < 100 → itLo i = lo → ∀ sl0 : Int64, sl0 = (nI lo).toInt64 → f_X12_readItem_101 56 (nI (42 + m * 7)) (nI i) (nI w) sl0 ((nI w).toInt64) h = (if itLo i ≤ w ∧ w ≤ itHi i then some (sI h 61 (42 + (m * 7 + i)) (nI w)) else some (sI (sI h 56 10 (nI p)) 56 11 (nI p))) := by
    intro lo l1 l2 sl0 es
    unfold f_X12_readItem_101
    rw [es, e_mostOf hi, ob_some, e_X12_isIn, ob_some, zi, l2]
    by_cases c : lo ≤ w ∧ w ≤ itHi i
    · have d : ¬ nI w < nI lo ∧ ¬ nI (itHi i) < nI w := ⟨nI_nlt c.1 (by omega), nI_nlt c.2 (by omega)⟩
      rw [decide_eq_true d, if_pos rfl, if_pos c, nI_add, rv_56_19, an_61, og_ix (by omega) (by omega), nm_id, nI_clamp (by omega), show 42 + m * 7 + i = 42 + (m * 7 + i) by omega]
    · have d : ¬ (¬ nI w < nI lo ∧ ¬ nI (itHi i) < nI w) := by
        rw [nI_ltI (by omega) (by omega), nI_ltI (by omega) (by omega)]
        omega
      have z' := z_at z (q := p) (by omega)
      rw [decide_eq_false d, if_neg (by decide), if_neg c, nm_id, zp, nI_pred, (z_fails z').1, ob_some]
  by_cases c0 : i = 0
  · subst c0
    rw [if_pos (show nI 0 = 0 from rfl), f_X12_readItem_94]
    exact main 20 (by decide) rfl 20 rfl
  · rw [if_neg (by rw [show (0 : Int32) = nI 0 from rfl, nI_eq (by omega) (by decide)]; exact c0)]
    by_cases c3 : i = 3
    · subst c3
      rw [if_pos (show nI 3 = 3 from rfl), f_X12_readItem_94]
      exact main 20 (by decide) rfl 20 rfl
    · rw [if_neg (by rw [show (3 : Int32) = nI 3 from rfl, nI_eq (by omega) (by decide)]; exact c3)]
      exact main 0 (by decide) (by unfold itLo; rw [if_neg (fun w => w.elim c0 c3)]) 0 rfl
/-- what the class does with the number -/
def cIt (i w m p : Nat) (h : AH) : Option (Int32 × AH) := if itLo i ≤ w ∧ w ≤ itHi i then some (1, sI h 7 (m * 7 + i) (nI w)) else some (0, sI h 1 2 (nI p))
theorem e_itemC {t : Nat → Nat} {L p i w m : Nat} {h : AH} (c : cX t L (p + 1) h) (h6 : h.1 6 2 = nI m) (hi : i < 7) (hw : w < 100) (hm : m < 6) : (if nI w = -1 then some (0, h) else og (ix (nI i) (sN 0)) (if nI w < sT 0 (nI i).toNatClampNeg then f_X6_readItem_31 1 h else og (ix (nI i) (sN 1)) (if nI w ≤ sT 1 (nI i).toNatClampNeg then og (ix ((h.1 6 2 * 7) + nI i) (an (rf 6 0))) (nm (sI h (rf 6 0) ((h.1 6 2 * 7) + nI i).toNatClampNeg (nI w)) fun h_10 => some (1, h_10)) else f_X6_readItem_31 1 h))) = cIt i w m p h := by
  have b := sT01 i hi
  have cp := c.2.2.2.2.1
  rw [if_neg (by rw [n_m1 (by omega)]; exact id), show sN 0 = 7 from rfl, show sN 1 = 7 from rfl, og_ix hi (by omega), og_ix hi (by omega), nI_clamp (by omega), b.1, b.2.1, h6, show nI m * 7 = nI (m * 7) from k_mul m 7, nI_add, rv_6_0, an_7, og_ix (by omega) (by omega), nm_id, nI_clamp (by omega)]
  unfold cIt f_X6_readItem_31
  rw [nm_id, cp, nI_pred]
  by_cases c1 : itLo i ≤ w
  · rw [if_neg (nI_nlt c1 (by omega))]
    by_cases c2 : w ≤ itHi i
    · rw [if_pos (show nI w ≤ nI (itHi i) by rw [nI_leI (by omega) (by omega)]; exact c2), if_pos ⟨c1, c2⟩]
    · rw [if_neg (show ¬ nI w ≤ nI (itHi i) by rw [nI_leI (by omega) (by omega)]; exact c2), if_neg (fun q => c2 q.2)]
  · rw [if_pos (show nI w < nI (itLo i) from nI_lt (by omega) (by omega)), if_neg (fun q => c1 q.1)]
/-- an item: both read it alike -/
def LoE (h0 h : AH) : Prop := ∀ j, j < 42 → h.1 61 j = h0.1 61 j
def ItR (h0 : AH) (t : Nat → Nat) (L m : Nat) (rC : Option (Int32 × AH)) (rM : Option AH) : Prop :=
  (∃ p' hc' hm', rC = some (1, hc') ∧ rM = some hm' ∧ cX t L p' hc' ∧ mZ t L p' hm' ∧ DR (m + 1) hc' hm' ∧ hc'.1 6 2 = nI m ∧ hm'.1 56 21 = nI m ∧ LoE h0 hm')
  ∨ (∃ p' hc' hm', rC = some (0, hc') ∧ rM = some hm' ∧ hc'.1 1 2 = nI p' ∧ mF p' hm' ∧ LoE h0 hm')
theorem DR_set {m i w : Nat} {hc hm : AH} (d : DR (m + 1) hc hm) (hi : i < 7) (b : itLo i ≤ w ∧ w ≤ itHi i) : DR (m + 1) (sI hc 7 (m * 7 + i) (nI w)) (sI hm 61 (42 + (m * 7 + i)) (nI w)) := by
  intro q hq k hk
  by_cases e : q * 7 + k = m * 7 + i
  · have e1 : q = m := by omega
    have e2 : k = i := by omega
    subst e1 e2
    exact ⟨w, b.1, b.2, sI_s .., sI_s ..⟩
  · rw [sI_n (Or.inr e), sI_n (Or.inr (by omega))]
    exact d q hq k hk
theorem DR_at {m : Nat} {hc hm : AH} {x y : Int32} (d : DR m hc hm) : DR m (sI hc 1 2 x) (sI hm 56 10 y) := d
theorem item_end {t : Nat → Nat} {L p i w m : Nat} {hc hm h0 : AH} (lo : LoE h0 hm) (c : cX t L (p + 1) hc) (z : mZ t L (p + 1) hm) (nd : dgB t L (p + 1) = false) (h6 : hc.1 6 2 = nI m) (h21 : hm.1 56 21 = nI m) (d : DR (m + 1) hc hm) (hi : i < 7) (hw : w < 100) (hm6 : m < 6) : ItR h0 t L m (cIt i w m p hc) (f_X12_readItem_69 56 (nI (42 + m * 7)) (nI i) (nI w) hm) := by
  rw [e_item69 z nd hi hw hm6]
  unfold cIt
  have cl := c.1
  have cp := c.2.2.2.2.2
  by_cases b : itLo i ≤ w ∧ w ≤ itHi i
  · rw [if_pos b, if_pos b]
    exact Or.inl ⟨p + 1, _, _, rfl, rfl, x_7 c, z_61 z, DR_set d hi b, h6, h21, fun j hj => by rw [sI_n (Or.inr (by omega))]; exact lo j hj⟩
  · rw [if_neg b, if_neg b]
    exact Or.inr ⟨p, _, _, rfl, rfl, rfl, ⟨rfl, by omega⟩, lo⟩
theorem e_sg {t : Nat → Nat} {L p' : Nat} {h : AH} (cx : cX t L p' h) (k : Nat → Int32 → Int32 → Int32 → Int32 → AH → Option (Int32 × AH)) (x2 x3 : Int32) : (if h.1 1 1 ≤ h.1 1 2 then f_X10_readNumber_71 k 1 2 x2 x3 (-1) h else og (ix (h.1 1 2) (an (rf 1 0))) (f_X10_readNumber_71 k 1 2 x2 x3 (h.1 (rf 1 0) (h.1 1 2).toNatClampNeg) h)) = k 1 2 x2 x3 (chr t L p') h := by
  have L160 := cx.1
  have pl := cx.2.2.2.2.2
  rw [cx.2.2.1, cx.2.2.2.2.1]
  unfold f_X10_readNumber_71 chr
  by_cases l : p' < L
  · rw [if_neg (by rw [nI_leI (by omega) (by omega)]; omega), if_pos l, rv_1_0, an_2, og_ix (by omega) (by omega), nI_clamp (by omega), cx.2.2.2.1 p' l]
  · rw [if_pos (by rw [nI_leI (by omega) (by omega)]; omega), if_neg l]
theorem num2C {t : Nat → Nat} {L q : Nat} {hc : AH} (c : cX t L q hc) (g : dgB t L q = true) : f_X10_readNumber_10 FU 1 2 0 0 (chr t L q) hc = if dgB t L (q + 1) = true then (if dgB t L (q + 2) = true then some (-1, sI hc 1 2 (nI (q + 2))) else some (nI ((t q - 48) * 10 + (t (q + 1) - 48)), sI hc 1 2 (nI (q + 2)))) else some (nI (t q - 48), sI hc 1 2 (nI (q + 1))) := by
  have tb := c.2.1
  obtain ⟨n, hn⟩ : ∃ n, FU = n + 3 := ⟨4093, rfl⟩
  have g' := of_decide_eq_true g
  have v1 : (0 : Int32) * 10 + nI (t q) - 48 = nI (0 * 10 + (t q - 48)) := (num_st (v := 0) g'.2.1).1
  have c2 : cX t L (q + 1) (sI hc 1 2 (nI (q + 1))) := cX_at c (by omega)
  have x10 : hc.1 1 2 + 1 = nI (q + 1) := by rw [c.2.2.2.2.1, nI_1]
  rw [hn, f_X10_readNumber_10, if_neg (by decide), e_isDigitC tb, g, ob_some, zi, if_pos rfl, nm_id, nm_id, nm_id, chr_lt g'.1, v1, Nat.zero_mul, Nat.zero_add, x10, e_sg c2, show (0 : Int32) + 1 = 1 by decide, f_X10_readNumber_10, if_neg (by decide), e_isDigitC tb, ob_some, zi]
  cases g2 : dgB t L (q + 1) with
  | false =>
    rw [if_neg (by decide), if_neg (by decide), f_X10_readNumber_76, if_neg (by decide), e_isDigitC tb, g2, ob_some, zi, if_neg (by decide)]
    rfl
  | true =>
    have g2' := of_decide_eq_true g2
    have v2 : nI (t q - 48) * 10 + nI (t (q + 1)) - 48 = nI ((t q - 48) * 10 + (t (q + 1) - 48)) := (num_st g2'.2.1).1
    have c3 : cX t L (q + 2) (sI hc 1 2 (nI (q + 2))) := cX_at c (by omega)
    have y10 : (sI hc 1 2 (nI (q + 1))).1 1 2 + 1 = nI (q + 2) := nI_1 (q + 1)
    rw [if_pos rfl, if_pos rfl, nm_id, nm_id, nm_id, chr_lt g2'.1, v2, y10, sI_sI, e_sg c3, show (1 : Int32) + 1 = 2 by decide, f_X10_readNumber_10, if_pos (by decide), f_X10_readNumber_76, if_neg (by decide), e_isDigitC tb, ob_some, zi]
    cases g3 : dgB t L (q + 2) with
    | false =>
      rw [if_neg (by decide), if_neg (by decide)]
      rfl
    | true =>
      rw [if_pos rfl, if_pos rfl]
      rfl
theorem sim_item {t : Nat → Nat} {L p i m : Nat} {hc hm h0 : AH} (lo : LoE h0 hm) (c : cX t L p hc) (z : mZ t L p hm) (h6 : hc.1 6 2 = nI m) (h21 : hm.1 56 21 = nI m) (d : DR (m + 1) hc hm) (hi : i < 7) (hm6 : m < 6) : ItR h0 t L m (f_X6_readItem 6 1 (nI i) hc) (f_X12_readItem 56 (nI (42 + m * 7)) (nI i) hm) := by
  have pl := c.2.2.2.2.2
  have L160 := c.1
  have tb := c.2.1
  have ql := skp_le (t := t) pl
  have nx := e_next c
  have lk := z_look z
  generalize skp t L p = q at ql nx lk
  obtain ⟨lk1, z1⟩ := lk
  have c1 : cX t L q (sI hc 1 2 (nI q)) := cX_at c ql
  unfold f_X6_readItem f_X10_readNumber f_X12_readItem
  rw [nx, ob_some, lk1, ob_some, e_isDigitM z1.1, ob_some, zi]
  cases g1 : dgB t L q with
  | false =>
    obtain ⟨n, hn⟩ : ∃ n, FU = n + 1 := ⟨4095, rfl⟩
    rw [if_neg (by decide), hn, f_X10_readNumber_10, if_neg (by decide), e_isDigitC tb, g1, ob_some, zi, if_neg (by decide), f_X10_readNumber_76, if_pos rfl, f_X10_readNumber_88, f_X10_readNumber_93, ob_some, if_pos rfl, (z_fails z1).1, ob_some]
    exact Or.inr ⟨q, _, _, rfl, rfl, rfl, (z_fails z1).2, lo⟩
  | true =>
    have g1' := of_decide_eq_true g1
    have m1 : nI (t q) - 48 = nI (t q - 48) := pk_sub (b := 48) g1'.2.1
    have z2 : mZ t L (q + 1) (sI (sI hm 56 10 (nI q)) 56 10 (nI (q + 1))) := z_at z1 (by omega)
    have y10 : (sI hm 56 10 (nI q)).1 56 10 + 1 = nI (q + 1) := nI_1 q
    have c2 : cX t L (q + 1) (sI (sI hc 1 2 (nI q)) 1 2 (nI (q + 1))) := cX_at c1 (by omega)
    rw [num2C c1 g1, if_pos rfl, e_hereM z1 g1'.1, ob_some, nm_id, nm_id, m1, y10, e_isDigitM z2.1, ob_some, zi]
    cases g2 : dgB t L (q + 1) with
    | false =>
      rw [if_neg (by decide), if_neg (by decide), ob_some, e_itemC c2 h6 hi (by omega) hm6]
      exact item_end (h0 := h0) lo c2 z2 g2 h6 h21 d hi (by omega) hm6
    | true =>
      have g2' := of_decide_eq_true g2
      have v2 : 10 * nI (t q - 48) + nI (t (q + 1)) - 48 = nI ((t q - 48) * 10 + (t (q + 1) - 48)) := (num_st g2'.2.1).2
      have z3 : mZ t L (q + 2) (sI (sI (sI hm 56 10 (nI q)) 56 10 (nI (q + 1))) 56 10 (nI (q + 2))) := z_at z2 (by omega)
      have w10 : (sI (sI hm 56 10 (nI q)) 56 10 (nI (q + 1))).1 56 10 + 1 = nI (q + 2) := nI_1 (q + 1)
      have c3 : cX t L (q + 2) (sI (sI hc 1 2 (nI q)) 1 2 (nI (q + 2))) := cX_at c1 (by omega)
      rw [if_pos rfl, if_pos rfl, e_hereM z2 g2'.1, ob_some, nm_id, nm_id, v2, w10]
      cases g3 : dgB t L (q + 2) with
      | false =>
        rw [if_neg (by decide), ob_some, e_itemC (p := q + 1) c3 h6 hi (by omega) hm6]
        exact item_end (h0 := h0) (p := q + 1) lo c3 z3 g3 h6 h21 d hi (by omega) hm6
      | true =>
        have g3' := of_decide_eq_true g3
        rw [if_pos rfl, ob_some, if_pos rfl]
        unfold f_X12_readItem_69
        rw [e_isDigitM z3.1, g3, ob_some, zi, if_pos rfl, (z_fails z3).1, ob_some]
        exact Or.inr ⟨q + 2, _, _, rfl, rfl, rfl, (z_fails z3).2, lo⟩
theorem st7_inj : ∀ i, i < 7 → ∀ j, j < 7 → (strb 1000).getD i 0 &&& 255 = (strb 1000).getD j 0 &&& 255 → i = j := by decide +kernel
theorem st7_pos : ∀ i, i < 7 → ¬ (strb 1000).getD i 0 &&& 255 = -1 := by decide +kernel
theorem e_letter (x : Int32) (hc hm : AH) : (f_X11_indexIn 1000 x hc = some (-1, hc) ∧ f_X12_placeOf 1000 x hm = some (-1, hm)) ∨ ∃ i, i < 7 ∧ f_X11_indexIn 1000 x hc = some (nI i, hc) ∧ f_X12_placeOf 1000 x hm = some (nI i, hm) ∧ ¬ x = -1 := by
  obtain ⟨r, e, q⟩ := e_indexIn (k := 1000) rfl (by decide) x hc
  obtain ⟨r', e', q'⟩ := e_placeOf (k := 1000) rfl (by decide) x hm
  have l7 : (strb 1000).length = 7 := rfl
  rw [l7] at q q'
  rcases q with ⟨q1, q2⟩ | ⟨i, hi, q1, q2⟩
  · rcases q' with ⟨q1', _⟩ | ⟨j, hj, _, q3⟩
    · exact Or.inl ⟨by rw [e, q1], by rw [e', q1']⟩
    · exact absurd q3 (q2 j hj)
  · rcases q' with ⟨_, q3⟩ | ⟨j, hj, q1', q3⟩
    · exact absurd q2 (q3 i hi)
    · have : i = j := st7_inj i hi j hj (by rw [q2, q3])
      subst this
      exact Or.inr ⟨i, hi, by rw [e, q1], by rw [e', q1'], fun w => st7_pos i hi (by rw [q2, w])⟩
def c7 (S : Nat) : Nat := pcN S + b2 (S.testBit 6)
theorem s7_in : ∀ S, S < 128 → ∀ k, k < 7 → inS (nI S) (nI k) = S.testBit k := by decide +kernel
theorem s7_or : ∀ S, S < 128 → ∀ k, k < 7 → nI S ||| ((1 : Int32) <<< (nI k &&& 31)) = nI (S ||| 2 ^ k) ∧ S ||| 2 ^ k < 128 ∧ (S.testBit k = false → c7 (S ||| 2 ^ k) = c7 S + 1) ∧ c7 S ≤ 7 := by decide +kernel
theorem sim_items {t : Nat → Nat} {L m : Nat} {h0 : AH} (hm6 : m < 6) : ∀ n n' k S p hc hm x4, k + 1 ≤ 9 → 8 - k < n → 8 - k < n' → S < 128 → c7 S = k → cX t L p hc → mZ t L (skp t L p) hm → f_X12_placeOf 1000 (chr t L (skp t L p)) hm = some (x4, hm) → hc.1 6 2 = nI m → hm.1 56 21 = nI m → DR (m + 1) hc hm → LoE h0 hm → ItR h0 t L m (f_X6_readPerson_35 n 6 1 (nI S) (nI k) hc) (f_X12_readPerson_57 n' 56 (nI (42 + m * 7)) (nI S) x4 hm) := by
  intro n
  induction n with
  | zero => intro n' k S p hc hm x4 _ q; omega
  | succ n ih =>
    intro n' k S p hc hm x4 hk hkn hkn' hS hc7 c z pl h6 h21 d lo
    obtain ⟨n'', rfl⟩ : ∃ z, n' = z + 1 := ⟨n' - 1, by omega⟩
    have k7 := (s7_or S hS 0 (by omega)).2.2.2
    have nx := e_next c
    have p0 := c.2.2.2.2.2
    have L160 := c.1
    have tb := c.2.1
    have ql := skp_le (t := t) p0
    have idm := skp_idem (t := t) p0
    generalize hq : skp t L p = q at nx z pl ql idm
    have c1 : cX t L q (sI hc 1 2 (nI q)) := cX_at c ql
    rw [f_X6_readPerson_35, if_neg (by rw [show (7 : Int32) = nI 7 from rfl, nI_ltI (by decide) (by omega)]; omega), nx, ob_some, f_X12_readPerson_57]
    rcases e_letter (chr t L q) (sI hc 1 2 (nI q)) hm with ⟨e1, e2⟩ | ⟨i, hi, e1, e2, ne⟩
    · have x4e : x4 = -1 := by
        rw [e2] at pl
        exact (congrArg Prod.fst (Option.some.inj pl)).symm
      rw [e1, ob_some, if_pos rfl, if_pos x4e]
      exact Or.inl ⟨q, _, hm, rfl, rfl, c1, z, d, h6, h21, lo⟩
    · have x4e : x4 = nI i := by
        rw [e2] at pl
        exact (congrArg Prod.fst (Option.some.inj pl)).symm
      have nm1 : ¬ nI i = -1 := by
        rw [n_m1 (by omega)]
        exact id
      have qL : q < L := by
        unfold chr at ne
        by_cases l : q < L
        · exact l
        · rw [if_neg l] at ne
          exact absurd rfl ne
      have so := s7_or S hS i hi
      rw [e1, ob_some, if_neg nm1, x4e, if_neg nm1, e_X11_isIn, e_X12_has, ob_some, ob_some, s7_in S hS i hi, zi, zi]
      cases b : S.testBit i with
      | true =>
        rw [if_pos rfl, if_pos rfl, (z_fails z).1, ob_some]
        exact Or.inr ⟨q, _, _, rfl, rfl, rfl, (z_fails z).2, lo⟩
      | false =>
        have x10 : (sI hc 1 2 (nI q)).1 1 2 + 1 = nI (q + 1) := nI_1 q
        have y10 : hm.1 56 10 + 1 = nI (q + 1) := by rw [z_p z, nI_1]
        have c2 : cX t L (q + 1) (sI (sI hc 1 2 (nI q)) 1 2 (nI (q + 1))) := cX_at c1 (by omega)
        have z2 : mZ t L (q + 1) (sI hm 56 10 (nI (q + 1))) := z_at z (by omega)
        rw [if_neg (by decide), if_neg (by decide), nm_id, nm_id, nm_id, nm_id, so.1, x10, y10]
        rcases sim_item (hm := sI hm 56 10 (nI (q + 1))) (h0 := h0) lo c2 z2 h6 h21 d hi hm6 with ⟨p', hc', hm', r1, r2, r3, r4, r5, r6, r7, r8⟩ | ⟨p', hc', hm', r1, r2, r3, r4, r5⟩
        · have lk := z_look r4
          obtain ⟨r, er, _⟩ := e_placeOf (k := 1000) rfl (by decide) (chr t L (skp t L p')) (sI hm' 56 10 (nI (skp t L p')))
          rw [r1, ob_some, if_neg (by decide), r2, ov_some, if_pos r4.2, lk.1, ob_some, er, ob_some, nm_id, nI_1]
          have ck := so.2.2.1 b
          have c8 := (s7_or (S ||| 2 ^ i) so.2.1 0 (by omega)).2.2.2
          exact ih n'' (k + 1) (S ||| 2 ^ i) p' hc' _ r (by omega) (by omega) (by omega) so.2.1 (by omega) r3 lk.2 er r6 r7 r5 r8
        · rw [r1, ob_some, if_pos rfl, r2, ov_some, if_neg (mF_n r4)]
          exact Or.inr ⟨p', hc', hm', rfl, rfl, r3, r4, r5⟩
def usN (i : Nat) : Nat := if i = 0 ∨ i = 3 then 40 else if i = 2 then 50 else if i = 4 then 10 else 1
theorem us_ok : ∀ i, i < 7 → sT 2 i = nI (usN i) ∧ itLo i ≤ usN i ∧ usN i ≤ itHi i ∧ usN i < 100 := by decide +kernel
theorem e_usual {i : Nat} (hi : i < 7) (h : AH) : f_X12_usual (nI i) h = some (nI (usN i), h) := by
  match i, hi with
  | 0, _ => rfl
  | 1, _ => rfl
  | 2, _ => rfl
  | 3, _ => rfl
  | 4, _ => rfl
  | 5, _ => rfl
  | 6, _ => rfl
theorem x_pass {t : Nat → Nat} {L p : Nat} {h : AH} (x : Nat) (hx : x < 2 ^ 31) (c : cX t L p h) : (chr t L (skp t L p) = nI x → f_X10_pass 1 (nI x) h = some (1, sI h 1 2 (nI (skp t L p + 1))) ∧ skp t L p < L) ∧ (chr t L (skp t L p) ≠ nI x → f_X10_pass 1 (nI x) h = some (0, sI h 1 2 (nI (skp t L p)))) := by
  unfold f_X10_pass
  rw [e_next c, ob_some]
  refine ⟨fun q => ⟨?_, (chr_n q hx).1⟩, fun q => by rw [if_neg q]⟩
  have : (sI h 1 2 (nI (skp t L p))).1 1 2 + 1 = nI (skp t L p + 1) := nI_1 _
  rw [if_pos q, nm_id, this, sI_sI]
theorem z_takes {t : Nat → Nat} {L p : Nat} {h : AH} (x : Nat) (hx : x < 2 ^ 31) (z : mZ t L p h) : (chr t L (skp t L p) = nI x → f_X12_takes 56 (nI x) h = some (1, sI h 56 10 (nI (skp t L p + 1))) ∧ mZ t L (skp t L p + 1) (sI h 56 10 (nI (skp t L p + 1)))) ∧ (chr t L (skp t L p) ≠ nI x → ∃ h', f_X12_takes 56 (nI x) h = some (0, h') ∧ mF (skp t L p) h' ∧ h'.1 61 = h.1 61) := by
  have lk := z_look z
  unfold f_X12_takes
  rw [if_pos z.2, lk.1, ob_some]
  refine ⟨fun q => ?_, fun q => ?_⟩
  · have l := (chr_n q hx).1
    have : (sI h 56 10 (nI (skp t L p))).1 56 10 + 1 = nI (skp t L p + 1) := nI_1 _
    rw [if_pos q, nm_id, this, sI_sI]
    exact ⟨rfl, z_at z (by omega)⟩
  · have f := z_fails lk.2
    rw [if_neg q, f_X12_takes_16, f.1, ob_some]
    exact ⟨_, rfl, f.2, rfl⟩
theorem sim_person {t : Nat → Nat} {L m p : Nat} {hc hm h0 : AH} (lo : LoE h0 hm) (hm6 : m < 6) (c : cX t L p hc) (z : mZ t L p hm) (h6 : hc.1 6 2 = nI m) (h21 : hm.1 56 21 = nI m) (d : DR m hc hm) : ItR h0 t L m (f_X6_readPerson 6 1 hc) (f_X12_readPerson 56 (nI m) hm) := by
  have p0 := c.2.2.2.2.2
  have L160 := c.1
  have e42 : (7 : Int32) * (6 + nI m) = nI (42 + m * 7) := by
    rw [show (6 : Int32) + nI m = nI (6 + m) from nI_add 6 m, show (7 : Int32) * nI (6 + m) = nI ((6 + m) * 7) from k_mul' _ 7]
    congr 1
    omega
  unfold f_X12_readPerson
  rw [nm_id, e42]
  refine lp (fun f i g => ItR h0 t L m (f_X6_readPerson 6 1 hc) (f_X12_readPerson_10 f 56 (nI (42 + m * 7)) (nI i) g)) (fun i g => mZ t L p g ∧ g.1 56 21 = nI m ∧ (∀ j, j < i → g.1 61 (42 + (m * 7 + j)) = nI (usN j)) ∧ ∀ j, j < 42 + m * 7 → g.1 61 j = hm.1 61 j) 7 (by decide) ?_ ?_ ⟨z, h21, fun j hj => absurd hj (by omega), fun _ _ => rfl⟩
  · rintro f g ⟨z, g21, g1, g2⟩
    rw [f_X12_readPerson_10, if_pos (by decide)]
    have P := x_pass 112 (by decide) c
    have T := z_takes 112 (by decide) z
    unfold f_X6_readPerson
    by_cases y : chr t L (skp t L p) = nI 112
    · obtain ⟨e1, l1⟩ := P.1 y
      obtain ⟨e2, z2⟩ := T.1 y
      have e1' : f_X10_pass 1 112 hc = some (1, sI hc 1 2 (nI (skp t L p + 1))) := e1
      have e2' : f_X12_takes 56 112 g = some (1, sI g 56 10 (nI (skp t L p + 1))) := e2
      have c1 : cX t L (skp t L p + 1) (sI hc 1 2 (nI (skp t L p + 1))) := cX_at c (by omega)
      have s6 : (sI hc 1 2 (nI (skp t L p + 1))).1 6 2 = nI m := h6
      rw [e1', e2', ob_some, ob_some, if_neg (by decide), if_neg (by decide), s6, show nI m * 7 = nI (m * 7) from k_mul m 7, rv_6_0, an_7, show sN 2 = 7 from rfl, og_t, nm_id]
      · have lk := z_look z2
        obtain ⟨r, er, _⟩ := e_placeOf (k := 1000) rfl (by decide) (chr t L (skp t L (skp t L p + 1))) (sI (sI g 56 10 (nI (skp t L p + 1))) 56 10 (nI (skp t L (skp t L p + 1))))
        rw [lk.1, ob_some, er, ob_some]
        have cp7 : ∀ j, (sCt (sI hc 1 2 (nI (skp t L p + 1))) 2 0 7 (nI (m * 7)) 7).1 7 j = if m * 7 ≤ j ∧ j < m * 7 + 7 then sT 2 (j - m * 7) else hc.1 7 j := by
          intro j
          show (if 7 = 7 then va_cpy (sT 2) ((sI hc 1 2 (nI (skp t L p + 1))).1 7) (0 : Int32).toNatClampNeg (nI (m * 7)).toNatClampNeg (7 : Int32).toNatClampNeg j else (sI hc 1 2 (nI (skp t L p + 1))).1 7 j) = _
          rw [if_pos rfl, nI_clamp (by omega), show (0 : Int32).toNatClampNeg = 0 from rfl, show (7 : Int32).toNatClampNeg = 7 from rfl]
          unfold va_cpy
          rw [Nat.zero_add]
          rfl
        have c2 : cX t L (skp t L p + 1) (sCt (sI hc 1 2 (nI (skp t L p + 1))) 2 0 7 (nI (m * 7)) 7) := ⟨c1.1, c1.2.1, c1.2.2.1, c1.2.2.2.1, c1.2.2.2.2.1, c1.2.2.2.2.2⟩
        refine sim_items hm6 FU FU 0 0 (skp t L p + 1) _ _ r (by omega) (by unfold FU; omega) (by unfold FU; omega) (by omega) rfl c2 lk.2 er h6 g21 ?_ (fun j hj => by
          show g.1 61 j = _
          rw [g2 j (by omega)]
          exact lo j hj)
        intro q hq k hk
        have uo := us_ok k hk
        rw [cp7]
        by_cases e : q = m
        · subst e
          rw [if_pos (by omega), show q * 7 + k - q * 7 = k by omega, uo.1]
          exact ⟨usN k, uo.2.1, uo.2.2.1, rfl, g1 k hk⟩
        · rw [if_neg (by omega)]
          obtain ⟨x, b1, b2', b3, b4⟩ := d q (by omega) k hk
          refine ⟨x, b1, b2', b3, ?_⟩
          show g.1 61 (42 + (q * 7 + k)) = nI x
          rw [g2 _ (by omega)]
          exact b4
      · unfold cok
        rw [decide_eq_true_eq, nI_clamp (by omega), show (0 : Int32).toNatClampNeg = 0 from rfl, show (7 : Int32).toNatClampNeg = 7 from rfl]
        exact ⟨by decide, nI_pos (by omega), by decide, by omega, by omega⟩
    · have e1 := P.2 y
      obtain ⟨h', e2, f2, k61⟩ := T.2 y
      have e1' : f_X10_pass 1 112 hc = some (0, sI hc 1 2 (nI (skp t L p))) := e1
      have e2' : f_X12_takes 56 112 g = some (0, h') := e2
      rw [e1', e2', ob_some, ob_some, if_pos rfl, if_pos rfl]
      exact Or.inr ⟨skp t L p, _, h', rfl, rfl, rfl, f2, fun j hj => by rw [k61, g2 j (by omega)]; exact lo j hj⟩
  · rintro f i g hi ⟨z, g21, g1, g2⟩ K
    rw [f_X12_readPerson_10, if_neg (by rw [show (7 : Int32) = nI 7 from rfl, nI_leI (by decide) (by omega)]; omega), e_usual hi, ob_some, nI_add, rv_56_19, an_61, og_ix (by omega) (by omega), nm_id, nI_clamp (by omega), nm_id, nI_1, show 42 + m * 7 + i = 42 + (m * 7 + i) by omega]
    refine K _ ⟨z_61 z, g21, fun j hj => ?_, fun j hj => ?_⟩
    · by_cases e : j = i
      · subst e
        exact sI_s ..
      · rw [sI_n (Or.inr (by omega))]
        exact g1 j (by omega)
    · rw [sI_n (Or.inr (by omega))]
      exact g2 j hj
/-- the whole text -/
def RdR (h0 : AH) (rC : Option (Int32 × AH)) (rM : Option AH) : Prop := ∃ r hc' hm', rC = some (r, hc') ∧ rM = some hm' ∧ hm'.1 56 11 = r ∧ LoE h0 hm' ∧ (r = -1 → ∃ m, 2 ≤ m ∧ m ≤ 6 ∧ hc'.1 6 2 = nI m ∧ hm'.1 56 21 = nI m ∧ DR m hc' hm')
theorem read_75 {t : Nat → Nat} {L p m : Nat} {hc hm h0 : AH} {n : Nat} (lo : LoE h0 hm) (c : cX t L p hc) (z : mZ t L (skp t L p) hm) (h6 : hc.1 6 2 = nI m) (h21 : hm.1 56 21 = nI m) (d : DR m hc hm) (m6 : m ≤ 6) (hm1 : m < 2 → skp t L p = p) : RdR h0 (f_X6_read_75 6 1 hc) (f_X12_readPeople_20 (n + 1) 56 0 hm) := by
  have p0 := c.2.2.2.2.2
  have L160 := c.1
  have ql := skp_le (t := t) p0
  have lk := z_look z
  have idm := skp_idem (t := t) p0
  rw [idm] at lk
  rw [f_X12_readPeople_20, if_pos rfl, lk.1, ob_some]
  unfold f_X6_read_75 f_X6_read_95 f_X6_read_99 f_X12_readPeople_118 f_X12_readPeople_123
  have s21 : (sI hm 56 10 (nI (skp t L p))).1 56 21 = nI m := h21
  have fl := z_fails lk.2
  rw [h6, s21, fl.1, ob_some]
  by_cases m2 : m < 2
  · have e := hm1 m2
    rw [if_pos (show nI m < 2 by rw [show (2 : Int32) = nI 2 from rfl, nI_ltI (by omega) (by decide)]; exact m2), if_neg (show ¬ 2 ≤ nI m by rw [show (2 : Int32) = nI 2 from rfl, nI_leI (by decide) (by omega)]; omega)]
    refine ⟨_, hc, sI (sI hm 56 10 (nI (skp t L p))) 56 11 (nI (skp t L p)), rfl, by split <;> rfl, ?_, lo, fun w => ?_⟩
    · show nI (skp t L p) = hc.1 1 2
      rw [c.2.2.2.2.1, e]
    · rw [c.2.2.2.2.1, n_m1 (by omega)] at w
      exact w.elim
  · rw [if_neg (show ¬ nI m < 2 by rw [show (2 : Int32) = nI 2 from rfl, nI_ltI (by omega) (by decide)]; exact m2), if_pos (show 2 ≤ nI m by rw [show (2 : Int32) = nI 2 from rfl, nI_leI (by decide) (by omega)]; omega), e_next c, ob_some]
    by_cases y : chr t L (skp t L p) = -1
    · rw [if_pos y, if_pos y]
      exact ⟨-1, _, _, rfl, rfl, z.2, lo, fun _ => ⟨m, by omega, m6, h6, h21, d⟩⟩
    · rw [if_neg y, if_neg y]
      refine ⟨nI (skp t L p), _, _, rfl, rfl, rfl, lo, fun w => ?_⟩
      rw [n_m1 (by omega)] at w
      exact w.elim
theorem sim_people {t : Nat → Nat} {L : Nat} {h0 : AH} : ∀ n n' m p hc hm, m < 6 → 6 - m < n → 6 - m < n' → cX t L p hc → mZ t L p hm → hc.1 6 2 = nI m → hm.1 56 21 = nI m → DR m hc hm → LoE h0 hm → RdR h0 (f_X6_read_12 n 6 1 1 hc) (f_X12_readPeople_20 n' 56 1 hm) := by
  intro n
  induction n with
  | zero => intro n' m p hc hm _ q; omega
  | succ n ih =>
    intro n' m p hc hm m6 hn hn' c z h6 h21 d lo
    obtain ⟨n'', rfl⟩ : ∃ z, n' = z + 1 := ⟨n' - 1, by omega⟩
    obtain ⟨n3, rfl⟩ : ∃ z, n'' = z + 1 := ⟨n'' - 1, by omega⟩
    obtain ⟨n4, rfl⟩ : ∃ z, n = z + 1 := ⟨n - 1, by omega⟩
    have L160 := c.1
    rw [f_X6_read_12, if_neg (by decide), h6, if_neg (by rw [show (6 : Int32) = nI 6 from rfl, nI_leI (by decide) (by omega)]; omega), f_X12_readPeople_20, if_neg (by decide), h21]
    rcases sim_person (h0 := h0) lo m6 c z h6 h21 d with ⟨p', hc', hm', r1, r2, r3, r4, r5, r6, r7, r8⟩ | ⟨p', hc', hm', r1, r2, r3, r4, r5⟩
    · have s6 : hc'.1 6 2 + 1 = nI (m + 1) := by rw [r6, nI_1]
      have s21 : hm'.1 56 21 + 1 = nI (m + 1) := by rw [r7, nI_1]
      have c1 : cX t L p' (sI hc' 6 2 (nI (m + 1))) := x_6 r3
      have z1 : mZ t L p' (sI hm' 56 21 (nI (m + 1))) := z_21 r4
      have d1 : DR (m + 1) (sI hc' 6 2 (nI (m + 1))) (sI hm' 56 21 (nI (m + 1))) := r5
      have lk := z_look z1
      have p0 := r3.2.2.2.2.2
      have ql := skp_le (t := t) p0
      have i6 : (sI hc' 6 2 (nI (m + 1))).1 6 2 = nI (m + 1) := rfl
      rw [r1, ob_some, if_neg (by decide), nm_id, s6, i6, r2, ov_some, if_pos r4.2, nm_id, s21, lk.1, ob_some]
      generalize hcc : sI hc' 6 2 (nI (m + 1)) = hc2 at c1 d1 i6
      have lo1 : LoE h0 (sI hm' 56 21 (nI (m + 1))) := r8
      generalize hmm : sI hm' 56 21 (nI (m + 1)) = hm2 at z1 lk d1 lo1
      have k21 : hm2.1 56 21 = nI (m + 1) := by rw [← hmm]; rfl
      by_cases m5 : m + 1 = 6
      · rw [if_pos (by rw [m5]; decide), f_X6_read_70, f_X6_read_71, f_X6_read_12, if_pos rfl]
        unfold f_X12_readPeople_65
        by_cases y : chr t L (skp t L p') = 59
        · have f21 : (sI hm2 56 10 (nI (skp t L p'))).1 56 21 = 6 := by
            show hm2.1 56 21 = 6
            rw [k21, m5]
            rfl
          rw [if_pos y, if_neg (by decide), f21, if_pos rfl, (z_fails lk.2).1, ob_some]
          unfold f_X6_read_75 f_X6_read_95 f_X6_read_99
          rw [i6, if_neg (by rw [m5]; decide), e_next c1, ob_some, if_neg (by rw [y]; decide)]
          refine ⟨nI (skp t L p'), _, _, rfl, rfl, rfl, lo1, fun w => ?_⟩
          rw [n_m1 (by omega)] at w
          exact w.elim
        · rw [if_neg y, if_pos rfl]
          unfold f_X12_readPeople_85
          rw [if_pos rfl]
          exact read_75 (h0 := h0) lo1 c1 lk.2 i6 k21 d1 (by omega) (fun w => absurd w (by omega))
      · have P := x_pass 59 (by decide) c1
        rw [if_neg (by rw [show (6 : Int32) = nI 6 from rfl, nI_leI (by decide) (by omega)]; omega)]
        unfold f_X12_readPeople_65 f_X12_readPeople_85
        by_cases y : chr t L (skp t L p') = nI 59
        · obtain ⟨e1, l1⟩ := P.1 y
          have e1' : f_X10_pass 1 59 hc2 = some (1, sI hc2 1 2 (nI (skp t L p' + 1))) := e1
          have f21 : ¬ (sI hm2 56 10 (nI (skp t L p'))).1 56 21 = 6 := by
            show ¬ hm2.1 56 21 = 6
            rw [k21, show (6 : Int32) = nI 6 from rfl, nI_eq (by omega) (by decide)]
            exact m5
          have a10 : (sI hm2 56 10 (nI (skp t L p'))).1 56 10 + 1 = nI (skp t L p' + 1) := nI_1 _
          rw [e1', ob_some, if_neg (by decide), f_X6_read_71, if_pos (show chr t L (skp t L p') = 59 from y), if_neg (by decide), if_neg f21, if_neg (by decide), nm_id, a10, sI_sI]
          exact ih (n3 + 1) (m + 1) (skp t L p' + 1) _ _ (by omega) (by omega) (by omega) (cX_at c1 (by omega)) (z_at z1 (by omega)) i6 k21 d1 lo1
        · have e1 := P.2 y
          have e1' : f_X10_pass 1 59 hc2 = some (0, sI hc2 1 2 (nI (skp t L p'))) := e1
          have idm := skp_idem (t := t) p0
          have z2 := lk.2
          rw [e1', ob_some, if_pos rfl, f_X6_read_70, f_X6_read_71, f_X6_read_12, if_pos rfl, if_neg (show ¬ chr t L (skp t L p') = 59 from y), if_pos rfl, if_pos rfl]
          exact read_75 (h0 := h0) lo1 (cX_at c1 ql) (by rw [idm]; exact z2) i6 k21 d1 (by omega) (fun _ => idm)
    · rw [r1, ob_some, if_pos rfl, r2, ov_some, if_neg (mF_n r4)]
      refine ⟨hc'.1 1 2, hc', hm', rfl, rfl, by rw [r3, r4.1], r5, fun w => ?_⟩
      have := r4.2
      rw [r3, n_m1 (by omega)] at w
      exact w.elim
theorem sim_ppl {t : Nat → Nat} {L : Nat} {hc hm : AH} (l160 : L ≤ 160) (tb : ∀ j, j < L → 0 < t j ∧ t j < 256) (c11 : hc.1 1 1 = nI L) (tx : ∀ j, j < L → hc.1 2 j = nI (t j)) (m6 : hm.1 56 6 = nI L) (ty : ∀ j, j < L → hm.1 57 j = bys (t j)) : RdR hm (f_X6_read 6 1 hc) (f_X12_readPeople 56 hm) := by
  unfold f_X6_read f_X12_readPeople f_X12_opens
  rw [nm_id, nm_id, nm_id, nm_id, nm_id, nm_id, nm_id, ov_some, nm_id, rv_56_1, m6]
  refine sim_people (t := t) (L := L) FU FU 0 0 _ _ (by omega) (by unfold FU; omega) (by unfold FU; omega) ⟨l160, tb, c11, tx, rfl, Nat.zero_le _⟩ ⟨⟨l160, tb, ⟨rfl, by decide, by decide, by decide⟩, by rw [an_57]; omega, by rw [an_57]; omega, rfl, rfl, rfl, fun j hj => ?_, rfl, Nat.zero_le _⟩, rfl⟩ rfl rfl (fun q hq => absurd hq (by omega)) (fun j hj => rfl)
  rw [Nat.zero_add]
  exact ty j hj
/-- the model's people stay: only the draft behind them is written -/
theorem eqOn_l1 {a : Nat} {W B : List (Nat × Nat)} {h0 h : AH} (ag : Agr W h0 h) (nb : ∀ j, Wmem B a j = false) (d : Wdis (wless a a W) B = true) : EqOn B h0 h := by
  intro k j hb
  by_cases ka : k = a
  · rw [ka, nb j] at hb
    cases hb
  · refine ag.1 k j ?_
    cases hw : Wmem W k j with
    | false => rfl
    | true =>
      obtain ⟨c, hc, rfl, hj⟩ := Wmem_iff.mp hw
      have : Wmem (wless a a W) c.1 j = true := Wmem_iff.mpr ⟨c, List.mem_filter.mpr ⟨hc, by rw [nbeq (fun w => ka w.symm)]; rfl⟩, rfl, hj⟩
      rw [Wdis_no d hb] at this
      cases this
theorem rel_61 {W : List (Nat × Nat)} {v : Wd} {h0 h : AH} (a : Agr W h0 h) (lo : LoE h0 h) (d : Wdis (wless 61 61 W) (wless 61 61 ST) = true) (R : RelV v h0) : RelV v h := by
  have e : EqOn (wless 61 61 ST) h0 h := eqOn_l1 a (fun _ => rfl) d
  have hn := R.n6
  refine ⟨gT_eq (eqOn_sub e rfl) R.1, ?_, gO_eq (eqOn_sub e rfl) R.2.2.1, gR_eq (eqOn_sub e rfl) R.2.2.2.1, gS_eq (eqOn_sub e rfl) R.2.2.2.2.1, gD_eq (eqOn_sub e rfl) R.2.2.2.2.2.1, gG_eq (eqOn_sub e rfl) R.2.2.2.2.2.2.1, gI_eq (eqOn_sub e rfl) R.2.2.2.2.2.2.2⟩
  obtain ⟨p1, p2, p3, p4, p5, p6, p7⟩ := R.2.1
  refine ⟨p1, p2, p3, by rw [e 3 2 rfl]; exact p4, by rw [e 56 20 rfl]; exact p5, fun p hp i hi => ?_, fun p hp => by rw [e 64 p rfl]; exact p7 p hp⟩
  rw [e 4 _ rfl, lo _ (by omega)]
  exact p6 p hp i hi
/-! fault and text -/
theorem rd0 {v : Wd} {h k : AH} (R : RelV v h) (m6 : k.1 56 6 = nI v.L) (m57 : k.1 57 = h.1 57) : RdR k (f_X6_read 6 1 h) (f_X12_readPeople 56 k) :=
  sim_ppl R.L160 (fun j hj => ⟨(R.1.2.2.2 j hj).1, (R.1.2.2.2 j hj).2.1⟩) R.cL (fun j hj => (R.1.2.2.2 j hj).2.2.1) m6 (fun j hj => by
    have := (R.1.2.2.2 j hj).2.2.2
    rw [Nat.zero_add] at this
    rw [m57]
    exact this)
theorem rd1 {v : Wd} {h k : AH} (R : RelV v h) (m57 : k.1 57 = h.1 57) : ∃ r hc' hm' rem, f_X8_read 9 h = some (r, hc') ∧ f_X12_goThrough 56 57 0 (nI v.L) k = some hm' ∧ hm'.1 56 11 = r ∧ (r = -1 → cC rem hc' ∧ rem.length ≤ 161) := by
  have L160 := R.L160
  have my : mY v.tx v.L 57 0 k := ⟨R.L160, fun j hj => ⟨(R.1.2.2.2 j hj).1, (R.1.2.2.2 j hj).2.1⟩, ⟨rfl, by decide, by decide, by decide⟩, by rw [an_57]; omega, by rw [an_57]; omega, fun j hj => by rw [m57]; exact (R.1.2.2.2 j hj).2.2.2⟩
  obtain ⟨r, hc, hm, rem, e1, e2, e3, _, e5⟩ := sim_read (lt := fun i => k.1 60 (lch i)) (fun j hj => (R.1.2.2.2 j hj).2.2.1) R.cL my (fun _ _ => rfl)
  exact ⟨r, hc, hm, rem, e1, e2, e3, fun z => ⟨(e5 z).1, (e5 z).2.1⟩⟩
theorem n01 {x : Int32} (h0 : x ≠ 0) (h1 : x ≠ 1) : ¬ (¬ x < 0 ∧ x ≤ 1) := by
  rintro ⟨a, b⟩
  rw [Int32.lt_iff_toInt_lt] at a
  rw [Int32.le_iff_toInt_le] at b
  have z0 : (0 : Int32).toInt = 0 := rfl
  have z1 : (1 : Int32).toInt = 1 := rfl
  rw [z0] at a
  rw [z1] at b
  have : x.toInt = 0 ∨ x.toInt = 1 := by omega
  rcases this with q | q
  · exact h0 (Int32.toInt_inj.mp (by rw [q]; rfl))
  · exact h1 (Int32.toInt_inj.mp (by rw [q]; rfl))
theorem is01_0 : decide (¬ (0 : Int32) < 0 ∧ (0 : Int32) ≤ 1) = true := by decide
theorem is01_1 : decide (¬ (1 : Int32) < 0 ∧ (1 : Int32) ≤ 1) = true := by decide
theorem g2 : G2 Rel := by
  intro h ⟨v, R⟩ a1
  by_cases c0 : a1 = 0
  · subst c0
    obtain ⟨r, hc, _, e1, _⟩ := rd0 R R.mL rfl
    have f1 : Agr W_X6_read_i6_1 h hc := w_f_X6_read_i6_1 _ _ e1
    have R1 : RelV v hc := rel_agr f1 rfl R
    have R2 := R1.thr (x := 0)
    obtain ⟨r', hc', hm, e1', e2, e3, lo, _⟩ := rd0 (k := sI hc 56 0 0) R R2.mL (agr_cell f1 57 rfl)
    rw [e1] at e1'
    have er : r = r' := congrArg Prod.fst (Option.some.inj e1')
    have f2 : Agr W_X12_readPeople_i56 (sI hc 56 0 0) hm := w_f_X12_readPeople_i56 _ _ e2
    refine ⟨r, hc, hm, ?_, ?_, v, rel_61 f2 lo rfl R2⟩
    · unfold f_X11_fault
      rw [if_pos rfl, rv_0_2, rv_0_0, e1, ob_some]
    · unfold f_X12_fault f_X12_fault_42
      rw [nm_id, e_isIn01, ob_some, is01_0, zi, if_pos rfl, if_pos rfl, e2, ov_some, e3, er]
  · by_cases c1 : a1 = 1
    · subst c1
      obtain ⟨r, hc, _, _, e1, _⟩ := rd1 (k := h) R rfl
      have f1 : Agr W_X8_read_i9 h hc := w_f_X8_read_i9 _ _ e1
      have R1 : RelV v hc := rel_agr f1 rfl R
      have R2 := R1.thr (x := 0)
      obtain ⟨r', hc', hm, _, e1', e2, e3, _⟩ := rd1 (k := sI hc 56 0 0) R (agr_cell f1 57 rfl)
      rw [e1] at e1'
      have er : r = r' := congrArg Prod.fst (Option.some.inj e1')
      have f2 : Agr W_X12_goThrough_i56_57 (sI hc 56 0 0) hm := w_f_X12_goThrough_i56_57 _ _ _ _ e2
      refine ⟨r, hc, hm, ?_, ?_, v, rel_agr f2 rfl R2⟩
      · unfold f_X11_fault f_X11_fault_33
        rw [if_neg (by decide), if_pos rfl, rv_0_3, e1, ob_some]
      · unfold f_X12_fault f_X12_fault_42
        rw [nm_id, e_isIn01, ob_some, is01_1, zi, if_pos rfl, if_neg (by decide), rv_56_1, R2.mL, e2, ov_some, e3, er]
    · refine ⟨-2, h, sI h 56 0 0, ?_, ?_, v, R.thr⟩
      · unfold f_X11_fault f_X11_fault_33
        rw [if_neg c0, if_neg c1]
      · unfold f_X12_fault
        rw [nm_id, e_isIn01, ob_some, decide_eq_false (n01 c0 c1), zi, if_neg (by decide)]
/-! text: a rule -/
theorem rul_cong {cl : Nat} {co : Nat → Int32} {ml ml' : Int32} {ms ms' : Nat → Int32} {b : Nat} (e1 : ml' = ml) (e2 : ∀ j, j < 160 → ms' (b + j) = ms (b + j)) (R : RulOk cl co ml ms b) : RulOk cl co ml' ms' b := by
  obtain ⟨g, g', L, t, a1, a2, a3, a4, a5, a6, a7⟩ := R
  refine ⟨g, g', L, t, a1, a2, a3, a4, fun j hj => ?_, by rw [e1]; exact a6, a7⟩
  obtain ⟨b1, b2, b3, b4⟩ := a5 j hj
  exact ⟨b1, b2, b3, by rw [e2 j (by omega)]; exact b4⟩
theorem sCp_c {h : AH} {a b : Nat} {n k j : Nat} (hn : n < 2 ^ 31) : (sCp h a 0 b 0 (nI n)).1 k j = if k = b ∧ j < n then h.1 a j else h.1 k j := by
  show (if k = b then va_cpy (h.1 a) (h.1 b) (0 : Int32).toNatClampNeg (0 : Int32).toNatClampNeg (nI n).toNatClampNeg j else h.1 k j) = _
  rw [nI_clamp hn, show (0 : Int32).toNatClampNeg = 0 from rfl]
  by_cases c : k = b
  · rw [if_pos c]
    unfold va_cpy
    by_cases d : j < n
    · rw [if_pos ⟨Nat.zero_le _, by omega⟩, if_pos ⟨c, d⟩, Nat.zero_add, Nat.sub_zero]
    · rw [if_neg (fun w => d (by have := w.2; omega)), if_neg (fun w => d w.2), c]
  · rw [if_neg c, if_neg (fun w => c w.1)]
theorem rfR : ∀ r, r < 4 → rf 11 r = 12 + 3 * r ∧ rf (12 + 3 * r) 0 = 13 + 3 * r ∧ an (13 + 3 * r) = 161 := by decide
theorem an_11' : an 11 = 4 := rfl
def hRule (hc : AH) (r cl : Nat) : AH := sI (sI (sCp (sI hc (12 + 3 * r) 2 (nI cl)) 10 0 (13 + 3 * r) 0 (nI cl)) 0 5 (nI (r + 1))) 1 1 0
theorem e_takeRule {hc : AH} {r cl : Nat} (hr : r < 4) (hcl : cl ≤ 161) (h5 : hc.1 0 5 = nI r) (h9 : hc.1 9 2 = nI cl) : f_X11_takeRule 0 hc = some (nI r, hRule hc r cl) := by
  obtain ⟨q1, q2, q3⟩ := rfR r hr
  unfold f_X11_takeRule f_X7_keep
  have s2 : (sI hc (12 + 3 * r) 2 (nI cl)).1 (12 + 3 * r) 2 = nI cl := sI_s ..
  have s5 : (sCp (sI hc (12 + 3 * r) 2 (nI cl)) 10 0 (13 + 3 * r) 0 (nI cl)).1 0 5 = nI r := by
    rw [sCp_c (by omega), if_neg (fun w => by omega), sI_n (Or.inl (by omega))]
    exact h5
  rw [rv_0_4, rv_0_3, rv_0_0, h5, an_11', og_ix hr (by omega), nI_clamp (by omega), q1, h9, nm_id, s2, q2, q3, show rf 9 1 = 10 from rfl, show an 10 = 161 from rfl, og_t, nm_id, ov_some, s5, nm_id, nm_id, nI_1]
  · show some (nI (r + 1) - 1, _) = _
    rw [nI_pred]
    rfl
  · unfold cok
    rw [decide_eq_true_eq, nI_clamp (by omega), show (0 : Int32).toNatClampNeg = 0 from rfl]
    exact ⟨by decide, by decide, nI_pos (by omega), by omega, by omega⟩
def WRl : List (Nat × Nat) := (0, 5) :: (1, 1) :: (12, 2) :: (13, 1000) :: (15, 2) :: (16, 1000) :: (18, 2) :: (19, 1000) :: (21, 2) :: (22, 1000) :: []
theorem a_hRule {hc : AH} {r cl : Nat} (hr : r < 4) : Agr WRl hc (hRule hc r cl) := by
  unfold hRule
  match r, hr with
  | 0, _ => exact agr_sI (agr_sI (agr_sA (agr_sI (agr_refl hc) rfl) (fun _ => rfl)) rfl) rfl
  | 1, _ => exact agr_sI (agr_sI (agr_sA (agr_sI (agr_refl hc) rfl) (fun _ => rfl)) rfl) rfl
  | 2, _ => exact agr_sI (agr_sI (agr_sA (agr_sI (agr_refl hc) rfl) (fun _ => rfl)) rfl) rfl
  | 3, _ => exact agr_sI (agr_sI (agr_sA (agr_sI (agr_refl hc) rfl) (fun _ => rfl)) rfl) rfl
theorem hRule_c {hc : AH} {r cl : Nat} {k j : Nat} (hcl : cl ≤ 161) (hk : 2 ≤ k) : (hRule hc r cl).1 k j = if k = 13 + 3 * r ∧ j < cl then hc.1 10 j else if k = 12 + 3 * r ∧ j = 2 then nI cl else hc.1 k j := by
  unfold hRule
  rw [sI_n (Or.inl (by omega)), sI_n (Or.inl (by omega)), sCp_c (by omega)]
  by_cases c : k = 13 + 3 * r ∧ j < cl
  · rw [if_pos c, if_pos c, sI_n (Or.inl (by omega))]
  · rw [if_neg c, if_neg c]
    by_cases d : k = 12 + 3 * r ∧ j = 2
    · rw [if_pos d, d.1, d.2, sI_s]
    · rw [if_neg d]
      by_cases d1 : k = 12 + 3 * r
      · rw [sI_n (Or.inr (fun w => d ⟨d1, w⟩))]
      · rw [sI_n (Or.inl d1)]
theorem nar_b : ∀ x, x < 256 → vp_nar .byte (bys x) = bys x := by decide +kernel
def W59 : List (Nat × Nat) := (56, 7) :: (58, 1000) :: (59, 1000) :: []
theorem e_text56 {t : Nat → Nat} {L r : Nat} {g0 : AH} (hL : L ≤ 160) (hr : r < 4) (h7 : g0.1 56 7 = nI r) (tx : ∀ j, j < L → t j < 256 ∧ g0.1 57 j = bys (t j)) : ∃ h', f_X12_text_56 FU 56 (nI L) 0 g0 = some (nI r, h') ∧ Agr W59 g0 h' ∧ h'.1 56 7 = nI (r + 1) ∧ h'.1 59 r = nI L ∧ (∀ q, q ≠ r → h'.1 59 q = g0.1 59 q) ∧ (∀ j, j < L → h'.1 58 (160 * r + j) = bys (t j)) ∧ ∀ j, j < 160 * r → h'.1 58 j = g0.1 58 j := by
  refine lp (fun f i g => ∃ h', f_X12_text_56 f 56 (nI L) (nI i) g = some (nI r, h') ∧ Agr W59 g0 h' ∧ h'.1 56 7 = nI (r + 1) ∧ h'.1 59 r = nI L ∧ (∀ q, q ≠ r → h'.1 59 q = g0.1 59 q) ∧ (∀ j, j < L → h'.1 58 (160 * r + j) = bys (t j)) ∧ ∀ j, j < 160 * r → h'.1 58 j = g0.1 58 j) (fun i g => Agr ((58, 1000) :: []) g0 g ∧ (∀ j, j < i → g.1 58 (160 * r + j) = bys (t j)) ∧ ∀ j, j < 160 * r → g.1 58 j = g0.1 58 j) L (by omega) ?_ ?_ ⟨agr_refl _, fun j hj => absurd hj (by omega), fun _ _ => rfl⟩
  · rintro f g ⟨a, g1, g2⟩
    have k7 : g.1 56 7 = nI r := by rw [agr_cell a 56 rfl]; exact h7
    have s7 : (sI g 59 r (nI L)).1 56 7 + 1 = nI (r + 1) := by
      show g.1 56 7 + 1 = _
      rw [k7, nI_1]
    have s8 : (sI (sI g 59 r (nI L)) 56 7 (nI (r + 1))).1 56 7 - 1 = nI r := nI_pred r
    rw [f_X12_text_56, if_pos (by rw [nI_leI (by omega) (by omega)]; omega), k7, rv_56_3, show an 59 = 4 from rfl, og_ix hr (by omega), nI_clamp (by omega), nm_id, s7, nm_id, s8]
    refine ⟨_, rfl, agr_sI (agr_sI (agr_up a rfl) rfl) rfl, rfl, ?_, fun q hq => ?_, g1, g2⟩
    · show (sI g 59 r (nI L)).1 59 r = _
      rw [sI_s]
    · show (sI g 59 r (nI L)).1 59 q = _
      rw [sI_n (Or.inr hq), agr_cell a 59 rfl]
  · rintro f i g hi ⟨a, g1, g2⟩ K
    have k7 : g.1 56 7 = nI r := by rw [agr_cell a 56 rfl]; exact h7
    have k57 : g.1 57 i = bys (t i) := by rw [agr_cell a 57 rfl]; exact (tx i hi).2
    rw [f_X12_text_56, if_neg (by rw [nI_leI (by omega) (by omega)]; omega), rv_56_1, rv_56_2, an_57, an_58, k7, show (160 : Int32) * nI r = nI (r * 160) from k_mul' r 160, nI_add, og_ix (by omega) (by omega), og_ix (by omega) (by omega), nI_clamp (by omega), nI_clamp (by omega), k57, nar_b _ (tx i hi).1, nm_id, nm_id, nI_1]
    refine K _ ⟨agr_sI a rfl, fun j hj => ?_, fun j hj => ?_⟩
    · by_cases e : j = i
      · subst e
        rw [show r * 160 + j = 160 * r + j by omega, sI_s]
      · rw [sI_n (Or.inr (by omega))]
        exact g1 j (by omega)
    · rw [sI_n (Or.inr (by omega))]
      exact g2 j hj

def WTx : List (Nat × Nat) := (0, 5) :: (1, 1) :: (1, 2) :: (9, 2) :: (10, 1000) :: (12, 2) :: (13, 1000) :: (15, 2) :: (16, 1000) :: (18, 2) :: (19, 1000) :: (21, 2) :: (22, 1000) :: (56, 0) :: (56, 6) :: (56, 7) :: (56, 8) :: (56, 9) :: (56, 10) :: (56, 11) :: (56, 12) :: (56, 13) :: (56, 14) :: (56, 18) :: (58, 1000) :: (59, 1000) :: (201, 0) :: []
def WMt : List (Nat × Nat) := (56, 0) :: (56, 6) :: (56, 7) :: (56, 8) :: (56, 9) :: (56, 10) :: (56, 11) :: (56, 12) :: (56, 13) :: (56, 14) :: (56, 18) :: (58, 1000) :: (59, 1000) :: (201, 0) :: []
theorem text1 {v : Wd} {h : AH} (R : RelV v h) : ∃ r h1 h2, f_X11_text 0 1 h = some (r, h1) ∧ f_X12_text 56 1 h1 = some (r, h2) ∧ Rel h2 := by
  have rc4 := R.rc4
  have L160 := R.L160
  by_cases full : v.rc = 4
  · have R2 := R.thr (x := 0)
    refine ⟨-1, h, sI h 56 0 0, ?_, ?_, v, R2⟩
    · unfold f_X11_text f_X11_text_24 f_X11_text_53
      rw [if_neg (by decide), if_pos rfl, R.crc, full, if_pos (by decide)]
    · unfold f_X12_text f_X12_text_37
      rw [nm_id, e_isIn01, ob_some, is01_1, zi, if_pos rfl, if_pos rfl, R2.mrc, full, if_pos (show nI 4 = 4 from rfl)]
  · have lt4 : v.rc < 4 := by omega
    have n4 : ¬ (4 : Int32) ≤ nI v.rc := by
      rw [show (4 : Int32) = nI 4 from rfl, nI_leI (by decide) (by omega)]
      omega
    have n4' : ¬ nI v.rc = (4 : Int32) := by
      rw [show (4 : Int32) = nI 4 from rfl, nI_eq (by omega) (by decide)]
      exact full
    obtain ⟨r, hc, _, rem, e1, _, _, e4⟩ := rd1 (k := h) R rfl
    have f1 : Agr W_X8_read_i9 h hc := w_f_X8_read_i9 _ _ e1
    have R1 : RelV v hc := rel_agr f1 rfl R
    by_cases z : r = -1
    · obtain ⟨C, len⟩ := e4 z
      subst z
      have tk := e_takeRule lt4 len R1.crc C.1
      have f2 : Agr WRl hc (hRule hc v.rc rem.length) := a_hRule lt4
      generalize hh1 : hRule hc v.rc rem.length = h1 at tk f2
      have k6 : h1.1 56 6 = nI v.L := by rw [agr_cell f2 56 rfl]; exact R1.mL
      have k7 : h1.1 56 7 = nI v.rc := by rw [agr_cell f2 56 rfl]; exact R1.mrc
      have k57 : h1.1 57 = h.1 57 := by rw [agr_cell f2 57 rfl, agr_cell f1 57 rfl]
      obtain ⟨r', hc', hm, _, e1', e2, e3, _⟩ := rd1 (k := sI (sI h1 56 0 0) 56 0 0) R k57
      rw [e1] at e1'
      have er : -1 = r' := congrArg Prod.fst (Option.some.inj e1')
      have f4 : Agr W_X12_goThrough_i56_57 (sI (sI h1 56 0 0) 56 0 0) hm := w_f_X12_goThrough_i56_57 _ _ _ _ e2
      have m6 : hm.1 56 6 = nI v.L := by rw [f4.1 56 6 rfl]; exact k6
      have m7 : hm.1 56 7 = nI v.rc := by rw [f4.1 56 7 rfl]; exact k7
      have m57 : hm.1 57 = h.1 57 := by rw [agr_cell f4 57 rfl]; exact k57
      obtain ⟨H, t1, t2, t3, t4, t5, t6, t7⟩ := e_text56 (t := v.tx) (g0 := sI hm 56 6 0) L160 lt4 m7 (fun j hj => ⟨(R.1.2.2.2 j hj).2.1, by
        show hm.1 57 j = _
        rw [m57]
        have := (R.1.2.2.2 j hj).2.2.2
        rw [Nat.zero_add] at this
        exact this⟩)
      refine ⟨nI v.rc, h1, H, ?_, ?_, ?_⟩
      · unfold f_X11_text f_X11_text_24
        rw [if_neg (by decide), if_pos rfl, R.crc, if_neg n4, rv_0_3, e1, ob_some, if_pos rfl, tk, ob_some]
      · unfold f_X12_text f_X12_text_28 f_X12_fault f_X12_fault_42
        have s7 : (sI h1 56 0 0).1 56 7 = nI v.rc := k7
        have s6 : (sI (sI h1 56 0 0) 56 0 0).1 56 6 = nI v.L := k6
        rw [nm_id, e_isIn01, ob_some, is01_1, zi, if_pos rfl, if_pos rfl, s7, if_neg n4', nm_id, e_isIn01, ob_some, is01_1, zi, if_pos rfl, if_neg (by decide), rv_56_1, s6, e2, ov_some, ob_some, e3, ← er, if_pos rfl, nm_id, nm_id, if_pos rfl, m6, t1]
      · have B : Agr WMt h1 H := agr_tr (agr_sI (agr_tr (agr_sI (agr_sI (agr_refl h1) rfl) rfl) f4 rfl) rfl) t2 rfl
        have A : Agr WTx h H := agr_tr (agr_tr (agr_up f1 rfl) f2 rfl) B rfl
        have c58 : h1.1 58 = h.1 58 := by rw [agr_cell f2 58 rfl, agr_cell f1 58 rfl]
        have c59 : h1.1 59 = h.1 59 := by rw [agr_cell f2 59 rfl, agr_cell f1 59 rfl]
        have d58 : hm.1 58 = h.1 58 := by rw [agr_cell f4 58 rfl]; exact c58
        have d59 : hm.1 59 = h.1 59 := by rw [agr_cell f4 59 rfl]; exact c59
        have low : ∀ r, r < 4 → (H.1 (12 + 3 * r) = h1.1 (12 + 3 * r) ∧ H.1 (13 + 3 * r) = h1.1 (13 + 3 * r)) ∧ hc.1 (12 + 3 * r) = h.1 (12 + 3 * r) ∧ hc.1 (13 + 3 * r) = h.1 (13 + 3 * r) := by
          intro r hr
          match r, hr with
          | 0, _ => exact ⟨⟨agr_cell B 12 rfl, agr_cell B 13 rfl⟩, agr_cell f1 12 rfl, agr_cell f1 13 rfl⟩
          | 1, _ => exact ⟨⟨agr_cell B 15 rfl, agr_cell B 16 rfl⟩, agr_cell f1 15 rfl, agr_cell f1 16 rfl⟩
          | 2, _ => exact ⟨⟨agr_cell B 18 rfl, agr_cell B 19 rfl⟩, agr_cell f1 18 rfl, agr_cell f1 19 rfl⟩
          | 3, _ => exact ⟨⟨agr_cell B 21 rfl, agr_cell B 22 rfl⟩, agr_cell f1 21 rfl, agr_cell f1 22 rfl⟩
        have g3 := gO_eq (agr_on A rfl) R.2.2.1
        refine rel_mk (L := 0) (n := v.n) (rc := v.rc + 1) (E := v.E) (S := v.S) (tx := v.tx) (it := v.it) (ro := v.ro) (has := v.has) (pl := v.pl) (wo := v.wo) (cl := fun r => if r = v.rc then rem.length else v.cl r) (co := fun r j => if r = v.rc then rem.getD j 0 else v.co r j) (di := v.di) (se := v.se) (sw := v.sw) (ss := v.ss) (im := v.im) (kE := v.kE) (kS := v.kS) (kh := v.kh) (kp := v.kp) (kw := v.kw) ?_ (gP_eq (agr_on A rfl) R.2.1) ?_ ?_ (gS_eq (agr_on A rfl) R.2.2.2.2.1) (gD_eq (agr_on A rfl) R.2.2.2.2.2.1) (gG_eq (agr_on A rfl) R.2.2.2.2.2.2.1) (gI_eq (agr_on A rfl) R.2.2.2.2.2.2.2)
        · refine ⟨Nat.zero_le _, ?_, ?_, fun j hj => absurd hj (by omega)⟩
          · rw [agr_cell B 1 rfl, ← hh1]
            rfl
          · rw [t2.1 56 6 rfl]
            rfl
        · intro p hp
          obtain ⟨b1, b2, b3⟩ := g3 p hp
          exact ⟨b1.elim Or.inl (fun ⟨r, w1, w2⟩ => Or.inr ⟨r, by omega, w2⟩), b2, b3⟩
        · refine ⟨by omega, ?_, t3, fun r hr => ?_⟩
          · rw [agr_cell B 0 rfl, ← hh1]
            rfl
          · obtain ⟨⟨l1, l2⟩, l3, l4⟩ := low r (by omega)
            rw [l1, l2, ← hh1]
            dsimp only
            by_cases e : r = v.rc
            · subst e
              rw [if_pos rfl]
              refine ⟨?_, fun j hj => ?_, h, hc, v.L, v.tx, L160, len, e1, R.cL, fun j hj => ?_, t4, C.1, fun j hj => ?_⟩
              · rw [hRule_c len (by omega), if_neg (fun w => by omega), if_pos ⟨rfl, rfl⟩]
              · rw [hRule_c len (by omega), if_pos ⟨rfl, hj⟩, if_pos rfl]
                exact C.2 j hj
              · obtain ⟨b1, b2, b3, b4⟩ := R.1.2.2.2 j hj
                exact ⟨b1, b2, b3, t6 j hj⟩
              · dsimp only
                rw [if_pos rfl]
                exact C.2 j hj
            · obtain ⟨o1, o2, o3⟩ := R.2.2.2.1.2.2.2 r (by omega)
              rw [if_neg e]
              refine ⟨?_, fun j hj => ?_, ?_⟩
              · rw [hRule_c len (by omega), if_neg (fun w => by omega), if_neg (fun w => e (by omega)), l3]
                exact o1
              · rw [hRule_c len (by omega), if_neg (fun w => e (by omega)), if_neg (fun w => by omega), l4, if_neg e]
                exact o2 j hj
              · have hco : (fun j => if r = v.rc then rem.getD j 0 else v.co r j) = v.co r := by
                  funext j
                  rw [if_neg e]
                rw [hco]
                refine rul_cong ?_ (fun j hj => ?_) o3
                · rw [t5 r e]
                  show hm.1 59 r = _
                  rw [d59]
                · rw [t7 _ (by omega)]
                  show hm.1 58 _ = _
                  rw [d58]
    · have R2 := (R1.thr (x := 0)).thr (x := 0)
      obtain ⟨r', hc', hm, _, e1', e2, e3, _⟩ := rd1 (k := sI (sI hc 56 0 0) 56 0 0) R (agr_cell f1 57 rfl)
      rw [e1] at e1'
      have er : r = r' := congrArg Prod.fst (Option.some.inj e1')
      have f4 : Agr W_X12_goThrough_i56_57 (sI (sI hc 56 0 0) 56 0 0) hm := w_f_X12_goThrough_i56_57 _ _ _ _ e2
      refine ⟨-1, hc, hm, ?_, ?_, v, rel_agr f4 rfl R2⟩
      · unfold f_X11_text f_X11_text_24 f_X11_text_53
        rw [if_neg (by decide), if_pos rfl, R.crc, if_neg n4, rv_0_3, e1, ob_some, if_neg z]
      · unfold f_X12_text f_X12_text_28 f_X12_fault f_X12_fault_42 f_X12_text_37
        rw [nm_id, e_isIn01, ob_some, is01_1, zi, if_pos rfl, if_pos rfl, (R1.thr (x := 0)).mrc, if_neg n4', nm_id, e_isIn01, ob_some, is01_1, zi, if_pos rfl, if_neg (by decide), rv_56_1, R2.mL, e2, ov_some, ob_some, e3, ← er, if_neg z]

/-! text: people -/
theorem e_copyP (hc : AH) : ∃ h', f_X6_copy 3 6 hc = some h' ∧ (∀ j, j < 42 → h'.1 4 j = hc.1 7 j) ∧ (∀ j, j < 6 → h'.1 5 j = -1) ∧ h'.1 3 2 = hc.1 6 2 ∧ Agr W_X6_copy_i3_6 hc h' := by
  obtain ⟨h', e, f, a⟩ := e_fill (k := 5) (by decide) (-1) (sCp hc 7 0 4 0 (nI 42))
  have e6 : h'.1 6 2 = hc.1 6 2 := by
    rw [agr_cell a 6 rfl]
    rfl
  have E : f_X6_copy 3 6 hc = some (sI h' 3 2 (hc.1 6 2)) := by
    unfold f_X6_copy
    rw [rv_3_0, rv_3_1, rv_6_0, show Int32.ofNat (an 4) = nI 42 from rfl, og_t (by decide), nm_id, e, ov_some, nm_id, e6]
  refine ⟨_, E, fun j hj => ?_, fun j hj => f j hj, rfl, w_f_X6_copy_i3_6 _ _ E⟩
  show h'.1 4 j = _
  rw [agr_cell a 4 rfl, sCp_c (by omega), if_pos ⟨rfl, hj⟩]
theorem e_beginP {m : Nat} {g0 : AH} (hm : m ≤ 6) (h3 : g0.1 3 2 = nI m) : ∃ h', f_X9_begin 24 3 g0 = some h' ∧ Agr W_X9_begin_i24_3 g0 h' ∧ ∀ j, j < 6 → h'.1 25 j = (if j < m then nI j else -1) ∧ h'.1 26 j = (if j < m then nI j else -1) ∧ h'.1 27 j = if j < m then g0.1 4 (j * 7 + 2) else 0 := by
  unfold f_X9_begin
  refine lp (fun f i g => ∃ h', f_X9_begin_2 f 24 3 (nI i) g = some h' ∧ Agr W_X9_begin_i24_3 g0 h' ∧ ∀ j, j < 6 → h'.1 25 j = (if j < m then nI j else -1) ∧ h'.1 26 j = (if j < m then nI j else -1) ∧ h'.1 27 j = if j < m then g0.1 4 (j * 7 + 2) else 0) (fun i g => Agr W_X9_begin_i24_3 g0 g ∧ ∀ j, j < i → g.1 25 j = (if j < m then nI j else -1) ∧ g.1 26 j = (if j < m then nI j else -1) ∧ g.1 27 j = if j < m then g0.1 4 (j * 7 + 2) else 0) 6 (by decide) ?_ ?_ ⟨agr_refl _, fun j hj => absurd hj (by omega)⟩
  · rintro f g ⟨a, q⟩
    rw [f_X9_begin_2, if_pos (by decide)]
    exact ⟨g, rfl, a, q⟩
  · rintro f i g hi ⟨a, q⟩ K
    have k3 : g.1 3 2 = nI m := by rw [agr_cell a 3 rfl]; exact h3
    have k4 : g.1 4 = g0.1 4 := agr_cell a 4 rfl
    rw [f_X9_begin_2, if_neg (by rw [show (6 : Int32) = nI 6 from rfl, nI_leI (by decide) (by omega)]; omega), k3]
    have fin : ∀ x y z : Int32, x = (if i < m then nI i else -1) → y = (if i < m then nI i else -1) → z = (if i < m then g0.1 4 (i * 7 + 2) else 0) → Agr W_X9_begin_i24_3 g0 (sI (sI (sI g 25 i x) 26 i y) 27 i z) ∧ ∀ j, j < i + 1 → (sI (sI (sI g 25 i x) 26 i y) 27 i z).1 25 j = (if j < m then nI j else -1) ∧ (sI (sI (sI g 25 i x) 26 i y) 27 i z).1 26 j = (if j < m then nI j else -1) ∧ (sI (sI (sI g 25 i x) 26 i y) 27 i z).1 27 j = if j < m then g0.1 4 (j * 7 + 2) else 0 := by
      intro x y z hx hy hz
      refine ⟨agr_sI (agr_sI (agr_sI a rfl) rfl) rfl, fun j hj => ?_⟩
      by_cases e : j = i
      · subst e
        refine ⟨?_, ?_, ?_⟩
        · rw [sI_n (Or.inl (by decide)), sI_n (Or.inl (by decide)), sI_s, hx]
        · rw [sI_n (Or.inl (by decide)), sI_s, hy]
        · rw [sI_s, hz]
      · rw [sI_n (Or.inl (by decide)), sI_n (Or.inl (by decide)), sI_n (Or.inr e), sI_n (Or.inl (by decide)), sI_n (Or.inr e), sI_n (Or.inl (by decide)), sI_n (Or.inr e), sI_n (Or.inl (by decide)), sI_n (Or.inl (by decide))]
        exact q j (by omega)
    by_cases c : m ≤ i
    · have n : ¬ i < m := by omega
      rw [if_pos (by rw [nI_leI (by omega) (by omega)]; exact c)]
      unfold f_X9_begin_21
      rw [if_pos rfl]
      unfold f_X9_begin_36
      rw [rv_24_0, show an 25 = 6 from rfl, og_ix hi (by omega), nm_id, if_pos rfl, nI_clamp (by omega)]
      unfold f_X9_begin_51
      rw [rv_24_1, show an 26 = 6 from rfl, og_ix hi (by omega), nm_id, if_pos rfl, nI_clamp (by omega)]
      unfold f_X9_begin_71
      rw [rv_24_2, show an 27 = 6 from rfl, og_ix hi (by omega), nm_id, nm_id, nI_clamp (by omega), nI_1]
      exact K _ (fin _ _ _ (if_neg n).symm (if_neg n).symm (if_neg n).symm)
    · have n : i < m := by omega
      rw [if_neg (by rw [nI_leI (by omega) (by omega)]; exact c)]
      unfold f_X9_begin_21
      rw [if_neg (by decide)]
      unfold f_X9_begin_36
      rw [rv_24_0, show an 25 = 6 from rfl, og_ix hi (by omega), nm_id, if_neg (by decide), nI_clamp (by omega)]
      unfold f_X9_begin_51
      rw [rv_24_1, show an 26 = 6 from rfl, og_ix hi (by omega), nm_id, if_neg (by decide), nI_clamp (by omega)]
      unfold f_X6_item
      have k4' : (sI (sI g 25 i (nI i)) 26 i (nI i)).1 4 (i * 7 + 2) = g0.1 4 (i * 7 + 2) := by
        rw [sI_n (Or.inl (by decide)), sI_n (Or.inl (by decide)), k4]
      rw [rv_3_0, show an 4 = 42 from rfl, show nI i * 7 = nI (i * 7) from k_mul i 7, show nI (i * 7) + 2 = nI (i * 7 + 2) from nI_add _ 2, og_ix (by omega) (by omega), nI_clamp (by omega), k4', ob_some]
      unfold f_X9_begin_71
      rw [rv_24_2, show an 27 = 6 from rfl, og_ix hi (by omega), nm_id, nm_id, nI_clamp (by omega), nI_1]
      exact K _ (fin _ _ _ (if_pos n).symm (if_pos n).symm (if_pos n).symm)
def W66 : List (Nat × Nat) := (56, 32) :: (56, 50) :: (56, 57) :: (62, 1000) :: (63, 1000) :: (64, 1000) :: (65, 1000) :: (66, 1000) :: []
def W66a : List (Nat × Nat) := (62, 1000) :: (63, 1000) :: (64, 1000) :: (65, 1000) :: (66, 1000) :: []
def md6 (g0 g : AH) (j : Nat) : Prop := g.1 62 j = nI j ∧ g.1 63 j = nI j ∧ g.1 64 j = g0.1 61 (j * 7 + 3) ∧ g.1 65 j = g0.1 61 (j * 7 + 2) ∧ g.1 66 j = -1
theorem e_text154 {m : Nat} {g0 : AH} (h20 : g0.1 56 20 = nI m) : ∃ h', f_X12_text_154 FU 56 0 g0 = some (nI m, h') ∧ Agr W66 g0 h' ∧ (h'.1 56 32 = 0 ∧ h'.1 56 50 = 0 ∧ h'.1 56 57 = 0) ∧ ∀ j, j < 6 → md6 g0 h' j := by
  refine lp (fun f i g => ∃ h', f_X12_text_154 f 56 (nI i) g = some (nI m, h') ∧ Agr W66 g0 h' ∧ (h'.1 56 32 = 0 ∧ h'.1 56 50 = 0 ∧ h'.1 56 57 = 0) ∧ ∀ j, j < 6 → md6 g0 h' j) (fun i g => Agr W66a g0 g ∧ ∀ j, j < i → md6 g0 g j) 6 (by decide) ?_ ?_ ⟨agr_refl _, fun j hj => absurd hj (by omega)⟩
  · rintro f g ⟨a, q⟩
    have k20 : (sI (sI (sI g 56 32 0) 56 50 0) 56 57 0).1 56 20 = nI m := by
      show g.1 56 20 = nI m
      rw [agr_cell a 56 rfl]
      exact h20
    rw [f_X12_text_154, if_pos (by decide), nm_id, nm_id, nm_id, k20]
    exact ⟨_, rfl, agr_sI (agr_sI (agr_sI (agr_up a rfl) rfl) rfl) rfl, ⟨rfl, rfl, rfl⟩, q⟩
  · rintro f i g hi ⟨a, q⟩ K
    have k61 : g.1 61 = g0.1 61 := agr_cell a 61 rfl
    have x3 : (sI (sI g 62 i (nI i)) 63 i (nI i)).1 61 (i * 7 + 3) = g0.1 61 (i * 7 + 3) := by
      rw [sI_n (Or.inl (by decide)), sI_n (Or.inl (by decide)), k61]
    have x2 : (sI (sI (sI g 62 i (nI i)) 63 i (nI i)) 64 i (g0.1 61 (i * 7 + 3))).1 61 (i * 7 + 2) = g0.1 61 (i * 7 + 2) := by
      rw [sI_n (Or.inl (by decide)), sI_n (Or.inl (by decide)), sI_n (Or.inl (by decide)), k61]
    rw [f_X12_text_154, if_neg (by rw [show (6 : Int32) = nI 6 from rfl, nI_leI (by decide) (by omega)]; omega), rv_56_22, rv_56_23, rv_56_24, rv_56_25, rv_56_26, rv_56_19, an_61, show an 62 = 6 from rfl, show an 63 = 6 from rfl, show an 64 = 6 from rfl, show an 65 = 6 from rfl, show an 66 = 6 from rfl, nI_clamp (by omega), og_ix hi (by omega), nm_id, og_ix hi (by omega), nm_id, show (7 : Int32) * nI i = nI (i * 7) from k_mul' i 7, show nI (i * 7) + 3 = nI (i * 7 + 3) from nI_add _ 3, show nI (i * 7) + 2 = nI (i * 7 + 2) from nI_add _ 2, og_ix (by omega) (by omega), og_ix hi (by omega), nI_clamp (by omega), x3, nm_id, og_ix (by omega) (by omega), og_ix hi (by omega), nI_clamp (by omega), x2, nm_id, og_ix hi (by omega), nm_id, nm_id, nI_1]
    refine K _ ⟨agr_sI (agr_sI (agr_sI (agr_sI (agr_sI a rfl) rfl) rfl) rfl) rfl, fun j hj => ?_⟩
    by_cases e : j = i
    · subst e
      refine ⟨?_, ?_, ?_, ?_, ?_⟩
      · rw [sI_n (Or.inl (by decide)), sI_n (Or.inl (by decide)), sI_n (Or.inl (by decide)), sI_n (Or.inl (by decide)), sI_s]
      · rw [sI_n (Or.inl (by decide)), sI_n (Or.inl (by decide)), sI_n (Or.inl (by decide)), sI_s]
      · rw [sI_n (Or.inl (by decide)), sI_n (Or.inl (by decide)), sI_s]
      · rw [sI_n (Or.inl (by decide)), sI_s]
      · rw [sI_s]
    · obtain ⟨q1, q2, q3, q4, q5⟩ := q j (by omega)
      refine ⟨?_, ?_, ?_, ?_, ?_⟩
      · rw [sI_n (Or.inr e), sI_n (Or.inr e), sI_n (Or.inr e), sI_n (Or.inr e), sI_n (Or.inr e)]
        exact q1
      · rw [sI_n (Or.inr e), sI_n (Or.inr e), sI_n (Or.inr e), sI_n (Or.inr e), sI_n (Or.inr e)]
        exact q2
      · rw [sI_n (Or.inr e), sI_n (Or.inr e), sI_n (Or.inr e), sI_n (Or.inr e), sI_n (Or.inr e)]
        exact q3
      · rw [sI_n (Or.inr e), sI_n (Or.inr e), sI_n (Or.inr e), sI_n (Or.inr e), sI_n (Or.inr e)]
        exact q4
      · rw [sI_n (Or.inr e), sI_n (Or.inr e), sI_n (Or.inr e), sI_n (Or.inr e), sI_n (Or.inr e)]
        exact q5
theorem e_text125 {m : Nat} {g0 : AH} (h20 : g0.1 56 20 = nI m) : ∃ h', f_X12_text_125 FU 56 0 g0 = some (nI m, h') ∧ Agr ((61, 1000) :: W66) g0 h' ∧ (h'.1 56 32 = 0 ∧ h'.1 56 50 = 0 ∧ h'.1 56 57 = 0) ∧ (∀ j, j < 42 → h'.1 61 j = g0.1 61 (42 + j)) ∧ ∀ j, j < 6 → md6 h' h' j := by
  refine lp (fun f i g => ∃ h', f_X12_text_125 f 56 (nI i) g = some (nI m, h') ∧ Agr ((61, 1000) :: W66) g0 h' ∧ (h'.1 56 32 = 0 ∧ h'.1 56 50 = 0 ∧ h'.1 56 57 = 0) ∧ (∀ j, j < 42 → h'.1 61 j = g0.1 61 (42 + j)) ∧ ∀ j, j < 6 → md6 h' h' j) (fun i g => Agr ((61, 1000) :: []) g0 g ∧ (∀ j, j < i → g.1 61 j = g0.1 61 (42 + j)) ∧ ∀ j, 42 ≤ j → g.1 61 j = g0.1 61 j) 42 (by decide) ?_ ?_ ⟨agr_refl _, fun j hj => absurd hj (by omega), fun _ _ => rfl⟩
  · rintro f g ⟨a, q, q'⟩
    have k20 : g.1 56 20 = nI m := by
      rw [agr_cell a 56 rfl]
      exact h20
    obtain ⟨h', e, b, c, d⟩ := e_text154 k20
    have k61 : h'.1 61 = g.1 61 := agr_cell b 61 rfl
    rw [f_X12_text_125, if_pos (by decide), e]
    refine ⟨h', rfl, agr_tr (agr_up a rfl) b rfl, c, fun j hj => by rw [k61]; exact q j hj, fun j hj => ?_⟩
    have := d j hj
    unfold md6 at this ⊢
    rw [k61]
    exact this
  · rintro f i g hi ⟨a, q, q'⟩ K
    rw [f_X12_text_125, if_neg (by rw [show (42 : Int32) = nI 42 from rfl, nI_leI (by decide) (by omega)]; omega), rv_56_19, an_61, show (42 : Int32) + nI i = nI (42 + i) from nI_add 42 i, og_ix (by omega) (by omega), og_ix (by omega) (by omega), nI_clamp (by omega), nI_clamp (by omega), q' (42 + i) (by omega), nm_id, nm_id, nI_1]
    refine K _ ⟨agr_sI a rfl, fun j hj => ?_, fun j hj => ?_⟩
    · by_cases e : j = i
      · subst e
        rw [sI_s]
      · rw [sI_n (Or.inr e)]
        exact q j (by omega)
    · rw [sI_n (Or.inr (by omega))]
      exact q' j hj

theorem itHi99 : ∀ k, k < 7 → itHi k ≤ 99 := by decide
def WMp : List (Nat × Nat) := (56, 0) :: (56, 6) :: (56, 8) :: (56, 9) :: (56, 10) :: (56, 11) :: (56, 20) :: (56, 21) :: (61, 1000) :: (201, 0) :: W66
def WTp : List (Nat × Nat) := (1, 2) :: (6, 2) :: (7, 1000) :: (W_X11_takePeople_i0 ++ WMp)
theorem text0 {v : Wd} {h : AH} (R : RelV v h) : ∃ r h1 h2, f_X11_text 0 0 h = some (r, h1) ∧ f_X12_text 56 0 h1 = some (r, h2) ∧ Rel h2 := by
  obtain ⟨r, hc, _, e1, _, _, _, e5⟩ := rd0 R R.mL rfl
  have f1 : Agr W_X6_read_i6_1 h hc := w_f_X6_read_i6_1 _ _ e1
  have R1 : RelV v hc := rel_agr f1 rfl R
  by_cases z : r = -1
  · obtain ⟨m, m2, m6, h62, _, _⟩ := e5 z
    subst z
    obtain ⟨ha, c1, c2, c3, c4, c5⟩ := e_copyP hc
    have k3 : ha.1 3 2 = nI m := by rw [c4, h62]
    obtain ⟨hb, b1, b2, b3⟩ := e_beginP m6 k3
    have s32 : (sI (sI (sI (sI hb 32 2 0) 32 3 0) 0 8 0) 1 1 0).1 3 2 = nI m := by
      show hb.1 3 2 = nI m
      rw [agr_cell b2 3 rfl, k3]
    have T1 : f_X11_takePeople 0 hc = some (nI m, sI (sI (sI (sI hb 32 2 0) 32 3 0) 0 8 0) 1 1 0) := by
      unfold f_X11_takePeople f_X1_clear
      rw [rv_0_1, rv_0_2, rv_0_6, rv_0_9, rv_0_0, c1, ov_some, b1, ov_some, nm_id, nm_id, ov_some, nm_id, nm_id, s32]
    have f2 : Agr W_X11_takePeople_i0 hc (sI (sI (sI (sI hb 32 2 0) 32 3 0) 0 8 0) 1 1 0) := w_f_X11_takePeople_i0 _ _ T1
    generalize hh1 : sI (sI (sI (sI hb 32 2 0) 32 3 0) 0 8 0) 1 1 0 = h1 at s32 T1 f2
    have k6 : h1.1 56 6 = nI v.L := by rw [agr_cell f2 56 rfl]; exact R1.mL
    have k57 : h1.1 57 = h.1 57 := by rw [agr_cell f2 57 rfl, agr_cell f1 57 rfl]
    obtain ⟨r', hc', hm, e1', e2, e3, lo, e5'⟩ := rd0 (k := sI (sI h1 56 0 0) 56 0 0) R k6 k57
    rw [e1] at e1'
    have er : -1 = r' := congrArg Prod.fst (Option.some.inj e1')
    have eh : hc = hc' := congrArg Prod.snd (Option.some.inj e1')
    obtain ⟨m', q2, q6, q62, q21, D⟩ := e5' er.symm
    rw [← eh] at q62 D
    have em : m' = m := by
      rw [h62] at q62
      exact ((nI_eq (by omega) (by omega)).mp q62).symm
    subst em
    have f4 : Agr W_X12_readPeople_i56 (sI (sI h1 56 0 0) 56 0 0) hm := w_f_X12_readPeople_i56 _ _ e2
    obtain ⟨H, t1, t2, t3, t4, t5⟩ := e_text125 (m := m') (g0 := sI (sI hm 56 6 0) 56 20 (nI m')) rfl
    refine ⟨nI m', h1, H, ?_, ?_, ?_⟩
    · unfold f_X11_text
      rw [if_pos rfl, rv_0_2, rv_0_0, e1, ob_some, if_pos rfl, T1, ob_some]
    · unfold f_X12_text f_X12_text_28 f_X12_fault f_X12_fault_42
      have s21 : (sI hm 56 6 0).1 56 21 = nI m' := q21
      rw [nm_id, e_isIn01, ob_some, is01_0, zi, if_pos rfl, if_neg (by decide), nm_id, e_isIn01, ob_some, is01_0, zi, if_pos rfl, if_pos rfl, e2, ov_some, ob_some, e3, ← er, if_pos rfl, nm_id, nm_id, if_neg (by decide), s21, nm_id, t1]
    · have B : Agr WMp h1 H := agr_tr (agr_sI (agr_sI (agr_tr (agr_sI (agr_sI (agr_refl h1) rfl) rfl) f4 rfl) rfl) rfl) t2 rfl
      have A : Agr WTp h H := agr_tr (agr_tr (agr_up f1 rfl) f2 rfl) B rfl
      have IT : ∀ q, q < m' → ∀ k, k < 7 → (itLo k ≤ (hc.1 7 (q * 7 + k)).toNatClampNeg ∧ (hc.1 7 (q * 7 + k)).toNatClampNeg ≤ itHi k) ∧ hc.1 7 (q * 7 + k) = nI (hc.1 7 (q * 7 + k)).toNatClampNeg ∧ hm.1 61 (42 + (q * 7 + k)) = nI (hc.1 7 (q * 7 + k)).toNatClampNeg := by
        intro q hq k hk
        obtain ⟨x, x1, x2, x3, x4⟩ := D q hq k hk
        have := itHi99 k hk
        rw [x3, nI_clamp (by omega)]
        exact ⟨⟨x1, x2⟩, rfl, x4⟩
      have h4 : ∀ j, j < 42 → H.1 4 j = hc.1 7 j := by
        intro j hj
        rw [agr_cell B 4 rfl, ← hh1]
        show hb.1 4 j = _
        rw [agr_cell b2 4 rfl]
        exact c2 j hj
      have h61 : ∀ j, j < 42 → H.1 61 j = hm.1 61 (42 + j) := fun j hj => t4 j hj
      have hB : ∀ j, j < 6 → H.1 25 j = (if j < m' then nI j else -1) ∧ H.1 26 j = (if j < m' then nI j else -1) ∧ H.1 27 j = if j < m' then ha.1 4 (j * 7 + 2) else 0 := by
        intro j hj
        rw [agr_cell B 25 rfl, agr_cell B 26 rfl, agr_cell B 27 rfl, ← hh1]
        exact b3 j hj
      refine rel_mk (L := 0) (n := m') (rc := v.rc) (E := 0) (S := 0) (tx := v.tx) (it := fun q k => (hc.1 7 (q * 7 + k)).toNatClampNeg) (ro := fun _ => -1) (has := fun p => nI p) (pl := fun p => nI p) (wo := fun q => (hc.1 7 (q * 7 + 2)).toNatClampNeg) (cl := v.cl) (co := v.co) (di := v.di) (se := v.se) (sw := v.sw) (ss := v.ss) (im := false) (kE := v.kE) (kS := v.kS) (kh := v.kh) (kp := v.kp) (kw := v.kw) ?_ ?_ ?_ (gR_eq (agr_on A rfl) R.2.2.2.1) ?_ ?_ ?_ ?_
      · refine ⟨Nat.zero_le _, ?_, ?_, fun j hj => absurd hj (by omega)⟩
        · rw [agr_cell B 1 rfl, ← hh1]
          rfl
        · rw [t2.1 56 6 rfl]
          rfl
      · refine ⟨Or.inr m2, m6, fun p hp i hi => (IT p hp i hi).1, ?_, ?_, fun p hp i hi => ⟨?_, ?_⟩, fun p hp => ?_⟩
        · rw [agr_cell B 3 rfl]
          exact s32
        · rw [t2.1 56 20 rfl]
          rfl
        · rw [h4 _ (by omega)]
          exact (IT p hp i hi).2.1
        · rw [h61 _ (by omega)]
          exact (IT p hp i hi).2.2
        · rw [(t5 p (by omega)).2.2.1, h61 _ (by omega)]
          exact (IT p hp 3 (by omega)).2.2
      · intro p hp
        refine ⟨Or.inl rfl, ?_, (t5 p (by omega)).2.2.2.2⟩
        rw [agr_cell B 5 rfl, ← hh1]
        show hb.1 5 p = _
        rw [agr_cell b2 5 rfl]
        exact c3 p (by omega)
      · refine ⟨⟨fun p hp => Or.inr ⟨p, hp, rfl, rfl⟩, fun q hq => Or.inl ⟨q, hq, rfl, rfl⟩, fun q hq => Nat.le_trans (IT q hq 2 (by omega)).1.2 (itHi99 2 (by omega))⟩, fun p hp => ⟨⟨?_, ?_, ?_⟩, (t5 p (by omega)).1, (t5 p (by omega)).2.1, ?_⟩, fun p hp h6 => ?_⟩
        · rw [(hB p (by omega)).1, if_pos hp]
        · rw [(hB p (by omega)).2.1, if_pos hp]
        · rw [(hB p (by omega)).2.2, if_pos hp, c2 _ (by omega)]
          exact (IT p hp 2 (by omega)).2.1
        · rw [(t5 p (by omega)).2.2.2.1, h61 _ (by omega)]
          exact (IT p hp 2 (by omega)).2.2
        · rw [(hB p h6).2.1, if_neg (by omega), if_neg (by omega)]
      · refine ⟨Nat.zero_le _, ?_, t3.1, fun e he => absurd he (by omega)⟩
        rw [agr_cell B 32 rfl, ← hh1]
        rfl
      · refine ⟨Nat.zero_le _, ?_, t3.2.1, fun e he => absurd he (by omega)⟩
        rw [agr_cell B 32 rfl, ← hh1]
        rfl
      · refine ⟨?_, t3.2.2, fun w => absurd w (by decide)⟩
        rw [agr_cell B 0 rfl, ← hh1]
        rfl
  · have R2 := (R1.thr (x := 0)).thr (x := 0)
    obtain ⟨r', hc', hm, e1', e2, e3, lo, _⟩ := rd0 (k := sI (sI hc 56 0 0) 56 0 0) R R2.mL (agr_cell f1 57 rfl)
    rw [e1] at e1'
    have er : r = r' := congrArg Prod.fst (Option.some.inj e1')
    have f4 : Agr W_X12_readPeople_i56 (sI (sI hc 56 0 0) 56 0 0) hm := w_f_X12_readPeople_i56 _ _ e2
    refine ⟨-1, hc, hm, ?_, ?_, v, rel_61 f4 lo rfl R2⟩
    · unfold f_X11_text f_X11_text_24 f_X11_text_53
      rw [if_pos rfl, rv_0_2, rv_0_0, e1, ob_some, if_neg z, if_neg (by decide)]
    · unfold f_X12_text f_X12_text_28 f_X12_fault f_X12_fault_42 f_X12_text_37
      rw [nm_id, e_isIn01, ob_some, is01_0, zi, if_pos rfl, if_neg (by decide), nm_id, e_isIn01, ob_some, is01_0, zi, if_pos rfl, if_pos rfl, e2, ov_some, ob_some, e3, ← er, if_neg z]
theorem g3 : G3 Rel := by
  intro h ⟨v, R⟩ a1
  by_cases c0 : a1 = 0
  · subst c0
    exact text0 R
  · by_cases c1 : a1 = 1
    · subst c1
      exact text1 R
    · refine ⟨-1, h, sI h 56 0 0, ?_, ?_, v, R.thr⟩
      · unfold f_X11_text f_X11_text_24 f_X11_text_53
        rw [if_neg c0, if_neg c1]
      · unfold f_X12_text f_X12_text_37
        rw [nm_id, e_isIn01, ob_some, decide_eq_false (n01 c0 c1), zi, if_neg (by decide)]
