/-! people told as a text -/
def mZ (t : Nat → Nat) (L p : Nat) (h : AH) : Prop := mX t L 57 0 p h ∧ h.1 56 11 = -1
def DR (m : Nat) (hc hm : AH) : Prop := ∀ q, q < m → ∀ i, i < 7 → ∃ x, itLo i ≤ x ∧ x ≤ itHi i ∧ hc.1 7 (q * 7 + i) = nI x ∧ hm.1 61 (42 + (q * 7 + i)) = nI x
theorem z_fails {t : Nat → Nat} {L p : Nat} {h : AH} (z : mZ t L p h) : f_X12_fails 56 h = some (0, sI h 56 11 (nI p)) ∧ mF p (sI h 56 11 (nI p)) := by
  have := z.1.1
  have pl := z.1.2.2.2.2.2.2.2.2.2.2
  refine ⟨?_, rfl, by omega⟩
  unfold f_X12_fails
  rw [if_pos z.2, nm_id, z.1.2.2.2.2.2.2.2.2.2.1, f_X12_fails_16]
theorem z_look {t : Nat → Nat} {L p : Nat} {h : AH} (z : mZ t L p h) : f_X12_look 56 h = some (chr t L (skp t L p), sI h 56 10 (nI (skp t L p))) ∧ mZ t L (skp t L p) (sI h 56 10 (nI (skp t L p))) := ⟨e_look z.1, mX_at z.1 (skp_le z.1.2.2.2.2.2.2.2.2.2.2), z.2⟩
theorem z_at {t : Nat → Nat} {L p q : Nat} {h : AH} (z : mZ t L p h) (hq : q ≤ L) : mZ t L q (sI h 56 10 (nI q)) := ⟨mX_at z.1 hq, z.2⟩
theorem z_p {t : Nat → Nat} {L p : Nat} {h : AH} (z : mZ t L p h) : h.1 56 10 = nI p := z.1.2.2.2.2.2.2.2.2.2.1
theorem z_61 {t : Nat → Nat} {L p j : Nat} {x : Int32} {h : AH} (z : mZ t L p h) : mZ t L p (sI h 61 j x) := by
  obtain ⟨⟨c1, c2, c3, c4, c5, c6, c7, c8, c9, c10⟩, z2⟩ := z
  exact ⟨⟨c1, c2, c3, c4, c5, c6, c7, c8, c9, c10⟩, z2⟩
theorem z_21 {t : Nat → Nat} {L p : Nat} {x : Int32} {h : AH} (z : mZ t L p h) : mZ t L p (sI h 56 21 x) := by
  obtain ⟨⟨c1, c2, c3, c4, c5, c6, c7, c8, c9, c10⟩, z2⟩ := z
  exact ⟨⟨c1, c2, c3, c4, c5, c6, c7, c8, c9, c10⟩, z2⟩
theorem x_7 {t : Nat → Nat} {L p j : Nat} {x : Int32} {h : AH} (c : cX t L p h) : cX t L p (sI h 7 j x) := ⟨c.1, c.2.1, c.2.2.1, c.2.2.2.1, c.2.2.2.2.1, c.2.2.2.2.2⟩
theorem x_6 {t : Nat → Nat} {L p : Nat} {x : Int32} {h : AH} (c : cX t L p h) : cX t L p (sI h 6 2 x) := ⟨c.1, c.2.1, c.2.2.1, c.2.2.2.1, c.2.2.2.2.1, c.2.2.2.2.2⟩
theorem e_hereM {t : Nat → Nat} {L p : Nat} {h : AH} (z : mZ t L p h) (hp : p < L) : f_X12_here 56 h = some (nI (t p), h) := by
  obtain ⟨c1, c2, c3, c4, c5, c6, c7, c8, c9, c10, c11⟩ := z.1
  have k3 : decide ((kd 57).1 = 3) = true := decide_eq_true c3.1
  have tb := c2 p hp
  unfold f_X12_here
  rw [c8, c10, if_neg (by rw [nI_leI (by omega) (by omega)]; omega), c6, og_t k3, c7, nI_add, og_ix (by omega) (by omega), nI_clamp (by omega), c9 p hp, (bys_128 tb.2).2.1, f_X12_here_33]
theorem sT01 : ∀ i, i < 7 → sT 0 i = nI (itLo i) ∧ sT 1 i = nI (itHi i) ∧ itLo i < 100 ∧ itHi i < 100 := by decide +kernel
theorem e_mostOf {i : Nat} (hi : i < 7) (h : AH) : f_X12_mostOf (nI i) h = some (nI (itHi i), h) := by
  match i, hi with
  | 0, _ => rfl
  | 1, _ => rfl
  | 2, _ => rfl
  | 3, _ => rfl
  | 4, _ => rfl
  | 5, _ => rfl
  | 6, _ => rfl
theorem e_item69 {t : Nat → Nat} {L p i w m : Nat} {h : AH} (z : mZ t L (p + 1) h) (nd : dgB t L (p + 1) = false) (hi : i < 7) (hw : w < 100) (hm : m < 6) : f_X12_readItem_69 56 (nI (42 + m * 7)) (nI i) (nI w) h = (if itLo i ≤ w ∧ w ≤ itHi i then some (sI h 61 (42 + (m * 7 + i)) (nI w)) else some (sI (sI h 56 10 (nI p)) 56 11 (nI p))) := by
  have b := sT01 i hi
  have pl := z.1.2.2.2.2.2.2.2.2.2.2
  have zp := z_p z
  unfold f_X12_readItem_69
  rw [e_isDigitM z.1, nd, ob_some, zi, if_neg (by decide)]
  have main : ∀ lo : Nat, lo < 100 → itLo i = lo → ∀ sl0 : Int64, sl0 = (nI lo).toInt64 → f_X12_readItem_101 56 (nI (42 + m * 7)) (nI i) (nI w) sl0 ((nI w).toInt64) h = (if itLo i ≤ w ∧ w ≤ itHi i then some (sI h 61 (42 + (m * 7 + i)) (nI w)) else some (sI (sI h 56 10 (nI p)) 56 11 (nI p))) := by
    intro lo l1 l2 sl0 es
    unfold f_X12_readItem_101
    rw [es, e_mostOf hi, ob_some, e_X12_isIn, ob_some, zi, l2]
    by_cases c : lo ≤ w ∧ w ≤ itHi i
    · have d : ¬ nI w < nI lo ∧ ¬ nI (itHi i) < nI w := ⟨nI_nlt c.1 (by omega), nI_nlt c.2 (by omega)⟩
      rw [decide_eq_true d, if_pos rfl, if_pos c, nI_add, rv_56_19, an_61, og_ix (by omega) (by omega), nm_id, nI_clamp (by omega), show 42 + m * 7 + i = 42 + (m * 7 + i) by omega]
    · have d : ¬ (¬ nI w < nI lo ∧ ¬ nI (itHi i) < nI w) := by
        rw [nI_ltI (by omega) (by omega), nI_ltI (by omega) (by omega)]
        omega
      have z' := z_at z (q := p) (by omega)
      rw [decide_eq_false d, if_neg (by decide), if_neg c, nm_id, zp, nI_pred, (z_fails z').1, ob_some]
  by_cases c0 : i = 0
  · subst c0
    rw [if_pos (show nI 0 = 0 from rfl), f_X12_readItem_94]
    exact main 20 (by decide) rfl 20 rfl
  · rw [if_neg (by rw [show (0 : Int32) = nI 0 from rfl, nI_eq (by omega) (by decide)]; exact c0)]
    by_cases c3 : i = 3
    · subst c3
      rw [if_pos (show nI 3 = 3 from rfl), f_X12_readItem_94]
      exact main 20 (by decide) rfl 20 rfl
    · rw [if_neg (by rw [show (3 : Int32) = nI 3 from rfl, nI_eq (by omega) (by decide)]; exact c3)]
      exact main 0 (by decide) (by unfold itLo; rw [if_neg (fun w => w.elim c0 c3)]) 0 rfl
/-- what the class does with the number -/
def cIt (i w m p : Nat) (h : AH) : Option (Int32 × AH) := if itLo i ≤ w ∧ w ≤ itHi i then some (1, sI h 7 (m * 7 + i) (nI w)) else some (0, sI h 1 2 (nI p))
theorem e_itemC {t : Nat → Nat} {L p i w m : Nat} {h : AH} (c : cX t L (p + 1) h) (h6 : h.1 6 2 = nI m) (hi : i < 7) (hw : w < 100) (hm : m < 6) : (if nI w = -1 then some (0, h) else og (ix (nI i) (sN 0)) (if nI w < sT 0 (nI i).toNatClampNeg then f_X6_readItem_31 1 h else og (ix (nI i) (sN 1)) (if nI w ≤ sT 1 (nI i).toNatClampNeg then og (ix ((h.1 6 2 * 7) + nI i) (an (rf 6 0))) (nm (sI h (rf 6 0) ((h.1 6 2 * 7) + nI i).toNatClampNeg (nI w)) fun h_10 => some (1, h_10)) else f_X6_readItem_31 1 h))) = cIt i w m p h := by
  have b := sT01 i hi
  have cp := c.2.2.2.2.1
  rw [if_neg (by rw [n_m1 (by omega)]; exact id), show sN 0 = 7 from rfl, show sN 1 = 7 from rfl, og_ix hi (by omega), og_ix hi (by omega), nI_clamp (by omega), b.1, b.2.1, h6, show nI m * 7 = nI (m * 7) from k_mul m 7, nI_add, rv_6_0, an_7, og_ix (by omega) (by omega), nm_id, nI_clamp (by omega)]
  unfold cIt f_X6_readItem_31
  rw [nm_id, cp, nI_pred]
  by_cases c1 : itLo i ≤ w
  · rw [if_neg (nI_nlt c1 (by omega))]
    by_cases c2 : w ≤ itHi i
    · rw [if_pos (show nI w ≤ nI (itHi i) by rw [nI_leI (by omega) (by omega)]; exact c2), if_pos ⟨c1, c2⟩]
    · rw [if_neg (show ¬ nI w ≤ nI (itHi i) by rw [nI_leI (by omega) (by omega)]; exact c2), if_neg (fun q => c2 q.2)]
  · rw [if_pos (show nI w < nI (itLo i) from nI_lt (by omega) (by omega)), if_neg (fun q => c1 q.1)]
/-- an item: both read it alike -/
def LoE (h0 h : AH) : Prop := ∀ j, j < 42 → h.1 61 j = h0.1 61 j
def ItR (h0 : AH) (t : Nat → Nat) (L m : Nat) (rC : Option (Int32 × AH)) (rM : Option AH) : Prop :=
  (∃ p' hc' hm', rC = some (1, hc') ∧ rM = some hm' ∧ cX t L p' hc' ∧ mZ t L p' hm' ∧ DR (m + 1) hc' hm' ∧ hc'.1 6 2 = nI m ∧ hm'.1 56 21 = nI m ∧ LoE h0 hm')
  ∨ (∃ p' hc' hm', rC = some (0, hc') ∧ rM = some hm' ∧ hc'.1 1 2 = nI p' ∧ mF p' hm' ∧ LoE h0 hm')
theorem DR_set {m i w : Nat} {hc hm : AH} (d : DR (m + 1) hc hm) (hi : i < 7) (b : itLo i ≤ w ∧ w ≤ itHi i) : DR (m + 1) (sI hc 7 (m * 7 + i) (nI w)) (sI hm 61 (42 + (m * 7 + i)) (nI w)) := by
  intro q hq k hk
  by_cases e : q * 7 + k = m * 7 + i
  · have e1 : q = m := by omega
    have e2 : k = i := by omega
    subst e1 e2
    exact ⟨w, b.1, b.2, sI_s .., sI_s ..⟩
  · rw [sI_n (Or.inr e), sI_n (Or.inr (by omega))]
    exact d q hq k hk
theorem DR_at {m : Nat} {hc hm : AH} {x y : Int32} (d : DR m hc hm) : DR m (sI hc 1 2 x) (sI hm 56 10 y) := d
theorem item_end {t : Nat → Nat} {L p i w m : Nat} {hc hm h0 : AH} (lo : LoE h0 hm) (c : cX t L (p + 1) hc) (z : mZ t L (p + 1) hm) (nd : dgB t L (p + 1) = false) (h6 : hc.1 6 2 = nI m) (h21 : hm.1 56 21 = nI m) (d : DR (m + 1) hc hm) (hi : i < 7) (hw : w < 100) (hm6 : m < 6) : ItR h0 t L m (cIt i w m p hc) (f_X12_readItem_69 56 (nI (42 + m * 7)) (nI i) (nI w) hm) := by
  rw [e_item69 z nd hi hw hm6]
  unfold cIt
  have cl := c.1
  have cp := c.2.2.2.2.2
  by_cases b : itLo i ≤ w ∧ w ≤ itHi i
  · rw [if_pos b, if_pos b]
    exact Or.inl ⟨p + 1, _, _, rfl, rfl, x_7 c, z_61 z, DR_set d hi b, h6, h21, fun j hj => by rw [sI_n (Or.inr (by omega))]; exact lo j hj⟩
  · rw [if_neg b, if_neg b]
    exact Or.inr ⟨p, _, _, rfl, rfl, rfl, ⟨rfl, by omega⟩, lo⟩
theorem e_sg {t : Nat → Nat} {L p' : Nat} {h : AH} (cx : cX t L p' h) (k : Nat → Int32 → Int32 → Int32 → Int32 → AH → Option (Int32 × AH)) (x2 x3 : Int32) : (if h.1 1 1 ≤ h.1 1 2 then f_X10_readNumber_71 k 1 2 x2 x3 (-1) h else og (ix (h.1 1 2) (an (rf 1 0))) (f_X10_readNumber_71 k 1 2 x2 x3 (h.1 (rf 1 0) (h.1 1 2).toNatClampNeg) h)) = k 1 2 x2 x3 (chr t L p') h := by
  have L160 := cx.1
  have pl := cx.2.2.2.2.2
  rw [cx.2.2.1, cx.2.2.2.2.1]
  unfold f_X10_readNumber_71 chr
  by_cases l : p' < L
  · rw [if_neg (by rw [nI_leI (by omega) (by omega)]; omega), if_pos l, rv_1_0, an_2, og_ix (by omega) (by omega), nI_clamp (by omega), cx.2.2.2.1 p' l]
  · rw [if_pos (by rw [nI_leI (by omega) (by omega)]; omega), if_neg l]
theorem num2C {t : Nat → Nat} {L q : Nat} {hc : AH} (c : cX t L q hc) (g : dgB t L q = true) : f_X10_readNumber_10 FU 1 2 0 0 (chr t L q) hc = if dgB t L (q + 1) = true then (if dgB t L (q + 2) = true then some (-1, sI hc 1 2 (nI (q + 2))) else some (nI ((t q - 48) * 10 + (t (q + 1) - 48)), sI hc 1 2 (nI (q + 2)))) else some (nI (t q - 48), sI hc 1 2 (nI (q + 1))) := by
  have tb := c.2.1
  obtain ⟨n, hn⟩ : ∃ n, FU = n + 3 := ⟨4093, rfl⟩
  have g' := of_decide_eq_true g
  have v1 : (0 : Int32) * 10 + nI (t q) - 48 = nI (0 * 10 + (t q - 48)) := (num_st (v := 0) g'.2.1).1
  have c2 : cX t L (q + 1) (sI hc 1 2 (nI (q + 1))) := cX_at c (by omega)
  have x10 : hc.1 1 2 + 1 = nI (q + 1) := by rw [c.2.2.2.2.1, nI_1]
  rw [hn, f_X10_readNumber_10, if_neg (by decide), e_isDigitC tb, g, ob_some, zi, if_pos rfl, nm_id, nm_id, nm_id, chr_lt g'.1, v1, Nat.zero_mul, Nat.zero_add, x10, e_sg c2, show (0 : Int32) + 1 = 1 by decide, f_X10_readNumber_10, if_neg (by decide), e_isDigitC tb, ob_some, zi]
  cases g2 : dgB t L (q + 1) with
  | false =>
    rw [if_neg (by decide), if_neg (by decide), f_X10_readNumber_76, if_neg (by decide), e_isDigitC tb, g2, ob_some, zi, if_neg (by decide)]
    rfl
  | true =>
    have g2' := of_decide_eq_true g2
    have v2 : nI (t q - 48) * 10 + nI (t (q + 1)) - 48 = nI ((t q - 48) * 10 + (t (q + 1) - 48)) := (num_st g2'.2.1).1
    have c3 : cX t L (q + 2) (sI hc 1 2 (nI (q + 2))) := cX_at c (by omega)
    have y10 : (sI hc 1 2 (nI (q + 1))).1 1 2 + 1 = nI (q + 2) := nI_1 (q + 1)
    rw [if_pos rfl, if_pos rfl, nm_id, nm_id, nm_id, chr_lt g2'.1, v2, y10, sI_sI, e_sg c3, show (1 : Int32) + 1 = 2 by decide, f_X10_readNumber_10, if_pos (by decide), f_X10_readNumber_76, if_neg (by decide), e_isDigitC tb, ob_some, zi]
    cases g3 : dgB t L (q + 2) with
    | false =>
      rw [if_neg (by decide), if_neg (by decide)]
      rfl
    | true =>
      rw [if_pos rfl, if_pos rfl]
      rfl
theorem sim_item {t : Nat → Nat} {L p i m : Nat} {hc hm h0 : AH} (lo : LoE h0 hm) (c : cX t L p hc) (z : mZ t L p hm) (h6 : hc.1 6 2 = nI m) (h21 : hm.1 56 21 = nI m) (d : DR (m + 1) hc hm) (hi : i < 7) (hm6 : m < 6) : ItR h0 t L m (f_X6_readItem 6 1 (nI i) hc) (f_X12_readItem 56 (nI (42 + m * 7)) (nI i) hm) := by
  have pl := c.2.2.2.2.2
  have L160 := c.1
  have tb := c.2.1
  have ql := skp_le (t := t) pl
  have nx := e_next c
  have lk := z_look z
  generalize skp t L p = q at ql nx lk
  obtain ⟨lk1, z1⟩ := lk
  have c1 : cX t L q (sI hc 1 2 (nI q)) := cX_at c ql
  unfold f_X6_readItem f_X10_readNumber f_X12_readItem
  rw [nx, ob_some, lk1, ob_some, e_isDigitM z1.1, ob_some, zi]
  cases g1 : dgB t L q with
  | false =>
    obtain ⟨n, hn⟩ : ∃ n, FU = n + 1 := ⟨4095, rfl⟩
    rw [if_neg (by decide), hn, f_X10_readNumber_10, if_neg (by decide), e_isDigitC tb, g1, ob_some, zi, if_neg (by decide), f_X10_readNumber_76, if_pos rfl, f_X10_readNumber_88, f_X10_readNumber_93, ob_some, if_pos rfl, (z_fails z1).1, ob_some]
    exact Or.inr ⟨q, _, _, rfl, rfl, rfl, (z_fails z1).2, lo⟩
  | true =>
    have g1' := of_decide_eq_true g1
    have m1 : nI (t q) - 48 = nI (t q - 48) := pk_sub (b := 48) g1'.2.1
    have z2 : mZ t L (q + 1) (sI (sI hm 56 10 (nI q)) 56 10 (nI (q + 1))) := z_at z1 (by omega)
    have y10 : (sI hm 56 10 (nI q)).1 56 10 + 1 = nI (q + 1) := nI_1 q
    have c2 : cX t L (q + 1) (sI (sI hc 1 2 (nI q)) 1 2 (nI (q + 1))) := cX_at c1 (by omega)
    rw [num2C c1 g1, if_pos rfl, e_hereM z1 g1'.1, ob_some, nm_id, nm_id, m1, y10, e_isDigitM z2.1, ob_some, zi]
    cases g2 : dgB t L (q + 1) with
    | false =>
      rw [if_neg (by decide), if_neg (by decide), ob_some, e_itemC c2 h6 hi (by omega) hm6]
      exact item_end (h0 := h0) lo c2 z2 g2 h6 h21 d hi (by omega) hm6
    | true =>
      have g2' := of_decide_eq_true g2
      have v2 : 10 * nI (t q - 48) + nI (t (q + 1)) - 48 = nI ((t q - 48) * 10 + (t (q + 1) - 48)) := (num_st g2'.2.1).2
      have z3 : mZ t L (q + 2) (sI (sI (sI hm 56 10 (nI q)) 56 10 (nI (q + 1))) 56 10 (nI (q + 2))) := z_at z2 (by omega)
      have w10 : (sI (sI hm 56 10 (nI q)) 56 10 (nI (q + 1))).1 56 10 + 1 = nI (q + 2) := nI_1 (q + 1)
      have c3 : cX t L (q + 2) (sI (sI hc 1 2 (nI q)) 1 2 (nI (q + 2))) := cX_at c1 (by omega)
      rw [if_pos rfl, if_pos rfl, e_hereM z2 g2'.1, ob_some, nm_id, nm_id, v2, w10]
      cases g3 : dgB t L (q + 2) with
      | false =>
        rw [if_neg (by decide), ob_some, e_itemC (p := q + 1) c3 h6 hi (by omega) hm6]
        exact item_end (h0 := h0) (p := q + 1) lo c3 z3 g3 h6 h21 d hi (by omega) hm6
      | true =>
        have g3' := of_decide_eq_true g3
        rw [if_pos rfl, ob_some, if_pos rfl]
        unfold f_X12_readItem_69
        rw [e_isDigitM z3.1, g3, ob_some, zi, if_pos rfl, (z_fails z3).1, ob_some]
        exact Or.inr ⟨q + 2, _, _, rfl, rfl, rfl, (z_fails z3).2, lo⟩
theorem st7_inj : ∀ i, i < 7 → ∀ j, j < 7 → (strb 1000).getD i 0 &&& 255 = (strb 1000).getD j 0 &&& 255 → i = j := by decide +kernel
theorem st7_pos : ∀ i, i < 7 → ¬ (strb 1000).getD i 0 &&& 255 = -1 := by decide +kernel
theorem e_letter (x : Int32) (hc hm : AH) : (f_X11_indexIn 1000 x hc = some (-1, hc) ∧ f_X12_placeOf 1000 x hm = some (-1, hm)) ∨ ∃ i, i < 7 ∧ f_X11_indexIn 1000 x hc = some (nI i, hc) ∧ f_X12_placeOf 1000 x hm = some (nI i, hm) ∧ ¬ x = -1 := by
  obtain ⟨r, e, q⟩ := e_indexIn (k := 1000) rfl (by decide) x hc
  obtain ⟨r', e', q'⟩ := e_placeOf (k := 1000) rfl (by decide) x hm
  have l7 : (strb 1000).length = 7 := rfl
  rw [l7] at q q'
  rcases q with ⟨q1, q2⟩ | ⟨i, hi, q1, q2⟩
  · rcases q' with ⟨q1', _⟩ | ⟨j, hj, _, q3⟩
    · exact Or.inl ⟨by rw [e, q1], by rw [e', q1']⟩
    · exact absurd q3 (q2 j hj)
  · rcases q' with ⟨_, q3⟩ | ⟨j, hj, q1', q3⟩
    · exact absurd q2 (q3 i hi)
    · have : i = j := st7_inj i hi j hj (by rw [q2, q3])
      subst this
      exact Or.inr ⟨i, hi, by rw [e, q1], by rw [e', q1'], fun w => st7_pos i hi (by rw [q2, w])⟩
def c7 (S : Nat) : Nat := pcN S + b2 (S.testBit 6)
theorem s7_in : ∀ S, S < 128 → ∀ k, k < 7 → inS (nI S) (nI k) = S.testBit k := by decide +kernel
theorem s7_or : ∀ S, S < 128 → ∀ k, k < 7 → nI S ||| ((1 : Int32) <<< (nI k &&& 31)) = nI (S ||| 2 ^ k) ∧ S ||| 2 ^ k < 128 ∧ (S.testBit k = false → c7 (S ||| 2 ^ k) = c7 S + 1) ∧ c7 S ≤ 7 := by decide +kernel
theorem sim_items {t : Nat → Nat} {L m : Nat} {h0 : AH} (hm6 : m < 6) : ∀ n n' k S p hc hm x4, k + 1 ≤ 9 → 8 - k < n → 8 - k < n' → S < 128 → c7 S = k → cX t L p hc → mZ t L (skp t L p) hm → f_X12_placeOf 1000 (chr t L (skp t L p)) hm = some (x4, hm) → hc.1 6 2 = nI m → hm.1 56 21 = nI m → DR (m + 1) hc hm → LoE h0 hm → ItR h0 t L m (f_X6_readPerson_35 n 6 1 (nI S) (nI k) hc) (f_X12_readPerson_57 n' 56 (nI (42 + m * 7)) (nI S) x4 hm) := by
  intro n
  induction n with
  | zero => intro n' k S p hc hm x4 _ q; omega
  | succ n ih =>
    intro n' k S p hc hm x4 hk hkn hkn' hS hc7 c z pl h6 h21 d lo
    obtain ⟨n'', rfl⟩ : ∃ z, n' = z + 1 := ⟨n' - 1, by omega⟩
    have k7 := (s7_or S hS 0 (by omega)).2.2.2
    have nx := e_next c
    have p0 := c.2.2.2.2.2
    have L160 := c.1
    have tb := c.2.1
    have ql := skp_le (t := t) p0
    have idm := skp_idem (t := t) p0
    generalize hq : skp t L p = q at nx z pl ql idm
    have c1 : cX t L q (sI hc 1 2 (nI q)) := cX_at c ql
    rw [f_X6_readPerson_35, if_neg (by rw [show (7 : Int32) = nI 7 from rfl, nI_ltI (by decide) (by omega)]; omega), nx, ob_some, f_X12_readPerson_57]
    rcases e_letter (chr t L q) (sI hc 1 2 (nI q)) hm with ⟨e1, e2⟩ | ⟨i, hi, e1, e2, ne⟩
    · have x4e : x4 = -1 := by
        rw [e2] at pl
        exact (congrArg Prod.fst (Option.some.inj pl)).symm
      rw [e1, ob_some, if_pos rfl, if_pos x4e]
      exact Or.inl ⟨q, _, hm, rfl, rfl, c1, z, d, h6, h21, lo⟩
    · have x4e : x4 = nI i := by
        rw [e2] at pl
        exact (congrArg Prod.fst (Option.some.inj pl)).symm
      have nm1 : ¬ nI i = -1 := by
        rw [n_m1 (by omega)]
        exact id
      have qL : q < L := by
        unfold chr at ne
        by_cases l : q < L
        · exact l
        · rw [if_neg l] at ne
          exact absurd rfl ne
      have so := s7_or S hS i hi
      rw [e1, ob_some, if_neg nm1, x4e, if_neg nm1, e_X11_isIn, e_X12_has, ob_some, ob_some, s7_in S hS i hi, zi, zi]
      cases b : S.testBit i with
      | true =>
        rw [if_pos rfl, if_pos rfl, (z_fails z).1, ob_some]
        exact Or.inr ⟨q, _, _, rfl, rfl, rfl, (z_fails z).2, lo⟩
      | false =>
        have x10 : (sI hc 1 2 (nI q)).1 1 2 + 1 = nI (q + 1) := nI_1 q
        have y10 : hm.1 56 10 + 1 = nI (q + 1) := by rw [z_p z, nI_1]
        have c2 : cX t L (q + 1) (sI (sI hc 1 2 (nI q)) 1 2 (nI (q + 1))) := cX_at c1 (by omega)
        have z2 : mZ t L (q + 1) (sI hm 56 10 (nI (q + 1))) := z_at z (by omega)
        rw [if_neg (by decide), if_neg (by decide), nm_id, nm_id, nm_id, nm_id, so.1, x10, y10]
        rcases sim_item (hm := sI hm 56 10 (nI (q + 1))) (h0 := h0) lo c2 z2 h6 h21 d hi hm6 with ⟨p', hc', hm', r1, r2, r3, r4, r5, r6, r7, r8⟩ | ⟨p', hc', hm', r1, r2, r3, r4, r5⟩
        · have lk := z_look r4
          obtain ⟨r, er, _⟩ := e_placeOf (k := 1000) rfl (by decide) (chr t L (skp t L p')) (sI hm' 56 10 (nI (skp t L p')))
          rw [r1, ob_some, if_neg (by decide), r2, ov_some, if_pos r4.2, lk.1, ob_some, er, ob_some, nm_id, nI_1]
          have ck := so.2.2.1 b
          have c8 := (s7_or (S ||| 2 ^ i) so.2.1 0 (by omega)).2.2.2
          exact ih n'' (k + 1) (S ||| 2 ^ i) p' hc' _ r (by omega) (by omega) (by omega) so.2.1 (by omega) r3 lk.2 er r6 r7 r5 r8
        · rw [r1, ob_some, if_pos rfl, r2, ov_some, if_neg (mF_n r4)]
          exact Or.inr ⟨p', hc', hm', rfl, rfl, r3, r4, r5⟩
def usN (i : Nat) : Nat := if i = 0 ∨ i = 3 then 40 else if i = 2 then 50 else if i = 4 then 10 else 1
theorem us_ok : ∀ i, i < 7 → sT 2 i = nI (usN i) ∧ itLo i ≤ usN i ∧ usN i ≤ itHi i ∧ usN i < 100 := by decide +kernel
theorem e_usual {i : Nat} (hi : i < 7) (h : AH) : f_X12_usual (nI i) h = some (nI (usN i), h) := by
  match i, hi with
  | 0, _ => rfl
  | 1, _ => rfl
  | 2, _ => rfl
  | 3, _ => rfl
  | 4, _ => rfl
  | 5, _ => rfl
  | 6, _ => rfl
theorem x_pass {t : Nat → Nat} {L p : Nat} {h : AH} (x : Nat) (hx : x < 2 ^ 31) (c : cX t L p h) : (chr t L (skp t L p) = nI x → f_X10_pass 1 (nI x) h = some (1, sI h 1 2 (nI (skp t L p + 1))) ∧ skp t L p < L) ∧ (chr t L (skp t L p) ≠ nI x → f_X10_pass 1 (nI x) h = some (0, sI h 1 2 (nI (skp t L p)))) := by
  unfold f_X10_pass
  rw [e_next c, ob_some]
  refine ⟨fun q => ⟨?_, (chr_n q hx).1⟩, fun q => by rw [if_neg q]⟩
  have : (sI h 1 2 (nI (skp t L p))).1 1 2 + 1 = nI (skp t L p + 1) := nI_1 _
  rw [if_pos q, nm_id, this, sI_sI]
theorem z_takes {t : Nat → Nat} {L p : Nat} {h : AH} (x : Nat) (hx : x < 2 ^ 31) (z : mZ t L p h) : (chr t L (skp t L p) = nI x → f_X12_takes 56 (nI x) h = some (1, sI h 56 10 (nI (skp t L p + 1))) ∧ mZ t L (skp t L p + 1) (sI h 56 10 (nI (skp t L p + 1)))) ∧ (chr t L (skp t L p) ≠ nI x → ∃ h', f_X12_takes 56 (nI x) h = some (0, h') ∧ mF (skp t L p) h' ∧ h'.1 61 = h.1 61) := by
  have lk := z_look z
  unfold f_X12_takes
  rw [if_pos z.2, lk.1, ob_some]
  refine ⟨fun q => ?_, fun q => ?_⟩
  · have l := (chr_n q hx).1
    have : (sI h 56 10 (nI (skp t L p))).1 56 10 + 1 = nI (skp t L p + 1) := nI_1 _
    rw [if_pos q, nm_id, this, sI_sI]
    exact ⟨rfl, z_at z (by omega)⟩
  · have f := z_fails lk.2
    rw [if_neg q, f_X12_takes_16, f.1, ob_some]
    exact ⟨_, rfl, f.2, rfl⟩
theorem sim_person {t : Nat → Nat} {L m p : Nat} {hc hm h0 : AH} (lo : LoE h0 hm) (hm6 : m < 6) (c : cX t L p hc) (z : mZ t L p hm) (h6 : hc.1 6 2 = nI m) (h21 : hm.1 56 21 = nI m) (d : DR m hc hm) : ItR h0 t L m (f_X6_readPerson 6 1 hc) (f_X12_readPerson 56 (nI m) hm) := by
  have p0 := c.2.2.2.2.2
  have L160 := c.1
  have e42 : (7 : Int32) * (6 + nI m) = nI (42 + m * 7) := by
    rw [show (6 : Int32) + nI m = nI (6 + m) from nI_add 6 m, show (7 : Int32) * nI (6 + m) = nI ((6 + m) * 7) from k_mul' _ 7]
    congr 1
    omega
  unfold f_X12_readPerson
  rw [nm_id, e42]
  refine lp (fun f i g => ItR h0 t L m (f_X6_readPerson 6 1 hc) (f_X12_readPerson_10 f 56 (nI (42 + m * 7)) (nI i) g)) (fun i g => mZ t L p g ∧ g.1 56 21 = nI m ∧ (∀ j, j < i → g.1 61 (42 + (m * 7 + j)) = nI (usN j)) ∧ ∀ j, j < 42 + m * 7 → g.1 61 j = hm.1 61 j) 7 (by decide) ?_ ?_ ⟨z, h21, fun j hj => absurd hj (by omega), fun _ _ => rfl⟩
  · rintro f g ⟨z, g21, g1, g2⟩
    rw [f_X12_readPerson_10, if_pos (by decide)]
    have P := x_pass 112 (by decide) c
    have T := z_takes 112 (by decide) z
    unfold f_X6_readPerson
    by_cases y : chr t L (skp t L p) = nI 112
    · obtain ⟨e1, l1⟩ := P.1 y
      obtain ⟨e2, z2⟩ := T.1 y
      have e1' : f_X10_pass 1 112 hc = some (1, sI hc 1 2 (nI (skp t L p + 1))) := e1
      have e2' : f_X12_takes 56 112 g = some (1, sI g 56 10 (nI (skp t L p + 1))) := e2
      have c1 : cX t L (skp t L p + 1) (sI hc 1 2 (nI (skp t L p + 1))) := cX_at c (by omega)
      have s6 : (sI hc 1 2 (nI (skp t L p + 1))).1 6 2 = nI m := h6
      rw [e1', e2', ob_some, ob_some, if_neg (by decide), if_neg (by decide), s6, show nI m * 7 = nI (m * 7) from k_mul m 7, rv_6_0, an_7, show sN 2 = 7 from rfl, og_t, nm_id]
      · have lk := z_look z2
        obtain ⟨r, er, _⟩ := e_placeOf (k := 1000) rfl (by decide) (chr t L (skp t L (skp t L p + 1))) (sI (sI g 56 10 (nI (skp t L p + 1))) 56 10 (nI (skp t L (skp t L p + 1))))
        rw [lk.1, ob_some, er, ob_some]
        have cp7 : ∀ j, (sCt (sI hc 1 2 (nI (skp t L p + 1))) 2 0 7 (nI (m * 7)) 7).1 7 j = if m * 7 ≤ j ∧ j < m * 7 + 7 then sT 2 (j - m * 7) else hc.1 7 j := by
          intro j
          show (if 7 = 7 then va_cpy (sT 2) ((sI hc 1 2 (nI (skp t L p + 1))).1 7) (0 : Int32).toNatClampNeg (nI (m * 7)).toNatClampNeg (7 : Int32).toNatClampNeg j else (sI hc 1 2 (nI (skp t L p + 1))).1 7 j) = _
          rw [if_pos rfl, nI_clamp (by omega), show (0 : Int32).toNatClampNeg = 0 from rfl, show (7 : Int32).toNatClampNeg = 7 from rfl]
          unfold va_cpy
          rw [Nat.zero_add]
          rfl
        have c2 : cX t L (skp t L p + 1) (sCt (sI hc 1 2 (nI (skp t L p + 1))) 2 0 7 (nI (m * 7)) 7) := ⟨c1.1, c1.2.1, c1.2.2.1, c1.2.2.2.1, c1.2.2.2.2.1, c1.2.2.2.2.2⟩
        refine sim_items hm6 FU FU 0 0 (skp t L p + 1) _ _ r (by omega) (by unfold FU; omega) (by unfold FU; omega) (by omega) rfl c2 lk.2 er h6 g21 ?_ (fun j hj => by
          show g.1 61 j = _
          rw [g2 j (by omega)]
          exact lo j hj)
        intro q hq k hk
        have uo := us_ok k hk
        rw [cp7]
        by_cases e : q = m
        · subst e
          rw [if_pos (by omega), show q * 7 + k - q * 7 = k by omega, uo.1]
          exact ⟨usN k, uo.2.1, uo.2.2.1, rfl, g1 k hk⟩
        · rw [if_neg (by omega)]
          obtain ⟨x, b1, b2', b3, b4⟩ := d q (by omega) k hk
          refine ⟨x, b1, b2', b3, ?_⟩
          show g.1 61 (42 + (q * 7 + k)) = nI x
          rw [g2 _ (by omega)]
          exact b4
      · unfold cok
        rw [decide_eq_true_eq, nI_clamp (by omega), show (0 : Int32).toNatClampNeg = 0 from rfl, show (7 : Int32).toNatClampNeg = 7 from rfl]
        exact ⟨by decide, nI_pos (by omega), by decide, by omega, by omega⟩
    · have e1 := P.2 y
      obtain ⟨h', e2, f2, k61⟩ := T.2 y
      have e1' : f_X10_pass 1 112 hc = some (0, sI hc 1 2 (nI (skp t L p))) := e1
      have e2' : f_X12_takes 56 112 g = some (0, h') := e2
      rw [e1', e2', ob_some, ob_some, if_pos rfl, if_pos rfl]
      exact Or.inr ⟨skp t L p, _, h', rfl, rfl, rfl, f2, fun j hj => by rw [k61, g2 j (by omega)]; exact lo j hj⟩
  · rintro f i g hi ⟨z, g21, g1, g2⟩ K
    rw [f_X12_readPerson_10, if_neg (by rw [show (7 : Int32) = nI 7 from rfl, nI_leI (by decide) (by omega)]; omega), e_usual hi, ob_some, nI_add, rv_56_19, an_61, og_ix (by omega) (by omega), nm_id, nI_clamp (by omega), nm_id, nI_1, show 42 + m * 7 + i = 42 + (m * 7 + i) by omega]
    refine K _ ⟨z_61 z, g21, fun j hj => ?_, fun j hj => ?_⟩
    · by_cases e : j = i
      · subst e
        exact sI_s ..
      · rw [sI_n (Or.inr (by omega))]
        exact g1 j (by omega)
    · rw [sI_n (Or.inr (by omega))]
      exact g2 j hj
/-- the whole text -/
def RdR (h0 : AH) (rC : Option (Int32 × AH)) (rM : Option AH) : Prop := ∃ r hc' hm', rC = some (r, hc') ∧ rM = some hm' ∧ hm'.1 56 11 = r ∧ LoE h0 hm' ∧ (r = -1 → ∃ m, 2 ≤ m ∧ m ≤ 6 ∧ hc'.1 6 2 = nI m ∧ hm'.1 56 21 = nI m ∧ DR m hc' hm')
theorem read_75 {t : Nat → Nat} {L p m : Nat} {hc hm h0 : AH} {n : Nat} (lo : LoE h0 hm) (c : cX t L p hc) (z : mZ t L (skp t L p) hm) (h6 : hc.1 6 2 = nI m) (h21 : hm.1 56 21 = nI m) (d : DR m hc hm) (m6 : m ≤ 6) (hm1 : m < 2 → skp t L p = p) : RdR h0 (f_X6_read_75 6 1 hc) (f_X12_readPeople_20 (n + 1) 56 0 hm) := by
  have p0 := c.2.2.2.2.2
  have L160 := c.1
  have ql := skp_le (t := t) p0
  have lk := z_look z
  have idm := skp_idem (t := t) p0
  rw [idm] at lk
  rw [f_X12_readPeople_20, if_pos rfl, lk.1, ob_some]
  unfold f_X6_read_75 f_X6_read_95 f_X6_read_99 f_X12_readPeople_118 f_X12_readPeople_123
  have s21 : (sI hm 56 10 (nI (skp t L p))).1 56 21 = nI m := h21
  have fl := z_fails lk.2
  rw [h6, s21, fl.1, ob_some]
  by_cases m2 : m < 2
  · have e := hm1 m2
    rw [if_pos (show nI m < 2 by rw [show (2 : Int32) = nI 2 from rfl, nI_ltI (by omega) (by decide)]; exact m2), if_neg (show ¬ 2 ≤ nI m by rw [show (2 : Int32) = nI 2 from rfl, nI_leI (by decide) (by omega)]; omega)]
    refine ⟨_, hc, sI (sI hm 56 10 (nI (skp t L p))) 56 11 (nI (skp t L p)), rfl, by split <;> rfl, ?_, lo, fun w => ?_⟩
    · show nI (skp t L p) = hc.1 1 2
      rw [c.2.2.2.2.1, e]
    · rw [c.2.2.2.2.1, n_m1 (by omega)] at w
      exact w.elim
  · rw [if_neg (show ¬ nI m < 2 by rw [show (2 : Int32) = nI 2 from rfl, nI_ltI (by omega) (by decide)]; exact m2), if_pos (show 2 ≤ nI m by rw [show (2 : Int32) = nI 2 from rfl, nI_leI (by decide) (by omega)]; omega), e_next c, ob_some]
    by_cases y : chr t L (skp t L p) = -1
    · rw [if_pos y, if_pos y]
      exact ⟨-1, _, _, rfl, rfl, z.2, lo, fun _ => ⟨m, by omega, m6, h6, h21, d⟩⟩
    · rw [if_neg y, if_neg y]
      refine ⟨nI (skp t L p), _, _, rfl, rfl, rfl, lo, fun w => ?_⟩
      rw [n_m1 (by omega)] at w
      exact w.elim
theorem sim_people {t : Nat → Nat} {L : Nat} {h0 : AH} : ∀ n n' m p hc hm, m < 6 → 6 - m < n → 6 - m < n' → cX t L p hc → mZ t L p hm → hc.1 6 2 = nI m → hm.1 56 21 = nI m → DR m hc hm → LoE h0 hm → RdR h0 (f_X6_read_12 n 6 1 1 hc) (f_X12_readPeople_20 n' 56 1 hm) := by
  intro n
  induction n with
  | zero => intro n' m p hc hm _ q; omega
  | succ n ih =>
    intro n' m p hc hm m6 hn hn' c z h6 h21 d lo
    obtain ⟨n'', rfl⟩ : ∃ z, n' = z + 1 := ⟨n' - 1, by omega⟩
    obtain ⟨n3, rfl⟩ : ∃ z, n'' = z + 1 := ⟨n'' - 1, by omega⟩
    obtain ⟨n4, rfl⟩ : ∃ z, n = z + 1 := ⟨n - 1, by omega⟩
    have L160 := c.1
    rw [f_X6_read_12, if_neg (by decide), h6, if_neg (by rw [show (6 : Int32) = nI 6 from rfl, nI_leI (by decide) (by omega)]; omega), f_X12_readPeople_20, if_neg (by decide), h21]
    rcases sim_person (h0 := h0) lo m6 c z h6 h21 d with ⟨p', hc', hm', r1, r2, r3, r4, r5, r6, r7, r8⟩ | ⟨p', hc', hm', r1, r2, r3, r4, r5⟩
    · have s6 : hc'.1 6 2 + 1 = nI (m + 1) := by rw [r6, nI_1]
      have s21 : hm'.1 56 21 + 1 = nI (m + 1) := by rw [r7, nI_1]
      have c1 : cX t L p' (sI hc' 6 2 (nI (m + 1))) := x_6 r3
      have z1 : mZ t L p' (sI hm' 56 21 (nI (m + 1))) := z_21 r4
      have d1 : DR (m + 1) (sI hc' 6 2 (nI (m + 1))) (sI hm' 56 21 (nI (m + 1))) := r5
      have lk := z_look z1
      have p0 := r3.2.2.2.2.2
      have ql := skp_le (t := t) p0
      have i6 : (sI hc' 6 2 (nI (m + 1))).1 6 2 = nI (m + 1) := rfl
      rw [r1, ob_some, if_neg (by decide), nm_id, s6, i6, r2, ov_some, if_pos r4.2, nm_id, s21, lk.1, ob_some]
      generalize hcc : sI hc' 6 2 (nI (m + 1)) = hc2 at c1 d1 i6
      have lo1 : LoE h0 (sI hm' 56 21 (nI (m + 1))) := r8
      generalize hmm : sI hm' 56 21 (nI (m + 1)) = hm2 at z1 lk d1 lo1
      have k21 : hm2.1 56 21 = nI (m + 1) := by rw [← hmm]; rfl
      by_cases m5 : m + 1 = 6
      · rw [if_pos (by rw [m5]; decide), f_X6_read_70, f_X6_read_71, f_X6_read_12, if_pos rfl]
        unfold f_X12_readPeople_65
        by_cases y : chr t L (skp t L p') = 59
        · have f21 : (sI hm2 56 10 (nI (skp t L p'))).1 56 21 = 6 := by
            show hm2.1 56 21 = 6
            rw [k21, m5]
            rfl
          rw [if_pos y, if_neg (by decide), f21, if_pos rfl, (z_fails lk.2).1, ob_some]
          unfold f_X6_read_75 f_X6_read_95 f_X6_read_99
          rw [i6, if_neg (by rw [m5]; decide), e_next c1, ob_some, if_neg (by rw [y]; decide)]
          refine ⟨nI (skp t L p'), _, _, rfl, rfl, rfl, lo1, fun w => ?_⟩
          rw [n_m1 (by omega)] at w
          exact w.elim
        · rw [if_neg y, if_pos rfl]
          unfold f_X12_readPeople_85
          rw [if_pos rfl]
          exact read_75 (h0 := h0) lo1 c1 lk.2 i6 k21 d1 (by omega) (fun w => absurd w (by omega))
      · have P := x_pass 59 (by decide) c1
        rw [if_neg (by rw [show (6 : Int32) = nI 6 from rfl, nI_leI (by decide) (by omega)]; omega)]
        unfold f_X12_readPeople_65 f_X12_readPeople_85
        by_cases y : chr t L (skp t L p') = nI 59
        · obtain ⟨e1, l1⟩ := P.1 y
          have e1' : f_X10_pass 1 59 hc2 = some (1, sI hc2 1 2 (nI (skp t L p' + 1))) := e1
          have f21 : ¬ (sI hm2 56 10 (nI (skp t L p'))).1 56 21 = 6 := by
            show ¬ hm2.1 56 21 = 6
            rw [k21, show (6 : Int32) = nI 6 from rfl, nI_eq (by omega) (by decide)]
            exact m5
          have a10 : (sI hm2 56 10 (nI (skp t L p'))).1 56 10 + 1 = nI (skp t L p' + 1) := nI_1 _
          rw [e1', ob_some, if_neg (by decide), f_X6_read_71, if_pos (show chr t L (skp t L p') = 59 from y), if_neg (by decide), if_neg f21, if_neg (by decide), nm_id, a10, sI_sI]
          exact ih (n3 + 1) (m + 1) (skp t L p' + 1) _ _ (by omega) (by omega) (by omega) (cX_at c1 (by omega)) (z_at z1 (by omega)) i6 k21 d1 lo1
        · have e1 := P.2 y
          have e1' : f_X10_pass 1 59 hc2 = some (0, sI hc2 1 2 (nI (skp t L p'))) := e1
          have idm := skp_idem (t := t) p0
          have z2 := lk.2
          rw [e1', ob_some, if_pos rfl, f_X6_read_70, f_X6_read_71, f_X6_read_12, if_pos rfl, if_neg (show ¬ chr t L (skp t L p') = 59 from y), if_pos rfl, if_pos rfl]
          exact read_75 (h0 := h0) lo1 (cX_at c1 ql) (by rw [idm]; exact z2) i6 k21 d1 (by omega) (fun _ => idm)
    · rw [r1, ob_some, if_pos rfl, r2, ov_some, if_neg (mF_n r4)]
      refine ⟨hc'.1 1 2, hc', hm', rfl, rfl, by rw [r3, r4.1], r5, fun w => ?_⟩
      have := r4.2
      rw [r3, n_m1 (by omega)] at w
      exact w.elim
theorem sim_ppl {t : Nat → Nat} {L : Nat} {hc hm : AH} (l160 : L ≤ 160) (tb : ∀ j, j < L → 0 < t j ∧ t j < 256) (c11 : hc.1 1 1 = nI L) (tx : ∀ j, j < L → hc.1 2 j = nI (t j)) (m6 : hm.1 56 6 = nI L) (ty : ∀ j, j < L → hm.1 57 j = bys (t j)) : RdR hm (f_X6_read 6 1 hc) (f_X12_readPeople 56 hm) := by
  unfold f_X6_read f_X12_readPeople f_X12_opens
  rw [nm_id, nm_id, nm_id, nm_id, nm_id, nm_id, nm_id, ov_some, nm_id, rv_56_1, m6]
  refine sim_people (t := t) (L := L) FU FU 0 0 _ _ (by omega) (by unfold FU; omega) (by unfold FU; omega) ⟨l160, tb, c11, tx, rfl, Nat.zero_le _⟩ ⟨⟨l160, tb, ⟨rfl, by decide, by decide, by decide⟩, by rw [an_57]; omega, by rw [an_57]; omega, rfl, rfl, rfl, fun j hj => ?_, rfl, Nat.zero_le _⟩, rfl⟩ rfl rfl (fun q hq => absurd hq (by omega)) (fun j hj => rfl)
  rw [Nat.zero_add]
  exact ty j hj
/-- the model's people stay: only the draft behind them is written -/
theorem eqOn_l1 {a : Nat} {W B : List (Nat × Nat)} {h0 h : AH} (ag : Agr W h0 h) (nb : ∀ j, Wmem B a j = false) (d : Wdis (wless a a W) B = true) : EqOn B h0 h := by
  intro k j hb
  by_cases ka : k = a
  · rw [ka, nb j] at hb
    cases hb
  · refine ag.1 k j ?_
    cases hw : Wmem W k j with
    | false => rfl
    | true =>
      obtain ⟨c, hc, rfl, hj⟩ := Wmem_iff.mp hw
      have : Wmem (wless a a W) c.1 j = true := Wmem_iff.mpr ⟨c, List.mem_filter.mpr ⟨hc, by rw [nbeq (fun w => ka w.symm)]; rfl⟩, rfl, hj⟩
      rw [Wdis_no d hb] at this
      cases this
theorem rel_61 {W : List (Nat × Nat)} {v : Wd} {h0 h : AH} (a : Agr W h0 h) (lo : LoE h0 h) (d : Wdis (wless 61 61 W) (wless 61 61 ST) = true) (R : RelV v h0) : RelV v h := by
  have e : EqOn (wless 61 61 ST) h0 h := eqOn_l1 a (fun _ => rfl) d
  have hn := R.n6
  refine ⟨gT_eq (eqOn_sub e rfl) R.1, ?_, gO_eq (eqOn_sub e rfl) R.2.2.1, gR_eq (eqOn_sub e rfl) R.2.2.2.1, gS_eq (eqOn_sub e rfl) R.2.2.2.2.1, gD_eq (eqOn_sub e rfl) R.2.2.2.2.2.1, gG_eq (eqOn_sub e rfl) R.2.2.2.2.2.2.1, gI_eq (eqOn_sub e rfl) R.2.2.2.2.2.2.2⟩
  obtain ⟨p1, p2, p3, p4, p5, p6, p7⟩ := R.2.1
  refine ⟨p1, p2, p3, by rw [e 3 2 rfl]; exact p4, by rw [e 56 20 rfl]; exact p5, fun p hp i hi => ?_, fun p hp => by rw [e 64 p rfl]; exact p7 p hp⟩
  rw [e 4 _ rfl, lo _ (by omega)]
  exact p6 p hp i hi
