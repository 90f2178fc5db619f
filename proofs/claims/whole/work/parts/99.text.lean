/-! text: a rule -/
theorem rul_cong {cl : Nat} {co : Nat → Int32} {ml ml' : Int32} {ms ms' : Nat → Int32} {b : Nat} (e1 : ml' = ml) (e2 : ∀ j, j < 160 → ms' (b + j) = ms (b + j)) (R : RulOk cl co ml ms b) : RulOk cl co ml' ms' b := by
  obtain ⟨g, g', L, t, a1, a2, a3, a4, a5, a6, a7⟩ := R
  refine ⟨g, g', L, t, a1, a2, a3, a4, fun j hj => ?_, by rw [e1]; exact a6, a7⟩
  obtain ⟨b1, b2, b3, b4⟩ := a5 j hj
  exact ⟨b1, b2, b3, by rw [e2 j (by omega)]; exact b4⟩
theorem sCp_c {h : AH} {a b : Nat} {n k j : Nat} (hn : n < 2 ^ 31) : (sCp h a 0 b 0 (nI n)).1 k j = if k = b ∧ j < n then h.1 a j else h.1 k j := by
  show (if k = b then va_cpy (h.1 a) (h.1 b) (0 : Int32).toNatClampNeg (0 : Int32).toNatClampNeg (nI n).toNatClampNeg j else h.1 k j) = _
  rw [nI_clamp hn, show (0 : Int32).toNatClampNeg = 0 from rfl]
  by_cases c : k = b
  · rw [if_pos c]
    unfold va_cpy
    by_cases d : j < n
    · rw [if_pos ⟨Nat.zero_le _, by omega⟩, if_pos ⟨c, d⟩, Nat.zero_add, Nat.sub_zero]
    · rw [if_neg (fun w => d (by have := w.2; omega)), if_neg (fun w => d w.2), c]
  · rw [if_neg c, if_neg (fun w => c w.1)]
theorem rfR : ∀ r, r < 4 → rf 11 r = 12 + 3 * r ∧ rf (12 + 3 * r) 0 = 13 + 3 * r ∧ an (13 + 3 * r) = 161 := by decide
theorem an_11' : an 11 = 4 := rfl
def hRule (hc : AH) (r cl : Nat) : AH := sI (sI (sCp (sI hc (12 + 3 * r) 2 (nI cl)) 10 0 (13 + 3 * r) 0 (nI cl)) 0 5 (nI (r + 1))) 1 1 0
theorem e_takeRule {hc : AH} {r cl : Nat} (hr : r < 4) (hcl : cl ≤ 161) (h5 : hc.1 0 5 = nI r) (h9 : hc.1 9 2 = nI cl) : f_X11_takeRule 0 hc = some (nI r, hRule hc r cl) := by
  obtain ⟨q1, q2, q3⟩ := rfR r hr
  unfold f_X11_takeRule f_X7_keep
  have s2 : (sI hc (12 + 3 * r) 2 (nI cl)).1 (12 + 3 * r) 2 = nI cl := sI_s ..
  have s5 : (sCp (sI hc (12 + 3 * r) 2 (nI cl)) 10 0 (13 + 3 * r) 0 (nI cl)).1 0 5 = nI r := by
    rw [sCp_c (by omega), if_neg (fun w => by omega), sI_n (Or.inl (by omega))]
    exact h5
  rw [rv_0_4, rv_0_3, rv_0_0, h5, an_11', og_ix hr (by omega), nI_clamp (by omega), q1, h9, nm_id, s2, q2, q3, show rf 9 1 = 10 from rfl, show an 10 = 161 from rfl, og_t, nm_id, ov_some, s5, nm_id, nm_id, nI_1]
  · show some (nI (r + 1) - 1, _) = _
    rw [nI_pred]
    rfl
  · unfold cok
    rw [decide_eq_true_eq, nI_clamp (by omega), show (0 : Int32).toNatClampNeg = 0 from rfl]
    exact ⟨by decide, by decide, nI_pos (by omega), by omega, by omega⟩
def WRl : List (Nat × Nat) := (0, 5) :: (1, 1) :: (12, 2) :: (13, 1000) :: (15, 2) :: (16, 1000) :: (18, 2) :: (19, 1000) :: (21, 2) :: (22, 1000) :: []
theorem a_hRule {hc : AH} {r cl : Nat} (hr : r < 4) : Agr WRl hc (hRule hc r cl) := by
  unfold hRule
  match r, hr with
  | 0, _ => exact agr_sI (agr_sI (agr_sA (agr_sI (agr_refl hc) rfl) (fun _ => rfl)) rfl) rfl
  | 1, _ => exact agr_sI (agr_sI (agr_sA (agr_sI (agr_refl hc) rfl) (fun _ => rfl)) rfl) rfl
  | 2, _ => exact agr_sI (agr_sI (agr_sA (agr_sI (agr_refl hc) rfl) (fun _ => rfl)) rfl) rfl
  | 3, _ => exact agr_sI (agr_sI (agr_sA (agr_sI (agr_refl hc) rfl) (fun _ => rfl)) rfl) rfl
theorem hRule_c {hc : AH} {r cl : Nat} {k j : Nat} (hcl : cl ≤ 161) (hk : 2 ≤ k) : (hRule hc r cl).1 k j = if k = 13 + 3 * r ∧ j < cl then hc.1 10 j else if k = 12 + 3 * r ∧ j = 2 then nI cl else hc.1 k j := by
  unfold hRule
  rw [sI_n (Or.inl (by omega)), sI_n (Or.inl (by omega)), sCp_c (by omega)]
  by_cases c : k = 13 + 3 * r ∧ j < cl
  · rw [if_pos c, if_pos c, sI_n (Or.inl (by omega))]
  · rw [if_neg c, if_neg c]
    by_cases d : k = 12 + 3 * r ∧ j = 2
    · rw [if_pos d, d.1, d.2, sI_s]
    · rw [if_neg d]
      by_cases d1 : k = 12 + 3 * r
      · rw [sI_n (Or.inr (fun w => d ⟨d1, w⟩))]
      · rw [sI_n (Or.inl d1)]
theorem nar_b : ∀ x, x < 256 → vp_nar .byte (bys x) = bys x := by decide +kernel
def W59 : List (Nat × Nat) := (56, 7) :: (58, 1000) :: (59, 1000) :: []
theorem e_text56 {t : Nat → Nat} {L r : Nat} {g0 : AH} (hL : L ≤ 160) (hr : r < 4) (h7 : g0.1 56 7 = nI r) (tx : ∀ j, j < L → t j < 256 ∧ g0.1 57 j = bys (t j)) : ∃ h', f_X12_text_56 FU 56 (nI L) 0 g0 = some (nI r, h') ∧ Agr W59 g0 h' ∧ h'.1 56 7 = nI (r + 1) ∧ h'.1 59 r = nI L ∧ (∀ q, q ≠ r → h'.1 59 q = g0.1 59 q) ∧ (∀ j, j < L → h'.1 58 (160 * r + j) = bys (t j)) ∧ ∀ j, j < 160 * r → h'.1 58 j = g0.1 58 j := by
  refine lp (fun f i g => ∃ h', f_X12_text_56 f 56 (nI L) (nI i) g = some (nI r, h') ∧ Agr W59 g0 h' ∧ h'.1 56 7 = nI (r + 1) ∧ h'.1 59 r = nI L ∧ (∀ q, q ≠ r → h'.1 59 q = g0.1 59 q) ∧ (∀ j, j < L → h'.1 58 (160 * r + j) = bys (t j)) ∧ ∀ j, j < 160 * r → h'.1 58 j = g0.1 58 j) (fun i g => Agr ((58, 1000) :: []) g0 g ∧ (∀ j, j < i → g.1 58 (160 * r + j) = bys (t j)) ∧ ∀ j, j < 160 * r → g.1 58 j = g0.1 58 j) L (by omega) ?_ ?_ ⟨agr_refl _, fun j hj => absurd hj (by omega), fun _ _ => rfl⟩
  · rintro f g ⟨a, g1, g2⟩
    have k7 : g.1 56 7 = nI r := by rw [agr_cell a 56 rfl]; exact h7
    have s7 : (sI g 59 r (nI L)).1 56 7 + 1 = nI (r + 1) := by
      show g.1 56 7 + 1 = _
      rw [k7, nI_1]
    have s8 : (sI (sI g 59 r (nI L)) 56 7 (nI (r + 1))).1 56 7 - 1 = nI r := nI_pred r
    rw [f_X12_text_56, if_pos (by rw [nI_leI (by omega) (by omega)]; omega), k7, rv_56_3, show an 59 = 4 from rfl, og_ix hr (by omega), nI_clamp (by omega), nm_id, s7, nm_id, s8]
    refine ⟨_, rfl, agr_sI (agr_sI (agr_up a rfl) rfl) rfl, rfl, ?_, fun q hq => ?_, g1, g2⟩
    · show (sI g 59 r (nI L)).1 59 r = _
      rw [sI_s]
    · show (sI g 59 r (nI L)).1 59 q = _
      rw [sI_n (Or.inr hq), agr_cell a 59 rfl]
  · rintro f i g hi ⟨a, g1, g2⟩ K
    have k7 : g.1 56 7 = nI r := by rw [agr_cell a 56 rfl]; exact h7
    have k57 : g.1 57 i = bys (t i) := by rw [agr_cell a 57 rfl]; exact (tx i hi).2
    rw [f_X12_text_56, if_neg (by rw [nI_leI (by omega) (by omega)]; omega), rv_56_1, rv_56_2, an_57, an_58, k7, show (160 : Int32) * nI r = nI (r * 160) from k_mul' r 160, nI_add, og_ix (by omega) (by omega), og_ix (by omega) (by omega), nI_clamp (by omega), nI_clamp (by omega), k57, nar_b _ (tx i hi).1, nm_id, nm_id, nI_1]
    refine K _ ⟨agr_sI a rfl, fun j hj => ?_, fun j hj => ?_⟩
    · by_cases e : j = i
      · subst e
        rw [show r * 160 + j = 160 * r + j by omega, sI_s]
      · rw [sI_n (Or.inr (by omega))]
        exact g1 j (by omega)
    · rw [sI_n (Or.inr (by omega))]
      exact g2 j hj

def WTx : List (Nat × Nat) := (0, 5) :: (1, 1) :: (1, 2) :: (9, 2) :: (10, 1000) :: (12, 2) :: (13, 1000) :: (15, 2) :: (16, 1000) :: (18, 2) :: (19, 1000) :: (21, 2) :: (22, 1000) :: (56, 0) :: (56, 6) :: (56, 7) :: (56, 8) :: (56, 9) :: (56, 10) :: (56, 11) :: (56, 12) :: (56, 13) :: (56, 14) :: (56, 18) :: (58, 1000) :: (59, 1000) :: (201, 0) :: []
def WMt : List (Nat × Nat) := (56, 0) :: (56, 6) :: (56, 7) :: (56, 8) :: (56, 9) :: (56, 10) :: (56, 11) :: (56, 12) :: (56, 13) :: (56, 14) :: (56, 18) :: (58, 1000) :: (59, 1000) :: (201, 0) :: []
theorem text1 {v : Wd} {h : AH} (R : RelV v h) : ∃ r h1 h2, f_X11_text 0 1 h = some (r, h1) ∧ f_X12_text 56 1 h1 = some (r, h2) ∧ Rel h2 := by
  have rc4 := R.rc4
  have L160 := R.L160
  by_cases full : v.rc = 4
  · have R2 := R.thr (x := 0)
    refine ⟨-1, h, sI h 56 0 0, ?_, ?_, v, R2⟩
    · unfold f_X11_text f_X11_text_24 f_X11_text_53
      rw [if_neg (by decide), if_pos rfl, R.crc, full, if_pos (by decide)]
    · unfold f_X12_text f_X12_text_37
      rw [nm_id, e_isIn01, ob_some, is01_1, zi, if_pos rfl, if_pos rfl, R2.mrc, full, if_pos (show nI 4 = 4 from rfl)]
  · have lt4 : v.rc < 4 := by omega
    have n4 : ¬ (4 : Int32) ≤ nI v.rc := by
      rw [show (4 : Int32) = nI 4 from rfl, nI_leI (by decide) (by omega)]
      omega
    have n4' : ¬ nI v.rc = (4 : Int32) := by
      rw [show (4 : Int32) = nI 4 from rfl, nI_eq (by omega) (by decide)]
      exact full
    obtain ⟨r, hc, _, rem, e1, _, _, e4⟩ := rd1 (k := h) R rfl
    have f1 : Agr W_X8_read_i9 h hc := w_f_X8_read_i9 _ _ e1
    have R1 : RelV v hc := rel_agr f1 rfl R
    by_cases z : r = -1
    · obtain ⟨C, len⟩ := e4 z
      subst z
      have tk := e_takeRule lt4 len R1.crc C.1
      have f2 : Agr WRl hc (hRule hc v.rc rem.length) := a_hRule lt4
      generalize hh1 : hRule hc v.rc rem.length = h1 at tk f2
      have k6 : h1.1 56 6 = nI v.L := by rw [agr_cell f2 56 rfl]; exact R1.mL
      have k7 : h1.1 56 7 = nI v.rc := by rw [agr_cell f2 56 rfl]; exact R1.mrc
      have k57 : h1.1 57 = h.1 57 := by rw [agr_cell f2 57 rfl, agr_cell f1 57 rfl]
      obtain ⟨r', hc', hm, _, e1', e2, e3, _⟩ := rd1 (k := sI (sI h1 56 0 0) 56 0 0) R k57
      rw [e1] at e1'
      have er : -1 = r' := congrArg Prod.fst (Option.some.inj e1')
      have f4 : Agr W_X12_goThrough_i56_57 (sI (sI h1 56 0 0) 56 0 0) hm := w_f_X12_goThrough_i56_57 _ _ _ _ e2
      have m6 : hm.1 56 6 = nI v.L := by rw [f4.1 56 6 rfl]; exact k6
      have m7 : hm.1 56 7 = nI v.rc := by rw [f4.1 56 7 rfl]; exact k7
      have m57 : hm.1 57 = h.1 57 := by rw [agr_cell f4 57 rfl]; exact k57
      obtain ⟨H, t1, t2, t3, t4, t5, t6, t7⟩ := e_text56 (t := v.tx) (g0 := sI hm 56 6 0) L160 lt4 m7 (fun j hj => ⟨(R.1.2.2.2 j hj).2.1, by
        show hm.1 57 j = _
        rw [m57]
        have := (R.1.2.2.2 j hj).2.2.2
        rw [Nat.zero_add] at this
        exact this⟩)
      refine ⟨nI v.rc, h1, H, ?_, ?_, ?_⟩
      · unfold f_X11_text f_X11_text_24
        rw [if_neg (by decide), if_pos rfl, R.crc, if_neg n4, rv_0_3, e1, ob_some, if_pos rfl, tk, ob_some]
      · unfold f_X12_text f_X12_text_28 f_X12_fault f_X12_fault_42
        have s7 : (sI h1 56 0 0).1 56 7 = nI v.rc := k7
        have s6 : (sI (sI h1 56 0 0) 56 0 0).1 56 6 = nI v.L := k6
        rw [nm_id, e_isIn01, ob_some, is01_1, zi, if_pos rfl, if_pos rfl, s7, if_neg n4', nm_id, e_isIn01, ob_some, is01_1, zi, if_pos rfl, if_neg (by decide), rv_56_1, s6, e2, ov_some, ob_some, e3, ← er, if_pos rfl, nm_id, nm_id, if_pos rfl, m6, t1]
      · have B : Agr WMt h1 H := agr_tr (agr_sI (agr_tr (agr_sI (agr_sI (agr_refl h1) rfl) rfl) f4 rfl) rfl) t2 rfl
        have A : Agr WTx h H := agr_tr (agr_tr (agr_up f1 rfl) f2 rfl) B rfl
        have c58 : h1.1 58 = h.1 58 := by rw [agr_cell f2 58 rfl, agr_cell f1 58 rfl]
        have c59 : h1.1 59 = h.1 59 := by rw [agr_cell f2 59 rfl, agr_cell f1 59 rfl]
        have d58 : hm.1 58 = h.1 58 := by rw [agr_cell f4 58 rfl]; exact c58
        have d59 : hm.1 59 = h.1 59 := by rw [agr_cell f4 59 rfl]; exact c59
        have low : ∀ r, r < 4 → (H.1 (12 + 3 * r) = h1.1 (12 + 3 * r) ∧ H.1 (13 + 3 * r) = h1.1 (13 + 3 * r)) ∧ hc.1 (12 + 3 * r) = h.1 (12 + 3 * r) ∧ hc.1 (13 + 3 * r) = h.1 (13 + 3 * r) := by
          intro r hr
          match r, hr with
          | 0, _ => exact ⟨⟨agr_cell B 12 rfl, agr_cell B 13 rfl⟩, agr_cell f1 12 rfl, agr_cell f1 13 rfl⟩
          | 1, _ => exact ⟨⟨agr_cell B 15 rfl, agr_cell B 16 rfl⟩, agr_cell f1 15 rfl, agr_cell f1 16 rfl⟩
          | 2, _ => exact ⟨⟨agr_cell B 18 rfl, agr_cell B 19 rfl⟩, agr_cell f1 18 rfl, agr_cell f1 19 rfl⟩
          | 3, _ => exact ⟨⟨agr_cell B 21 rfl, agr_cell B 22 rfl⟩, agr_cell f1 21 rfl, agr_cell f1 22 rfl⟩
        have g3 := gO_eq (agr_on A rfl) R.2.2.1
        refine rel_mk (L := 0) (n := v.n) (rc := v.rc + 1) (E := v.E) (S := v.S) (tx := v.tx) (it := v.it) (ro := v.ro) (has := v.has) (pl := v.pl) (wo := v.wo) (cl := fun r => if r = v.rc then rem.length else v.cl r) (co := fun r j => if r = v.rc then rem.getD j 0 else v.co r j) (di := v.di) (se := v.se) (sw := v.sw) (ss := v.ss) (im := v.im) (kE := v.kE) (kS := v.kS) (kh := v.kh) (kp := v.kp) (kw := v.kw) ?_ (gP_eq (agr_on A rfl) R.2.1) ?_ ?_ (gS_eq (agr_on A rfl) R.2.2.2.2.1) (gD_eq (agr_on A rfl) R.2.2.2.2.2.1) (gG_eq (agr_on A rfl) R.2.2.2.2.2.2.1) (gI_eq (agr_on A rfl) R.2.2.2.2.2.2.2)
        · refine ⟨Nat.zero_le _, ?_, ?_, fun j hj => absurd hj (by omega)⟩
          · rw [agr_cell B 1 rfl, ← hh1]
            rfl
          · rw [t2.1 56 6 rfl]
            rfl
        · intro p hp
          obtain ⟨b1, b2, b3⟩ := g3 p hp
          exact ⟨b1.elim Or.inl (fun ⟨r, w1, w2⟩ => Or.inr ⟨r, by omega, w2⟩), b2, b3⟩
        · refine ⟨by omega, ?_, t3, fun r hr => ?_⟩
          · rw [agr_cell B 0 rfl, ← hh1]
            rfl
          · obtain ⟨⟨l1, l2⟩, l3, l4⟩ := low r (by omega)
            rw [l1, l2, ← hh1]
            dsimp only
            by_cases e : r = v.rc
            · subst e
              rw [if_pos rfl]
              refine ⟨?_, fun j hj => ?_, h, hc, v.L, v.tx, L160, len, e1, R.cL, fun j hj => ?_, t4, C.1, fun j hj => ?_⟩
              · rw [hRule_c len (by omega), if_neg (fun w => by omega), if_pos ⟨rfl, rfl⟩]
              · rw [hRule_c len (by omega), if_pos ⟨rfl, hj⟩, if_pos rfl]
                exact C.2 j hj
              · obtain ⟨b1, b2, b3, b4⟩ := R.1.2.2.2 j hj
                exact ⟨b1, b2, b3, t6 j hj⟩
              · dsimp only
                rw [if_pos rfl]
                exact C.2 j hj
            · obtain ⟨o1, o2, o3⟩ := R.2.2.2.1.2.2.2 r (by omega)
              rw [if_neg e]
              refine ⟨?_, fun j hj => ?_, ?_⟩
              · rw [hRule_c len (by omega), if_neg (fun w => by omega), if_neg (fun w => e (by omega)), l3]
                exact o1
              · rw [hRule_c len (by omega), if_neg (fun w => e (by omega)), if_neg (fun w => by omega), l4, if_neg e]
                exact o2 j hj
              · have hco : (fun j => if r = v.rc then rem.getD j 0 else v.co r j) = v.co r := by
                  funext j
                  rw [if_neg e]
                rw [hco]
                refine rul_cong ?_ (fun j hj => ?_) o3
                · rw [t5 r e]
                  show hm.1 59 r = _
                  rw [d59]
                · rw [t7 _ (by omega)]
                  show hm.1 58 _ = _
                  rw [d58]
    · have R2 := (R1.thr (x := 0)).thr (x := 0)
      obtain ⟨r', hc', hm, _, e1', e2, e3, _⟩ := rd1 (k := sI (sI hc 56 0 0) 56 0 0) R (agr_cell f1 57 rfl)
      rw [e1] at e1'
      have er : r = r' := congrArg Prod.fst (Option.some.inj e1')
      have f4 : Agr W_X12_goThrough_i56_57 (sI (sI hc 56 0 0) 56 0 0) hm := w_f_X12_goThrough_i56_57 _ _ _ _ e2
      refine ⟨-1, hc, hm, ?_, ?_, v, rel_agr f4 rfl R2⟩
      · unfold f_X11_text f_X11_text_24 f_X11_text_53
        rw [if_neg (by decide), if_pos rfl, R.crc, if_neg n4, rv_0_3, e1, ob_some, if_neg z]
      · unfold f_X12_text f_X12_text_28 f_X12_fault f_X12_fault_42 f_X12_text_37
        rw [nm_id, e_isIn01, ob_some, is01_1, zi, if_pos rfl, if_pos rfl, (R1.thr (x := 0)).mrc, if_neg n4', nm_id, e_isIn01, ob_some, is01_1, zi, if_pos rfl, if_neg (by decide), rv_56_1, R2.mL, e2, ov_some, ob_some, e3, ← er, if_neg z]

/-! text: people -/
theorem e_copyP (hc : AH) : ∃ h', f_X6_copy 3 6 hc = some h' ∧ (∀ j, j < 42 → h'.1 4 j = hc.1 7 j) ∧ (∀ j, j < 6 → h'.1 5 j = -1) ∧ h'.1 3 2 = hc.1 6 2 ∧ Agr W_X6_copy_i3_6 hc h' := by
  obtain ⟨h', e, f, a⟩ := e_fill (k := 5) (by decide) (-1) (sCp hc 7 0 4 0 (nI 42))
  have e6 : h'.1 6 2 = hc.1 6 2 := by
    rw [agr_cell a 6 rfl]
    rfl
  have E : f_X6_copy 3 6 hc = some (sI h' 3 2 (hc.1 6 2)) := by
    unfold f_X6_copy
    rw [rv_3_0, rv_3_1, rv_6_0, show Int32.ofNat (an 4) = nI 42 from rfl, og_t (by decide), nm_id, e, ov_some, nm_id, e6]
  refine ⟨_, E, fun j hj => ?_, fun j hj => f j hj, rfl, w_f_X6_copy_i3_6 _ _ E⟩
  show h'.1 4 j = _
  rw [agr_cell a 4 rfl, sCp_c (by omega), if_pos ⟨rfl, hj⟩]
theorem e_beginP {m : Nat} {g0 : AH} (hm : m ≤ 6) (h3 : g0.1 3 2 = nI m) : ∃ h', f_X9_begin 24 3 g0 = some h' ∧ Agr W_X9_begin_i24_3 g0 h' ∧ ∀ j, j < 6 → h'.1 25 j = (if j < m then nI j else -1) ∧ h'.1 26 j = (if j < m then nI j else -1) ∧ h'.1 27 j = if j < m then g0.1 4 (j * 7 + 2) else 0 := by
  unfold f_X9_begin
  refine lp (fun f i g => ∃ h', f_X9_begin_2 f 24 3 (nI i) g = some h' ∧ Agr W_X9_begin_i24_3 g0 h' ∧ ∀ j, j < 6 → h'.1 25 j = (if j < m then nI j else -1) ∧ h'.1 26 j = (if j < m then nI j else -1) ∧ h'.1 27 j = if j < m then g0.1 4 (j * 7 + 2) else 0) (fun i g => Agr W_X9_begin_i24_3 g0 g ∧ ∀ j, j < i → g.1 25 j = (if j < m then nI j else -1) ∧ g.1 26 j = (if j < m then nI j else -1) ∧ g.1 27 j = if j < m then g0.1 4 (j * 7 + 2) else 0) 6 (by decide) ?_ ?_ ⟨agr_refl _, fun j hj => absurd hj (by omega)⟩
  · rintro f g ⟨a, q⟩
    rw [f_X9_begin_2, if_pos (by decide)]
    exact ⟨g, rfl, a, q⟩
  · rintro f i g hi ⟨a, q⟩ K
    have k3 : g.1 3 2 = nI m := by rw [agr_cell a 3 rfl]; exact h3
    have k4 : g.1 4 = g0.1 4 := agr_cell a 4 rfl
    rw [f_X9_begin_2, if_neg (by rw [show (6 : Int32) = nI 6 from rfl, nI_leI (by decide) (by omega)]; omega), k3]
    have fin : ∀ x y z : Int32, x = (if i < m then nI i else -1) → y = (if i < m then nI i else -1) → z = (if i < m then g0.1 4 (i * 7 + 2) else 0) → Agr W_X9_begin_i24_3 g0 (sI (sI (sI g 25 i x) 26 i y) 27 i z) ∧ ∀ j, j < i + 1 → (sI (sI (sI g 25 i x) 26 i y) 27 i z).1 25 j = (if j < m then nI j else -1) ∧ (sI (sI (sI g 25 i x) 26 i y) 27 i z).1 26 j = (if j < m then nI j else -1) ∧ (sI (sI (sI g 25 i x) 26 i y) 27 i z).1 27 j = if j < m then g0.1 4 (j * 7 + 2) else 0 := by
      intro x y z hx hy hz
      refine ⟨agr_sI (agr_sI (agr_sI a rfl) rfl) rfl, fun j hj => ?_⟩
      by_cases e : j = i
      · subst e
        refine ⟨?_, ?_, ?_⟩
        · rw [sI_n (Or.inl (by decide)), sI_n (Or.inl (by decide)), sI_s, hx]
        · rw [sI_n (Or.inl (by decide)), sI_s, hy]
        · rw [sI_s, hz]
      · rw [sI_n (Or.inl (by decide)), sI_n (Or.inl (by decide)), sI_n (Or.inr e), sI_n (Or.inl (by decide)), sI_n (Or.inr e), sI_n (Or.inl (by decide)), sI_n (Or.inr e), sI_n (Or.inl (by decide)), sI_n (Or.inl (by decide))]
        exact q j (by omega)
    by_cases c : m ≤ i
    · have n : ¬ i < m := by omega
      rw [if_pos (by rw [nI_leI (by omega) (by omega)]; exact c)]
      unfold f_X9_begin_21
      rw [if_pos rfl]
      unfold f_X9_begin_36
      rw [rv_24_0, show an 25 = 6 from rfl, og_ix hi (by omega), nm_id, if_pos rfl, nI_clamp (by omega)]
      unfold f_X9_begin_51
      rw [rv_24_1, show an 26 = 6 from rfl, og_ix hi (by omega), nm_id, if_pos rfl, nI_clamp (by omega)]
      unfold f_X9_begin_71
      rw [rv_24_2, show an 27 = 6 from rfl, og_ix hi (by omega), nm_id, nm_id, nI_clamp (by omega), nI_1]
      exact K _ (fin _ _ _ (if_neg n).symm (if_neg n).symm (if_neg n).symm)
    · have n : i < m := by omega
      rw [if_neg (by rw [nI_leI (by omega) (by omega)]; exact c)]
      unfold f_X9_begin_21
      rw [if_neg (by decide)]
      unfold f_X9_begin_36
      rw [rv_24_0, show an 25 = 6 from rfl, og_ix hi (by omega), nm_id, if_neg (by decide), nI_clamp (by omega)]
      unfold f_X9_begin_51
      rw [rv_24_1, show an 26 = 6 from rfl, og_ix hi (by omega), nm_id, if_neg (by decide), nI_clamp (by omega)]
      unfold f_X6_item
      have k4' : (sI (sI g 25 i (nI i)) 26 i (nI i)).1 4 (i * 7 + 2) = g0.1 4 (i * 7 + 2) := by
        rw [sI_n (Or.inl (by decide)), sI_n (Or.inl (by decide)), k4]
      rw [rv_3_0, show an 4 = 42 from rfl, show nI i * 7 = nI (i * 7) from k_mul i 7, show nI (i * 7) + 2 = nI (i * 7 + 2) from nI_add _ 2, og_ix (by omega) (by omega), nI_clamp (by omega), k4', ob_some]
      unfold f_X9_begin_71
      rw [rv_24_2, show an 27 = 6 from rfl, og_ix hi (by omega), nm_id, nm_id, nI_clamp (by omega), nI_1]
      exact K _ (fin _ _ _ (if_pos n).symm (if_pos n).symm (if_pos n).symm)
def W66 : List (Nat × Nat) := (56, 32) :: (56, 50) :: (56, 57) :: (62, 1000) :: (63, 1000) :: (64, 1000) :: (65, 1000) :: (66, 1000) :: []
def W66a : List (Nat × Nat) := (62, 1000) :: (63, 1000) :: (64, 1000) :: (65, 1000) :: (66, 1000) :: []
def md6 (g0 g : AH) (j : Nat) : Prop := g.1 62 j = nI j ∧ g.1 63 j = nI j ∧ g.1 64 j = g0.1 61 (j * 7 + 3) ∧ g.1 65 j = g0.1 61 (j * 7 + 2) ∧ g.1 66 j = -1
theorem e_text154 {m : Nat} {g0 : AH} (h20 : g0.1 56 20 = nI m) : ∃ h', f_X12_text_154 FU 56 0 g0 = some (nI m, h') ∧ Agr W66 g0 h' ∧ (h'.1 56 32 = 0 ∧ h'.1 56 50 = 0 ∧ h'.1 56 57 = 0) ∧ ∀ j, j < 6 → md6 g0 h' j := by
  refine lp (fun f i g => ∃ h', f_X12_text_154 f 56 (nI i) g = some (nI m, h') ∧ Agr W66 g0 h' ∧ (h'.1 56 32 = 0 ∧ h'.1 56 50 = 0 ∧ h'.1 56 57 = 0) ∧ ∀ j, j < 6 → md6 g0 h' j) (fun i g => Agr W66a g0 g ∧ ∀ j, j < i → md6 g0 g j) 6 (by decide) ?_ ?_ ⟨agr_refl _, fun j hj => absurd hj (by omega)⟩
  · rintro f g ⟨a, q⟩
    have k20 : (sI (sI (sI g 56 32 0) 56 50 0) 56 57 0).1 56 20 = nI m := by
      show g.1 56 20 = nI m
      rw [agr_cell a 56 rfl]
      exact h20
    rw [f_X12_text_154, if_pos (by decide), nm_id, nm_id, nm_id, k20]
    exact ⟨_, rfl, agr_sI (agr_sI (agr_sI (agr_up a rfl) rfl) rfl) rfl, ⟨rfl, rfl, rfl⟩, q⟩
  · rintro f i g hi ⟨a, q⟩ K
    have k61 : g.1 61 = g0.1 61 := agr_cell a 61 rfl
    have x3 : (sI (sI g 62 i (nI i)) 63 i (nI i)).1 61 (i * 7 + 3) = g0.1 61 (i * 7 + 3) := by
      rw [sI_n (Or.inl (by decide)), sI_n (Or.inl (by decide)), k61]
    have x2 : (sI (sI (sI g 62 i (nI i)) 63 i (nI i)) 64 i (g0.1 61 (i * 7 + 3))).1 61 (i * 7 + 2) = g0.1 61 (i * 7 + 2) := by
      rw [sI_n (Or.inl (by decide)), sI_n (Or.inl (by decide)), sI_n (Or.inl (by decide)), k61]
    rw [f_X12_text_154, if_neg (by rw [show (6 : Int32) = nI 6 from rfl, nI_leI (by decide) (by omega)]; omega), rv_56_22, rv_56_23, rv_56_24, rv_56_25, rv_56_26, rv_56_19, an_61, show an 62 = 6 from rfl, show an 63 = 6 from rfl, show an 64 = 6 from rfl, show an 65 = 6 from rfl, show an 66 = 6 from rfl, nI_clamp (by omega), og_ix hi (by omega), nm_id, og_ix hi (by omega), nm_id, show (7 : Int32) * nI i = nI (i * 7) from k_mul' i 7, show nI (i * 7) + 3 = nI (i * 7 + 3) from nI_add _ 3, show nI (i * 7) + 2 = nI (i * 7 + 2) from nI_add _ 2, og_ix (by omega) (by omega), og_ix hi (by omega), nI_clamp (by omega), x3, nm_id, og_ix (by omega) (by omega), og_ix hi (by omega), nI_clamp (by omega), x2, nm_id, og_ix hi (by omega), nm_id, nm_id, nI_1]
    refine K _ ⟨agr_sI (agr_sI (agr_sI (agr_sI (agr_sI a rfl) rfl) rfl) rfl) rfl, fun j hj => ?_⟩
    by_cases e : j = i
    · subst e
      refine ⟨?_, ?_, ?_, ?_, ?_⟩
      · rw [sI_n (Or.inl (by decide)), sI_n (Or.inl (by decide)), sI_n (Or.inl (by decide)), sI_n (Or.inl (by decide)), sI_s]
      · rw [sI_n (Or.inl (by decide)), sI_n (Or.inl (by decide)), sI_n (Or.inl (by decide)), sI_s]
      · rw [sI_n (Or.inl (by decide)), sI_n (Or.inl (by decide)), sI_s]
      · rw [sI_n (Or.inl (by decide)), sI_s]
      · rw [sI_s]
    · obtain ⟨q1, q2, q3, q4, q5⟩ := q j (by omega)
      refine ⟨?_, ?_, ?_, ?_, ?_⟩
      · rw [sI_n (Or.inr e), sI_n (Or.inr e), sI_n (Or.inr e), sI_n (Or.inr e), sI_n (Or.inr e)]
        exact q1
      · rw [sI_n (Or.inr e), sI_n (Or.inr e), sI_n (Or.inr e), sI_n (Or.inr e), sI_n (Or.inr e)]
        exact q2
      · rw [sI_n (Or.inr e), sI_n (Or.inr e), sI_n (Or.inr e), sI_n (Or.inr e), sI_n (Or.inr e)]
        exact q3
      · rw [sI_n (Or.inr e), sI_n (Or.inr e), sI_n (Or.inr e), sI_n (Or.inr e), sI_n (Or.inr e)]
        exact q4
      · rw [sI_n (Or.inr e), sI_n (Or.inr e), sI_n (Or.inr e), sI_n (Or.inr e), sI_n (Or.inr e)]
        exact q5
theorem e_text125 {m : Nat} {g0 : AH} (h20 : g0.1 56 20 = nI m) : ∃ h', f_X12_text_125 FU 56 0 g0 = some (nI m, h') ∧ Agr ((61, 1000) :: W66) g0 h' ∧ (h'.1 56 32 = 0 ∧ h'.1 56 50 = 0 ∧ h'.1 56 57 = 0) ∧ (∀ j, j < 42 → h'.1 61 j = g0.1 61 (42 + j)) ∧ ∀ j, j < 6 → md6 h' h' j := by
  refine lp (fun f i g => ∃ h', f_X12_text_125 f 56 (nI i) g = some (nI m, h') ∧ Agr ((61, 1000) :: W66) g0 h' ∧ (h'.1 56 32 = 0 ∧ h'.1 56 50 = 0 ∧ h'.1 56 57 = 0) ∧ (∀ j, j < 42 → h'.1 61 j = g0.1 61 (42 + j)) ∧ ∀ j, j < 6 → md6 h' h' j) (fun i g => Agr ((61, 1000) :: []) g0 g ∧ (∀ j, j < i → g.1 61 j = g0.1 61 (42 + j)) ∧ ∀ j, 42 ≤ j → g.1 61 j = g0.1 61 j) 42 (by decide) ?_ ?_ ⟨agr_refl _, fun j hj => absurd hj (by omega), fun _ _ => rfl⟩
  · rintro f g ⟨a, q, q'⟩
    have k20 : g.1 56 20 = nI m := by
      rw [agr_cell a 56 rfl]
      exact h20
    obtain ⟨h', e, b, c, d⟩ := e_text154 k20
    have k61 : h'.1 61 = g.1 61 := agr_cell b 61 rfl
    rw [f_X12_text_125, if_pos (by decide), e]
    refine ⟨h', rfl, agr_tr (agr_up a rfl) b rfl, c, fun j hj => by rw [k61]; exact q j hj, fun j hj => ?_⟩
    have := d j hj
    unfold md6 at this ⊢
    rw [k61]
    exact this
  · rintro f i g hi ⟨a, q, q'⟩ K
    rw [f_X12_text_125, if_neg (by rw [show (42 : Int32) = nI 42 from rfl, nI_leI (by decide) (by omega)]; omega), rv_56_19, an_61, show (42 : Int32) + nI i = nI (42 + i) from nI_add 42 i, og_ix (by omega) (by omega), og_ix (by omega) (by omega), nI_clamp (by omega), nI_clamp (by omega), q' (42 + i) (by omega), nm_id, nm_id, nI_1]
    refine K _ ⟨agr_sI a rfl, fun j hj => ?_, fun j hj => ?_⟩
    · by_cases e : j = i
      · subst e
        rw [sI_s]
      · rw [sI_n (Or.inr e)]
        exact q j (by omega)
    · rw [sI_n (Or.inr (by omega))]
      exact q' j hj

theorem itHi99 : ∀ k, k < 7 → itHi k ≤ 99 := by decide
def WMp : List (Nat × Nat) := (56, 0) :: (56, 6) :: (56, 8) :: (56, 9) :: (56, 10) :: (56, 11) :: (56, 20) :: (56, 21) :: (61, 1000) :: (201, 0) :: W66
def WTp : List (Nat × Nat) := (1, 2) :: (6, 2) :: (7, 1000) :: (W_X11_takePeople_i0 ++ WMp)
theorem text0 {v : Wd} {h : AH} (R : RelV v h) : ∃ r h1 h2, f_X11_text 0 0 h = some (r, h1) ∧ f_X12_text 56 0 h1 = some (r, h2) ∧ Rel h2 := by
  obtain ⟨r, hc, _, e1, _, _, _, e5⟩ := rd0 R R.mL rfl
  have f1 : Agr W_X6_read_i6_1 h hc := w_f_X6_read_i6_1 _ _ e1
  have R1 : RelV v hc := rel_agr f1 rfl R
  by_cases z : r = -1
  · obtain ⟨m, m2, m6, h62, _, _⟩ := e5 z
    subst z
    obtain ⟨ha, c1, c2, c3, c4, c5⟩ := e_copyP hc
    have k3 : ha.1 3 2 = nI m := by rw [c4, h62]
    obtain ⟨hb, b1, b2, b3⟩ := e_beginP m6 k3
    have s32 : (sI (sI (sI (sI hb 32 2 0) 32 3 0) 0 8 0) 1 1 0).1 3 2 = nI m := by
      show hb.1 3 2 = nI m
      rw [agr_cell b2 3 rfl, k3]
    have T1 : f_X11_takePeople 0 hc = some (nI m, sI (sI (sI (sI hb 32 2 0) 32 3 0) 0 8 0) 1 1 0) := by
      unfold f_X11_takePeople f_X1_clear
      rw [rv_0_1, rv_0_2, rv_0_6, rv_0_9, rv_0_0, c1, ov_some, b1, ov_some, nm_id, nm_id, ov_some, nm_id, nm_id, s32]
    have f2 : Agr W_X11_takePeople_i0 hc (sI (sI (sI (sI hb 32 2 0) 32 3 0) 0 8 0) 1 1 0) := w_f_X11_takePeople_i0 _ _ T1
    generalize hh1 : sI (sI (sI (sI hb 32 2 0) 32 3 0) 0 8 0) 1 1 0 = h1 at s32 T1 f2
    have k6 : h1.1 56 6 = nI v.L := by rw [agr_cell f2 56 rfl]; exact R1.mL
    have k57 : h1.1 57 = h.1 57 := by rw [agr_cell f2 57 rfl, agr_cell f1 57 rfl]
    obtain ⟨r', hc', hm, e1', e2, e3, lo, e5'⟩ := rd0 (k := sI (sI h1 56 0 0) 56 0 0) R k6 k57
    rw [e1] at e1'
    have er : -1 = r' := congrArg Prod.fst (Option.some.inj e1')
    have eh : hc = hc' := congrArg Prod.snd (Option.some.inj e1')
    obtain ⟨m', q2, q6, q62, q21, D⟩ := e5' er.symm
    rw [← eh] at q62 D
    have em : m' = m := by
      rw [h62] at q62
      exact ((nI_eq (by omega) (by omega)).mp q62).symm
    subst em
    have f4 : Agr W_X12_readPeople_i56 (sI (sI h1 56 0 0) 56 0 0) hm := w_f_X12_readPeople_i56 _ _ e2
    obtain ⟨H, t1, t2, t3, t4, t5⟩ := e_text125 (m := m') (g0 := sI (sI hm 56 6 0) 56 20 (nI m')) rfl
    refine ⟨nI m', h1, H, ?_, ?_, ?_⟩
    · unfold f_X11_text
      rw [if_pos rfl, rv_0_2, rv_0_0, e1, ob_some, if_pos rfl, T1, ob_some]
    · unfold f_X12_text f_X12_text_28 f_X12_fault f_X12_fault_42
      have s21 : (sI hm 56 6 0).1 56 21 = nI m' := q21
      rw [nm_id, e_isIn01, ob_some, is01_0, zi, if_pos rfl, if_neg (by decide), nm_id, e_isIn01, ob_some, is01_0, zi, if_pos rfl, if_pos rfl, e2, ov_some, ob_some, e3, ← er, if_pos rfl, nm_id, nm_id, if_neg (by decide), s21, nm_id, t1]
    · have B : Agr WMp h1 H := agr_tr (agr_sI (agr_sI (agr_tr (agr_sI (agr_sI (agr_refl h1) rfl) rfl) f4 rfl) rfl) rfl) t2 rfl
      have A : Agr WTp h H := agr_tr (agr_tr (agr_up f1 rfl) f2 rfl) B rfl
      have IT : ∀ q, q < m' → ∀ k, k < 7 → (itLo k ≤ (hc.1 7 (q * 7 + k)).toNatClampNeg ∧ (hc.1 7 (q * 7 + k)).toNatClampNeg ≤ itHi k) ∧ hc.1 7 (q * 7 + k) = nI (hc.1 7 (q * 7 + k)).toNatClampNeg ∧ hm.1 61 (42 + (q * 7 + k)) = nI (hc.1 7 (q * 7 + k)).toNatClampNeg := by
        intro q hq k hk
        obtain ⟨x, x1, x2, x3, x4⟩ := D q hq k hk
        have := itHi99 k hk
        rw [x3, nI_clamp (by omega)]
        exact ⟨⟨x1, x2⟩, rfl, x4⟩
      have h4 : ∀ j, j < 42 → H.1 4 j = hc.1 7 j := by
        intro j hj
        rw [agr_cell B 4 rfl, ← hh1]
        show hb.1 4 j = _
        rw [agr_cell b2 4 rfl]
        exact c2 j hj
      have h61 : ∀ j, j < 42 → H.1 61 j = hm.1 61 (42 + j) := fun j hj => t4 j hj
      have hB : ∀ j, j < 6 → H.1 25 j = (if j < m' then nI j else -1) ∧ H.1 26 j = (if j < m' then nI j else -1) ∧ H.1 27 j = if j < m' then ha.1 4 (j * 7 + 2) else 0 := by
        intro j hj
        rw [agr_cell B 25 rfl, agr_cell B 26 rfl, agr_cell B 27 rfl, ← hh1]
        exact b3 j hj
      refine rel_mk (L := 0) (n := m') (rc := v.rc) (E := 0) (S := 0) (tx := v.tx) (it := fun q k => (hc.1 7 (q * 7 + k)).toNatClampNeg) (ro := fun _ => -1) (has := fun p => nI p) (pl := fun p => nI p) (wo := fun q => (hc.1 7 (q * 7 + 2)).toNatClampNeg) (cl := v.cl) (co := v.co) (di := v.di) (se := v.se) (sw := v.sw) (ss := v.ss) (im := false) (kE := v.kE) (kS := v.kS) (kh := v.kh) (kp := v.kp) (kw := v.kw) ?_ ?_ ?_ (gR_eq (agr_on A rfl) R.2.2.2.1) ?_ ?_ ?_ ?_
      · refine ⟨Nat.zero_le _, ?_, ?_, fun j hj => absurd hj (by omega)⟩
        · rw [agr_cell B 1 rfl, ← hh1]
          rfl
        · rw [t2.1 56 6 rfl]
          rfl
      · refine ⟨Or.inr m2, m6, fun p hp i hi => (IT p hp i hi).1, ?_, ?_, fun p hp i hi => ⟨?_, ?_⟩, fun p hp => ?_⟩
        · rw [agr_cell B 3 rfl]
          exact s32
        · rw [t2.1 56 20 rfl]
          rfl
        · rw [h4 _ (by omega)]
          exact (IT p hp i hi).2.1
        · rw [h61 _ (by omega)]
          exact (IT p hp i hi).2.2
        · rw [(t5 p (by omega)).2.2.1, h61 _ (by omega)]
          exact (IT p hp 3 (by omega)).2.2
      · intro p hp
        refine ⟨Or.inl rfl, ?_, (t5 p (by omega)).2.2.2.2⟩
        rw [agr_cell B 5 rfl, ← hh1]
        show hb.1 5 p = _
        rw [agr_cell b2 5 rfl]
        exact c3 p (by omega)
      · refine ⟨⟨fun p hp => Or.inr ⟨p, hp, rfl, rfl⟩, fun q hq => Or.inl ⟨q, hq, rfl, rfl⟩, fun q hq => Nat.le_trans (IT q hq 2 (by omega)).1.2 (itHi99 2 (by omega))⟩, fun p hp => ⟨⟨?_, ?_, ?_⟩, (t5 p (by omega)).1, (t5 p (by omega)).2.1, ?_⟩, fun p hp h6 => ?_⟩
        · rw [(hB p (by omega)).1, if_pos hp]
        · rw [(hB p (by omega)).2.1, if_pos hp]
        · rw [(hB p (by omega)).2.2, if_pos hp, c2 _ (by omega)]
          exact (IT p hp 2 (by omega)).2.1
        · rw [(t5 p (by omega)).2.2.2.1, h61 _ (by omega)]
          exact (IT p hp 2 (by omega)).2.2
        · rw [(hB p h6).2.1, if_neg (by omega), if_neg (by omega)]
      · refine ⟨Nat.zero_le _, ?_, t3.1, fun e he => absurd he (by omega)⟩
        rw [agr_cell B 32 rfl, ← hh1]
        rfl
      · refine ⟨Nat.zero_le _, ?_, t3.2.1, fun e he => absurd he (by omega)⟩
        rw [agr_cell B 32 rfl, ← hh1]
        rfl
      · refine ⟨?_, t3.2.2, fun w => absurd w (by decide)⟩
        rw [agr_cell B 0 rfl, ← hh1]
        rfl
  · have R2 := (R1.thr (x := 0)).thr (x := 0)
    obtain ⟨r', hc', hm, e1', e2, e3, lo, _⟩ := rd0 (k := sI (sI hc 56 0 0) 56 0 0) R R2.mL (agr_cell f1 57 rfl)
    rw [e1] at e1'
    have er : r = r' := congrArg Prod.fst (Option.some.inj e1')
    have f4 : Agr W_X12_readPeople_i56 (sI (sI hc 56 0 0) 56 0 0) hm := w_f_X12_readPeople_i56 _ _ e2
    refine ⟨-1, hc, hm, ?_, ?_, v, rel_61 f4 lo rfl R2⟩
    · unfold f_X11_text f_X11_text_24 f_X11_text_53
      rw [if_pos rfl, rv_0_2, rv_0_0, e1, ob_some, if_neg z, if_neg (by decide)]
    · unfold f_X12_text f_X12_text_28 f_X12_fault f_X12_fault_42 f_X12_text_37
      rw [nm_id, e_isIn01, ob_some, is01_0, zi, if_pos rfl, if_neg (by decide), nm_id, e_isIn01, ob_some, is01_0, zi, if_pos rfl, if_pos rfl, e2, ov_some, ob_some, e3, ← er, if_neg z]
theorem g3 : G3 Rel := by
  intro h ⟨v, R⟩ a1
  by_cases c0 : a1 = 0
  · subst c0
    exact text0 R
  · by_cases c1 : a1 = 1
    · subst c1
      exact text1 R
    · refine ⟨-1, h, sI h 56 0 0, ?_, ?_, v, R.thr⟩
      · unfold f_X11_text f_X11_text_24 f_X11_text_53
        rw [if_neg c0, if_neg c1]
      · unfold f_X12_text f_X12_text_37
        rw [nm_id, e_isIn01, ob_some, decide_eq_false (n01 c0 c1), zi, if_neg (by decide)]
