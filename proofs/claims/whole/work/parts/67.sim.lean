/-! conditions -/
theorem rk_and (v w : Int32) (h1 : v = 0 ∨ v = 1) (h2 : w = 0 ∨ w = 1) : rkS 38 v w = (if v = 0 then 0 else if w = 0 then 0 else 1) := by
  unfold rkS
  rw [if_pos rfl]
  rcases h1 with rfl | rfl <;> rcases h2 with rfl | rfl <;> decide
theorem rk_or (v w : Int32) (h1 : v = 0 ∨ v = 1) (h2 : w = 0 ∨ w = 1) : rkS 124 v w = (if v = 0 then (if w = 0 then 0 else 1) else 1) := by
  unfold rkS
  rw [if_neg (show ¬ (124 : Int32) = 38 by decide), if_neg (show ¬ (124 : Int32) = 42 by decide), if_neg (show ¬ (124 : Int32) = 43 by decide), if_neg (show ¬ (124 : Int32) = 45 by decide), if_neg (show ¬ (124 : Int32) = 60 by decide), if_neg (show ¬ (124 : Int32) = 61 by decide), if_neg (show ¬ (124 : Int32) = 62 by decide), if_pos rfl]
  rcases h1 with rfl | rfl <;> rcases h2 with rfl | rfl <;> decide
theorem bz_b {v : Int32} (h : v = 0 ∨ v = 1) : bz v = true := decide_eq_true h
/-- behind a first unit: those that & joins -/
theorem loop_units {t : Nat → Nat} {L T b d : Nat} {lt : Nat → Int32} {K : Nat} {cC : Nat → Int32 → AH → Option (Int32 × AH)} {cM : Nat → AH → Option (Int32 × AH)} (hA : Sim t L T b lt K true d (fun h => cC 9 (nI d) h) (fun h => cM 56 h)) {p0 : Nat} {c0 : List Int32} (hc0 : c0.length ≤ p0) : ∀ n n' k p pm code v hc hm, cS t L p (c0 ++ code) hc → mS t L T b pm d lt hm → skp t L p = skp t L pm → p0 + code.length ≤ p → p0 < p → (∀ x ∈ code, gcd x) → (v = 0 ∨ v = 1) → (LB lt → EvS lt (K + 1) code v) → k ≤ p → L - p < n → L - p < n' → Res t L T b lt (K + 1) true d p0 c0 (f_X8_readMoreUnits_2 cC n 9 (nI d) (nI k) hc) (f_X12_part_18 cM n' 56 v hm) := by
  intro n
  induction n with
  | zero => intro n' k p pm code v hc hm _ _ _ _ _ _ _ _ _ h; omega
  | succ n ih =>
    intro n' k p pm code v hc hm sc sm sp l1 l2 gc v01 ev hk hn hn'
    obtain ⟨n', rfl⟩ : ∃ z, n' = z + 1 := ⟨n' - 1, by omega⟩
    have hpL := cS_p sc
    have hge : p ≤ skp t L p := skp_ge hpL.1
    have hle : skp t L p ≤ L := skp_le hpL.1
    obtain ⟨g1, f1, z1⟩ := m_look sm
    rw [← sp] at f1 z1
    have ok : ∀ hc1 q, cS t L q (c0 ++ code) hc1 → p ≤ q → skp t L q = skp t L p → Res t L T b lt (K + 1) true d p0 c0 (some (1, hc1)) (some (v, g1)) := fun hc1 q s q1 q2 => Or.inl ⟨q, skp t L p, code, hc1, g1, v, rfl, rfl, s, z1, by rw [q2, skp_idem hpL.1], by omega, by omega, gc, fun _ => v01, fun B => ⟨ev B, fun z => absurd z (by decide)⟩⟩
    rw [f_X8_readMoreUnits_2, f_X12_part_18, if_pos sm.2.1, f1, ob_some]
    have P := c_pass 38 (by decide) sc
    by_cases k160 : 160 ≤ k
    · have pL : skp t L p = L := by omega
      have e : chr t L (skp t L p) = -1 := by unfold chr; rw [if_neg (by omega)]
      rw [show (160 : Int32) = nI 160 from rfl, if_pos (by rw [nI_leI (by decide) (by omega)]; exact k160), e, if_neg (by decide), f_X8_readMoreUnits_43, f_X12_part_69, og_t (bz_b v01)]
      exact ok hc p sc (Nat.le_refl _) rfl
    · rw [show (160 : Int32) = nI 160 from rfl, if_neg (by rw [nI_leI (by decide) (by omega)]; exact k160), rv_9_0]
      by_cases c1 : chr t L (skp t L p) = nI 38
      · obtain ⟨h2, e2, s2, pl⟩ := P.1 c1
        have e2' : f_X10_pass 1 38 hc = some (1, h2) := e2
        rw [e2', ob_some, if_neg (by decide), if_pos (show chr t L (skp t L p) = 38 from c1), nm_id]
        have hl : (c0 ++ code).length ≤ p := by simp; omega
        rcases hA (skp t L p + 1) (skp t L p + 1) (c0 ++ code) _ _ s2 (m_adv z1 pl) rfl (by omega) with ⟨p', pm', code', hc', hm', w, r1, r2, r3, r4, r5, r6, r7, r8, r9, r10⟩ | ⟨p', hc', hm', w, r1, r2, r3, r4, r5⟩
        · have r1' : cC 9 (nI d) h2 = some (1, hc') := r1
          have r2' : cM 56 (sI g1 56 10 (g1.1 56 10 + 1)) = some (w, hm') := r2
          have w01 := r9 rfl
          have hp' := cS_p r3
          have hlen : (c0 ++ code ++ code').length < 161 := by
            simp at hl ⊢
            omega
          obtain ⟨h4, e4, s4⟩ := c_write (-38) r3 hlen
          rw [app_a] at s4
          have x01 : rkS 38 v w = 0 ∨ rkS 38 v w = 1 := by
            rw [rk_and v w v01 w01]
            split
            · exact Or.inl rfl
            · split
              · exact Or.inl rfl
              · exact Or.inr rfl
          have eM : (if v = 0 then f_X12_part_64 cM (f_X12_part_18 cM n') 56 hm' else if w = 0 then f_X12_part_64 cM (f_X12_part_18 cM n') 56 hm' else f_X12_part_65 cM (f_X12_part_18 cM n') 56 1 hm') = f_X12_part_18 cM n' 56 (rkS 38 v w) hm' := by
            rw [rk_and v w v01 w01]
            split
            · rfl
            · split <;> rfl
          rw [r1', ob_some, if_neg (by decide), e4, ov_some, nm_id, nI_1, r2', ob_some, eM]
          refine ih n' (k + 1) p' pm' (code ++ (code' ++ [-38])) _ h4 hm' s4 r4 r5 (by simp; omega) (by omega) (fun y hy => mem3 gc r8 ⟨by decide, by decide, by decide⟩ hy) x01 (fun B => ?_) (by omega) (by omega) (by omega)
          exact ev_bin (K := K + 1) (o := -38) (ev B) (r10 B).1 (Nat.le_refl _) (Nat.le_refl _) (by decide) (by decide)
        · right
          have r1' : cC 9 (nI d) h2 = some (0, hc') := r1
          have r2' : cM 56 (sI g1 56 10 (g1.1 56 10 + 1)) = some (w, hm') := r2
          have w01 := r5 rfl
          have x01 : rkS 38 v w = 0 ∨ rkS 38 v w = 1 := by
            rw [rk_and v w v01 w01]
            split
            · exact Or.inl rfl
            · split
              · exact Or.inl rfl
              · exact Or.inr rfl
          refine ⟨p', hc', hm', rkS 38 v w, by rw [r1', ob_some, if_pos rfl], ?_, r3, r4, fun _ => x01⟩
          have eM : (if v = 0 then f_X12_part_64 cM (f_X12_part_18 cM n') 56 hm' else if w = 0 then f_X12_part_64 cM (f_X12_part_18 cM n') 56 hm' else f_X12_part_65 cM (f_X12_part_18 cM n') 56 1 hm') = f_X12_part_18 cM n' 56 (rkS 38 v w) hm' := by
            rw [rk_and v w v01 w01]
            split
            · rfl
            · split <;> rfl
          obtain ⟨n'', rfl⟩ : ∃ z, n' = z + 1 := ⟨n' - 1, by omega⟩
          rw [r2', ob_some, eM, f_X12_part_18, if_neg (mF_n r4), f_X12_part_69, og_t (bz_b x01)]
      · obtain ⟨h2, e2, s2⟩ := P.2 c1
        have e2' : f_X10_pass 1 38 hc = some (0, h2) := e2
        have c1' : ¬ chr t L (skp t L p) = 38 := c1
        rw [e2', ob_some, if_pos rfl, if_neg c1', f_X8_readMoreUnits_43, f_X12_part_69, og_t (bz_b v01)]
        exact ok h2 _ s2 hge (skp_idem hpL.1)
theorem part_f {cM : Nat → AH → Option (Int32 × AH)} {p : Nat} {h : AH} {v : Int32} (f : mF p h) (v01 : v = 0 ∨ v = 1) : f_X12_part_17 cM 56 v h = some (v, h) := by
  rw [f_X12_part_17, show FU = 4095 + 1 from rfl, f_X12_part_18, if_neg (mF_n f), f_X12_part_69, og_t (bz_b v01)]
theorem cond_f {cM : Nat → AH → Option (Int32 × AH)} {p : Nat} {h : AH} {v : Int32} (f : mF p h) (v01 : v = 0 ∨ v = 1) : f_X12_condition_7 cM FU 56 v h = some (v, h) := by
  rw [show FU = 4095 + 1 from rfl, f_X12_condition_7, if_neg (mF_n f), f_X12_condition_60, og_t (bz_b v01)]
theorem sim_truth {t : Nat → Nat} {L T b d : Nat} {lt : Nat → Int32} {K : Nat} {cC : Nat → Int32 → AH → Option (Int32 × AH)} {cM : Nat → AH → Option (Int32 × AH)} (hA : Sim t L T b lt K true d (fun h => cC 9 (nI d) h) (fun h => cM 56 h)) : Sim t L T b lt (K + 1) true d (fun h => f_X8_readTruth cC 9 (nI d) h) (fun h => f_X12_part cM 56 0 0 h) := by
  intro pc pm c hc hm sc sm hs hlen
  simp only [f_X8_readTruth, f_X12_part, if_true]
  rcases hA pc pm c hc hm sc sm hs hlen with ⟨p', pm', code, hc', hm', v, r1, r2, r3, r4, r5, r6, r7, r8, r9, r10⟩ | ⟨p', hc', hm', v, r1, r2, r3, r4, r5⟩
  · have r1' : cC 9 (nI d) hc = some (1, hc') := r1
    have r2' : cM 56 hm = some (v, hm') := r2
    have hp' := cS_p r3
    rw [r1', r2', ob_some, ob_some, if_neg (by decide), f_X8_readMoreUnits, f_X12_part_17]
    rcases loop_units hA hlen FU FU 0 p' pm' code v hc' hm' r3 r4 r5 r6 r7 r8 (r9 rfl) (fun B => ev_mono (r10 B).1 (by omega)) (by omega) (by unfold FU; omega) (by unfold FU; omega) with ⟨q', qm', cod, h5, h6, w, t1, t2, t3⟩ | ⟨q', h5, h6, w, t1, t2, t3⟩
    · have t1' : f_X8_readMoreUnits_2 cC FU 9 (nI d) 0 hc' = some (1, h5) := t1
      exact Or.inl ⟨q', qm', cod, h5, h6, w, by rw [t1', ob_some, if_neg (by decide)]; rfl, t2, t3⟩
    · have t1' : f_X8_readMoreUnits_2 cC FU 9 (nI d) 0 hc' = some (0, h5) := t1
      exact Or.inr ⟨q', h5, h6, w, by rw [t1', ob_some, if_pos rfl]; rfl, t2, t3⟩
  · have r1' : cC 9 (nI d) hc = some (0, hc') := r1
    have r2' : cM 56 hm = some (v, hm') := r2
    exact Or.inr ⟨p', hc', hm', v, by rw [r1', ob_some, if_pos rfl]; rfl, by rw [r2', ob_some]; exact part_f r4 (r5 rfl), r3, r4, r5⟩
/-- behind a first truth: those that | joins -/
theorem loop_truths {t : Nat → Nat} {L T b d : Nat} {lt : Nat → Int32} {K : Nat} {cC : Nat → Int32 → AH → Option (Int32 × AH)} {cM : Nat → AH → Option (Int32 × AH)} (hA : Sim t L T b lt K true d (fun h => f_X8_readTruth cC 9 (nI d) h) (fun h => f_X12_part cM 56 0 0 h)) {p0 : Nat} {c0 : List Int32} (hc0 : c0.length ≤ p0) : ∀ n n' k p pm code v hc hm, cS t L p (c0 ++ code) hc → mS t L T b pm d lt hm → skp t L p = skp t L pm → p0 + code.length ≤ p → p0 < p → (∀ x ∈ code, gcd x) → (v = 0 ∨ v = 1) → (LB lt → EvS lt (K + 1) code v) → k ≤ p → L - p < n → L - p < n' → Res t L T b lt (K + 1) true d p0 c0 (f_X8_readMoreTruths_2 cC n 9 (nI d) (nI k) hc) (f_X12_condition_7 cM n' 56 v hm) := by
  intro n
  induction n with
  | zero => intro n' k p pm code v hc hm _ _ _ _ _ _ _ _ _ h; omega
  | succ n ih =>
    intro n' k p pm code v hc hm sc sm sp l1 l2 gc v01 ev hk hn hn'
    obtain ⟨n', rfl⟩ : ∃ z, n' = z + 1 := ⟨n' - 1, by omega⟩
    have hpL := cS_p sc
    have hge : p ≤ skp t L p := skp_ge hpL.1
    have hle : skp t L p ≤ L := skp_le hpL.1
    obtain ⟨g1, f1, z1⟩ := m_look sm
    rw [← sp] at f1 z1
    have ok : ∀ hc1 q, cS t L q (c0 ++ code) hc1 → p ≤ q → skp t L q = skp t L p → Res t L T b lt (K + 1) true d p0 c0 (some (1, hc1)) (some (v, g1)) := fun hc1 q s q1 q2 => Or.inl ⟨q, skp t L p, code, hc1, g1, v, rfl, rfl, s, z1, by rw [q2, skp_idem hpL.1], by omega, by omega, gc, fun _ => v01, fun B => ⟨ev B, fun z => absurd z (by decide)⟩⟩
    rw [f_X8_readMoreTruths_2, f_X12_condition_7, if_pos sm.2.1, f1, ob_some]
    have P := c_pass 124 (by decide) sc
    by_cases k160 : 160 ≤ k
    · have pL : skp t L p = L := by omega
      have e : chr t L (skp t L p) = -1 := by unfold chr; rw [if_neg (by omega)]
      rw [show (160 : Int32) = nI 160 from rfl, if_pos (by rw [nI_leI (by decide) (by omega)]; exact k160), e, if_neg (by decide), f_X8_readMoreTruths_43, f_X12_condition_60, og_t (bz_b v01)]
      exact ok hc p sc (Nat.le_refl _) rfl
    · rw [show (160 : Int32) = nI 160 from rfl, if_neg (by rw [nI_leI (by decide) (by omega)]; exact k160), rv_9_0]
      by_cases c1 : chr t L (skp t L p) = nI 124
      · obtain ⟨h2, e2, s2, pl⟩ := P.1 c1
        have e2' : f_X10_pass 1 124 hc = some (1, h2) := e2
        rw [e2', ob_some, if_neg (by decide), if_pos (show chr t L (skp t L p) = 124 from c1), nm_id]
        have hl : (c0 ++ code).length ≤ p := by simp; omega
        have eM : ∀ w hm', (w = 0 ∨ w = 1) → (if v = 0 then if w = 0 then f_X12_condition_56 cM (f_X12_condition_7 cM n') 56 0 hm' else f_X12_condition_51 cM (f_X12_condition_7 cM n') 56 hm' else f_X12_condition_51 cM (f_X12_condition_7 cM n') 56 hm') = f_X12_condition_7 cM n' 56 (rkS 124 v w) hm' := by
          intro w hm' w01
          rw [rk_or v w v01 w01]
          split
          · split <;> rfl
          · rfl
        have x01 : ∀ w, (w = 0 ∨ w = 1) → rkS 124 v w = 0 ∨ rkS 124 v w = 1 := by
          intro w w01
          rw [rk_or v w v01 w01]
          split
          · split
            · exact Or.inl rfl
            · exact Or.inr rfl
          · exact Or.inr rfl
        rcases hA (skp t L p + 1) (skp t L p + 1) (c0 ++ code) _ _ s2 (m_adv z1 pl) rfl (by omega) with ⟨p', pm', code', hc', hm', w, r1, r2, r3, r4, r5, r6, r7, r8, r9, r10⟩ | ⟨p', hc', hm', w, r1, r2, r3, r4, r5⟩
        · have r1' : f_X8_readTruth cC 9 (nI d) h2 = some (1, hc') := r1
          have r2' : f_X12_part cM 56 0 0 (sI g1 56 10 (g1.1 56 10 + 1)) = some (w, hm') := r2
          have w01 := r9 rfl
          have hp' := cS_p r3
          have hlen : (c0 ++ code ++ code').length < 161 := by
            simp at hl ⊢
            omega
          obtain ⟨h4, e4, s4⟩ := c_write (-124) r3 hlen
          rw [app_a] at s4
          rw [r1', ob_some, if_neg (by decide), e4, ov_some, nm_id, nI_1, r2', ob_some, eM w hm' w01]
          refine ih n' (k + 1) p' pm' (code ++ (code' ++ [-124])) _ h4 hm' s4 r4 r5 (by simp; omega) (by omega) (fun y hy => mem3 gc r8 ⟨by decide, by decide, by decide⟩ hy) (x01 w w01) (fun B => ?_) (by omega) (by omega) (by omega)
          exact ev_bin (K := K + 1) (o := -124) (ev B) (r10 B).1 (Nat.le_refl _) (Nat.le_refl _) (by decide) (by decide)
        · right
          have r1' : f_X8_readTruth cC 9 (nI d) h2 = some (0, hc') := r1
          have r2' : f_X12_part cM 56 0 0 (sI g1 56 10 (g1.1 56 10 + 1)) = some (w, hm') := r2
          have w01 := r5 rfl
          refine ⟨p', hc', hm', rkS 124 v w, by rw [r1', ob_some, if_pos rfl], ?_, r3, r4, fun _ => x01 w w01⟩
          obtain ⟨n'', rfl⟩ : ∃ z, n' = z + 1 := ⟨n' - 1, by omega⟩
          rw [r2', ob_some, eM w hm' w01, f_X12_condition_7, if_neg (mF_n r4), f_X12_condition_60, og_t (bz_b (x01 w w01))]
      · obtain ⟨h2, e2, s2⟩ := P.2 c1
        have e2' : f_X10_pass 1 124 hc = some (0, h2) := e2
        have c1' : ¬ chr t L (skp t L p) = 124 := c1
        rw [e2', ob_some, if_pos rfl, if_neg c1', f_X8_readMoreTruths_43, f_X12_condition_60, og_t (bz_b v01)]
        exact ok h2 _ s2 hge (skp_idem hpL.1)
theorem sim_cond {t : Nat → Nat} {L T b d : Nat} {lt : Nat → Int32} {K : Nat} {cC : Nat → Int32 → AH → Option (Int32 × AH)} {cM : Nat → AH → Option (Int32 × AH)} (hA : Sim t L T b lt K true d (fun h => cC 9 (nI d) h) (fun h => cM 56 h)) : Sim t L T b lt (K + 2) true d (fun h => f_X8_readCondition cC 9 (nI d) h) (fun h => f_X12_condition cM 56 0 0 h) := by
  intro pc pm c hc hm sc sm hs hlen
  simp only [f_X8_readCondition, f_X12_condition]
  have hT := sim_truth hA
  rcases hT pc pm c hc hm sc sm hs hlen with ⟨p', pm', code, hc', hm', v, r1, r2, r3, r4, r5, r6, r7, r8, r9, r10⟩ | ⟨p', hc', hm', v, r1, r2, r3, r4, r5⟩
  · have r1' : f_X8_readTruth cC 9 (nI d) hc = some (1, hc') := r1
    have r2' : f_X12_part cM 56 0 0 hm = some (v, hm') := r2
    have hp' := cS_p r3
    rw [r1', r2', ob_some, ob_some, if_neg (by decide), f_X8_readMoreTruths]
    rcases loop_truths hT hlen FU FU 0 p' pm' code v hc' hm' r3 r4 r5 r6 r7 r8 (r9 rfl) (fun B => ev_mono (r10 B).1 (by omega)) (by omega) (by unfold FU; omega) (by unfold FU; omega) with ⟨q', qm', cod, h5, h6, w, t1, t2, t3⟩ | ⟨q', h5, h6, w, t1, t2, t3⟩
    · have t1' : f_X8_readMoreTruths_2 cC FU 9 (nI d) 0 hc' = some (1, h5) := t1
      exact Or.inl ⟨q', qm', cod, h5, h6, w, by rw [t1', ob_some, if_neg (by decide)]; rfl, t2, t3⟩
    · have t1' : f_X8_readMoreTruths_2 cC FU 9 (nI d) 0 hc' = some (0, h5) := t1
      exact Or.inr ⟨q', h5, h6, w, by rw [t1', ob_some, if_pos rfl]; rfl, t2, t3⟩
  · have r1' : f_X8_readTruth cC 9 (nI d) hc = some (0, hc') := r1
    have r2' : f_X12_part cM 56 0 0 hm = some (v, hm') := r2
    exact Or.inr ⟨p', hc', hm', v, by rw [r1', ob_some, if_pos rfl]; rfl, by rw [r2', ob_some]; exact cond_f r4 (r5 rfl), r3, r4, r5⟩
