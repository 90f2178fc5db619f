theorem loop_sum {t : Nat → Nat} {L T b d : Nat} {lt : Nat → Int32} {K : Nat} {cC : Nat → Int32 → AH → Option (Int32 × AH)} {cM : Nat → AH → Option (Int32 × AH)} (hA : Sim t L T b lt K false d (fun h => f_X8_readTerm cC 9 (nI d) h) (fun h => f_X12_term cM 56 h)) {p0 : Nat} {c0 : List Int32} (hc0 : c0.length ≤ p0) : ∀ n n' k p pm code v hc hm, cS t L p (c0 ++ code) hc → mS t L T b pm d lt hm → skp t L p = p → skp t L pm = p → p0 + code.length ≤ p → p0 < p → (∀ x ∈ code, gcd x) → (LB lt → EvS lt (K + 1) code v ∧ bdd v) → k ≤ p → L - p < n → L - p < n' → Res t L T b lt (K + 1) false d p0 c0 (f_X8_readSum_20 cC n 9 (nI d) (chr t L p) (nI k) hc) (f_X12_sum_5 cM n' 56 v hm) := by
  intro n
  induction n with
  | zero => intro n' k p pm code v hc hm _ _ _ _ _ _ _ _ _ h; omega
  | succ n ih =>
    intro n' k p pm code v hc hm sc sm sp spm l1 l2 gc ev hk hn hn'
    obtain ⟨n', rfl⟩ : ∃ z, n' = z + 1 := ⟨n' - 1, by omega⟩
    have hpL := cS_p sc
    obtain ⟨g1, f1, z1⟩ := m_look sm
    rw [spm] at f1 z1
    obtain ⟨g2, f2, z2⟩ := m_look z1
    rw [sp] at f2 z2
    have ok : Res t L T b lt (K + 1) false d p0 c0 (some (1, hc)) (some (v, g2)) := Or.inl ⟨p, p, code, hc, g2, v, rfl, rfl, sc, z2, rfl, l1, l2, gc, fun z => absurd z (by decide), fun B => ⟨(ev B).1, fun _ => (ev B).2⟩⟩
    rw [f_X8_readSum_20, f_X12_sum_5, if_pos sm.2.1, f1, ob_some]
    by_cases k160 : 160 ≤ k
    · have pL : p = L := by omega
      have e : chr t L p = -1 := by unfold chr; rw [if_neg (by omega)]
      rw [show (160 : Int32) = nI 160 from rfl, if_pos (by rw [nI_leI (by decide) (by omega)]; exact k160), f2, e, if_neg (by decide), ob_some, if_neg (by decide)]
      exact ok
    · rw [show (160 : Int32) = nI 160 from rfl, if_neg (by rw [nI_leI (by decide) (by omega)]; exact k160)]
      have step : ∀ (o : Int32) (hm2 : AH) (r : Option (Int32 × AH)), p < L → -o < 0 → - -o = o → -o ≠ -33 → gcd (-o) → mS t L T b (p + 1) d lt hm2 → (∀ v2 hm3, f_X12_term cM 56 hm2 = some (v2, hm3) → ∃ x, r = f_X12_sum_5 cM n' 56 x hm3 ∧ bdd x ∧ (bdd v → bdd v2 → x = rkS o v v2)) → Res t L T b lt (K + 1) false d p0 c0 (f_X8_readSum_39 cC (f_X8_readSum_20 cC n) 9 (nI d) o (nI k) hc) r := by
        intro o hm2 r pl o1 o2 o3 o4 m2 hr
        unfold f_X8_readSum_39
        rw [rv_9_0, nm_id]
        have hl : (c0 ++ code).length ≤ p := by simp; omega
        rcases hA (p + 1) (p + 1) (c0 ++ code) _ _ (c_adv sc pl) m2 rfl (by omega) with ⟨p', pm', code', hc', hm', v2, r1, r2, r3, r4, r5, r6, r7, r8, r9, r10⟩ | ⟨p', hc', hm', v2, r1, r2, r3, r4, r5⟩
        · have r1' : f_X8_readTerm cC 9 (nI d) (sI hc 1 2 (hc.1 1 2 + 1)) = some (1, hc') := r1
          have hp' := cS_p r3
          have hpm' := mS_p r4
          obtain ⟨x, ex, bx, qx⟩ := hr v2 hm' r2
          have hlen : (c0 ++ code ++ code').length < 161 := by
            simp at hl ⊢
            omega
          obtain ⟨h4, e4, s4⟩ := c_write (-o) r3 hlen
          obtain ⟨h5, e5, s5⟩ := c_next s4
          have gg := skp_ge (t := t) hp'.1
          rw [r1', ob_some, if_neg (by decide), e4, ov_some, e5, ob_some, nm_id, nI_1, ex]
          rw [app_a] at s5
          have spp := skp_idem (t := t) hp'.1
          refine ih n' (k + 1) (skp t L p') pm' (code ++ (code' ++ [-o])) x h5 hm' s5 r4 spp r5.symm (by simp; omega) (by omega) (fun y hy => mem3 gc r8 o4 hy) (fun B => ⟨?_, bx⟩) (by omega) (by omega) (by omega)
          have E := ev_bin (K := K + 1) (ev B).1 (r10 B).1 (Nat.le_refl _) (Nat.le_refl _) o1 o3
          rw [o2] at E
          rw [qx (ev B).2 ((r10 B).2 rfl)]
          exact E
        · have r1' : f_X8_readTerm cC 9 (nI d) (sI hc 1 2 (hc.1 1 2 + 1)) = some (0, hc') := r1
          obtain ⟨x, ex, bx, qx⟩ := hr v2 hm' r2
          right
          refine ⟨p', hc', hm', x, by rw [r1', ob_some, if_pos rfl], ?_, r3, r4, fun z => absurd z (by decide)⟩
          obtain ⟨n'', rfl⟩ : ∃ z, n' = z + 1 := ⟨n' - 1, by omega⟩
          rw [ex, f_X12_sum_5, if_neg (mF_n r4)]
          rfl
      by_cases c1 : chr t L p = 43
      · have pl := (chr_n (x := 43) c1 (by decide)).1
        rw [if_pos c1, if_pos c1, c1]
        have f2' : f_X12_look 56 g1 = some (43, g2) := by rw [f2, c1]
        refine step 43 (sI g2 56 10 (g2.1 56 10 + 1)) _ pl (by decide) (by decide) (by decide) ⟨by decide, by decide, by decide⟩ (m_adv z2 pl) (fun v2 hm3 e => ?_)
        obtain ⟨x, ex, bx, qx⟩ := val_add v v2 hm3
        refine ⟨x, ?_, bx, qx⟩
        rw [f_X12_sum_31, f2', ob_some, if_pos rfl, f_X12_sum_45, nm_id, e, ob_some, nm_id, if_neg (by decide), f_X12_sum_77, ex, ob_some]
      · rw [if_neg c1, if_neg c1, f2, ob_some]
        by_cases c2 : chr t L p = 45
        · have pl := (chr_n (x := 45) c2 (by decide)).1
          obtain ⟨g3, f3, z3⟩ := m_look z2
          rw [sp] at f3 z3
          rw [if_pos c2, if_pos c2, c2]
          have f3' : f_X12_look 56 g2 = some (45, g3) := by rw [f3, c2]
          refine step 45 (sI g3 56 10 (g3.1 56 10 + 1)) _ pl (by decide) (by decide) (by decide) ⟨by decide, by decide, by decide⟩ (m_adv z3 pl) (fun v2 hm3 e => ?_)
          obtain ⟨x, ex, bx, qx⟩ := val_sub v v2 hm3
          refine ⟨x, ?_, bx, qx⟩
          rw [f_X12_sum_31, f3', ob_some, if_neg (by decide), f_X12_sum_45, nm_id, e, ob_some, nm_id, if_pos rfl, f_X12_sum_77, ex, ob_some]
        · rw [if_neg c2, if_neg c2]
          exact ok
theorem sim_sum {t : Nat → Nat} {L T b d : Nat} {lt : Nat → Int32} {K : Nat} {cC : Nat → Int32 → AH → Option (Int32 × AH)} {cM : Nat → AH → Option (Int32 × AH)} (hA : Sim t L T b lt K false d (fun h => f_X8_readTerm cC 9 (nI d) h) (fun h => f_X12_term cM 56 h)) : Sim t L T b lt (K + 1) false d (fun h => f_X8_readSum cC 9 (nI d) h) (fun h => f_X12_sum cM 56 h) := by
  intro pc pm c hc hm sc sm hs hlen
  simp only [f_X8_readSum, f_X12_sum, rv_9_0]
  rcases hA pc pm c hc hm sc sm hs hlen with ⟨p', pm', code, hc', hm', v, r1, r2, r3, r4, r5, r6, r7, r8, r9, r10⟩ | ⟨p', hc', hm', v, r1, r2, r3, r4, r5⟩
  · have r1' : f_X8_readTerm cC 9 (nI d) hc = some (1, hc') := r1
    have r2' : f_X12_term cM 56 hm = some (v, hm') := r2
    have hp' := cS_p r3
    obtain ⟨h4, e4, s4⟩ := c_next r3
    have gg := skp_ge (t := t) hp'.1
    rw [r1', r2', ob_some, ob_some, if_neg (by decide), e4, ob_some]
    exact loop_sum hA hlen FU FU 0 (skp t L p') pm' code v h4 hm' s4 r4 (skp_idem hp'.1) r5.symm (by omega) (by omega) r8 (fun B => ⟨ev_mono (r10 B).1 (by omega), (r10 B).2 rfl⟩) (by omega) (by unfold FU; omega) (by unfold FU; omega)
  · have r1' : f_X8_readTerm cC 9 (nI d) hc = some (0, hc') := r1
    have r2' : f_X12_term cM 56 hm = some (v, hm') := r2
    right
    refine ⟨p', hc', hm', v, by rw [r1', ob_some, if_pos rfl], ?_, r3, r4, fun z => absurd z (by decide)⟩
    rw [r2', ob_some, show FU = 4095 + 1 from rfl, f_X12_sum_5, if_neg (mF_n r4)]
    rfl
theorem sim_sumR {t : Nat → Nat} {L T b : Nat} {lt : Nat → Int32} : ∀ n d, d ≤ 6 → 7 - d ≤ n → Sim t L T b lt (15 - 2 * d) false d (fun h => r_X8_readSum n 9 (nI d) h) (fun h => r_X12_sum n 56 h) := by
  intro n
  induction n with
  | zero => intro d h1 h2; omega
  | succ n ih =>
    intro d h1 h2
    have A : Sim t L T b lt (13 - 2 * d) false d (fun h => f_X8_readAtom (r_X8_readSum n) 9 (nI d) h) (fun h => f_X12_atom (r_X12_sum n) 56 h) := sim_atom h1 (by omega) (fun q => by
      have := ih (d + 1) (by omega) (by omega)
      rw [show 15 - 2 * (d + 1) = 13 - 2 * d by omega] at this
      exact this)
    have S := sim_sum (sim_term A)
    rw [show 13 - 2 * d + 1 + 1 = 15 - 2 * d by omega] at S
    exact S
theorem sim_S {t : Nat → Nat} {L T b : Nat} {lt : Nat → Int32} {d : Nat} (hd : d ≤ 6) : Sim t L T b lt (15 - 2 * d) false d (fun h => r_X8_readSum 12 9 (nI d) h) (fun h => r_X12_sum 12 56 h) := sim_sumR 12 d hd (by omega)
/-! relations -/
def rlB (x : Int32) : Bool := decide (x = 61 ∨ x = 60 ∨ x = 62)
theorem e_isRel (x : Int32) (h : AH) : f_X8_isRelation x h = some (zb (rlB x), h) := by
  unfold f_X8_isRelation rlB
  by_cases c1 : x = 61
  · simp [c1, f_X8_isRelation_18, f_X8_isRelation_23]
    rfl
  · by_cases c2 : x = 60
    · simp [c2, f_X8_isRelation_18, f_X8_isRelation_23]
      rfl
    · by_cases c3 : x = 62
      · simp [c3, f_X8_isRelation_18, f_X8_isRelation_23]
        rfl
      · simp [c1, c2, c3, f_X8_isRelation_18, f_X8_isRelation_23]
        rfl
theorem e_isSign (x : Int32) (h : AH) : f_X12_isSign x h = some (zb (rlB x), h) := by
  unfold f_X12_isSign rlB
  by_cases c1 : x = 61
  · simp [c1, f_X12_isSign_18, f_X12_isSign_23]
    rfl
  · by_cases c2 : x = 60
    · simp [c2, f_X12_isSign_18, f_X12_isSign_23]
      rfl
    · by_cases c3 : x = 62
      · simp [c3, f_X12_isSign_18, f_X12_isSign_23]
        rfl
      · simp [c1, c2, c3, f_X12_isSign_18, f_X12_isSign_23]
        rfl
theorem rk_rel (x v w : Int32) (h : rlB x = true) : rkS x v w = if x = 61 then (if v = w then 1 else 0) else if x = 60 then (if w ≤ v then 0 else 1) else (if v ≤ w then 0 else 1) := by
  unfold rlB at h
  rw [decide_eq_true_eq] at h
  unfold rkS
  rcases h with rfl | rfl | rfl
  · rw [if_neg (by decide), if_neg (by decide), if_neg (by decide), if_neg (by decide), if_neg (by decide), if_pos rfl, if_pos rfl]
  · rw [if_neg (show ¬ (60 : Int32) = 38 by decide), if_neg (show ¬ (60 : Int32) = 42 by decide), if_neg (show ¬ (60 : Int32) = 43 by decide), if_neg (show ¬ (60 : Int32) = 45 by decide), if_pos (show (60 : Int32) = 60 from rfl), if_neg (show ¬ (60 : Int32) = 61 by decide), if_pos (show (60 : Int32) = 60 from rfl)]
  · rw [if_neg (show ¬ (62 : Int32) = 38 by decide), if_neg (show ¬ (62 : Int32) = 42 by decide), if_neg (show ¬ (62 : Int32) = 43 by decide), if_neg (show ¬ (62 : Int32) = 45 by decide), if_neg (show ¬ (62 : Int32) = 60 by decide), if_neg (show ¬ (62 : Int32) = 61 by decide), if_pos (show (62 : Int32) = 62 from rfl), if_neg (show ¬ (62 : Int32) = 61 by decide), if_neg (show ¬ (62 : Int32) = 60 by decide)]
theorem rk_01 (x v w : Int32) (h : rlB x = true) : rkS x v w = 0 ∨ rkS x v w = 1 := by
  rw [rk_rel x v w h]
  split
  · split
    · exact Or.inr rfl
    · exact Or.inl rfl
  · split
    · split
      · exact Or.inl rfl
      · exact Or.inr rfl
    · split
      · exact Or.inl rfl
      · exact Or.inr rfl
/-- behind a first sum: its sign and the other sum -/
theorem sim_rel {t : Nat → Nat} {L T b d : Nat} {lt : Nat → Int32} (hd : d ≤ 6) {p0 : Nat} {c0 : List Int32} (hc0 : c0.length ≤ p0) {p pm : Nat} {code : List Int32} {v : Int32} {hc hm : AH} (sc : cS t L p (c0 ++ code) hc) (sm : mS t L T b pm d lt hm) (sp : skp t L p = skp t L pm) (l1 : p0 + code.length ≤ p) (l2 : p0 < p) (gc : ∀ x ∈ code, gcd x) (ev : LB lt → EvS lt (15 - 2 * d) code v ∧ bdd v) : Res t L T b lt (16 - 2 * d) true d p0 c0 (f_X8_readRelation 9 (nI d) hc) (f_X12_compares_12 56 v hm) := by
  have hpL := cS_p sc
  obtain ⟨h1, e1, s1⟩ := c_next sc
  obtain ⟨g1, f1, z1⟩ := m_look sm
  rw [← sp] at f1 z1
  have hge : p ≤ skp t L p := skp_ge hpL.1
  have hle : skp t L p ≤ L := skp_le hpL.1
  generalize skp t L p = p1 at *
  unfold f_X8_readRelation f_X12_compares_12
  rw [rv_9_0, e1, ob_some, if_pos sm.2.1, f1, ob_some, e_isRel, ob_some, e_isSign, ob_some]
  cases q : rlB (chr t L p1) with
  | false =>
    right
    obtain ⟨g2, e2, m2⟩ := m_fails z1
    refine ⟨p1, h1, g2, 0, by rw [show zb false = 0 from rfl, if_pos rfl], ?_, s1.1.2.2.2.2.1, m2, fun _ => Or.inl rfl⟩
    rw [show zb false = 0 from rfl, if_pos rfl, e2, ob_some]
    rfl
  | true =>
    have pl : p1 < L := by
      have q' := q
      unfold rlB at q'
      rw [decide_eq_true_eq] at q'
      rcases q' with q' | q' | q'
      · exact (chr_n (x := 61) q' (by decide)).1
      · exact (chr_n (x := 60) q' (by decide)).1
      · exact (chr_n (x := 62) q' (by decide)).1
    have og1 : -chr t L p1 < 0 ∧ - -chr t L p1 = chr t L p1 ∧ -chr t L p1 ≠ -33 ∧ gcd (-chr t L p1) := by
      have q' := q
      unfold rlB at q'
      rw [decide_eq_true_eq] at q'
      rcases q' with q' | q' | q' <;> rw [q'] <;> exact ⟨by decide, by decide, by decide, by decide, by decide, by decide⟩
    rw [show zb true = 1 from rfl, if_neg (by decide), if_neg (by decide), nm_id, nm_id]
    have hl : (c0 ++ code).length ≤ p1 := by simp; omega
    have cmp : ∀ (w : Int32) (hm2 : AH), (if chr t L p1 = 61 then if v = w then f_X12_compares_111 1 hm2 else f_X12_compares_111 0 hm2 else if chr t L p1 = 60 then if w ≤ v then f_X12_compares_111 0 hm2 else f_X12_compares_111 1 hm2 else if v ≤ w then f_X12_compares_111 0 hm2 else f_X12_compares_111 1 hm2) = some (rkS (chr t L p1) v w, hm2) := by
      intro w hm2
      rw [rk_rel _ v w q]
      split
      · split <;> rfl
      · split
        · split <;> rfl
        · split <;> rfl
    rcases sim_S hd (p1 + 1) (p1 + 1) (c0 ++ code) _ _ (c_adv s1 pl) (m_adv z1 pl) rfl (by omega) with ⟨p', pm', code', hc', hm', w, r1, r2, r3, r4, r5, r6, r7, r8, r9, r10⟩ | ⟨p', hc', hm', w, r1, r2, r3, r4, r5⟩
    · have r1' : r_X8_readSum 12 9 (nI d) (sI h1 1 2 (h1.1 1 2 + 1)) = some (1, hc') := r1
      have r2' : r_X12_sum 12 56 (sI g1 56 10 (g1.1 56 10 + 1)) = some (w, hm') := r2
      have hp' := cS_p r3
      have hlen : (c0 ++ code ++ code').length < 161 := by
        simp at hl ⊢
        omega
      obtain ⟨h4, e4, s4⟩ := c_write (-chr t L p1) r3 hlen
      rw [app_a] at s4
      left
      refine ⟨p', pm', _, h4, hm', rkS (chr t L p1) v w, ?_, ?_, s4, r4, r5, by simp; omega, by omega, fun y hy => mem3 gc r8 og1.2.2.2 hy, fun _ => rk_01 _ _ _ q, fun B => ⟨?_, fun z => absurd z (by decide)⟩⟩
      · rw [r1', ob_some, if_neg (by decide), e4, ov_some]
      · rw [r2', ob_some]
        exact cmp w hm'
      · have E := ev_bin (K := 16 - 2 * d) (ev B).1 (r10 B).1 (by omega) (by omega) og1.1 og1.2.2.1
        rw [og1.2.1] at E
        exact E
    · right
      have r1' : r_X8_readSum 12 9 (nI d) (sI h1 1 2 (h1.1 1 2 + 1)) = some (0, hc') := r1
      have r2' : r_X12_sum 12 56 (sI g1 56 10 (g1.1 56 10 + 1)) = some (w, hm') := r2
      refine ⟨p', hc', hm', rkS (chr t L p1) v w, by rw [r1', ob_some, if_pos rfl], ?_, r3, r4, fun _ => rk_01 _ _ _ q⟩
      rw [r2', ob_some]
      exact cmp w hm'
