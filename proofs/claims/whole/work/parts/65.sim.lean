/-! values -/
theorem bmod64 {z : Int} (h1 : -(2 ^ 62) ≤ z) (h2 : z ≤ 2 ^ 62) : z.bmod (2 ^ 64) = z := Int.bmod_eq_of_le (by show -(18446744073709551616 / 2 : Int) ≤ z; omega) (by show z < ((18446744073709551616 + 1) / 2 : Int); omega)
theorem bmod32 {z : Int} (h1 : -(2 ^ 31) ≤ z) (h2 : z < 2 ^ 31) : z.bmod (2 ^ 32) = z := Int.bmod_eq_of_le (by show -(4294967296 / 2 : Int) ≤ z; omega) (by show z < ((4294967296 + 1) / 2 : Int); omega)
theorem rk42 (v w : Int32) : rkS 42 v w = clp (v.toInt * w.toInt) := by
  unfold rkS
  rw [if_neg (by decide), if_pos rfl]
theorem rk43 (v w : Int32) : rkS 43 v w = clp (v + w).toInt := by
  unfold rkS
  rw [if_neg (by decide), if_neg (by decide), if_pos rfl]
theorem rk45 (v w : Int32) : rkS 45 v w = clp (v - w).toInt := by
  unfold rkS
  rw [if_neg (by decide), if_neg (by decide), if_neg (by decide), if_pos rfl]
theorem rk47 (v : Int32) : rkS 47 v 0 = clp 0 := by
  unfold rkS
  rw [if_neg (by decide), if_neg (by decide), if_neg (by decide), if_neg (by decide), if_neg (by decide), if_neg (by decide), if_neg (by decide), if_neg (by decide), if_pos rfl]
theorem val_mul (v w : Int32) (h : AH) : f_X12_within (v.toInt64 * w.toInt64) h = some (rkS 42 v w, h) := by
  rw [within_e (mul_l v w), rk42]
theorem val_add (v w : Int32) (h : AH) : ∃ x, f_X12_within (v.toInt64 + w.toInt64) h = some (x, h) ∧ bdd x ∧ (bdd v → bdd w → x = rkS 43 v w) := by
  have a1 := Int32.toInt_lt v
  have a2 := Int32.le_toInt v
  have b1 := Int32.toInt_lt w
  have b2 := Int32.le_toInt w
  refine ⟨_, within_e (z := v.toInt + w.toInt) (by rw [Int64.toInt_add, l_toI, l_toI]; exact bmod64 (by omega) (by omega)) h, clp_b _, fun q1 q2 => ?_⟩
  rw [rk43]
  unfold bdd at q1 q2
  rw [Int32.toInt_add, bmod32 (by omega) (by omega)]
theorem val_sub (v w : Int32) (h : AH) : ∃ x, f_X12_within (v.toInt64 - w.toInt64) h = some (x, h) ∧ bdd x ∧ (bdd v → bdd w → x = rkS 45 v w) := by
  have a1 := Int32.toInt_lt v
  have a2 := Int32.le_toInt v
  have b1 := Int32.toInt_lt w
  have b2 := Int32.le_toInt w
  refine ⟨_, within_e (z := v.toInt - w.toInt) (by rw [Int64.toInt_sub, l_toI, l_toI]; exact bmod64 (by omega) (by omega)) h, clp_b _, fun q1 q2 => ?_⟩
  rw [rk45]
  unfold bdd at q1 q2
  rw [Int32.toInt_sub, bmod32 (by omega) (by omega)]
theorem tdiv_b (a b : Int) : (a.tdiv b).natAbs ≤ a.natAbs := by
  rw [Int.natAbs_tdiv]
  exact Nat.div_le_self _ _
theorem val_div (v w : Int32) (h : AH) : ∃ x, f_X12_within (v.toInt64 / w.toInt64) h = some (x, h) ∧ bdd x ∧ (w ≠ 0 → bdd v → x = rkS 47 v w) := by
  have a1 := Int32.toInt_lt v
  have a2 := Int32.le_toInt v
  have t := tdiv_b v.toInt w.toInt
  refine ⟨_, within_e (z := v.toInt.tdiv w.toInt) (by rw [Int64.toInt_div, l_toI, l_toI]; exact bmod64 (by omega) (by omega)) h, clp_b _, fun q0 q1 => ?_⟩
  have : rkS 47 v w = clp (v / w).toInt := by
    unfold rkS
    rw [if_neg (by decide), if_neg (by decide), if_neg (by decide), if_neg (by decide), if_neg (by decide), if_neg (by decide), if_neg (by decide), if_neg (by decide), if_neg q0]
  rw [this]
  unfold bdd at q1
  rw [Int32.toInt_div, bmod32 (by omega) (by omega)]
theorem lg_0 {w : Int32} : (lg_cmp w.toInt64 0 = 0) = (w = 0) := by
  rw [eq_iff_iff]
  have g := @lg_g w.toInt64 0
  have l := @lg_l w.toInt64 0
  have z : (0 : Int64).toInt = 0 := by decide
  have z' : (0 : Int32).toInt = 0 := by decide
  rw [Int64.lt_iff_toInt_lt, l_toI, z, Int32.lt_iff_toInt_lt, z'] at g l
  rw [← Int32.toInt_inj, ← Int32.toInt_inj, z']
  omega
theorem l_ne {w : Int32} (h : ¬ w = 0) : decide (¬ w.toInt64 = 0) = true := by
  rw [decide_eq_true_eq]
  intro e
  refine h ?_
  rw [← Int32.toInt_inj, ← l_toI, e]
  decide
theorem app_a {a b c : List Int32} {x : Int32} : a ++ b ++ c ++ [x] = a ++ (b ++ (c ++ [x])) := by simp
theorem mem3 {a b : List Int32} {x o : Int32} (h1 : ∀ x ∈ a, gcd x) (h2 : ∀ x ∈ b, gcd x) (h3 : gcd o) (h : x ∈ a ++ (b ++ [o])) : gcd x := by
  rw [List.mem_append, List.mem_append, List.mem_singleton] at h
  rcases h with h | h | h
  · exact h1 x h
  · exact h2 x h
  · rw [h]
    exact h3
/-! terms -/
theorem loop_term {t : Nat → Nat} {L T b d : Nat} {lt : Nat → Int32} {K : Nat} {cC : Nat → Int32 → AH → Option (Int32 × AH)} {cM : Nat → AH → Option (Int32 × AH)} (hA : Sim t L T b lt K false d (fun h => f_X8_readAtom cC 9 (nI d) h) (fun h => f_X12_atom cM 56 h)) {p0 : Nat} {c0 : List Int32} (hc0 : c0.length ≤ p0) : ∀ n n' k p pm code v hc hm, cS t L p (c0 ++ code) hc → mS t L T b pm d lt hm → skp t L p = p → skp t L pm = p → p0 + code.length ≤ p → p0 < p → (∀ x ∈ code, gcd x) → (LB lt → EvS lt (K + 1) code v ∧ bdd v) → k ≤ p → L - p < n → L - p < n' → Res t L T b lt (K + 1) false d p0 c0 (f_X8_readTerm_20 cC n 9 (nI d) (chr t L p) (nI k) hc) (f_X12_term_5 cM n' 56 v hm) := by
  intro n
  induction n with
  | zero => intro n' k p pm code v hc hm _ _ _ _ _ _ _ _ _ h; omega
  | succ n ih =>
    intro n' k p pm code v hc hm sc sm sp spm l1 l2 gc ev hk hn hn'
    obtain ⟨n', rfl⟩ : ∃ z, n' = z + 1 := ⟨n' - 1, by omega⟩
    have hpL := cS_p sc
    obtain ⟨g1, f1, z1⟩ := m_look sm
    rw [spm] at f1 z1
    obtain ⟨g2, f2, z2⟩ := m_look z1
    rw [sp] at f2 z2
    have ok : Res t L T b lt (K + 1) false d p0 c0 (some (1, hc)) (some (v, g2)) := Or.inl ⟨p, p, code, hc, g2, v, rfl, rfl, sc, z2, rfl, l1, l2, gc, fun z => absurd z (by decide), fun B => ⟨(ev B).1, fun _ => (ev B).2⟩⟩
    rw [f_X8_readTerm_20, f_X12_term_5, if_pos sm.2.1, f1, ob_some]
    by_cases k160 : 160 ≤ k
    · have pL : p = L := by omega
      have e : chr t L p = -1 := by unfold chr; rw [if_neg (by omega)]
      rw [show (160 : Int32) = nI 160 from rfl, if_pos (by rw [nI_leI (by decide) (by omega)]; exact k160), f2, e, if_neg (by decide), ob_some, if_neg (by decide)]
      exact ok
    · rw [show (160 : Int32) = nI 160 from rfl, if_neg (by rw [nI_leI (by decide) (by omega)]; exact k160)]
      have step : ∀ (o : Int32) (hm2 : AH) (r : Option (Int32 × AH)), p < L → -o < 0 → - -o = o → -o ≠ -33 → gcd (-o) → mS t L T b (p + 1) d lt hm2 → (∀ v2 hm3, f_X12_atom cM 56 hm2 = some (v2, hm3) → ∃ x, r = f_X12_term_5 cM n' 56 x hm3 ∧ bdd x ∧ (bdd v → bdd v2 → x = rkS o v v2)) → Res t L T b lt (K + 1) false d p0 c0 (f_X8_readTerm_39 cC (f_X8_readTerm_20 cC n) 9 (nI d) o (nI k) hc) r := by
        intro o hm2 r pl o1 o2 o3 o4 m2 hr
        unfold f_X8_readTerm_39
        rw [rv_9_0, nm_id]
        have hl : (c0 ++ code).length ≤ p := by simp; omega
        rcases hA (p + 1) (p + 1) (c0 ++ code) _ _ (c_adv sc pl) m2 rfl (by omega) with ⟨p', pm', code', hc', hm', v2, r1, r2, r3, r4, r5, r6, r7, r8, r9, r10⟩ | ⟨p', hc', hm', v2, r1, r2, r3, r4, r5⟩
        · have r1' : f_X8_readAtom cC 9 (nI d) (sI hc 1 2 (hc.1 1 2 + 1)) = some (1, hc') := r1
          have hp' := cS_p r3
          have hpm' := mS_p r4
          obtain ⟨x, ex, bx, qx⟩ := hr v2 hm' r2
          have hlen : (c0 ++ code ++ code').length < 161 := by
            simp at hl ⊢
            omega
          obtain ⟨h4, e4, s4⟩ := c_write (-o) r3 hlen
          obtain ⟨h5, e5, s5⟩ := c_next s4
          have gg := skp_ge (t := t) hp'.1
          rw [r1', ob_some, if_neg (by decide), e4, ov_some, e5, ob_some, nm_id, nI_1, ex]
          rw [app_a] at s5
          have spp := skp_idem (t := t) hp'.1
          refine ih n' (k + 1) (skp t L p') pm' (code ++ (code' ++ [-o])) x h5 hm' s5 r4 spp r5.symm (by simp; omega) (by omega) (fun y hy => mem3 gc r8 o4 hy) (fun B => ⟨?_, bx⟩) (by omega) (by omega) (by omega)
          have E := ev_bin (K := K + 1) (ev B).1 (r10 B).1 (Nat.le_refl _) (Nat.le_refl _) o1 o3
          rw [o2] at E
          rw [qx (ev B).2 ((r10 B).2 rfl)]
          exact E
        · have r1' : f_X8_readAtom cC 9 (nI d) (sI hc 1 2 (hc.1 1 2 + 1)) = some (0, hc') := r1
          obtain ⟨x, ex, bx, qx⟩ := hr v2 hm' r2
          right
          refine ⟨p', hc', hm', x, by rw [r1', ob_some, if_pos rfl], ?_, r3, r4, fun z => absurd z (by decide)⟩
          obtain ⟨n'', rfl⟩ : ∃ z, n' = z + 1 := ⟨n' - 1, by omega⟩
          rw [ex, f_X12_term_5, if_neg (mF_n r4)]
          rfl
      by_cases c1 : chr t L p = 42
      · have pl := (chr_n (x := 42) c1 (by decide)).1
        rw [if_pos c1, if_pos c1, c1]
        have f2' : f_X12_look 56 g1 = some (42, g2) := by rw [f2, c1]
        refine step 42 (sI g2 56 10 (g2.1 56 10 + 1)) _ pl (by decide) (by decide) (by decide) ⟨by decide, by decide, by decide⟩ (m_adv z2 pl) (fun v2 hm3 e => ⟨rkS 42 v v2, ?_, by rw [rk42]; exact clp_b _, fun _ _ => rfl⟩)
        rw [f_X12_term_31, f2', ob_some, if_pos rfl, f_X12_term_45, nm_id, e, ob_some, nm_id, if_neg (by decide), f_X12_term_87, val_mul, ob_some]
      · rw [if_neg c1, if_neg c1, f2, ob_some]
        by_cases c2 : chr t L p = 47
        · have pl := (chr_n (x := 47) c2 (by decide)).1
          obtain ⟨g3, f3, z3⟩ := m_look z2
          rw [sp] at f3 z3
          rw [if_pos c2, if_pos c2, c2]
          have f3' : f_X12_look 56 g2 = some (47, g3) := by rw [f3, c2]
          refine step 47 (sI g3 56 10 (g3.1 56 10 + 1)) _ pl (by decide) (by decide) (by decide) ⟨by decide, by decide, by decide⟩ (m_adv z3 pl) (fun v2 hm3 e => ?_)
          rw [f_X12_term_31, f3', ob_some, if_neg (by decide), f_X12_term_45, nm_id, e, ob_some, nm_id, if_pos rfl]
          by_cases w0 : v2 = 0
          · refine ⟨clp 0, ?_, clp_b _, fun _ _ => ?_⟩
            · rw [if_pos (lg_0.mpr w0), f_X12_term_87, within_e (z := 0) (by decide), ob_some]
            · subst w0
              rw [rk47]
          · obtain ⟨x, ex, bx, qx⟩ := val_div v v2 hm3
            refine ⟨x, ?_, bx, fun q _ => qx w0 q⟩
            rw [if_neg (fun z => w0 (lg_0.mp z)), og_t (l_ne w0), f_X12_term_87, ex, ob_some]
        · rw [if_neg c2, if_neg c2]
          exact ok
theorem sim_term {t : Nat → Nat} {L T b d : Nat} {lt : Nat → Int32} {K : Nat} {cC : Nat → Int32 → AH → Option (Int32 × AH)} {cM : Nat → AH → Option (Int32 × AH)} (hA : Sim t L T b lt K false d (fun h => f_X8_readAtom cC 9 (nI d) h) (fun h => f_X12_atom cM 56 h)) : Sim t L T b lt (K + 1) false d (fun h => f_X8_readTerm cC 9 (nI d) h) (fun h => f_X12_term cM 56 h) := by
  intro pc pm c hc hm sc sm hs hlen
  simp only [f_X8_readTerm, f_X12_term, rv_9_0]
  rcases hA pc pm c hc hm sc sm hs hlen with ⟨p', pm', code, hc', hm', v, r1, r2, r3, r4, r5, r6, r7, r8, r9, r10⟩ | ⟨p', hc', hm', v, r1, r2, r3, r4, r5⟩
  · have r1' : f_X8_readAtom cC 9 (nI d) hc = some (1, hc') := r1
    have r2' : f_X12_atom cM 56 hm = some (v, hm') := r2
    have hp' := cS_p r3
    obtain ⟨h4, e4, s4⟩ := c_next r3
    have gg := skp_ge (t := t) hp'.1
    rw [r1', r2', ob_some, ob_some, if_neg (by decide), e4, ob_some]
    exact loop_term hA hlen FU FU 0 (skp t L p') pm' code v h4 hm' s4 r4 (skp_idem hp'.1) r5.symm (by omega) (by omega) r8 (fun B => ⟨ev_mono (r10 B).1 (by omega), (r10 B).2 rfl⟩) (by omega) (by unfold FU; omega) (by unfold FU; omega)
  · have r1' : f_X8_readAtom cC 9 (nI d) hc = some (0, hc') := r1
    have r2' : f_X12_atom cM 56 hm = some (v, hm') := r2
    right
    refine ⟨p', hc', hm', v, by rw [r1', ob_some, if_pos rfl], ?_, r3, r4, fun z => absurd z (by decide)⟩
    rw [r2', ob_some, show FU = 4095 + 1 from rfl, f_X12_term_5, if_neg (mF_n r4)]
    rfl
