/-! clauses and whole rules -/
def vmL (lt : Nat → Int32) : Bool → List Int32 → List Int32 → Int32
  | _, [], _ => 0
  | true, x :: c, _ => if x = -59 then vmL lt false c [] else vmL lt true c []
  | false, x :: c, s => if x = -59 then s.getLastD 0 else if x = -63 then (if s ≠ [] ∧ s.getLastD 0 = 0 then vmL lt true c [] else vmL lt false c []) else vmL lt false c (run1 lt x s)
theorem vm_run (lt : Nat → Int32) (rest : List Int32) : ∀ (code s : List Int32), (∀ x ∈ code, gcd x) → vmL lt false (code ++ rest) s = vmL lt false rest (rn lt code s) := by
  intro code
  induction code with
  | nil => intro s _; rfl
  | cons x c ih =>
    intro s h
    have hx := h x (List.mem_cons_self ..)
    rw [List.cons_append, vmL, if_neg hx.1, if_neg hx.2.1, ih _ (fun y hy => h y (List.mem_cons_of_mem _ hy))]
    rfl
theorem vm_skip (lt : Nat → Int32) (rest : List Int32) : ∀ (code s : List Int32), (∀ x ∈ code, x ≠ -59) → vmL lt true (code ++ -59 :: rest) s = vmL lt false rest [] := by
  intro code
  induction code with
  | nil => intro s _; rw [List.nil_append, vmL, if_pos rfl]
  | cons x c ih =>
    intro s h
    rw [List.cons_append, vmL, if_neg (h x (List.mem_cons_self ..)), ih [] (fun y hy => h y (List.mem_cons_of_mem _ hy))]
theorem vm_sum {lt : Nat → Int32} {K : Nat} {code : List Int32} {v : Int32} (h : EvS lt K code v) (hK : K ≤ 64) (gc : ∀ x ∈ code, gcd x) (rest : List Int32) : vmL lt false (code ++ -59 :: rest) [] = v := by
  rw [vm_run lt _ code [] gc, h [] (by simpa using hK), vmL, if_pos rfl]
  rfl
theorem vm_cond {lt : Nat → Int32} {K : Nat} {cc code : List Int32} {w v : Int32} (hc : EvS lt K cc w) (h : EvS lt K code v) (hK : K ≤ 64) (g1 : ∀ x ∈ cc, gcd x) (g2 : ∀ x ∈ code, gcd x) (rest : List Int32) : vmL lt false ((cc ++ (-63 :: code)) ++ -59 :: rest) [] = if w = 0 then vmL lt false rest [] else v := by
  rw [List.append_assoc, vm_run lt _ cc [] g1, hc [] (by simpa using hK), List.cons_append, vmL, if_neg (by decide), if_pos rfl]
  by_cases q : w = 0
  · rw [if_pos q, if_pos ⟨by simp, q⟩, vm_skip lt rest code [] (fun x hx => (g2 x hx).1)]
  · rw [if_neg q, if_neg (fun z => q z.2), vm_sum h hK g2]
def k3 (h h' : AH) : Prop := h'.1 56 13 = h.1 56 13 ∧ h'.1 56 14 = h.1 56 14 ∧ h'.1 56 18 = h.1 56 18
theorem k3_of {W : List (Nat × Nat)} {h h' : AH} (a : Agr W h h') (d : Wdis W ((56, 13) :: (56, 14) :: (56, 18) :: []) = true) : k3 h h' := ⟨agr_on a d 56 13 rfl, agr_on a d 56 14 rfl, agr_on a d 56 18 rfl⟩
theorem k3_tr {a b c : AH} (h1 : k3 a b) (h2 : k3 b c) : k3 a c := ⟨h2.1.trans h1.1, h2.2.1.trans h1.2.1, h2.2.2.trans h1.2.2⟩
def gx (x : Int32) : Prop := x ≠ -59 ∧ x < 10006
def ResC (t : Nat → Nat) (L T b : Nat) (lt : Nat → Int32) (p0 : Nat) (c0 : List Int32) (hm : AH) (rC : Option (Int32 × AH)) (rM : Option AH) : Prop :=
  (∃ p' pm' code hc' hm' is v, rC = some (1, hc') ∧ rM = some hm' ∧ cS t L p' (c0 ++ code) hc' ∧ mS t L T b pm' 0 lt hm' ∧ skp t L p' = skp t L pm' ∧ p0 + code.length ≤ p' ∧ p0 < p' ∧ (∀ x ∈ code, gx x) ∧ hm'.1 56 13 = hm.1 56 13 ∧ (hm'.1 56 18 = if hm.1 56 18 = 0 ∧ is = true then 1 else hm.1 56 18) ∧ (hm'.1 56 14 = if hm.1 56 18 = 0 ∧ is = true then v else hm.1 56 14) ∧ (LB lt → ∀ rest, vmL lt false (code ++ -59 :: rest) [] = if is = true then v else vmL lt false rest []))
  ∨ (∃ p' hc' hm', rC = some (0, hc') ∧ rM = some hm' ∧ hc'.1 1 2 = nI p' ∧ mF p' hm')
/-- what a clause leaves -/
theorem cl_134 {t : Nat → Nat} {L T b p : Nat} {lt : Nat → Int32} {h : AH} (s : mS t L T b p 0 lt h) (hl : h.1 56 13 = 121) (w v : Int32) : ∃ h', f_X12_clause_134 56 121 w v h = some h' ∧ mS t L T b p 0 lt h' ∧ h'.1 56 13 = h.1 56 13 ∧ (h'.1 56 18 = if h.1 56 18 = 0 ∧ decide (w ≠ 0) = true then 1 else h.1 56 18) ∧ (h'.1 56 14 = if h.1 56 18 = 0 ∧ decide (w ≠ 0) = true then v else h.1 56 14) := by
  unfold f_X12_clause_134
  rw [if_pos s.2.1]
  by_cases c1 : h.1 56 18 = 0
  · rw [if_pos c1, if_pos hl.symm]
    by_cases c2 : w = 0
    · rw [if_pos c2]
      exact ⟨h, rfl, s, rfl, by simp [c2], by simp [c2]⟩
    · rw [if_neg c2, nm_id, nm_id]
      refine ⟨_, rfl, ⟨mX_f (mX_f s.1 (by omega)) (by omega), s.2.1, s.2.2.1, s.2.2.2⟩, rfl, ?_, ?_⟩
      · rw [if_pos ⟨c1, decide_eq_true c2⟩]
        rfl
      · rw [if_pos ⟨c1, decide_eq_true c2⟩]
        rfl
  · rw [if_neg c1]
    exact ⟨h, rfl, s, rfl, by simp [c1], by simp [c1]⟩
/-- behind a condition: the answer -/
theorem sim_ans {t : Nat → Nat} {L T b : Nat} {lt : Nat → Int32} {p0 : Nat} {c0 : List Int32} {h0 : AH} (hc0 : c0.length ≤ p0) {p pm : Nat} {cc : List Int32} {w : Int32} {hc hm : AH} (sc : cS t L p (c0 ++ cc) hc) (sm : mS t L T b pm 0 lt hm) (sp : skp t L p = skp t L pm) (l1 : p0 + cc.length ≤ p) (l2 : p0 < p) (gc : ∀ x ∈ cc, gcd x) (ev : LB lt → EvS lt 18 cc w) (hk : k3 h0 hm) (hl : h0.1 56 13 = 121) : ResC t L T b lt p0 c0 h0 (f_X8_readAnswer 9 hc) (ob (f_X12_takes 56 63 hm) fun r_6 h_5 => if r_6 = 0 then some h_5 else ob (r_X12_sum 12 56 h_5) fun r_10 h_9 => f_X12_clause_134 56 121 w r_10 h_9) := by
  have hpL := cS_p sc
  have P := c_pass 63 (by decide) sc
  have M := m_takes 63 (by decide) sm
  rw [← sp] at M
  have gg := skp_ge (t := t) hpL.1
  unfold f_X8_readAnswer
  rw [rv_9_0]
  by_cases y : chr t L (skp t L p) = nI 63
  · obtain ⟨h4, e4, s4, l4⟩ := P.1 y
    obtain ⟨g4, e5, m4⟩ := M.1 y
    have e4' : f_X10_pass 1 63 hc = some (1, h4) := e4
    have e5' : f_X12_takes 56 63 hm = some (1, g4) := e5
    have hl2 : (c0 ++ cc).length < 161 := by simp; omega
    obtain ⟨h6, e6, s6⟩ := c_write (-63) s4 hl2
    have k4 := k3_tr hk (k3_of (w_f_X12_takes_i56 _ _ _ e5') rfl)
    rw [e4', ob_some, if_neg (by decide), e6, ov_some, e5', ob_some, if_neg (by decide)]
    rcases sim_S (show 0 ≤ 6 by omega) _ _ _ _ _ s6 m4 rfl (by simp; omega) with ⟨p', pm', code, hc', hm', v, r1, r2, r3, r4, r5, r6, r7, r8, r9, r10⟩ | ⟨p', hc', hm', v, r1, r2, r3, r4, r5⟩
    · have r1' : r_X8_readSum 12 9 0 h6 = some (1, hc') := r1
      have r2' : r_X12_sum 12 56 g4 = some (v, hm') := r2
      have k5 := k3_tr k4 (k3_of (w_r_X12_sum_i56 12 _ (agr_refl g4) _ r2') rfl)
      obtain ⟨h7, e7, s7, q1, q2, q3⟩ := cl_134 r4 (by rw [k5.1, hl]) w v
      left
      refine ⟨p', pm', cc ++ (-63 :: code), hc', h7, decide (w ≠ 0), v, ?_, ?_, ?_, s7, r5, by simp; omega, by omega, fun x hx => ?_, by rw [q1, k5.1], by rw [q2, k5.2.2], by rw [q3, k5.2.2, k5.2.1], fun B rest => ?_⟩
      · rw [r1', ob_some]
        rfl
      · rw [r2', ob_some]
        exact e7
      · have : c0 ++ (cc ++ (-63 :: code)) = c0 ++ cc ++ [-63] ++ code := by simp
        rw [this]
        exact r3
      · rw [List.mem_append, List.mem_cons] at hx
        rcases hx with hx | hx | hx
        · exact ⟨(gc x hx).1, (gc x hx).2.2⟩
        · rw [hx]
          exact ⟨by decide, by decide⟩
        · exact ⟨(r8 x hx).1, (r8 x hx).2.2⟩
      · rw [vm_cond (ev B) (ev_mono (r10 B).1 (by omega)) (by omega) gc r8 rest]
        by_cases z : w = 0 <;> simp [z]
    · have r1' : r_X8_readSum 12 9 0 h6 = some (0, hc') := r1
      have r2' : r_X12_sum 12 56 g4 = some (v, hm') := r2
      right
      refine ⟨p', hc', hm', ?_, ?_, r3, r4⟩
      · rw [r1', ob_some]
        rfl
      · rw [r2', ob_some, f_X12_clause_134, if_neg (mF_n r4)]
        rfl
  · right
    obtain ⟨h4, e4, s4⟩ := P.2 y
    obtain ⟨g4, e5, m4⟩ := M.2 y
    have e4' : f_X10_pass 1 63 hc = some (0, h4) := e4
    have e5' : f_X12_takes 56 63 hm = some (0, g4) := e5
    exact ⟨_, h4, g4, by rw [e4', ob_some, if_pos rfl], by rw [e5', ob_some, if_pos rfl], s4.1.2.2.2.2.1, m4⟩
theorem resC_zb {t : Nat → Nat} {L T b : Nat} {lt : Nat → Int32} {p0 : Nat} {c0 : List Int32} {hm : AH} {rC : Option (Int32 × AH)} {rM : Option AH} {k : Int32 → AH → Option (Int32 × AH)} (h : ResC t L T b lt p0 c0 hm rC rM) (k0 : ∀ h, k 0 h = some (0, h)) (k1 : ∀ h, k 1 h = some (1, h)) : ResC t L T b lt p0 c0 hm (ob rC k) rM := by
  rcases h with ⟨p', pm', code, hc', hm', is, v, r1, r⟩ | ⟨p', hc', hm', r1, r⟩
  · exact Or.inl ⟨p', pm', code, hc', hm', is, v, by rw [r1, ob_some, k1], r⟩
  · exact Or.inr ⟨p', hc', hm', by rw [r1, ob_some, k0], r⟩
theorem sim_clause {t : Nat → Nat} {L T b : Nat} {lt : Nat → Int32} {pc pm : Nat} {c : List Int32} {hc hm : AH} (sc : cS t L pc c hc) (sm : mS t L T b pm 0 lt hm) (hs : skp t L pc = skp t L pm) (hlen : c.length ≤ pc) (hl : hm.1 56 13 = 121) : ResC t L T b lt pc c hm (f_X8_readClause 9 hc) (f_X12_clause 56 hm) := by
  have hpL := cS_p sc
  have P := c_pass 121 (by decide) sc
  obtain ⟨g1, f1, z1⟩ := m_look sm
  rw [← hs] at f1 z1
  have gg := skp_ge (t := t) hpL.1
  have ka := k3_of (w_f_X12_look_i56 _ _ f1) rfl
  unfold f_X8_readClause f_X12_clause
  rw [rv_9_0, f1, ob_some]
  have ia := e_isAmong (k := 1002) rfl (by decide) (chr t L (skp t L pc)) g1
  have i0 : (strb 1002).getD 0 0 &&& 255 = 121 := by decide
  by_cases y : chr t L (skp t L pc) = nI 121
  · have y' : chr t L (skp t L pc) = 121 := y
    have ia' : f_X12_isAmong 1002 (chr t L (skp t L pc)) g1 = some (1, g1) := by
      rcases ia with ⟨_, x⟩ | ⟨x, _⟩
      · exact absurd (i0.trans y'.symm) (x 0 (by decide))
      · exact x
    obtain ⟨h2, e2, s2, l2⟩ := P.1 y
    have e2' : f_X10_pass 1 121 hc = some (1, h2) := e2
    rw [e2', ob_some, if_neg (by decide), ia', ob_some, if_neg (by decide), nm_id]
    have m2 := m_adv z1 l2
    have kb : k3 hm (sI g1 56 10 (g1.1 56 10 + 1)) := ka
    generalize sI g1 56 10 (g1.1 56 10 + 1) = g2 at m2 kb ⊢
    have P2 := c_pass 58 (by decide) s2
    have M2 := m_takes 58 (by decide) m2
    have hp2 := cS_p s2
    have gg2 := skp_ge (t := t) hp2.1
    by_cases y2 : chr t L (skp t L (skp t L pc + 1)) = nI 58
    · obtain ⟨h3, e3, s3, l3⟩ := P2.1 y2
      obtain ⟨g3, f3, m3⟩ := M2.1 y2
      have e3' : f_X10_pass 1 58 h2 = some (1, h3) := e3
      have f3' : f_X12_takes 56 58 g2 = some (1, g3) := f3
      have kc := k3_tr kb (k3_of (w_f_X12_takes_i56 _ _ _ f3') rfl)
      rw [e3', ob_some, if_neg (by decide), f3', ob_some, if_neg (by decide)]
      generalize hq0 : skp t L (skp t L pc + 1) + 1 = q at s3 m3
      have q1 : pc + 2 ≤ q := by omega
      clear hq0
      obtain ⟨h4, e4, s4⟩ := c_next s3
      obtain ⟨g4, f4, m4⟩ := m_look m3
      have kd' := k3_tr kc (k3_of (w_f_X12_look_i56 _ _ f4) rfl)
      have hq := cS_p s3
      have gg3 := skp_ge (t := t) hq.1
      have hle3 := skp_le (t := t) hq.1
      have hid := skp_idem (t := t) hq.1
      rw [e4, ob_some, f4, ob_some, y']
      generalize skp t L q = p3 at *
      have hcnd : ResC t L T b lt pc c hm (f_X8_readClause_46 9 h4) (f_X12_clause_64 56 121 g4) := by
        unfold f_X8_readClause_46 f_X12_clause_64
        rcases sim_cond (sim_U (t := t) (L := L) (T := T) (b := b) (lt := lt)) p3 p3 c h4 g4 s4 m4 rfl (by omega) with ⟨p', pm', code, hc', hm', w, r1, r2, r3, r4, r5, r6, r7, r8, r9, r10⟩ | ⟨p', hc', hm', w, r1, r2, r3, r4, r5⟩
        · have r1' : f_X8_readCondition (r_X8_readUnit 12) 9 0 h4 = some (1, hc') := r1
          have r2' : f_X12_condition (r_X12_unit 12) 56 0 0 g4 = some (w, hm') := r2
          have ke := k3_tr kd' (k3_of (w_f_X12_condition_i56 (fun y0 a => w_r_X12_unit_i56 12 y0 a) _ _ _ (agr_refl g4) _ r2') rfl)
          rw [r1', r2', ob_some, ob_some, if_neg (by decide)]
          exact resC_zb (sim_ans (by omega) r3 r4 r5 (by omega) (by omega) r8 (fun B => (r10 B).1) ke hl) (fun _ => rfl) (fun _ => rfl)
        · have r1' : f_X8_readCondition (r_X8_readUnit 12) 9 0 h4 = some (0, hc') := r1
          have r2' : f_X12_condition (r_X12_unit 12) 56 0 0 g4 = some (w, hm') := r2
          right
          exact ⟨p', hc', hm', by rw [r1', ob_some, if_pos rfl]; rfl, by rw [r2', ob_some, f_takes 63 r4, ob_some, if_pos rfl], r3, r4⟩
      by_cases c1 : chr t L p3 = 33
      · rw [if_pos c1, if_pos c1]
        exact hcnd
      · rw [if_neg c1, if_neg c1]
        by_cases c2 : chr t L p3 = 40
        · rw [if_pos c2, if_pos c2]
          exact hcnd
        · rw [if_neg c2, if_neg c2]
          rcases sim_S (show 0 ≤ 6 by omega) p3 p3 c h4 g4 s4 m4 rfl (by omega) with ⟨p', pm', code, hc', hm', v, r1, r2, r3, r4, r5, r6, r7, r8, r9, r10⟩ | ⟨p', hc', hm', v, r1, r2, r3, r4, r5⟩
          · have r1' : r_X8_readSum 12 9 0 h4 = some (1, hc') := r1
            have r2' : r_X12_sum 12 56 g4 = some (v, hm') := r2
            have ke := k3_tr kd' (k3_of (w_r_X12_sum_i56 12 _ (agr_refl g4) _ r2') rfl)
            have hp' := cS_p r3
            obtain ⟨h5, e5, s5⟩ := c_next r3
            obtain ⟨g5, f5, m5⟩ := m_look r4
            rw [← r5] at f5 m5
            have kf := k3_tr ke (k3_of (w_f_X12_look_i56 _ _ f5) rfl)
            have gg4 := skp_ge (t := t) hp'.1
            have hid4 := skp_idem (t := t) hp'.1
            rw [r1', ob_some, if_neg (by decide), e5, ob_some, e_isRel, ob_some, r2', ob_some, if_pos r4.2.1, f5, ob_some, e_isSign, ob_some]
            generalize skp t L p' = p4 at *
            cases z : rlB (chr t L p4) with
            | false =>
              rw [show zb false = 0 from rfl, if_pos rfl, if_pos rfl]
              obtain ⟨h7, e7, s7, q1', q2, q3⟩ := cl_134 m5 (by rw [kf.1, hl]) 1 v
              left
              refine ⟨p4, p4, code, h5, h7, true, v, rfl, e7, s5, s7, rfl, by omega, by omega, fun x hx => ⟨(r8 x hx).1, (r8 x hx).2.2⟩, by rw [q1', kf.1], ?_, ?_, fun B rest => ?_⟩
              · rw [q2, kf.2.2]
                simp
              · rw [q3, kf.2.2, kf.2.1]
                simp
              · rw [vm_sum (r10 B).1 (by omega) r8 rest]
                rfl
            | true =>
              rw [show zb true = 1 from rfl, if_neg (by decide), if_neg (by decide), f_X12_condition, f_X12_part, if_neg (by decide), f_X12_compares, if_neg (by decide)]
              rcases sim_rel (show 0 ≤ 6 by omega) (p0 := pc) (by omega) s5 m5 rfl (by omega) (by omega) r8 (fun B => ⟨(r10 B).1, (r10 B).2 rfl⟩) with ⟨a1, a2, a3, a4, a5, a6, b1, b2, b3, b4, b5, b6, b7, b8, b9, b10⟩ | ⟨a1, a4, a5, a6, b1, b2, b3, b4, b5⟩
              · have b1' : f_X8_readRelation 9 0 h5 = some (1, a4) := b1
                have kg := k3_tr kf (k3_of (w_f_X12_compares_i56 1 v g5 (a6, a5) (by rw [f_X12_compares, if_neg (by decide)]; exact b2)) rfl)
                have hb := cS_p b3
                rw [b1', b2, ob_some, ob_some, if_neg (by decide), f_X8_readMoreUnits, f_X12_part_17]
                rcases loop_units (sim_U (t := t) (L := L) (T := T) (b := b) (lt := lt)) (p0 := pc) (by omega) FU FU 0 a1 a2 a3 a6 a4 a5 b3 b4 b5 b6 b7 b8 (b9 rfl) (fun B => ev_mono (b10 B).1 (by omega)) (by omega) (by unfold FU; omega) (by unfold FU; omega) with ⟨d1, d2, d3, d4, d5, d6, i1, i2, i3, i4, i5, i6, i7, i8, i9, i10⟩ | ⟨d1, d4, d5, d6, i1, i2, i3, i4, i5⟩
                · have i1' : f_X8_readMoreUnits_2 (r_X8_readUnit 12) FU 9 0 0 a4 = some (1, d4) := i1
                  have kh := k3_tr kg (k3_of (w_f_X12_part_18_i56 (fun y0 a => w_r_X12_unit_i56 12 y0 a) FU _ _ (agr_refl a5) _ i2) rfl)
                  have hi' := cS_p i3
                  rw [i1', i2, ob_some, ob_some, if_neg (by decide), f_X8_readMoreTruths]
                  rcases loop_truths (sim_truth (sim_U (t := t) (L := L) (T := T) (b := b) (lt := lt))) (p0 := pc) (by omega) FU FU 0 d1 d2 d3 d6 d4 d5 i3 i4 i5 i6 i7 i8 (i9 rfl) (fun B => ev_mono (i10 B).1 (by omega)) (by omega) (by unfold FU; omega) (by unfold FU; omega) with ⟨l1, l2', l3', l4, l5, l6, j1, j2, j3, j4, j5, j6, j7, j8, j9, j10⟩ | ⟨l1, l4, l5, l6, j1, j2, j3, j4, j5⟩
                  · have j1' : f_X8_readMoreTruths_2 (r_X8_readUnit 12) FU 9 0 0 d4 = some (1, l4) := j1
                    have ki := k3_tr kh (k3_of (w_f_X12_condition_7_i56 (fun y0 a => w_r_X12_unit_i56 12 y0 a) FU _ _ (agr_refl d5) _ j2) rfl)
                    rw [j1', j2, ob_some, ob_some, if_neg (by decide)]
                    exact resC_zb (sim_ans (by omega) j3 j4 j5 (by omega) (by omega) j8 (fun B => (j10 B).1) ki hl) (fun _ => rfl) (fun _ => rfl)
                  · have j1' : f_X8_readMoreTruths_2 (r_X8_readUnit 12) FU 9 0 0 d4 = some (0, l4) := j1
                    right
                    exact ⟨l1, l4, l5, by rw [j1', ob_some, if_pos rfl]; rfl, by rw [j2, ob_some, f_takes 63 j4, ob_some, if_pos rfl], j3, j4⟩
                · have i1' : f_X8_readMoreUnits_2 (r_X8_readUnit 12) FU 9 0 0 a4 = some (0, d4) := i1
                  right
                  exact ⟨d1, d4, d5, by rw [i1', ob_some, if_pos rfl]; rfl, by rw [i2, ob_some, cond_f i4 (i5 rfl), ob_some, f_takes 63 i4, ob_some, if_pos rfl], i3, i4⟩
              · have b1' : f_X8_readRelation 9 0 h5 = some (0, a4) := b1
                right
                exact ⟨a1, a4, a5, by rw [b1', ob_some, if_pos rfl]; rfl, by rw [b2, ob_some, part_f b4 (b5 rfl), ob_some, cond_f b4 (b5 rfl), ob_some, f_takes 63 b4, ob_some, if_pos rfl], b3, b4⟩
          · have r1' : r_X8_readSum 12 9 0 h4 = some (0, hc') := r1
            have r2' : r_X12_sum 12 56 g4 = some (v, hm') := r2
            right
            refine ⟨p', hc', hm', by rw [r1', ob_some, if_pos rfl], ?_, r3, r4⟩
            rw [r2', ob_some, if_neg (mF_n r4), f_X12_clause_134, if_neg (mF_n r4)]
            rfl
    · right
      obtain ⟨h3, e3, s3⟩ := P2.2 y2
      obtain ⟨g3, f3, m3⟩ := M2.2 y2
      have e3' : f_X10_pass 1 58 h2 = some (0, h3) := e3
      have f3' : f_X12_takes 56 58 g2 = some (0, g3) := f3
      exact ⟨_, h3, g3, by rw [e3', ob_some, if_pos rfl]; rfl, by rw [f3', ob_some, if_pos rfl], s3.1.2.2.2.2.1, m3⟩
  · right
    have ia' : f_X12_isAmong 1002 (chr t L (skp t L pc)) g1 = some (0, g1) := by
      rcases ia with ⟨x, _⟩ | ⟨_, i, hi, x⟩
      · exact x
      · have : i = 0 := by
          have : (strb 1002).length = 1 := rfl
          omega
        subst this
        exact absurd (x.symm.trans i0) y
    obtain ⟨h2, e2, s2⟩ := P.2 y
    have e2' : f_X10_pass 1 121 hc = some (0, h2) := e2
    obtain ⟨g3, f3, m3⟩ := m_fails z1
    exact ⟨_, h2, g3, by rw [e2', ob_some, if_pos rfl]; rfl, by rw [ia', ob_some, if_pos rfl, f3, ob_some], s2.1.2.2.2.2.1, m3⟩
/-- whole rules -/
theorem sim_loop {t : Nat → Nat} {L T b : Nat} {lt : Nat → Int32} : ∀ n n' k pc pm c hc hm, cS t L pc c hc → mS t L T b pm 0 lt hm → skp t L pc = skp t L pm → c.length ≤ pc → hm.1 56 13 = 121 → (hm.1 56 18 = 0 ∨ hm.1 56 18 = 1) → (hm.1 56 18 = 0 → hm.1 56 14 = 0) → k ≤ pc → L - pc < n → L - pc < n' →
    ∃ r hc' hm' rem, f_X8_read_15 n 9 (nI k) hc = some (r, hc') ∧ (ov (f_X12_clause 56 hm) fun h_12 => f_X12_goThrough_32 n' 56 h_12) = some hm' ∧ hm'.1 56 11 = r ∧ (r ≠ -1 → ∃ p, r = nI p ∧ p ≤ 160) ∧ (r = -1 → cC (c ++ rem) hc' ∧ (c ++ rem).length ≤ 161 ∧ (∀ x ∈ rem, x < 10006) ∧ (LB lt → hm'.1 56 14 = if hm.1 56 18 = 0 then vmL lt false rem [] else hm.1 56 14)) := by
  intro n
  induction n with
  | zero => intro n' k pc pm c hc hm _ _ _ _ _ _ _ _ h; omega
  | succ n ih =>
    intro n' k pc pm c hc hm sc sm hs hlen hl hf ff hk hn hn'
    obtain ⟨n', rfl⟩ : ∃ z, n' = z + 1 := ⟨n' - 1, by omega⟩
    have hpL := cS_p sc
    rw [f_X8_read_15]
    have failM : ∀ p hm', mF p hm' → f_X12_goThrough_32 (n' + 1) 56 hm' = some hm' := by
      intro p hm' f
      rw [f_X12_goThrough_32, if_neg (mF_n f), f_X12_goThrough_66, if_neg (mF_n f)]
      rfl
    have R := sim_clause sc sm hs hlen hl
    by_cases k160 : 160 ≤ k
    · have pL : pc = 160 ∧ L = 160 := by omega
      rw [show (160 : Int32) = nI 160 from rfl, if_pos (by rw [nI_leI (by decide) (by omega)]; exact k160), rv_9_0]
      rcases R with ⟨p', pm', code, hc', hm', is, v, r1, r2, r3, r4, r5, r6, r7, _⟩ | ⟨p', hc', hm', r1, r2, r3, r4⟩
      · have := cS_p r3
        omega
      · have ec : chr t L (skp t L pc) ≠ nI 121 := by
          have h1 := skp_ge (t := t) hpL.1
          intro q
          have := (chr_n q (by decide)).1
          omega
        obtain ⟨h2, e2, s2⟩ := (c_pass 121 (by decide) sc).2 ec
        have e2' : f_X10_pass 1 121 hc = some (0, h2) := e2
        have e3 : f_X8_readClause 9 hc = some (0, h2) := by
          rw [f_X8_readClause, rv_9_0, e2', ob_some, if_pos rfl]
          rfl
        rw [e3] at r1
        have e4 : h2 = hc' := by
          injection r1 with r1
          exact (Prod.mk.inj r1).2
        have h1 := skp_ge (t := t) hpL.1
        have h1' := skp_le (t := t) hpL.1
        have e5 : p' = pc := by
          have := s2.1.2.2.2.2.1
          rw [e4, r3, nI_eq (by have := r4.2; omega) (by omega)] at this
          omega
        exact ⟨_, _, hm', [], rfl, by rw [r2, ov_some]; exact failM _ _ r4, by rw [r4.1, sc.1.2.2.2.2.1, e5], fun _ => ⟨pc, sc.1.2.2.2.2.1, by omega⟩, fun z => by rw [sc.1.2.2.2.2.1, n_m1 (by omega)] at z; exact z.elim⟩
    · rw [show (160 : Int32) = nI 160 from rfl, if_neg (by rw [nI_leI (by decide) (by omega)]; exact k160), rv_9_0]
      rcases R with ⟨p', pm', code, hc', hm', is, v, r1, r2, r3, r4, r5, r6, r7, r8, r9, r10, r11, r12⟩ | ⟨p', hc', hm', r1, r2, r3, r4⟩
      · have hp' := cS_p r3
        obtain ⟨h3, e3, s3⟩ := c_write (-59) r3 (by simp; omega)
        have P := c_pass 59 (by decide) s3
        obtain ⟨g3, f3, m3⟩ := m_look r4
        rw [← r5] at f3 m3
        have kk := k3_of (w_f_X12_look_i56 _ _ f3) rfl
        have gg := skp_ge (t := t) hp'.1
        have gl := skp_le (t := t) hp'.1
        have hid := skp_idem (t := t) hp'.1
        have hf' : hm'.1 56 18 = 0 ∨ hm'.1 56 18 = 1 := by
          rw [r10]
          split
          · exact Or.inr rfl
          · exact hf
        have ff' : hm'.1 56 18 = 0 → hm'.1 56 14 = 0 := by
          intro z
          rw [r10] at z
          rw [r11]
          split at z
          · exact absurd z (by decide)
          · rename_i w
            rw [if_neg w]
            exact ff z
        have vmf : ∀ rem, LB lt → (if hm'.1 56 18 = 0 then vmL lt false rem [] else hm'.1 56 14) = if hm.1 56 18 = 0 then vmL lt false (code ++ -59 :: rem) [] else hm.1 56 14 := by
          intro rem B
          rw [r12 B rem, r10, r11]
          rcases hf with z | z
          · cases is
            · simp [z]
            · simp [z]
          · have : ¬ ((1 : Int32) = 0) := by decide
            simp [z, this]
        rw [r1, r2, ob_some, ov_some, if_neg (by decide), e3, ov_some, f_X12_goThrough_32, if_pos r4.2.1, f3, ob_some]
        by_cases y : chr t L (skp t L p') = nI 59
        · obtain ⟨h4, e4, s4, l4⟩ := P.1 y
          have e4' : f_X10_pass 1 59 h3 = some (1, h4) := e4
          rw [e4', ob_some, if_neg (by decide), nm_id, nI_1, if_pos (show chr t L (skp t L p') = 59 from y), nm_id]
          have m4 := m_adv m3 l4
          have k4 : k3 hm' (sI g3 56 10 (g3.1 56 10 + 1)) := kk
          generalize sI g3 56 10 (g3.1 56 10 + 1) = g4 at m4 k4 ⊢
          obtain ⟨r, hc2, hm2, rem, i1, i2, i3, i4, i5⟩ := ih n' (k + 1) (skp t L p' + 1) (skp t L p' + 1) _ h4 g4 s4 m4 rfl (by simp; omega) (by rw [k4.1, r9, hl]) (by rw [k4.2.2]; exact hf') (by rw [k4.2.2, k4.2.1]; exact ff') (by omega) (by omega) (by omega)
          refine ⟨r, hc2, hm2, code ++ -59 :: rem, i1, i2, i3, i4, fun z => ?_⟩
          obtain ⟨j1, j2, j3, j4⟩ := i5 z
          have ea : c ++ (code ++ -59 :: rem) = c ++ code ++ [-59] ++ rem := by simp
          rw [ea]
          refine ⟨j1, j2, fun x hx => ?_, fun B => ?_⟩
          · rw [List.mem_append, List.mem_cons] at hx
            rcases hx with hx | hx | hx
            · exact (r8 x hx).2
            · rw [hx]
              decide
            · exact j3 x hx
          · rw [j4 B, k4.2.2, k4.2.1]
            exact vmf rem B
        · obtain ⟨h4, e4, s4⟩ := P.2 y
          have e4' : f_X10_pass 1 59 h3 = some (0, h4) := e4
          obtain ⟨h5, e5, s5⟩ := c_next s4
          obtain ⟨g5, f5, m5⟩ := m_look m3
          rw [hid] at e5 s5 f5 m5
          have k5 := k3_tr kk (k3_of (w_f_X12_look_i56 _ _ f5) rfl)
          rw [e4', ob_some, if_pos rfl, e5, ob_some, if_neg (show ¬ chr t L (skp t L p') = 59 from y), f_X12_goThrough_66, if_pos m3.2.1, f5, ob_some]
          by_cases w : chr t L (skp t L p') = -1
          · rw [if_pos w, if_pos w]
            refine ⟨-1, h5, g5, code ++ [-59], rfl, rfl, m5.2.1, fun z => absurd rfl z, fun _ => ?_⟩
            have ea : c ++ (code ++ [-59]) = c ++ code ++ [-59] := by simp
            rw [ea]
            refine ⟨s5.2, by simp; omega, fun x hx => ?_, fun B => ?_⟩
            · rw [List.mem_append, List.mem_singleton] at hx
              rcases hx with hx | hx
              · exact (r8 x hx).2
              · rw [hx]
                decide
            · rw [k5.2.1, ← vmf [] B]
              rcases hf' with z | z
              · rw [if_pos z, ff' z]
                rfl
              · rw [if_neg (by rw [z]; decide)]
          · rw [if_neg w, if_neg w]
            obtain ⟨x1, x2, x3⟩ := m_failsX m5
            rw [x1, ob_some]
            exact ⟨_, h5, _, [], rfl, rfl, by rw [x3.1]; exact s5.1.2.2.2.2.1.symm, fun _ => ⟨skp t L p', s5.1.2.2.2.2.1, by omega⟩, fun z => by rw [s5.1.2.2.2.2.1, n_m1 (by omega)] at z; exact z.elim⟩
      · rw [r1, ob_some, if_pos rfl, r2, ov_some, failM _ _ r4]
        exact ⟨_, hc', hm', [], rfl, rfl, by rw [r4.1, r3], fun _ => ⟨p', r3, r4.2⟩, fun z => by rw [r3, n_m1 (by have := r4.2; omega)] at z; exact z.elim⟩
/-- the model's text, wherever it lies -/
def mY (t : Nat → Nat) (L T b : Nat) (h : AH) : Prop := L ≤ 160 ∧ (∀ j, j < L → 0 < t j ∧ t j < 256) ∧ ((kd T).1 = 3 ∧ T ≠ 56 ∧ T ≠ 60 ∧ T ≠ 61) ∧ b + L ≤ an T ∧ an T ≤ 640 ∧ ∀ j, j < L → h.1 T (b + j) = bys (t j)
theorem sim_read {t : Nat → Nat} {L T b : Nat} {lt : Nat → Int32} {hc hm : AH} (tx : ∀ j, j < L → hc.1 2 j = nI (t j)) (tl : hc.1 1 1 = nI L) (my : mY t L T b hm) (hlt : ∀ i, i < 6 → hm.1 60 (lch i) = lt i) :
    ∃ r hc' hm' rem, f_X8_read 9 hc = some (r, hc') ∧ f_X12_goThrough 56 T (nI b) (nI L) hm = some hm' ∧ hm'.1 56 11 = r ∧ (r ≠ -1 → ∃ p, r = nI p ∧ p ≤ 160) ∧ (r = -1 → cC rem hc' ∧ rem.length ≤ 161 ∧ (∀ x ∈ rem, x < 10006) ∧ (LB lt → hm'.1 56 14 = vmL lt false rem [])) := by
  obtain ⟨y1, y2, y3, y4, y5, y6⟩ := my
  unfold f_X8_read f_X12_goThrough f_X12_opens
  simp only [nm_id, ov_some, rv_9_0]
  have sc : cS t L 0 [] (sI (sI hc 1 2 0) 9 2 0) := ⟨⟨y1, y2, tl, tx, rfl, Nat.zero_le _⟩, rfl, fun j hj => absurd hj (by simp)⟩
  generalize hg : sI (sI (sI (sI (sI (sI (sI (sI (sR hm 56 T) 56 8 (nI b)) 56 9 (nI L)) 56 10 0) 56 11 (-1)) 56 13 121) 56 12 0) 56 18 0) 56 14 0 = g
  have sm : mS t L T b 0 0 lt g := by
    rw [← hg]
    refine ⟨⟨y1, y2, y3, y4, y5, ?_, rfl, rfl, fun j hj => ?_, rfl, Nat.zero_le _⟩, rfl, rfl, fun i hi => ?_⟩
    · show (if (56 : Nat) = 56 then T else hm.2.2 56) = T
      rw [if_pos rfl]
    · rw [sI_n (Or.inl y3.2.1), sI_n (Or.inl y3.2.1), sI_n (Or.inl y3.2.1), sI_n (Or.inl y3.2.1), sI_n (Or.inl y3.2.1), sI_n (Or.inl y3.2.1), sI_n (Or.inl y3.2.1), sI_n (Or.inl y3.2.1), sR_1]
      exact y6 j hj
    · exact hlt i hi
  have g13 : g.1 56 13 = 121 := by rw [← hg]; rfl
  have g18 : g.1 56 18 = 0 := by rw [← hg]; rfl
  have g14 : g.1 56 14 = 0 := by rw [← hg]; rfl
  obtain ⟨r, hc', hm', rem, i1, i2, i3, i4, i5⟩ := sim_loop (lt := lt) FU FU 0 0 0 [] _ g sc sm rfl (Nat.le_refl _) g13 (Or.inl g18) (fun _ => g14) (Nat.le_refl _) (by unfold FU; omega) (by unfold FU; omega)
  refine ⟨r, hc', hm', rem, i1, i2, i3, i4, fun z => ?_⟩
  obtain ⟨j1, j2, j3, j4⟩ := i5 z
  refine ⟨j1, j2, j3, fun B => ?_⟩
  rw [j4 B, if_pos g18]
