/-! the stack machine runs the code -/
def cods (cl : Nat) (co : Nat → Int32) : List Int32 := (List.range cl).map co
theorem cods_len (cl : Nat) (co : Nat → Int32) : (cods cl co).length = cl := by simp [cods]
theorem drop_c {cl : Nat} {co : Nat → Int32} {a : Nat} (h : a < cl) : (cods cl co).drop a = co a :: (cods cl co).drop (a + 1) := by
  rw [List.drop_eq_getElem_cons (by rw [cods_len]; exact h)]
  simp [cods]
theorem drop_e {cl : Nat} {co : Nat → Int32} {a : Nat} (h : cl ≤ a) : (cods cl co).drop a = [] := List.drop_eq_nil_of_le (by rw [cods_len]; exact h)
def Stv (k0 cl : Nat) (co lt : Nat → Int32) (h : AH) : Prop := h.1 k0 2 = nI cl ∧ (∀ j, j < cl → h.1 (k0 + 1) j = co j) ∧ ∀ i, i < 6 → h.1 40 i = lt i
def Stk (k0 : Nat) (s : List Int32) (h : AH) : Prop := s.length ≤ 64 ∧ ∀ i, i < s.length → h.1 (k0 + 2) i = s.getD (s.length - 1 - i) 0
def kR (k0 : Nat) : Prop := k0 = 12 ∨ k0 = 15 ∨ k0 = 18 ∨ k0 = 21
theorem kR_rf {k0 : Nat} (h : kR k0) : rf k0 0 = k0 + 1 ∧ rf k0 1 = k0 + 2 ∧ an (k0 + 1) = 161 ∧ an (k0 + 2) = 64 ∧ k0 + 2 < 40 := by
  rcases h with rfl | rfl | rfl | rfl <;> exact ⟨rfl, rfl, rfl, rfl, by decide⟩
theorem Stv_s {k0 cl : Nat} {co lt : Nat → Int32} {h : AH} {j : Nat} {v : Int32} (hk : kR k0) (s : Stv k0 cl co lt h) : Stv k0 cl co lt (sI h (k0 + 2) j v) := by
  have := (kR_rf hk).2.2.2.2
  refine ⟨?_, fun j hj => ?_, fun i hi => ?_⟩
  · rw [sI_n (Or.inl (by omega))]
    exact s.1
  · rw [sI_n (Or.inl (by omega))]
    exact s.2.1 j hj
  · rw [sI_n (Or.inl (by omega))]
    exact s.2.2 i hi
theorem e_endC {k0 cl : Nat} {co lt : Nat → Int32} (hk : kR k0) (hcl : cl ≤ 161) {h : AH} (s : Stv k0 cl co lt h) : ∀ n a, a ≤ cl → cl - a < n → ∃ e, f_X7_endOfClause_2 n k0 (nI a) h = some (nI e, h) ∧ a ≤ e ∧ e ≤ cl ∧ vmL lt true ((cods cl co).drop a) [] = vmL lt false ((cods cl co).drop (e + 1)) [] := by
  obtain ⟨q1, q2, q3, q4, q5⟩ := kR_rf hk
  intro n
  induction n with
  | zero => intro a _ h; omega
  | succ n ih =>
    intro a ha hn
    rw [f_X7_endOfClause_2]
    by_cases z : a < cl
    · simp (disch := omega) only [s.1, n_le, if_neg (show ¬ cl ≤ a by omega), q1, q3, og_ix, nI_clamp, s.2.1 a z, nm_id, nI_1, f_X7_endOfClause_27]
      by_cases w : co a = -59
      · rw [if_pos w]
        refine ⟨a, rfl, Nat.le_refl _, by omega, ?_⟩
        rw [drop_c z, vmL, if_pos w]
      · rw [if_neg w]
        obtain ⟨e, e1, e2, e3, e4⟩ := ih (a + 1) (by omega) (by omega)
        refine ⟨e, e1, by omega, e3, ?_⟩
        rw [drop_c z, vmL, if_neg w, e4]
    · simp (disch := omega) only [s.1, n_le, if_pos (show cl ≤ a by omega), f_X7_endOfClause_27]
      refine ⟨a, rfl, Nat.le_refl _, by omega, ?_⟩
      rw [drop_e (by omega), drop_e (by omega)]
      rfl
theorem getLast_g (s : List Int32) (h : s ≠ []) : s.getD (s.length - 1) 0 = s.getLastD 0 := by
  cases s with
  | nil => exact absurd rfl h
  | cons a s =>
    simp [List.getD_eq_getElem?_getD, List.getLastD_eq_getLast?, List.getLast?_eq_getElem?]
theorem Stk_push {k0 : Nat} {s : List Int32} {h : AH} {x : Int32} (st : Stk k0 s h) (hl : s.length < 64) : Stk k0 (x :: s) (sI h (k0 + 2) s.length x) := by
  refine ⟨by simp; omega, fun i hi => ?_⟩
  by_cases e : i = s.length
  · subst e
    rw [sI_s]
    simp
  · have hi' : i < s.length := by simp at hi; omega
    rw [sI_n (Or.inr e), st.2 i hi']
    have : (x :: s).length - 1 - i = (s.length - 1 - i) + 1 := by simp; omega
    rw [this]
    rfl
theorem Stk_pop {k0 : Nat} {a : Int32} {s : List Int32} {h : AH} (st : Stk k0 (a :: s) h) : Stk k0 s h := by
  refine ⟨by have := st.1; simp at this; omega, fun i hi => ?_⟩
  rw [st.2 i (by simp; omega)]
  have : (a :: s).length - 1 - i = (s.length - 1 - i) + 1 := by simp; omega
  rw [this]
  rfl
theorem Stk_top {k0 : Nat} {a : Int32} {s : List Int32} {h : AH} (st : Stk k0 (a :: s) h) : h.1 (k0 + 2) s.length = a := by
  rw [st.2 s.length (by simp)]
  simp
theorem Stk_set {k0 : Nat} {a x : Int32} {s : List Int32} {h : AH} (st : Stk k0 (a :: s) h) : Stk k0 (x :: s) (sI h (k0 + 2) s.length x) := Stk_push (Stk_pop st) (by have := st.1; simp at this; omega)
theorem e_val4 {k0 cl : Nat} {co lt : Nat → Int32} (hk : kR k0) (hcl : cl ≤ 161) (hco : ∀ j, j < cl → co j < 10006) : ∀ n a s h, a ≤ cl + 1 → cl + 1 - a < n → Stv k0 cl co lt h → Stk k0 s h → ∃ h', f_X7_value_4 n k0 40 (nI s.length) (nI a) h = some (vmL lt false ((cods cl co).drop a) s, h') := by
  obtain ⟨q1, q2, q3, q4, q5⟩ := kR_rf hk
  intro n
  induction n with
  | zero => intro a s h _ q; omega
  | succ n ih =>
    intro a s h ha hn sv st
    have sl := st.1
    rw [f_X7_value_4]
    by_cases z : a < cl
    · have K : ∀ s' h', Stv k0 cl co lt h' → Stk k0 s' h' → ∃ h'', f_X7_value_4 n k0 40 (nI s'.length) (nI (a + 1)) h' = some (vmL lt false ((cods cl co).drop (a + 1)) s', h'') := fun s' h' v t => ih (a + 1) s' h' (by omega) (by omega) v t
      simp (disch := omega) only [sv.1, n_le, if_neg (show ¬ cl ≤ a by omega), q1, q3, og_ix, nI_clamp, sv.2.1 a z, nm_id, q2, q4, f_X7_value_185, f_X7_value_57, f_X7_value_85, f_X7_value_112, nI_1]
      rw [drop_c z]
      have h0 := hco a z
      generalize hx : co a = x at h0
      by_cases x0 : x < 0
      · rw [if_pos x0]
        by_cases c1 : x = -59
        · rw [if_pos c1, vmL, if_pos c1]
          cases s with
          | nil => exact ⟨h, by rw [if_pos (by decide)]; rfl⟩
          | cons b s =>
            have e : (Int32.toNatClampNeg 0) = 0 := by decide
            rw [if_neg (by rw [show (0 : Int32) = nI 0 from rfl, nI_leI (by simp at sl ⊢; omega) (by decide)]; simp), show (0 : Int32) = nI 0 from rfl, og_ix (by decide) (by decide), nI_clamp (by decide), st.2 0 (by simp)]
            exact ⟨h, by rw [Nat.sub_zero, getLast_g _ (by simp)]⟩
        · rw [if_neg c1, vmL, if_neg c1]
          by_cases c2 : x = -63
          · rw [if_pos c2, if_pos c2]
            cases s with
            | nil =>
              rw [if_pos (by decide), if_neg (by simp)]
              exact K [] h sv ⟨by simp, fun i hi => absurd hi (by simp)⟩
            | cons b s =>
              rw [if_neg (by rw [show (0 : Int32) = nI 0 from rfl, nI_leI (by simp at sl ⊢; omega) (by decide)]; simp), show (0 : Int32) = nI 0 from rfl, og_ix (by decide) (by decide), nI_clamp (by decide), st.2 0 (by simp), Nat.sub_zero, getLast_g _ (by simp)]
              by_cases c3 : (b :: s).getLastD 0 = 0
              · rw [if_pos (show (b :: s).getLastD 0 = nI 0 from c3), if_pos ⟨by simp, c3⟩]
                obtain ⟨e, e1, e2, e3, e4⟩ := e_endC (lt := lt) hk hcl sv FU a (by omega) (by unfold FU; omega)
                have e1' : f_X7_endOfClause k0 (nI a) h = some (nI e, h) := e1
                have e4' : vmL lt true ((cods cl co).drop (a + 1)) [] = vmL lt false ((cods cl co).drop (e + 1)) [] := by
                  rw [drop_c z, vmL, hx, if_neg c1] at e4
                  exact e4
                rw [e1', ob_some, e4', nI_1]
                exact ih (e + 1) [] h (by omega) (by omega) sv ⟨by simp, fun i hi => absurd hi (by simp)⟩
              · rw [if_neg (show ¬ (b :: s).getLastD 0 = nI 0 from c3), if_neg (fun q => c3 q.2)]
                exact K [] h sv ⟨by simp, fun i hi => absurd hi (by simp)⟩
          · rw [if_neg c2, if_neg c2]
            by_cases c3 : x = -33
            · rw [if_pos c3]
              cases s with
              | nil =>
                rw [if_pos (by decide), show run1 lt x [] = [] by rw [run1, if_pos x0, if_pos c3]]
                exact K [] h sv st
              | cons b s =>
                have er : run1 lt x (b :: s) = (1 - b) :: s := by rw [run1, if_pos x0, if_pos c3]
                have el : nI (b :: s).length - 1 = nI s.length := by rw [List.length_cons, nI_pred]
                rw [if_neg (by rw [show (0 : Int32) = nI 0 from rfl, nI_leI (by simp at sl ⊢; omega) (by decide)]; simp), er, el, og_ix (by simp at sl; omega) (by simp at sl; omega), og_ix (by simp at sl; omega) (by simp at sl; omega), nI_clamp (by simp at sl; omega), Stk_top st]
                exact K ((1 - b) :: s) _ (Stv_s hk sv) (Stk_set st)
            · rw [if_neg c3]
              match s, sl, st with
              | [], _, st =>
                rw [if_pos (by decide), show run1 lt x [] = [] by rw [run1, if_pos x0, if_neg c3]]
                exact K [] h sv st
              | [b], _, st =>
                rw [if_pos (by decide), show run1 lt x [b] = [b] by rw [run1, if_pos x0, if_neg c3]]
                exact K [b] h sv st
              | b :: c :: s, sl, st =>
                have er : run1 lt x (b :: c :: s) = rkS (-x) c b :: s := by rw [run1, if_pos x0, if_neg c3]
                have el : nI (b :: c :: s).length + (-1) = nI (s.length + 1) := by
                  rw [List.length_cons, pk_m1]
                  rfl
                have sl' : s.length + 2 ≤ 64 := by simpa using sl
                have t1 := Stk_top st
                have t2 := Stk_top (Stk_pop st)
                have t1' : h.1 (k0 + 2) (s.length + 1) = b := by simpa using t1
                rw [if_neg (by rw [show (1 : Int32) = nI 1 from rfl, nI_leI (by simp; omega) (by decide)]; simp), er, el, nI_pred, og_ix (by omega) (by omega), og_ix (by omega) (by omega), nI_clamp (by omega), nI_clamp (by omega), t2, t1', e_reckon, ob_some, og_ix (by omega) (by omega)]
                exact K (rkS (-x) c b :: s) _ (Stv_s hk sv) (Stk_set (Stk_pop st))
      · rw [if_neg x0, vmL, if_neg (fun q => x0 (by rw [q]; decide)), if_neg (fun q => x0 (by rw [q]; decide))]
        obtain ⟨xn, hx, rfl⟩ := nI_of x0
        rw [show (10006 : Int32) = nI 10006 from rfl, nI_ltI hx (by decide)] at h0
        by_cases c4 : 64 ≤ s.length
        · rw [show (64 : Int32) = nI 64 from rfl, if_pos (by rw [nI_leI (by decide) (by omega)]; exact c4), show run1 lt (nI xn) s = s by rw [run1, if_neg x0, if_pos c4]]
          exact K s h sv st
        · rw [show (64 : Int32) = nI 64 from rfl, if_neg (by rw [nI_leI (by decide) (by omega)]; exact c4)]
          by_cases c5 : 10000 ≤ nI xn
          · have c5' := c5
            rw [show (10000 : Int32) = nI 10000 from rfl, nI_leI (by decide) (by omega)] at c5'
            rw [if_pos c5, show run1 lt (nI xn) s = lt (nI xn - 10000).toNatClampNeg :: s by rw [run1, if_neg x0, if_neg c4, if_pos c5], show (10000 : Int32) = nI 10000 from rfl, pk_sub c5', an_40, og_ix (by omega) (by omega), nI_clamp (by omega), og_ix (by omega) (by omega), nI_clamp (by omega), sv.2.2 (xn - 10000) (by omega)]
            exact K (lt (xn - 10000) :: s) _ (Stv_s hk sv) (Stk_push st (by omega))
          · rw [if_neg c5, show run1 lt (nI xn) s = nI xn :: s by rw [run1, if_neg x0, if_neg c4, if_neg c5], og_ix (by omega) (by omega), nI_clamp (by omega)]
            exact K (nI xn :: s) _ (Stv_s hk sv) (Stk_push st (by omega))
    · simp (disch := omega) only [sv.1, n_le, if_pos (show cl ≤ a by omega)]
      rw [drop_e (by omega)]
      exact ⟨h, rfl⟩
theorem e_value {k0 cl : Nat} {co lt : Nat → Int32} (hk : kR k0) (hcl : cl ≤ 161) (hco : ∀ j, j < cl → co j < 10006) {h : AH} (sv : Stv k0 cl co lt h) : ∃ h', f_X7_value k0 40 h = some (vmL lt false (cods cl co) [], h') := by
  have := e_val4 (lt := lt) hk hcl hco FU 0 [] h (by omega) (by unfold FU; omega) sv ⟨by simp, fun i hi => absurd hi (by simp)⟩
  exact this
