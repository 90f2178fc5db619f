/-! the stack machine runs the code -/
def cods (cl : Nat) (co : Nat → Int32) : List Int32 := (List.range cl).map co
theorem cods_len (cl : Nat) (co : Nat → Int32) : (cods cl co).length = cl := by simp [cods]
theorem drop_c {cl : Nat} {co : Nat → Int32} {a : Nat} (h : a < cl) : (cods cl co).drop a = co a :: (cods cl co).drop (a + 1) := by
  rw [List.drop_eq_getElem_cons (by rw [cods_len]; exact h)]
  simp [cods]
theorem drop_e {cl : Nat} {co : Nat → Int32} {a : Nat} (h : cl ≤ a) : (cods cl co).drop a = [] := List.drop_eq_nil_of_le (by rw [cods_len]; exact h)
def Stv (k0 cl : Nat) (co lt : Nat → Int32) (h : AH) : Prop := h.1 k0 2 = nI cl ∧ (∀ j, j < cl → h.1 (k0 + 1) j = co j) ∧ ∀ i, i < 6 → h.1 40 i = lt i
def Stk (k0 : Nat) (s : List Int32) (h : AH) : Prop := s.length ≤ 64 ∧ ∀ i, i < s.length → h.1 (k0 + 2) i = s.getD (s.length - 1 - i) 0
def kR (k0 : Nat) : Prop := k0 = 12 ∨ k0 = 15 ∨ k0 = 18 ∨ k0 = 21
theorem kR_rf {k0 : Nat} (h : kR k0) : rf k0 0 = k0 + 1 ∧ rf k0 1 = k0 + 2 ∧ an (k0 + 1) = 161 ∧ an (k0 + 2) = 64 ∧ k0 + 2 < 40 := by
  rcases h with rfl | rfl | rfl | rfl <;> exact ⟨rfl, rfl, rfl, rfl, by decide⟩
theorem Stv_s {k0 cl : Nat} {co lt : Nat → Int32} {h : AH} {j : Nat} {v : Int32} (hk : kR k0) (s : Stv k0 cl co lt h) : Stv k0 cl co lt (sI h (k0 + 2) j v) := by
  have := (kR_rf hk).2.2.2.2
  refine ⟨?_, fun j hj => ?_, fun i hi => ?_⟩
  · rw [sI_n (Or.inl (by omega))]
    exact s.1
  · rw [sI_n (Or.inl (by omega))]
    exact s.2.1 j hj
  · rw [sI_n (Or.inl (by omega))]
    exact s.2.2 i hi
theorem e_endC {k0 cl : Nat} {co lt : Nat → Int32} (hk : kR k0) (hcl : cl ≤ 161) {h : AH} (s : Stv k0 cl co lt h) : ∀ n a, a ≤ cl → cl - a < n → ∃ e, f_X7_endOfClause_2 n k0 (nI a) h = some (nI e, h) ∧ a ≤ e ∧ e ≤ cl ∧ vmL lt true ((cods cl co).drop a) [] = vmL lt false ((cods cl co).drop (e + 1)) [] := by
  obtain ⟨q1, q2, q3, q4, q5⟩ := kR_rf hk
  intro n
  induction n with
  | zero => intro a _ h; omega
  | succ n ih =>
    intro a ha hn
    rw [f_X7_endOfClause_2]
    by_cases z : a < cl
    · simp (disch := omega) only [s.1, n_le, if_neg (show ¬ cl ≤ a by omega), q1, q3, og_ix, nI_clamp, s.2.1 a z, nm_id, nI_1, f_X7_endOfClause_27]
      by_cases w : co a = -59
      · rw [if_pos w]
        refine ⟨a, rfl, Nat.le_refl _, by omega, ?_⟩
        rw [drop_c z, vmL, if_pos w]
      · rw [if_neg w]
        obtain ⟨e, e1, e2, e3, e4⟩ := ih (a + 1) (by omega) (by omega)
        refine ⟨e, e1, by omega, e3, ?_⟩
        rw [drop_c z, vmL, if_neg w, e4]
    · simp (disch := omega) only [s.1, n_le, if_pos (show cl ≤ a by omega), f_X7_endOfClause_27]
      refine ⟨a, rfl, Nat.le_refl _, by omega, ?_⟩
      rw [drop_e (by omega), drop_e (by omega)]
      rfl
theorem getLast_g (s : List Int32) (h : s ≠ []) : s.getD (s.length - 1) 0 = s.getLastD 0 := by
  cases s with
  | nil => exact absurd rfl h
  | cons a s =>
    simp [List.getD_eq_getElem?_getD, List.getLastD_eq_getLast?, List.getLast?_eq_getElem?]
theorem Stk_push {k0 : Nat} {s : List Int32} {h : AH} {x : Int32} (st : Stk k0 s h) (hl : s.length < 64) : Stk k0 (x :: s) (sI h (k0 + 2) s.length x) := by
  refine ⟨by simp; omega, fun i hi => ?_⟩
  by_cases e : i = s.length
  · subst e
    rw [sI_s]
    simp
  · have hi' : i < s.length := by simp at hi; omega
    rw [sI_n (Or.inr e), st.2 i hi']
    have : (x :: s).length - 1 - i = (s.length - 1 - i) + 1 := by simp; omega
    rw [this]
    rfl
theorem Stk_pop {k0 : Nat} {a : Int32} {s : List Int32} {h : AH} (st : Stk k0 (a :: s) h) : Stk k0 s h := by
  refine ⟨by have := st.1; simp at this; omega, fun i hi => ?_⟩
  rw [st.2 i (by simp; omega)]
  have : (a :: s).length - 1 - i = (s.length - 1 - i) + 1 := by simp; omega
  rw [this]
  rfl
theorem Stk_top {k0 : Nat} {a : Int32} {s : List Int32} {h : AH} (st : Stk k0 (a :: s) h) : h.1 (k0 + 2) s.length = a := by
  rw [st.2 s.length (by simp)]
  simp
theorem Stk_set {k0 : Nat} {a x : Int32} {s : List Int32} {h : AH} (st : Stk k0 (a :: s) h) : Stk k0 (x :: s) (sI h (k0 + 2) s.length x) := Stk_push (Stk_pop st) (by have := st.1; simp at this; omega)
theorem r1_nil {lt : Nat → Int32} {x : Int32} (x0 : x < 0) : run1 lt x [] = [] := by
  unfold run1
  rw [if_pos x0]
  split <;> rfl
theorem r1_not {lt : Nat → Int32} {x b : Int32} {s : List Int32} (x0 : x < 0) (c : x = -33) : run1 lt x (b :: s) = (1 - b) :: s := by
  unfold run1
  rw [if_pos x0, if_pos c]
theorem r1_one {lt : Nat → Int32} {x b : Int32} (x0 : x < 0) (c : ¬ x = -33) : run1 lt x [b] = [b] := by
  unfold run1
  rw [if_pos x0, if_neg c]
theorem r1_two {lt : Nat → Int32} {x b c : Int32} {s : List Int32} (x0 : x < 0) (c3 : ¬ x = -33) : run1 lt x (b :: c :: s) = rkS (-x) c b :: s := by
  unfold run1
  rw [if_pos x0, if_neg c3]
theorem r1_full {lt : Nat → Int32} {x : Int32} {s : List Int32} (x0 : ¬ x < 0) (c : 64 ≤ s.length) : run1 lt x s = s := by
  unfold run1
  rw [if_neg x0, if_pos c]
theorem r1_let {lt : Nat → Int32} {x : Int32} {s : List Int32} (x0 : ¬ x < 0) (c : ¬ 64 ≤ s.length) (d : 10000 ≤ x) : run1 lt x s = lt (x - 10000).toNatClampNeg :: s := by
  unfold run1
  rw [if_neg x0, if_neg c, if_pos d]
theorem r1_num {lt : Nat → Int32} {x : Int32} {s : List Int32} (x0 : ¬ x < 0) (c : ¬ 64 ≤ s.length) (d : ¬ 10000 ≤ x) : run1 lt x s = x :: s := by
  unfold run1
  rw [if_neg x0, if_neg c, if_neg d]
theorem len_nz {b : Int32} {s : List Int32} (h : (b :: s).length ≤ 64) : ¬ nI (b :: s).length ≤ 0 := nI_nle (by simp) (by omega)
def vq (n : Nat) (k0 cl : Nat) (co lt : Nat → Int32) (a : Nat) : Prop := ∀ s h, Stv k0 cl co lt h → Stk k0 s h → ∃ h', f_X7_value_4 n k0 40 (nI s.length) (nI a) h = some (vmL lt false ((cods cl co).drop a) s, h')
theorem Stk_nil {k0 : Nat} {h : AH} : Stk k0 [] h := ⟨by simp, fun i hi => absurd hi (by simp)⟩
theorem sz0 : (0 : Int32).toNatClampNeg = 0 := by decide
theorem ev_q {n k0 cl : Nat} {co lt : Nat → Int32} {a : Nat} (hk : kR k0) (hcl : cl ≤ 161) (z : a < cl) (hx : co a = -63) (ih : ∀ e, a ≤ e → e ≤ cl → vq n k0 cl co lt (e + 1)) {s : List Int32} {h : AH} (sv : Stv k0 cl co lt h) (st : Stk k0 s h) : ∃ h', (if nI s.length ≤ 0 then f_X7_value_112 (f_X7_value_4 n) k0 40 (nI a) h else og (ix 0 64) (if h.1 (k0 + 2) (0 : Int32).toNatClampNeg = 0 then ob (f_X7_endOfClause k0 (nI a) h) fun r_30 h_29 => f_X7_value_112 (f_X7_value_4 n) k0 40 r_30 h_29 else f_X7_value_112 (f_X7_value_4 n) k0 40 (nI a) h)) = some (if s ≠ [] ∧ s.getLastD 0 = 0 then vmL lt true ((cods cl co).drop (a + 1)) [] else vmL lt false ((cods cl co).drop (a + 1)) [], h') := by
  have K := ih a (Nat.le_refl _) (by omega) [] h sv Stk_nil
  cases s with
  | nil =>
    rw [if_pos (by decide), if_neg (by simp), f_X7_value_112, f_X7_value_185, nm_id, nI_1]
    exact K
  | cons b s =>
    rw [if_neg (len_nz st.1), og_t (by decide), sz0, st.2 0 (by simp), Nat.sub_zero, getLast_g _ (by simp)]
    by_cases c3 : (b :: s).getLastD 0 = 0
    · rw [if_pos c3, if_pos ⟨by simp, c3⟩]
      obtain ⟨e, e1, e2, e3, e4⟩ := e_endC (lt := lt) hk hcl sv FU a (by omega) (by unfold FU; omega)
      have e1' : f_X7_endOfClause k0 (nI a) h = some (nI e, h) := e1
      rw [drop_c z, vmL, hx, if_neg (by decide)] at e4
      rw [e1', ob_some, e4, f_X7_value_112, f_X7_value_185, nm_id, nI_1]
      exact ih e e2 e3 [] h sv Stk_nil
    · rw [if_neg c3, if_neg (fun q => c3 q.2), f_X7_value_112, f_X7_value_185, nm_id, nI_1]
      exact K
theorem ev_n {n k0 cl : Nat} {co lt : Nat → Int32} {a : Nat} {x : Int32} (hk : kR k0) (x0 : x < 0) (c3 : x = -33) (ih : vq n k0 cl co lt (a + 1)) {s : List Int32} {h : AH} (sv : Stv k0 cl co lt h) (st : Stk k0 s h) : ∃ h', (if nI s.length ≤ 0 then f_X7_value_185 (f_X7_value_4 n) k0 40 (nI s.length) (nI a) h else og (ix (nI s.length - 1) 64) (og (ix (nI s.length - 1) 64) (nm (sI h (k0 + 2) (nI s.length - 1).toNatClampNeg (1 - h.1 (k0 + 2) (nI s.length - 1).toNatClampNeg)) fun h_23 => f_X7_value_185 (f_X7_value_4 n) k0 40 (nI s.length) (nI a) h_23))) = some (vmL lt false ((cods cl co).drop (a + 1)) (run1 lt x s), h') := by
  cases s with
  | nil =>
    rw [if_pos (by decide), r1_nil x0, f_X7_value_185, nm_id, nI_1]
    exact ih [] h sv st
  | cons b s =>
    have sl := st.1
    have l2 : s.length + 1 ≤ 64 := by simpa using sl
    have el : nI (b :: s).length - 1 = nI s.length := by rw [List.length_cons, nI_pred]
    rw [if_neg (len_nz sl), r1_not x0 c3, el, og_ix (by omega) (by omega), og_ix (by omega) (by omega), nI_clamp (by omega), Stk_top st, nm_id, f_X7_value_185, nm_id, nI_1]
    exact ih ((1 - b) :: s) _ (Stv_s hk sv) (Stk_set st)
theorem ev_b {n k0 cl : Nat} {co lt : Nat → Int32} {a : Nat} {x : Int32} (hk : kR k0) (x0 : x < 0) (c3 : ¬ x = -33) (ih : vq n k0 cl co lt (a + 1)) {s : List Int32} {h : AH} (sv : Stv k0 cl co lt h) (st : Stk k0 s h) : ∃ h', (if nI s.length ≤ 1 then f_X7_value_185 (f_X7_value_4 n) k0 40 (nI s.length) (nI a) h else nm (nI s.length + (-1)) fun x2_10 => og (ix (x2_10 - 1) 64) (og (ix x2_10 64) (ob (f_X7_reckon (-x) (h.1 (k0 + 2) (x2_10 - 1).toNatClampNeg) (h.1 (k0 + 2) x2_10.toNatClampNeg) h) fun r_16 h_15 => og (ix (x2_10 - 1) 64) (nm (sI h_15 (k0 + 2) (x2_10 - 1).toNatClampNeg r_16) fun h_18 => f_X7_value_185 (f_X7_value_4 n) k0 40 x2_10 (nI a) h_18)))) = some (vmL lt false ((cods cl co).drop (a + 1)) (run1 lt x s), h') := by
  match s, st with
  | [], st =>
    rw [if_pos (by decide), r1_nil x0, f_X7_value_185, nm_id, nI_1]
    exact ih [] h sv st
  | [b], st =>
    have e1 : nI [b].length ≤ 1 := by
      show nI 1 ≤ 1
      decide
    rw [if_pos e1, r1_one x0 c3, f_X7_value_185, nm_id, nI_1]
    exact ih [b] h sv st
  | b :: c :: s, st =>
    have sl := st.1
    have sl' : s.length + 2 ≤ 64 := by simpa using sl
    have el : nI (b :: c :: s).length + (-1) = nI (s.length + 1) := by
      rw [List.length_cons, pk_m1]
      rfl
    have t1 : h.1 (k0 + 2) (s.length + 1) = b := Stk_top st
    have t2 := Stk_top (Stk_pop st)
    have e2 : ¬ nI (b :: c :: s).length ≤ 1 := by
      rw [show (1 : Int32) = nI 1 from rfl, nI_leI (by simp; omega) (by decide)]
      simp
    rw [if_neg e2, nm_id, el, nI_pred, og_ix (by omega) (by omega), og_ix (by omega) (by omega), nI_clamp (by omega), nI_clamp (by omega), t2, t1, e_reckon, ob_some, og_ix (by omega) (by omega), nm_id, r1_two x0 c3, f_X7_value_185, nm_id, nI_1]
    exact ih (rkS (-x) c b :: s) _ (Stv_s hk sv) (Stk_set (Stk_pop st))
theorem ev_p {n k0 cl : Nat} {co lt : Nat → Int32} {a : Nat} {x : Int32} (hk : kR k0) (x0 : ¬ x < 0) (hx : x < 10006) (ih : vq n k0 cl co lt (a + 1)) {s : List Int32} {h : AH} (sv : Stv k0 cl co lt h) (st : Stk k0 s h) : ∃ h', (if 64 ≤ nI s.length then f_X7_value_185 (f_X7_value_4 n) k0 40 (nI s.length) (nI a) h else if 10000 ≤ x then og (ix (x - 10000) (an 40)) (f_X7_value_57 (f_X7_value_4 n) k0 40 (nI s.length) (nI a) (h.1 40 (x - 10000).toNatClampNeg) (nI s.length) (k0 + 2) h) else f_X7_value_57 (f_X7_value_4 n) k0 40 (nI s.length) (nI a) x (nI s.length) (k0 + 2) h) = some (vmL lt false ((cods cl co).drop (a + 1)) (run1 lt x s), h') := by
  have sl := st.1
  have q4 := (kR_rf hk).2.2.2.1
  have e64 : (64 ≤ nI s.length) = (64 ≤ s.length) := k_le' (by omega) (by decide)
  by_cases c4 : 64 ≤ s.length
  · rw [if_pos (show (64 : Int32) ≤ nI s.length by rw [e64]; exact c4), r1_full x0 c4, f_X7_value_185, nm_id, nI_1]
    exact ih s h sv st
  · rw [if_neg (show ¬ (64 : Int32) ≤ nI s.length by rw [e64]; exact c4)]
    have P : ∀ y, ∃ h', f_X7_value_57 (f_X7_value_4 n) k0 40 (nI s.length) (nI a) y (nI s.length) (k0 + 2) h = some (vmL lt false ((cods cl co).drop (a + 1)) (y :: s), h') := by
      intro y
      rw [f_X7_value_57, q4, og_ix (by omega) (by omega), nm_id, nm_id, nI_clamp (by omega), nI_1, f_X7_value_185, nm_id, nI_1]
      exact ih (y :: s) _ (Stv_s hk sv) (Stk_push st (by omega))
    by_cases c5 : 10000 ≤ x
    · rw [if_pos c5, r1_let x0 c4 c5]
      obtain ⟨xn, hxn, rfl⟩ := nI_of x0
      have c5' : 10000 ≤ xn := by
        rw [k_le' (b := 10000) hxn (by decide)] at c5
        exact c5
      have h0 : xn < 10006 := by
        rw [k_lt (b := 10006) hxn (by decide)] at hx
        exact hx
      have ed : nI xn - 10000 = nI (xn - 10000) := pk_sub (b := 10000) c5'
      rw [ed, an_40, og_ix (by omega) (by omega), nI_clamp (by omega), sv.2.2 (xn - 10000) (by omega)]
      exact P _
    · rw [if_neg c5, r1_num x0 c4 c5]
      exact P x
theorem e_val4 {k0 cl : Nat} {co lt : Nat → Int32} (hk : kR k0) (hcl : cl ≤ 161) (hco : ∀ j, j < cl → co j < 10006) : ∀ n a, a ≤ cl + 1 → cl + 1 - a < n → vq n k0 cl co lt a := by
  obtain ⟨q1, q2, q3, q4, q5⟩ := kR_rf hk
  intro n
  induction n with
  | zero => intro a _ q; omega
  | succ n ih =>
    intro a ha hn s h sv st
    have sl := st.1
    rw [f_X7_value_4, sv.1]
    by_cases z : a < cl
    · rw [if_neg (by rw [nI_leI (by omega) (by omega)]; omega), q1, q2, q3, q4, og_ix (by omega) (by omega), nm_id, nI_clamp (by omega), sv.2.1 a z, drop_c z]
      have h0 := hco a z
      have K := ih (a + 1) (by omega) (by omega)
      by_cases x0 : co a < 0
      · rw [if_pos x0]
        by_cases c1 : co a = -59
        · rw [if_pos c1, vmL, if_pos c1]
          cases s with
          | nil =>
            rw [if_pos (by decide)]
            exact ⟨h, rfl⟩
          | cons b s =>
            rw [if_neg (len_nz sl), og_t (by decide), sz0, st.2 0 (by simp), Nat.sub_zero, getLast_g _ (by simp)]
            exact ⟨h, rfl⟩
        · rw [if_neg c1, vmL, if_neg c1]
          by_cases c2 : co a = -63
          · rw [if_pos c2, if_pos c2]
            exact ev_q hk hcl z c2 (fun e e1 e2 => ih (e + 1) (by omega) (by omega)) sv st
          · rw [if_neg c2, if_neg c2]
            by_cases c3 : co a = -33
            · rw [if_pos c3]
              exact ev_n hk x0 c3 K sv st
            · rw [if_neg c3]
              exact ev_b hk x0 c3 K sv st
      · have ev : ∀ c : List Int32, vmL lt false (co a :: c) s = vmL lt false c (run1 lt (co a) s) := by
          intro c
          rw [vmL, if_neg (fun q : co a = -59 => x0 (by rw [q]; decide)), if_neg (fun q : co a = -63 => x0 (by rw [q]; decide))]
        rw [if_neg x0, ev]
        exact ev_p hk x0 h0 K sv st
    · rw [if_pos (by rw [nI_leI (by omega) (by omega)]; omega), drop_e (by omega)]
      exact ⟨h, rfl⟩
theorem e_value {k0 cl : Nat} {co lt : Nat → Int32} (hk : kR k0) (hcl : cl ≤ 161) (hco : ∀ j, j < cl → co j < 10006) {h : AH} (sv : Stv k0 cl co lt h) : ∃ h', f_X7_value k0 40 h = some (vmL lt false (cods cl co) [], h') := by
  have := e_val4 (lt := lt) hk hcl hco FU 0 (by omega) (by unfold FU; omega) [] h sv Stk_nil
  exact this
