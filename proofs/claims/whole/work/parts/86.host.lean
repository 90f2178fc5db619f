/-! host -/
def muW (v : Wd) (sz wo : Nat → Nat) (row : Nat → Nat) (D j : Nat) : Int32 := wS wo (tkS v sz wo row D j)
def muB (v : Wd) (sz wo : Nat → Nat) (row : Nat → Nat) (D j : Nat) : Int32 := if tkS v sz wo row D j = -1 then 1 else 0
def muO (v : Wd) (sz wo : Nat → Nat) (row : Nat → Nat) (D j : Nat) : Int32 := if tkS v sz wo row D j = nI (row j) then 1 else 0
def lsF (x : Int32) (w : Nat → Int32) : Nat → Int32
  | 0 => x
  | k + 1 => if w k < lsF x w k then w k else lsF x w k
theorem lsF_eq {x y : Int32} {w : Nat → Int32} (h : (if w 0 < x then w 0 else x) = (if w 0 < y then w 0 else y)) : ∀ k, lsF x w (k + 1) = lsF y w (k + 1) := by
  intro k
  induction k with
  | zero => exact h
  | succ k ih => rw [lsF, ih]; rfl
def muS (v : Wd) (sz wo : Nat → Nat) (row : Nat → Nat) (m D : Nat) (x : Int32) : Int32 := if x = 0 then zs (muB v sz wo row D) m else if x = 1 then zs (muW v sz wo row D) m else if x = 2 then zs (muO v sz wo row D) m else lsF 99 (muW v sz wo row D) m
theorem tkS_c {v : Wd} {sz wo : Nat → Nat} {row : Nat → Nat} {D j : Nat} : tkS v sz wo row D j = -1 ∨ ∃ q, q < v.n ∧ tkS v sz wo row D j = nI q := (pk_c _ _).imp id (fun ⟨j, a, b, _⟩ => ⟨j, a, b⟩)
theorem e_much {v : Wd} {sz wo : Nat → Nat} {row : Nat → Nat} {m D : Nat} {h : AH} (x : Int32) (g : cGo v sz wo row m D h) (ro : rOk v.n row m) : f_X5_much 41 x h = some (muS v sz wo row m D x, h) := by
  have hn := g.1.1.1.1.1
  have m6 := ro.1
  unfold f_X5_much
  refine lp (fun n i (s : Int32 × Int32 × Int32 × Int32) => f_X5_much_14 n 41 x s.1 s.2.1 s.2.2.1 s.2.2.2 (nI i) h = some (muS v sz wo row m D x, h)) (fun i s => s = (zs (muB v sz wo row D) i, zs (muW v sz wo row D) i, zs (muO v sz wo row D) i, lsF 99 (muW v sz wo row D) i)) m (by omega) ?_ ?_ (s := (0, 0, 0, 99)) rfl
  · rintro n s rfl
    simp only
    rw [f_X5_much_14, g.2.1.1, if_pos (by rw [nI_leI (by omega) (by omega)]; omega)]
    unfold muS
    by_cases c1 : x = 0
    · rw [if_pos c1, if_pos c1]
    · rw [if_neg c1, if_neg c1]
      by_cases c2 : x = 1
      · rw [if_pos c2, if_pos c2]
      · rw [if_neg c2, if_neg c2]
        by_cases c3 : x = 2
        · rw [if_pos c3, if_pos c3]
        · rw [if_neg c3, if_neg c3]
  · rintro n i s hi rfl K
    simp only at K ⊢
    have ri := ro.2.1 i hi
    have t := g.2.2.2 i hi
    have K := K _ rfl
    rw [zs, zs, zs, lsF] at K
    rw [f_X5_much_14, g.2.1.1, if_neg (by rw [nI_leI (by omega) (by omega)]; omega), rv_41_1, an_42, og_ix (by omega) (by omega), nm_id, nI_clamp (by omega), g.2.1.2 i hi, e_worthC g.1.1 (by omega) t tkS_c, ob_some, rv_41_3, an_43, og_ix (by omega) (by omega), nI_clamp (by omega), t]
    unfold f_X5_much_57 f_X5_much_83
    simp only [nm_id, rv_41_3, an_43, og_ix (show row i < 6 by omega) (show row i < 2 ^ 31 by omega), nI_clamp (show row i < 2 ^ 31 by omega), t, nI_1]
    unfold muB muW muO at K
    unfold muB muW muO
    by_cases c1 : tkS v sz wo row D i = -1
    · rw [if_pos c1]
      by_cases c2 : tkS v sz wo row D i = nI (row i)
      · rw [if_pos c2]
        rw [if_pos c1, if_pos c2] at K
        exact K
      · rw [if_neg c2]
        rw [if_pos c1, if_neg c2] at K
        exact K
    · rw [if_neg c1]
      by_cases c2 : tkS v sz wo row D i = nI (row i)
      · rw [if_pos c2]
        rw [if_neg c1, if_pos c2] at K
        exact K
      · rw [if_neg c2]
        rw [if_neg c1, if_neg c2] at K
        exact K
theorem wS_b {v : Wd} {sz wo : Nat → Nat} (Z : szB v sz wo) {x : Int32} (hx : x = -1 ∨ ∃ q, q < v.n ∧ x = nI q) (hn : v.n ≤ 6) : ∃ w, w ≤ 99 ∧ wS wo x = nI w := by
  unfold wS
  rcases hx with rfl | ⟨q, hq, rfl⟩
  · exact ⟨0, by omega, rfl⟩
  · rw [if_neg (by rw [n_m1 (by omega)]; exact id), nI_clamp (by omega)]
    exact ⟨_, (Z q hq).2, rfl⟩
theorem e_muchM {v : Wd} {sz wo : Nat → Nat} {row : Nat → Nat} {m D : Nat} {h : AH} (x : Int32) (g : mGo v sz wo row m D h) (ro : rOk v.n row m) (m0 : 0 < m) : f_X12_hostCounts 56 x h = some (if x = 0 then -(muS v sz wo row m D x) else muS v sz wo row m D x, h) := by
  have hn := g.1.1.1.1
  have m6 := ro.1
  obtain ⟨w, hw, ew⟩ := wS_b g.1.2.2.1 (tkS_c (v := v) (sz := sz) (wo := wo) (row := row) (D := D) (j := 0)) hn
  have el : lsF 1000000000 (muW v sz wo row D) m = lsF 99 (muW v sz wo row D) m := by
    obtain ⟨k, rfl⟩ : ∃ k, m = k + 1 := ⟨m - 1, by omega⟩
    refine lsF_eq ?_ k
    unfold muW
    rw [ew, if_pos (show nI w < 1000000000 by rw [show (1000000000 : Int32) = nI 1000000000 from rfl, nI_ltI (by omega) (by decide)]; omega)]
    by_cases c : w < 99
    · rw [if_pos (show nI w < 99 by rw [show (99 : Int32) = nI 99 from rfl, nI_ltI (by omega) (by decide)]; exact c)]
    · rw [if_neg (show ¬ nI w < 99 by rw [show (99 : Int32) = nI 99 from rfl, nI_ltI (by omega) (by decide)]; exact c), show w = 99 by omega]
      rfl
  unfold f_X12_hostCounts
  refine lp (fun n i (s : Int32 × Int32 × Int32 × Int32) => f_X12_hostCounts_15 n 56 x s.1 s.2.1 s.2.2.1 s.2.2.2 (nI i) h = some (if x = 0 then -(muS v sz wo row m D x) else muS v sz wo row m D x, h)) (fun i s => s = (zs (muB v sz wo row D) i, zs (muW v sz wo row D) i, zs (muO v sz wo row D) i, lsF 1000000000 (muW v sz wo row D) i)) m (by omega) ?_ ?_ (s := (0, 0, 0, 1000000000)) rfl
  · rintro n s rfl
    simp only
    rw [f_X12_hostCounts_15, g.2.1.1, if_pos (by rw [nI_leI (by omega) (by omega)]; omega), el]
    unfold muS
    by_cases c1 : x = 0
    · rw [if_pos c1, if_pos c1, if_pos c1]
      rfl
    · rw [if_neg c1, if_neg c1, if_neg c1]
      by_cases c2 : x = 1
      · rw [if_pos c2, if_pos c2]
        rfl
      · rw [if_neg c2, if_neg c2]
        by_cases c3 : x = 2
        · rw [if_pos c3, if_pos c3]
          rfl
        · rw [if_neg c3, if_neg c3]
          rfl
  · rintro n i s hi rfl K
    simp only at K ⊢
    have ri := ro.2.1 i hi
    have t := g.2.2.2 i hi
    have K := K _ rfl
    rw [zs, zs, zs, lsF] at K
    have wt := e_worthM g.1 (show row i < 6 by omega) t tkS_c
    rw [f_X12_hostCounts_15, g.2.1.1, if_neg (by rw [nI_leI (by omega) (by omega)]; omega), rv_56_27, an_67, og_ix (by omega) (by omega), nm_id, nI_clamp (by omega), g.2.1.2 i hi, rv_56_28, an_68, og_ix (by omega) (by omega), nI_clamp (by omega), t]
    unfold f_X12_hostCounts_50 f_X12_hostCounts_80
    simp only [nm_id, wt, ob_some, rv_56_28, an_68, og_ix (show row i < 6 by omega) (show row i < 2 ^ 31 by omega), nI_clamp (show row i < 2 ^ 31 by omega), t, nI_1]
    unfold muB muW muO at K
    unfold muB muW muO
    by_cases c1 : tkS v sz wo row D i = -1
    · rw [if_pos c1]
      by_cases c2 : tkS v sz wo row D i = nI (row i)
      · rw [if_pos c2]
        rw [if_pos c1, if_pos c2] at K
        exact K
      · rw [if_neg c2]
        rw [if_pos c1, if_neg c2] at K
        exact K
    · rw [if_neg c1]
      by_cases c2 : tkS v sz wo row D i = nI (row i)
      · rw [if_pos c2]
        rw [if_neg c1, if_pos c2] at K
        exact K
      · rw [if_neg c2]
        rw [if_neg c1, if_neg c2] at K
        exact K
theorem zs01 {c : Nat → Int32} (h : ∀ i, c i = 0 ∨ c i = 1) : ∀ k, ∃ x, x ≤ k ∧ zs c k = nI x := by
  intro k
  induction k with
  | zero => exact ⟨0, Nat.le_refl _, rfl⟩
  | succ k ih =>
    obtain ⟨x, hx, e⟩ := ih
    rw [zs, e]
    rcases h k with q | q
    · rw [q, Int32.add_zero]
      exact ⟨x, by omega, rfl⟩
    · rw [q, nI_1]
      exact ⟨x + 1, by omega, rfl⟩
def nuF (row : Nat → Nat) : Nat → Nat
  | 0 => 0
  | k + 1 => nuF row k * 10 + row k
theorem nuF_num {l : List Nat} : ∀ k, k ≤ l.length → nuF (fun j => l.getD j 0) k = num (l.take k) := by
  intro k
  induction k with
  | zero => intro _; rfl
  | succ k ih =>
    intro h
    have hk : k < l.length := by omega
    rw [nuF, ih (by omega), List.take_succ_eq_append_getElem hk, num_app, Nat.mul_comm]
    simp [List.getD_eq_getElem?_getD, hk]
theorem e_number {row : Nat → Nat} {m n : Nat} {h : AH} (c : cRw row m h) (ro : rOk n row m) : f_X5_number 41 h = some (nI (nuF row m), h) := by
  have m6 := ro.1
  unfold f_X5_number
  refine lp (fun n i (s : Int32) => f_X5_number_4 n 41 s (nI i) h = some (nI (nuF row m), h)) (fun i s => s = nI (nuF row i)) m (by omega) ?_ ?_ rfl
  · rintro n s rfl
    rw [f_X5_number_4, c.1, if_pos (by rw [nI_leI (by omega) (by omega)]; omega)]
  · rintro n i s hi rfl K
    rw [f_X5_number_4, c.1, if_neg (by rw [nI_leI (by omega) (by omega)]; omega), rv_41_1, an_42, og_ix (by omega) (by omega), nm_id, nI_clamp (by omega), c.2 i hi, show nI (nuF row i) * 10 = nI (nuF row i * 10) from k_mul _ 10, nI_add, nm_id, nI_1]
    exact K _ rfl
def hoF (mu : Nat → Int32) (nb : Nat → Int32) (x : Int32) : Nat → Int32 × Int32
  | 0 => (0, 0)
  | k + 1 => if k = 0 ∨ (if x = 0 then mu k < (hoF mu nb x k).2 else (hoF mu nb x k).2 < mu k) then (nb k, mu k) else hoF mu nb x k
theorem hoF_t {mu nb : Nat → Int32} {x : Int32} {k : Nat} (c : k = 0 ∨ (if x = 0 then mu k < (hoF mu nb x k).2 else (hoF mu nb x k).2 < mu k)) : hoF mu nb x (k + 1) = (nb k, mu k) := if_pos c
theorem hoF_n {mu nb : Nat → Int32} {x : Int32} {k : Nat} (c : ¬ (k = 0 ∨ (if x = 0 then mu k < (hoF mu nb x k).2 else (hoF mu nb x k).2 < mu k))) : hoF mu nb x (k + 1) = hoF mu nb x k := if_neg c
theorem hoF_c {mu nb : Nat → Int32} {x : Int32} : ∀ k, ∃ j, j ≤ k ∧ hoF mu nb x (k + 1) = (nb j, mu j) := by
  intro k
  induction k with
  | zero => exact ⟨0, Nat.le_refl _, by rw [hoF, if_pos (Or.inl rfl)]⟩
  | succ k ih =>
    by_cases c : k + 1 = 0 ∨ (if x = 0 then mu (k + 1) < (hoF mu nb x (k + 1)).2 else (hoF mu nb x (k + 1)).2 < mu (k + 1))
    · exact ⟨k + 1, Nat.le_refl _, hoF_t c⟩
    · obtain ⟨j, hj, e⟩ := ih
      exact ⟨j, by omega, by rw [hoF_n c]; exact e⟩
def mu_ (v : Wd) (G D : Nat) (x : Int32) (k : Nat) : Int32 := muS v (fun q => v.it q 3) v.wo (rw_ G k) (pc G) D x
def nb_ (G k : Nat) : Int32 := nI (num ((WG G).getD k []))
theorem e_hostC {v : Wd} {G D : Nat} {h : AH} (x y : Int32) (hG : G < 2 ^ v.n) (g0 : 0 < G) (hD : D < 2 ^ v.n) (I0 : cI v (fun q => v.it q 3) v.wo G D 0 0 h) : ∃ h', f_X11_host_59 FU 0 x y (nI (nW G)) 0 0 0 0 h = some (if y = 0 then (hoF (mu_ v G D x) (nb_ G) x (nW G)).1 else (hoF (mu_ v G D x) (nb_ G) x (nW G)).2, h') := by
  have hn := I0.1.1.1.1.1
  have h64 := pow_le6 hn
  obtain ⟨_, _, w3, _, w5, _⟩ := W_parts g0 (show G < 64 by omega)
  refine lp (fun n i (s : (Int32 × Int32) × Int32 × AH) => ∃ h', f_X11_host_59 n 0 x y (nI (nW G)) s.1.1 s.1.2 s.2.1 (nI i) s.2.2 = some (if y = 0 then (hoF (mu_ v G D x) (nb_ G) x (nW G)).1 else (hoF (mu_ v G D x) (nb_ G) x (nW G)).2, h')) (fun i s => s.1 = hoF (mu_ v G D x) (nb_ G) x i ∧ cI v (fun q => v.it q 3) v.wo G D i s.2.1 s.2.2) (nW G) (by omega) ?_ ?_ (s := ((0, 0), 0, h)) ⟨rfl, I0⟩
  · rintro n ⟨s, z, g⟩ ⟨e, I⟩
    have e : s = _ := e
    subst e
    simp only
    rw [f_X11_host_59, if_pos (by rw [nI_leI (by omega) (by omega)]; omega)]
    refine ⟨g, ?_⟩
    by_cases c : y = 0
    · rw [if_pos c, if_pos c]
      rfl
    · rw [if_neg c, if_neg c]
      rfl
  · rintro n i ⟨s, z, g⟩ hi ⟨e, I⟩ K
    have e : s = _ := e
    subst e
    simp only at K ⊢
    have I : cI v (fun q => v.it q 3) v.wo G D i z g := I
    obtain ⟨h3, y', h4, e3, g3, e4, I4⟩ := c_it hG g0 hD I hi
    have r := W_row hn hG g0 hi
    have rl := (rChk_ok hn hG (w3 i hi)).1
    have nm1 : f_X5_number 41 h3 = some (nb_ G i, h3) := by
      rw [e_number g3.2.1 r.1]
      unfold nb_
      have : nuF (rw_ G i) (pc G) = num ((WG G).getD i []) := by
        have q := nuF_num (l := (WG G).getD i []) (pc G) (by omega)
        rw [List.take_of_length_le (by omega)] at q
        exact q
      rw [this]
    rw [f_X11_host_59, if_neg (by rw [nI_leI (by omega) (by omega)]; omega), rv_0_11, e3, ov_some, e_much x g3 r.1, ob_some]
    have M : muS v (fun q => v.it q 3) v.wo (rw_ G i) (pc G) D x = mu_ v G D x i := rfl
    rw [M]
    have K := K (hoF (mu_ v G D x) (nb_ G) x (i + 1), y', h4) ⟨rfl, I4⟩
    simp only at K
    rw [hoF] at K
    have i0 : (nI i = 0) = (i = 0) := propext (by
      rw [show (0 : Int32) = nI 0 from rfl]
      exact nI_eq (by omega) (by decide))
    have fin : ∀ s0 : Int32, (s0 = 0 ↔ ¬ (if x = 0 then mu_ v G D x i < (hoF (mu_ v G D x) (nb_ G) x i).2 else (hoF (mu_ v G D x) (nb_ G) x i).2 < mu_ v G D x i)) → ∃ h', f_X11_host_116 (f_X11_host_59 n) 0 x y (nI (nW G)) (hoF (mu_ v G D x) (nb_ G) x i).1 (hoF (mu_ v G D x) (nb_ G) x i).2 (nI i) (mu_ v G D x i) s0 h3 = some (if y = 0 then (hoF (mu_ v G D x) (nb_ G) x (nW G)).1 else (hoF (mu_ v G D x) (nb_ G) x (nW G)).2, h') := by
      intro s0 hs
      unfold f_X11_host_116 f_X11_host_128 f_X11_host_141
      simp only [rv_0_11, nm1, ob_some, e4, nm_id, nI_1]
      by_cases c : i = 0
      · rw [if_pos (Or.inl c)] at K
        rw [if_pos (by rw [i0]; exact c)]
        exact K
      · rw [if_neg (by rw [i0]; exact c)]
        by_cases d : s0 = 0
        · rw [if_pos d]
          rw [if_neg (fun w => w.elim c (hs.mp d))] at K
          exact K
        · rw [if_neg d]
          rw [if_pos (Or.inr (Decidable.byContradiction (fun w => d (hs.mpr w))))] at K
          exact K
    by_cases cx : x = 0
    · simp only [if_pos cx] at fin
      rw [if_pos cx]
      by_cases c : (hoF (mu_ v G D x) (nb_ G) x i).2 ≤ mu_ v G D x i
      · rw [if_pos c]
        exact fin 0 ⟨fun _ w => by rw [Int32.le_iff_toInt_le] at c; rw [Int32.lt_iff_toInt_lt] at w; omega, fun _ => rfl⟩
      · rw [if_neg c]
        exact fin 1 ⟨fun w => absurd w (by decide), fun w => absurd (by rw [Int32.lt_iff_toInt_lt]; rw [Int32.le_iff_toInt_le] at c; omega) w⟩
    · simp only [if_neg cx] at fin
      rw [if_neg cx]
      by_cases c : mu_ v G D x i ≤ (hoF (mu_ v G D x) (nb_ G) x i).2
      · rw [if_pos c]
        exact fin 0 ⟨fun _ w => by rw [Int32.le_iff_toInt_le] at c; rw [Int32.lt_iff_toInt_lt] at w; omega, fun _ => rfl⟩
      · rw [if_neg c]
        exact fin 1 ⟨fun w => absurd w (by decide), fun w => absurd (by rw [Int32.lt_iff_toInt_lt]; rw [Int32.le_iff_toInt_le] at c; omega) w⟩
theorem neg_lt {a b : Nat} (ha : a < 100) (hb : b < 100) : (-nI a < -nI b) ↔ b < a := by
  have : ∀ a, a < 100 → ∀ b, b < 100 → ((-nI a < -nI b) ↔ b < a) := by decide +kernel
  exact this a ha b hb
theorem mu_0 (v : Wd) (G D k : Nat) (hG : G < 64) : ∃ c, c < 100 ∧ mu_ v G D 0 k = nI c := by
  obtain ⟨c, hc, e⟩ := zs01 (c := muB v (fun q => v.it q 3) v.wo (rw_ G k) D) (fun i => by
    unfold muB
    split
    · exact Or.inr rfl
    · exact Or.inl rfl) (pc G)
  have := (pc_ok G hG).2
  exact ⟨c, by omega, e⟩
theorem e_hostM {v : Wd} {G u : Nat} {h : AH} (x y : Int32) (hG : G < 2 ^ v.n) (g0 : 0 < G) (hu : u < 4) (B : mB v h) (M : mW G h) : ∃ h', f_X12_host_53 FU 56 (nI u) (nI G) x y (-1) 0 0 h = some (if y = 0 then (hoF (mu_ v G (door v u G) x) (nb_ G) x (nW G)).1 else (hoF (mu_ v G (door v u G) x) (nb_ G) x (nW G)).2, h') := by
  have hn := B.n6
  have h64 := pow_le6 hn
  have pp := pc_pos G (by omega) g0
  obtain ⟨_, _, w3, _, w5, w6⟩ := W_parts g0 (show G < 64 by omega)
  generalize hD : door v u G = D
  have dl : D < 2 ^ v.n := by
    rw [← hD]
    exact door_lt v u G
  refine lp (fun n i (s : Int32 × Int32 × AH) => ∃ h', f_X12_host_53 n 56 (nI u) (nI G) x y s.1 s.2.1 (nI i) s.2.2 = some (if y = 0 then (hoF (mu_ v G D x) (nb_ G) x (nW G)).1 else (hoF (mu_ v G D x) (nb_ G) x (nW G)).2, h')) (fun i s => ((i = 0 ∧ s.1 = -1 ∧ s.2.1 = 0) ∨ (0 < i ∧ s.1 = (hoF (mu_ v G D x) (nb_ G) x i).1 ∧ s.2.1 = if x = 0 then -(hoF (mu_ v G D x) (nb_ G) x i).2 else (hoF (mu_ v G D x) (nb_ G) x i).2)) ∧ mB v s.2.2 ∧ mW G s.2.2) (nW G) (by omega) ?_ ?_ (s := (-1, 0, h)) ⟨Or.inl ⟨rfl, rfl, rfl⟩, B, M⟩
  · rintro n ⟨s, t, g⟩ ⟨e, B, M⟩
    have M : mW G g := M
    rcases e with e | ⟨_, e1, e2⟩
    · omega
    · have e1 : s = _ := e1
      have e2 : t = _ := e2
      simp only
      rw [f_X12_host_53, M.1, if_pos (by rw [nI_leI (by omega) (by omega)]; omega), e1, e2]
      refine ⟨g, ?_⟩
      by_cases c : y = 0
      · rw [if_pos c, if_pos c]
        rfl
      · rw [if_neg c, if_neg c]
        by_cases cx : x = 0
        · rw [if_pos cx, if_pos cx, Int32.neg_neg]
          rfl
        · rw [if_neg cx, if_neg cx]
          rfl
  · rintro n i ⟨s, t, g⟩ hi ⟨e, B, M⟩ K
    simp only at K ⊢
    have M : mW G g := M
    have B : mB v g := B
    obtain ⟨h3, e3, g3, M3, a3⟩ := m_way hG g0 dl B.1 M hi
    have r := W_row hn hG g0 hi
    have B3 := mB_agr a3 rfl B
    have dd := B.door hu (show G < 64 by omega)
    rw [hD] at dd
    rw [f_X12_host_53, M.1, if_neg (by rw [nI_leI (by omega) (by omega)]; omega), dd, ob_some, e3, ov_some, e_muchM x g3 r.1 pp, ob_some]
    have Mu : muS v (fun q => v.it q 3) v.wo (rw_ G i) (pc G) D x = mu_ v G D x i := rfl
    rw [Mu]
    unfold f_X12_host_98 f_X12_host_111
    simp only [rv_56_33, an_70, og_ix (show i < 720 by omega) (show i < 2 ^ 31 by omega), nI_clamp (show i < 2 ^ 31 by omega), M3.2 i hi, nm_id, nI_1]
    have take : (i = 0 ∨ (if x = 0 then mu_ v G D x i < (hoF (mu_ v G D x) (nb_ G) x i).2 else (hoF (mu_ v G D x) (nb_ G) x i).2 < mu_ v G D x i)) → ∃ h', f_X12_host_53 n 56 (nI u) (nI G) x y (nI (num ((WG G).getD i []))) (if x = 0 then -(mu_ v G D x i) else mu_ v G D x i) (nI (i + 1)) h3 = some (if y = 0 then (hoF (mu_ v G D x) (nb_ G) x (nW G)).1 else (hoF (mu_ v G D x) (nb_ G) x (nW G)).2, h') := by
      intro c
      refine K (nI (num ((WG G).getD i [])), (if x = 0 then -(mu_ v G D x i) else mu_ v G D x i), h3) ⟨Or.inr ⟨by omega, ?_, ?_⟩, B3, M3⟩
      · rw [hoF_t c]
        rfl
      · rw [hoF_t c]
    rcases e with ⟨e0, e1, e2⟩ | ⟨e0, e1, e2⟩
    · have e1 : s = _ := e1
      rw [e1, if_pos rfl]
      exact take (Or.inl e0)
    · have e1 : s = _ := e1
      have e2 : t = _ := e2
      obtain ⟨i', rfl⟩ : ∃ i', i = i' + 1 := ⟨i - 1, by omega⟩
      obtain ⟨j, hj, ej⟩ := hoF_c (mu := mu_ v G D x) (nb := nb_ G) (x := x) i'
      have nn : ¬ s = -1 := by
        rw [e1, ej]
        show ¬ nI _ = -1
        rw [n_m1 (by have := (W_num hn hG g0 (show j < nW G by omega)).1; omega)]
        exact id
      rw [if_neg nn, e2]
      have cmp : ((if x = 0 then -(hoF (mu_ v G D x) (nb_ G) x (i' + 1)).2 else (hoF (mu_ v G D x) (nb_ G) x (i' + 1)).2) < (if x = 0 then -(mu_ v G D x (i' + 1)) else mu_ v G D x (i' + 1))) ↔ (if x = 0 then mu_ v G D x (i' + 1) < (hoF (mu_ v G D x) (nb_ G) x (i' + 1)).2 else (hoF (mu_ v G D x) (nb_ G) x (i' + 1)).2 < mu_ v G D x (i' + 1)) := by
        by_cases cx : x = 0
        · rw [if_pos cx, if_pos cx, if_pos cx, ej]
          subst cx
          obtain ⟨a, ha, ea⟩ := mu_0 v G D j (by omega)
          obtain ⟨b, hb, eb⟩ := mu_0 v G D (i' + 1) (by omega)
          show (-mu_ v G D 0 j < _) ↔ (_ < mu_ v G D 0 j)
          rw [ea, eb, neg_lt ha hb, nI_ltI (by omega) (by omega)]
        · rw [if_neg cx, if_neg cx, if_neg cx]
      by_cases c : (if x = 0 then -(hoF (mu_ v G D x) (nb_ G) x (i' + 1)).2 else (hoF (mu_ v G D x) (nb_ G) x (i' + 1)).2) < (if x = 0 then -(mu_ v G D x (i' + 1)) else mu_ v G D x (i' + 1))
      · rw [if_pos c]
        exact take (Or.inr (cmp.mp c))
      · rw [if_neg c]
        have hh := hoF_n (mu := mu_ v G D x) (nb := nb_ G) (x := x) (k := i' + 1) (fun w => w.elim (by omega) (fun w => c (cmp.mpr w)))
        refine K (s, (if x = 0 then -(hoF (mu_ v G D x) (nb_ G) x (i' + 1)).2 else (hoF (mu_ v G D x) (nb_ G) x (i' + 1)).2), h3) ⟨Or.inr ⟨by omega, ?_, ?_⟩, B3, M3⟩
        · rw [hh]
          exact e1
        · rw [hh]
theorem isIn03 {x : Int32} : (¬ x < 0 ∧ ¬ 3 < x) ↔ (¬ x < 0 ∧ ¬ 3 < x) := Iff.rfl
theorem e_isIn03 (x : Int32) (h : AH) : f_X12_isIn x.toInt64 0 3 h = some (zb (decide (¬ x < 0 ∧ ¬ 3 < x)), h) := e_X12_isIn x 0 3 h
theorem g12 : G12 Rel := by
  intro h ⟨v, R⟩ a1 a2 a3 a4
  have hn := R.n6
  have h64 := pow_le6 hn
  suffices H : ∃ r h1 h2, f_X11_host 0 a1 a2 a3 a4 h = some (r, h1) ∧ f_X12_host 56 a1 a2 a3 a4 h1 = some (r, h2) by
    obtain ⟨r, h1, h2, e1, e2⟩ := H
    exact ⟨r, h1, h2, e1, e2, G_of R (w_f_X11_host_i0 _ _ _ _ _ _ e1) (w_f_X12_host_i56 _ _ _ _ _ _ e2) rfl rfl⟩
  have R2 := R.thr (x := 0)
  cases hp : ptB v.n a1 a2 with
  | false =>
    refine ⟨-1, h, sI h 56 0 0, ?_, ?_⟩
    · unfold f_X11_host
      simp only [e_isParty hn R.cn, hp, ob_some, zi, f_X11_host_29, Bool.false_eq_true, if_false]
    · unfold f_X12_host
      simp only [nm_id, e_isVisit hn R2.mn, hp, ob_some, zi, f_X12_host_37, Bool.false_eq_true, if_false]
  | true =>
    obtain ⟨u, G, hu, rfl, g0, hG, rfl⟩ := (ptB_iff hn).mp hp
    have n0 := n_of_G g0 hG
    by_cases hw : ¬ a3 < 0 ∧ ¬ 3 < a3
    · by_cases hx : ¬ a4 < 0 ∧ a4 ≤ 1
      · obtain ⟨h3, e3, B3, Z3, a3'⟩ := e_openDoor (R.cB n0) hu (show G < 64 by omega)
        obtain ⟨h4, e4, I4, _⟩ := c_first (D := door v u G) hn hG g0 Z3
        obtain ⟨h5, e5⟩ := e_hostC a3 a4 hG g0 (door_lt v u G) I4
        have E1 : f_X11_host 0 (nI u) (nI G) a3 a4 h = some (if a4 = 0 then (hoF (mu_ v G (door v u G) a3) (nb_ G) a3 (nW G)).1 else (hoF (mu_ v G (door v u G) a3) (nb_ G) a3 (nW G)).2, h5) := by
          unfold f_X11_host
          rw [e_isParty hn R.cn, hp, ob_some, zi, if_pos rfl, if_neg hw.1, if_neg hw.2, if_neg hx.1, if_pos hx.2, e3, ob_some, rv_0_11, e4, ob_some]
          exact e5
        have R5 : RelV v h5 := rel_agr (w_f_X11_host_i0 _ _ _ _ _ _ E1) rfl R
        have R6 := R5.thr (x := 0)
        obtain ⟨h6, e6, M6, a6⟩ := m_all hn hG g0 R6.mn
        have R7 : RelV v h6 := rel_agr a6 rfl R6
        obtain ⟨h7, e7⟩ := e_hostM a3 a4 hG g0 hu (R7.mB n0) M6
        refine ⟨_, h5, h7, E1, ?_⟩
        unfold f_X12_host
        rw [nm_id, e_isVisit hn R6.mn, hp, ob_some, zi, if_pos rfl, e_isIn03, ob_some, decide_eq_true hw, zi, if_pos rfl, e_isIn01, ob_some, decide_eq_true hx, zi, if_pos rfl, e6, ov_some]
        exact e7
      · refine ⟨-1, h, sI h 56 0 0, ?_, ?_⟩
        · unfold f_X11_host
          rw [e_isParty hn R.cn, hp, ob_some, zi, if_pos rfl, if_neg hw.1, if_neg hw.2]
          by_cases c1 : a4 < 0
          · rw [if_pos c1]
            rfl
          · rw [if_neg c1, if_neg (fun c2 => hx ⟨c1, c2⟩)]
            rfl
        · unfold f_X12_host
          rw [nm_id, e_isVisit hn R2.mn, hp, ob_some, zi, if_pos rfl, e_isIn03, ob_some, decide_eq_true hw, zi, if_pos rfl, e_isIn01, ob_some, decide_eq_false hx, zi, if_neg (by decide)]
          rfl
    · refine ⟨-1, h, sI h 56 0 0, ?_, ?_⟩
      · unfold f_X11_host
        rw [e_isParty hn R.cn, hp, ob_some, zi, if_pos rfl]
        by_cases c1 : a3 < 0
        · rw [if_pos c1]
          rfl
        · rw [if_neg c1, if_pos (Decidable.byContradiction (fun c2 => hw ⟨c1, c2⟩))]
          rfl
      · unfold f_X12_host
        rw [nm_id, e_isVisit hn R2.mn, hp, ob_some, zi, if_pos rfl, e_isIn03, ob_some, decide_eq_false hw, zi, if_neg (by decide)]
        rfl
