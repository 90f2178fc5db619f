/-! likely -/
def gA (v : Wd) : Nat := 2 ^ v.n - 1
def zk (v : Wd) (k : Nat) : Nat := nx v 0 (gA v) k
def cn (v : Wd) (m st : Nat) : Nat := nT (fun k => decide (zk v k = st)) m
def sm (F : Nat → Nat) : Nat → Nat
  | 0 => 0
  | k + 1 => sm F k + F k
theorem sm_cong {F F' : Nat → Nat} : ∀ m, (∀ i, i < m → F i = F' i) → sm F m = sm F' m := by
  intro m
  induction m with
  | zero => intro _; rfl
  | succ m ih =>
    intro h
    rw [sm, sm, ih (fun i hi => h i (by omega)), h m (by omega)]
theorem sm_0 : ∀ m, sm (fun _ => 0) m = 0 := by
  intro m
  induction m with
  | zero => rfl
  | succ m ih => rw [sm, ih]
theorem sm_up {F : Nat → Nat} {s : Nat} : ∀ m, s < m → sm F m = sm (up F s 0) m + F s := by
  intro m
  induction m with
  | zero => intro h; omega
  | succ m ih =>
    intro h
    rw [sm, sm]
    by_cases e : s = m
    · subst e
      rw [up_p, sm_cong (F := up F s 0) (F' := F) s (fun i hi => up_n (by omega))]
      omega
    · rw [ih (by omega), up_n (fun w => e w.symm)]
      omega
theorem sm_img {c : Nat → Nat} : ∀ m (F : Nat → Nat), (∀ i, i < m → c i < 625) → (∀ i j, i < m → j < m → c i = c j → i = j) → (∀ st, st < 625 → (∀ i, i < m → c i ≠ st) → F st = 0) → sm (fun i => F (c i)) m = sm F 625 := by
  intro m
  induction m with
  | zero =>
    intro F _ _ h
    rw [sm, sm_cong (F' := fun _ => 0) 625 (fun i hi => h i hi (fun j hj => absurd hj (by omega))), sm_0]
  | succ m ih =>
    intro F hc inj h
    have e := ih (up F (c m) 0) (fun i hi => hc i (by omega)) (fun i j hi hj => inj i j (by omega) (by omega)) (fun st hs w => by
      by_cases d : st = c m
      · rw [d, up_p]
      · rw [up_n d]
        refine h st hs (fun i hi => ?_)
        by_cases z : i = m
        · rw [z]
          exact fun q => d q.symm
        · exact w i (by omega))
    rw [sm, sm_up 625 (hc m (by omega)), ← e]
    congr 1
    exact sm_cong m (fun i hi => (up_n (fun q => by have := inj i m (by omega) (by omega) q; omega)).symm)
theorem sm_le {F F' : Nat → Nat} : ∀ m, (∀ i, i < m → F i ≤ F' i) → sm F m ≤ sm F' m := by
  intro m
  induction m with
  | zero => intro _; exact Nat.le_refl _
  | succ m ih =>
    intro h
    have a := ih (fun i hi => h i (by omega))
    have b := h m (by omega)
    rw [sm, sm]
    omega
theorem sm_div {F : Nat → Nat} {w : Nat} (hw : 0 < w) : ∀ m, sm (fun i => F i / w) m ≤ sm F m / w := by
  intro m
  induction m with
  | zero => exact Nat.zero_le _
  | succ m ih =>
    rw [sm, sm, Nat.le_div_iff_mul_le hw, Nat.add_mul]
    have a := Nat.div_mul_le_self (sm F m) w
    have b := Nat.div_mul_le_self (F m) w
    have c := Nat.mul_le_mul_right w ih
    omega
theorem sm_mul {F : Nat → Nat} {y : Nat} : ∀ m, sm (fun i => F i * y) m = sm F m * y := by
  intro m
  induction m with
  | zero => rw [sm, sm, Nat.zero_mul]
  | succ m ih => rw [sm, sm, ih, Nat.add_mul]
theorem sm_1 {z : Nat} : ∀ m, sm (fun st => if z = st then 1 else 0) m = if z < m then 1 else 0 := by
  intro m
  induction m with
  | zero => rfl
  | succ m ih =>
    rw [sm, ih]
    by_cases e : z = m
    · rw [if_neg (by omega), if_pos e, if_pos (by omega)]
    · rw [if_neg e]
      by_cases l : z < m
      · rw [if_pos l, if_pos (by omega)]
      · rw [if_neg l, if_neg (by omega)]
theorem sm_add {F F' : Nat → Nat} : ∀ m, sm (fun i => F i + F' i) m = sm F m + sm F' m := by
  intro m
  induction m with
  | zero => rfl
  | succ m ih =>
    rw [sm, sm, sm, ih]
    omega
theorem cn_s (v : Wd) (m st : Nat) : cn v (m + 1) st = cn v m st + if zk v m = st then 1 else 0 := by
  unfold cn
  rw [nT]
  by_cases e : zk v m = st
  · rw [if_pos (decide_eq_true e), if_pos e]
  · rw [if_neg (by rw [decide_eq_false e]; decide), if_neg e]
    rfl
theorem zk_lt {v : Wd} (hn : v.n ≤ 4) (k : Nat) : zk v k < 625 := Nat.lt_of_lt_of_le (nx_lt hn 0 _ k) (q5_le hn)
theorem cn_sum {v : Wd} (hn : v.n ≤ 4) : ∀ m, sm (cn v m) 625 = m := by
  intro m
  induction m with
  | zero =>
    rw [show cn v 0 = fun _ => 0 from funext (fun _ => rfl)]
    exact sm_0 625
  | succ m ih =>
    rw [sm_cong (F' := fun st => cn v m st + if zk v m = st then 1 else 0) 625 (fun st _ => cn_s v m st), sm_add, ih, sm_1, if_pos (zk_lt hn m)]
theorem cn_pos {v : Wd} {m st : Nat} (h : 0 < cn v m st) : ∃ k, k < m ∧ zk v k = st := by
  induction m with
  | zero => exact absurd h (by unfold cn nT; omega)
  | succ m ih =>
    rw [cn_s] at h
    by_cases e : zk v m = st
    · exact ⟨m, by omega, e⟩
    · rw [if_neg e] at h
      obtain ⟨k, a, b⟩ := ih h
      exact ⟨k, by omega, b⟩
theorem nW4 : ∀ n, n < 5 → nW (2 ^ n - 1) ≤ 24 := by decide +kernel
theorem gA_b {v : Wd} (hn : v.n ≤ 4) (n0 : v.n ≠ 0) : 0 < gA v ∧ gA v < 2 ^ v.n ∧ gA v < 64 ∧ (∀ p, p < v.n → (gA v).testBit p = true) ∧ 0 < nW (gA v) ∧ nW (gA v) ≤ 24 := by
  have a : 2 ^ 1 ≤ 2 ^ v.n := Nat.pow_le_pow_right (by decide) (by omega)
  have b := pow_le6 (n := v.n) (by omega)
  have g0 : 0 < gA v := by unfold gA; omega
  have g1 : gA v < 2 ^ v.n := by unfold gA; omega
  refine ⟨g0, g1, by omega, fun p hp => ?_, (W_parts g0 (by omega)).2.2.2.2.2, nW4 v.n (by omega)⟩
  unfold gA
  rw [Nat.testBit_two_pow_sub_one]
  exact decide_eq_true hp
theorem nx_full {v : Wd} (hn : v.n ≤ 4) (n0 : v.n ≠ 0) (so : SOk v.n v.has v.pl v.wo) {st : Nat} (ok : stOk v st) (k : Nat) : nx v st (gA v) k = zk v k := by
  obtain ⟨g0, g1, g2, g3, _⟩ := gA_b hn n0
  refine enc_cong _ (fun p hp => ?_)
  unfold nd
  rw [if_pos (g3 p hp), if_pos (g3 p hp)]
  unfold tkW
  rw [aD_door (by omega) g2 so ok g3, aD_door (by omega) g2 so zero_ok g3]
theorem zk_ok {v : Wd} (hn : v.n ≤ 4) (n0 : v.n ≠ 0) (so : SOk v.n v.has v.pl v.wo) {k : Nat} (hk : k < nW (gA v)) : stOk v (zk v k) := by
  obtain ⟨g0, g1, _⟩ := gA_b hn n0
  exact nx_ok hn so zero_ok g1 g0 hk
/-- the shares -/
def Pm (v : Wd) : Nat → Nat → Nat
  | 0 => fun st => if st = st0 v then 1000000000 else 0
  | e + 1 => fun st => cn v (nW (gA v)) st * sm (fun s => Pm v e s / nW (gA v)) 625
def Yv (v : Wd) (e : Nat) : Nat := sm (fun s => Pm v e s / nW (gA v)) 625
theorem sm_one {F : Nat → Nat} {s : Nat} (hs : s < 625) (h : ∀ st, st ≠ s → F st = 0) : sm F 625 = F s := by
  rw [sm_up 625 hs, sm_cong (F' := fun _ => 0) 625 (fun i _ => ?_), sm_0, Nat.zero_add]
  by_cases e : i = s
  · rw [e, up_p]
  · rw [up_n e, h i e]
theorem Yv_0 {v : Wd} (hn : v.n ≤ 4) (so : SOk v.n v.has v.pl v.wo) : Yv v 0 = 1000000000 / nW (gA v) := by
  have s0 : st0 v < 625 := Nat.lt_of_lt_of_le (st0_ok hn so).1 (q5_le hn)
  unfold Yv
  rw [sm_one s0]
  · show (if st0 v = st0 v then 1000000000 else 0) / nW (gA v) = _
    rw [if_pos rfl]
  · intro st hs
    show (if st = st0 v then 1000000000 else 0) / nW (gA v) = 0
    rw [if_neg hs, Nat.zero_div]
theorem Yv_le {v : Wd} (hn : v.n ≤ 4) (n0 : v.n ≠ 0) (so : SOk v.n v.has v.pl v.wo) : ∀ e, Yv v e ≤ 1000000000 / nW (gA v) := by
  obtain ⟨_, _, _, _, w0, _⟩ := gA_b hn n0
  intro e
  induction e with
  | zero => rw [Yv_0 hn so]; exact Nat.le_refl _
  | succ e ih =>
    refine Nat.le_trans ?_ ih
    show sm (fun s => cn v (nW (gA v)) s * Yv v e / nW (gA v)) 625 ≤ _
    have a := sm_div (F := fun s => cn v (nW (gA v)) s * Yv v e) w0 625
    rw [sm_mul, cn_sum hn, Nat.mul_div_cancel_left _ w0] at a
    exact a
theorem cnY_le {v : Wd} (hn : v.n ≤ 4) (n0 : v.n ≠ 0) (so : SOk v.n v.has v.pl v.wo) (e st : Nat) : cn v (nW (gA v)) st * Yv v e ≤ 1000000000 := by
  have a : cn v (nW (gA v)) st ≤ nW (gA v) := nT_le _ _
  have b := Yv_le hn n0 so e
  have c := Nat.mul_le_mul a b
  have d := Nat.div_mul_le_self 1000000000 (nW (gA v))
  rw [Nat.mul_comm (nW (gA v))] at c
  omega
theorem Pm_le {v : Wd} (hn : v.n ≤ 4) (n0 : v.n ≠ 0) (so : SOk v.n v.has v.pl v.wo) : ∀ e st, Pm v e st ≤ 1000000000 := by
  intro e st
  cases e with
  | zero =>
    show (if st = st0 v then 1000000000 else 0) ≤ 1000000000
    split <;> omega
  | succ e => exact cnY_le hn n0 so e st
theorem Pm_ok {v : Wd} (hn : v.n ≤ 4) (n0 : v.n ≠ 0) (so : SOk v.n v.has v.pl v.wo) : ∀ e st, 0 < Pm v e st → stOk v st := by
  intro e st h
  cases e with
  | zero =>
    have h : 0 < (if st = st0 v then 1000000000 else 0) := h
    by_cases d : st = st0 v
    · rw [d]
      exact st0_ok hn so
    · rw [if_neg d] at h
      omega
  | succ e =>
    have h : 0 < cn v (nW (gA v)) st * Yv v e := h
    have : 0 < cn v (nW (gA v)) st := by
      rcases Nat.eq_zero_or_pos (cn v (nW (gA v)) st) with z | z
      · rw [z, Nat.zero_mul] at h
        omega
      · exact z
    obtain ⟨k, hk, rfl⟩ := cn_pos this
    exact zk_ok hn n0 so hk
def lkA (v : Wd) (p : Nat) (x : Int32) (e : Nat) : Nat := sm (fun st => if hq st p = x then Pm v e st else 0) 625
/-- the class -/
def KI (v : Wd) (k m : Nat) (c : Nat → Nat) (h : AH) : Prop := h.1 51 5 = nI m ∧ m ≤ k ∧ (∀ i, i < m → c i < 625 ∧ h.1 52 i = nI (c i) ∧ h.1 53 i = nI (cn v k (c i)) ∧ 0 < cn v k (c i)) ∧ (∀ i j, i < m → j < m → c i = c j → i = j) ∧ ∀ st, 0 < cn v k st → ∃ i, i < m ∧ c i = st
theorem KI_agr {W : List (Nat × Nat)} {v : Wd} {k m : Nat} {c : Nat → Nat} {h0 h : AH} (a : Agr W h0 h) (d : Wdis W ((51, 5) :: (52, 1000) :: (53, 1000) :: []) = true) (I : KI v k m c h0) : KI v k m c h := by
  have e := agr_on a d
  unfold KI at I ⊢
  rw [e 51 5 rfl, eqOn_c e 52 (fun _ => rfl), eqOn_c e 53 (fun _ => rfl)]
  exact I
theorem e_addKind {v : Wd} {k m : Nat} {c : Nat → Nat} {h : AH} (hn : v.n ≤ 4) (hk : k < 24) (I : KI v k m c h) : ∃ m' c' h', f_X4_addKind 51 (nI (zk v k)) h = some h' ∧ KI v (k + 1) m' c' h' := by
  have zl := zk_lt hn k
  obtain ⟨I1, I2, I3, I4, I5⟩ := I
  unfold f_X4_addKind
  refine lp (fun fu i (_ : Unit) => ∃ m' c' h', f_X4_addKind_2 fu 51 (nI (zk v k)) (nI i) h = some h' ∧ KI v (k + 1) m' c' h') (fun i _ => ∀ j, j < i → c j ≠ zk v k) m (by omega) ?_ ?_ (s := ()) (fun j hj => absurd hj (by omega))
  · rintro fu _ ne
    have z0 : cn v k (zk v k) = 0 := by
      rcases Nat.eq_zero_or_pos (cn v k (zk v k)) with z | z
      · exact z
      · obtain ⟨i, hi, e⟩ := I5 _ z
        exact absurd e (ne i hi)
    rw [f_X4_addKind_2, I1, if_pos (by rw [nI_leI (by omega) (by omega)]; omega), if_neg (by rw [show (24 : Int32) = nI 24 from rfl, nI_leI (by decide) (by omega)]; omega), rv_51_3, an_52, og_ix (by omega) (by omega), nm_id, sI_n (Or.inl (by decide)), I1, rv_51_4, an_53, og_ix (by omega) (by omega), nm_id, sI_n (Or.inl (by decide)), sI_n (Or.inl (by decide)), I1, nI_clamp (by omega), nI_1, nm_id]
    unfold f_X4_addKind_76
    have cs : ∀ st, st ≠ zk v k → cn v (k + 1) st = cn v k st := fun st w => by rw [cn_s, if_neg (fun q => w q.symm)]; rfl
    have c1 : cn v (k + 1) (zk v k) = 1 := by rw [cn_s, if_pos rfl, z0]
    refine ⟨m + 1, up c m (zk v k), _, rfl, sI_s .., by omega, fun i hi => ?_, fun i j hi hj e => ?_, fun st hs => ?_⟩
    · have w52 : ∀ j, (sI (sI (sI h 52 m (nI (zk v k))) 53 m 1) 51 5 (nI (m + 1))).1 52 j = (sI h 52 m (nI (zk v k))).1 52 j := fun j => by rw [sI_n (Or.inl (by decide)), sI_n (Or.inl (by decide))]
      have w53 : ∀ j, (sI (sI (sI h 52 m (nI (zk v k))) 53 m 1) 51 5 (nI (m + 1))).1 53 j = (sI (sI h 52 m (nI (zk v k))) 53 m 1).1 53 j := fun j => by rw [sI_n (Or.inl (by decide))]
      rw [w52, w53]
      by_cases d : i = m
      · rw [d, up_p, sI_s, sI_s, c1]
        exact ⟨zl, rfl, rfl, by omega⟩
      · have hi' : i < m := by omega
        rw [up_n d, sI_n (Or.inr d), sI_n (Or.inr d), sI_n (Or.inl (by decide)), cs _ (ne i hi')]
        exact I3 i hi'
    · by_cases d : i = m
      · by_cases d2 : j = m
        · omega
        · rw [d, up_p, up_n d2] at e
          exact absurd e.symm (ne j (by omega))
      · by_cases d2 : j = m
        · rw [d2, up_p, up_n d] at e
          exact absurd e (ne i (by omega))
        · rw [up_n d, up_n d2] at e
          exact I4 i j (by omega) (by omega) e
    · by_cases d : st = zk v k
      · exact ⟨m, by omega, by rw [up_p, d]⟩
      · rw [cs st d] at hs
        obtain ⟨i, hi, e⟩ := I5 st hs
        exact ⟨i, by omega, by rw [up_n (by omega), e]⟩
  · rintro fu i _ hi ne K
    rw [f_X4_addKind_2, I1, if_neg (by rw [nI_leI (by omega) (by omega)]; omega), rv_51_3, an_52, og_ix (by omega) (by omega), nI_clamp (by omega), (I3 i hi).2.1]
    have ci := (I3 i hi).1
    by_cases e : c i = zk v k
    · rw [if_pos (by rw [e]), rv_51_4, an_53, og_ix (by omega) (by omega), og_ix (by omega) (by omega), nm_id, (I3 i hi).2.2.1, nI_1]
      have oth : ∀ j, j < m → j ≠ i → cn v (k + 1) (c j) = cn v k (c j) := by
        intro j hj d
        rw [cn_s, if_neg]
        · rfl
        · intro q
          exact d (I4 j i hj hi (by rw [e, q]))
      have own : cn v (k + 1) (c i) = cn v k (c i) + 1 := by rw [cn_s, if_pos e.symm]
      refine ⟨m, c, _, rfl, I1, by omega, fun j hj => ?_, I4, fun st hs => ?_⟩
      · rw [sI_n (Or.inl (by decide))]
        by_cases d : j = i
        · rw [d, sI_s, own]
          exact ⟨ci, (I3 i hi).2.1, rfl, by omega⟩
        · rw [sI_n (Or.inr d), oth j hj d]
          exact I3 j hj
      · by_cases d : st = zk v k
        · exact ⟨i, hi, by rw [e, d]⟩
        · rw [cn_s, if_neg (fun q => d q.symm)] at hs
          exact I5 st hs
    · rw [if_neg (by rw [nI_eq (by omega) (by omega)]; exact e), nm_id, nI_1]
      refine K () (fun j hj => ?_)
      by_cases d : j = i
      · rw [d]
        exact e
      · exact ne j (by omega)
theorem e_findKinds {v : Wd} {h : AH} (hn : v.n ≤ 4) (B : cB v h) (Z : cZ v (fun q => v.it q 3) v.wo h) : ∃ m c h', f_X4_findKinds 51 h = some (nI (nW (gA v)), h') ∧ KI v (nW (gA v)) m c h' := by
  have so := B.2.2.2.1
  have n0 := B.2.2.2.2.1
  have hn6 : v.n ≤ 6 := by omega
  have h64 := pow_le6 hn6
  have p1 := Nat.two_pow_pos v.n
  obtain ⟨g0, hG, g2, g3, w0, w24⟩ := gA_b hn n0
  have dl : door (stW v 0) 0 (gA v) < 2 ^ v.n := door_lt (stW v 0) 0 (gA v)
  obtain ⟨h1, e1, I1, a1⟩ := c_first (D := door (stW v 0) 0 (gA v)) hn6 hG g0 Z
  have a2 : Agr ((51, 5) :: []) h1 (sI h1 51 5 0) := agr_sI (agr_refl h1) rfl
  have eg : nI (2 ^ v.n) - 1 = nI (gA v) := pk_sub (a := 2 ^ v.n) (b := 1) p1
  have ea : f_X4_pairsAround 51 h = some (nI (door (stW v 0) 0 (gA v)), h) := by
    rw [aD_door hn6 g2 so zero_ok g3]
    exact e_around hn6 B.cn (fun q hq' => (B.2.2.2.2.2.2.2.1 q hq').2.1)
  unfold f_X4_findKinds
  rw [ea, ob_some, rv_51_0, B.cn, shl_n _ (by omega), eg, rv_51_2, e1, ob_some, nm_id]
  have cI_agr : ∀ {W : List (Nat × Nat)} {k : Nat} {y : Int32} {g g' : AH}, Agr W g g' → Wdis W ((38, 1000) :: (39, 1000) :: (41, 2) :: (42, 1000) :: (43, 1000) :: (44, 1000) :: STc) = true → cI v (fun q => v.it q 3) v.wo (gA v) (door (stW v 0) 0 (gA v)) k y g → cI v (fun q => v.it q 3) v.wo (gA v) (door (stW v 0) 0 (gA v)) k y g' := by
    intro W k y g g' a d I
    have e := agr_on a d
    refine ⟨⟨cF_eq (eqOn_sub e rfl) I.1.1, cK_eq (eqOn_c e 38 (fun _ => rfl)) (eqOn_c e 39 (fun _ => rfl)) I.1.2⟩, fun hk => ?_⟩
    obtain ⟨f, f1, f2, f3, f4⟩ := I.2 hk
    refine ⟨f, f1, f2, ?_, ?_⟩
    · unfold cRw at f3 ⊢
      rw [e 41 2 rfl, eqOn_c e 42 (fun _ => rfl)]
      exact f3
    · unfold cSt at f4 ⊢
      rw [eqOn_c e 43 (fun _ => rfl), eqOn_c e 44 (fun _ => rfl)]
      exact f4
  refine lp (fun fu i (y : Int32 × AH) => ∃ m c h', f_X4_findKinds_32 fu 51 (nI (nW (gA v))) y.1 (nI i) y.2 = some (nI (nW (gA v)), h') ∧ KI v (nW (gA v)) m c h') (fun i y => cI v (fun q => v.it q 3) v.wo (gA v) (door (stW v 0) 0 (gA v)) i y.1 y.2 ∧ ∃ m c, KI v i m c y.2) (nW (gA v)) (by omega) ?_ ?_ (s := (0, sI h1 51 5 0)) ⟨cI_agr a2 rfl I1, 0, fun _ => 0, sI_s .., Nat.le_refl _, fun i hi => absurd hi (by omega), fun i j hi => absurd hi (by omega), fun st hs => absurd hs (by unfold cn nT; omega)⟩
  · rintro fu ⟨y, g⟩ ⟨Ig, m, c, Kg⟩
    simp only
    rw [f_X4_findKinds_32, if_pos (by rw [nI_leI (by omega) (by omega)]; omega)]
    exact ⟨m, c, g, rfl, Kg⟩
  · rintro fu i ⟨y, g⟩ hi ⟨Ig, m, c, Kg⟩ K
    have Ig : cI v (fun q => v.it q 3) v.wo (gA v) (door (stW v 0) 0 (gA v)) i y g := Ig
    have Kg : KI v i m c g := Kg
    simp only at K ⊢
    obtain ⟨h3, e3, G3, a3⟩ := c_step hG g0 dl Ig hi
    have eb : f_X4_stateBehind 51 0 h3 = some (nI (zk v i), h3) := e_behind hn hG g0 hi zero_ok.1 G3
    obtain ⟨m', c', h5, e5, K5⟩ := e_addKind hn (show i < 24 by omega) (KI_agr a3 rfl Kg)
    have a5 : Agr W_X4_addKind_i51 h3 h5 := w_f_X4_addKind_i51 _ _ _ e5
    obtain ⟨y', h6, e6, I6, a6⟩ := c_nxt hG g0 (cGo_agr a5 rfl G3) hi
    rw [f_X4_findKinds_32, if_neg (by rw [nI_leI (by omega) (by omega)]; omega), rv_51_2, e3, ov_some, eb, ob_some, e5, ov_some, e6, ob_some, nm_id, nI_1]
    exact K (y', h6) ⟨I6, m', c', KI_agr a6 rfl K5⟩
theorem mx1 {w : Nat} (h0 : 0 < w) (hw : w ≤ 24) : (if 1 < nI w then nI w else 1) = nI w := by
  by_cases c : 1 < w
  · rw [if_pos (by rw [show (1 : Int32) = nI 1 from rfl, nI_ltI (by decide) (by omega)]; exact c)]
  · have : w = 1 := by omega
    rw [this]
    decide
theorem KI_sm {v : Wd} {m : Nat} {c : Nat → Nat} {h : AH} (I : KI v (nW (gA v)) m c h) (F : Nat → Nat) (hF : ∀ st, cn v (nW (gA v)) st = 0 → F st = 0) : sm (fun i => F (c i)) m = sm F 625 := by
  obtain ⟨_, _, I3, I4, I5⟩ := I
  refine sm_img m F (fun i hi => (I3 i hi).1) I4 (fun st _ w => hF st ?_)
  rcases Nat.eq_zero_or_pos (cn v (nW (gA v)) st) with z | z
  · exact z
  · obtain ⟨i, hi, e⟩ := I5 st z
    exact absurd e (w i hi)
theorem e_ch56 {v : Wd} {m e : Nat} {c : Nat → Nat} {x1 x2 x3 x6 : Int32} {h : AH} (q44 : Nat → Int32 → Int32 → Int32 → Int32 → Int32 → Int32 → AH → Option (Int32 × AH)) (hn : v.n ≤ 4) (n0 : v.n ≠ 0) (so : SOk v.n v.has v.pl v.wo) (I : KI v (nW (gA v)) m c h) : f_X4_chance_56 q44 FU 51 x1 x2 x3 (nI (nW (gA v))) (nI (Yv v e)) x6 0 0 h = q44 51 x1 x2 x3 (nI (nW (gA v))) (nI (Yv v (e + 1))) (x6 + 1) h := by
  obtain ⟨_, _, _, _, w0, w24⟩ := gA_b hn n0
  have fin : sm (fun i => cn v (nW (gA v)) (c i) * Yv v e / nW (gA v)) m = Yv v (e + 1) := KI_sm I (fun st => cn v (nW (gA v)) st * Yv v e / nW (gA v)) (fun st z => by rw [z, Nat.zero_mul, Nat.zero_div])
  obtain ⟨I1, I2, I3, I4, I5⟩ := I
  refine lp (fun fu i (s : Int32) => f_X4_chance_56 q44 fu 51 x1 x2 x3 (nI (nW (gA v))) (nI (Yv v e)) x6 s (nI i) h = q44 51 x1 x2 x3 (nI (nW (gA v))) (nI (Yv v (e + 1))) (x6 + 1) h) (fun i s => s = nI (sm (fun i => cn v (nW (gA v)) (c i) * Yv v e / nW (gA v)) i)) m (by omega) ?_ ?_ rfl
  · rintro fu s rfl
    rw [f_X4_chance_56, I1, if_pos (by rw [nI_leI (by omega) (by omega)]; omega), nm_id, fin]
  · rintro fu i s hi rfl K
    have b := cnY_le hn n0 so e (c i)
    rw [f_X4_chance_56, I1, if_neg (by rw [nI_leI (by omega) (by omega)]; omega), rv_51_4, an_53, og_ix (by omega) (by omega), mx1 w0 w24, og_t (decide_eq_true (nI_ne0 w0 (by omega))), nm_id, nm_id, nI_1, nI_clamp (by omega), (I3 i hi).2.2.1, pk_mul, pk_div (by omega) w0 (by omega), nI_add]
    exact K _ rfl
theorem e_ch109 {v : Wd} {m e p : Nat} {c : Nat → Nat} {x : Int32} {h : AH} (hn : v.n ≤ 4) (hp : p < v.n) (I : KI v (nW (gA v)) m c h) : f_X4_chance_109 FU 51 (nI p) x (nI (Yv v e)) 0 0 h = some (nI (lkA v p x (e + 1)), h) := by
  have n0 : v.n ≠ 0 := by omega
  obtain ⟨_, _, _, _, w0, w24⟩ := gA_b hn n0
  have fin : sm (fun i => if hq (c i) p = x then cn v (nW (gA v)) (c i) * Yv v e else 0) m = lkA v p x (e + 1) := KI_sm I (fun st => if hq st p = x then cn v (nW (gA v)) st * Yv v e else 0) (fun st z => by rw [z, Nat.zero_mul]; split <;> rfl)
  obtain ⟨I1, I2, I3, I4, I5⟩ := I
  refine lp (fun fu i (s : Int32) => f_X4_chance_109 fu 51 (nI p) x (nI (Yv v e)) s (nI i) h = some (nI (lkA v p x (e + 1)), h)) (fun i s => s = nI (sm (fun i => if hq (c i) p = x then cn v (nW (gA v)) (c i) * Yv v e else 0) i)) m (by omega) ?_ ?_ rfl
  · rintro fu s rfl
    rw [f_X4_chance_109, I1, if_pos (by rw [nI_leI (by omega) (by omega)]; omega), fin]
  · rintro fu i s hi rfl K
    have ci := (I3 i hi).1
    rw [f_X4_chance_109, I1, if_neg (by rw [nI_leI (by omega) (by omega)]; omega), rv_51_3, an_52, og_ix (by omega) (by omega), nI_clamp (by omega), (I3 i hi).2.1, e_pairIn ci (by omega), ob_some]
    unfold f_X4_chance_149
    by_cases d : hq (c i) p = x
    · rw [if_pos d, rv_51_4, an_53, og_ix (by omega) (by omega), nm_id, nm_id, nI_1, (I3 i hi).2.2.1, pk_mul, nI_add]
      exact K _ (by rw [sm, if_pos d])
    · rw [if_neg d, nm_id, nm_id, nI_1]
      refine K _ ?_
      rw [sm, if_neg d, Nat.add_zero, show (0 : Int32) = nI 0 from rfl, nI_add, Nat.add_zero]
theorem e_chance {v : Wd} {N p : Nat} {x : Int32} {h : AH} (hn : v.n ≤ 4) (hN : N ≤ 20) (hp : p < v.n) (B : cB v h) (Z : cZ v (fun q => v.it q 3) v.wo h) : ∃ h', f_X4_chance 51 (nI N) (nI p) x h = some (nI (lkA v p x N), h') := by
  have so := B.2.2.2.1
  have n0 := B.2.2.2.2.1
  obtain ⟨_, _, _, _, w0, w24⟩ := gA_b hn n0
  unfold f_X4_chance
  cases N with
  | zero =>
    have s0 : st0 v < 625 := Nat.lt_of_lt_of_le (st0_ok hn so).1 (q5_le hn)
    rw [if_pos (show nI 0 = 0 from rfl), rv_51_1, rv_24_0, an_25, og_ix (by omega) (by omega), nI_clamp (by omega), (B.2.2.2.2.2.2.2.1 p hp).1]
    unfold f_X4_chance_23 lkA
    rw [sm_one (s := st0 v) s0 (fun st w => by
      show (if hq st p = x then (if st = st0 v then 1000000000 else 0) else 0) = 0
      rw [if_neg w]
      split <;> rfl)]
    show ∃ h', _ = some (nI (if hq (st0 v) p = x then (if st0 v = st0 v then 1000000000 else 0) else 0), h')
    rw [st0_hq hn so hp, if_pos (show st0 v = st0 v from rfl)]
    by_cases d : v.has p = x
    · rw [if_pos d, if_pos d]
      exact ⟨h, rfl⟩
    · rw [if_neg d, if_neg d]
      exact ⟨h, rfl⟩
  | succ N =>
    obtain ⟨m, c, h3, e3, I3⟩ := e_findKinds hn B Z
    have ed : (1000000000 : Int32) / nI (nW (gA v)) = nI (Yv v 0) := by
      rw [Yv_0 hn so]
      exact pk_div (a := 1000000000) (by decide) w0 (by omega)
    rw [if_neg (nI_ne0 (by omega) (by omega)), e3, ob_some, mx1 w0 w24, og_t (decide_eq_true (nI_ne0 w0 (by omega))), nm_id, ed]
    refine ⟨h3, ?_⟩
    refine lp (fun fu i (_ : Unit) => f_X4_chance_44 fu 51 (nI (N + 1)) (nI p) x (nI (nW (gA v))) (nI (Yv v i)) (nI (i + 1)) h3 = some (nI (lkA v p x (N + 1)), h3)) (fun _ _ => True) N (by omega) ?_ ?_ (s := ()) trivial
    · rintro fu _ _
      rw [f_X4_chance_44, if_pos (by rw [nI_leI (by omega) (by omega)]; omega)]
      exact e_ch109 hn hp I3
    · rintro fu i _ hi _ K
      rw [f_X4_chance_44, if_neg (by rw [nI_leI (by omega) (by omega)]; omega), e_ch56 (f_X4_chance_44 fu) hn n0 so I3, nI_1]
      exact K () trivial
/-- the model: an evening of shares -/
theorem e_s43 {f : Nat → Nat} {n st W P : Nat} {x2 x3 x4 : Int32} {h : AH} (q15 : Nat → Int32 → Int32 → Int32 → Int32 → AH → Option AH) (hn : n ≤ 6) (hs : st < 625) (hz : enc f n < 625) (w0 : 0 < W) (hw : W < 1000) (hP : P < 2 ^ 31) (h34 : h.1 56 34 = nI W) (h74 : h.1 74 st = nI P) (e : ∀ p, p < n → h.1 68 p = nI (f p) - 1) : ∀ j fu s, j ≤ n → j < fu → s * 5 ^ j + enc f j = enc f n → f_X12_spread_43 q15 fu 56 (nI st) x2 x3 x4 (nI s) (nI j - 1) h = q15 56 (nI st) x2 x3 (x4 + 1) (sI h 75 (enc f n) (h.1 75 (enc f n) + nI (P / W))) := by
  intro j
  induction j with
  | zero =>
    intro fu s _ hf w
    obtain ⟨fu, rfl⟩ : ∃ k, fu = k + 1 := ⟨fu - 1, by omega⟩
    rw [enc, Nat.pow_zero, Nat.mul_one, Nat.add_zero] at w
    rw [f_X12_spread_43, if_pos (by decide), w, rv_56_40, an_75, og_ix hz (by omega), rv_56_39, an_74, og_ix hs (by omega), h34, og_t (decide_eq_true (nI_ne0 w0 (by omega))), og_ix hz (by omega), nm_id, nm_id, nI_clamp (by omega), nI_clamp (by omega), h74, pk_div hP w0 (by omega)]
  | succ j ih =>
    intro fu s hj hf w
    obtain ⟨fu, rfl⟩ : ∃ k, fu = k + 1 := ⟨fu - 1, by omega⟩
    rw [nI_pred, f_X12_spread_43, if_neg (nI_pos (by omega)), rv_56_28, an_68, og_ix (by omega) (by omega), nI_clamp (by omega), e j (by omega), nm_id, nm_id, m1p, nI_m1', k_mul', nI_add]
    refine ih fu _ (by omega) (by omega) ?_
    rw [← w, enc, Nat.pow_succ, Nat.add_mul, show OfNat.ofNat 5 = 5 from rfl, Nat.mul_assoc, Nat.mul_comm 5]
    omega
theorem e_spreadM {v : Wd} {st P : Nat} {A : Nat → Nat} {h : AH} (hn : v.n ≤ 4) (n0 : v.n ≠ 0) (so : SOk v.n v.has v.pl v.wo) (ok : stOk v st) (hP : P < 2 ^ 31) (K : KM v h) (M : mW (gA v) h) (h74 : h.1 74 st = nI P) (h75 : ∀ c, c < 625 → h.1 75 c = nI (A c)) : ∃ h', f_X12_spread 56 (nI st) (nI (gA v)) h = some h' ∧ KM v h' ∧ mW (gA v) h' ∧ h'.1 74 = h.1 74 ∧ ∀ c, c < 625 → h'.1 75 c = nI (A c + cn v (nW (gA v)) c * (P / nW (gA v))) := by
  have hn6 : v.n ≤ 6 := by omega
  have h64 := pow_le6 hn6
  have p5 := q5_le hn
  have s5 := ok.1
  obtain ⟨g0, hG, g2, g3, w0, w24⟩ := gA_b hn n0
  obtain ⟨h2, e2, B2, K2, a2⟩ := e_have hn n0 so ok K
  have ed : f_X12_doorOf 56 0 (nI (gA v)) h2 = some (nI (door (stW v st) 0 (gA v)), h2) := B2.door (u := 0) (by omega) g2
  unfold f_X12_spread
  rw [e2, ov_some, ed, ob_some]
  refine lp (fun fu i g => ∃ h', f_X12_spread_15 fu 56 (nI st) (nI (gA v)) (nI (door (stW v st) 0 (gA v))) (nI i) g = some h' ∧ KM v h' ∧ mW (gA v) h' ∧ h'.1 74 = h.1 74 ∧ ∀ c, c < 625 → h'.1 75 c = nI (A c + cn v (nW (gA v)) c * (P / nW (gA v)))) (fun i g => KM v g ∧ mW (gA v) g ∧ g.1 74 = h.1 74 ∧ ∀ c, c < 625 → g.1 75 c = nI (A c + cn v i c * (P / nW (gA v)))) (nW (gA v)) (by omega) ?_ ?_ ⟨K2, mW_agr a2 rfl M, agr_cell a2 74 rfl, fun c hc => ?_⟩
  · rintro fu g ⟨Kg, Mg, g74, g75⟩
    rw [f_X12_spread_15, Mg.1, if_pos (by rw [nI_leI (by omega) (by omega)]; omega)]
    exact ⟨g, rfl, Kg, Mg, g74, g75⟩
  · rintro fu i g hi ⟨Kg, Mg, g74, g75⟩ Kx
    obtain ⟨h3, e3, G3, M3, a3⟩ := m_way (v := v) (sz := fun q => v.it q 3) (wo := v.wo) hG g0 (show door (stW v st) 0 (gA v) < 2 ^ v.n from door_lt (stW v st) 0 (gA v)) Kg.1 Mg hi
    have r := W_row hn6 hG g0 hi
    have K3 := KM_agr a3 rfl Kg
    have e68 : ∀ p, p < v.n → h3.1 68 p = nI (nd v st (gA v) i p) - 1 := by
      intro p hp
      rw [mGo_t G3 r (g3 p hp)]
      unfold nd
      rw [if_pos (g3 p hp)]
      exact (tkN_e (n := v.n) (by omega) (tkP_c (v := v) (sz := fun q => v.it q 3) (wo := v.wo) (row := rw_ (gA v) i) (m := pc (gA v)) (D := door (stW v st) 0 (gA v)) (p := p))).1.symm
    have zl := zk_lt hn i
    have ez : enc (nd v st (gA v) i) v.n = zk v i := nx_full hn n0 so ok i
    have e43 := e_s43 (x2 := nI (gA v)) (x3 := nI (door (stW v st) 0 (gA v))) (x4 := nI i) (f_X12_spread_15 fu) hn6 (show st < 625 by omega) (by rw [ez]; exact zl) w0 (by omega) hP M3.1 (by rw [agr_cell a3 74 rfl, g74, h74]) e68 v.n FU 0 (Nat.le_refl _) (by unfold FU; omega) (by rw [Nat.zero_mul, Nat.zero_add])
    rw [ez] at e43
    have e43' : f_X12_spread_43 (f_X12_spread_15 fu) FU 56 (nI st) (nI (gA v)) (nI (door (stW v st) 0 (gA v))) (nI i) 0 (nI v.n - 1) h3 = f_X12_spread_15 fu 56 (nI st) (nI (gA v)) (nI (door (stW v st) 0 (gA v))) (nI i + 1) (sI h3 75 (zk v i) (h3.1 75 (zk v i) + nI (P / nW (gA v)))) := e43
    have aS : Agr ((75, 1000) :: []) h3 (sI h3 75 (zk v i) (h3.1 75 (zk v i) + nI (P / nW (gA v)))) := agr_sI (agr_refl h3) rfl
    rw [f_X12_spread_15, Mg.1, if_neg (by rw [nI_leI (by omega) (by omega)]; omega), e3, ov_some, nm_id, K3.mn, e43', nI_1]
    refine Kx _ ⟨KM_agr aS rfl K3, mW_agr aS rfl M3, by rw [agr_cell aS 74 rfl, agr_cell a3 74 rfl, g74], fun c hc => ?_⟩
    rw [cn_s]
    by_cases d : zk v i = c
    · rw [← d, sI_s, agr_cell a3 75 rfl, g75 _ zl, nI_add, if_pos rfl, Nat.add_mul, Nat.one_mul, Nat.add_assoc]
    · rw [sI_n (Or.inr (fun q => d q.symm)), agr_cell a3 75 rfl, g75 c hc, if_neg d, Nat.add_zero]
  · rw [agr_cell a2 75 rfl, h75 c hc]
    show nI (A c) = nI (A c + 0 * (P / nW (gA v)))
    rw [Nat.zero_mul, Nat.add_zero]
theorem e_l221 {x1 x2 x3 x4 x5 : Int32} {h : AH} (q : Nat → Int32 → Int32 → Int32 → Int32 → Int32 → AH → Option (Int32 × AH)) : ∃ h', f_X12_likely_221 q FU 56 x1 x2 x3 x4 x5 0 h = q 56 x1 x2 x3 x4 (x5 + 1) h' ∧ Agr ((74, 1000) :: []) h h' ∧ ∀ c, c < 625 → h'.1 74 c = h.1 75 c := by
  refine lp (fun fu i g => ∃ h', f_X12_likely_221 q fu 56 x1 x2 x3 x4 x5 (nI i) g = q 56 x1 x2 x3 x4 (x5 + 1) h' ∧ Agr ((74, 1000) :: []) h h' ∧ ∀ c, c < 625 → h'.1 74 c = h.1 75 c) (fun i g => Agr ((74, 1000) :: []) h g ∧ ∀ c, c < i → g.1 74 c = h.1 75 c) 625 (by decide) ?_ ?_ ⟨agr_refl h, fun c hc => absurd hc (by omega)⟩
  · rintro fu g ⟨A, g1⟩
    rw [f_X12_likely_221, if_pos (by decide), nm_id]
    exact ⟨g, rfl, A, g1⟩
  · rintro fu i g hi ⟨A, g1⟩ K
    rw [f_X12_likely_221, if_neg (by rw [show (625 : Int32) = nI 625 from rfl, nI_leI (by decide) (by omega)]; omega), rv_56_40, an_75, og_ix hi (by omega), rv_56_39, an_74, og_ix hi (by omega), nm_id, nm_id, nI_1, nI_clamp (by omega), agr_cell A 75 rfl]
    refine K _ ⟨agr_sI A rfl, fun c hc => ?_⟩
    by_cases d : c = i
    · subst d
      exact sI_s ..
    · rw [sI_n (Or.inr d)]
      exact g1 c (by omega)
theorem e_l161 {v : Wd} {e : Nat} {x1 x2 x3 x5 : Int32} {h : AH} (q : Nat → Int32 → Int32 → Int32 → Int32 → Int32 → AH → Option (Int32 × AH)) (hn : v.n ≤ 4) (n0 : v.n ≠ 0) (so : SOk v.n v.has v.pl v.wo) (K : KM v h) (M : mW (gA v) h) (h74 : ∀ c, c < 625 → h.1 74 c = nI (Pm v e c)) : ∃ h', f_X12_likely_161 q FU 56 x1 x2 x3 (nI (gA v)) x5 0 h = q 56 x1 x2 x3 (nI (gA v)) (x5 + 1) h' ∧ KM v h' ∧ mW (gA v) h' ∧ ∀ c, c < 625 → h'.1 74 c = nI (Pm v (e + 1) c) := by
  refine lp (fun fu i g => ∃ h', f_X12_likely_161 q fu 56 x1 x2 x3 (nI (gA v)) x5 (nI i) g = q 56 x1 x2 x3 (nI (gA v)) (x5 + 1) h' ∧ KM v h' ∧ mW (gA v) h' ∧ ∀ c, c < 625 → h'.1 74 c = nI (Pm v (e + 1) c)) (fun i g => Agr ((75, 1000) :: []) h g ∧ ∀ c, c < i → g.1 75 c = 0) 625 (by decide) ?_ ?_ ⟨agr_refl h, fun c hc => absurd hc (by omega)⟩
  · rintro fu g ⟨A, g1⟩
    rw [f_X12_likely_161, if_pos (by decide)]
    refine lp (fun fu i g => ∃ h', f_X12_likely_186 q fu 56 x1 x2 x3 (nI (gA v)) x5 (nI i) g = q 56 x1 x2 x3 (nI (gA v)) (x5 + 1) h' ∧ KM v h' ∧ mW (gA v) h' ∧ ∀ c, c < 625 → h'.1 74 c = nI (Pm v (e + 1) c)) (fun i g => KM v g ∧ mW (gA v) g ∧ g.1 74 = h.1 74 ∧ ∀ c, c < 625 → g.1 75 c = nI (cn v (nW (gA v)) c * sm (fun s => Pm v e s / nW (gA v)) i)) 625 (by decide) ?_ ?_ ⟨KM_agr A rfl K, mW_agr A rfl M, agr_cell A 74 rfl, fun c hc => by rw [g1 c hc, sm, Nat.mul_zero]; rfl⟩
    · rintro fu g ⟨Kg, Mg, g74, g75⟩
      obtain ⟨h2, e2, a2, f2⟩ := e_l221 (x1 := x1) (x2 := x2) (x3 := x3) (x4 := nI (gA v)) (x5 := x5) (h := g) q
      rw [f_X12_likely_186, if_pos (by decide), e2]
      exact ⟨h2, rfl, KM_agr a2 rfl Kg, mW_agr a2 rfl Mg, fun c hc => by rw [f2 c hc, g75 c hc]; rfl⟩
    · rintro fu i g hi ⟨Kg, Mg, g74, g75⟩ Kx
      have pl := Pm_le hn n0 so e i
      have ei : g.1 74 i = nI (Pm v e i) := by rw [g74, h74 i hi]
      rw [f_X12_likely_186, if_neg (by rw [show (625 : Int32) = nI 625 from rfl, nI_leI (by decide) (by omega)]; omega), rv_56_39, an_74, og_ix hi (by omega), nI_clamp (by omega), ei]
      unfold f_X12_likely_212
      rw [nm_id, nI_1]
      by_cases z : Pm v e i = 0
      · rw [if_pos (by rw [z]; decide)]
        refine Kx g ⟨Kg, Mg, g74, fun c hc => ?_⟩
        rw [g75 c hc, sm, z, Nat.zero_div, Nat.add_zero]
      · obtain ⟨h2, e2, K2, M2, f74, f75⟩ := e_spreadM hn n0 so (Pm_ok hn n0 so e i (by omega)) (show Pm v e i < 2 ^ 31 by omega) Kg Mg ei g75
        rw [if_neg (nI_nle (by omega) (by omega)), e2, ov_some, nm_id]
        refine Kx h2 ⟨K2, M2, by rw [f74, g74], fun c hc => ?_⟩
        rw [f75 c hc, sm, Nat.mul_add]
  · rintro fu i g hi ⟨A, g1⟩ Kx
    rw [f_X12_likely_161, if_neg (by rw [show (625 : Int32) = nI 625 from rfl, nI_leI (by decide) (by omega)]; omega), rv_56_40, an_75, og_ix hi (by omega), nm_id, nm_id, nI_1, nI_clamp (by omega)]
    refine Kx _ ⟨agr_sI A rfl, fun c hc => ?_⟩
    by_cases d : c = i
    · subst d
      exact sI_s ..
    · rw [sI_n (Or.inr d)]
      exact g1 c (by omega)
theorem e_l329 {v : Wd} {x : Int32} {h : AH} (K : KM v h) : ∃ h', f_X12_likely_329 FU 56 x 0 h = some (x, h') ∧ ∀ q, q < v.n → h'.1 62 q = v.has q ∧ h'.1 63 q = v.pl q := by
  have hn := K.n6
  refine lp (fun fu i g => ∃ h', f_X12_likely_329 fu 56 x (nI i) g = some (x, h') ∧ ∀ q, q < v.n → h'.1 62 q = v.has q ∧ h'.1 63 q = v.pl q) (fun i g => Agr ((62, 1000) :: (63, 1000) :: []) h g ∧ ∀ q, q < i → g.1 62 q = v.has q ∧ g.1 63 q = v.pl q) v.n (by omega) ?_ ?_ ⟨agr_refl h, fun q hq' => absurd hq' (by omega)⟩
  · rintro fu g ⟨A, g1⟩
    rw [f_X12_likely_329, (KM_agr A rfl K).mn, if_pos (by rw [nI_leI (by omega) (by omega)]; omega)]
    exact ⟨g, rfl, g1⟩
  · rintro fu i g hi ⟨A, g1⟩ Kx
    have Kg := KM_agr A rfl K
    rw [f_X12_likely_329, Kg.mn, if_neg (by rw [nI_leI (by omega) (by omega)]; omega), rv_56_41, an_76, og_ix (by omega) (by omega), rv_56_23, an_63, og_ix (by omega) (by omega), nm_id, rv_56_42, an_77, og_ix (by omega) (by omega), rv_56_22, an_62, og_ix (by omega) (by omega), nm_id, nm_id, nI_1, nI_clamp (by omega), sI_n (Or.inl (by decide)), (Kg.2 i hi).1, (Kg.2 i hi).2]
    refine Kx _ ⟨agr_sI (agr_sI A rfl) rfl, fun q hq' => ?_⟩
    by_cases c : q = i
    · subst c
      rw [sI_s, sI_n (Or.inl (by decide)), sI_s]
      exact ⟨rfl, rfl⟩
    · rw [sI_n (Or.inr c), sI_n (Or.inl (by decide)), sI_n (Or.inl (by decide)), sI_n (Or.inr c)]
      exact g1 q (by omega)
theorem e_l276 {p i : Nat} {x y : Int32} {h : AH} (q : Nat → Int32 → Int32 → Int32 → Int32 → AH → Option (Int32 × AH)) (hp : p < 4) (hi : i < 625) : f_X12_likely_276 q FU 56 (nI p) x y (nI i) (nI i) 0 h = q 56 (nI p) x (y + if hq i p = x then h.1 74 i else 0) (nI i + 1) h := by
  refine lp (fun n j (s : Nat) => f_X12_likely_276 q n 56 (nI p) x y (nI i) (nI s) (nI j) h = q 56 (nI p) x (y + if hq i p = x then h.1 74 i else 0) (nI i + 1) h) (fun j s => s = i / 5 ^ j) p (by omega) ?_ ?_ (s := i) (by rw [Nat.pow_zero, Nat.div_one])
  · rintro n s rfl
    have l : i / 5 ^ p ≤ i := Nat.div_le_self ..
    have eh : nI (i / 5 ^ p % 5) - 1 = hq i p := rfl
    rw [f_X12_likely_276, if_pos (by rw [nI_leI (by omega) (by omega)]; omega), (rem5 (by omega)).1, eh]
    unfold f_X12_likely_317
    by_cases d : hq i p = x
    · rw [if_pos d, if_pos d, rv_56_39, an_74, og_ix hi (by omega), nI_clamp (by omega), nm_id, nm_id]
    · rw [if_neg d, if_neg d, nm_id, nm_id]
  · rintro n j s hj rfl K
    have l : i / 5 ^ j ≤ i := Nat.div_le_self ..
    rw [f_X12_likely_276, if_neg (by rw [nI_leI (by omega) (by omega)]; omega), nm_id, nm_id, nI_1, (rem5 (by omega)).2]
    exact K _ (by rw [Nat.div_div_eq_div_mul, ← Nat.pow_succ])
theorem e_l261 {v : Wd} {e p : Nat} {x : Int32} {h : AH} (hp : p < 4) (K : KM v h) (h74 : ∀ c, c < 625 → h.1 74 c = nI (Pm v e c)) : ∃ h', f_X12_likely_261 FU 56 (nI p) x 0 0 h = some (nI (lkA v p x e), h') ∧ ∀ q, q < v.n → h'.1 62 q = v.has q ∧ h'.1 63 q = v.pl q := by
  refine lp (fun fu i (s : Int32) => ∃ h', f_X12_likely_261 fu 56 (nI p) x s (nI i) h = some (nI (lkA v p x e), h') ∧ ∀ q, q < v.n → h'.1 62 q = v.has q ∧ h'.1 63 q = v.pl q) (fun i s => s = nI (sm (fun st => if hq st p = x then Pm v e st else 0) i)) 625 (by decide) ?_ ?_ rfl
  · intro fu s hs
    have hs : s = nI (lkA v p x e) := hs
    rw [hs, f_X12_likely_261, if_pos (by decide)]
    exact e_l329 K
  · intro fu i s hi hs Kx
    have hs : s = nI (sm (fun st => if hq st p = x then Pm v e st else 0) i) := hs
    subst hs
    rw [f_X12_likely_261, if_neg (by rw [show (625 : Int32) = nI 625 from rfl, nI_leI (by decide) (by omega)]; omega), e_l276 (f_X12_likely_261 fu) hp hi, nI_1, h74 i hi]
    refine Kx _ ?_
    rw [sm, ← nI_add]
    by_cases d : hq i p = x
    · rw [if_pos d, if_pos d]
    · rw [if_neg d, if_neg d]
      rfl
theorem e_isIn020 (x : Int32) (h : AH) : f_X12_isIn x.toInt64 0 20 h = some (zb (decide (¬ x < 0 ∧ ¬ 20 < x)), h) := e_X12_isIn x 0 20 h
theorem e_l99 {v : Wd} {N p : Nat} {x : Int32} {h : AH} (hn : v.n ≤ 4) (n0 : v.n ≠ 0) (hN : N ≤ 20) (hp : p < v.n) (B : mB v h) (K : KM v h) : ∃ h', f_X12_likely_99 FU 56 (nI N) (nI p) x 0 h = some (nI (lkA v p x N), h') ∧ ∀ q, q < v.n → h'.1 62 q = v.has q ∧ h'.1 63 q = v.pl q := by
  have so := B.2.1
  have hn6 : v.n ≤ 6 := by omega
  have p1 := Nat.two_pow_pos v.n
  have p5 := q5_le hn
  have s0 := (st0_ok hn so).1
  obtain ⟨g0, hG, g2, g3, w0, w24⟩ := gA_b hn n0
  have eg : nI (2 ^ v.n) - 1 = nI (gA v) := pk_sub (a := 2 ^ v.n) (b := 1) p1
  refine lp (fun fu i g => ∃ h', f_X12_likely_99 fu 56 (nI N) (nI p) x (nI i) g = some (nI (lkA v p x N), h') ∧ ∀ q, q < v.n → h'.1 62 q = v.has q ∧ h'.1 63 q = v.pl q) (fun i g => Agr ((74, 1000) :: []) h g ∧ ∀ c, c < i → g.1 74 c = 0) 625 (by decide) ?_ ?_ ⟨agr_refl h, fun c hc => absurd hc (by omega)⟩
  · rintro fu g ⟨A, g1⟩
    have Kg := KM_agr A rfl K
    have Bg := mB_agr A rfl B
    have en : f_X12_havingNow 56 g = some (nI (st0 v), g) := e_now (f := fun p => tkN (v.has p)) hn6 Kg.mn (fun q hq' => by rw [(Bg.2.2.2 q hq').1, (has_e hn so hq').1])
    have aS : Agr ((74, 1000) :: []) g (sI g 74 (st0 v) 1000000000) := agr_sI (agr_refl g) rfl
    have KS := KM_agr aS rfl Kg
    obtain ⟨h2, e2, M2, a2⟩ := m_all hn6 hG g0 KS.mn
    rw [f_X12_likely_99, if_pos (by decide), en, ob_some, rv_56_39, an_74, og_ix (by omega) (by omega), nm_id, nI_clamp (by omega), KS.mn, shl_n _ (by omega), eg, nm_id, e2, ov_some]
    refine lp (fun fu i g => ∃ h', f_X12_likely_152 fu 56 (nI N) (nI p) x (nI (gA v)) (nI i) g = some (nI (lkA v p x N), h') ∧ ∀ q, q < v.n → h'.1 62 q = v.has q ∧ h'.1 63 q = v.pl q) (fun i g => KM v g ∧ mW (gA v) g ∧ ∀ c, c < 625 → g.1 74 c = nI (Pm v i c)) N (by omega) ?_ ?_ ⟨KM_agr a2 rfl KS, M2, fun c hc => ?_⟩
    · rintro fu g ⟨Kg, Mg, g74⟩
      rw [f_X12_likely_152, if_pos (by rw [nI_leI (by omega) (by omega)]; omega)]
      exact e_l261 (by omega) Kg g74
    · rintro fu i g hi ⟨Kg, Mg, g74⟩ Kx
      obtain ⟨h3, e3, K3, M3, f3⟩ := e_l161 (x1 := nI N) (x2 := nI p) (x3 := x) (x5 := nI i) (f_X12_likely_152 fu) hn n0 so Kg Mg g74
      rw [f_X12_likely_152, if_neg (by rw [nI_leI (by omega) (by omega)]; omega), e3, nI_1]
      exact Kx h3 ⟨K3, M3, f3⟩
    · rw [agr_cell a2 74 rfl]
      show _ = nI (if c = st0 v then 1000000000 else 0)
      by_cases d : c = st0 v
      · rw [if_pos d, d, sI_s]
        rfl
      · rw [if_neg d, sI_n (Or.inr d), g1 c hc]
        rfl
  · rintro fu i g hi ⟨A, g1⟩ Kx
    rw [f_X12_likely_99, if_neg (by rw [show (625 : Int32) = nI 625 from rfl, nI_leI (by decide) (by omega)]; omega), rv_56_39, an_74, og_ix hi (by omega), nm_id, nm_id, nI_1, nI_clamp (by omega)]
    refine Kx _ ⟨agr_sI A rfl, fun c hc => ?_⟩
    by_cases d : c = i
    · subst d
      exact sI_s ..
    · rw [sI_n (Or.inr d)]
      exact g1 c (by omega)
theorem e_l53 {v : Wd} {N p : Nat} {x : Int32} {h : AH} (hn : v.n ≤ 4) (n0 : v.n ≠ 0) (hN : N ≤ 20) (hp : p < v.n) (B : mB v h) : ∃ h', f_X12_likely_53 FU 56 (nI N) (nI p) x 0 h = some (nI (lkA v p x N), h') ∧ ∀ q, q < v.n → h'.1 62 q = v.has q ∧ h'.1 63 q = v.pl q := by
  refine lp (fun fu i g => ∃ h', f_X12_likely_53 fu 56 (nI N) (nI p) x (nI i) g = some (nI (lkA v p x N), h') ∧ ∀ q, q < v.n → h'.1 62 q = v.has q ∧ h'.1 63 q = v.pl q) (fun i g => Agr ((76, 1000) :: (77, 1000) :: []) h g ∧ ∀ q, q < i → g.1 76 q = v.pl q ∧ g.1 77 q = v.has q) v.n (by omega) ?_ ?_ ⟨agr_refl h, fun q hq' => absurd hq' (by omega)⟩
  · rintro fu g ⟨A, g1⟩
    have Bg := mB_agr A rfl B
    rw [f_X12_likely_53, Bg.mn, if_pos (by rw [nI_leI (by omega) (by omega)]; omega)]
    exact e_l99 hn n0 hN hp Bg ⟨Bg.1, g1⟩
  · rintro fu i g hi ⟨A, g1⟩ Kx
    have Bg := mB_agr A rfl B
    rw [f_X12_likely_53, Bg.mn, if_neg (by rw [nI_leI (by omega) (by omega)]; omega), rv_56_23, an_63, og_ix (by omega) (by omega), rv_56_41, an_76, og_ix (by omega) (by omega), nm_id, rv_56_22, an_62, og_ix (by omega) (by omega), rv_56_42, an_77, og_ix (by omega) (by omega), nm_id, nm_id, nI_1, nI_clamp (by omega), sI_n (Or.inl (by decide)), (Bg.2.2.2 i hi).1, (Bg.2.2.2 i hi).2]
    refine Kx _ ⟨agr_sI (agr_sI A rfl) rfl, fun q hq' => ?_⟩
    by_cases c : q = i
    · subst c
      rw [sI_n (Or.inl (by decide)), sI_s, sI_s]
      exact ⟨rfl, rfl⟩
    · rw [sI_n (Or.inl (by decide)), sI_n (Or.inr c), sI_n (Or.inr c), sI_n (Or.inl (by decide))]
      exact g1 q (by omega)
theorem g17 : G17 Rel := by
  intro h ⟨v, R⟩ a1 a2 a3
  have hn := R.n6
  have R2 := R.thr (x := 0)
  -- what the class answers where it refuses
  by_cases all : (¬ a1 < 0 ∧ ¬ 20 < a1) ∧ knB (nI v.n) a2 = true ∧ koB v.n a3 = true ∧ v.n ≤ 4
  · obtain ⟨hx, k2, k3, n4⟩ := all
    obtain ⟨p, hp, rfl⟩ := (knB_iff (by omega)).mp k2
    have n0 : v.n ≠ 0 := by omega
    obtain ⟨N, hN, rfl⟩ := nI_of hx.1
    have N20 : N ≤ 20 := by
      have := hx.2
      rw [show (20 : Int32) = nI 20 from rfl, nI_ltI (by decide) hN] at this
      omega
    obtain ⟨h3, e3, B3, Z3⟩ := e_opened (R.cB n0)
    obtain ⟨h4, e4⟩ := e_chance (x := a3) n4 N20 hp B3 Z3
    have E1 : f_X11_likely 0 (nI N) (nI p) a3 h = some (nI (lkA v p a3 N), h4) := by
      unfold f_X11_likely
      rw [if_neg hx.1, if_neg hx.2, e_X11_isKnown, R.cn, k2, ob_some, zi, if_pos rfl, e_known1 R.cn, k3, ob_some, zi, if_pos rfl, rv_0_1, R.cn, if_pos (by rw [show (4 : Int32) = nI 4 from rfl, nI_leI (by omega) (by decide)]; exact n4), rv_0_10, rv_0_6, e3, ov_some, rv_0_14, e4, ob_some]
    have R4 : RelV v h4 := rel_agr (w_f_X11_likely_i0 _ _ _ _ _ E1) rfl R
    have R5 := R4.thr (x := 0)
    obtain ⟨h5, e5, f5⟩ := e_l53 (x := a3) n4 n0 N20 hp (R5.mB n0)
    have E2 : f_X12_likely 56 (nI N) (nI p) a3 h4 = some (nI (lkA v p a3 N), h5) := by
      unfold f_X12_likely
      rw [nm_id, R5.mn, if_neg (nI_ne0 (by omega) (by omega)), if_neg (by rw [show (4 : Int32) = nI 4 from rfl, nI_ltI (by decide) (by omega)]; omega), e_isIn020, ob_some, decide_eq_true hx, zi, if_pos rfl, e_X12_isPerson, R5.mn, k2, ob_some, zi, if_pos rfl, e_isPair R5.mn, k3, ob_some, zi, if_pos rfl]
      exact e5
    have W5 : Agr W_X12_likely_i56 h4 h5 := w_f_X12_likely_i56 _ _ _ _ _ E2
    exact ⟨_, h4, h5, E1, E2, v, rel_back W5 rfl f5 R4⟩
  · refine ⟨-1, h, sI h 56 0 0, ?_, ?_, v, R2⟩
    · unfold f_X11_likely f_X11_likely_37
      by_cases c1 : a1 < 0
      · rw [if_pos c1]
      · rw [if_neg c1]
        by_cases c2 : 20 < a1
        · rw [if_pos c2]
        · rw [if_neg c2, e_X11_isKnown, R.cn, ob_some, zi]
          by_cases c3 : knB (nI v.n) a2 = true
          · rw [if_pos c3, e_known1 R.cn, ob_some, zi]
            by_cases c4 : koB v.n a3 = true
            · rw [if_pos c4, rv_0_1, R.cn, if_neg]
              rw [show (4 : Int32) = nI 4 from rfl, nI_leI (by omega) (by decide)]
              exact fun n4 => all ⟨⟨c1, c2⟩, c3, c4, n4⟩
            · rw [if_neg c4]
          · rw [if_neg c3]
    · unfold f_X12_likely f_X12_likely_48
      rw [nm_id, R2.mn]
      by_cases z : nI v.n = 0
      · rw [if_pos z]
      · rw [if_neg z]
        by_cases n4 : v.n ≤ 4
        · rw [if_neg (by rw [show (4 : Int32) = nI 4 from rfl, nI_ltI (by decide) (by omega)]; omega), e_isIn020, ob_some]
          by_cases c1 : ¬ a1 < 0 ∧ ¬ 20 < a1
          · rw [decide_eq_true c1, zi, if_pos rfl, e_X12_isPerson, R2.mn, ob_some, zi]
            by_cases c3 : knB (nI v.n) a2 = true
            · rw [if_pos c3, e_isPair R2.mn, ob_some, zi]
              by_cases c4 : koB v.n a3 = true
              · exact absurd ⟨c1, c3, c4, n4⟩ all
              · rw [if_neg c4]
            · rw [if_neg c3]
          · rw [decide_eq_false c1, zi, if_neg (by decide)]
        · rw [if_pos (by rw [show (4 : Int32) = nI 4 from rfl, nI_ltI (by decide) (by omega)]; omega)]
