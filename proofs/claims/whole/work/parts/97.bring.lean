/-! states of having: numbers to the base five -/
def dg (st p : Nat) : Nat := st / 5 ^ p % 5
def hq (st p : Nat) : Int32 := nI (dg st p) - 1
def enc (f : Nat → Nat) : Nat → Nat
  | 0 => 0
  | n + 1 => enc f n + f n * 5 ^ n
theorem dg_lt (st p : Nat) : dg st p < 5 := Nat.mod_lt _ (by decide)
theorem enc_lt {f : Nat → Nat} : ∀ n, (∀ p, p < n → f p < 5) → enc f n < 5 ^ n := by
  intro n
  induction n with
  | zero => intro _; exact Nat.one_pos
  | succ n ih =>
    intro h
    have a := ih (fun p hp => h p (by omega))
    have b : f n * 5 ^ n ≤ 4 * 5 ^ n := Nat.mul_le_mul_right _ (by have := h n (by omega); omega)
    rw [enc, Nat.pow_succ]
    omega
theorem dg_enc {f : Nat → Nat} : ∀ n, (∀ p, p < n → f p < 5) → ∀ p, p < n → dg (enc f n) p = f p := by
  intro n
  induction n with
  | zero => intro _ p hp; omega
  | succ n ih =>
    intro h p hp
    have a := enc_lt n (fun p hp => h p (by omega))
    have i := ih (fun p hp => h p (by omega))
    rw [enc]
    unfold dg
    by_cases e : p = n
    · subst e
      rw [Nat.add_mul_div_right _ _ (Nat.pow_pos (by decide)), Nat.div_eq_of_lt a, Nat.zero_add]
      exact Nat.mod_eq_of_lt (h p (by omega))
    · have i2 := i p (by omega)
      unfold dg at i2
      have e5 : f n * 5 ^ n = f n * 5 ^ (n - p - 1) * 5 * 5 ^ p := by
        rw [Nat.mul_assoc (f n * 5 ^ (n - p - 1)), ← Nat.pow_succ', Nat.mul_assoc, ← Nat.pow_add]
        congr 2
        omega
      rw [e5, Nat.add_mul_div_right _ _ (Nat.pow_pos (by decide)), Nat.add_mul_mod_self_right]
      exact i2
theorem enc_cong {f g : Nat → Nat} : ∀ n, (∀ p, p < n → f p = g p) → enc f n = enc g n := by
  intro n
  induction n with
  | zero => intro _; rfl
  | succ n ih =>
    intro h
    rw [enc, enc, ih (fun p hp => h p (by omega)), h n (by omega)]
theorem enc_up {f : Nat → Nat} {p d : Nat} : ∀ n, p < n → enc (up f p d) n + f p * 5 ^ p = enc f n + d * 5 ^ p := by
  intro n
  induction n with
  | zero => intro h; omega
  | succ n ih =>
    intro h
    rw [enc, enc]
    by_cases e : p = n
    · subst e
      rw [up_p, enc_cong (g := f) p (fun i hi => up_n (by omega))]
      omega
    · have := ih (by omega)
      rw [up_n (fun w => e w.symm)]
      omega
theorem enc_dg {st : Nat} : ∀ n, st < 5 ^ n → enc (dg st) n = st := by
  have gen : ∀ n, enc (dg st) n = st % 5 ^ n := by
    intro n
    induction n with
    | zero => rw [enc, Nat.pow_zero, Nat.mod_one]
    | succ n ih =>
      rw [enc, ih, Nat.pow_succ, Nat.mod_mul, Nat.mul_comm (dg st n)]
      rfl
  intro n h
  rw [gen, Nat.mod_eq_of_lt h]
theorem hq_c (st p : Nat) : hq st p = -1 ∨ ∃ q, q < 4 ∧ hq st p = nI q ∧ dg st p = q + 1 := by
  have := dg_lt st p
  unfold hq
  rw [nI_sub1]
  by_cases c : dg st p = 0
  · rw [if_pos c]
    exact Or.inl rfl
  · rw [if_neg c]
    exact Or.inr ⟨_, by omega, rfl, by omega⟩
def tkN (x : Int32) : Nat := (x + 1).toNatClampNeg
theorem tkN_e {x : Int32} {n : Nat} (hn : n ≤ 6) (h : x = -1 ∨ ∃ q, q < n ∧ x = nI q) : nI (tkN x) - 1 = x ∧ tkN x ≤ n := by
  unfold tkN
  rcases h with rfl | ⟨q, hq, rfl⟩
  · exact ⟨by decide, Nat.zero_le _⟩
  · rw [nI_1, nI_clamp (by omega), nI_pred]
    exact ⟨rfl, by omega⟩
theorem q5_le {n : Nat} (h : n ≤ 4) : 5 ^ n ≤ 625 := Nat.pow_le_pow_right (n := 5) (by decide) h
theorem sT6 : ∀ p, p < 4 → sT 6 p = nI (5 ^ p) := by decide +kernel
theorem sN6 : sN 6 = 4 := rfl
theorem e_pairIn {st p : Nat} (hs : st < 625) (hp : p < 4) (h : AH) : f_X4_pairIn (nI st) (nI p) h = some (hq st p, h) := by
  have p1 : 0 < 5 ^ p := Nat.pow_pos (by decide)
  have p2 := q5_le (n := p) (by omega)
  have l : st / 5 ^ p ≤ st := Nat.div_le_self ..
  unfold f_X4_pairIn
  rw [sN6, og_ix hp (by omega), nI_clamp (by omega), sT6 p hp, og_t (decide_eq_true (nI_ne0 p1 (by omega))), pk_div (by omega) p1 (by omega), (rem5 (by omega)).1]
  rfl
theorem hadBy_5 {p : Nat} (hp : p < 4) (h : AH) (st : Nat) (hs : st < 625) : f_X12_hadBy 56 (nI st) (nI p) h = some (hq st p, h) := by
  unfold f_X12_hadBy
  refine lp (fun n i (s : Nat) => f_X12_hadBy_5 n (nI p) (nI s) (nI i) h = some (hq st p, h)) (fun i s => s = st / 5 ^ i) p (by omega) ?_ ?_ (s := st) (by rw [Nat.pow_zero, Nat.div_one])
  · rintro n s rfl
    have l : st / 5 ^ p ≤ st := Nat.div_le_self ..
    rw [f_X12_hadBy_5, if_pos (by rw [nI_leI (by omega) (by omega)]; omega), (rem5 (by omega)).1]
    rfl
  · rintro n i s hi rfl K
    have l : st / 5 ^ i ≤ st := Nat.div_le_self ..
    rw [f_X12_hadBy_5, if_neg (by rw [nI_leI (by omega) (by omega)]; omega), nm_id, nm_id, nI_1, (rem5 (by omega)).2]
    exact K _ (by rw [Nat.div_div_eq_div_mul, ← Nat.pow_succ])
theorem m1p (a b : Int32) : (a + (b - 1)) + 1 = a + b := by
  rw [Int32.add_assoc, Int32.sub_add_cancel]
/-- the model reads the state now -/
theorem e_now9 {f : Nat → Nat} {n : Nat} {h : AH} (hn : n ≤ 6) (e : ∀ p, p < n → h.1 62 p = nI (f p) - 1) : ∀ j fu s, j ≤ n → j < fu → s * 5 ^ j + enc f j = enc f n → f_X12_havingNow_9 fu 56 (nI s) (nI j - 1) h = some (nI (enc f n), h) := by
  intro j
  induction j with
  | zero =>
    intro fu s _ hf w
    obtain ⟨fu, rfl⟩ : ∃ k, fu = k + 1 := ⟨fu - 1, by omega⟩
    rw [f_X12_havingNow_9, if_pos (by decide)]
    rw [enc, Nat.pow_zero, Nat.mul_one, Nat.add_zero] at w
    rw [w]
  | succ j ih =>
    intro fu s hj hf w
    obtain ⟨fu, rfl⟩ : ∃ k, fu = k + 1 := ⟨fu - 1, by omega⟩
    rw [nI_pred, f_X12_havingNow_9, if_neg (nI_pos (by omega)), rv_56_22, an_62, og_ix (by omega) (by omega), nI_clamp (by omega), e j (by omega), nm_id, nm_id, m1p, nI_m1', k_mul', nI_add]
    refine ih fu _ (by omega) (by omega) ?_
    rw [← w, enc, Nat.pow_succ, Nat.add_mul, show OfNat.ofNat 5 = 5 from rfl, Nat.mul_assoc, Nat.mul_comm 5]
    omega
theorem e_now {f : Nat → Nat} {n : Nat} {h : AH} (hn : n ≤ 6) (h20 : h.1 56 20 = nI n) (e : ∀ p, p < n → h.1 62 p = nI (f p) - 1) : f_X12_havingNow 56 h = some (nI (enc f n), h) := by
  unfold f_X12_havingNow
  rw [nm_id, h20]
  exact e_now9 hn e n FU 0 (Nat.le_refl _) (by unfold FU; omega) (by rw [Nat.zero_mul, Nat.zero_add])
/-- the class reads it -/
theorem e_stNow {f : Nat → Nat} {n : Nat} {h : AH} (hn : n ≤ 4) (h3 : h.1 3 2 = nI n) (e : ∀ p, p < n → h.1 25 p = nI (f p) - 1) : f_X4_stateNow 51 h = some (nI (enc f n), h) := by
  unfold f_X4_stateNow
  refine lp (fun fu i (s : Int32) => f_X4_stateNow_4 fu 51 s (nI i) h = some (nI (enc f n), h)) (fun i s => s = nI (enc f i)) n (by omega) ?_ ?_ rfl
  · rintro fu s rfl
    rw [f_X4_stateNow_4, rv_51_0, h3, if_pos (by rw [nI_leI (by omega) (by omega)]; omega)]
  · rintro fu i s hi rfl K
    rw [f_X4_stateNow_4, rv_51_0, h3, if_neg (by rw [nI_leI (by omega) (by omega)]; omega), rv_51_1, rv_24_0, an_25, og_ix (by omega) (by omega), sN6, og_ix (by omega) (by omega), nm_id, nm_id, nI_1, nI_clamp (by omega), e i hi, sT6 i (by omega), Int32.sub_add_cancel, pk_mul, nI_add]
    exact K _ rfl
/-- the world of a state -/
def plF (v : Wd) (st q : Nat) : Nat → Int32
  | 0 => if v.pl q ≤ 10 then 10 else v.pl q
  | k + 1 => if hq st k = nI q then nI k else plF v st q k
def stW (v : Wd) (st : Nat) : Wd := (v.1, v.2.1, v.2.2.1, (v.ro, hq st, fun q => plF v st q v.n, v.wo), v.2.2.2.2)
def stOk (v : Wd) (st : Nat) : Prop := st < 5 ^ v.n ∧ (∀ p, p < v.n → hq st p = -1 ∨ ∃ q, q < v.n ∧ hq st p = nI q ∧ v.pl q ≤ 10) ∧ ∀ p p', p < v.n → p' < v.n → hq st p ≠ -1 → hq st p = hq st p' → p = p'
theorem plF_c {v : Wd} {st q : Nat} : ∀ k, (∃ p, p < k ∧ hq st p = nI q ∧ plF v st q k = nI p) ∨ ((∀ p, p < k → hq st p ≠ nI q) ∧ plF v st q k = if v.pl q ≤ 10 then 10 else v.pl q) := by
  intro k
  induction k with
  | zero => exact Or.inr ⟨fun p hp => absurd hp (by omega), rfl⟩
  | succ k ih =>
    rw [plF]
    by_cases c : hq st k = nI q
    · rw [if_pos c]
      exact Or.inl ⟨k, by omega, c, rfl⟩
    · rw [if_neg c]
      rcases ih with ⟨p, a, b, d⟩ | ⟨a, b⟩
      · exact Or.inl ⟨p, by omega, b, d⟩
      · refine Or.inr ⟨fun p hp => ?_, b⟩
        by_cases e : p = k
        · rw [e]
          exact c
        · exact a p (by omega)
theorem le10 {x : Nat} (hx : x < 10) : nI x ≤ 10 := (nI_leI (a := x) (b := 10) (by omega) (by decide)).mpr (by omega)
theorem stW_so {v : Wd} {st : Nat} (hn : v.n ≤ 6) (so : SOk v.n v.has v.pl v.wo) (ok : stOk v st) : SOk (stW v st).n (stW v st).has (stW v st).pl (stW v st).wo := by
  refine ⟨fun p hp => ?_, fun q hq' => ?_, so.2.2⟩
  · have hp : p < v.n := hp
    rcases ok.2.1 p hp with a | ⟨q, hq', a, b⟩
    · exact Or.inl a
    · refine Or.inr ⟨q, hq', a, ?_⟩
      show plF v st q v.n = nI p
      rcases plF_c (v := v) (st := st) (q := q) v.n with ⟨p', c1, c2, c3⟩ | ⟨c1, _⟩
      · rw [c3, ok.2.2 p p' hp c1 (by rw [a, ne_eq, n_m1 (by omega)]; exact id) (by rw [a, c2])]
      · exact absurd a (c1 p hp)
  · have hq' : q < v.n := hq'
    show (∃ p, p < v.n ∧ plF v st q v.n = nI p ∧ hq st p = nI q) ∨ ∃ u, u < 4 ∧ plF v st q v.n = nI (10 + u)
    rcases plF_c (v := v) (st := st) (q := q) v.n with ⟨p', c1, c2, c3⟩ | ⟨c1, c2⟩
    · exact Or.inl ⟨p', c1, c3, c2⟩
    · rw [c2]
      by_cases d : v.pl q ≤ 10
      · rw [if_pos d]
        exact Or.inr ⟨0, by omega, rfl⟩
      · rw [if_neg d]
        rcases so.2.1 q hq' with ⟨p, hp, a, _⟩ | a
        · rw [a] at d
          exact absurd (le10 (by omega)) d
        · exact Or.inr a
theorem stW_tb {v : Wd} {st G q : Nat} (hn : v.n ≤ 6) (hG : G < 64) (so : SOk v.n v.has v.pl v.wo) (ok : stOk v st) (hq' : q < v.n) : (door (stW v st) 0 G).testBit q = true ↔ (v.pl q ≤ 10 ∧ ∀ p, p < v.n → hq st p = nI q → G.testBit p = true) := by
  rw [door_tb (v := stW v st) hn hG (stW_so hn so ok) (by omega) hq']
  show ((∃ p, p < v.n ∧ plF v st q v.n = nI p ∧ G.testBit p = true) ∨ plF v st q v.n = nI (10 + 0)) ↔ _
  rcases plF_c (v := v) (st := st) (q := q) v.n with ⟨p', c1, c2, c3⟩ | ⟨c1, c2⟩
  · have pl : v.pl q ≤ 10 := by
      rcases ok.2.1 p' c1 with a | ⟨q', hq2, a, b⟩
      · rw [c2, n_m1 (by omega)] at a
        exact a.elim
      · rw [c2, nI_eq (by omega) (by omega)] at a
        rw [a]
        exact b
    rw [c3]
    constructor
    · rintro (⟨p, hp, e, b⟩ | e)
      · rw [nI_eq (by omega) (by omega)] at e
        refine ⟨pl, fun p2 hp2 e2 => ?_⟩
        rw [ok.2.2 p2 p' hp2 c1 (by rw [e2, ne_eq, n_m1 (by omega)]; exact id) (by rw [e2, c2]), e]
        exact b
      · rw [nI_eq (by omega) (by omega)] at e
        omega
    · rintro ⟨_, b⟩
      exact Or.inl ⟨p', c1, rfl, b p' c1 c2⟩
  · rw [c2]
    constructor
    · intro o
      refine ⟨?_, fun p hp e => absurd e (c1 p hp)⟩
      refine Decidable.byContradiction (fun d => ?_)
      rw [if_neg d] at o
      rcases o with ⟨p, hp, e, _⟩ | e
      · rw [e] at d
        exact d (le10 (by omega))
      · rw [e] at d
        exact d (by decide)
    · rintro ⟨b, _⟩
      rw [if_pos b]
      exact Or.inr rfl
/-- the state behind a way -/
def tkW (v : Wd) (st G k p : Nat) : Int32 := tkP v (fun q => v.it q 3) v.wo (rw_ G k) (pc G) (door (stW v st) 0 G) p
def nd (v : Wd) (st G k p : Nat) : Nat := if G.testBit p = true then tkN (tkW v st G k p) else dg st p
def nx (v : Wd) (st G k : Nat) : Nat := enc (nd v st G k) v.n
theorem nd_lt {v : Wd} (hn : v.n ≤ 4) (st G k p : Nat) : nd v st G k p < 5 := by
  unfold nd
  split
  · have := (tkN_e (n := v.n) (by omega) (tkP_c (v := v) (sz := fun q => v.it q 3) (wo := v.wo) (row := rw_ G k) (m := pc G) (D := door (stW v st) 0 G) (p := p))).2
    unfold tkW
    omega
  · exact dg_lt _ _
theorem nx_lt {v : Wd} (hn : v.n ≤ 4) (st G k : Nat) : nx v st G k < 5 ^ v.n := enc_lt _ (fun p _ => nd_lt hn st G k p)
theorem nx_hq {v : Wd} (hn : v.n ≤ 4) {st G k p : Nat} (hp : p < v.n) : hq (nx v st G k) p = if G.testBit p = true then tkW v st G k p else hq st p := by
  unfold hq nx
  rw [dg_enc v.n (fun p _ => nd_lt hn st G k p) p hp]
  unfold nd
  split
  · exact (tkN_e (n := v.n) (by omega) (tkP_c (v := v) (sz := fun q => v.it q 3) (wo := v.wo) (row := rw_ G k) (m := pc G) (D := door (stW v st) 0 G) (p := p))).1
  · rfl
theorem pk_W {v : Wd} {st : Nat} {sz wo : Nat → Nat} {p D : Nat} : pk (stW v st) sz wo p D = pk v sz wo p D := rfl
theorem stS_W {v : Wd} {st : Nat} {sz wo : Nat → Nat} {row : Nat → Nat} {D : Nat} : ∀ j, stS (stW v st) sz wo row D j = stS v sz wo row D j := by
  intro j
  induction j with
  | zero => rfl
  | succ j ih => rw [stS, stS, ih, pk_W]
theorem tkS_W {v : Wd} {st : Nat} {sz wo : Nat → Nat} {row : Nat → Nat} {D j : Nat} : tkS (stW v st) sz wo row D j = tkS v sz wo row D j := by
  unfold tkS
  rw [stS_W, pk_W]
theorem nx_ev {v : Wd} (hn : v.n ≤ 4) {st G k p : Nat} (hp : p < v.n) : hq (nx v st G k) p = (evS (stW v st) 0 G (rw_ G k)).has p := by
  rw [nx_hq hn hp]
  show _ = (if G.testBit p = true then evT (stW v st) 0 G (rw_ G k) (fnd (rw_ G k) p (pc G)) else hq st p)
  by_cases c : G.testBit p = true
  · rw [if_pos c, if_pos c]
    unfold tkW tkP evT
    rw [tkS_W]
    rfl
  · rw [if_neg c, if_neg c]
theorem nx_ok {v : Wd} (hn : v.n ≤ 4) {st G k : Nat} (so : SOk v.n v.has v.pl v.wo) (ok : stOk v st) (hG : G < 2 ^ v.n) (g0 : 0 < G) (hk : k < nW G) : stOk v (nx v st G k) := by
  have hn6 : v.n ≤ 6 := by omega
  have h64 := pow_le6 hn6
  have r := W_row hn6 hG g0 hk
  have ev := evS_so (v := stW v st) (u := 0) (G := G) (row := rw_ G k) hn6 (by omega) (stW_so hn6 so ok) (by omega) r
  have hh : ∀ p, p < v.n → hq (nx v st G k) p = (evS (stW v st) 0 G (rw_ G k)).has p := fun p hp => nx_ev hn hp
  have inj : ∀ p q, p < v.n → q < v.n → hq (nx v st G k) p = nI q → (evS (stW v st) 0 G (rw_ G k)).pl q = nI p := by
    intro p q hp hq' e
    rcases ev.1 p hp with a | ⟨q2, h2, a, b⟩
    · rw [← hh p hp, e, n_m1 (by omega)] at a
      exact a.elim
    · have h2 : q2 < v.n := h2
      rw [← hh p hp, e, nI_eq (by omega) (by omega)] at a
      rw [a]
      exact b
  have c : ∀ p, p < v.n → hq (nx v st G k) p = -1 ∨ ∃ q, q < v.n ∧ hq (nx v st G k) p = nI q ∧ v.pl q ≤ 10 := by
    intro p hp
    rw [nx_hq hn hp]
    by_cases g : G.testBit p = true
    · rw [if_pos g]
      obtain ⟨j, hj, rfl⟩ := r.2.2 p g
      have e : tkW v st G k (rw_ G k j) = tkS v (fun q => v.it q 3) v.wo (rw_ G k) (door (stW v st) 0 G) j := tkP_j r.1 hj
      rw [e]
      rcases pk_c (v := v) (sz := fun q => v.it q 3) (wo := v.wo) (rw_ G k j) (stS v (fun q => v.it q 3) v.wo (rw_ G k) (door (stW v st) 0 G) j) with a | ⟨q, hq', a, b⟩
      · exact Or.inl a
      · refine Or.inr ⟨q, hq', a, ?_⟩
        have t := stS_mono (sz := fun q => v.it q 3) (wo := v.wo) (row := rw_ G k) hn6 (show door (stW v st) 0 G < 2 ^ v.n from door_lt (stW v st) 0 G) (q := q) (by omega) j 0 (by omega) b
        exact ((stW_tb hn6 (by omega) so ok hq').mp t).1
    · rw [if_neg g]
      exact ok.2.1 p hp
  refine ⟨nx_lt hn st G k, c, fun p p' hp hp' ne e => ?_⟩
  rcases c p hp with a | ⟨q, hq', a, _⟩
  · exact absurd a ne
  · have e1 := inj p q hp hq' a
    rw [e] at a
    have e2 := inj p' q hp' hq' a
    rw [e1, nI_eq (by omega) (by omega)] at e2
    exact e2
def st0 (v : Wd) : Nat := enc (fun p => tkN (v.has p)) v.n
theorem has_e {v : Wd} (hn : v.n ≤ 4) (so : SOk v.n v.has v.pl v.wo) {p : Nat} (hp : p < v.n) : nI (tkN (v.has p)) - 1 = v.has p ∧ tkN (v.has p) < 5 := by
  have := tkN_e (x := v.has p) (n := v.n) (by omega) ((so.1 p hp).imp id (fun ⟨q, a, b, _⟩ => ⟨q, a, b⟩))
  exact ⟨this.1, by omega⟩
theorem st0_hq {v : Wd} (hn : v.n ≤ 4) (so : SOk v.n v.has v.pl v.wo) {p : Nat} (hp : p < v.n) : hq (st0 v) p = v.has p := by
  unfold hq st0
  rw [dg_enc v.n (fun p hp => (has_e hn so hp).2) p hp]
  exact (has_e hn so hp).1
theorem st0_ok {v : Wd} (hn : v.n ≤ 4) (so : SOk v.n v.has v.pl v.wo) : stOk v (st0 v) := by
  refine ⟨enc_lt _ (fun p hp => (has_e hn so hp).2), fun p hp => ?_, fun p p' hp hp' ne e => ?_⟩
  · rw [st0_hq hn so hp]
    rcases so.1 p hp with a | ⟨q, hq', a, b⟩
    · exact Or.inl a
    · exact Or.inr ⟨q, hq', a, by rw [b]; exact le10 (by omega)⟩
  · rw [st0_hq hn so hp] at ne e
    rw [st0_hq hn so hp'] at e
    rcases so.1 p hp with a | ⟨q, hq', a, b⟩
    · exact absurd a ne
    · rcases so.1 p' hp' with a' | ⟨q2, hq2, a', b'⟩
      · rw [e] at ne
        exact absurd a' ne
      · rw [a, a', nI_eq (by omega) (by omega)] at e
        rw [e, b', nI_eq (by omega) (by omega)] at b
        omega
theorem zero_ok {v : Wd} : stOk v 0 := by
  have z : ∀ p, hq 0 p = -1 := by
    intro p
    unfold hq dg
    rw [Nat.zero_div]
    rfl
  exact ⟨Nat.pow_pos (by decide), fun p _ => Or.inl (z p), fun p _ _ _ ne => absurd (z p) ne⟩
/-- the class's door of a state -/
def aD (v : Wd) : Nat := zoB (fun q => decide (v.pl q ≤ 10)) v.n
theorem e_around {v : Wd} {h : AH} (hn : v.n ≤ 6) (h3 : h.1 3 2 = nI v.n) (hp : ∀ q, q < v.n → h.1 26 q = v.pl q) : f_X4_pairsAround 51 h = some (nI (aD v), h) := by
  unfold f_X4_pairsAround
  refine lp (fun fu i (s : Int32) => f_X4_pairsAround_4 fu 51 s (nI i) h = some (nI (aD v), h)) (fun i s => s = nI (zoB (fun q => decide (v.pl q ≤ 10)) i)) v.n (by omega) ?_ ?_ rfl
  · rintro fu s rfl
    rw [f_X4_pairsAround_4, rv_51_0, h3, if_pos (by rw [nI_leI (by omega) (by omega)]; omega)]
    rfl
  · rintro fu i s hi rfl K
    rw [zoB] at K
    rw [f_X4_pairsAround_4, rv_51_0, h3, if_neg (by rw [nI_leI (by omega) (by omega)]; omega), rv_51_1, rv_24_1, an_26, og_ix (by omega) (by omega), nI_clamp (by omega), hp i hi]
    unfold f_X4_pairsAround_37
    rw [nm_id, nm_id, nm_id, nm_id, nI_1, zoB_or (fun q => decide (v.pl q ≤ 10)) (k := i) (by omega), or0]
    by_cases c : v.pl i ≤ 10
    · rw [if_neg (fun w => absurd (Int32.lt_of_le_of_lt c w) (Int32.lt_irrefl))]
      exact K _ (by rw [if_pos (decide_eq_true c)])
    · rw [if_pos (Int32.not_le.mp c)]
      exact K _ (by rw [if_neg (by rw [decide_eq_false c]; decide)])
theorem e_for {v : Wd} {st G : Nat} {h : AH} (hn : v.n ≤ 4) (so : SOk v.n v.has v.pl v.wo) (ok : stOk v st) (hG : G < 64) (h3 : h.1 3 2 = nI v.n) (hp : ∀ q, q < v.n → h.1 26 q = v.pl q) : f_X4_pairsFor 51 (nI st) (nI G) h = some (nI (door (stW v st) 0 G), h) := by
  have hn6 : v.n ≤ 6 := by omega
  have h64 := pow_le6 hn6
  have s6 := q5_le hn
  have s5 := ok.1
  unfold f_X4_pairsFor
  rw [e_around hn6 h3 hp, ob_some]
  refine lp (fun fu i (D : Nat) => f_X4_pairsFor_8 fu 51 (nI st) (nI G) (nI D) (nI i) h = some (nI (door (stW v st) 0 G), h)) (fun i D => D < 2 ^ v.n ∧ ∀ q, q < v.n → (D.testBit q = true ↔ (v.pl q ≤ 10 ∧ ∀ p, p < i → hq st p = nI q → G.testBit p = true))) v.n (by omega) ?_ ?_ (s := aD v) ⟨zoB_lt _ _, fun q hq' => ?_⟩
  · rintro fu D ⟨D1, D2⟩
    rw [f_X4_pairsFor_8, rv_51_0, h3, if_pos (by rw [nI_leI (by omega) (by omega)]; omega)]
    have : D = door (stW v st) 0 G := by
      refine Nat.eq_of_testBit_eq (fun q => ?_)
      by_cases c : q < v.n
      · rw [Bool.eq_iff_iff, D2 q c, stW_tb hn6 hG so ok c]
      · have a : D.testBit q = false := Nat.testBit_lt_two_pow (Nat.lt_of_lt_of_le D1 (Nat.pow_le_pow_right (by decide) (by omega)))
        have b : (door (stW v st) 0 G).testBit q = false := Nat.testBit_lt_two_pow (Nat.lt_of_lt_of_le (door_lt (stW v st) 0 G) (Nat.pow_le_pow_right (by decide) (show v.n ≤ q by omega)))
        rw [a, b]
    rw [this]
  · rintro fu i D hi ⟨D1, D2⟩ K
    rw [f_X4_pairsFor_8, rv_51_0, h3, if_neg (by rw [nI_leI (by omega) (by omega)]; omega), e_pairIn (by omega) (by omega), ob_some, e_X11_isIn, inS_tb G hG i (by omega), ob_some]
    unfold f_X4_pairsFor_52
    rw [nm_id, nm_id, nm_id, nI_1]
    have same : (hq st i = -1 ∨ G.testBit i = true) → f_X4_pairsFor_8 fu 51 (nI st) (nI G) (nI D) (nI (i + 1)) h = some (nI (door (stW v st) 0 G), h) := by
      intro o
      refine K D ⟨D1, fun q hq' => ?_⟩
      rw [D2 q hq']
      refine ⟨fun ⟨a, b⟩ => ⟨a, fun p hp e => ?_⟩, fun ⟨a, b⟩ => ⟨a, fun p hp => b p (by omega)⟩⟩
      by_cases c : p = i
      · subst c
        rcases o with o | o
        · rw [e, n_m1 (by omega)] at o
          exact o.elim
        · exact o
      · exact b p (by omega) e
    rcases hq_c st i with a | ⟨q0, hq0, a, _⟩
    · rw [if_pos a]
      exact same (Or.inl a)
    · rw [if_neg (by rw [a, n_m1 (by omega)]; exact id), zi]
      by_cases g : G.testBit i = true
      · rw [if_pos g]
        exact same (Or.inr g)
      · rw [if_neg g, a, (rmv_all D (by omega) q0 (by omega)).1]
        have l := (rmv_all D (by omega) q0 (by omega)).2
        refine K _ ⟨by omega, fun q hq' => ?_⟩
        rw [rmv_tb D (by omega) q0 (by omega) q (by omega), Bool.and_eq_true, D2 q hq']
        constructor
        · rintro ⟨⟨b1, b2⟩, b3⟩
          refine ⟨b1, fun p hp e => ?_⟩
          by_cases c : p = i
          · rw [c, a, nI_eq (by omega) (by omega)] at e
            rw [e, Nat.beq_refl] at b3
            cases b3
          · exact b2 p (by omega) e
        · rintro ⟨b1, b2⟩
          refine ⟨⟨b1, fun p hp => b2 p (by omega)⟩, ?_⟩
          by_cases c : q = q0
          · rw [c] at b2
            exact absurd (b2 i (by omega) a) g
          · rw [nbeq (fun w => c w.symm)]
            rfl
  · unfold aD
    rw [zoB_tb, decide_eq_true hq', Bool.true_and, decide_eq_true_eq]
    exact ⟨fun a => ⟨a, fun p hp => absurd hp (by omega)⟩, fun a => a.1⟩
theorem aD_door {v : Wd} {G : Nat} (hn : v.n ≤ 6) (hG : G < 64) (so : SOk v.n v.has v.pl v.wo) {st : Nat} (ok : stOk v st) (all : ∀ p, p < v.n → G.testBit p = true) : door (stW v st) 0 G = aD v := by
  refine Nat.eq_of_testBit_eq (fun q => ?_)
  by_cases c : q < v.n
  · rw [Bool.eq_iff_iff, stW_tb hn hG so ok c]
    unfold aD
    rw [zoB_tb, decide_eq_true c, Bool.true_and, decide_eq_true_eq]
    exact ⟨fun a => a.1, fun a => ⟨a, fun p hp _ => all p hp⟩⟩
  · have a : (aD v).testBit q = false := Nat.testBit_lt_two_pow (Nat.lt_of_lt_of_le (zoB_lt _ _) (Nat.pow_le_pow_right (by decide) (show v.n ≤ q by omega)))
    have b : (door (stW v st) 0 G).testBit q = false := Nat.testBit_lt_two_pow (Nat.lt_of_lt_of_le (door_lt (stW v st) 0 G) (Nat.pow_le_pow_right (by decide) (show v.n ≤ q by omega)))
    rw [a, b]
/-- the class's state behind -/
def ndJ (f F row : Nat → Nat) : Nat → Nat → Nat
  | 0 => f
  | j + 1 => up (ndJ f F row j) (row j) (F (row j))
theorem ndJ_in {f F row : Nat → Nat} : ∀ j i, i < j → ndJ f F row j (row i) = F (row i) := by
  intro j
  induction j with
  | zero => intro i hi; omega
  | succ j ih =>
    intro i hi
    rw [ndJ]
    by_cases c : row i = row j
    · rw [c, up_p]
    · rw [up_n c]
      refine ih i ?_
      by_cases e : i = j
      · rw [e] at c
        exact absurd rfl c
      · omega
theorem ndJ_out {f F row : Nat → Nat} {p : Nat} : ∀ j, (∀ i, i < j → row i ≠ p) → ndJ f F row j p = f p := by
  intro j
  induction j with
  | zero => intro _; rfl
  | succ j ih =>
    intro h
    rw [ndJ, up_n (fun e => h j (by omega) e.symm)]
    exact ih (fun i hi => h i (by omega))
theorem beh_s (A B d f w : Nat) (x y : Int32) (e : A + f * w = B + d * w) (ex : nI d - 1 = x) (ey : nI f - 1 = y) : nI B + (x - y) * nI w = nI A := by
  have e' : nI A + nI f * nI w = nI B + nI d * nI w := by
    rw [pk_mul, pk_mul, nI_add, nI_add, e]
  rw [← ex, ← ey]
  have r : nI B + (nI d - 1 - (nI f - 1)) * nI w = nI B + nI d * nI w - nI f * nI w := by grind
  rw [r, ← e']
  grind
theorem e_behind {v : Wd} {st G k : Nat} {h : AH} (hn : v.n ≤ 4) (hG : G < 2 ^ v.n) (g0 : 0 < G) (hk : k < nW G) (hs : st < 5 ^ v.n) (g : cGo v (fun q => v.it q 3) v.wo (rw_ G k) (pc G) (door (stW v st) 0 G) h) : f_X4_stateBehind 51 (nI st) h = some (nI (nx v st G k), h) := by
  have hn6 : v.n ≤ 6 := by omega
  have h64 := pow_le6 hn6
  have s6 := q5_le hn
  have r := W_row hn6 hG g0 hk
  have p7 := (pc_ok G (by omega)).2
  unfold f_X4_stateBehind
  have fin : enc (ndJ (dg st) (fun p => tkN (tkW v st G k p)) (rw_ G k) (pc G)) v.n = nx v st G k := by
    refine enc_cong _ (fun p hp => ?_)
    unfold nd
    by_cases c : G.testBit p = true
    · rw [if_pos c]
      obtain ⟨j, hj, rfl⟩ := r.2.2 p c
      exact ndJ_in _ j hj
    · rw [if_neg c]
      exact ndJ_out _ (fun i hi e => c (by rw [← e]; exact r.2.1 i hi))
  refine lp (fun fu i (s : Int32) => f_X4_stateBehind_4 fu 51 (nI st) s (nI i) h = some (nI (nx v st G k), h)) (fun i s => s = nI (enc (ndJ (dg st) (fun p => tkN (tkW v st G k p)) (rw_ G k) i) v.n)) (pc G) (by omega) ?_ ?_ (by rw [ndJ, enc_dg _ hs])
  · rintro fu s rfl
    rw [f_X4_stateBehind_4, rv_51_2, g.2.1.1, if_pos (by rw [nI_leI (by omega) (by omega)]; omega), fin]
  · rintro fu i s hi rfl K
    have ri := r.1.2.1 i hi
    have tc := tkN_e (n := v.n) (by omega) (tkP_c (v := v) (sz := fun q => v.it q 3) (wo := v.wo) (row := rw_ G k) (m := pc G) (D := door (stW v st) 0 G) (p := rw_ G k i))
    have eu := enc_up (f := ndJ (dg st) (fun p => tkN (tkW v st G k p)) (rw_ G k) i) (p := rw_ G k i) (d := tkN (tkW v st G k (rw_ G k i))) v.n ri
    rw [ndJ_out i (fun j hj e => by have := r.1.2.2 j i (by omega) hi e; omega)] at eu
    rw [f_X4_stateBehind_4, rv_51_2, g.2.1.1, if_neg (by rw [nI_leI (by omega) (by omega)]; omega), rv_41_1, an_42, og_ix (by omega) (by omega), nm_id, nI_clamp (by omega), g.2.1.2 i hi, rv_41_3, an_43, og_ix (by omega) (by omega), e_pairIn (by omega) (by omega), ob_some, sN6, og_ix (by omega) (by omega), nm_id, nm_id, nI_1, nI_clamp (by omega), cGo_t g r (r.2.1 i hi), sT6 _ (by omega), beh_s _ _ _ _ _ _ _ eu tc.1 (show nI (dg st (rw_ G k i)) - 1 = hq st (rw_ G k i) from rfl)]
    exact K _ rfl
/-! the model's having -/
def KM (v : Wd) (h : AH) : Prop := mG v (fun q => v.it q 3) v.wo h ∧ ∀ q, q < v.n → h.1 76 q = v.pl q ∧ h.1 77 q = v.has q
theorem KM_agr {W : List (Nat × Nat)} {v : Wd} {h0 h : AH} (a : Agr W h0 h) (d : Wdis W ((76, 1000) :: (77, 1000) :: STm) = true) (F : KM v h0) : KM v h := by
  have e := agr_on a d
  refine ⟨mG_eq (eqOn_sub e rfl) F.1, ?_⟩
  rw [eqOn_c e 76 (fun _ => rfl), eqOn_c e 77 (fun _ => rfl)]
  exact F.2
theorem KM.mn {v : Wd} {h : AH} (K : KM v h) : h.1 56 20 = nI v.n := K.1.1.2.1
theorem KM.n6 {v : Wd} {h : AH} (K : KM v h) : v.n ≤ 6 := K.1.1.1.1
theorem e_have48 {v : Wd} {st : Nat} {h : AH} (hn : v.n ≤ 4) (ok : stOk v st) (h20 : h.1 56 20 = nI v.n) (b : ∀ q, q < v.n → h.1 63 q = plF v st q 0) : ∃ h', f_X12_have_48 FU 56 (nI st) 0 h = some h' ∧ ∀ q, q < v.n → h'.1 62 q = hq st q ∧ h'.1 63 q = plF v st q v.n := by
  have s6 := q5_le hn
  have s5 := ok.1
  refine lp (fun fu i (s : Nat × AH) => ∃ h', f_X12_have_48 fu 56 (nI s.1) (nI i) s.2 = some h' ∧ ∀ q, q < v.n → h'.1 62 q = hq st q ∧ h'.1 63 q = plF v st q v.n) (fun i s => s.1 = st / 5 ^ i ∧ s.2.1 56 20 = nI v.n ∧ (∀ p, p < i → s.2.1 62 p = hq st p) ∧ ∀ q, q < v.n → s.2.1 63 q = plF v st q i) v.n (by omega) ?_ ?_ (s := (st, h)) ⟨by rw [Nat.pow_zero, Nat.div_one], h20, fun p hp => absurd hp (by omega), b⟩
  · rintro fu ⟨s, g⟩ ⟨_, g20, g1, g2⟩
    have g20 : g.1 56 20 = nI v.n := g20
    simp only
    rw [f_X12_have_48, g20, if_pos (by rw [nI_leI (by omega) (by omega)]; omega)]
    exact ⟨g, rfl, fun q hq' => ⟨g1 q hq', g2 q hq'⟩⟩
  · rintro fu i ⟨s, g⟩ hi ⟨rfl, g20, g1, g2⟩ K
    have g20 : g.1 56 20 = nI v.n := g20
    have g1 : ∀ p, p < i → g.1 62 p = hq st p := g1
    have g2 : ∀ q, q < v.n → g.1 63 q = plF v st q i := g2
    have l : st / 5 ^ i ≤ st := Nat.div_le_self ..
    have ed : st / 5 ^ i / 5 = st / 5 ^ (i + 1) := by rw [Nat.div_div_eq_div_mul, ← Nat.pow_succ]
    have eh : nI (st / 5 ^ i % 5) - 1 = hq st i := rfl
    simp only at K ⊢
    rw [f_X12_have_48, g20, if_neg (by rw [nI_leI (by omega) (by omega)]; omega), rv_56_22, an_62, og_ix (by omega) (by omega), nm_id, nm_id, og_ix (by omega) (by omega), og_ix (by omega) (by omega), nI_clamp (by omega), sI_s, (rem5 (by omega)).1, (rem5 (by omega)).2, eh, ed]
    unfold f_X12_have_93
    rw [nm_id, nm_id, nm_id, nI_1]
    rcases ok.2.1 i hi with a | ⟨q0, hq0, a, _⟩
    · rw [if_pos a]
      refine K (st / 5 ^ (i + 1), _) ⟨rfl, g20, fun p hp => ?_, fun q hq' => ?_⟩
      · by_cases c : p = i
        · subst c
          exact sI_s ..
        · show (sI g 62 i (hq st i)).1 62 p = _
          rw [sI_n (Or.inr c)]
          exact g1 p (by omega)
      · show (sI g 62 i (hq st i)).1 63 q = _
        rw [sI_n (Or.inl (by decide)), g2 q hq', plF, if_neg (by rw [a]; intro w; have : (nI q = -1) = False := n_m1 (by omega); rw [← w] at this; simp at this)]
    · rw [if_neg (by rw [a, n_m1 (by omega)]; exact id), rv_56_23, an_63, a, og_ix (by omega) (by omega), nI_clamp (by omega)]
      refine K (st / 5 ^ (i + 1), _) ⟨rfl, g20, fun p hp => ?_, fun q hq' => ?_⟩
      · show (sI (sI g 62 i (nI q0)) 63 q0 (nI i)).1 62 p = _
        rw [sI_n (Or.inl (by decide))]
        by_cases c : p = i
        · subst c
          rw [sI_s, a]
        · rw [sI_n (Or.inr c)]
          exact g1 p (by omega)
      · show (sI (sI g 62 i (nI q0)) 63 q0 (nI i)).1 63 q = _
        rw [plF, a]
        by_cases c : q = q0
        · subst c
          rw [sI_s, if_pos rfl]
        · rw [sI_n (Or.inr c), sI_n (Or.inl (by decide)), g2 q hq', if_neg (by rw [nI_eq (by omega) (by omega)]; exact fun w => c w.symm)]
theorem e_have {v : Wd} {st : Nat} {h : AH} (hn : v.n ≤ 4) (n0 : v.n ≠ 0) (so : SOk v.n v.has v.pl v.wo) (ok : stOk v st) (K : KM v h) : ∃ h', f_X12_have 56 (nI st) h = some h' ∧ mB (stW v st) h' ∧ KM v h' ∧ Agr W_X12_have_i56 h h' := by
  have main : ∃ h', f_X12_have 56 (nI st) h = some h' ∧ ∀ q, q < v.n → h'.1 62 q = hq st q ∧ h'.1 63 q = plF v st q v.n := by
    unfold f_X12_have
    refine lp (fun fu i g => ∃ h', f_X12_have_4 fu 56 (nI st) (nI i) g = some h' ∧ ∀ q, q < v.n → h'.1 62 q = hq st q ∧ h'.1 63 q = plF v st q v.n) (fun i g => Agr ((63, 1000) :: []) h g ∧ ∀ q, q < i → g.1 63 q = plF v st q 0) v.n (by omega) ?_ ?_ ⟨agr_refl h, fun q hq' => absurd hq' (by omega)⟩
    · rintro fu g ⟨A, g1⟩
      have g20 := (KM_agr A rfl K).mn
      rw [f_X12_have_4, g20, if_pos (by rw [nI_leI (by omega) (by omega)]; omega)]
      exact e_have48 hn ok g20 g1
    · rintro fu i g hi ⟨A, g1⟩ Kx
      have Kg := KM_agr A rfl K
      have st' : ∀ x, x = plF v st i 0 → ∃ h', f_X12_have_39 (f_X12_have_4 fu) 56 (nI st) (nI i) x (nI i) 63 g = some h' ∧ ∀ q, q < v.n → h'.1 62 q = hq st q ∧ h'.1 63 q = plF v st q v.n := by
        rintro x rfl
        unfold f_X12_have_39
        rw [an_63, og_ix (by omega) (by omega), nm_id, nm_id, nI_1, nI_clamp (by omega)]
        refine Kx _ ⟨agr_sI A rfl, fun q hq' => ?_⟩
        by_cases c : q = i
        · subst c
          exact sI_s ..
        · rw [sI_n (Or.inr c)]
          exact g1 q (by omega)
      rw [f_X12_have_4, Kg.mn, if_neg (by rw [nI_leI (by omega) (by omega)]; omega), rv_56_41, an_76, og_ix (by omega) (by omega), og_ix (by omega) (by omega), nI_clamp (by omega), (Kg.2 i hi).1, rv_56_23]
      by_cases c : v.pl i ≤ 10
      · rw [if_pos c]
        exact st' 10 (by rw [plF, if_pos c])
      · rw [if_neg c]
        exact st' _ (by rw [plF, if_neg c])
  obtain ⟨h', e, f⟩ := main
  have A : Agr W_X12_have_i56 h h' := w_f_X12_have_i56 _ _ _ e
  have K' := KM_agr A rfl K
  exact ⟨h', e, ⟨K'.1, stW_so (by omega) so ok, n0, f⟩, K', A⟩
/-- one way of the model -/
theorem e_c41 {v : Wd} {st G k : Nat} {x3 x4 x5 : Int32} {h : AH} (q11 : Nat → Int32 → Int32 → Int32 → Int32 → Int32 → AH → Option (Int32 × AH)) (hn : v.n ≤ 4) (hG : G < 2 ^ v.n) (g0 : 0 < G) (hk : k < nW G) (g : mGo v (fun q => v.it q 3) v.wo (rw_ G k) (pc G) (door (stW v st) 0 G) h) (hh : ∀ q, q < v.n → h.1 62 q = hq st q) : ∃ h', f_X12_comes_41 q11 FU 56 (nI st) (nI G) x3 x4 x5 0 h = (if h.1 74 (nx v st G k) = -1 then q11 56 (nI st) (nI G) x3 1 (x5 + 1) (sI h' 74 (nx v st G k) x3) else q11 56 (nI st) (nI G) x3 x4 (x5 + 1) h') ∧ Agr ((62, 1000) :: []) h h' := by
  have hn6 : v.n ≤ 6 := by omega
  have h64 := pow_le6 hn6
  have s6 := q5_le hn
  have xl := nx_lt hn st G k
  have r := W_row hn6 hG g0 hk
  have m20 : h.1 56 20 = nI v.n := g.1.1.2.1
  refine lp (fun fu i gg => ∃ h', f_X12_comes_41 q11 fu 56 (nI st) (nI G) x3 x4 x5 (nI i) gg = (if h.1 74 (nx v st G k) = -1 then q11 56 (nI st) (nI G) x3 1 (x5 + 1) (sI h' 74 (nx v st G k) x3) else q11 56 (nI st) (nI G) x3 x4 (x5 + 1) h') ∧ Agr ((62, 1000) :: []) h h') (fun i gg => Agr ((62, 1000) :: []) h gg ∧ ∀ p, p < v.n → gg.1 62 p = if p < i then nI (nd v st G k p) - 1 else hq st p) v.n (by omega) ?_ ?_ ⟨agr_refl h, fun p hp => by rw [if_neg (by omega)]; exact hh p hp⟩
  · rintro fu gg ⟨A, g1⟩
    have c20 : gg.1 56 20 = nI v.n := by
      rw [agr_on A (B := (56, 20) :: []) rfl 56 20 rfl]
      exact m20
    have en := e_now (f := nd v st G k) hn6 c20 (fun p hp => by rw [g1 p hp, if_pos hp])
    have en : f_X12_havingNow 56 gg = some (nI (nx v st G k), gg) := en
    refine ⟨gg, ?_, A⟩
    rw [f_X12_comes_41, c20, if_pos (by rw [nI_leI (by omega) (by omega)]; omega), en, ob_some, rv_56_39, an_74, og_ix (by omega) (by omega), og_ix (by omega) (by omega), nI_clamp (by omega), nm_id, agr_cell A 74 rfl]
    unfold f_X12_comes_110
    rw [nm_id, nm_id]
  · rintro fu i gg hi ⟨A, g1⟩ K
    have c20 : gg.1 56 20 = nI v.n := by
      rw [agr_on A (B := (56, 20) :: []) rfl 56 20 rfl]
      exact m20
    rw [f_X12_comes_41, c20, if_neg (by rw [nI_leI (by omega) (by omega)]; omega), e_X12_has, inS_tb G (by omega) i (by omega), ob_some, zi]
    unfold f_X12_comes_73
    rw [nm_id, nm_id, nI_1]
    by_cases c : G.testBit i = true
    · have e68 : gg.1 68 i = tkW v st G k i := by
        rw [agr_cell A 68 rfl]
        exact mGo_t g r c
      rw [if_pos c, rv_56_28, an_68, og_ix (by omega) (by omega), rv_56_22, an_62, og_ix (by omega) (by omega), nI_clamp (by omega), e68]
      refine K _ ⟨agr_sI A rfl, fun p hp => ?_⟩
      by_cases d : p = i
      · subst d
        rw [sI_s, if_pos (by omega)]
        unfold nd
        rw [if_pos c]
        exact (tkN_e (n := v.n) (by omega) (tkP_c (v := v) (sz := fun q => v.it q 3) (wo := v.wo) (row := rw_ G k) (m := pc G) (D := door (stW v st) 0 G) (p := p))).1.symm
      · rw [sI_n (Or.inr d), g1 p hp]
        by_cases l : p < i
        · rw [if_pos l, if_pos (by omega)]
        · rw [if_neg l, if_neg (by omega)]
    · rw [if_neg c]
      refine K _ ⟨A, fun p hp => ?_⟩
      rw [g1 p hp]
      by_cases d : p = i
      · subst d
        rw [if_neg (by omega), if_pos (by omega)]
        unfold nd
        rw [if_neg c]
        rfl
      · by_cases l : p < i
        · rw [if_pos l, if_pos (by omega)]
        · rw [if_neg l, if_neg (by omega)]
/-- all ways of a party -/
def CM (v : Wd) (st G m : Nat) (x : Int32) (T T' : Nat → Int32) (b : Bool) : Prop := (∀ c, T' c = T c ∨ (T c = -1 ∧ T' c = x ∧ ∃ k, k < nW G ∧ c = nx v st G k)) ∧ (∀ k, k < m → T' (nx v st G k) ≠ -1) ∧ (b = false → T' = T) ∧ (b = true → ∃ k, k < nW G ∧ T (nx v st G k) = -1)
theorem e_comes {v : Wd} {st G : Nat} {x : Int32} {h : AH} (hx : x ≠ -1) (hn : v.n ≤ 4) (n0 : v.n ≠ 0) (so : SOk v.n v.has v.pl v.wo) (ok : stOk v st) (hG : G < 2 ^ v.n) (g0 : 0 < G) (K : KM v h) : ∃ b h', f_X12_comes 56 (nI st) (nI G) x h = some (zb b, h') ∧ KM v h' ∧ CM v st G (nW G) x (h.1 74) (h'.1 74) b := by
  have hn6 : v.n ≤ 6 := by omega
  have h64 := pow_le6 hn6
  obtain ⟨_, _, _, _, w5, _⟩ := W_parts g0 (show G < 64 by omega)
  obtain ⟨h1, e1, M1, a1⟩ := m_all hn6 hG g0 K.mn
  unfold f_X12_comes
  rw [e1, ov_some]
  refine lp (fun fu i (s : Bool × AH) => ∃ b h', f_X12_comes_11 fu 56 (nI st) (nI G) x (zb s.1) (nI i) s.2 = some (zb b, h') ∧ KM v h' ∧ CM v st G (nW G) x (h.1 74) (h'.1 74) b) (fun i s => KM v s.2 ∧ mW G s.2 ∧ CM v st G i x (h.1 74) (s.2.1 74) s.1) (nW G) (by omega) ?_ ?_ (s := (false, h1)) ⟨KM_agr a1 rfl K, M1, by
    show CM v st G 0 x (h.1 74) (h1.1 74) false
    rw [agr_cell a1 74 rfl]
    exact ⟨fun c => Or.inl rfl, fun k hk => absurd hk (by omega), fun _ => rfl, fun w => absurd w (by decide)⟩⟩
  · rintro fu ⟨b, g⟩ ⟨Kg, Mg, C⟩
    have Mg : mW G g := Mg
    simp only
    rw [f_X12_comes_11, Mg.1, if_pos (by rw [nI_leI (by omega) (by omega)]; omega), og_bz]
    exact ⟨b, g, rfl, Kg, C⟩
  · rintro fu i ⟨b, g⟩ hi ⟨Kg, Mg, C⟩ Kx
    have Mg : mW G g := Mg
    have Kg : KM v g := Kg
    have C : CM v st G i x (h.1 74) (g.1 74) b := C
    simp only at Kx ⊢
    obtain ⟨h2, e2, B2, K2, a2⟩ := e_have hn n0 so ok Kg
    have ed : f_X12_doorOf 56 0 (nI G) h2 = some (nI (door (stW v st) 0 G), h2) := B2.door (u := 0) (by omega) (by omega)
    obtain ⟨h3, e3, g3, M3, a3⟩ := m_way (v := v) (sz := fun q => v.it q 3) (wo := v.wo) hG g0 (show door (stW v st) 0 G < 2 ^ v.n from door_lt (stW v st) 0 G) K2.1 (mW_agr a2 rfl Mg) hi
    have hh : ∀ q, q < v.n → h3.1 62 q = hq st q := by
      intro q hq'
      rw [agr_cell a3 62 rfl]
      exact (B2.2.2.2 q hq').1
    obtain ⟨h4, e4, a4⟩ := e_c41 (x3 := x) (x4 := zb b) (x5 := nI i) (f_X12_comes_11 fu) hn hG g0 hi g3 hh
    have K4 : KM v h4 := KM_agr a4 rfl (KM_agr a3 rfl K2)
    have M4 : mW G h4 := mW_agr a4 rfl M3
    have e74 : h3.1 74 = g.1 74 := by rw [agr_cell a3 74 rfl, agr_cell a2 74 rfl]
    have e74' : h4.1 74 = g.1 74 := by rw [agr_cell a4 74 rfl, e74]
    rw [f_X12_comes_11, Mg.1, if_neg (by rw [nI_leI (by omega) (by omega)]; omega), e2, ov_some, ed, ob_some, e3, ov_some, e4, nI_1, e74]
    obtain ⟨C1, C2, C3, C4⟩ := C
    by_cases c : g.1 74 (nx v st G i) = -1
    · rw [if_pos c]
      have aS : Agr ((74, 1000) :: []) h4 (sI h4 74 (nx v st G i) x) := agr_sI (agr_refl h4) rfl
      refine Kx (true, sI h4 74 (nx v st G i) x) ⟨KM_agr aS rfl K4, mW_agr aS rfl M4, ?_⟩
      have s1 : ∀ c', (sI h4 74 (nx v st G i) x).1 74 c' = if c' = nx v st G i then x else g.1 74 c' := by
        intro c'
        by_cases d : c' = nx v st G i
        · rw [if_pos d, d, sI_s]
        · rw [if_neg d, sI_n (Or.inr d), e74']
      refine ⟨fun c' => ?_, fun k hk => ?_, fun w => absurd (show true = false from w) (by decide), fun _ => ?_⟩
      · show (sI h4 74 (nx v st G i) x).1 74 c' = _ ∨ _ ∧ (sI h4 74 (nx v st G i) x).1 74 c' = x ∧ _
        rw [s1]
        by_cases d : c' = nx v st G i
        · rw [if_pos d]
          refine Or.inr ⟨?_, rfl, i, hi, d⟩
          rw [d]
          rcases C1 (nx v st G i) with q | q
          · rw [← q]
            exact c
          · exact q.1
        · rw [if_neg d]
          exact C1 c'
      · show (sI h4 74 (nx v st G i) x).1 74 (nx v st G k) ≠ -1
        rw [s1]
        by_cases d : nx v st G k = nx v st G i
        · rw [if_pos d]
          exact hx
        · rw [if_neg d]
          refine C2 k ?_
          by_cases e : k = i
          · rw [e] at d
            exact absurd rfl d
          · omega
      · refine ⟨i, hi, ?_⟩
        rcases C1 (nx v st G i) with q | q
        · rw [← q]
          exact c
        · exact q.1
    · rw [if_neg c]
      refine Kx (b, h4) ⟨K4, M4, ?_⟩
      show CM v st G (i + 1) x (h.1 74) (h4.1 74) b
      rw [e74']
      refine ⟨C1, fun k hk => ?_, C3, C4⟩
      by_cases e : k = i
      · rw [e]
        exact c
      · exact C2 k (by omega)
/-- reached within some evenings -/
def Tr (v : Wd) : Nat → Nat → Prop
  | 0, st => st = st0 v
  | e + 1, st' => Tr v e st' ∨ ∃ st G k, Tr v e st ∧ (0 < G ∧ G < 2 ^ v.n ∧ k < nW G) ∧ st' = nx v st G k
theorem Tr_ok {v : Wd} (hn : v.n ≤ 4) (so : SOk v.n v.has v.pl v.wo) : ∀ e st, Tr v e st → stOk v st := by
  intro e
  induction e with
  | zero => intro st h; rw [show st = st0 v from h]; exact st0_ok hn so
  | succ e ih =>
    intro st h
    rcases h with h | ⟨s, G, k, h, ⟨g0, hG, hk⟩, rfl⟩
    · exact ih st h
    · exact nx_ok hn so (ih s h) hG g0 hk
theorem Tr_mono {v : Wd} {e st : Nat} (h : Tr v e st) : ∀ d, Tr v (e + d) st := by
  intro d
  induction d with
  | zero => exact h
  | succ d ih => exact Or.inl ih
theorem Tr_le {v : Wd} {e e' st : Nat} (h : Tr v e st) (l : e ≤ e') : Tr v e' st := by
  have := Tr_mono h (e' - e)
  rw [show e + (e' - e) = e' by omega] at this
  exact this
theorem Tr_cl {v : Wd} {e : Nat} (c : ∀ st, Tr v (e + 1) st → Tr v e st) : ∀ d st, Tr v (e + d) st → Tr v e st := by
  intro d
  induction d with
  | zero => intro st h; exact h
  | succ d ih =>
    intro st h
    rcases h with h | ⟨s, G, k, h, w, rfl⟩
    · exact ih st h
    · exact c _ (Or.inr ⟨s, G, k, ih s h, w, rfl⟩)
def Ans (v : Wd) (p : Nat) (x : Int32) (r : Int32) : Prop := (∃ e, r = nI e ∧ (∃ st, Tr v e st ∧ hq st p = x) ∧ ∀ e', e' < e → ∀ st, Tr v e' st → hq st p ≠ x) ∨ (r = -1 ∧ ∀ e st, Tr v e st → hq st p ≠ x)
theorem Ans_u {v : Wd} {p : Nat} {x r r' : Int32} (a : Ans v p x r) (b : Ans v p x r') : r = r' := by
  rcases a with ⟨e, rfl, ⟨s, s1, s2⟩, m⟩ | ⟨rfl, n⟩
  · rcases b with ⟨e', rfl, ⟨s', s1', s2'⟩, m'⟩ | ⟨rfl, n⟩
    · rcases Nat.lt_trichotomy e e' with l | l | l
      · exact absurd s2 (m' e l s s1)
      · rw [l]
      · exact absurd s2' (m e' l s' s1')
    · exact absurd s2 (n e s s1)
  · rcases b with ⟨e', rfl, ⟨s', s1', s2'⟩, m'⟩ | ⟨rfl, n⟩
    · exact absurd s2' (n e' s' s1')
    · rfl
/-- a count -/
def nT (b : Nat → Bool) : Nat → Nat
  | 0 => 0
  | k + 1 => if b k = true then nT b k + 1 else nT b k
theorem nT_le (b : Nat → Bool) : ∀ k, nT b k ≤ k := by
  intro k
  induction k with
  | zero => exact Nat.le_refl _
  | succ k ih =>
    rw [nT]
    split <;> omega
theorem nT_mono {b b' : Nat → Bool} : ∀ k, (∀ x, x < k → b x = true → b' x = true) → nT b k ≤ nT b' k := by
  intro k
  induction k with
  | zero => intro _; exact Nat.le_refl _
  | succ k ih =>
    intro h
    have := ih (fun x hx => h x (by omega))
    rw [nT, nT]
    by_cases c : b k = true
    · rw [if_pos c, if_pos (h k (by omega) c)]
      omega
    · rw [if_neg c]
      split <;> omega
theorem nT_lt {b b' : Nat → Bool} {c : Nat} (c1 : b c = false) (c2 : b' c = true) : ∀ k, c < k → (∀ x, x < k → b x = true → b' x = true) → nT b k < nT b' k := by
  intro k
  induction k with
  | zero => intro h; omega
  | succ k ih =>
    intro hc h
    rw [nT, nT]
    by_cases e : c = k
    · subst e
      have := nT_mono (b := b) (b' := b') c (fun x hx => h x (by omega))
      rw [if_neg (by rw [c1]; decide), if_pos c2]
      omega
    · have := ih (by omega) (fun x hx => h x (by omega))
      by_cases d : b k = true
      · rw [if_pos d, if_pos (h k (by omega) d)]
        omega
      · rw [if_neg d]
        split <;> omega
def mkd (T : Nat → Int32) (c : Nat) : Bool := decide (T c ≠ -1)
/-- putting back -/
theorem e_putBack {v : Wd} {h : AH} (K : KM v h) : ∃ h', f_X12_putBackHaving 56 h = some h' ∧ ∀ q, q < v.n → h'.1 62 q = v.has q ∧ h'.1 63 q = v.pl q := by
  have hn := K.n6
  unfold f_X12_putBackHaving
  refine lp (fun fu i g => ∃ h', f_X12_putBackHaving_2 fu 56 (nI i) g = some h' ∧ ∀ q, q < v.n → h'.1 62 q = v.has q ∧ h'.1 63 q = v.pl q) (fun i g => Agr ((62, 1000) :: (63, 1000) :: []) h g ∧ ∀ q, q < i → g.1 62 q = v.has q ∧ g.1 63 q = v.pl q) v.n (by omega) ?_ ?_ ⟨agr_refl h, fun q hq' => absurd hq' (by omega)⟩
  · rintro fu g ⟨A, g1⟩
    rw [f_X12_putBackHaving_2, (KM_agr A rfl K).mn, if_pos (by rw [nI_leI (by omega) (by omega)]; omega)]
    exact ⟨g, rfl, g1⟩
  · rintro fu i g hi ⟨A, g1⟩ Kx
    have Kg := KM_agr A rfl K
    rw [f_X12_putBackHaving_2, Kg.mn, if_neg (by rw [nI_leI (by omega) (by omega)]; omega), rv_56_41, an_76, og_ix (by omega) (by omega), rv_56_23, an_63, og_ix (by omega) (by omega), nm_id, rv_56_42, an_77, og_ix (by omega) (by omega), rv_56_22, an_62, og_ix (by omega) (by omega), nm_id, nm_id, nI_1, nI_clamp (by omega), sI_n (Or.inl (by decide)), (Kg.2 i hi).1, (Kg.2 i hi).2]
    refine Kx _ ⟨agr_sI (agr_sI A rfl) rfl, fun q hq' => ?_⟩
    by_cases c : q = i
    · subst c
      rw [sI_s, sI_n (Or.inl (by decide)), sI_s]
      exact ⟨rfl, rfl⟩
    · rw [sI_n (Or.inr c), sI_n (Or.inl (by decide)), sI_n (Or.inl (by decide)), sI_n (Or.inr c)]
      exact g1 q (by omega)
theorem e_keep {v : Wd} {h : AH} (B : mB v h) : ∃ h', f_X12_keepHaving 56 h = some h' ∧ KM v h' := by
  have hn := B.n6
  unfold f_X12_keepHaving
  refine lp (fun fu i g => ∃ h', f_X12_keepHaving_2 fu 56 (nI i) g = some h' ∧ KM v h') (fun i g => Agr ((76, 1000) :: (77, 1000) :: []) h g ∧ ∀ q, q < i → g.1 76 q = v.pl q ∧ g.1 77 q = v.has q) v.n (by omega) ?_ ?_ ⟨agr_refl h, fun q hq' => absurd hq' (by omega)⟩
  · rintro fu g ⟨A, g1⟩
    have Bg := mB_agr A rfl B
    rw [f_X12_keepHaving_2, Bg.mn, if_pos (by rw [nI_leI (by omega) (by omega)]; omega)]
    exact ⟨g, rfl, Bg.1, g1⟩
  · rintro fu i g hi ⟨A, g1⟩ Kx
    have Bg := mB_agr A rfl B
    rw [f_X12_keepHaving_2, Bg.mn, if_neg (by rw [nI_leI (by omega) (by omega)]; omega), rv_56_23, an_63, og_ix (by omega) (by omega), rv_56_41, an_76, og_ix (by omega) (by omega), nm_id, rv_56_22, an_62, og_ix (by omega) (by omega), rv_56_42, an_77, og_ix (by omega) (by omega), nm_id, nm_id, nI_1, nI_clamp (by omega), sI_n (Or.inl (by decide)), (Bg.2.2.2 i hi).1, (Bg.2.2.2 i hi).2]
    refine Kx _ ⟨agr_sI (agr_sI A rfl) rfl, fun q hq' => ?_⟩
    by_cases c : q = i
    · subst c
      rw [sI_n (Or.inl (by decide)), sI_s, sI_s]
      exact ⟨rfl, rfl⟩
    · rw [sI_n (Or.inl (by decide)), sI_n (Or.inr c), sI_n (Or.inr c), sI_n (Or.inl (by decide))]
      exact g1 q (by omega)
/-- one level of the model's search -/
def LI (v : Wd) (e : Nat) (T : Nat → Int32) : Prop := ∀ c, c < 625 → (T c = -1 ∧ ¬ Tr v e c) ∨ ∃ l, l ≤ e ∧ T c = nI l ∧ Tr v l c ∧ ∀ l', l' < l → ¬ Tr v l' c
def MI (v : Wd) (T0 : Nat → Int32) (e : Nat) (T : Nat → Int32) (fl : Bool) : Prop := (∀ c, T c = T0 c ∨ (T0 c = -1 ∧ T c = nI (e + 1) ∧ ∃ st G k, (st < 625 ∧ T0 st = nI e) ∧ (0 < G ∧ G < 2 ^ v.n ∧ k < nW G) ∧ c = nx v st G k)) ∧ (fl = false → T = T0) ∧ (fl = true → ∃ c, c < 625 ∧ T0 c = -1 ∧ T c ≠ -1)
theorem MI_m1 {v : Wd} {T0 T : Nat → Int32} {e : Nat} {fl : Bool} (he : e < 1000) (M : MI v T0 e T fl) {c : Nat} : (T c = -1 → T0 c = -1) ∧ (T c = nI e ↔ T0 c = nI e) := by
  rcases M.1 c with q | ⟨q1, q2, _⟩
  · rw [q]
    exact ⟨id, Iff.rfl⟩
  · refine ⟨fun _ => q1, ?_⟩
    rw [q1, q2, nI_eq (by omega) (by omega)]
    refine ⟨fun w => by omega, fun w => ?_⟩
    have : (nI e = -1) = False := n_m1 (by omega)
    rw [← w] at this
    simp at this
theorem MI_cm {v : Wd} {T0 T T' : Nat → Int32} {e st G : Nat} {fl b : Bool} (hn : v.n ≤ 4) (he : e < 1000) (hs : st < 625 ∧ T0 st = nI e) (g0 : 0 < G) (hG : G < 2 ^ v.n) (M : MI v T0 e T fl) (C : CM v st G (nW G) (nI (e + 1)) T T' b) : MI v T0 e T' (b || fl) ∧ ∀ c, T c ≠ -1 → T' c ≠ -1 := by
  obtain ⟨C1, C2, C3, C4⟩ := C
  have x1 : nI (e + 1) ≠ -1 := by rw [ne_eq, n_m1 (by omega)]; exact id
  have ext : ∀ c, T c ≠ -1 → T' c ≠ -1 := by
    intro c hc
    rcases C1 c with q | q
    · rw [q]
      exact hc
    · exact absurd q.1 hc
  refine ⟨⟨fun c => ?_, fun w => ?_, fun w => ?_⟩, ext⟩
  · rcases C1 c with q | ⟨q1, q2, k, hk, q3⟩
    · rw [q]
      exact M.1 c
    · exact Or.inr ⟨(MI_m1 he M).1 q1, q2, st, G, k, hs, ⟨g0, hG, hk⟩, q3⟩
  · rw [Bool.or_eq_false_iff] at w
    rw [C3 w.1, M.2.1 w.2]
  · cases hb : b with
    | true =>
      obtain ⟨k, hk, q⟩ := C4 hb
      have := nx_lt hn st G k
      have := q5_le hn
      exact ⟨nx v st G k, by omega, (MI_m1 he M).1 q, C2 k hk⟩
    | false =>
      rw [hb, Bool.false_or] at w
      obtain ⟨c, c1, c2, c3⟩ := M.2.2 w
      exact ⟨c, c1, c2, ext c c3⟩
theorem e_b165 {v : Wd} {T0 : Nat → Int32} {e st : Nat} {x1 x2 x3 : Int32} {fl : Bool} {h : AH} (q : Nat → Int32 → Int32 → Int32 → Int32 → Int32 → Int32 → AH → Option (Int32 × AH)) (hn : v.n ≤ 4) (n0 : v.n ≠ 0) (so : SOk v.n v.has v.pl v.wo) (ok : stOk v st) (he : e < 1000) (hs : st < 625 ∧ T0 st = nI e) (K : KM v h) (M : MI v T0 e (h.1 74) fl) : ∃ fl' h', f_X12_bring_165 q FU 56 x1 x2 x3 (zb fl) (nI e) (nI st) 1 h = q 56 x1 x2 x3 (zb fl') (nI e) (nI st + 1) h' ∧ KM v h' ∧ MI v T0 e (h'.1 74) fl' ∧ (∀ c, h.1 74 c ≠ -1 → h'.1 74 c ≠ -1) ∧ ∀ G k, 0 < G → G < 2 ^ v.n → k < nW G → h'.1 74 (nx v st G k) ≠ -1 := by
  have hn6 : v.n ≤ 6 := by omega
  have h64 := pow_le6 hn6
  have p1 := Nat.two_pow_pos v.n
  have x1' : nI (e + 1) ≠ -1 := by rw [ne_eq, n_m1 (by omega)]; exact id
  refine lp (fun fu i (s : Bool × AH) => ∃ fl' h', f_X12_bring_165 q fu 56 x1 x2 x3 (zb s.1) (nI e) (nI st) (nI (i + 1)) s.2 = q 56 x1 x2 x3 (zb fl') (nI e) (nI st + 1) h' ∧ KM v h' ∧ MI v T0 e (h'.1 74) fl' ∧ (∀ c, h.1 74 c ≠ -1 → h'.1 74 c ≠ -1) ∧ ∀ G k, 0 < G → G < 2 ^ v.n → k < nW G → h'.1 74 (nx v st G k) ≠ -1) (fun i s => KM v s.2 ∧ MI v T0 e (s.2.1 74) s.1 ∧ (∀ c, h.1 74 c ≠ -1 → s.2.1 74 c ≠ -1) ∧ ∀ G k, 0 < G → G < i + 1 → k < nW G → s.2.1 74 (nx v st G k) ≠ -1) (2 ^ v.n - 1) (by omega) ?_ ?_ (s := (fl, h)) ⟨K, M, fun _ => id, fun G k a b => absurd b (by omega)⟩
  · rintro fu ⟨b, g⟩ ⟨Kg, Mg, X, Dn⟩
    have Kg : KM v g := Kg
    simp only
    refine ⟨b, g, ?_, Kg, Mg, X, fun G k a c => Dn G k a (by omega)⟩
    rw [f_X12_bring_165, Kg.mn, shl_n _ (by omega), if_pos (by rw [nI_leI (by omega) (by omega)]; omega)]
    rfl
  · rintro fu i ⟨b, g⟩ hi ⟨Kg, Mg, X, Dn⟩ Kx
    have Kg : KM v g := Kg
    have Mg : MI v T0 e (g.1 74) b := Mg
    have X : ∀ c, h.1 74 c ≠ -1 → g.1 74 c ≠ -1 := X
    have Dn : ∀ G k, 0 < G → G < i + 1 → k < nW G → g.1 74 (nx v st G k) ≠ -1 := Dn
    simp only at Kx ⊢
    obtain ⟨bc, h2, e2, K2, C2⟩ := e_comes (G := i + 1) x1' hn n0 so ok (by omega) (by omega) Kg
    obtain ⟨M2, X2⟩ := MI_cm hn he hs (by omega) (by omega) Mg C2
    have nxt := Kx (bc || b, h2) ⟨K2, M2, fun c w => X2 c (X c w), fun G k a c d => by
      by_cases w : G = i + 1
      · subst w
        exact C2.2.1 k d
      · exact X2 _ (Dn G k a (by omega) d)⟩
    rw [f_X12_bring_165, Kg.mn, shl_n _ (by omega), if_neg (by rw [nI_leI (by omega) (by omega)]; omega), nI_1, e2, ob_some]
    unfold f_X12_bring_196 f_X12_bring_201
    rw [nm_id, nm_id, nI_1]
    cases bc with
    | true =>
      rw [if_neg (by decide)]
      exact nxt
    | false =>
      rw [if_pos (show zb false = 0 from rfl)]
      cases b with
      | true =>
        rw [if_neg (by decide)]
        exact nxt
      | false =>
        rw [if_pos (show zb false = 0 from rfl)]
        exact nxt
theorem e_b134 {v : Wd} {e : Nat} {x1 x2 : Int32} {h : AH} (q : Nat → Int32 → Int32 → Int32 → Int32 → Int32 → AH → Option (Int32 × AH)) (hn : v.n ≤ 4) (n0 : v.n ≠ 0) (so : SOk v.n v.has v.pl v.wo) (he : e < 1000) (L : LI v e (h.1 74)) (K : KM v h) : ∃ fl h', f_X12_bring_134 q FU 56 x1 x2 (-1) 0 (nI e) 0 h = q 56 x1 x2 (-1) (zb fl) (nI (e + 1)) h' ∧ KM v h' ∧ MI v (h.1 74) e (h'.1 74) fl ∧ ∀ st G k, st < 625 → h.1 74 st = nI e → 0 < G → G < 2 ^ v.n → k < nW G → h'.1 74 (nx v st G k) ≠ -1 := by
  refine lp (fun fu i (s : Bool × AH) => ∃ fl h', f_X12_bring_134 q fu 56 x1 x2 (-1) (zb s.1) (nI e) (nI i) s.2 = q 56 x1 x2 (-1) (zb fl) (nI (e + 1)) h' ∧ KM v h' ∧ MI v (h.1 74) e (h'.1 74) fl ∧ ∀ st G k, st < 625 → h.1 74 st = nI e → 0 < G → G < 2 ^ v.n → k < nW G → h'.1 74 (nx v st G k) ≠ -1) (fun i s => KM v s.2 ∧ MI v (h.1 74) e (s.2.1 74) s.1 ∧ ∀ st G k, st < i → h.1 74 st = nI e → 0 < G → G < 2 ^ v.n → k < nW G → s.2.1 74 (nx v st G k) ≠ -1) 625 (by decide) ?_ ?_ (s := (false, h)) ⟨K, ⟨fun c => Or.inl rfl, fun _ => rfl, fun w => absurd (show false = true from w) (by decide)⟩, fun st G k w => absurd w (by omega)⟩
  · rintro fu ⟨b, g⟩ ⟨Kg, Mg, Dn⟩
    simp only
    refine ⟨b, g, ?_, Kg, Mg, Dn⟩
    rw [f_X12_bring_134, if_pos (by decide)]
    unfold f_X12_bring_215
    rw [nm_id, nI_1]
  · rintro fu i ⟨b, g⟩ hi ⟨Kg, Mg, Dn⟩ Kx
    have Kg : KM v g := Kg
    have Mg : MI v (h.1 74) e (g.1 74) b := Mg
    have Dn : ∀ st G k, st < i → h.1 74 st = nI e → 0 < G → G < 2 ^ v.n → k < nW G → g.1 74 (nx v st G k) ≠ -1 := Dn
    simp only at Kx ⊢
    rw [f_X12_bring_134, if_neg (by rw [show (625 : Int32) = nI 625 from rfl, nI_leI (by decide) (by omega)]; omega), if_pos rfl, rv_56_39, an_74, og_ix hi (by omega), nI_clamp (by omega)]
    by_cases c : g.1 74 i = nI e
    · have c0 := (MI_m1 he Mg).2.mp c
      have ok : stOk v i := by
        rcases L i hi with w | ⟨l, _, _, w, _⟩
        · have : (nI e = -1) = False := n_m1 (by omega)
          rw [← c0, w.1] at this
          simp at this
        · exact Tr_ok hn so l i w
      obtain ⟨fl', h2, e2, K2, M2, X2, D2⟩ := e_b165 (x1 := x1) (x2 := x2) (x3 := -1) (f_X12_bring_134 q fu) hn n0 so ok he ⟨hi, c0⟩ Kg Mg
      rw [if_pos c, e2, nI_1]
      refine Kx (fl', h2) ⟨K2, M2, fun st G k a w g0 hG hk => ?_⟩
      by_cases d : st = i
      · subst d
        exact D2 G k g0 hG hk
      · exact X2 _ (Dn st G k (by omega) w g0 hG hk)
    · rw [if_neg c]
      unfold f_X12_bring_209
      rw [nm_id, nI_1]
      refine Kx (b, g) ⟨Kg, Mg, fun st G k a w g0 hG hk => ?_⟩
      by_cases d : st = i
      · subst d
        exact absurd ((MI_m1 he Mg).2.mpr w) c
      · exact Dn st G k (by omega) w g0 hG hk
def fB (T : Nat → Int32) (e p : Nat) (x : Int32) : Nat → Bool
  | 0 => false
  | k + 1 => fB T e p x k || (decide (T k = nI e) && decide (hq k p = x))
theorem fB_t {T : Nat → Int32} {e p : Nat} {x : Int32} : ∀ k, fB T e p x k = true ↔ ∃ c, c < k ∧ T c = nI e ∧ hq c p = x := by
  intro k
  induction k with
  | zero => exact ⟨fun w => absurd (show false = true from w) (by decide), fun ⟨c, w, _⟩ => absurd w (by omega)⟩
  | succ k ih =>
    rw [fB, Bool.or_eq_true, ih, Bool.and_eq_true, decide_eq_true_eq, decide_eq_true_eq]
    constructor
    · rintro (⟨c, a, b⟩ | ⟨a, b⟩)
      · exact ⟨c, by omega, b⟩
      · exact ⟨k, by omega, a, b⟩
    · rintro ⟨c, a, b⟩
      by_cases e : c = k
      · subst e
        exact Or.inr b
      · exact Or.inl ⟨c, by omega, b⟩
theorem e_b91 {e p : Nat} {x : Int32} {h : AH} (q : Nat → Int32 → Int32 → Int32 → Int32 → Int32 → AH → Option (Int32 × AH)) (hp : p < 4) : f_X12_bring_91 q FU 56 (nI p) x (-1) 0 (nI e) 0 h = f_X12_bring_134 q FU 56 (nI p) x (if fB (h.1 74) e p x 625 = true then nI e else -1) 0 (nI e) 0 h := by
  refine lp (fun fu i (s : Int32) => f_X12_bring_91 q fu 56 (nI p) x s 0 (nI e) (nI i) h = f_X12_bring_134 q FU 56 (nI p) x (if fB (h.1 74) e p x 625 = true then nI e else -1) 0 (nI e) 0 h) (fun i s => s = if fB (h.1 74) e p x i = true then nI e else -1) 625 (by decide) ?_ ?_ rfl
  · intro fu s hs
    have hs : s = (if fB (h.1 74) e p x 625 = true then nI e else -1) := hs
    rw [hs, f_X12_bring_91, if_pos (by decide)]
  · intro fu i s hi hs K
    have hs : s = (if fB (h.1 74) e p x i = true then nI e else -1) := hs
    subst hs
    rw [fB] at K
    rw [f_X12_bring_91, if_neg (by rw [show (625 : Int32) = nI 625 from rfl, nI_leI (by decide) (by omega)]; omega), rv_56_39, an_74, og_ix hi (by omega), nI_clamp (by omega)]
    unfold f_X12_bring_125
    simp only [nm_id, nI_1]
    by_cases c : h.1 74 i = nI e
    · rw [if_pos c, hadBy_5 hp h i hi, ob_some]
      by_cases d : hq i p = x
      · rw [if_pos d]
        exact K _ (by rw [decide_eq_true c, decide_eq_true d]; simp)
      · rw [if_neg d]
        exact K _ (by rw [decide_eq_false d]; simp)
    · rw [if_neg c]
      exact K _ (by rw [decide_eq_false c]; simp)
theorem LI_next {v : Wd} {e : Nat} {T0 T : Nat → Int32} {fl : Bool} (hn : v.n ≤ 4) (so : SOk v.n v.has v.pl v.wo) (he : e < 1000) (L : LI v e T0) (M : MI v T0 e T fl) (Dn : ∀ st G k, st < 625 → T0 st = nI e → 0 < G → G < 2 ^ v.n → k < nW G → T (nx v st G k) ≠ -1) : LI v (e + 1) T := by
  have p5 := q5_le hn
  have lv : ∀ st, st < 625 → T0 st = nI e → Tr v e st := by
    intro st hs w
    rcases L st hs with a | ⟨l, l1, l2, l3, _⟩
    · have : (nI e = -1) = False := n_m1 (by omega)
      rw [← w, a.1] at this
      simp at this
    · exact Tr_le l3 l1
  intro c hc
  rcases M.1 c with q | ⟨q1, q2, st, G, k, ⟨s1, s2⟩, w, rfl⟩
  · rcases L c hc with ⟨a, b⟩ | ⟨l, l1, l2, l3, l4⟩
    · refine Or.inl ⟨by rw [q, a], ?_⟩
      rintro (w | ⟨st, G, k, w1, ⟨g0, hG, hk⟩, rfl⟩)
      · exact b w
      · have os := (Tr_ok hn so e st w1).1
        rcases L st (by omega) with z | ⟨l, l1, l2, l3, l4⟩
        · exact z.2 w1
        · by_cases le : l = e
          · subst le
            exact Dn st G k (by omega) l2 g0 hG hk (by rw [q, a])
          · exact b (Tr_le (e := l + 1) (Or.inr ⟨st, G, k, l3, ⟨g0, hG, hk⟩, rfl⟩) (by omega))
    · exact Or.inr ⟨l, by omega, by rw [q, l2], l3, l4⟩
  · refine Or.inr ⟨e + 1, Nat.le_refl _, q2, Or.inr ⟨st, G, k, lv st s1 s2, w, rfl⟩, fun l' hl t => ?_⟩
    rcases L _ hc with z | ⟨l, _, l2, _⟩
    · exact z.2 (Tr_le t (by omega))
    · have : (nI l = -1) = False := n_m1 (by omega)
      rw [← l2, q1] at this
      simp at this
theorem LI_bound {v : Wd} {e : Nat} {T : Nat → Int32} (L : LI v e T) {c l : Nat} (hc : c < 625) (hl : l < 1000) (he : e < 1000) (w : T c = nI l) : Tr v l c := by
  rcases L c hc with a | ⟨l', l1, l2, l3, _⟩
  · have : (nI l = -1) = False := n_m1 (by omega)
    rw [← w, a.1] at this
    simp at this
  · rw [w, nI_eq (by omega) (by omega)] at l2
    rw [l2]
    exact l3
theorem e_b75 {v : Wd} {p : Nat} {x : Int32} (hn : v.n ≤ 4) (n0 : v.n ≠ 0) (so : SOk v.n v.has v.pl v.wo) (hp : p < v.n) : ∀ fu e h, 627 ≤ fu + nT (mkd (h.1 74)) 625 → KM v h → LI v e (h.1 74) → e < nT (mkd (h.1 74)) 625 → (∀ e', e' < e → ∀ st, Tr v e' st → hq st p ≠ x) → ∃ r h', f_X12_bring_75 fu 56 (nI p) x (-1) 1 (nI e) h = some (r, h') ∧ Ans v p x r ∧ ∀ q, q < v.n → h'.1 62 q = v.has q ∧ h'.1 63 q = v.pl q := by
  have p5 := q5_le hn
  intro fu
  induction fu with
  | zero =>
    intro e h hf
    have := nT_le (mkd (h.1 74)) 625
    omega
  | succ fu ih =>
    intro e h hf K L en NG
    have nl := nT_le (mkd (h.1 74)) 625
    have he : e < 1000 := by omega
    -- a call whose flag is 0
    have stop : ∀ fu' y z h', 0 < fu' → KM v h' → ∃ h2, f_X12_bring_75 fu' 56 (nI p) x y 0 z h' = some (y, h2) ∧ ∀ q, q < v.n → h2.1 62 q = v.has q ∧ h2.1 63 q = v.pl q := by
      intro fu' y z h' hf' K'
      obtain ⟨fu', rfl⟩ : ∃ k, fu' = k + 1 := ⟨fu' - 1, by omega⟩
      obtain ⟨h2, e2, f2⟩ := e_putBack K'
      rw [f_X12_bring_75, if_pos rfl]
      unfold f_X12_bring_221
      rw [e2, ov_some]
      exact ⟨h2, rfl, f2⟩
    have fu0 : 0 < fu := by omega
    rw [f_X12_bring_75, if_neg (by decide), if_pos rfl, e_b91 _ (by omega)]
    by_cases fd : fB (h.1 74) e p x 625 = true
    · rw [if_pos fd]
      obtain ⟨c, hc, c1, c2⟩ := (fB_t 625).mp fd
      obtain ⟨h2, e2, f2⟩ := stop fu (nI e) (nI e + 1) h fu0 K
      refine ⟨nI e, h2, ?_, Or.inl ⟨e, rfl, ⟨c, LI_bound L hc (by omega) he c1, c2⟩, NG⟩, f2⟩
      obtain ⟨f, hF⟩ : ∃ f, FU = f + 1 := ⟨4095, rfl⟩
      rw [hF, f_X12_bring_134, if_neg (by decide), if_neg (by rw [n_m1 (by omega)]; exact id)]
      unfold f_X12_bring_215
      rw [nm_id]
      exact e2
    · rw [if_neg fd]
      have NG' : ∀ e', e' < e + 1 → ∀ st, Tr v e' st → hq st p ≠ x := by
        intro e' he' st t w
        by_cases ee : e' = e
        · subst ee
          have os := (Tr_ok hn so e' st t).1
          rcases L st (by omega) with z | ⟨l, l1, l2, l3, _⟩
          · exact z.2 t
          · by_cases le : l = e'
            · subst le
              exact fd ((fB_t 625).mpr ⟨st, by omega, l2, w⟩)
            · exact NG l (by omega) st l3 w
        · exact NG e' (by omega) st t w
      obtain ⟨fl, h2, e2, K2, M2, D2⟩ := e_b134 (x1 := nI p) (x2 := x) (f_X12_bring_75 fu) hn n0 so he L K
      have L2 := LI_next hn so he L M2 D2
      rw [e2]
      cases fl with
      | false =>
        obtain ⟨h3, e3, f3⟩ := stop fu (-1) (nI (e + 1)) h2 fu0 K2
        refine ⟨-1, h3, e3, Or.inr ⟨rfl, fun e' st t w => ?_⟩, f3⟩
        have eT := M2.2.1 rfl
        rw [eT] at L2
        have cl : ∀ st, Tr v (e + 1) st → Tr v e st := by
          intro st t
          have os := (Tr_ok hn so (e + 1) st t).1
          rcases L st (by omega) with z | ⟨l, l1, l2, l3, _⟩
          · rcases L2 st (by omega) with z2 | ⟨l', _, l2', _⟩
            · exact absurd t z2.2
            · have : (nI l' = -1) = False := n_m1 (by omega)
              rw [← l2', z.1] at this
              simp at this
          · exact Tr_le l3 l1
        have t2 : Tr v e st := Tr_cl cl e' st (Tr_le t (by omega))
        exact NG' e (by omega) st t2 w
      | true =>
        have gr : nT (mkd (h.1 74)) 625 < nT (mkd (h2.1 74)) 625 := by
          obtain ⟨c, c1, c2, c3⟩ := M2.2.2 rfl
          refine nT_lt (c := c) (by unfold mkd; rw [c2]; decide) (by unfold mkd; exact decide_eq_true c3) 625 c1 (fun x hx w => ?_)
          unfold mkd at w ⊢
          rw [decide_eq_true_eq] at w ⊢
          intro z
          exact w ((MI_m1 he M2).1 z)
        exact ih (e + 1) h2 (by omega) K2 L2 (by omega) NG'
theorem bring_M {v : Wd} {p : Nat} {x : Int32} {h : AH} (hn : v.n ≤ 4) (n0 : v.n ≠ 0) (hp : p < v.n) (hx : knB (nI v.n) x = true) (B : mB v h) : ∃ r h', f_X12_bring 56 (nI p) x h = some (r, h') ∧ Ans v p x r ∧ ∀ q, q < v.n → h'.1 62 q = v.has q ∧ h'.1 63 q = v.pl q := by
  have so := B.2.1
  have hn6 : v.n ≤ 6 := by omega
  have p5 := q5_le hn
  have s0 := (st0_ok hn so).1
  have a0 : Agr ((56, 0) :: []) h (sI h 56 0 0) := agr_sI (agr_refl h) rfl
  have B0 := mB_agr a0 rfl B
  obtain ⟨h1, e1, K1⟩ := e_keep B0
  have A1 : Agr W_X12_keepHaving_i56 (sI h 56 0 0) h1 := w_f_X12_keepHaving_i56 _ _ e1
  have B1 := mB_agr A1 rfl B0
  have kp : knB (nI v.n) (nI p) = true := (knB_iff (by omega)).mpr ⟨p, hp, rfl⟩
  unfold f_X12_bring
  rw [nm_id, B0.mn, if_neg (by rw [show (4 : Int32) = nI 4 from rfl, nI_ltI (by decide) (by omega)]; omega), e_X12_isPerson, B0.mn, kp, ob_some, zi, if_pos rfl, e_X12_isPerson, B0.mn, hx, ob_some, zi, if_pos rfl, e1, ov_some]
  refine lp (fun fu i g => ∃ r h', f_X12_bring_37 fu 56 (nI p) x (nI i) g = some (r, h') ∧ Ans v p x r ∧ ∀ q, q < v.n → h'.1 62 q = v.has q ∧ h'.1 63 q = v.pl q) (fun i g => Agr ((74, 1000) :: []) h1 g ∧ ∀ c, c < i → g.1 74 c = -1) 625 (by decide) ?_ ?_ ⟨agr_refl h1, fun c hc => absurd hc (by omega)⟩
  · rintro fu g ⟨A, g1⟩
    have Kg := KM_agr A rfl K1
    have Bg := mB_agr A rfl B1
    have en : f_X12_havingNow 56 g = some (nI (st0 v), g) := e_now (f := fun p => tkN (v.has p)) hn6 Kg.mn (fun q hq' => by rw [(Bg.2.2.2 q hq').1, (has_e hn so hq').1])
    rw [f_X12_bring_37, if_pos (by decide), en, ob_some, rv_56_39, an_74, og_ix (by omega) (by omega), nm_id, nI_clamp (by omega)]
    have s1 : ∀ c, c < 625 → (sI g 74 (st0 v) 0).1 74 c = if c = st0 v then 0 else -1 := by
      intro c hc
      by_cases d : c = st0 v
      · rw [if_pos d, d, sI_s]
      · rw [if_neg d, sI_n (Or.inr d), g1 c hc]
    have m0 : 0 < nT (mkd ((sI g 74 (st0 v) 0).1 74)) 625 := by
      have z : ∀ k, nT (fun _ => false) k = 0 := by
        intro k
        induction k with
        | zero => rfl
        | succ k ih => rw [nT, if_neg (by decide), ih]
      have := nT_lt (b := fun _ => false) (b' := mkd ((sI g 74 (st0 v) 0).1 74)) (c := st0 v) rfl (by unfold mkd; rw [s1 _ (by omega), if_pos rfl]; decide) 625 (by omega) (fun _ _ w => absurd w (by decide))
      rw [z] at this
      exact this
    refine e_b75 hn n0 so hp FU 0 (sI g 74 (st0 v) 0) (by unfold FU; omega) (KM_agr (W := (74, 1000) :: []) (agr_sI (agr_refl g) rfl) rfl Kg) (fun c hc => ?_) m0 (fun e' w => absurd w (by omega))
    rw [s1 c hc]
    by_cases d : c = st0 v
    · rw [if_pos d]
      exact Or.inr ⟨0, Nat.le_refl _, rfl, d, fun l' w => absurd w (by omega)⟩
    · rw [if_neg d]
      exact Or.inl ⟨rfl, d⟩
  · rintro fu i g hi ⟨A, g1⟩ Kx
    rw [f_X12_bring_37, if_neg (by rw [show (625 : Int32) = nI 625 from rfl, nI_leI (by decide) (by omega)]; omega), rv_56_39, an_74, og_ix hi (by omega), nm_id, nm_id, nI_1, nI_clamp (by omega)]
    refine Kx _ ⟨agr_sI A rfl, fun c hc => ?_⟩
    by_cases d : c = i
    · subst d
      exact sI_s ..
    · rw [sI_n (Or.inr d)]
      exact g1 c (by omega)
/-! the class's search -/
theorem nT_add {b : Nat → Bool} {c : Nat} (hb : b c = false) : ∀ k, nT (fun y => b y || decide (y = c)) k = if c < k then nT b k + 1 else nT b k := by
  intro k
  induction k with
  | zero => rfl
  | succ k ih =>
    rw [nT, nT, ih]
    by_cases e : k = c
    · subst e
      rw [if_pos (show (b k || decide (k = k)) = true by simp), if_neg (show ¬ k < k by omega), if_pos (show k < k + 1 by omega), if_neg (show ¬ b k = true by rw [hb]; decide)]
    · by_cases d : b k = true
      · rw [if_pos (by rw [d]; rfl), if_pos d]
        by_cases l : c < k
        · rw [if_pos l, if_pos (by omega)]
        · rw [if_neg l, if_neg (by omega)]
      · rw [if_neg (by rw [Bool.eq_false_iff.mpr d, decide_eq_false e]; decide), if_neg d]
        by_cases l : c < k
        · rw [if_pos l, if_pos (by omega)]
        · rw [if_neg l, if_neg (by omega)]
theorem nT_tr : ∀ k, nT (fun _ => true) k = k := by
  intro k
  induction k with
  | zero => rfl
  | succ k ih => rw [nT, if_pos rfl, ih]
def QI (q : Nat → Nat) (b : Nat → Bool) (l : Nat → Nat) (h : AH) : Prop := h.1 51 8 = nI (nT b 625) ∧ (∀ i, i < nT b 625 → q i < 625 ∧ b (q i) = true ∧ h.1 55 i = nI (q i)) ∧ (∀ c, c < 625 → b c = true → ∃ i, i < nT b 625 ∧ q i = c) ∧ ∀ c, c < 625 → h.1 54 c = if b c = true then nI (l c) else -1
def vld (v : Wd) (G k : Nat) : Prop := 0 < G ∧ G < 2 ^ v.n ∧ k < nW G
def core (v : Wd) (p : Nat) (x : Int32) (t : Nat) (q : Nat → Nat) (b : Nat → Bool) (l : Nat → Nat) (h : AH) : Prop := QI q b l h ∧ (∀ c, c < 625 → b c = true → Tr v (l c) c) ∧ (∀ i j, i ≤ j → j < nT b 625 → l (q i) ≤ l (q j)) ∧ (∀ i, i < nT b 625 → l (q i) ≤ i) ∧ (∀ i, i < t → i < nT b 625 → ∀ G k, vld v G k → b (nx v (q i) G k) = true ∧ l (nx v (q i) G k) ≤ l (q i) + 1) ∧ (∀ i, i < t → i < nT b 625 → hq (q i) p ≠ x) ∧ b (st0 v) = true ∧ l (st0 v) = 0
def HB (v : Wd) (p : Nat) (x : Int32) (t : Nat) (h : AH) : Prop := ∃ q b l, core v p x t q b l h ∧ t ≤ nT b 625 ∧ (t < nT b 625 → ∀ i, i < nT b 625 → l (q i) ≤ l (q t) + 1)
def SB (v : Wd) (p : Nat) (x : Int32) (t s : Nat) (Dn : Nat → Nat → Prop) (h : AH) : Prop := ∃ q b l, core v p x t q b l h ∧ t < nT b 625 ∧ q t = s ∧ (∀ i, i < nT b 625 → l (q i) ≤ l s + 1) ∧ ∀ G k, vld v G k → Dn G k → b (nx v s G k) = true ∧ l (nx v s G k) ≤ l s + 1
theorem SB_agr {W : List (Nat × Nat)} {v : Wd} {p : Nat} {x : Int32} {t s : Nat} {Dn : Nat → Nat → Prop} {h0 h : AH} (a : Agr W h0 h) (d : Wdis W ((51, 8) :: (54, 1000) :: (55, 1000) :: []) = true) (S : SB v p x t s Dn h0) : SB v p x t s Dn h := by
  have e := agr_on a d
  obtain ⟨q, b, l, ⟨Q, c⟩, r⟩ := S
  refine ⟨q, b, l, ⟨?_, c⟩, r⟩
  unfold QI at Q ⊢
  rw [e 51 8 rfl, eqOn_c e 54 (fun _ => rfl), eqOn_c e 55 (fun _ => rfl)]
  exact Q
theorem SB_up {v : Wd} {p : Nat} {x : Int32} {t s : Nat} {Dn Dn' : Nat → Nat → Prop} {h : AH} (S : SB v p x t s Dn h) (w : ∀ G k, vld v G k → Dn' G k → Dn G k) : SB v p x t s Dn' h := by
  obtain ⟨q, b, l, c, r1, r2, r3, r4⟩ := S
  exact ⟨q, b, l, c, r1, r2, r3, fun G k a d => r4 G k a (w G k a d)⟩
theorem e_reach {v : Wd} {p : Nat} {x : Int32} {t s G k : Nat} {Dn : Nat → Nat → Prop} {h : AH} (hn : v.n ≤ 4) (S : SB v p x t s Dn h) (w : vld v G k) : ∃ h', f_X4_reach 51 (nI (nx v s G k)) (h.1 54 s + 1) h = some h' ∧ SB v p x t s (fun G' k' => Dn G' k' ∨ (G' = G ∧ k' = k)) h' := by
  have p5 := q5_le hn
  have cl := nx_lt hn s G k
  obtain ⟨q, b, l, ⟨⟨Q1, Q2, Q3, Q4⟩, c1, c2, c3, c4, c5, c6, c7⟩, r1, r2, r3, r4⟩ := S
  have NL := nT_le b 625
  have hs := (Q2 t r1).1
  have bs := (Q2 t r1).2.1
  rw [r2] at hs bs
  have ls : l s ≤ t := by
    have := c3 t r1
    rw [r2] at this
    exact this
  have e54 : h.1 54 s = nI (l s) := by rw [Q4 s hs, if_pos bs]
  have lb : ∀ c, c < 625 → b c = true → l c < 625 := by
    intro c hc hb
    obtain ⟨i, hi, rfl⟩ := Q3 c hc hb
    have := c3 i hi
    omega
  generalize hc : nx v s G k = c at cl
  have cl6 : c < 625 := by omega
  unfold f_X4_reach f_X4_reach_47
  rw [rv_51_6, an_54, og_ix cl6 (by omega), nI_clamp (by omega), Q4 c cl6, e54, nI_1]
  by_cases hb : b c = true
  · rw [if_pos hb, if_neg (by rw [n_m1 (by have := lb c cl6 hb; omega)]; exact id)]
    refine ⟨h, rfl, q, b, l, ⟨⟨Q1, Q2, Q3, Q4⟩, c1, c2, c3, c4, c5, c6, c7⟩, r1, r2, r3, fun G' k' a d => ?_⟩
    rcases d with d | ⟨d1, d2⟩
    · exact r4 G' k' a d
    · rw [d1, d2, hc]
      refine ⟨hb, ?_⟩
      obtain ⟨i, hi, e⟩ := Q3 c cl6 hb
      rw [← e]
      exact r3 i hi
  · have hbf : b c = false := Bool.eq_false_iff.mpr hb
    have N6 : nT b 625 < 625 := by
      have := nT_lt (b := b) (b' := fun _ => true) hbf rfl 625 cl6 (fun _ _ _ => rfl)
      rw [nT_tr] at this
      exact this
    have N' : nT (fun y => b y || decide (y = c)) 625 = nT b 625 + 1 := by rw [nT_add hbf, if_pos cl6]
    have bt : ∀ y, (b y || decide (y = c)) = true ↔ (b y = true ∨ y = c) := fun y => by rw [Bool.or_eq_true, decide_eq_true_eq]
    have nq : ∀ i, i < nT b 625 → q i ≠ c := by
      intro i hi e
      rw [← e] at hb
      exact hb (Q2 i hi).2.1
    have sc : s ≠ c := fun e => hb (by rw [← e]; exact bs)
    have lk : ∀ y, b y = true → up l c (l s + 1) y = l y := fun y hy => up_n (fun e => hb (by rw [← e]; exact hy))
    have qi : ∀ i, i < nT b 625 → up q (nT b 625) c i = q i := fun i hi => up_n (by omega)
    rw [if_neg hb, if_pos rfl, Q1, if_neg (by rw [show (625 : Int32) = nI 625 from rfl, nI_leI (by decide) (by omega)]; omega), og_ix cl6 (by omega), nm_id, sI_n (Or.inl (by decide)), Q1, rv_51_7, an_55, og_ix N6 (by omega), nm_id, sI_n (Or.inl (by decide)), sI_n (Or.inl (by decide)), Q1, nI_clamp (by omega), nI_1, nm_id]
    refine ⟨_, rfl, up q (nT b 625) c, fun y => b y || decide (y = c), up l c (l s + 1), ⟨⟨?_, fun i hi => ?_, fun y hy hby => ?_, fun y hy => ?_⟩, fun y hy hby => ?_, fun i j hij hj => ?_, fun i hi => ?_, fun i hi hi' G' k' a => ?_, fun i hi hi' => ?_, ?_, ?_⟩, ?_, ?_, fun i hi => ?_, fun G' k' a d => ?_⟩
    · rw [N', sI_s]
    · rw [N'] at hi
      rw [sI_n (Or.inl (by decide))]
      by_cases e : i = nT b 625
      · subst e
        rw [up_p, sI_s]
        exact ⟨cl6, (bt c).mpr (Or.inr rfl), rfl⟩
      · have hi' : i < nT b 625 := by omega
        rw [qi i hi', sI_n (Or.inr e), sI_n (Or.inl (by decide))]
        exact ⟨(Q2 i hi').1, (bt _).mpr (Or.inl (Q2 i hi').2.1), (Q2 i hi').2.2⟩
    · rw [N']
      rcases (bt y).mp hby with z | z
      · obtain ⟨i, hi, e⟩ := Q3 y hy z
        exact ⟨i, by omega, by rw [qi i hi, e]⟩
      · exact ⟨nT b 625, by omega, by rw [up_p, z]⟩
    · rw [sI_n (Or.inl (by decide)), sI_n (Or.inl (by decide))]
      by_cases e : y = c
      · rw [e, sI_s, if_pos ((bt c).mpr (Or.inr rfl)), up_p]
      · rw [sI_n (Or.inr e), Q4 y hy, up_n e]
        show _ = if (b y || decide (y = c)) = true then nI (l y) else -1
        rw [decide_eq_false e, Bool.or_false]
    · rcases (bt y).mp hby with z | z
      · rw [lk y z]
        exact c1 y hy z
      · rw [z, up_p, ← hc]
        exact Or.inr ⟨s, G, k, c1 s hs bs, w, rfl⟩
    · rw [N'] at hj
      by_cases e : j = nT b 625
      · by_cases e2 : i = nT b 625
        · rw [e, e2]
          exact Nat.le_refl _
        · have hi : i < nT b 625 := by omega
          rw [e, up_p, qi i hi, lk _ (Q2 i hi).2.1, up_p]
          exact r3 i hi
      · have hj' : j < nT b 625 := by omega
        have hi : i < nT b 625 := by omega
        rw [qi i hi, qi j hj', lk _ (Q2 i hi).2.1, lk _ (Q2 j hj').2.1]
        exact c2 i j hij hj'
    · rw [N'] at hi
      by_cases e : i = nT b 625
      · rw [e, up_p, up_p]
        omega
      · have hi' : i < nT b 625 := by omega
        rw [qi i hi', lk _ (Q2 i hi').2.1]
        exact c3 i hi'
    · have hi2 : i < nT b 625 := by omega
      have z := c4 i hi hi2 G' k' a
      rw [qi i hi2, lk _ (Q2 i hi2).2.1, lk _ z.1]
      exact ⟨(bt _).mpr (Or.inl z.1), z.2⟩
    · have hi2 : i < nT b 625 := by omega
      rw [qi i hi2]
      exact c5 i hi hi2
    · exact (bt _).mpr (Or.inl c6)
    · rw [lk _ c6]
      exact c7
    · rw [N']
      omega
    · rw [qi t r1]
      exact r2
    · rw [N'] at hi
      rw [lk s bs]
      by_cases e : i = nT b 625
      · rw [e, up_p, up_p]
        exact Nat.le_refl _
      · have hi' : i < nT b 625 := by omega
        rw [qi i hi', lk _ (Q2 i hi').2.1]
        exact r3 i hi'
    · rw [lk s bs]
      rcases d with d | ⟨d1, d2⟩
      · have z := r4 G' k' a d
        rw [lk _ z.1]
        exact ⟨(bt _).mpr (Or.inl z.1), z.2⟩
      · rw [d1, d2, hc, up_p]
        exact ⟨(bt _).mpr (Or.inr rfl), Nat.le_refl _⟩
theorem e_spreadC {v : Wd} {p : Nat} {x : Int32} {t s G : Nat} {h : AH} (hn : v.n ≤ 4) (so : SOk v.n v.has v.pl v.wo) (ok : stOk v s) (g0 : 0 < G) (hG : G < 2 ^ v.n) (B : cB v h) (Z : cZ v (fun q => v.it q 3) v.wo h) (S : SB v p x t s (fun G' _ => G' < G) h) : ∃ h', f_X4_spread 51 (nI s) (nI G) h = some h' ∧ cB v h' ∧ cZ v (fun q => v.it q 3) v.wo h' ∧ SB v p x t s (fun G' _ => G' < G + 1) h' := by
  have hn6 : v.n ≤ 6 := by omega
  have h64 := pow_le6 hn6
  have p5 := q5_le hn
  have s5 := ok.1
  obtain ⟨_, _, _, _, w5, _⟩ := W_parts g0 (show G < 64 by omega)
  have dl : door (stW v s) 0 G < 2 ^ v.n := door_lt (stW v s) 0 G
  obtain ⟨h1, e1, I1, a1⟩ := c_first (D := door (stW v s) 0 G) hn6 hG g0 Z
  unfold f_X4_spread
  rw [e_for hn so ok (by omega) B.cn (fun q hq' => (B.2.2.2.2.2.2.2.1 q hq').2.1), ob_some, rv_51_2, e1, ob_some]
  refine lp (fun fu i (y : Int32 × AH) => ∃ h', f_X4_spread_21 fu 51 (nI s) (nI (nW G)) y.1 (nI i) y.2 = some h' ∧ cB v h' ∧ cZ v (fun q => v.it q 3) v.wo h' ∧ SB v p x t s (fun G' _ => G' < G + 1) h') (fun i y => cB v y.2 ∧ cI v (fun q => v.it q 3) v.wo G (door (stW v s) 0 G) i y.1 y.2 ∧ SB v p x t s (fun G' k' => G' < G ∨ (G' = G ∧ k' < i)) y.2) (nW G) (by omega) ?_ ?_ (s := (0, h1)) ⟨cB_agr a1 rfl B, I1, SB_up (SB_agr a1 rfl S) (fun G' k' _ d => by
    rcases d with d | d
    · exact d
    · omega)⟩
  · rintro fu ⟨y, g⟩ ⟨Bg, Ig, Sg⟩
    simp only
    rw [f_X4_spread_21, if_pos (by rw [nI_leI (by omega) (by omega)]; omega)]
    refine ⟨g, rfl, Bg, Ig.1, SB_up Sg (fun G' k' w d => ?_)⟩
    by_cases e : G' = G
    · refine Or.inr ⟨e, ?_⟩
      rw [← e]
      exact w.2.2
    · exact Or.inl (by omega)
  · rintro fu i ⟨y, g⟩ hi ⟨Bg, Ig, Sg⟩ K
    have Bg : cB v g := Bg
    have Ig : cI v (fun q => v.it q 3) v.wo G (door (stW v s) 0 G) i y g := Ig
    have Sg : SB v p x t s (fun G' k' => G' < G ∨ (G' = G ∧ k' < i)) g := Sg
    simp only at K ⊢
    obtain ⟨h3, e3, g3, a3⟩ := c_step hG g0 dl Ig hi
    have eb := e_behind hn hG g0 hi s5 g3
    obtain ⟨h5, e5, S5⟩ := e_reach (k := i) hn (SB_agr a3 rfl Sg) ⟨g0, hG, hi⟩
    have a5 : Agr W_X4_reach_i51 h3 h5 := w_f_X4_reach_i51 _ _ _ _ e5
    obtain ⟨y', h6, e6, I6, a6⟩ := c_nxt hG g0 (cGo_agr a5 rfl g3) hi
    rw [f_X4_spread_21, if_neg (by rw [nI_leI (by omega) (by omega)]; omega), rv_51_2, e3, ov_some, eb, ob_some, rv_51_6, an_54, og_ix (by omega) (by omega), nI_clamp (by omega), e5, ov_some, e6, ob_some, nm_id, nI_1]
    refine K (y', h6) ⟨cB_agr a6 rfl (cB_agr a5 rfl (cB_agr a3 rfl Bg)), I6, SB_up (SB_agr a6 rfl S5) (fun G' k' w d => ?_)⟩
    rcases d with d | ⟨d1, d2⟩
    · exact Or.inl (Or.inl d)
    · by_cases e : k' = i
      · exact Or.inr ⟨d1, e⟩
      · exact Or.inl (Or.inr ⟨d1, by omega⟩)
theorem e_f68 {v : Wd} {p : Nat} {x x1 x2 x3 : Int32} {t s : Nat} {h : AH} (q24 : Nat → Int32 → Int32 → Int32 → AH → Option (Int32 × AH)) (hn : v.n ≤ 4) (so : SOk v.n v.has v.pl v.wo) (ok : stOk v s) (B : cB v h) (Z : cZ v (fun q => v.it q 3) v.wo h) (S : SB v p x t s (fun _ _ => False) h) : ∃ h', f_X4_fewest_68 q24 FU 51 x1 x2 x3 (nI s) 1 h = q24 51 x1 x2 (x3 + 1) h' ∧ cB v h' ∧ cZ v (fun q => v.it q 3) v.wo h' ∧ SB v p x t s (fun _ _ => True) h' := by
  have hn6 : v.n ≤ 6 := by omega
  have h64 := pow_le6 hn6
  have p1 := Nat.two_pow_pos v.n
  refine lp (fun fu i g => ∃ h', f_X4_fewest_68 q24 fu 51 x1 x2 x3 (nI s) (nI (i + 1)) g = q24 51 x1 x2 (x3 + 1) h' ∧ cB v h' ∧ cZ v (fun q => v.it q 3) v.wo h' ∧ SB v p x t s (fun _ _ => True) h') (fun i g => cB v g ∧ cZ v (fun q => v.it q 3) v.wo g ∧ SB v p x t s (fun G' _ => G' < i + 1) g) (2 ^ v.n - 1) (by omega) ?_ ?_ ⟨B, Z, SB_up S (fun G' k' w d => by have := w.1; omega)⟩
  · rintro fu g ⟨Bg, Zg, Sg⟩
    refine ⟨g, ?_, Bg, Zg, SB_up Sg (fun G' k' w _ => by have := w.2.1; omega)⟩
    rw [f_X4_fewest_68, rv_51_0, Bg.cn, shl_n _ (by omega), if_pos (by rw [nI_leI (by omega) (by omega)]; omega), nm_id]
  · rintro fu i g hi ⟨Bg, Zg, Sg⟩ K
    obtain ⟨h2, e2, B2, Z2, S2⟩ := e_spreadC hn so ok (show 0 < i + 1 by omega) (by omega) Bg Zg Sg
    rw [f_X4_fewest_68, rv_51_0, Bg.cn, shl_n _ (by omega), if_neg (by rw [nI_leI (by omega) (by omega)]; omega), e2, ov_some, nm_id, nI_1]
    exact K h2 ⟨B2, Z2, S2⟩
theorem core_all {v : Wd} {p : Nat} {x : Int32} {t : Nat} {q : Nat → Nat} {b : Nat → Bool} {l : Nat → Nat} {h : AH} (hn : v.n ≤ 4) (so : SOk v.n v.has v.pl v.wo) (C : core v p x t q b l h) : ∀ e c, Tr v e c → (∀ j, t ≤ j → j < nT b 625 → e ≤ l (q j)) → b c = true ∧ l c ≤ e := by
  have p5 := q5_le hn
  obtain ⟨⟨Q1, Q2, Q3, Q4⟩, c1, c2, c3, c4, c5, c6, c7⟩ := C
  intro e
  induction e with
  | zero =>
    intro c hc _
    have hc : c = st0 v := hc
    rw [hc, c7]
    exact ⟨c6, Nat.le_refl _⟩
  | succ e ih =>
    intro c hc he
    rcases hc with hc | ⟨s, G, k, hs, w, rfl⟩
    · have := ih c hc (fun j a d => by have := he j a d; omega)
      exact ⟨this.1, by omega⟩
    · have z := ih s hs (fun j a d => by have := he j a d; omega)
      have s5 := (Tr_ok hn so e s hs).1
      obtain ⟨i, hi, rfl⟩ := Q3 s (by omega) z.1
      have it : i < t := by
        refine Decidable.byContradiction (fun n => ?_)
        have := he i (by omega) hi
        omega
      have u := c4 i it hi G k w
      exact ⟨u.1, by omega⟩
theorem e_f24 {v : Wd} {p : Nat} {x : Int32} (hn : v.n ≤ 4) (so : SOk v.n v.has v.pl v.wo) (hp : p < v.n) : ∀ fu t h, 627 ≤ fu + t → cB v h → cZ v (fun q => v.it q 3) v.wo h → HB v p x t h → ∃ r h', f_X4_fewest_24 fu 51 (nI p) x (nI t) h = some (r, h') ∧ Ans v p x r := by
  have p5 := q5_le hn
  intro fu
  induction fu with
  | zero =>
    intro t h hf _ _ H
    obtain ⟨q, b, l, _, H2, _⟩ := H
    have := nT_le b 625
    omega
  | succ fu ih =>
    intro t h hf B Z H
    obtain ⟨q, b, l, C, H2, H3⟩ := H
    have NL := nT_le b 625
    have C' := C
    obtain ⟨⟨Q1, Q2, Q3, Q4⟩, c1, c2, c3, c4, c5, c6, c7⟩ := C'
    have none : t = nT b 625 → Ans v p x (-1) := by
      intro e
      refine Or.inr ⟨rfl, fun e' c tr w => ?_⟩
      have z := core_all hn so C e' c tr (fun j a d => by omega)
      have s5 := (Tr_ok hn so e' c tr).1
      obtain ⟨i, hi, rfl⟩ := Q3 c (by omega) z.1
      exact c5 i (by omega) hi w
    rw [f_X4_fewest_24]
    unfold f_X4_fewest_102
    by_cases t6 : 625 ≤ t
    · rw [if_pos (by rw [show (625 : Int32) = nI 625 from rfl, nI_leI (by decide) (by omega)]; exact t6)]
      exact ⟨_, _, rfl, none (by omega)⟩
    · rw [if_neg (by rw [show (625 : Int32) = nI 625 from rfl, nI_leI (by decide) (by omega)]; exact t6), Q1]
      by_cases tN : nT b 625 ≤ t
      · rw [if_pos (by rw [nI_leI (by omega) (by omega)]; exact tN)]
        exact ⟨_, _, rfl, none (by omega)⟩
      · have tl : t < nT b 625 := by omega
        have qt := Q2 t tl
        have ok := Tr_ok hn so _ _ (c1 (q t) qt.1 qt.2.1)
        rw [if_neg (by rw [nI_leI (by omega) (by omega)]; exact tN), rv_51_7, an_55, og_ix (by omega) (by omega), nm_id, nI_clamp (by omega), qt.2.2, e_pairIn qt.1 (by omega), ob_some]
        by_cases g : hq (q t) p = x
        · rw [if_pos g, rv_51_6, an_54, og_ix qt.1 (by omega), nI_clamp (by omega), Q4 _ qt.1, if_pos qt.2.1]
          refine ⟨_, _, rfl, Or.inl ⟨l (q t), rfl, ⟨q t, c1 _ qt.1 qt.2.1, g⟩, fun e' he' st tr w => ?_⟩⟩
          have z := core_all hn so C e' st tr (fun j a d => by have := c2 t j a d; omega)
          have s5 := (Tr_ok hn so e' st tr).1
          obtain ⟨i, hi, rfl⟩ := Q3 st (by omega) z.1
          have it : i < t := by
            refine Decidable.byContradiction (fun n => ?_)
            have := c2 t i (by omega) hi
            omega
          exact c5 i it hi w
        · have S : SB v p x t (q t) (fun _ _ => False) h := ⟨q, b, l, C, tl, rfl, H3 tl, fun _ _ _ d => d.elim⟩
          obtain ⟨h2, e2, B2, Z2, S2⟩ := e_f68 (x1 := nI p) (x2 := x) (x3 := nI t) (f_X4_fewest_24 fu) hn so ok B Z S
          rw [if_neg g, e2, nI_1]
          refine ih (t + 1) h2 (by omega) B2 Z2 ?_
          obtain ⟨q', b', l', ⟨Q', d1, d2, d3, d4, d5, d6, d7⟩, r1, r2, r3, r4⟩ := S2
          refine ⟨q', b', l', ⟨Q', d1, d2, d3, fun i hi hi' G k w => ?_, fun i hi hi' => ?_, d6, d7⟩, by omega, fun lt i hi => ?_⟩
          · by_cases e : i = t
            · rw [e, r2]
              exact r4 G k w trivial
            · exact d4 i (by omega) hi' G k w
          · by_cases e : i = t
            · rw [e, r2]
              exact g
            · exact d5 i (by omega) hi'
          · have a := d2 t (t + 1) (by omega) lt
            have c := r3 i hi
            rw [r2] at a
            omega
theorem e_fewest {v : Wd} {p : Nat} {x : Int32} {h : AH} (hn : v.n ≤ 4) (hp : p < v.n) (B : cB v h) (Z : cZ v (fun q => v.it q 3) v.wo h) : ∃ r h', f_X4_fewest 51 (nI p) x h = some (r, h') ∧ Ans v p x r := by
  have so := B.2.2.2.1
  have p5 := q5_le hn
  have s0 := (st0_ok hn so).1
  have s6 : st0 v < 625 := by omega
  obtain ⟨h1, e1, f1, a1⟩ := e_fill (k := 54) (by rw [an_54]; omega) (-1) h
  rw [an_54] at f1
  have a2 : Agr ((51, 8) :: (54, 1000) :: []) h (sI h1 51 8 0) := agr_sI (agr_up a1 rfl) rfl
  have B2 := cB_agr a2 rfl B
  have es : f_X4_stateNow 51 (sI h1 51 8 0) = some (nI (st0 v), sI h1 51 8 0) := e_stNow (f := fun p => tkN (v.has p)) hn B2.cn (fun q hq' => by rw [(B2.2.2.2.2.2.2.2.1 q hq').1, (has_e hn so hq').1])
  unfold f_X4_fewest
  rw [rv_51_6, e1, ov_some, nm_id, es, ob_some]
  have er : f_X4_reach 51 (nI (st0 v)) 0 (sI h1 51 8 0) = some (sI (sI (sI (sI h1 51 8 0) 54 (st0 v) 0) 55 0 (nI (st0 v))) 51 8 1) := by
    unfold f_X4_reach f_X4_reach_47
    rw [rv_51_6, an_54, og_ix s6 (by omega), nI_clamp (by omega), sI_n (Or.inl (by decide)), f1 _ s6, if_pos rfl, sI_s, if_neg (by decide), og_ix s6 (by omega), nm_id, sI_n (Or.inl (by decide)), sI_s, rv_51_7, an_55, og_t (by decide), nm_id, sI_n (Or.inl (by decide)), sI_n (Or.inl (by decide)), sI_s, nm_id]
    rfl
  rw [er, ov_some]
  have a3 : Agr ((51, 8) :: (54, 1000) :: (55, 1000) :: []) h (sI (sI (sI (sI h1 51 8 0) 54 (st0 v) 0) 55 0 (nI (st0 v))) 51 8 1) := agr_sI (agr_sI (agr_sI (agr_up a2 rfl) rfl) rfl) rfl
  have N1 : nT (fun y => (fun _ => false) y || decide (y = st0 v)) 625 = 1 := by
    have z : ∀ k, nT (fun _ => false) k = 0 := by
      intro k
      induction k with
      | zero => rfl
      | succ k ih => rw [nT, if_neg (by decide), ih]
    rw [nT_add rfl, if_pos s6, z]
  have N1 : nT (fun y => decide (y = st0 v)) 625 = 1 := by
    rw [← N1]
    congr 1
  have o : 0 < nT (fun y => decide (y = st0 v)) 625 := by omega
  refine e_f24 hn so hp FU 0 _ (by unfold FU; omega) (cB_agr a3 rfl B) (cZ_agr a3 rfl Z) ⟨fun _ => st0 v, fun y => decide (y = st0 v), fun _ => 0, ⟨⟨?_, fun i hi => ?_, fun c hc hb => ⟨0, o, (of_decide_eq_true hb).symm⟩, fun c hc => ?_⟩, fun c hc hb => (show c = st0 v from of_decide_eq_true hb), fun _ _ _ _ => Nat.le_refl _, fun _ _ => Nat.zero_le _, fun i hi => absurd hi (by omega), fun i hi => absurd hi (by omega), decide_eq_true rfl, rfl⟩, Nat.zero_le _, fun _ _ _ => Nat.zero_le _⟩
  · rw [sI_s, N1]
    rfl
  · rw [N1] at hi
    have : i = 0 := by omega
    rw [this, sI_n (Or.inl (by decide)), sI_s]
    exact ⟨s6, decide_eq_true rfl, rfl⟩
  · rw [sI_n (Or.inl (by decide)), sI_n (Or.inl (by decide))]
    by_cases d : c = st0 v
    · rw [d, sI_s, if_pos (decide_eq_true rfl)]
      rfl
    · rw [sI_n (Or.inr d), sI_n (Or.inl (by decide)), f1 c hc, if_neg (show ¬ decide (c = st0 v) = true by rw [decide_eq_false d]; decide)]
/-- the relation, with what was put back -/
theorem rel_back {W : List (Nat × Nat)} {v : Wd} {h0 h : AH} (a : Agr W h0 h) (d : Wdis (wless 62 63 W) ST = true) (f : ∀ q, q < v.n → h.1 62 q = v.has q ∧ h.1 63 q = v.pl q) (R : RelV v h0) : RelV v h := by
  -- a heap whose cells 62 and 63 are those before
  let h' : AH := sA (sA h 62 (h0.1 62)) 63 (h0.1 63)
  have h62 : h'.1 62 = h0.1 62 := by
    funext j
    show (sA (sA h 62 (h0.1 62)) 63 (h0.1 63)).1 62 j = _
    rw [sA_eq, if_neg (by decide), sA_eq, if_pos rfl]
  have h63 : h'.1 63 = h0.1 63 := by
    funext j
    show (sA (sA h 62 (h0.1 62)) 63 (h0.1 63)).1 63 j = _
    rw [sA_eq, if_pos rfl]
  have ho : ∀ k, k ≠ 62 → k ≠ 63 → h'.1 k = h.1 k := by
    intro k k1 k2
    funext j
    show (sA (sA h 62 (h0.1 62)) 63 (h0.1 63)).1 k j = _
    rw [sA_eq, if_neg k2, sA_eq, if_neg k1]
  have E : EqOn ST h0 h' := by
    intro k j hb
    by_cases ka : k = 62
    · rw [ka, h62]
    · by_cases kb : k = 63
      · rw [kb, h63]
      · rw [ho k ka kb]
        refine a.1 k j ?_
        cases hw : Wmem W k j with
        | false => rfl
        | true =>
          obtain ⟨c, hc, rfl, hj⟩ := Wmem_iff.mp hw
          have : Wmem (wless 62 63 W) c.1 j = true := Wmem_iff.mpr ⟨c, List.mem_filter.mpr ⟨hc, by rw [nbeq (fun w => ka w.symm), nbeq (fun w => kb w.symm)]; rfl⟩, rfl, hj⟩
          rw [Wdis_no d hb] at this
          cases this
  have R' := rel_eq E R
  have back : ∀ (A : List (Nat × Nat)), (A.all (fun c => !(Nat.beq c.1 62) && !(Nat.beq c.1 63))) = true → EqOn A h' h := by
    intro A hA k j hk
    obtain ⟨c, hc, rfl, hj⟩ := Wmem_iff.mp hk
    have := List.all_eq_true.mp hA c hc
    rw [Bool.and_eq_true, Bool.not_eq_true', Bool.not_eq_true'] at this
    rw [ho c.1 (fun w => by rw [w] at this; exact absurd this.1 (by decide)) (fun w => by rw [w] at this; exact absurd this.2 (by decide))]
  obtain ⟨R1, R2, R3, R4, R5, R6, R7, R8⟩ := R'
  refine ⟨gT_eq (back _ rfl) R1, gP_eq (back _ rfl) R2, gO_eq (back _ rfl) R3, gR_eq (back _ rfl) R4, ?_, gD_eq (back _ rfl) R6, gG_eq (back _ rfl) R7, gI_eq (back _ rfl) R8⟩
  have e := back ((25, 1000) :: (26, 1000) :: (27, 1000) :: (65, 1000) :: []) rfl
  unfold gS at R5 ⊢
  rw [eqOn_c e 25 (fun _ => rfl), eqOn_c e 26 (fun _ => rfl), eqOn_c e 27 (fun _ => rfl), eqOn_c e 65 (fun _ => rfl)]
  refine ⟨R5.1, fun p hp => ⟨(R5.2.1 p hp).1, (f p hp).1, (f p hp).2, (R5.2.1 p hp).2.2.2⟩, R5.2.2⟩
theorem g26 : G26 Rel := by
  intro h ⟨v, R⟩ a1 a2
  have hn := R.n6
  have R2 := R.thr (x := 0)
  by_cases k1 : knB (nI v.n) a1 = true
  · by_cases k2 : knB (nI v.n) a2 = true
    · by_cases n4 : v.n ≤ 4
      · obtain ⟨p, hp, rfl⟩ := (knB_iff (by omega)).mp k1
        have n0 : v.n ≠ 0 := by omega
        obtain ⟨h3, e3, B3, Z3⟩ := e_opened (R.cB n0)
        obtain ⟨r, h4, e4, A4⟩ := e_fewest (x := a2) n4 hp B3 Z3
        have E1 : f_X11_bring 0 (nI p) a2 h = some (r, h4) := by
          unfold f_X11_bring
          rw [e_X11_isKnown, R.cn, k1, ob_some, zi, if_pos rfl, e_X11_isKnown, R.cn, k2, ob_some, zi, if_pos rfl, rv_0_1, R.cn, if_pos (by rw [show (4 : Int32) = nI 4 from rfl, nI_leI (by omega) (by decide)]; exact n4), rv_0_10, rv_0_6, e3, ov_some, rv_0_14, e4, ob_some]
        have R4 : RelV v h4 := rel_agr (w_f_X11_bring_i0 _ _ _ _ E1) rfl R
        obtain ⟨r', h5, e5, A5, f5⟩ := bring_M (x := a2) n4 n0 hp k2 (R4.mB n0)
        rw [Ans_u A5 A4] at e5
        have W5 : Agr W_X12_bring_i56 h4 h5 := w_f_X12_bring_i56 _ _ _ _ e5
        exact ⟨r, h4, h5, E1, e5, v, rel_back W5 rfl f5 R4⟩
      · refine ⟨-1, h, sI h 56 0 0, ?_, ?_, v, R2⟩
        · unfold f_X11_bring f_X11_bring_27
          rw [e_X11_isKnown, R.cn, k1, ob_some, zi, if_pos rfl, e_X11_isKnown, R.cn, k2, ob_some, zi, if_pos rfl, rv_0_1, R.cn, if_neg (by rw [show (4 : Int32) = nI 4 from rfl, nI_leI (by omega) (by decide)]; exact n4)]
        · unfold f_X12_bring f_X12_bring_29
          rw [nm_id, R2.mn, if_pos (by rw [show (4 : Int32) = nI 4 from rfl, nI_ltI (by decide) (by omega)]; omega)]
    · refine ⟨-1, h, sI h 56 0 0, ?_, ?_, v, R2⟩
      · unfold f_X11_bring f_X11_bring_27
        rw [e_X11_isKnown, R.cn, k1, ob_some, zi, if_pos rfl, e_X11_isKnown, R.cn, ob_some, zi, if_neg k2]
      · unfold f_X12_bring f_X12_bring_29
        rw [nm_id, e_X12_isPerson, R2.mn, k1, ob_some, zi, if_pos rfl, e_X12_isPerson, R2.mn, ob_some, zi, if_neg k2]
        simp
  · refine ⟨-1, h, sI h 56 0 0, ?_, ?_, v, R2⟩
    · unfold f_X11_bring f_X11_bring_27
      rw [e_X11_isKnown, R.cn, ob_some, zi, if_neg k1]
    · unfold f_X12_bring f_X12_bring_29
      rw [nm_id, e_X12_isPerson, R2.mn, ob_some, zi, if_neg k1]
      simp
