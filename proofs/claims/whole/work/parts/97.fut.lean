/-! states of having: numbers to the base five -/
def dg (st p : Nat) : Nat := st / 5 ^ p % 5
def hq (st p : Nat) : Int32 := nI (dg st p) - 1
def enc (f : Nat → Nat) : Nat → Nat
  | 0 => 0
  | n + 1 => enc f n + f n * 5 ^ n
theorem dg_lt (st p : Nat) : dg st p < 5 := Nat.mod_lt _ (by decide)
theorem enc_lt {f : Nat → Nat} : ∀ n, (∀ p, p < n → f p < 5) → enc f n < 5 ^ n := by
  intro n
  induction n with
  | zero => intro _; exact Nat.one_pos
  | succ n ih =>
    intro h
    have a := ih (fun p hp => h p (by omega))
    have b : f n * 5 ^ n ≤ 4 * 5 ^ n := Nat.mul_le_mul_right _ (by have := h n (by omega); omega)
    rw [enc, Nat.pow_succ]
    omega
theorem dg_enc {f : Nat → Nat} : ∀ n, (∀ p, p < n → f p < 5) → ∀ p, p < n → dg (enc f n) p = f p := by
  intro n
  induction n with
  | zero => intro _ p hp; omega
  | succ n ih =>
    intro h p hp
    have a := enc_lt n (fun p hp => h p (by omega))
    have i := ih (fun p hp => h p (by omega))
    rw [enc]
    unfold dg
    by_cases e : p = n
    · subst e
      rw [Nat.add_mul_div_right _ _ (Nat.pow_pos (by decide)), Nat.div_eq_of_lt a, Nat.zero_add]
      exact Nat.mod_eq_of_lt (h p (by omega))
    · have i2 := i p (by omega)
      unfold dg at i2
      have e5 : f n * 5 ^ n = f n * 5 ^ (n - p - 1) * 5 * 5 ^ p := by
        rw [Nat.mul_assoc (f n * 5 ^ (n - p - 1)), ← Nat.pow_succ', Nat.mul_assoc, ← Nat.pow_add]
        congr 2
        omega
      rw [e5, Nat.add_mul_div_right _ _ (Nat.pow_pos (by decide)), Nat.add_mul_mod_self_right]
      exact i2
theorem enc_cong {f g : Nat → Nat} : ∀ n, (∀ p, p < n → f p = g p) → enc f n = enc g n := by
  intro n
  induction n with
  | zero => intro _; rfl
  | succ n ih =>
    intro h
    rw [enc, enc, ih (fun p hp => h p (by omega)), h n (by omega)]
theorem enc_up {f : Nat → Nat} {p d : Nat} : ∀ n, p < n → enc (up f p d) n + f p * 5 ^ p = enc f n + d * 5 ^ p := by
  intro n
  induction n with
  | zero => intro h; omega
  | succ n ih =>
    intro h
    rw [enc, enc]
    by_cases e : p = n
    · subst e
      rw [up_p, enc_cong (g := f) p (fun i hi => up_n (by omega))]
      omega
    · have := ih (by omega)
      rw [up_n (fun w => e w.symm)]
      omega
theorem enc_dg {st : Nat} : ∀ n, st < 5 ^ n → enc (dg st) n = st := by
  have gen : ∀ n, enc (dg st) n = st % 5 ^ n := by
    intro n
    induction n with
    | zero => rw [enc, Nat.pow_zero, Nat.mod_one]
    | succ n ih =>
      rw [enc, ih, Nat.pow_succ, Nat.mod_mul, Nat.mul_comm (dg st n)]
      rfl
  intro n h
  rw [gen, Nat.mod_eq_of_lt h]
theorem hq_c (st p : Nat) : hq st p = -1 ∨ ∃ q, q < 4 ∧ hq st p = nI q ∧ dg st p = q + 1 := by
  have := dg_lt st p
  unfold hq
  rw [nI_sub1]
  by_cases c : dg st p = 0
  · rw [if_pos c]
    exact Or.inl rfl
  · rw [if_neg c]
    exact Or.inr ⟨_, by omega, rfl, by omega⟩
def tkN (x : Int32) : Nat := (x + 1).toNatClampNeg
theorem tkN_e {x : Int32} {n : Nat} (hn : n ≤ 6) (h : x = -1 ∨ ∃ q, q < n ∧ x = nI q) : nI (tkN x) - 1 = x ∧ tkN x ≤ n := by
  unfold tkN
  rcases h with rfl | ⟨q, hq, rfl⟩
  · exact ⟨by decide, Nat.zero_le _⟩
  · rw [nI_1, nI_clamp (by omega), nI_pred]
    exact ⟨rfl, by omega⟩
theorem q5_le {n : Nat} (h : n ≤ 4) : 5 ^ n ≤ 625 := Nat.pow_le_pow_right (n := 5) (by decide) h
theorem sT6 : ∀ p, p < 4 → sT 6 p = nI (5 ^ p) := by decide +kernel
theorem sN6 : sN 6 = 4 := rfl
theorem e_pairIn {st p : Nat} (hs : st < 625) (hp : p < 4) (h : AH) : f_X4_pairIn (nI st) (nI p) h = some (hq st p, h) := by
  have p1 : 0 < 5 ^ p := Nat.pow_pos (by decide)
  have p2 := q5_le (n := p) (by omega)
  have l : st / 5 ^ p ≤ st := Nat.div_le_self ..
  unfold f_X4_pairIn
  rw [sN6, og_ix hp (by omega), nI_clamp (by omega), sT6 p hp, og_t (decide_eq_true (nI_ne0 p1 (by omega))), pk_div (by omega) p1 (by omega), (rem5 (by omega)).1]
  rfl
theorem hadBy_5 {p : Nat} (hp : p < 4) (h : AH) (st : Nat) (hs : st < 625) : f_X12_hadBy 56 (nI st) (nI p) h = some (hq st p, h) := by
  unfold f_X12_hadBy
  refine lp (fun n i (s : Nat) => f_X12_hadBy_5 n (nI p) (nI s) (nI i) h = some (hq st p, h)) (fun i s => s = st / 5 ^ i) p (by omega) ?_ ?_ (s := st) (by rw [Nat.pow_zero, Nat.div_one])
  · rintro n s rfl
    have l : st / 5 ^ p ≤ st := Nat.div_le_self ..
    rw [f_X12_hadBy_5, if_pos (by rw [nI_leI (by omega) (by omega)]; omega), (rem5 (by omega)).1]
    rfl
  · rintro n i s hi rfl K
    have l : st / 5 ^ i ≤ st := Nat.div_le_self ..
    rw [f_X12_hadBy_5, if_neg (by rw [nI_leI (by omega) (by omega)]; omega), nm_id, nm_id, nI_1, (rem5 (by omega)).2]
    exact K _ (by rw [Nat.div_div_eq_div_mul, ← Nat.pow_succ])
theorem m1p (a b : Int32) : (a + (b - 1)) + 1 = a + b := by
  rw [Int32.add_assoc, Int32.sub_add_cancel]
/-- the model reads the state now -/
theorem e_now9 {f : Nat → Nat} {n : Nat} {h : AH} (hn : n ≤ 6) (e : ∀ p, p < n → h.1 62 p = nI (f p) - 1) : ∀ j fu s, j ≤ n → j < fu → s * 5 ^ j + enc f j = enc f n → f_X12_havingNow_9 fu 56 (nI s) (nI j - 1) h = some (nI (enc f n), h) := by
  intro j
  induction j with
  | zero =>
    intro fu s _ hf w
    obtain ⟨fu, rfl⟩ : ∃ k, fu = k + 1 := ⟨fu - 1, by omega⟩
    rw [f_X12_havingNow_9, if_pos (by decide)]
    rw [enc, Nat.pow_zero, Nat.mul_one, Nat.add_zero] at w
    rw [w]
  | succ j ih =>
    intro fu s hj hf w
    obtain ⟨fu, rfl⟩ : ∃ k, fu = k + 1 := ⟨fu - 1, by omega⟩
    rw [nI_pred, f_X12_havingNow_9, if_neg (nI_pos (by omega)), rv_56_22, an_62, og_ix (by omega) (by omega), nI_clamp (by omega), e j (by omega), nm_id, nm_id, m1p, nI_m1', k_mul', nI_add]
    refine ih fu _ (by omega) (by omega) ?_
    rw [← w, enc, Nat.pow_succ, Nat.add_mul, show OfNat.ofNat 5 = 5 from rfl, Nat.mul_assoc, Nat.mul_comm 5]
    omega
theorem e_now {f : Nat → Nat} {n : Nat} {h : AH} (hn : n ≤ 6) (h20 : h.1 56 20 = nI n) (e : ∀ p, p < n → h.1 62 p = nI (f p) - 1) : f_X12_havingNow 56 h = some (nI (enc f n), h) := by
  unfold f_X12_havingNow
  rw [nm_id, h20]
  exact e_now9 hn e n FU 0 (Nat.le_refl _) (by unfold FU; omega) (by rw [Nat.zero_mul, Nat.zero_add])
/-- the class reads it -/
theorem e_stNow {f : Nat → Nat} {n : Nat} {h : AH} (hn : n ≤ 4) (h3 : h.1 3 2 = nI n) (e : ∀ p, p < n → h.1 25 p = nI (f p) - 1) : f_X4_stateNow 51 h = some (nI (enc f n), h) := by
  unfold f_X4_stateNow
  refine lp (fun fu i (s : Int32) => f_X4_stateNow_4 fu 51 s (nI i) h = some (nI (enc f n), h)) (fun i s => s = nI (enc f i)) n (by omega) ?_ ?_ rfl
  · rintro fu s rfl
    rw [f_X4_stateNow_4, rv_51_0, h3, if_pos (by rw [nI_leI (by omega) (by omega)]; omega)]
  · rintro fu i s hi rfl K
    rw [f_X4_stateNow_4, rv_51_0, h3, if_neg (by rw [nI_leI (by omega) (by omega)]; omega), rv_51_1, rv_24_0, an_25, og_ix (by omega) (by omega), sN6, og_ix (by omega) (by omega), nm_id, nm_id, nI_1, nI_clamp (by omega), e i hi, sT6 i (by omega), Int32.sub_add_cancel, pk_mul, nI_add]
    exact K _ rfl
/-- the world of a state -/
def plF (v : Wd) (st q : Nat) : Nat → Int32
  | 0 => if v.pl q ≤ 10 then 10 else v.pl q
  | k + 1 => if hq st k = nI q then nI k else plF v st q k
def stW (v : Wd) (st : Nat) : Wd := (v.1, v.2.1, v.2.2.1, (v.ro, hq st, fun q => plF v st q v.n, v.wo), v.2.2.2.2)
def stOk (v : Wd) (st : Nat) : Prop := st < 5 ^ v.n ∧ (∀ p, p < v.n → hq st p = -1 ∨ ∃ q, q < v.n ∧ hq st p = nI q ∧ v.pl q ≤ 10) ∧ ∀ p p', p < v.n → p' < v.n → hq st p ≠ -1 → hq st p = hq st p' → p = p'
theorem plF_c {v : Wd} {st q : Nat} : ∀ k, (∃ p, p < k ∧ hq st p = nI q ∧ plF v st q k = nI p) ∨ ((∀ p, p < k → hq st p ≠ nI q) ∧ plF v st q k = if v.pl q ≤ 10 then 10 else v.pl q) := by
  intro k
  induction k with
  | zero => exact Or.inr ⟨fun p hp => absurd hp (by omega), rfl⟩
  | succ k ih =>
    rw [plF]
    by_cases c : hq st k = nI q
    · rw [if_pos c]
      exact Or.inl ⟨k, by omega, c, rfl⟩
    · rw [if_neg c]
      rcases ih with ⟨p, a, b, d⟩ | ⟨a, b⟩
      · exact Or.inl ⟨p, by omega, b, d⟩
      · refine Or.inr ⟨fun p hp => ?_, b⟩
        by_cases e : p = k
        · rw [e]
          exact c
        · exact a p (by omega)
theorem le10 {x : Nat} (hx : x < 10) : nI x ≤ 10 := (nI_leI (a := x) (b := 10) (by omega) (by decide)).mpr (by omega)
theorem stW_so {v : Wd} {st : Nat} (hn : v.n ≤ 6) (so : SOk v.n v.has v.pl v.wo) (ok : stOk v st) : SOk (stW v st).n (stW v st).has (stW v st).pl (stW v st).wo := by
  refine ⟨fun p hp => ?_, fun q hq' => ?_, so.2.2⟩
  · have hp : p < v.n := hp
    rcases ok.2.1 p hp with a | ⟨q, hq', a, b⟩
    · exact Or.inl a
    · refine Or.inr ⟨q, hq', a, ?_⟩
      show plF v st q v.n = nI p
      rcases plF_c (v := v) (st := st) (q := q) v.n with ⟨p', c1, c2, c3⟩ | ⟨c1, _⟩
      · rw [c3, ok.2.2 p p' hp c1 (by rw [a, ne_eq, n_m1 (by omega)]; exact id) (by rw [a, c2])]
      · exact absurd a (c1 p hp)
  · have hq' : q < v.n := hq'
    show (∃ p, p < v.n ∧ plF v st q v.n = nI p ∧ hq st p = nI q) ∨ ∃ u, u < 4 ∧ plF v st q v.n = nI (10 + u)
    rcases plF_c (v := v) (st := st) (q := q) v.n with ⟨p', c1, c2, c3⟩ | ⟨c1, c2⟩
    · exact Or.inl ⟨p', c1, c3, c2⟩
    · rw [c2]
      by_cases d : v.pl q ≤ 10
      · rw [if_pos d]
        exact Or.inr ⟨0, by omega, rfl⟩
      · rw [if_neg d]
        rcases so.2.1 q hq' with ⟨p, hp, a, _⟩ | a
        · rw [a] at d
          exact absurd (le10 (by omega)) d
        · exact Or.inr a
theorem stW_tb {v : Wd} {st G q : Nat} (hn : v.n ≤ 6) (hG : G < 64) (so : SOk v.n v.has v.pl v.wo) (ok : stOk v st) (hq' : q < v.n) : (door (stW v st) 0 G).testBit q = true ↔ (v.pl q ≤ 10 ∧ ∀ p, p < v.n → hq st p = nI q → G.testBit p = true) := by
  rw [door_tb (v := stW v st) hn hG (stW_so hn so ok) (by omega) hq']
  show ((∃ p, p < v.n ∧ plF v st q v.n = nI p ∧ G.testBit p = true) ∨ plF v st q v.n = nI (10 + 0)) ↔ _
  rcases plF_c (v := v) (st := st) (q := q) v.n with ⟨p', c1, c2, c3⟩ | ⟨c1, c2⟩
  · have pl : v.pl q ≤ 10 := by
      rcases ok.2.1 p' c1 with a | ⟨q', hq2, a, b⟩
      · rw [c2, n_m1 (by omega)] at a
        exact a.elim
      · rw [c2, nI_eq (by omega) (by omega)] at a
        rw [a]
        exact b
    rw [c3]
    constructor
    · rintro (⟨p, hp, e, b⟩ | e)
      · rw [nI_eq (by omega) (by omega)] at e
        refine ⟨pl, fun p2 hp2 e2 => ?_⟩
        rw [ok.2.2 p2 p' hp2 c1 (by rw [e2, ne_eq, n_m1 (by omega)]; exact id) (by rw [e2, c2]), e]
        exact b
      · rw [nI_eq (by omega) (by omega)] at e
        omega
    · rintro ⟨_, b⟩
      exact Or.inl ⟨p', c1, rfl, b p' c1 c2⟩
  · rw [c2]
    constructor
    · intro o
      refine ⟨?_, fun p hp e => absurd e (c1 p hp)⟩
      refine Decidable.byContradiction (fun d => ?_)
      rw [if_neg d] at o
      rcases o with ⟨p, hp, e, _⟩ | e
      · rw [e] at d
        exact d (le10 (by omega))
      · rw [e] at d
        exact d (by decide)
    · rintro ⟨b, _⟩
      rw [if_pos b]
      exact Or.inr rfl
/-- the state behind a way -/
def tkW (v : Wd) (st G k p : Nat) : Int32 := tkP v (fun q => v.it q 3) v.wo (rw_ G k) (pc G) (door (stW v st) 0 G) p
def nd (v : Wd) (st G k p : Nat) : Nat := if G.testBit p = true then tkN (tkW v st G k p) else dg st p
def nx (v : Wd) (st G k : Nat) : Nat := enc (nd v st G k) v.n
theorem nd_lt {v : Wd} (hn : v.n ≤ 4) (st G k p : Nat) : nd v st G k p < 5 := by
  unfold nd
  split
  · have := (tkN_e (n := v.n) (by omega) (tkP_c (v := v) (sz := fun q => v.it q 3) (wo := v.wo) (row := rw_ G k) (m := pc G) (D := door (stW v st) 0 G) (p := p))).2
    unfold tkW
    omega
  · exact dg_lt _ _
theorem nx_lt {v : Wd} (hn : v.n ≤ 4) (st G k : Nat) : nx v st G k < 5 ^ v.n := enc_lt _ (fun p _ => nd_lt hn st G k p)
theorem nx_hq {v : Wd} (hn : v.n ≤ 4) {st G k p : Nat} (hp : p < v.n) : hq (nx v st G k) p = if G.testBit p = true then tkW v st G k p else hq st p := by
  unfold hq nx
  rw [dg_enc v.n (fun p _ => nd_lt hn st G k p) p hp]
  unfold nd
  split
  · exact (tkN_e (n := v.n) (by omega) (tkP_c (v := v) (sz := fun q => v.it q 3) (wo := v.wo) (row := rw_ G k) (m := pc G) (D := door (stW v st) 0 G) (p := p))).1
  · rfl
theorem pk_W {v : Wd} {st : Nat} {sz wo : Nat → Nat} {p D : Nat} : pk (stW v st) sz wo p D = pk v sz wo p D := rfl
theorem stS_W {v : Wd} {st : Nat} {sz wo : Nat → Nat} {row : Nat → Nat} {D : Nat} : ∀ j, stS (stW v st) sz wo row D j = stS v sz wo row D j := by
  intro j
  induction j with
  | zero => rfl
  | succ j ih => rw [stS, stS, ih, pk_W]
theorem tkS_W {v : Wd} {st : Nat} {sz wo : Nat → Nat} {row : Nat → Nat} {D j : Nat} : tkS (stW v st) sz wo row D j = tkS v sz wo row D j := by
  unfold tkS
  rw [stS_W, pk_W]
theorem nx_ev {v : Wd} (hn : v.n ≤ 4) {st G k p : Nat} (hp : p < v.n) : hq (nx v st G k) p = (evS (stW v st) 0 G (rw_ G k)).has p := by
  rw [nx_hq hn hp]
  show _ = (if G.testBit p = true then evT (stW v st) 0 G (rw_ G k) (fnd (rw_ G k) p (pc G)) else hq st p)
  by_cases c : G.testBit p = true
  · rw [if_pos c, if_pos c]
    unfold tkW tkP evT
    rw [tkS_W]
    rfl
  · rw [if_neg c, if_neg c]
theorem nx_ok {v : Wd} (hn : v.n ≤ 4) {st G k : Nat} (so : SOk v.n v.has v.pl v.wo) (ok : stOk v st) (hG : G < 2 ^ v.n) (g0 : 0 < G) (hk : k < nW G) : stOk v (nx v st G k) := by
  have hn6 : v.n ≤ 6 := by omega
  have h64 := pow_le6 hn6
  have r := W_row hn6 hG g0 hk
  have ev := evS_so (v := stW v st) (u := 0) (G := G) (row := rw_ G k) hn6 (by omega) (stW_so hn6 so ok) (by omega) r
  have hh : ∀ p, p < v.n → hq (nx v st G k) p = (evS (stW v st) 0 G (rw_ G k)).has p := fun p hp => nx_ev hn hp
  have inj : ∀ p q, p < v.n → q < v.n → hq (nx v st G k) p = nI q → (evS (stW v st) 0 G (rw_ G k)).pl q = nI p := by
    intro p q hp hq' e
    rcases ev.1 p hp with a | ⟨q2, h2, a, b⟩
    · rw [← hh p hp, e, n_m1 (by omega)] at a
      exact a.elim
    · have h2 : q2 < v.n := h2
      rw [← hh p hp, e, nI_eq (by omega) (by omega)] at a
      rw [a]
      exact b
  have c : ∀ p, p < v.n → hq (nx v st G k) p = -1 ∨ ∃ q, q < v.n ∧ hq (nx v st G k) p = nI q ∧ v.pl q ≤ 10 := by
    intro p hp
    rw [nx_hq hn hp]
    by_cases g : G.testBit p = true
    · rw [if_pos g]
      obtain ⟨j, hj, rfl⟩ := r.2.2 p g
      have e : tkW v st G k (rw_ G k j) = tkS v (fun q => v.it q 3) v.wo (rw_ G k) (door (stW v st) 0 G) j := tkP_j r.1 hj
      rw [e]
      rcases pk_c (v := v) (sz := fun q => v.it q 3) (wo := v.wo) (rw_ G k j) (stS v (fun q => v.it q 3) v.wo (rw_ G k) (door (stW v st) 0 G) j) with a | ⟨q, hq', a, b⟩
      · exact Or.inl a
      · refine Or.inr ⟨q, hq', a, ?_⟩
        have t := stS_mono (sz := fun q => v.it q 3) (wo := v.wo) (row := rw_ G k) hn6 (show door (stW v st) 0 G < 2 ^ v.n from door_lt (stW v st) 0 G) (q := q) (by omega) j 0 (by omega) b
        exact ((stW_tb hn6 (by omega) so ok hq').mp t).1
    · rw [if_neg g]
      exact ok.2.1 p hp
  refine ⟨nx_lt hn st G k, c, fun p p' hp hp' ne e => ?_⟩
  rcases c p hp with a | ⟨q, hq', a, _⟩
  · exact absurd a ne
  · have e1 := inj p q hp hq' a
    rw [e] at a
    have e2 := inj p' q hp' hq' a
    rw [e1, nI_eq (by omega) (by omega)] at e2
    exact e2
def st0 (v : Wd) : Nat := enc (fun p => tkN (v.has p)) v.n
theorem has_e {v : Wd} (hn : v.n ≤ 4) (so : SOk v.n v.has v.pl v.wo) {p : Nat} (hp : p < v.n) : nI (tkN (v.has p)) - 1 = v.has p ∧ tkN (v.has p) < 5 := by
  have := tkN_e (x := v.has p) (n := v.n) (by omega) ((so.1 p hp).imp id (fun ⟨q, a, b, _⟩ => ⟨q, a, b⟩))
  exact ⟨this.1, by omega⟩
theorem st0_hq {v : Wd} (hn : v.n ≤ 4) (so : SOk v.n v.has v.pl v.wo) {p : Nat} (hp : p < v.n) : hq (st0 v) p = v.has p := by
  unfold hq st0
  rw [dg_enc v.n (fun p hp => (has_e hn so hp).2) p hp]
  exact (has_e hn so hp).1
theorem st0_ok {v : Wd} (hn : v.n ≤ 4) (so : SOk v.n v.has v.pl v.wo) : stOk v (st0 v) := by
  refine ⟨enc_lt _ (fun p hp => (has_e hn so hp).2), fun p hp => ?_, fun p p' hp hp' ne e => ?_⟩
  · rw [st0_hq hn so hp]
    rcases so.1 p hp with a | ⟨q, hq', a, b⟩
    · exact Or.inl a
    · exact Or.inr ⟨q, hq', a, by rw [b]; exact le10 (by omega)⟩
  · rw [st0_hq hn so hp] at ne e
    rw [st0_hq hn so hp'] at e
    rcases so.1 p hp with a | ⟨q, hq', a, b⟩
    · exact absurd a ne
    · rcases so.1 p' hp' with a' | ⟨q2, hq2, a', b'⟩
      · rw [e] at ne
        exact absurd a' ne
      · rw [a, a', nI_eq (by omega) (by omega)] at e
        rw [e, b', nI_eq (by omega) (by omega)] at b
        omega
theorem zero_ok {v : Wd} : stOk v 0 := by
  have z : ∀ p, hq 0 p = -1 := by
    intro p
    unfold hq dg
    rw [Nat.zero_div]
    rfl
  exact ⟨Nat.pow_pos (by decide), fun p _ => Or.inl (z p), fun p _ _ _ ne => absurd (z p) ne⟩
/-- the class's door of a state -/
def aD (v : Wd) : Nat := zoB (fun q => decide (v.pl q ≤ 10)) v.n
theorem e_around {v : Wd} {h : AH} (hn : v.n ≤ 6) (h3 : h.1 3 2 = nI v.n) (hp : ∀ q, q < v.n → h.1 26 q = v.pl q) : f_X4_pairsAround 51 h = some (nI (aD v), h) := by
  unfold f_X4_pairsAround
  refine lp (fun fu i (s : Int32) => f_X4_pairsAround_4 fu 51 s (nI i) h = some (nI (aD v), h)) (fun i s => s = nI (zoB (fun q => decide (v.pl q ≤ 10)) i)) v.n (by omega) ?_ ?_ rfl
  · rintro fu s rfl
    rw [f_X4_pairsAround_4, rv_51_0, h3, if_pos (by rw [nI_leI (by omega) (by omega)]; omega)]
    rfl
  · rintro fu i s hi rfl K
    rw [zoB] at K
    rw [f_X4_pairsAround_4, rv_51_0, h3, if_neg (by rw [nI_leI (by omega) (by omega)]; omega), rv_51_1, rv_24_1, an_26, og_ix (by omega) (by omega), nI_clamp (by omega), hp i hi]
    unfold f_X4_pairsAround_37
    rw [nm_id, nm_id, nm_id, nm_id, nI_1, zoB_or (fun q => decide (v.pl q ≤ 10)) (k := i) (by omega), or0]
    by_cases c : v.pl i ≤ 10
    · rw [if_neg (fun w => absurd (Int32.lt_of_le_of_lt c w) (Int32.lt_irrefl))]
      exact K _ (by rw [if_pos (decide_eq_true c)])
    · rw [if_pos (Int32.not_le.mp c)]
      exact K _ (by rw [if_neg (by rw [decide_eq_false c]; decide)])
theorem e_for {v : Wd} {st G : Nat} {h : AH} (hn : v.n ≤ 4) (so : SOk v.n v.has v.pl v.wo) (ok : stOk v st) (hG : G < 64) (h3 : h.1 3 2 = nI v.n) (hp : ∀ q, q < v.n → h.1 26 q = v.pl q) : f_X4_pairsFor 51 (nI st) (nI G) h = some (nI (door (stW v st) 0 G), h) := by
  have hn6 : v.n ≤ 6 := by omega
  have h64 := pow_le6 hn6
  have s6 := q5_le hn
  have s5 := ok.1
  unfold f_X4_pairsFor
  rw [e_around hn6 h3 hp, ob_some]
  refine lp (fun fu i (D : Nat) => f_X4_pairsFor_8 fu 51 (nI st) (nI G) (nI D) (nI i) h = some (nI (door (stW v st) 0 G), h)) (fun i D => D < 2 ^ v.n ∧ ∀ q, q < v.n → (D.testBit q = true ↔ (v.pl q ≤ 10 ∧ ∀ p, p < i → hq st p = nI q → G.testBit p = true))) v.n (by omega) ?_ ?_ (s := aD v) ⟨zoB_lt _ _, fun q hq' => ?_⟩
  · rintro fu D ⟨D1, D2⟩
    rw [f_X4_pairsFor_8, rv_51_0, h3, if_pos (by rw [nI_leI (by omega) (by omega)]; omega)]
    have : D = door (stW v st) 0 G := by
      refine Nat.eq_of_testBit_eq (fun q => ?_)
      by_cases c : q < v.n
      · rw [Bool.eq_iff_iff, D2 q c, stW_tb hn6 hG so ok c]
      · have a : D.testBit q = false := Nat.testBit_lt_two_pow (Nat.lt_of_lt_of_le D1 (Nat.pow_le_pow_right (by decide) (by omega)))
        have b : (door (stW v st) 0 G).testBit q = false := Nat.testBit_lt_two_pow (Nat.lt_of_lt_of_le (door_lt (stW v st) 0 G) (Nat.pow_le_pow_right (by decide) (show v.n ≤ q by omega)))
        rw [a, b]
    rw [this]
  · rintro fu i D hi ⟨D1, D2⟩ K
    rw [f_X4_pairsFor_8, rv_51_0, h3, if_neg (by rw [nI_leI (by omega) (by omega)]; omega), e_pairIn (by omega) (by omega), ob_some, e_X11_isIn, inS_tb G hG i (by omega), ob_some]
    unfold f_X4_pairsFor_52
    rw [nm_id, nm_id, nm_id, nI_1]
    have same : (hq st i = -1 ∨ G.testBit i = true) → f_X4_pairsFor_8 fu 51 (nI st) (nI G) (nI D) (nI (i + 1)) h = some (nI (door (stW v st) 0 G), h) := by
      intro o
      refine K D ⟨D1, fun q hq' => ?_⟩
      rw [D2 q hq']
      refine ⟨fun ⟨a, b⟩ => ⟨a, fun p hp e => ?_⟩, fun ⟨a, b⟩ => ⟨a, fun p hp => b p (by omega)⟩⟩
      by_cases c : p = i
      · subst c
        rcases o with o | o
        · rw [e, n_m1 (by omega)] at o
          exact o.elim
        · exact o
      · exact b p (by omega) e
    rcases hq_c st i with a | ⟨q0, hq0, a, _⟩
    · rw [if_pos a]
      exact same (Or.inl a)
    · rw [if_neg (by rw [a, n_m1 (by omega)]; exact id), zi]
      by_cases g : G.testBit i = true
      · rw [if_pos g]
        exact same (Or.inr g)
      · rw [if_neg g, a, (rmv_all D (by omega) q0 (by omega)).1]
        have l := (rmv_all D (by omega) q0 (by omega)).2
        refine K _ ⟨by omega, fun q hq' => ?_⟩
        rw [rmv_tb D (by omega) q0 (by omega) q (by omega), Bool.and_eq_true, D2 q hq']
        constructor
        · rintro ⟨⟨b1, b2⟩, b3⟩
          refine ⟨b1, fun p hp e => ?_⟩
          by_cases c : p = i
          · rw [c, a, nI_eq (by omega) (by omega)] at e
            rw [e, Nat.beq_refl] at b3
            cases b3
          · exact b2 p (by omega) e
        · rintro ⟨b1, b2⟩
          refine ⟨⟨b1, fun p hp => b2 p (by omega)⟩, ?_⟩
          by_cases c : q = q0
          · rw [c] at b2
            exact absurd (b2 i (by omega) a) g
          · rw [nbeq (fun w => c w.symm)]
            rfl
  · unfold aD
    rw [zoB_tb, decide_eq_true hq', Bool.true_and, decide_eq_true_eq]
    exact ⟨fun a => ⟨a, fun p hp => absurd hp (by omega)⟩, fun a => a.1⟩
theorem aD_door {v : Wd} {G : Nat} (hn : v.n ≤ 6) (hG : G < 64) (so : SOk v.n v.has v.pl v.wo) {st : Nat} (ok : stOk v st) (all : ∀ p, p < v.n → G.testBit p = true) : door (stW v st) 0 G = aD v := by
  refine Nat.eq_of_testBit_eq (fun q => ?_)
  by_cases c : q < v.n
  · rw [Bool.eq_iff_iff, stW_tb hn hG so ok c]
    unfold aD
    rw [zoB_tb, decide_eq_true c, Bool.true_and, decide_eq_true_eq]
    exact ⟨fun a => a.1, fun a => ⟨a, fun p hp _ => all p hp⟩⟩
  · have a : (aD v).testBit q = false := Nat.testBit_lt_two_pow (Nat.lt_of_lt_of_le (zoB_lt _ _) (Nat.pow_le_pow_right (by decide) (show v.n ≤ q by omega)))
    have b : (door (stW v st) 0 G).testBit q = false := Nat.testBit_lt_two_pow (Nat.lt_of_lt_of_le (door_lt (stW v st) 0 G) (Nat.pow_le_pow_right (by decide) (show v.n ≤ q by omega)))
    rw [a, b]
/-- the class's state behind -/
def ndJ (f F row : Nat → Nat) : Nat → Nat → Nat
  | 0 => f
  | j + 1 => up (ndJ f F row j) (row j) (F (row j))
theorem ndJ_in {f F row : Nat → Nat} : ∀ j i, i < j → ndJ f F row j (row i) = F (row i) := by
  intro j
  induction j with
  | zero => intro i hi; omega
  | succ j ih =>
    intro i hi
    rw [ndJ]
    by_cases c : row i = row j
    · rw [c, up_p]
    · rw [up_n c]
      refine ih i ?_
      by_cases e : i = j
      · rw [e] at c
        exact absurd rfl c
      · omega
theorem ndJ_out {f F row : Nat → Nat} {p : Nat} : ∀ j, (∀ i, i < j → row i ≠ p) → ndJ f F row j p = f p := by
  intro j
  induction j with
  | zero => intro _; rfl
  | succ j ih =>
    intro h
    rw [ndJ, up_n (fun e => h j (by omega) e.symm)]
    exact ih (fun i hi => h i (by omega))
theorem beh_s (A B d f w : Nat) (x y : Int32) (e : A + f * w = B + d * w) (ex : nI d - 1 = x) (ey : nI f - 1 = y) : nI B + (x - y) * nI w = nI A := by
  have e' : nI A + nI f * nI w = nI B + nI d * nI w := by
    rw [pk_mul, pk_mul, nI_add, nI_add, e]
  rw [← ex, ← ey]
  have r : nI B + (nI d - 1 - (nI f - 1)) * nI w = nI B + nI d * nI w - nI f * nI w := by grind
  rw [r, ← e']
  grind
theorem e_behind {v : Wd} {st G k : Nat} {h : AH} (hn : v.n ≤ 4) (hG : G < 2 ^ v.n) (g0 : 0 < G) (hk : k < nW G) (hs : st < 5 ^ v.n) (g : cGo v (fun q => v.it q 3) v.wo (rw_ G k) (pc G) (door (stW v st) 0 G) h) : f_X4_stateBehind 51 (nI st) h = some (nI (nx v st G k), h) := by
  have hn6 : v.n ≤ 6 := by omega
  have h64 := pow_le6 hn6
  have s6 := q5_le hn
  have r := W_row hn6 hG g0 hk
  have p7 := (pc_ok G (by omega)).2
  unfold f_X4_stateBehind
  have fin : enc (ndJ (dg st) (fun p => tkN (tkW v st G k p)) (rw_ G k) (pc G)) v.n = nx v st G k := by
    refine enc_cong _ (fun p hp => ?_)
    unfold nd
    by_cases c : G.testBit p = true
    · rw [if_pos c]
      obtain ⟨j, hj, rfl⟩ := r.2.2 p c
      exact ndJ_in _ j hj
    · rw [if_neg c]
      exact ndJ_out _ (fun i hi e => c (by rw [← e]; exact r.2.1 i hi))
  refine lp (fun fu i (s : Int32) => f_X4_stateBehind_4 fu 51 (nI st) s (nI i) h = some (nI (nx v st G k), h)) (fun i s => s = nI (enc (ndJ (dg st) (fun p => tkN (tkW v st G k p)) (rw_ G k) i) v.n)) (pc G) (by omega) ?_ ?_ (by rw [ndJ, enc_dg _ hs])
  · rintro fu s rfl
    rw [f_X4_stateBehind_4, rv_51_2, g.2.1.1, if_pos (by rw [nI_leI (by omega) (by omega)]; omega), fin]
  · rintro fu i s hi rfl K
    have ri := r.1.2.1 i hi
    have tc := tkN_e (n := v.n) (by omega) (tkP_c (v := v) (sz := fun q => v.it q 3) (wo := v.wo) (row := rw_ G k) (m := pc G) (D := door (stW v st) 0 G) (p := rw_ G k i))
    have eu := enc_up (f := ndJ (dg st) (fun p => tkN (tkW v st G k p)) (rw_ G k) i) (p := rw_ G k i) (d := tkN (tkW v st G k (rw_ G k i))) v.n ri
    rw [ndJ_out i (fun j hj e => by have := r.1.2.2 j i (by omega) hi e; omega)] at eu
    rw [f_X4_stateBehind_4, rv_51_2, g.2.1.1, if_neg (by rw [nI_leI (by omega) (by omega)]; omega), rv_41_1, an_42, og_ix (by omega) (by omega), nm_id, nI_clamp (by omega), g.2.1.2 i hi, rv_41_3, an_43, og_ix (by omega) (by omega), e_pairIn (by omega) (by omega), ob_some, sN6, og_ix (by omega) (by omega), nm_id, nm_id, nI_1, nI_clamp (by omega), cGo_t g r (r.2.1 i hi), sT6 _ (by omega), beh_s _ _ _ _ _ _ _ eu tc.1 (show nI (dg st (rw_ G k i)) - 1 = hq st (rw_ G k i) from rfl)]
    exact K _ rfl
