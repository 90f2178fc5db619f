/-! the numbers and the stack: what a code does -/
def bdd (x : Int32) : Prop := -1000000 ≤ x.toInt ∧ x.toInt ≤ 1000000
theorem l_toI (x : Int32) : x.toInt64.toInt = x.toInt := Int32.toInt_toInt64 x
/-- both sides' clamping -/
def clp (z : Int) : Int32 := if z > 1000000 then 1000000 else if z < -1000000 then -1000000 else Int32.ofInt z
theorem within_e {l : Int64} {z : Int} (e : l.toInt = z) (h : AH) : f_X12_within l h = some (clp z, h) := by
  unfold f_X12_within clp
  have m : (1000000 : Int64).toInt = 1000000 := by decide
  have m' : (-1000000 : Int64).toInt = -1000000 := by decide
  simp only [Int64.lt_iff_toInt_lt, m, m', e]
  by_cases c1 : z < 1000000
  · simp only [c1, if_true]
    simp only [Int64.lt_iff_toInt_lt, m', e]
    by_cases c2 : z < -1000000
    · simp [c2, show ¬ z > 1000000 by omega]
    · simp [c2, show ¬ z > 1000000 by omega]
      rw [← Int32.toInt_inj, Int64.toInt_toInt32, e, Int32.toInt_ofInt]
  · simp only [c1, if_false]
    by_cases c2 : z > 1000000
    · simp [c2]
    · have : z = 1000000 := by omega
      subst this
      simp only [m, if_neg (show ¬ (1000000 : Int) > 1000000 by omega), if_neg (show ¬ (1000000 : Int) < -1000000 by omega)]
      rfl
theorem reck_e {l : Int64} {z : Int} (e : l.toInt = z) (h : AH) : f_X7_reckon_155 l h = some (clp z, h) := by
  unfold f_X7_reckon_155 clp
  have m : (1000000 : Int64).toInt = 1000000 := by decide
  have m' : (-1000000 : Int64).toInt = -1000000 := by decide
  have g1 : (lg_cmp l 1000000 ≤ 0) ↔ ¬ z > 1000000 := by
    have := @lg_g l 1000000
    rw [Int64.lt_iff_toInt_lt, m, e] at this
    rw [Int32.le_iff_toInt_le]
    rw [Int32.lt_iff_toInt_lt] at this
    omega
  have g2 : (0 ≤ lg_cmp l (-1000000)) ↔ ¬ z < -1000000 := by
    have := @lg_l l (-1000000)
    rw [Int64.lt_iff_toInt_lt, m', e] at this
    rw [Int32.le_iff_toInt_le]
    rw [Int32.lt_iff_toInt_lt] at this
    omega
  simp only [g1, g2, f_X7_reckon_183]
  by_cases c1 : z > 1000000
  · simp [c1]
  · by_cases c2 : z < -1000000
    · simp [c1, c2]
    · simp [c1, c2]
      rw [← Int32.toInt_inj, Int64.toInt_toInt32, e, Int32.toInt_ofInt]
theorem clp_b (z : Int) : bdd (clp z) := by
  unfold clp bdd
  split
  · decide
  · split
    · decide
    · rw [Int32.toInt_ofInt]
      have : z.bmod Int32.size = z := Int.bmod_eq_of_le (by show -(4294967296 / 2 : Int) ≤ z; omega) (by show z < ((4294967296 + 1) / 2 : Int); omega)
      rw [this]
      omega
theorem mul_l (a b : Int32) : (a.toInt64 * b.toInt64).toInt = a.toInt * b.toInt := by
  rw [Int64.toInt_mul, l_toI, l_toI]
  have a1 := Int32.toInt_lt a
  have a2 := Int32.le_toInt a
  have b1 := Int32.toInt_lt b
  have b2 := Int32.le_toInt b
  have h1 : a.toInt * b.toInt ≤ 2 ^ 62 := by
    have := Int.natAbs_mul a.toInt b.toInt
    have c1 : a.toInt.natAbs ≤ 2 ^ 31 := by omega
    have c2 : b.toInt.natAbs ≤ 2 ^ 31 := by omega
    have c3 := Nat.mul_le_mul c1 c2
    omega
  have h2 : -(2 ^ 62) ≤ a.toInt * b.toInt := by
    have := Int.natAbs_mul a.toInt b.toInt
    have c1 : a.toInt.natAbs ≤ 2 ^ 31 := by omega
    have c2 : b.toInt.natAbs ≤ 2 ^ 31 := by omega
    have c3 := Nat.mul_le_mul c1 c2
    omega
  exact Int.bmod_eq_of_le (by show -(18446744073709551616 / 2 : Int) ≤ _; omega) (by show _ < ((18446744073709551616 + 1) / 2 : Int); omega)
def rkS (x a b : Int32) : Int32 := if x = 38 then a &&& b else if x = 42 then clp (a.toInt * b.toInt) else if x = 43 then clp (a + b).toInt else if x = 45 then clp (a - b).toInt else if x = 60 then (if b ≤ a then 0 else 1) else if x = 61 then (if a = b then 1 else 0) else if x = 62 then (if a ≤ b then 0 else 1) else if x = 124 then a ||| b else if b = 0 then clp 0 else clp (a / b).toInt
theorem e_reckon (x a b : Int32) (h : AH) : f_X7_reckon x a b h = some (rkS x a b, h) := by
  unfold rkS f_X7_reckon
  by_cases c1 : x = 38
  · rw [if_pos c1, if_pos c1]
  rw [if_neg c1, if_neg c1]
  by_cases c2 : x = 42
  · rw [if_pos c2, if_pos c2, nm_id, reck_e (mul_l a b)]
  rw [if_neg c2, if_neg c2]
  by_cases c3 : x = 43
  · rw [if_pos c3, if_pos c3, nm_id, reck_e (l_toI _)]
  rw [if_neg c3, if_neg c3]
  by_cases c4 : x = 45
  · rw [if_pos c4, if_pos c4, nm_id, reck_e (l_toI _)]
  rw [if_neg c4, if_neg c4]
  by_cases c5 : x = 60
  · rw [if_pos c5, if_pos c5]
    by_cases d : b ≤ a
    · rw [if_pos d, if_pos d, f_X7_reckon_97]
    · rw [if_neg d, if_neg d, f_X7_reckon_97]
  rw [if_neg c5, if_neg c5]
  by_cases c6 : x = 61
  · rw [if_pos c6, if_pos c6]
    by_cases d : a = b
    · rw [if_pos d, if_pos d, f_X7_reckon_86]
    · rw [if_neg d, if_neg d, f_X7_reckon_86]
  rw [if_neg c6, if_neg c6]
  by_cases c7 : x = 62
  · rw [if_pos c7, if_pos c7]
    by_cases d : a ≤ b
    · rw [if_pos d, if_pos d, f_X7_reckon_108]
    · rw [if_neg d, if_neg d, f_X7_reckon_108]
  rw [if_neg c7, if_neg c7]
  by_cases c8 : x = 124
  · rw [if_pos c8, if_pos c8]
  rw [if_neg c8, if_neg c8]
  by_cases d : b = 0
  · rw [if_pos d, if_pos d, f_X7_reckon_154, reck_e (z := 0) (by decide)]
  · rw [if_neg d, if_neg d, og_t (decide_eq_true d), f_X7_reckon_154, reck_e (l_toI _)]
def run1 (lt : Nat → Int32) (x : Int32) (s : List Int32) : List Int32 :=
  if x < 0 then
    (if x = -33 then (match s with
      | [] => []
      | a :: s => (1 - a) :: s)
    else (match s with
      | b :: a :: s => rkS (-x) a b :: s
      | s => s))
  else if 64 ≤ s.length then s else if 10000 ≤ x then lt (x - 10000).toNatClampNeg :: s else x :: s
def rn (lt : Nat → Int32) : List Int32 → List Int32 → List Int32
  | [], s => s
  | x :: c, s => rn lt c (run1 lt x s)
theorem rn_app (lt : Nat → Int32) (a b : List Int32) : ∀ s, rn lt (a ++ b) s = rn lt b (rn lt a s) := by
  induction a with
  | nil => intro s; rfl
  | cons x a ih => intro s; exact ih _
def gcd (x : Int32) : Prop := x ≠ -59 ∧ x ≠ -63 ∧ x < 10006
/-- the code leaves v on any stack that has K rooms left -/
def EvS (lt : Nat → Int32) (K : Nat) (c : List Int32) (v : Int32) : Prop := ∀ s : List Int32, s.length + K ≤ 64 → rn lt c s = v :: s
theorem ev_mono {lt : Nat → Int32} {K K' : Nat} {c : List Int32} {v : Int32} (h : EvS lt K c v) (hk : K ≤ K') : EvS lt K' c v := fun s hs => h s (by omega)
theorem ev_num {lt : Nat → Int32} {v : Nat} (h : v < 10000) {K : Nat} (hK : 1 ≤ K) : EvS lt K [nI v] (nI v) := by
  intro s hs
  unfold rn rn run1
  rw [if_neg (nI_pos (by omega)), if_neg (by omega), if_neg]
  rw [show (10000 : Int32) = nI 10000 from rfl, nI_leI (by decide) (by omega)]
  omega
theorem ev_let {lt : Nat → Int32} {i : Nat} (h : i < 6) {K : Nat} (hK : 1 ≤ K) : EvS lt K [10000 + nI i] (lt i) := by
  intro s hs
  unfold rn rn run1
  have e : (10000 : Int32) + nI i = nI (10000 + i) := nI_add 10000 i
  rw [e, if_neg (nI_pos (by omega)), if_neg (by omega), if_pos, show (10000 : Int32) = nI 10000 from rfl, pk_sub (by omega), nI_clamp (by omega)]
  · rw [Nat.add_sub_cancel_left]
  · rw [show (10000 : Int32) = nI 10000 from rfl, nI_leI (by decide) (by omega)]
    omega
theorem ev_bin {lt : Nat → Int32} {K K1 K2 : Nat} {a b : List Int32} {x y o : Int32} (ha : EvS lt K1 a x) (hb : EvS lt K2 b y) (h1 : K1 ≤ K) (h2 : K2 + 1 ≤ K) (o1 : o < 0) (o2 : o ≠ -33) : EvS lt K (a ++ (b ++ [o])) (rkS (-o) x y) := by
  intro s hs
  rw [rn_app, ha s (by omega), rn_app, hb (x :: s) (by simp; omega)]
  unfold rn rn run1
  rw [if_pos o1, if_neg o2]
theorem ev_not {lt : Nat → Int32} {K : Nat} {a : List Int32} {x : Int32} (ha : EvS lt K a x) : EvS lt K (a ++ [-33]) (1 - x) := by
  intro s hs
  rw [rn_app, ha s (by omega)]
  unfold rn rn run1
  rw [if_pos (by decide), if_pos rfl]
