/-! easy calls -/
theorem G_of {W1 W2 : List (Nat × Nat)} {v : Wd} {h h1 h2 : AH} (R : RelV v h) (a1 : Agr W1 h h1) (a2 : Agr W2 h1 h2) (d1 : Wdis W1 ST = true) (d2 : Wdis W2 ST = true) : Rel h2 := ⟨v, rel_agr a2 d2 (rel_agr a1 d1 R)⟩
theorem og_ix {R : Type} {i n : Nat} {k : Option R} (h : i < n) (hi : i < 2 ^ 31) : og (ix (nI i) n) k = k := og_t (ixn h hi)
theorem og_bz {R : Type} {b : Bool} {k : Option R} : og (bz (zb b)) k = k := og_t (bz_zb b)
theorem og_bz0 {R : Type} {k : Option R} : og (bz 0) k = k := rfl
theorem og_bz1 {R : Type} {k : Option R} : og (bz 1) k = k := rfl
theorem RelV.n6 {v : Wd} {h : AH} (R : RelV v h) : v.n ≤ 6 := R.2.1.2.1
theorem RelV.n2 {v : Wd} {h : AH} (R : RelV v h) : v.n = 0 ∨ 2 ≤ v.n := R.2.1.1
theorem RelV.cn {v : Wd} {h : AH} (R : RelV v h) : h.1 3 2 = nI v.n := R.2.1.2.2.2.1
theorem RelV.mn {v : Wd} {h : AH} (R : RelV v h) : h.1 56 20 = nI v.n := R.2.1.2.2.2.2.1
theorem RelV.ib {v : Wd} {h : AH} (R : RelV v h) {p i : Nat} (hp : p < v.n) (hi : i < 7) : itLo i ≤ v.it p i ∧ v.it p i ≤ itHi i := R.2.1.2.2.1 p hp i hi
theorem RelV.ci {v : Wd} {h : AH} (R : RelV v h) {p i : Nat} (hp : p < v.n) (hi : i < 7) : h.1 4 (p * 7 + i) = nI (v.it p i) := (R.2.1.2.2.2.2.2.1 p hp i hi).1
theorem RelV.mi {v : Wd} {h : AH} (R : RelV v h) {p i : Nat} (hp : p < v.n) (hi : i < 7) : h.1 61 (p * 7 + i) = nI (v.it p i) := (R.2.1.2.2.2.2.2.1 p hp i hi).2
theorem RelV.ms {v : Wd} {h : AH} (R : RelV v h) {p : Nat} (hp : p < v.n) : h.1 64 p = nI (v.it p 3) := R.2.1.2.2.2.2.2.2 p hp
theorem RelV.rb {v : Wd} {h : AH} (R : RelV v h) {p : Nat} (hp : p < v.n) : v.ro p = -1 ∨ ∃ r, r < v.rc ∧ v.ro p = nI r := (R.2.2.1 p hp).1
theorem RelV.cr {v : Wd} {h : AH} (R : RelV v h) {p : Nat} (hp : p < v.n) : h.1 5 p = v.ro p := (R.2.2.1 p hp).2.1
theorem RelV.mr {v : Wd} {h : AH} (R : RelV v h) {p : Nat} (hp : p < v.n) : h.1 66 p = v.ro p := (R.2.2.1 p hp).2.2
theorem RelV.so {v : Wd} {h : AH} (R : RelV v h) : SOk v.n v.has v.pl v.wo := R.2.2.2.2.1.1
theorem RelV.ch {v : Wd} {h : AH} (R : RelV v h) {p : Nat} (hp : p < v.n) : h.1 25 p = v.has p := (R.2.2.2.2.1.2.1 p hp).1.1
theorem RelV.cp {v : Wd} {h : AH} (R : RelV v h) {p : Nat} (hp : p < v.n) : h.1 26 p = v.pl p := (R.2.2.2.2.1.2.1 p hp).1.2.1
theorem RelV.cw {v : Wd} {h : AH} (R : RelV v h) {p : Nat} (hp : p < v.n) : h.1 27 p = nI (v.wo p) := (R.2.2.2.2.1.2.1 p hp).1.2.2
theorem RelV.mh {v : Wd} {h : AH} (R : RelV v h) {p : Nat} (hp : p < v.n) : h.1 62 p = v.has p := (R.2.2.2.2.1.2.1 p hp).2.1
theorem RelV.mp {v : Wd} {h : AH} (R : RelV v h) {p : Nat} (hp : p < v.n) : h.1 63 p = v.pl p := (R.2.2.2.2.1.2.1 p hp).2.2.1
theorem RelV.mw {v : Wd} {h : AH} (R : RelV v h) {p : Nat} (hp : p < v.n) : h.1 65 p = nI (v.wo p) := (R.2.2.2.2.1.2.1 p hp).2.2.2
theorem RelV.cpn {v : Wd} {h : AH} (R : RelV v h) {p : Nat} (hp : v.n ≤ p) (h6 : p < 6) : h.1 26 p = if v.n = 0 then 0 else -1 := R.2.2.2.2.1.2.2 p hp h6
theorem RelV.crc {v : Wd} {h : AH} (R : RelV v h) : h.1 0 5 = nI v.rc := R.2.2.2.1.2.1
theorem RelV.mrc {v : Wd} {h : AH} (R : RelV v h) : h.1 56 7 = nI v.rc := R.2.2.2.1.2.2.1
theorem RelV.rc4 {v : Wd} {h : AH} (R : RelV v h) : v.rc ≤ 4 := R.2.2.2.1.1
theorem RelV.E30 {v : Wd} {h : AH} (R : RelV v h) : v.E ≤ 30 := R.2.2.2.2.2.1.1
theorem RelV.S20 {v : Wd} {h : AH} (R : RelV v h) : v.S ≤ 20 := R.2.2.2.2.2.2.1.1
theorem RelV.L160 {v : Wd} {h : AH} (R : RelV v h) : v.L ≤ 160 := R.1.1
theorem RelV.cE {v : Wd} {h : AH} (R : RelV v h) : h.1 32 2 = nI v.E := R.2.2.2.2.2.1.2.1
theorem RelV.mE {v : Wd} {h : AH} (R : RelV v h) : h.1 56 32 = nI v.E := R.2.2.2.2.2.1.2.2.1
theorem RelV.cd {v : Wd} {h : AH} (R : RelV v h) {e p : Nat} (he : e < v.E) (hp : p < v.n) : h.1 33 (e * 6 + p) = v.di e p := (R.2.2.2.2.2.1.2.2.2 e he p hp).1
theorem RelV.md {v : Wd} {h : AH} (R : RelV v h) {e p : Nat} (he : e < v.E) (hp : p < v.n) : h.1 69 (e * 6 + p) = v.di e p := (R.2.2.2.2.2.1.2.2.2 e he p hp).2
theorem RelV.cS {v : Wd} {h : AH} (R : RelV v h) : h.1 32 3 = nI v.S := R.2.2.2.2.2.2.1.2.1
theorem RelV.mS {v : Wd} {h : AH} (R : RelV v h) : h.1 56 50 = nI v.S := R.2.2.2.2.2.2.1.2.2.1
theorem RelV.gs {v : Wd} {h : AH} (R : RelV v h) {s : Nat} (hs : s < v.S) : v.se s < v.E ∧ (h.1 34 (s * 3) = nI (v.se s) ∧ h.1 34 (s * 3 + 1) = v.sw s ∧ h.1 34 (s * 3 + 2) = v.ss s) ∧ h.1 81 s = nI (v.se s) ∧ h.1 82 s = v.sw s ∧ h.1 83 s = v.ss s := R.2.2.2.2.2.2.1.2.2.2 s hs
theorem RelV.cL {v : Wd} {h : AH} (R : RelV v h) : h.1 1 1 = nI v.L := R.1.2.1
theorem RelV.mL {v : Wd} {h : AH} (R : RelV v h) : h.1 56 6 = nI v.L := R.1.2.2.1
theorem RelV.cim {v : Wd} {h : AH} (R : RelV v h) : h.1 0 8 = zb v.im := R.2.2.2.2.2.2.2.1
theorem RelV.mim {v : Wd} {h : AH} (R : RelV v h) : h.1 56 57 = zb v.im := R.2.2.2.2.2.2.2.2.1
theorem RelV.thr {v : Wd} {h : AH} {x : Int32} (R : RelV v h) : RelV v (sI h 56 0 x) := rel_agr (W := (56, 0) :: []) (agr_sI (agr_refl h) rfl) rfl R
def vB (v : Wd) : Prop := v.n ≤ 6 ∧ ∀ p, p < v.n → ∀ i, i < 7 → itLo i ≤ v.it p i ∧ v.it p i ≤ itHi i
def cP (v : Wd) (h : AH) : Prop := vB v ∧ h.1 3 2 = nI v.n ∧ ∀ p, p < v.n → ∀ i, i < 7 → h.1 4 (p * 7 + i) = nI (v.it p i)
def mP (v : Wd) (h : AH) : Prop := vB v ∧ h.1 56 20 = nI v.n ∧ ∀ p, p < v.n → ∀ i, i < 7 → h.1 61 (p * 7 + i) = nI (v.it p i)
theorem RelV.vB {v : Wd} {h : AH} (R : RelV v h) : vB v := ⟨R.n6, fun _ hp _ hi => R.ib hp hi⟩
theorem RelV.cP {v : Wd} {h : AH} (R : RelV v h) : cP v h := ⟨R.vB, R.cn, fun _ hp _ hi => R.ci hp hi⟩
theorem RelV.mP {v : Wd} {h : AH} (R : RelV v h) : mP v h := ⟨R.vB, R.mn, fun _ hp _ hi => R.mi hp hi⟩
theorem e_X6_item {v : Wd} {h : AH} (R : cP v h) {p i : Nat} (hp : p < v.n) (hi : i < 7) : f_X6_item 3 (nI p) (nI i) h = some (nI (v.it p i), h) := by
  have := R.1.1
  have e : nI p * 7 + nI i = nI (p * 7 + i) := by
    rw [show (7 : Int32) = nI 7 from rfl, pk_mul, nI_add]
  unfold f_X6_item
  rw [rv_3_0, e, an_4, og_ix (by omega) (by omega), nI_clamp (by omega), R.2.2 p hp i hi]
theorem e_X12_partOf {v : Wd} {h : AH} (R : mP v h) {p i : Nat} (hp : p < v.n) (hi : i < 7) : f_X12_partOf 56 (nI p) (nI i) h = some (nI (v.it p i), h) := by
  have := R.1.1
  have e : 7 * nI p + nI i = nI (p * 7 + i) := by
    rw [show (7 : Int32) = nI 7 from rfl, pk_mul, nI_add, Nat.mul_comm]
  unfold f_X12_partOf
  rw [rv_56_19, e, an_61, og_ix (by omega) (by omega), nI_clamp (by omega), R.2.2 p hp i hi]
def fitS (v : Wd) (p s : Nat) : Bool := decide (v.it p 0 ≤ s ∧ s ≤ v.it p 0 + v.it p 1)
theorem k_mul (a b : Nat) : nI a * (no_index (OfNat.ofNat b)) = nI (a * OfNat.ofNat b) := pk_mul a b
theorem k_mul' (a b : Nat) : (no_index (OfNat.ofNat b)) * nI a = nI (a * OfNat.ofNat b) := by
  rw [Nat.mul_comm]
  exact pk_mul b a
theorem k_add (a b : Nat) : nI a + (no_index (OfNat.ofNat b)) = nI (a + OfNat.ofNat b) := nI_add a b
theorem k_le {a b : Nat} (ha : a < 2 ^ 31) (hb : OfNat.ofNat b < 2 ^ 31) : (nI a ≤ (no_index (OfNat.ofNat b))) = (a ≤ OfNat.ofNat b) := propext (nI_leI ha hb)
theorem k_le' {a b : Nat} (ha : a < 2 ^ 31) (hb : OfNat.ofNat b < 2 ^ 31) : ((no_index (OfNat.ofNat b)) ≤ nI a) = (OfNat.ofNat b ≤ a) := propext (nI_leI hb ha)
theorem k_lt {a b : Nat} (ha : a < 2 ^ 31) (hb : OfNat.ofNat b < 2 ^ 31) : (nI a < (no_index (OfNat.ofNat b))) = (a < OfNat.ofNat b) := propext (nI_ltI ha hb)
theorem k_lt' {a b : Nat} (ha : a < 2 ^ 31) (hb : OfNat.ofNat b < 2 ^ 31) : ((no_index (OfNat.ofNat b)) < nI a) = (OfNat.ofNat b < a) := propext (nI_ltI hb ha)
theorem k_eq {a b : Nat} (ha : a < 2 ^ 31) (hb : OfNat.ofNat b < 2 ^ 31) : (nI a = (no_index (OfNat.ofNat b))) = (a = OfNat.ofNat b) := propext (nI_eq ha hb)
theorem n_le {a b : Nat} (ha : a < 2 ^ 31) (hb : b < 2 ^ 31) : (nI a ≤ nI b) = (a ≤ b) := propext (nI_leI ha hb)
theorem n_lt {a b : Nat} (ha : a < 2 ^ 31) (hb : b < 2 ^ 31) : (nI a < nI b) = (a < b) := propext (nI_ltI ha hb)
theorem n_eq {a b : Nat} (ha : a < 2 ^ 31) (hb : b < 2 ^ 31) : (nI a = nI b) = (a = b) := propext (nI_eq ha hb)
theorem n_m1 {a : Nat} (ha : a < 2 ^ 31) : (nI a = -1) = False := by
  rw [eq_iff_iff, iff_false]
  intro e
  have := nI_pos ha
  rw [e] at this
  exact this (by decide)
theorem lp {σ : Type} (W : Nat → Nat → σ → Prop) (I : Nat → σ → Prop) (e : Nat) (he : e < 4096) (hx : ∀ n s, I e s → W (n + 1) e s) (hs : ∀ n i s, i < e → I i s → (∀ s', I (i + 1) s' → W n (i + 1) s') → W (n + 1) i s) {s : σ} (h0 : I 0 s) : W FU 0 s := loop_i W I e hx hs FU 0 s (by omega) (by unfold FU; omega) h0
def zs (c : Nat → Int32) : Nat → Int32
  | 0 => 0
  | n + 1 => zs c n + c n
theorem zs_ext {c : Nat → Int32} {n m : Nat} (h : ∀ i, n ≤ i → i < m → c i = 0) (hm : n ≤ m) : zs c m = zs c n := by
  induction m with
  | zero =>
    have : n = 0 := by omega
    rw [this]
  | succ m ih =>
    by_cases e : n = m + 1
    · rw [e]
    · rw [zs, h m (by omega) (by omega), ih (fun i a b => h i a (by omega)) (by omega)]
      simp
theorem zs_cong {c d : Nat → Int32} {m : Nat} (h : ∀ i, i < m → c i = d i) : zs c m = zs d m := by
  induction m with
  | zero => rfl
  | succ m ih => rw [zs, zs, h m (by omega), ih (fun i a => h i (by omega))]
theorem isIn_02 {x : Int32} : (¬ x < 0 ∧ ¬ 2 < x) ↔ x = 0 ∨ x = 1 ∨ x = 2 := by
  constructor
  · rintro ⟨q1, q2⟩
    obtain ⟨j, hj, rfl⟩ := nI_of q1
    rw [show (2 : Int32) = nI 2 from rfl, nI_ltI (by decide) hj] at q2
    have : j = 0 ∨ j = 1 ∨ j = 2 := by omega
    rcases this with rfl | rfl | rfl
    · exact Or.inl rfl
    · exact Or.inr (Or.inl rfl)
    · exact Or.inr (Or.inr rfl)
  · rintro (rfl | rfl | rfl) <;> decide
theorem g5 : G5 Rel := by
  intro h ⟨v, R⟩ a1 a2
  have hn := R.n6
  have R1 := R.thr (x := 0)
  by_cases hk : knB (nI v.n) a1 = true
  · obtain ⟨p, hp, rfl⟩ := (knB_iff (by omega)).mp hk
    have e1 : f_X11_pair 0 (nI p) a2 h = some (if a2 = 0 then nI (v.it p 3) else if a2 = 1 then nI (v.wo p) else if a2 = 2 then v.pl p else -1, h) := by
      simp (disch := omega) only [f_X11_pair, e_X11_isKnown, ob_some, R.cn, hk, zb_0, show (3 : Int32) = nI 3 from rfl, rv_0_0, rv_0_1, rv_0_2, rv_0_3, rv_0_4, rv_0_6, rv_0_7, rv_0_9, rv_0_10, rv_0_11, rv_0_12, rv_0_13, rv_0_14, rv_1_0, an_2, rv_3_0, rv_3_1, an_4, an_5, rv_6_0, rv_6_1, an_7, an_8, rv_9_0, rv_9_1, an_10, an_11, rv_12_0, rv_12_1, an_13, an_14, rv_15_0, rv_15_1, an_16, an_17, rv_18_0, rv_18_1, an_19, an_20, rv_21_0, rv_21_1, an_22, an_23, rv_24_0, rv_24_1, rv_24_2, an_25, an_26, an_27, rv_28_0, rv_28_1, rv_28_2, an_29, an_30, an_31, rv_32_0, rv_32_1, an_33, an_34, rv_35_0, rv_35_1, rv_35_2, rv_35_3, rv_35_4, rv_35_5, rv_35_6, an_36, an_37, an_38, an_39, an_40, rv_41_0, rv_41_1, rv_41_3, rv_41_4, rv_41_5, an_42, an_43, an_44, an_45, rv_46_0, rv_46_1, rv_46_2, rv_46_3, rv_46_4, rv_46_6, an_47, an_48, rv_49_0, rv_49_1, an_50, rv_51_0, rv_51_1, rv_51_2, rv_51_3, rv_51_4, rv_51_6, rv_51_7, an_52, an_53, an_54, an_55, rv_56_1, rv_56_2, rv_56_3, rv_56_4, rv_56_15, rv_56_16, rv_56_17, rv_56_19, rv_56_22, rv_56_23, rv_56_24, rv_56_25, rv_56_26, rv_56_27, rv_56_28, rv_56_31, rv_56_33, rv_56_35, rv_56_36, rv_56_37, rv_56_39, rv_56_40, rv_56_41, rv_56_42, rv_56_43, rv_56_44, rv_56_46, rv_56_47, rv_56_48, rv_56_49, rv_56_51, rv_56_52, rv_56_54, an_57, an_58, an_59, an_60, an_61, an_62, an_63, an_64, an_65, an_66, an_67, an_68, an_69, an_70, an_71, an_72, an_73, an_74, an_75, an_76, an_77, an_78, an_79, an_80, an_81, an_82, an_83, an_84, an_85, an_86, an_87, e_X6_item R.cP hp, og_ix, nI_clamp, R.cw hp, R.cp hp]
      simp only [Bool.true_eq_false, if_false]
      grind
    have e2 : f_X12_pair 56 (nI p) a2 h = some (if a2 = 0 then nI (v.it p 3) else if a2 = 1 then nI (v.wo p) else if a2 = 2 then v.pl p else -1, sI h 56 0 0) := by
      simp (disch := omega) only [f_X12_pair, nm_id, e_X12_isPerson, ob_some, R1.mn, hk, zb_0, show (0 : Int64) = (0 : Int32).toInt64 from rfl, show (2 : Int64) = (2 : Int32).toInt64 from rfl, e_X12_isIn, rv_0_0, rv_0_1, rv_0_2, rv_0_3, rv_0_4, rv_0_6, rv_0_7, rv_0_9, rv_0_10, rv_0_11, rv_0_12, rv_0_13, rv_0_14, rv_1_0, an_2, rv_3_0, rv_3_1, an_4, an_5, rv_6_0, rv_6_1, an_7, an_8, rv_9_0, rv_9_1, an_10, an_11, rv_12_0, rv_12_1, an_13, an_14, rv_15_0, rv_15_1, an_16, an_17, rv_18_0, rv_18_1, an_19, an_20, rv_21_0, rv_21_1, an_22, an_23, rv_24_0, rv_24_1, rv_24_2, an_25, an_26, an_27, rv_28_0, rv_28_1, rv_28_2, an_29, an_30, an_31, rv_32_0, rv_32_1, an_33, an_34, rv_35_0, rv_35_1, rv_35_2, rv_35_3, rv_35_4, rv_35_5, rv_35_6, an_36, an_37, an_38, an_39, an_40, rv_41_0, rv_41_1, rv_41_3, rv_41_4, rv_41_5, an_42, an_43, an_44, an_45, rv_46_0, rv_46_1, rv_46_2, rv_46_3, rv_46_4, rv_46_6, an_47, an_48, rv_49_0, rv_49_1, an_50, rv_51_0, rv_51_1, rv_51_2, rv_51_3, rv_51_4, rv_51_6, rv_51_7, an_52, an_53, an_54, an_55, rv_56_1, rv_56_2, rv_56_3, rv_56_4, rv_56_15, rv_56_16, rv_56_17, rv_56_19, rv_56_22, rv_56_23, rv_56_24, rv_56_25, rv_56_26, rv_56_27, rv_56_28, rv_56_31, rv_56_33, rv_56_35, rv_56_36, rv_56_37, rv_56_39, rv_56_40, rv_56_41, rv_56_42, rv_56_43, rv_56_44, rv_56_46, rv_56_47, rv_56_48, rv_56_49, rv_56_51, rv_56_52, rv_56_54, an_57, an_58, an_59, an_60, an_61, an_62, an_63, an_64, an_65, an_66, an_67, an_68, an_69, an_70, an_71, an_72, an_73, an_74, an_75, an_76, an_77, an_78, an_79, an_80, an_81, an_82, an_83, an_84, an_85, an_86, an_87, og_ix, nI_clamp, R1.mw hp, R1.mp hp, R1.ms hp, f_X12_pair_25, f_X12_pair_60, decide_eq_false_iff_not, isIn_02]
      simp only [Bool.true_eq_false, if_false]
      grind
    exact ⟨_, h, _, e1, e2, G_of R (agr_refl (W := []) h) (w_f_X12_pair_i56 _ _ _ _ e2) rfl rfl⟩
  · have hk' : knB (nI v.n) a1 = false := by simpa using hk
    have e1 : f_X11_pair 0 a1 a2 h = some (-1, h) := by
      simp only [f_X11_pair, e_X11_isKnown, ob_some, R.cn, hk', zb_0, if_true]
    have e2 : f_X12_pair 56 a1 a2 h = some (-1, sI h 56 0 0) := by
      simp only [f_X12_pair, nm_id, e_X12_isPerson, ob_some, R1.mn, hk', zb_0, if_true, f_X12_pair_25]
    exact ⟨_, h, _, e1, e2, G_of R (agr_refl (W := []) h) (w_f_X12_pair_i56 _ _ _ _ e2) rfl rfl⟩
def c10 (x : Int32) : Int32 := if x < 10 then 0 else 1
theorem e_X9_alone (h : AH) : f_X9_alone 24 h = some (zs (fun i => c10 (h.1 26 i)) 6, h) := by
  unfold f_X9_alone
  refine lp (fun n i s => f_X9_alone_4 n 24 s (nI i) h = some (zs (fun i => c10 (h.1 26 i)) 6, h)) (fun i s => s = zs (fun i => c10 (h.1 26 i)) i) 6 (by decide) ?_ ?_ rfl
  · rintro n s rfl
    rw [f_X9_alone_4]
    simp (disch := omega) only [k_mul, k_mul', k_add, k_le, k_le', k_lt, k_lt', k_eq, n_le, n_lt, n_eq, n_m1, nI_add, pk_mul, Nat.le_refl, if_true]
  · rintro n i s hi rfl K
    rw [f_X9_alone_4]
    have := K _ rfl
    simp (disch := omega) only [k_mul, k_mul', k_add, k_le, k_le', k_lt, k_lt', k_eq, n_le, n_lt, n_eq, n_m1, nI_add, pk_mul, rv_0_0, rv_0_1, rv_0_2, rv_0_3, rv_0_4, rv_0_6, rv_0_7, rv_0_9, rv_0_10, rv_0_11, rv_0_12, rv_0_13, rv_0_14, rv_1_0, an_2, rv_3_0, rv_3_1, an_4, an_5, rv_6_0, rv_6_1, an_7, an_8, rv_9_0, rv_9_1, an_10, an_11, rv_12_0, rv_12_1, an_13, an_14, rv_15_0, rv_15_1, an_16, an_17, rv_18_0, rv_18_1, an_19, an_20, rv_21_0, rv_21_1, an_22, an_23, rv_24_0, rv_24_1, rv_24_2, an_25, an_26, an_27, rv_28_0, rv_28_1, rv_28_2, an_29, an_30, an_31, rv_32_0, rv_32_1, an_33, an_34, rv_35_0, rv_35_1, rv_35_2, rv_35_3, rv_35_4, rv_35_5, rv_35_6, an_36, an_37, an_38, an_39, an_40, rv_41_0, rv_41_1, rv_41_3, rv_41_4, rv_41_5, an_42, an_43, an_44, an_45, rv_46_0, rv_46_1, rv_46_2, rv_46_3, rv_46_4, rv_46_6, an_47, an_48, rv_49_0, rv_49_1, an_50, rv_51_0, rv_51_1, rv_51_2, rv_51_3, rv_51_4, rv_51_6, rv_51_7, an_52, an_53, an_54, an_55, rv_56_1, rv_56_2, rv_56_3, rv_56_4, rv_56_15, rv_56_16, rv_56_17, rv_56_19, rv_56_22, rv_56_23, rv_56_24, rv_56_25, rv_56_26, rv_56_27, rv_56_28, rv_56_31, rv_56_33, rv_56_35, rv_56_36, rv_56_37, rv_56_39, rv_56_40, rv_56_41, rv_56_42, rv_56_43, rv_56_44, rv_56_46, rv_56_47, rv_56_48, rv_56_49, rv_56_51, rv_56_52, rv_56_54, an_57, an_58, an_59, an_60, an_61, an_62, an_63, an_64, an_65, an_66, an_67, an_68, an_69, an_70, an_71, an_72, an_73, an_74, an_75, an_76, an_77, an_78, an_79, an_80, an_81, an_82, an_83, an_84, an_85, an_86, an_87, f_X9_alone_27, nm_id, og_ix, nI_clamp, if_neg (show ¬ 6 ≤ i by omega)]
    rw [zs] at this
    split
    · rename_i c
      simpa [c10, c] using this
    · rename_i c
      simpa [c10, c] using this
theorem e_X12_count_73 {v : Wd} {h : AH} (R : RelV v h) : f_X12_count_73 FU 56 0 0 h = some (zs (fun i => c10 (h.1 63 i)) v.n, h) := by
  have hn := R.n6
  refine lp (fun n i s => f_X12_count_73 n 56 s (nI i) h = some (zs (fun i => c10 (h.1 63 i)) v.n, h)) (fun i s => s = zs (fun i => c10 (h.1 63 i)) i) v.n (by omega) ?_ ?_ rfl
  · rintro n s rfl
    rw [f_X12_count_73]
    simp (disch := omega) only [k_mul, k_mul', k_add, k_le, k_le', k_lt, k_lt', k_eq, n_le, n_lt, n_eq, n_m1, nI_add, pk_mul, R.mn, Nat.le_refl, if_true]
  · rintro n i s hi rfl K
    rw [f_X12_count_73]
    have := K _ rfl
    simp (disch := omega) only [k_mul, k_mul', k_add, k_le, k_le', k_lt, k_lt', k_eq, n_le, n_lt, n_eq, n_m1, nI_add, pk_mul, rv_0_0, rv_0_1, rv_0_2, rv_0_3, rv_0_4, rv_0_6, rv_0_7, rv_0_9, rv_0_10, rv_0_11, rv_0_12, rv_0_13, rv_0_14, rv_1_0, an_2, rv_3_0, rv_3_1, an_4, an_5, rv_6_0, rv_6_1, an_7, an_8, rv_9_0, rv_9_1, an_10, an_11, rv_12_0, rv_12_1, an_13, an_14, rv_15_0, rv_15_1, an_16, an_17, rv_18_0, rv_18_1, an_19, an_20, rv_21_0, rv_21_1, an_22, an_23, rv_24_0, rv_24_1, rv_24_2, an_25, an_26, an_27, rv_28_0, rv_28_1, rv_28_2, an_29, an_30, an_31, rv_32_0, rv_32_1, an_33, an_34, rv_35_0, rv_35_1, rv_35_2, rv_35_3, rv_35_4, rv_35_5, rv_35_6, an_36, an_37, an_38, an_39, an_40, rv_41_0, rv_41_1, rv_41_3, rv_41_4, rv_41_5, an_42, an_43, an_44, an_45, rv_46_0, rv_46_1, rv_46_2, rv_46_3, rv_46_4, rv_46_6, an_47, an_48, rv_49_0, rv_49_1, an_50, rv_51_0, rv_51_1, rv_51_2, rv_51_3, rv_51_4, rv_51_6, rv_51_7, an_52, an_53, an_54, an_55, rv_56_1, rv_56_2, rv_56_3, rv_56_4, rv_56_15, rv_56_16, rv_56_17, rv_56_19, rv_56_22, rv_56_23, rv_56_24, rv_56_25, rv_56_26, rv_56_27, rv_56_28, rv_56_31, rv_56_33, rv_56_35, rv_56_36, rv_56_37, rv_56_39, rv_56_40, rv_56_41, rv_56_42, rv_56_43, rv_56_44, rv_56_46, rv_56_47, rv_56_48, rv_56_49, rv_56_51, rv_56_52, rv_56_54, an_57, an_58, an_59, an_60, an_61, an_62, an_63, an_64, an_65, an_66, an_67, an_68, an_69, an_70, an_71, an_72, an_73, an_74, an_75, an_76, an_77, an_78, an_79, an_80, an_81, an_82, an_83, an_84, an_85, an_86, an_87, R.mn, f_X12_count_98, nm_id, og_ix, nI_clamp, if_neg (show ¬ v.n ≤ i by omega)]
    rw [zs] at this
    split
    · rename_i c
      simpa [c10, c] using this
    · rename_i c
      simpa [c10, c] using this
theorem g32 : G32 Rel := by
  intro h ⟨v, R⟩ a
  have R1 := R.thr (x := 0)
  have hn := R.n6
  have e : zs (fun i => c10 (h.1 26 i)) 6 = zs (fun i => c10 ((sI h 56 0 0).1 63 i)) v.n := by
    rw [zs_ext (n := v.n) (fun i a b => ?_) hn]
    · exact zs_cong (fun i hi => by rw [R.cp hi, R1.mp hi])
    · have := R.cpn a b
      simp only [this]
      split <;> rfl
  have e1 : f_X11_count 0 a h = some (if a = 0 then nI v.n else if a = 1 then nI v.rc else if a = 2 then nI v.L else if a = 3 then nI v.E else if a = 4 then nI v.S else if a = 5 then zs (fun i => c10 (h.1 26 i)) 6 else -1000000, h) := by
    simp only [f_X11_count, rv_0_0, rv_0_1, rv_0_2, rv_0_3, rv_0_4, rv_0_6, rv_0_7, rv_0_9, rv_0_10, rv_0_11, rv_0_12, rv_0_13, rv_0_14, rv_1_0, an_2, rv_3_0, rv_3_1, an_4, an_5, rv_6_0, rv_6_1, an_7, an_8, rv_9_0, rv_9_1, an_10, an_11, rv_12_0, rv_12_1, an_13, an_14, rv_15_0, rv_15_1, an_16, an_17, rv_18_0, rv_18_1, an_19, an_20, rv_21_0, rv_21_1, an_22, an_23, rv_24_0, rv_24_1, rv_24_2, an_25, an_26, an_27, rv_28_0, rv_28_1, rv_28_2, an_29, an_30, an_31, rv_32_0, rv_32_1, an_33, an_34, rv_35_0, rv_35_1, rv_35_2, rv_35_3, rv_35_4, rv_35_5, rv_35_6, an_36, an_37, an_38, an_39, an_40, rv_41_0, rv_41_1, rv_41_3, rv_41_4, rv_41_5, an_42, an_43, an_44, an_45, rv_46_0, rv_46_1, rv_46_2, rv_46_3, rv_46_4, rv_46_6, an_47, an_48, rv_49_0, rv_49_1, an_50, rv_51_0, rv_51_1, rv_51_2, rv_51_3, rv_51_4, rv_51_6, rv_51_7, an_52, an_53, an_54, an_55, rv_56_1, rv_56_2, rv_56_3, rv_56_4, rv_56_15, rv_56_16, rv_56_17, rv_56_19, rv_56_22, rv_56_23, rv_56_24, rv_56_25, rv_56_26, rv_56_27, rv_56_28, rv_56_31, rv_56_33, rv_56_35, rv_56_36, rv_56_37, rv_56_39, rv_56_40, rv_56_41, rv_56_42, rv_56_43, rv_56_44, rv_56_46, rv_56_47, rv_56_48, rv_56_49, rv_56_51, rv_56_52, rv_56_54, an_57, an_58, an_59, an_60, an_61, an_62, an_63, an_64, an_65, an_66, an_67, an_68, an_69, an_70, an_71, an_72, an_73, an_74, an_75, an_76, an_77, an_78, an_79, an_80, an_81, an_82, an_83, an_84, an_85, an_86, an_87, e_X9_alone, ob_some, R.cn, R.crc, R.cL, R.cE, R.cS]
    grind
  have e2 : f_X12_count 56 a h = some (if a = 0 then nI v.n else if a = 1 then nI v.rc else if a = 2 then nI v.L else if a = 3 then nI v.E else if a = 4 then nI v.S else if a = 5 then zs (fun i => c10 (h.1 26 i)) 6 else -1000000, sI h 56 0 0) := by
    rw [e]
    simp only [f_X12_count, nm_id, rv_0_0, rv_0_1, rv_0_2, rv_0_3, rv_0_4, rv_0_6, rv_0_7, rv_0_9, rv_0_10, rv_0_11, rv_0_12, rv_0_13, rv_0_14, rv_1_0, an_2, rv_3_0, rv_3_1, an_4, an_5, rv_6_0, rv_6_1, an_7, an_8, rv_9_0, rv_9_1, an_10, an_11, rv_12_0, rv_12_1, an_13, an_14, rv_15_0, rv_15_1, an_16, an_17, rv_18_0, rv_18_1, an_19, an_20, rv_21_0, rv_21_1, an_22, an_23, rv_24_0, rv_24_1, rv_24_2, an_25, an_26, an_27, rv_28_0, rv_28_1, rv_28_2, an_29, an_30, an_31, rv_32_0, rv_32_1, an_33, an_34, rv_35_0, rv_35_1, rv_35_2, rv_35_3, rv_35_4, rv_35_5, rv_35_6, an_36, an_37, an_38, an_39, an_40, rv_41_0, rv_41_1, rv_41_3, rv_41_4, rv_41_5, an_42, an_43, an_44, an_45, rv_46_0, rv_46_1, rv_46_2, rv_46_3, rv_46_4, rv_46_6, an_47, an_48, rv_49_0, rv_49_1, an_50, rv_51_0, rv_51_1, rv_51_2, rv_51_3, rv_51_4, rv_51_6, rv_51_7, an_52, an_53, an_54, an_55, rv_56_1, rv_56_2, rv_56_3, rv_56_4, rv_56_15, rv_56_16, rv_56_17, rv_56_19, rv_56_22, rv_56_23, rv_56_24, rv_56_25, rv_56_26, rv_56_27, rv_56_28, rv_56_31, rv_56_33, rv_56_35, rv_56_36, rv_56_37, rv_56_39, rv_56_40, rv_56_41, rv_56_42, rv_56_43, rv_56_44, rv_56_46, rv_56_47, rv_56_48, rv_56_49, rv_56_51, rv_56_52, rv_56_54, an_57, an_58, an_59, an_60, an_61, an_62, an_63, an_64, an_65, an_66, an_67, an_68, an_69, an_70, an_71, an_72, an_73, an_74, an_75, an_76, an_77, an_78, an_79, an_80, an_81, an_82, an_83, an_84, an_85, an_86, an_87, e_X12_count_73 R1, R1.mn, R1.mrc, R1.mL, R1.mE, R1.mS]
    grind
  exact ⟨_, h, _, e1, e2, G_of R (agr_refl (W := []) h) (w_f_X12_count_i56 _ _ _ e2) rfl rfl⟩
theorem g28 : G28 Rel := by
  intro h ⟨v, R⟩
  have R1 := R.thr (x := 0)
  have hn := R.n6
  have hz : (nI v.n = 0) = (v.n = 0) := n_eq (b := 0) (by omega) (by omega)
  let c : Nat → Int32 := fun i => nI (v.it i 2) - nI (v.wo i)
  have e1 : f_X11_lost 0 h = some (if v.n = 0 then -1 else zs c v.n, h) := by
    simp only [f_X11_lost, rv_0_0, rv_0_1, rv_0_2, rv_0_3, rv_0_4, rv_0_6, rv_0_7, rv_0_9, rv_0_10, rv_0_11, rv_0_12, rv_0_13, rv_0_14, rv_1_0, an_2, rv_3_0, rv_3_1, an_4, an_5, rv_6_0, rv_6_1, an_7, an_8, rv_9_0, rv_9_1, an_10, an_11, rv_12_0, rv_12_1, an_13, an_14, rv_15_0, rv_15_1, an_16, an_17, rv_18_0, rv_18_1, an_19, an_20, rv_21_0, rv_21_1, an_22, an_23, rv_24_0, rv_24_1, rv_24_2, an_25, an_26, an_27, rv_28_0, rv_28_1, rv_28_2, an_29, an_30, an_31, rv_32_0, rv_32_1, an_33, an_34, rv_35_0, rv_35_1, rv_35_2, rv_35_3, rv_35_4, rv_35_5, rv_35_6, an_36, an_37, an_38, an_39, an_40, rv_41_0, rv_41_1, rv_41_3, rv_41_4, rv_41_5, an_42, an_43, an_44, an_45, rv_46_0, rv_46_1, rv_46_2, rv_46_3, rv_46_4, rv_46_6, an_47, an_48, rv_49_0, rv_49_1, an_50, rv_51_0, rv_51_1, rv_51_2, rv_51_3, rv_51_4, rv_51_6, rv_51_7, an_52, an_53, an_54, an_55, rv_56_1, rv_56_2, rv_56_3, rv_56_4, rv_56_15, rv_56_16, rv_56_17, rv_56_19, rv_56_22, rv_56_23, rv_56_24, rv_56_25, rv_56_26, rv_56_27, rv_56_28, rv_56_31, rv_56_33, rv_56_35, rv_56_36, rv_56_37, rv_56_39, rv_56_40, rv_56_41, rv_56_42, rv_56_43, rv_56_44, rv_56_46, rv_56_47, rv_56_48, rv_56_49, rv_56_51, rv_56_52, rv_56_54, an_57, an_58, an_59, an_60, an_61, an_62, an_63, an_64, an_65, an_66, an_67, an_68, an_69, an_70, an_71, an_72, an_73, an_74, an_75, an_76, an_77, an_78, an_79, an_80, an_81, an_82, an_83, an_84, an_85, an_86, an_87, R.cn, hz]
    have : f_X11_lost_16 FU 0 0 0 h = some (zs c v.n, h) := by
      refine lp (fun n i s => f_X11_lost_16 n 0 s (nI i) h = some (zs c v.n, h)) (fun i s => s = zs c i) v.n (by omega) ?_ ?_ rfl
      · rintro n s rfl
        rw [f_X11_lost_16]
        simp (disch := omega) only [k_mul, k_mul', k_add, k_le, k_le', k_lt, k_lt', k_eq, n_le, n_lt, n_eq, n_m1, nI_add, pk_mul, rv_0_0, rv_0_1, rv_0_2, rv_0_3, rv_0_4, rv_0_6, rv_0_7, rv_0_9, rv_0_10, rv_0_11, rv_0_12, rv_0_13, rv_0_14, rv_1_0, an_2, rv_3_0, rv_3_1, an_4, an_5, rv_6_0, rv_6_1, an_7, an_8, rv_9_0, rv_9_1, an_10, an_11, rv_12_0, rv_12_1, an_13, an_14, rv_15_0, rv_15_1, an_16, an_17, rv_18_0, rv_18_1, an_19, an_20, rv_21_0, rv_21_1, an_22, an_23, rv_24_0, rv_24_1, rv_24_2, an_25, an_26, an_27, rv_28_0, rv_28_1, rv_28_2, an_29, an_30, an_31, rv_32_0, rv_32_1, an_33, an_34, rv_35_0, rv_35_1, rv_35_2, rv_35_3, rv_35_4, rv_35_5, rv_35_6, an_36, an_37, an_38, an_39, an_40, rv_41_0, rv_41_1, rv_41_3, rv_41_4, rv_41_5, an_42, an_43, an_44, an_45, rv_46_0, rv_46_1, rv_46_2, rv_46_3, rv_46_4, rv_46_6, an_47, an_48, rv_49_0, rv_49_1, an_50, rv_51_0, rv_51_1, rv_51_2, rv_51_3, rv_51_4, rv_51_6, rv_51_7, an_52, an_53, an_54, an_55, rv_56_1, rv_56_2, rv_56_3, rv_56_4, rv_56_15, rv_56_16, rv_56_17, rv_56_19, rv_56_22, rv_56_23, rv_56_24, rv_56_25, rv_56_26, rv_56_27, rv_56_28, rv_56_31, rv_56_33, rv_56_35, rv_56_36, rv_56_37, rv_56_39, rv_56_40, rv_56_41, rv_56_42, rv_56_43, rv_56_44, rv_56_46, rv_56_47, rv_56_48, rv_56_49, rv_56_51, rv_56_52, rv_56_54, an_57, an_58, an_59, an_60, an_61, an_62, an_63, an_64, an_65, an_66, an_67, an_68, an_69, an_70, an_71, an_72, an_73, an_74, an_75, an_76, an_77, an_78, an_79, an_80, an_81, an_82, an_83, an_84, an_85, an_86, an_87, R.cn, Nat.le_refl, if_true]
      · rintro n i s hi rfl K
        rw [f_X11_lost_16]
        simp (disch := omega) only [k_mul, k_mul', k_add, k_le, k_le', k_lt, k_lt', k_eq, n_le, n_lt, n_eq, n_m1, nI_add, pk_mul, rv_0_0, rv_0_1, rv_0_2, rv_0_3, rv_0_4, rv_0_6, rv_0_7, rv_0_9, rv_0_10, rv_0_11, rv_0_12, rv_0_13, rv_0_14, rv_1_0, an_2, rv_3_0, rv_3_1, an_4, an_5, rv_6_0, rv_6_1, an_7, an_8, rv_9_0, rv_9_1, an_10, an_11, rv_12_0, rv_12_1, an_13, an_14, rv_15_0, rv_15_1, an_16, an_17, rv_18_0, rv_18_1, an_19, an_20, rv_21_0, rv_21_1, an_22, an_23, rv_24_0, rv_24_1, rv_24_2, an_25, an_26, an_27, rv_28_0, rv_28_1, rv_28_2, an_29, an_30, an_31, rv_32_0, rv_32_1, an_33, an_34, rv_35_0, rv_35_1, rv_35_2, rv_35_3, rv_35_4, rv_35_5, rv_35_6, an_36, an_37, an_38, an_39, an_40, rv_41_0, rv_41_1, rv_41_3, rv_41_4, rv_41_5, an_42, an_43, an_44, an_45, rv_46_0, rv_46_1, rv_46_2, rv_46_3, rv_46_4, rv_46_6, an_47, an_48, rv_49_0, rv_49_1, an_50, rv_51_0, rv_51_1, rv_51_2, rv_51_3, rv_51_4, rv_51_6, rv_51_7, an_52, an_53, an_54, an_55, rv_56_1, rv_56_2, rv_56_3, rv_56_4, rv_56_15, rv_56_16, rv_56_17, rv_56_19, rv_56_22, rv_56_23, rv_56_24, rv_56_25, rv_56_26, rv_56_27, rv_56_28, rv_56_31, rv_56_33, rv_56_35, rv_56_36, rv_56_37, rv_56_39, rv_56_40, rv_56_41, rv_56_42, rv_56_43, rv_56_44, rv_56_46, rv_56_47, rv_56_48, rv_56_49, rv_56_51, rv_56_52, rv_56_54, an_57, an_58, an_59, an_60, an_61, an_62, an_63, an_64, an_65, an_66, an_67, an_68, an_69, an_70, an_71, an_72, an_73, an_74, an_75, an_76, an_77, an_78, an_79, an_80, an_81, an_82, an_83, an_84, an_85, an_86, an_87, R.cn, if_neg (show ¬ v.n ≤ i by omega), show (2 : Int32) = nI 2 from rfl, e_X6_item R.cP hi, ob_some, og_ix, nI_clamp, nm_id, R.cw hi]
        exact K _ rfl
    rw [this]
    grind
  have e2 : f_X12_lost 56 h = some (if v.n = 0 then -1 else zs c v.n, sI h 56 0 0) := by
    simp only [f_X12_lost, nm_id, rv_0_0, rv_0_1, rv_0_2, rv_0_3, rv_0_4, rv_0_6, rv_0_7, rv_0_9, rv_0_10, rv_0_11, rv_0_12, rv_0_13, rv_0_14, rv_1_0, an_2, rv_3_0, rv_3_1, an_4, an_5, rv_6_0, rv_6_1, an_7, an_8, rv_9_0, rv_9_1, an_10, an_11, rv_12_0, rv_12_1, an_13, an_14, rv_15_0, rv_15_1, an_16, an_17, rv_18_0, rv_18_1, an_19, an_20, rv_21_0, rv_21_1, an_22, an_23, rv_24_0, rv_24_1, rv_24_2, an_25, an_26, an_27, rv_28_0, rv_28_1, rv_28_2, an_29, an_30, an_31, rv_32_0, rv_32_1, an_33, an_34, rv_35_0, rv_35_1, rv_35_2, rv_35_3, rv_35_4, rv_35_5, rv_35_6, an_36, an_37, an_38, an_39, an_40, rv_41_0, rv_41_1, rv_41_3, rv_41_4, rv_41_5, an_42, an_43, an_44, an_45, rv_46_0, rv_46_1, rv_46_2, rv_46_3, rv_46_4, rv_46_6, an_47, an_48, rv_49_0, rv_49_1, an_50, rv_51_0, rv_51_1, rv_51_2, rv_51_3, rv_51_4, rv_51_6, rv_51_7, an_52, an_53, an_54, an_55, rv_56_1, rv_56_2, rv_56_3, rv_56_4, rv_56_15, rv_56_16, rv_56_17, rv_56_19, rv_56_22, rv_56_23, rv_56_24, rv_56_25, rv_56_26, rv_56_27, rv_56_28, rv_56_31, rv_56_33, rv_56_35, rv_56_36, rv_56_37, rv_56_39, rv_56_40, rv_56_41, rv_56_42, rv_56_43, rv_56_44, rv_56_46, rv_56_47, rv_56_48, rv_56_49, rv_56_51, rv_56_52, rv_56_54, an_57, an_58, an_59, an_60, an_61, an_62, an_63, an_64, an_65, an_66, an_67, an_68, an_69, an_70, an_71, an_72, an_73, an_74, an_75, an_76, an_77, an_78, an_79, an_80, an_81, an_82, an_83, an_84, an_85, an_86, an_87, R1.mn, hz]
    have : f_X12_lost_18 FU 56 0 0 (sI h 56 0 0) = some (zs c v.n, sI h 56 0 0) := by
      refine lp (fun n i s => f_X12_lost_18 n 56 s (nI i) (sI h 56 0 0) = some (zs c v.n, sI h 56 0 0)) (fun i s => s = zs c i) v.n (by omega) ?_ ?_ rfl
      · rintro n s rfl
        rw [f_X12_lost_18]
        simp (disch := omega) only [k_mul, k_mul', k_add, k_le, k_le', k_lt, k_lt', k_eq, n_le, n_lt, n_eq, n_m1, nI_add, pk_mul, rv_0_0, rv_0_1, rv_0_2, rv_0_3, rv_0_4, rv_0_6, rv_0_7, rv_0_9, rv_0_10, rv_0_11, rv_0_12, rv_0_13, rv_0_14, rv_1_0, an_2, rv_3_0, rv_3_1, an_4, an_5, rv_6_0, rv_6_1, an_7, an_8, rv_9_0, rv_9_1, an_10, an_11, rv_12_0, rv_12_1, an_13, an_14, rv_15_0, rv_15_1, an_16, an_17, rv_18_0, rv_18_1, an_19, an_20, rv_21_0, rv_21_1, an_22, an_23, rv_24_0, rv_24_1, rv_24_2, an_25, an_26, an_27, rv_28_0, rv_28_1, rv_28_2, an_29, an_30, an_31, rv_32_0, rv_32_1, an_33, an_34, rv_35_0, rv_35_1, rv_35_2, rv_35_3, rv_35_4, rv_35_5, rv_35_6, an_36, an_37, an_38, an_39, an_40, rv_41_0, rv_41_1, rv_41_3, rv_41_4, rv_41_5, an_42, an_43, an_44, an_45, rv_46_0, rv_46_1, rv_46_2, rv_46_3, rv_46_4, rv_46_6, an_47, an_48, rv_49_0, rv_49_1, an_50, rv_51_0, rv_51_1, rv_51_2, rv_51_3, rv_51_4, rv_51_6, rv_51_7, an_52, an_53, an_54, an_55, rv_56_1, rv_56_2, rv_56_3, rv_56_4, rv_56_15, rv_56_16, rv_56_17, rv_56_19, rv_56_22, rv_56_23, rv_56_24, rv_56_25, rv_56_26, rv_56_27, rv_56_28, rv_56_31, rv_56_33, rv_56_35, rv_56_36, rv_56_37, rv_56_39, rv_56_40, rv_56_41, rv_56_42, rv_56_43, rv_56_44, rv_56_46, rv_56_47, rv_56_48, rv_56_49, rv_56_51, rv_56_52, rv_56_54, an_57, an_58, an_59, an_60, an_61, an_62, an_63, an_64, an_65, an_66, an_67, an_68, an_69, an_70, an_71, an_72, an_73, an_74, an_75, an_76, an_77, an_78, an_79, an_80, an_81, an_82, an_83, an_84, an_85, an_86, an_87, R1.mn, Nat.le_refl, if_true]
      · rintro n i s hi rfl K
        rw [f_X12_lost_18]
        simp (disch := omega) only [k_mul, k_mul', k_add, k_le, k_le', k_lt, k_lt', k_eq, n_le, n_lt, n_eq, n_m1, nI_add, pk_mul, rv_0_0, rv_0_1, rv_0_2, rv_0_3, rv_0_4, rv_0_6, rv_0_7, rv_0_9, rv_0_10, rv_0_11, rv_0_12, rv_0_13, rv_0_14, rv_1_0, an_2, rv_3_0, rv_3_1, an_4, an_5, rv_6_0, rv_6_1, an_7, an_8, rv_9_0, rv_9_1, an_10, an_11, rv_12_0, rv_12_1, an_13, an_14, rv_15_0, rv_15_1, an_16, an_17, rv_18_0, rv_18_1, an_19, an_20, rv_21_0, rv_21_1, an_22, an_23, rv_24_0, rv_24_1, rv_24_2, an_25, an_26, an_27, rv_28_0, rv_28_1, rv_28_2, an_29, an_30, an_31, rv_32_0, rv_32_1, an_33, an_34, rv_35_0, rv_35_1, rv_35_2, rv_35_3, rv_35_4, rv_35_5, rv_35_6, an_36, an_37, an_38, an_39, an_40, rv_41_0, rv_41_1, rv_41_3, rv_41_4, rv_41_5, an_42, an_43, an_44, an_45, rv_46_0, rv_46_1, rv_46_2, rv_46_3, rv_46_4, rv_46_6, an_47, an_48, rv_49_0, rv_49_1, an_50, rv_51_0, rv_51_1, rv_51_2, rv_51_3, rv_51_4, rv_51_6, rv_51_7, an_52, an_53, an_54, an_55, rv_56_1, rv_56_2, rv_56_3, rv_56_4, rv_56_15, rv_56_16, rv_56_17, rv_56_19, rv_56_22, rv_56_23, rv_56_24, rv_56_25, rv_56_26, rv_56_27, rv_56_28, rv_56_31, rv_56_33, rv_56_35, rv_56_36, rv_56_37, rv_56_39, rv_56_40, rv_56_41, rv_56_42, rv_56_43, rv_56_44, rv_56_46, rv_56_47, rv_56_48, rv_56_49, rv_56_51, rv_56_52, rv_56_54, an_57, an_58, an_59, an_60, an_61, an_62, an_63, an_64, an_65, an_66, an_67, an_68, an_69, an_70, an_71, an_72, an_73, an_74, an_75, an_76, an_77, an_78, an_79, an_80, an_81, an_82, an_83, an_84, an_85, an_86, an_87, R1.mn, if_neg (show ¬ v.n ≤ i by omega), og_ix, nI_clamp, nm_id, R1.mw hi, R1.mi hi]
        exact K _ rfl
    rw [this]
    grind
  exact ⟨_, h, _, e1, e2, G_of R (agr_refl (W := []) h) (w_f_X12_lost_i56 _ _ e2) rfl rfl⟩
