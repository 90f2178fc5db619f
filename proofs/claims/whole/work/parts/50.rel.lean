theorem rv_0_0 : rf 0 0 = 1 := rfl
theorem rv_0_1 : rf 0 1 = 3 := rfl
theorem rv_0_2 : rf 0 2 = 6 := rfl
theorem rv_0_3 : rf 0 3 = 9 := rfl
theorem rv_0_4 : rf 0 4 = 11 := rfl
theorem rv_0_6 : rf 0 6 = 24 := rfl
theorem rv_0_7 : rf 0 7 = 28 := rfl
theorem rv_0_9 : rf 0 9 = 32 := rfl
theorem rv_0_10 : rf 0 10 = 35 := rfl
theorem rv_0_11 : rf 0 11 = 41 := rfl
theorem rv_0_12 : rf 0 12 = 46 := rfl
theorem rv_0_13 : rf 0 13 = 49 := rfl
theorem rv_0_14 : rf 0 14 = 51 := rfl
theorem rv_1_0 : rf 1 0 = 2 := rfl
theorem an_2 : an 2 = 160 := rfl
theorem rv_3_0 : rf 3 0 = 4 := rfl
theorem rv_3_1 : rf 3 1 = 5 := rfl
theorem an_4 : an 4 = 42 := rfl
theorem an_5 : an 5 = 6 := rfl
theorem rv_6_0 : rf 6 0 = 7 := rfl
theorem rv_6_1 : rf 6 1 = 8 := rfl
theorem an_7 : an 7 = 42 := rfl
theorem an_8 : an 8 = 6 := rfl
theorem rv_9_0 : rf 9 0 = 1 := rfl
theorem rv_9_1 : rf 9 1 = 10 := rfl
theorem an_10 : an 10 = 161 := rfl
theorem an_11 : an 11 = 4 := rfl
theorem rv_12_0 : rf 12 0 = 13 := rfl
theorem rv_12_1 : rf 12 1 = 14 := rfl
theorem an_13 : an 13 = 161 := rfl
theorem an_14 : an 14 = 64 := rfl
theorem rv_15_0 : rf 15 0 = 16 := rfl
theorem rv_15_1 : rf 15 1 = 17 := rfl
theorem an_16 : an 16 = 161 := rfl
theorem an_17 : an 17 = 64 := rfl
theorem rv_18_0 : rf 18 0 = 19 := rfl
theorem rv_18_1 : rf 18 1 = 20 := rfl
theorem an_19 : an 19 = 161 := rfl
theorem an_20 : an 20 = 64 := rfl
theorem rv_21_0 : rf 21 0 = 22 := rfl
theorem rv_21_1 : rf 21 1 = 23 := rfl
theorem an_22 : an 22 = 161 := rfl
theorem an_23 : an 23 = 64 := rfl
theorem rv_24_0 : rf 24 0 = 25 := rfl
theorem rv_24_1 : rf 24 1 = 26 := rfl
theorem rv_24_2 : rf 24 2 = 27 := rfl
theorem an_25 : an 25 = 6 := rfl
theorem an_26 : an 26 = 6 := rfl
theorem an_27 : an 27 = 6 := rfl
theorem rv_28_0 : rf 28 0 = 29 := rfl
theorem rv_28_1 : rf 28 1 = 30 := rfl
theorem rv_28_2 : rf 28 2 = 31 := rfl
theorem an_29 : an 29 = 6 := rfl
theorem an_30 : an 30 = 6 := rfl
theorem an_31 : an 31 = 6 := rfl
theorem rv_32_0 : rf 32 0 = 33 := rfl
theorem rv_32_1 : rf 32 1 = 34 := rfl
theorem an_33 : an 33 = 180 := rfl
theorem an_34 : an 34 = 60 := rfl
theorem rv_35_0 : rf 35 0 = 3 := rfl
theorem rv_35_1 : rf 35 1 = 11 := rfl
theorem rv_35_2 : rf 35 2 = 36 := rfl
theorem rv_35_3 : rf 35 3 = 37 := rfl
theorem rv_35_4 : rf 35 4 = 38 := rfl
theorem rv_35_5 : rf 35 5 = 39 := rfl
theorem rv_35_6 : rf 35 6 = 40 := rfl
theorem an_36 : an 36 = 6 := rfl
theorem an_37 : an 37 = 6 := rfl
theorem an_38 : an 38 = 252 := rfl
theorem an_39 : an 39 = 384 := rfl
theorem an_40 : an 40 = 6 := rfl
theorem rv_41_0 : rf 41 0 = 35 := rfl
theorem rv_41_1 : rf 41 1 = 42 := rfl
theorem rv_41_3 : rf 41 3 = 43 := rfl
theorem rv_41_4 : rf 41 4 = 44 := rfl
theorem rv_41_5 : rf 41 5 = 45 := rfl
theorem an_42 : an 42 = 6 := rfl
theorem an_43 : an 43 = 6 := rfl
theorem an_44 : an 44 = 7 := rfl
theorem an_45 : an 45 = 6 := rfl
theorem rv_46_0 : rf 46 0 = 3 := rfl
theorem rv_46_1 : rf 46 1 = 24 := rfl
theorem rv_46_2 : rf 46 2 = 35 := rfl
theorem rv_46_3 : rf 46 3 = 41 := rfl
theorem rv_46_4 : rf 46 4 = 47 := rfl
theorem rv_46_6 : rf 46 6 = 48 := rfl
theorem an_47 : an 47 = 6 := rfl
theorem an_48 : an 48 = 1024 := rfl
theorem rv_49_0 : rf 49 0 = 35 := rfl
theorem rv_49_1 : rf 49 1 = 50 := rfl
theorem an_50 : an 50 = 448 := rfl
theorem rv_51_0 : rf 51 0 = 3 := rfl
theorem rv_51_1 : rf 51 1 = 24 := rfl
theorem rv_51_2 : rf 51 2 = 41 := rfl
theorem rv_51_3 : rf 51 3 = 52 := rfl
theorem rv_51_4 : rf 51 4 = 53 := rfl
theorem rv_51_6 : rf 51 6 = 54 := rfl
theorem rv_51_7 : rf 51 7 = 55 := rfl
theorem an_52 : an 52 = 24 := rfl
theorem an_53 : an 53 = 24 := rfl
theorem an_54 : an 54 = 625 := rfl
theorem an_55 : an 55 = 625 := rfl
theorem rv_56_1 : rf 56 1 = 57 := rfl
theorem rv_56_2 : rf 56 2 = 58 := rfl
theorem rv_56_3 : rf 56 3 = 59 := rfl
theorem rv_56_4 : rf 56 4 = 60 := rfl
theorem rv_56_15 : rf 56 15 = 1002 := rfl
theorem rv_56_16 : rf 56 16 = 1001 := rfl
theorem rv_56_17 : rf 56 17 = 1000 := rfl
theorem rv_56_19 : rf 56 19 = 61 := rfl
theorem rv_56_22 : rf 56 22 = 62 := rfl
theorem rv_56_23 : rf 56 23 = 63 := rfl
theorem rv_56_24 : rf 56 24 = 64 := rfl
theorem rv_56_25 : rf 56 25 = 65 := rfl
theorem rv_56_26 : rf 56 26 = 66 := rfl
theorem rv_56_27 : rf 56 27 = 67 := rfl
theorem rv_56_28 : rf 56 28 = 68 := rfl
theorem rv_56_31 : rf 56 31 = 69 := rfl
theorem rv_56_33 : rf 56 33 = 70 := rfl
theorem rv_56_35 : rf 56 35 = 71 := rfl
theorem rv_56_36 : rf 56 36 = 72 := rfl
theorem rv_56_37 : rf 56 37 = 73 := rfl
theorem rv_56_39 : rf 56 39 = 74 := rfl
theorem rv_56_40 : rf 56 40 = 75 := rfl
theorem rv_56_41 : rf 56 41 = 76 := rfl
theorem rv_56_42 : rf 56 42 = 77 := rfl
theorem rv_56_43 : rf 56 43 = 78 := rfl
theorem rv_56_44 : rf 56 44 = 79 := rfl
theorem rv_56_46 : rf 56 46 = 80 := rfl
theorem rv_56_47 : rf 56 47 = 81 := rfl
theorem rv_56_48 : rf 56 48 = 82 := rfl
theorem rv_56_49 : rf 56 49 = 83 := rfl
theorem rv_56_51 : rf 56 51 = 84 := rfl
theorem rv_56_52 : rf 56 52 = 85 := rfl
theorem rv_56_54 : rf 56 54 = 86 := rfl
theorem an_57 : an 57 = 160 := rfl
theorem an_58 : an 58 = 640 := rfl
theorem an_59 : an 59 = 4 := rfl
theorem an_60 : an 60 = 128 := rfl
theorem an_61 : an 61 = 84 := rfl
theorem an_62 : an 62 = 6 := rfl
theorem an_63 : an 63 = 6 := rfl
theorem an_64 : an 64 = 6 := rfl
theorem an_65 : an 65 = 6 := rfl
theorem an_66 : an 66 = 6 := rfl
theorem an_67 : an 67 = 6 := rfl
theorem an_68 : an 68 = 6 := rfl
theorem an_69 : an 69 = 180 := rfl
theorem an_70 : an 70 = 720 := rfl
theorem an_71 : an 71 = 6 := rfl
theorem an_72 : an 72 = 6 := rfl
theorem an_73 : an 73 = 6 := rfl
theorem an_74 : an 74 = 625 := rfl
theorem an_75 : an 75 = 625 := rfl
theorem an_76 : an 76 = 6 := rfl
theorem an_77 : an 77 = 6 := rfl
theorem an_78 : an 78 = 5 := rfl
theorem an_79 : an 79 = 3125 := rfl
theorem an_80 : an 80 = 5 := rfl
theorem an_81 : an 81 = 20 := rfl
theorem an_82 : an 82 = 20 := rfl
theorem an_83 : an 83 = 20 := rfl
theorem an_84 : an 84 = 6 := rfl
theorem an_85 : an 85 = 6 := rfl
theorem an_86 : an 86 = 258 := rfl
theorem an_87 : an 87 = 1 := rfl
/-! base rows for the pure part -/
theorem sI_eq (h : AH) (k j : Nat) (v : Int32) (a b : Nat) : (sI h k j v).1 a b = if a = k then (if b = j then v else h.1 a b) else h.1 a b := rfl
theorem sI_s (h : AH) (k j : Nat) (v : Int32) : (sI h k j v).1 k j = v := by simp [sI]
theorem sI_n {h : AH} {k j : Nat} {v : Int32} {a b : Nat} (e : a ≠ k ∨ b ≠ j) : (sI h k j v).1 a b = h.1 a b := by
  rcases e with e | e <;> simp [sI, e]
theorem sI_2 (h : AH) (k j : Nat) (v : Int32) : (sI h k j v).2 = h.2 := rfl
theorem sA_eq (h : AH) (k : Nat) (f : Nat → Int32) (a b : Nat) : (sA h k f).1 a b = if a = k then f b else h.1 a b := rfl
theorem sA_2 (h : AH) (k : Nat) (f : Nat → Int32) : (sA h k f).2 = h.2 := rfl
theorem sL_1 (h : AH) (k : Nat) (v : Int64) : (sL h k v).1 = h.1 := rfl
theorem sR_1 (h : AH) (k r : Nat) : (sR h k r).1 = h.1 := rfl
theorem sR_21 (h : AH) (k r : Nat) : (sR h k r).2.1 = h.2.1 := rfl
theorem sR_22 (h : AH) (k r a : Nat) : (sR h k r).2.2 a = if a = k then r else h.2.2 a := rfl
theorem ob_some {R : Type} (r : Int32) (h : AH) (k : Int32 → AH → Option R) : ob (some (r, h)) k = k r h := rfl
theorem ov_some {R : Type} (h : AH) (k : AH → Option R) : ov (some h) k = k h := rfl
theorem nm_id {α R : Type} (e : α) (k : α → Option R) : nm e k = k e := rfl
theorem og_t {R : Type} {b : Bool} {k : Option R} (h : b = true) : og b k = k := by simp [og, h]
def zb (b : Bool) : Int32 := if b = true then 1 else 0
theorem zb_0 (b : Bool) : (zb b = 0) = (b = false) := by cases b <;> simp [zb]
theorem zb_1 (b : Bool) : (zb b = 1) = (b = true) := by cases b <;> simp [zb]
theorem bz_zb (b : Bool) : bz (zb b) = true := by cases b <;> rfl
theorem bz_0 : bz 0 = true := rfl
theorem bz_1 : bz 1 = true := rfl
theorem ixn {i n : Nat} (h : i < n) (hi : i < 2 ^ 31) : ix (nI i) n = true := by
  unfold ix
  rw [decide_eq_true_eq]
  rw [nI_clamp hi]
  rintro (q | q)
  · exact nI_pos hi q
  · omega
theorem ix_t {x : Int32} {i n : Nat} (e : x = nI i) (h : i < n) (hi : i < 2 ^ 31) : ix x n = true := by rw [e]; exact ixn h hi
def inS (s x : Int32) : Bool := decide (((s >>> (x &&& 31)) &&& 1) = 1)
theorem e_X11_isIn (s x : Int32) (h : AH) : f_X11_isIn s x h = some (zb (inS s x), h) := by
  unfold f_X11_isIn inS zb
  by_cases c : ((s >>> (x &&& 31)) &&& 1) = 1 <;> simp [c, f_X11_isIn_14, og, bz]
theorem e_X12_has (s x : Int32) (h : AH) : f_X12_has s x h = some (zb (inS s x), h) := by
  unfold f_X12_has inS zb
  by_cases c : ((s >>> (x &&& 31)) &&& 1) = 1 <;> simp [c, f_X12_has_14, og, bz]
def knB (m x : Int32) : Bool := decide (¬ x < 0 ∧ ¬ m ≤ x)
theorem e_X11_isKnown (x : Int32) (h : AH) : f_X11_isKnown 0 x h = some (zb (knB (h.1 3 2) x), h) := by
  have e : rf 0 1 = 3 := rfl
  unfold f_X11_isKnown knB zb
  rw [e]
  by_cases c : x < 0 <;> by_cases d : h.1 3 2 ≤ x <;> simp [c, d, f_X11_isKnown_19, f_X11_isKnown_20, og, bz]
theorem e_X12_isPerson (x : Int32) (h : AH) : f_X12_isPerson 56 x h = some (zb (knB (h.1 56 20) x), h) := by
  unfold f_X12_isPerson knB zb
  by_cases c : x < 0 <;> by_cases d : h.1 56 20 ≤ x <;> simp [c, d, f_X12_isPerson_16, f_X12_isPerson_17, og, bz]
theorem knB_iff {n : Nat} (hn : n < 2 ^ 31) {x : Int32} : knB (nI n) x = true ↔ ∃ p, p < n ∧ x = nI p := by
  unfold knB
  rw [decide_eq_true_eq]
  constructor
  · rintro ⟨a, b⟩
    obtain ⟨p, hp, rfl⟩ := nI_of a
    exact ⟨p, by rw [nI_leI hn hp] at b; omega, rfl⟩
  · rintro ⟨p, hp, rfl⟩
    exact ⟨nI_pos (by omega), nI_ge hp hn⟩
theorem lg_l {a b : Int64} : lg_cmp a b < 0 ↔ a < b := by
  unfold lg_cmp
  by_cases h : a > b
  · rw [if_pos h]
    refine ⟨fun q => absurd q (by decide), fun q => ?_⟩
    have h' : b < a := h
    rw [Int64.lt_iff_toInt_lt] at q h'
    omega
  · rw [if_neg h]
    by_cases h2 : a = b
    · rw [if_pos h2]
      refine ⟨fun q => absurd q (by decide), fun q => ?_⟩
      rw [h2, Int64.lt_iff_toInt_lt] at q
      omega
    · rw [if_neg h2]
      refine ⟨fun _ => ?_, fun _ => by decide⟩
      have h' : ¬ b < a := h
      rw [Int64.lt_iff_toInt_lt] at h' ⊢
      rw [← Int64.toInt_inj] at h2
      omega
theorem lg_g {a b : Int64} : 0 < lg_cmp a b ↔ b < a := by
  unfold lg_cmp
  by_cases h : a > b
  · rw [if_pos h]
    exact ⟨fun _ => h, fun _ => by decide⟩
  · rw [if_neg h]
    by_cases h2 : a = b
    · rw [if_pos h2]
      exact ⟨fun q => absurd q (by decide), fun q => absurd q h⟩
    · rw [if_neg h2]
      exact ⟨fun q => absurd q (by decide), fun q => absurd q h⟩
theorem l_i32 {a b : Int32} : a.toInt64 < b.toInt64 ↔ a < b := by
  rw [Int64.lt_iff_toInt_lt, Int32.lt_iff_toInt_lt, Int32.toInt_toInt64, Int32.toInt_toInt64]
theorem e_X12_isIn (x a b : Int32) (h : AH) : f_X12_isIn x.toInt64 a.toInt64 b.toInt64 h = some (zb (decide (¬ x < a ∧ ¬ b < x)), h) := by
  unfold f_X12_isIn zb
  simp only [lg_l, lg_g, l_i32]
  by_cases c : x < a <;> by_cases d : b < x <;> simp [c, d, f_X12_isIn_17, f_X12_isIn_18, og, bz]
/-! the world that both sides hold -/
abbrev Wd : Type := (Nat × Nat × Nat × Nat × Nat) × (Nat → Nat) × (Nat → Nat → Nat) × ((Nat → Int32) × (Nat → Int32) × (Nat → Int32) × (Nat → Nat)) × ((Nat → Nat) × (Nat → Nat → Int32)) × ((Nat → Nat → Int32) × (Nat → Nat) × (Nat → Int32) × (Nat → Int32)) × (Bool × Nat × Nat × (Nat → Int32) × (Nat → Int32) × (Nat → Nat))
def Wd.L (v : Wd) : Nat := v.1.1
def Wd.n (v : Wd) : Nat := v.1.2.1
def Wd.rc (v : Wd) : Nat := v.1.2.2.1
def Wd.E (v : Wd) : Nat := v.1.2.2.2.1
def Wd.S (v : Wd) : Nat := v.1.2.2.2.2
def Wd.tx (v : Wd) : Nat → Nat := v.2.1
def Wd.it (v : Wd) : Nat → Nat → Nat := v.2.2.1
def Wd.ro (v : Wd) : Nat → Int32 := v.2.2.2.1.1
def Wd.has (v : Wd) : Nat → Int32 := v.2.2.2.1.2.1
def Wd.pl (v : Wd) : Nat → Int32 := v.2.2.2.1.2.2.1
def Wd.wo (v : Wd) : Nat → Nat := v.2.2.2.1.2.2.2
def Wd.cl (v : Wd) : Nat → Nat := v.2.2.2.2.1.1
def Wd.co (v : Wd) : Nat → Nat → Int32 := v.2.2.2.2.1.2
def Wd.di (v : Wd) : Nat → Nat → Int32 := v.2.2.2.2.2.1.1
def Wd.se (v : Wd) : Nat → Nat := v.2.2.2.2.2.1.2.1
def Wd.sw (v : Wd) : Nat → Int32 := v.2.2.2.2.2.1.2.2.1
def Wd.ss (v : Wd) : Nat → Int32 := v.2.2.2.2.2.1.2.2.2
def Wd.im (v : Wd) : Bool := v.2.2.2.2.2.2.1
def Wd.kE (v : Wd) : Nat := v.2.2.2.2.2.2.2.1
def Wd.kS (v : Wd) : Nat := v.2.2.2.2.2.2.2.2.1
def Wd.kh (v : Wd) : Nat → Int32 := v.2.2.2.2.2.2.2.2.2.1
def Wd.kp (v : Wd) : Nat → Int32 := v.2.2.2.2.2.2.2.2.2.2.1
def Wd.kw (v : Wd) : Nat → Nat := v.2.2.2.2.2.2.2.2.2.2.2
/-- a byte of the model is a sign of the class -/
def bys (c : Nat) : Int32 := (nI c).toInt8.toInt32
def TxE (L : Nat) (t : Nat → Nat) (cs : Nat → Int32) (ms : Nat → Int32) (b : Nat) : Prop := ∀ j, j < L → 0 < t j ∧ t j < 256 ∧ cs j = nI (t j) ∧ ms (b + j) = bys (t j)
def itLo (i : Nat) : Nat := if i = 0 ∨ i = 3 then 20 else 0
def itHi (i : Nat) : Nat := if i = 0 ∨ i = 3 then 50 else if i = 2 ∨ i = 4 then 99 else 9
def SOk (n : Nat) (has pl : Nat → Int32) (wo : Nat → Nat) : Prop := (∀ p, p < n → has p = -1 ∨ ∃ q, q < n ∧ has p = nI q ∧ pl q = nI p) ∧ (∀ q, q < n → (∃ p, p < n ∧ pl q = nI p ∧ has p = nI q) ∨ ∃ u, u < 4 ∧ pl q = nI (10 + u)) ∧ (∀ q, q < n → wo q ≤ 99)
def RulOk (cl : Nat) (co : Nat → Int32) (ml : Int32) (ms : Nat → Int32) (b : Nat) : Prop := ∃ (g g' : AH) (L : Nat) (t : Nat → Nat), L ≤ 160 ∧ cl ≤ 161 ∧ f_X8_read 9 g = some (-1, g') ∧ g.1 1 1 = nI L ∧ TxE L t (g.1 2) ms b ∧ ml = nI L ∧ g'.1 9 2 = nI cl ∧ ∀ j, j < cl → g'.1 10 j = co j
def gT (L : Nat) (tx : Nat → Nat) (h : AH) : Prop := L ≤ 160 ∧ h.1 1 1 = nI L ∧ h.1 56 6 = nI L ∧ TxE L tx (h.1 2) (h.1 57) 0
def gP (n : Nat) (it : Nat → Nat → Nat) (h : AH) : Prop := (n = 0 ∨ 2 ≤ n) ∧ n ≤ 6 ∧ (∀ p, p < n → ∀ i, i < 7 → itLo i ≤ it p i ∧ it p i ≤ itHi i) ∧ h.1 3 2 = nI n ∧ h.1 56 20 = nI n ∧ (∀ p, p < n → ∀ i, i < 7 → h.1 4 (p * 7 + i) = nI (it p i) ∧ h.1 61 (p * 7 + i) = nI (it p i)) ∧ ∀ p, p < n → h.1 64 p = nI (it p 3)
def gO (n rc : Nat) (ro : Nat → Int32) (h : AH) : Prop := ∀ p, p < n → (ro p = -1 ∨ ∃ r, r < rc ∧ ro p = nI r) ∧ h.1 5 p = ro p ∧ h.1 66 p = ro p
def gR (rc : Nat) (cl : Nat → Nat) (co : Nat → Nat → Int32) (h : AH) : Prop := rc ≤ 4 ∧ h.1 0 5 = nI rc ∧ h.1 56 7 = nI rc ∧ ∀ r, r < rc → h.1 (12 + 3 * r) 2 = nI (cl r) ∧ (∀ j, j < cl r → h.1 (13 + 3 * r) j = co r j) ∧ RulOk (cl r) (co r) (h.1 59 r) (h.1 58) (160 * r)
def gS (n : Nat) (has pl : Nat → Int32) (wo : Nat → Nat) (h : AH) : Prop := SOk n has pl wo ∧ (∀ p, p < n → (h.1 25 p = has p ∧ h.1 26 p = pl p ∧ h.1 27 p = nI (wo p)) ∧ h.1 62 p = has p ∧ h.1 63 p = pl p ∧ h.1 65 p = nI (wo p)) ∧ ∀ p, n ≤ p → p < 6 → h.1 26 p = if n = 0 then 0 else -1
def gD (n E : Nat) (di : Nat → Nat → Int32) (h : AH) : Prop := E ≤ 30 ∧ h.1 32 2 = nI E ∧ h.1 56 32 = nI E ∧ ∀ e, e < E → ∀ p, p < n → h.1 33 (e * 6 + p) = di e p ∧ h.1 69 (e * 6 + p) = di e p
def gG (E S : Nat) (se : Nat → Nat) (sw ss : Nat → Int32) (h : AH) : Prop := S ≤ 20 ∧ h.1 32 3 = nI S ∧ h.1 56 50 = nI S ∧ ∀ s, s < S → se s < E ∧ (h.1 34 (s * 3) = nI (se s) ∧ h.1 34 (s * 3 + 1) = sw s ∧ h.1 34 (s * 3 + 2) = ss s) ∧ h.1 81 s = nI (se s) ∧ h.1 82 s = sw s ∧ h.1 83 s = ss s
def gI (n E S : Nat) (di : Nat → Nat → Int32) (se : Nat → Nat) (sw ss : Nat → Int32) (im : Bool) (kE kS : Nat) (kh kp : Nat → Int32) (kw : Nat → Nat) (h : AH) : Prop := h.1 0 8 = zb im ∧ h.1 56 57 = zb im ∧ (im = true → n ≠ 0 ∧ kE ≤ E ∧ kS ≤ S ∧ SOk n kh kp kw ∧ (h.1 32 4 = nI kE ∧ h.1 32 5 = nI kS ∧ h.1 56 55 = nI kE ∧ h.1 56 56 = nI kS) ∧ (∀ p, p < n → (h.1 29 p = kh p ∧ h.1 30 p = kp p ∧ h.1 31 p = nI (kw p)) ∧ h.1 86 (p * 3) = kh p ∧ h.1 86 (p * 3 + 1) = kp p ∧ h.1 86 (p * 3 + 2) = nI (kw p)) ∧ (∀ p, n ≤ p → p < 6 → h.1 30 p = -1) ∧ (∀ e, e < kE → ∀ p, p < n → h.1 86 (18 + (e * 6 + p)) = di e p) ∧ ∀ s, s < kS → se s < kE ∧ h.1 86 (198 + s * 3) = nI (se s) ∧ h.1 86 (198 + s * 3 + 1) = sw s ∧ h.1 86 (198 + s * 3 + 2) = ss s)
def RelV (v : Wd) (h : AH) : Prop := gT v.L v.tx h ∧ gP v.n v.it h ∧ gO v.n v.rc v.ro h ∧ gR v.rc v.cl v.co h ∧ gS v.n v.has v.pl v.wo h ∧ gD v.n v.E v.di h ∧ gG v.E v.S v.se v.sw v.ss h ∧ gI v.n v.E v.S v.di v.se v.sw v.ss v.im v.kE v.kS v.kh v.kp v.kw h
def Rel (h : AH) : Prop := ∃ v, RelV v h
/-- a world put together -/
def mkW (L n rc E S : Nat) (tx : Nat → Nat) (it : Nat → Nat → Nat) (ro has pl : Nat → Int32) (wo : Nat → Nat) (cl : Nat → Nat) (co : Nat → Nat → Int32) (di : Nat → Nat → Int32) (se : Nat → Nat) (sw ss : Nat → Int32) (im : Bool) (kE kS : Nat) (kh kp : Nat → Int32) (kw : Nat → Nat) : Wd := ((L, n, rc, E, S), tx, it, (ro, has, pl, wo), (cl, co), (di, se, sw, ss), (im, kE, kS, kh, kp, kw))
theorem rel_mk {h : AH} {L n rc E S : Nat} {tx : Nat → Nat} {it : Nat → Nat → Nat} {ro has pl : Nat → Int32} {wo : Nat → Nat} {cl : Nat → Nat} {co : Nat → Nat → Int32} {di : Nat → Nat → Int32} {se : Nat → Nat} {sw ss : Nat → Int32} {im : Bool} {kE kS : Nat} {kh kp : Nat → Int32} {kw : Nat → Nat} (h1 : gT L tx h) (h2 : gP n it h) (h3 : gO n rc ro h) (h4 : gR rc cl co h) (h5 : gS n has pl wo h) (h6 : gD n E di h) (h7 : gG E S se sw ss h) (h8 : gI n E S di se sw ss im kE kS kh kp kw h) : Rel h := ⟨mkW L n rc E S tx it ro has pl wo cl co di se sw ss im kE kS kh kp kw, h1, h2, h3, h4, h5, h6, h7, h8⟩
/-- the cells that the relation reads -/
def ST1 : List (Nat × Nat) := (1, 1) :: (2, 1000) :: (56, 6) :: (57, 1000) :: []
def ST2 : List (Nat × Nat) := (3, 2) :: (4, 1000) :: (56, 20) :: (61, 1000) :: (64, 1000) :: []
def ST3 : List (Nat × Nat) := (5, 1000) :: (66, 1000) :: []
def ST4 : List (Nat × Nat) := (0, 5) :: (56, 7) :: (12, 2) :: (15, 2) :: (18, 2) :: (21, 2) :: (13, 1000) :: (16, 1000) :: (19, 1000) :: (22, 1000) :: (58, 1000) :: (59, 1000) :: []
def ST5 : List (Nat × Nat) := (25, 1000) :: (26, 1000) :: (27, 1000) :: (62, 1000) :: (63, 1000) :: (65, 1000) :: []
def ST6 : List (Nat × Nat) := (32, 2) :: (33, 1000) :: (56, 32) :: (69, 1000) :: []
def ST7 : List (Nat × Nat) := (32, 3) :: (34, 1000) :: (56, 50) :: (81, 1000) :: (82, 1000) :: (83, 1000) :: []
def ST8 : List (Nat × Nat) := (0, 8) :: (56, 57) :: (32, 4) :: (32, 5) :: (56, 55) :: (56, 56) :: (29, 1000) :: (30, 1000) :: (31, 1000) :: (86, 1000) :: []
def ST : List (Nat × Nat) := ST1 ++ (ST2 ++ (ST3 ++ (ST4 ++ (ST5 ++ (ST6 ++ (ST7 ++ ST8))))))
/-- two lists that speak of no cell in common -/
def Wdis (A B : List (Nat × Nat)) : Bool := A.all (fun a => B.all (fun b => !(Nat.beq a.1 b.1 && (Nat.beq a.2 1000 || Nat.beq b.2 1000 || Nat.beq a.2 b.2))))
theorem Wdis_no {A B : List (Nat × Nat)} (h : Wdis A B = true) {k j : Nat} (hb : Wmem B k j = true) : Wmem A k j = false := by
  cases ha : Wmem A k j with
  | false => rfl
  | true =>
    obtain ⟨c, hc, rfl, hj⟩ := Wmem_iff.mp ha
    obtain ⟨d, hd, hk, h2⟩ := Wmem_iff.mp hb
    unfold Wdis at h
    rw [List.all_eq_true] at h
    have := h c hc
    rw [List.all_eq_true] at this
    have := this d hd
    rw [hk, Nat.beq_refl, Bool.true_and, Bool.not_eq_true', Bool.or_eq_false_iff, Bool.or_eq_false_iff] at this
    obtain ⟨⟨t1, t2⟩, t3⟩ := this
    rcases hj with hj | hj
    · rw [hj] at t1
      exact absurd t1 (by decide)
    · rcases h2 with h2 | h2
      · rw [h2] at t2
        exact absurd t2 (by decide)
      · rw [hj, h2, Nat.beq_refl] at t3
        cases t3
/-- what agrees off W agrees on all that W does not touch -/
def EqOn (B : List (Nat × Nat)) (h0 h : AH) : Prop := ∀ k j, Wmem B k j = true → h.1 k j = h0.1 k j
theorem agr_on {W B : List (Nat × Nat)} {h0 h : AH} (a : Agr W h0 h) (d : Wdis W B = true) : EqOn B h0 h := fun k j hb => a.1 k j (Wdis_no d hb)
theorem eqOn_tr {B : List (Nat × Nat)} {a b c : AH} (h1 : EqOn B a b) (h2 : EqOn B b c) : EqOn B a c := fun k j hb => (h2 k j hb).trans (h1 k j hb)
theorem eqOn_c {B : List (Nat × Nat)} {h0 h : AH} (e : EqOn B h0 h) (k : Nat) (hk : ∀ j, Wmem B k j = true) : h.1 k = h0.1 k := funext (fun j => e k j (hk j))
theorem eqOn_sub {A B : List (Nat × Nat)} {h0 h : AH} (e : EqOn B h0 h) (s : Wsub A B = true) : EqOn A h0 h := by
  intro k j hk
  refine e k j ?_
  cases hb : Wmem B k j with
  | true => rfl
  | false =>
    rw [Wsub_mem s hb] at hk
    cases hk
theorem gT_eq {L : Nat} {tx : Nat → Nat} {h0 h : AH} (e : EqOn ST1 h0 h) (R : gT L tx h0) : gT L tx h := by
  unfold gT at R ⊢
  rw [e 1 1 rfl, e 56 6 rfl, eqOn_c e 2 (fun _ => rfl), eqOn_c e 57 (fun _ => rfl)]
  exact R
theorem gP_eq {n : Nat} {it : Nat → Nat → Nat} {h0 h : AH} (e : EqOn ST2 h0 h) (R : gP n it h0) : gP n it h := by
  unfold gP at R ⊢
  rw [e 3 2 rfl, e 56 20 rfl, eqOn_c e 4 (fun _ => rfl), eqOn_c e 61 (fun _ => rfl), eqOn_c e 64 (fun _ => rfl)]
  exact R
theorem gO_eq {n rc : Nat} {ro : Nat → Int32} {h0 h : AH} (e : EqOn ST3 h0 h) (R : gO n rc ro h0) : gO n rc ro h := by
  unfold gO at R ⊢
  rw [eqOn_c e 5 (fun _ => rfl), eqOn_c e 66 (fun _ => rfl)]
  exact R
theorem gR_eq {rc : Nat} {cl : Nat → Nat} {co : Nat → Nat → Int32} {h0 h : AH} (e : EqOn ST4 h0 h) (R : gR rc cl co h0) : gR rc cl co h := by
  have hr : ∀ r, r < 4 → h.1 (12 + 3 * r) 2 = h0.1 (12 + 3 * r) 2 ∧ h.1 (13 + 3 * r) = h0.1 (13 + 3 * r) := by
    intro r hr
    match r, hr with
    | 0, _ => exact ⟨e _ _ rfl, eqOn_c e _ (fun j => rfl)⟩
    | 1, _ => exact ⟨e _ _ rfl, eqOn_c e _ (fun j => rfl)⟩
    | 2, _ => exact ⟨e _ _ rfl, eqOn_c e _ (fun j => rfl)⟩
    | 3, _ => exact ⟨e _ _ rfl, eqOn_c e _ (fun j => rfl)⟩
  unfold gR at R ⊢
  rw [e 0 5 rfl, e 56 7 rfl, eqOn_c e 58 (fun _ => rfl), eqOn_c e 59 (fun _ => rfl)]
  refine ⟨R.1, R.2.1, R.2.2.1, fun r q => ?_⟩
  have h4 := R.1
  rw [(hr r (by omega)).1, (hr r (by omega)).2]
  exact R.2.2.2 r q
theorem gS_eq {n : Nat} {has pl : Nat → Int32} {wo : Nat → Nat} {h0 h : AH} (e : EqOn ST5 h0 h) (R : gS n has pl wo h0) : gS n has pl wo h := by
  unfold gS at R ⊢
  rw [eqOn_c e 25 (fun _ => rfl), eqOn_c e 26 (fun _ => rfl), eqOn_c e 27 (fun _ => rfl), eqOn_c e 62 (fun _ => rfl), eqOn_c e 63 (fun _ => rfl), eqOn_c e 65 (fun _ => rfl)]
  exact R
theorem gD_eq {n E : Nat} {di : Nat → Nat → Int32} {h0 h : AH} (e : EqOn ST6 h0 h) (R : gD n E di h0) : gD n E di h := by
  unfold gD at R ⊢
  rw [e 32 2 rfl, e 56 32 rfl, eqOn_c e 33 (fun _ => rfl), eqOn_c e 69 (fun _ => rfl)]
  exact R
theorem gG_eq {E S : Nat} {se : Nat → Nat} {sw ss : Nat → Int32} {h0 h : AH} (e : EqOn ST7 h0 h) (R : gG E S se sw ss h0) : gG E S se sw ss h := by
  unfold gG at R ⊢
  rw [e 32 3 rfl, e 56 50 rfl, eqOn_c e 34 (fun _ => rfl), eqOn_c e 81 (fun _ => rfl), eqOn_c e 82 (fun _ => rfl), eqOn_c e 83 (fun _ => rfl)]
  exact R
theorem gI_eq {n E S : Nat} {di : Nat → Nat → Int32} {se : Nat → Nat} {sw ss : Nat → Int32} {im : Bool} {kE kS : Nat} {kh kp : Nat → Int32} {kw : Nat → Nat} {h0 h : AH} (e : EqOn ST8 h0 h) (R : gI n E S di se sw ss im kE kS kh kp kw h0) : gI n E S di se sw ss im kE kS kh kp kw h := by
  unfold gI at R ⊢
  rw [e 0 8 rfl, e 56 57 rfl, e 32 4 rfl, e 32 5 rfl, e 56 55 rfl, e 56 56 rfl, eqOn_c e 29 (fun _ => rfl), eqOn_c e 30 (fun _ => rfl), eqOn_c e 31 (fun _ => rfl), eqOn_c e 86 (fun _ => rfl)]
  exact R
theorem rel_eq {v : Wd} {h0 h : AH} (e : EqOn ST h0 h) (R : RelV v h0) : RelV v h :=
  ⟨gT_eq (eqOn_sub e rfl) R.1, gP_eq (eqOn_sub e rfl) R.2.1, gO_eq (eqOn_sub e rfl) R.2.2.1, gR_eq (eqOn_sub e rfl) R.2.2.2.1, gS_eq (eqOn_sub e rfl) R.2.2.2.2.1, gD_eq (eqOn_sub e rfl) R.2.2.2.2.2.1, gG_eq (eqOn_sub e rfl) R.2.2.2.2.2.2.1, gI_eq (eqOn_sub e rfl) R.2.2.2.2.2.2.2⟩
theorem rel_agr {W : List (Nat × Nat)} {v : Wd} {h0 h : AH} (a : Agr W h0 h) (d : Wdis W ST = true) (R : RelV v h0) : RelV v h := rel_eq (agr_on a d) R
