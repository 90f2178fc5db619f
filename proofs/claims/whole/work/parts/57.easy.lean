/-! person -/
theorem RelV.out {v : Wd} {h : AH} {k : Nat} {x : Int64} (R : RelV v h) : RelV v (sL h k x) := rel_agr (W := (200, 0) :: []) (agr_sL (agr_refl h) rfl) rfl R
theorem le6 {x : Int32} (c : ¬ x < 0) (d : x ≤ 6) : x = 0 ∨ x = 1 ∨ x = 2 ∨ x = 3 ∨ x = 4 ∨ x = 5 ∨ x = 6 := by
  obtain ⟨j, hj, rfl⟩ := nI_of c
  rw [show (6 : Int32) = nI 6 from rfl, nI_leI hj (by decide)] at d
  have : j = 0 ∨ j = 1 ∨ j = 2 ∨ j = 3 ∨ j = 4 ∨ j = 5 ∨ j = 6 := by omega
  rcases this with rfl | rfl | rfl | rfl | rfl | rfl | rfl
  · exact Or.inl rfl
  · exact Or.inr (Or.inl rfl)
  · exact Or.inr (Or.inr (Or.inl rfl))
  · exact Or.inr (Or.inr (Or.inr (Or.inl rfl)))
  · exact Or.inr (Or.inr (Or.inr (Or.inr (Or.inl rfl))))
  · exact Or.inr (Or.inr (Or.inr (Or.inr (Or.inr (Or.inl rfl)))))
  · exact Or.inr (Or.inr (Or.inr (Or.inr (Or.inr (Or.inr rfl)))))
def perS (v : Wd) (p : Nat) (x : Int32) : Int32 := if x = 0 then nI (v.it p 0) else if x = 1 then nI (v.it p 1) else if x = 2 then nI (v.it p 5) else if x = 3 then nI (v.it p 6) else if x = 4 then nI (v.it p 4) else if x = 5 then v.has p else v.ro p
theorem e06 (x : Int32) (h : AH) : f_X12_isIn x.toInt64 0 6 h = some (zb (decide (¬ x < 0 ∧ ¬ 6 < x)), h) := e_X12_isIn x 0 6 h
theorem g4 : G4 Rel := by
  intro h ⟨v, R⟩ a1 a2
  have hn := R.n6
  by_cases hk : knB (nI v.n) a1 = true
  · obtain ⟨p, hp, rfl⟩ := (knB_iff (by omega)).mp hk
    by_cases c : ¬ a2 < 0 ∧ a2 ≤ 6
    · have R2 : RelV v (sL h 87 (perS v p a2).toInt64) := R.out
      have R3 : RelV v (sI (sL h 87 (perS v p a2).toInt64) 56 0 0) := R2.thr
      have e1 : f_X11_person 0 (nI p) a2 h = some (perS v p a2, h) := by
        simp (disch := omega) only [f_X11_person, e_X11_isKnown, ob_some, R.cn, hk, zb_0, Bool.true_eq_false, if_false, rv_0_0, rv_0_1, rv_0_2, rv_0_3, rv_0_4, rv_0_6, rv_0_7, rv_0_9, rv_0_10, rv_0_11, rv_0_12, rv_0_13, rv_0_14, rv_1_0, an_2, rv_3_0, rv_3_1, an_4, an_5, rv_6_0, rv_6_1, an_7, an_8, rv_9_0, rv_9_1, an_10, an_11, rv_12_0, rv_12_1, an_13, an_14, rv_15_0, rv_15_1, an_16, an_17, rv_18_0, rv_18_1, an_19, an_20, rv_21_0, rv_21_1, an_22, an_23, rv_24_0, rv_24_1, rv_24_2, an_25, an_26, an_27, rv_28_0, rv_28_1, rv_28_2, an_29, an_30, an_31, rv_32_0, rv_32_1, an_33, an_34, rv_35_0, rv_35_1, rv_35_2, rv_35_3, rv_35_4, rv_35_5, rv_35_6, an_36, an_37, an_38, an_39, an_40, rv_41_0, rv_41_1, rv_41_3, rv_41_4, rv_41_5, an_42, an_43, an_44, an_45, rv_46_0, rv_46_1, rv_46_2, rv_46_3, rv_46_4, rv_46_6, an_47, an_48, rv_49_0, rv_49_1, an_50, rv_51_0, rv_51_1, rv_51_2, rv_51_3, rv_51_4, rv_51_6, rv_51_7, an_52, an_53, an_54, an_55, rv_56_1, rv_56_2, rv_56_3, rv_56_4, rv_56_15, rv_56_16, rv_56_17, rv_56_19, rv_56_22, rv_56_23, rv_56_24, rv_56_25, rv_56_26, rv_56_27, rv_56_28, rv_56_31, rv_56_33, rv_56_35, rv_56_36, rv_56_37, rv_56_39, rv_56_40, rv_56_41, rv_56_42, rv_56_43, rv_56_44, rv_56_46, rv_56_47, rv_56_48, rv_56_49, rv_56_51, rv_56_52, rv_56_54, an_57, an_58, an_59, an_60, an_61, an_62, an_63, an_64, an_65, an_66, an_67, an_68, an_69, an_70, an_71, an_72, an_73, an_74, an_75, an_76, an_77, an_78, an_79, an_80, an_81, an_82, an_83, an_84, an_85, an_86, an_87, show (5 : Int32) + 1 = 6 from rfl, c.1, if_pos c.2, og_ix, nI_clamp, R.ch hp, R.cr hp, f_X11_person_81]
        have i := fun i hi => e_X6_item R.cP hp (i := i) hi
        rcases le6 c.1 c.2 with rfl | rfl | rfl | rfl | rfl | rfl | rfl
        · rw [if_neg (by decide), show sT 5 (Int32.toNatClampNeg 0) = nI 0 from rfl, i 0 (by omega)]; rfl
        · rw [if_neg (by decide), show sT 5 (Int32.toNatClampNeg 1) = nI 1 from rfl, i 1 (by omega)]; rfl
        · rw [if_neg (by decide), show sT 5 (Int32.toNatClampNeg 2) = nI 5 from rfl, i 5 (by omega)]; rfl
        · rw [if_neg (by decide), show sT 5 (Int32.toNatClampNeg 3) = nI 6 from rfl, i 6 (by omega)]; rfl
        · rw [if_neg (by decide), show sT 5 (Int32.toNatClampNeg 4) = nI 4 from rfl, i 4 (by omega)]; rfl
        · rfl
        · rfl
      generalize hg : sL h 87 (perS v p a2).toInt64 = g at R2 R3
      have e2 : f_X12_person 56 (nI p) a2 g = some (perS v p a2, sI g 56 0 0) := by
        have d6 : ¬ 6 < a2 := by
          rw [Int32.lt_iff_toInt_lt]
          have := c.2
          rw [Int32.le_iff_toInt_le] at this
          omega
        have d7 : decide (¬ a2 < 0 ∧ ¬ 6 < a2) = true := decide_eq_true ⟨c.1, d6⟩
        unfold f_X12_person
        rw [e_X12_isPerson, ob_some, R2.mn, hk, show zb true = 1 from rfl, if_neg (by decide), e06, ob_some, d7, show zb true = 1 from rfl, if_neg (by decide), f_X12_person_26, nm_id, sI_s]
        simp (disch := omega) only [rv_0_0, rv_0_1, rv_0_2, rv_0_3, rv_0_4, rv_0_6, rv_0_7, rv_0_9, rv_0_10, rv_0_11, rv_0_12, rv_0_13, rv_0_14, rv_1_0, an_2, rv_3_0, rv_3_1, an_4, an_5, rv_6_0, rv_6_1, an_7, an_8, rv_9_0, rv_9_1, an_10, an_11, rv_12_0, rv_12_1, an_13, an_14, rv_15_0, rv_15_1, an_16, an_17, rv_18_0, rv_18_1, an_19, an_20, rv_21_0, rv_21_1, an_22, an_23, rv_24_0, rv_24_1, rv_24_2, an_25, an_26, an_27, rv_28_0, rv_28_1, rv_28_2, an_29, an_30, an_31, rv_32_0, rv_32_1, an_33, an_34, rv_35_0, rv_35_1, rv_35_2, rv_35_3, rv_35_4, rv_35_5, rv_35_6, an_36, an_37, an_38, an_39, an_40, rv_41_0, rv_41_1, rv_41_3, rv_41_4, rv_41_5, an_42, an_43, an_44, an_45, rv_46_0, rv_46_1, rv_46_2, rv_46_3, rv_46_4, rv_46_6, an_47, an_48, rv_49_0, rv_49_1, an_50, rv_51_0, rv_51_1, rv_51_2, rv_51_3, rv_51_4, rv_51_6, rv_51_7, an_52, an_53, an_54, an_55, rv_56_1, rv_56_2, rv_56_3, rv_56_4, rv_56_15, rv_56_16, rv_56_17, rv_56_19, rv_56_22, rv_56_23, rv_56_24, rv_56_25, rv_56_26, rv_56_27, rv_56_28, rv_56_31, rv_56_33, rv_56_35, rv_56_36, rv_56_37, rv_56_39, rv_56_40, rv_56_41, rv_56_42, rv_56_43, rv_56_44, rv_56_46, rv_56_47, rv_56_48, rv_56_49, rv_56_51, rv_56_52, rv_56_54, an_57, an_58, an_59, an_60, an_61, an_62, an_63, an_64, an_65, an_66, an_67, an_68, an_69, an_70, an_71, an_72, an_73, an_74, an_75, an_76, an_77, an_78, an_79, an_80, an_81, an_82, an_83, an_84, an_85, an_86, an_87, og_ix, nI_clamp, R3.mh hp, R3.mr hp]
        have i := fun i hi => e_X12_partOf R3.mP hp (i := i) hi
        rcases le6 c.1 c.2 with rfl | rfl | rfl | rfl | rfl | rfl | rfl
        · rw [if_pos (by decide), if_pos rfl]
          exact (congrArg (fun z => ob z _) (i 0 (by omega))).trans rfl
        · rw [if_pos (by decide), if_neg (by decide), if_pos rfl, show (1 : Int32) = nI 1 from rfl, i 1 (by omega)]; rfl
        · rw [if_pos (by decide), if_neg (by decide), if_neg (by decide), if_pos rfl, show (5 : Int32) = nI 5 from rfl, i 5 (by omega)]; rfl
        · rw [if_pos (by decide), if_neg (by decide), if_neg (by decide), if_neg (by decide), if_pos rfl, show (6 : Int32) = nI 6 from rfl, i 6 (by omega)]; rfl
        · rw [if_pos (by decide), if_neg (by decide), if_neg (by decide), if_neg (by decide), if_neg (by decide), if_pos rfl, show (4 : Int32) = nI 4 from rfl, i 4 (by omega)]; rfl
        · rfl
        · rfl
      refine ⟨0, g, perS v p a2, _, _, Or.inl ⟨_, _, e1, rfl, hg.symm⟩, e2, rfl, fun _ => ?_, v, R3⟩
      rw [← hg]
      rfl
    · have e2 : f_X12_person 56 (nI p) a2 h = some (0, sI h 56 0 1) := by
        have d6 : decide (¬ a2 < 0 ∧ ¬ 6 < a2) = false := by
          rw [decide_eq_false_iff_not]
          rintro ⟨q1, q2⟩
          refine c ⟨q1, ?_⟩
          rw [Int32.lt_iff_toInt_lt] at q2
          rw [Int32.le_iff_toInt_le]
          omega
        unfold f_X12_person
        rw [e_X12_isPerson, ob_some, R.mn, hk, show zb true = 1 from rfl, if_neg (by decide), e06, ob_some, d6, show zb false = 0 from rfl, if_pos rfl, f_X12_person_25, f_X12_person_26, nm_id, sI_s, if_neg (by decide)]
      refine ⟨1, h, 0, _, _, Or.inr ⟨Or.inr ⟨?_, ?_⟩, rfl, rfl⟩, e2, rfl, fun q => absurd q (by decide), v, R.thr⟩
      · rw [e_X11_isKnown, R.cn, hk]
        rfl
      · by_cases q : a2 < 0
        · exact Or.inl q
        · exact Or.inr (fun z => c ⟨q, z⟩)
  · have hk' : knB (nI v.n) a1 = false := by simpa using hk
    have e2 : f_X12_person 56 a1 a2 h = some (0, sI h 56 0 1) := by
      simp only [f_X12_person, e_X12_isPerson, ob_some, R.mn, hk', zb_0, if_true, f_X12_person_25, f_X12_person_26, nm_id, sI_s]
      rfl
    refine ⟨1, h, 0, _, _, Or.inr ⟨Or.inl ?_, rfl, rfl⟩, e2, rfl, fun q => absurd q (by decide), v, R.thr⟩
    rw [e_X11_isKnown, R.cn, hk']
    rfl
/-! feed -/
def byt (k : Nat) (x : Int32) : Nat := x.toBitVec.toNat / 2 ^ k % 256
theorem i_nat (x : Int32) : x.toInt = x.toBitVec.toNat ∨ x.toInt = (x.toBitVec.toNat : Int) - 2 ^ 32 := by
  show x.toBitVec.toInt = _ ∨ x.toBitVec.toInt = _
  rw [BitVec.toInt_eq_toNat_cond]
  split
  · exact Or.inl rfl
  · exact Or.inr rfl
theorem and255 (y : Int32) : y &&& 255 = nI (y.toBitVec.toNat % 256) := pk_and y 8 (by decide)
theorem i8 (y : Int32) (m : Nat) (h : y.toBitVec.toNat % 256 = m) : y.toInt8.toInt32 = bys m := by
  unfold bys
  congr 1
  rw [← Int8.toInt_inj, Int32.toInt_toInt8, Int32.toInt_toInt8]
  have hm : m < 256 := by omega
  rw [nI_toInt (by omega)]
  have : y.toInt % 256 = (m : Int) % 256 := by
    rcases i_nat y with e | e <;> omega
  unfold Int.bmod
  rw [show ((2 ^ 8 : Nat) : Int) = 256 from rfl, this]
theorem by_u (x s : Int32) (k : Nat) (hs : ((s.toUInt32 &&& Int32.toUInt32 31).toBitVec % 32).toNat = k) : (jiushr x s) &&& 255 = nI (byt k x) := by
  rw [and255, pk_ushr x s k hs]
  rfl
theorem by_s (x s : Int32) (k : Nat) (hk : k = 0 ∨ k = 8 ∨ k = 16 ∨ k = 24) (hs : (s.toBitVec.smod 32).toNat = k) : (x >>> s).toBitVec.toNat % 256 = byt k x := by
  have h1 := pk_shr x s k hs
  have h2 := i_nat (x >>> s)
  have h3 := i_nat x
  have b1 : x.toBitVec.toNat < 2 ^ 32 := x.toBitVec.isLt
  have b2 : (x >>> s).toBitVec.toNat < 2 ^ 32 := (x >>> s).toBitVec.isLt
  unfold byt
  rw [Int.shiftRight_eq_div_pow] at h1
  rcases hk with rfl | rfl | rfl | rfl <;> rcases h2 with h2 | h2 <;> rcases h3 with h3 | h3 <;> rw [h2, h3] at h1 <;> omega
def app (c : Nat) (q : Nat × (Nat → Nat)) : Nat × (Nat → Nat) := if c = 0 then q else (q.1 + 1, fun j => if j = q.1 then c else q.2 j)
def app4 (x : Int32) (q : Nat × (Nat → Nat)) : Nat × (Nat → Nat) := app (byt 0 x) (app (byt 8 x) (app (byt 16 x) (app (byt 24 x) q)))
def c1 (c : Nat) : Nat := if c = 0 then 0 else 1
def cnt4 (x : Int32) : Nat := c1 (byt 24 x) + c1 (byt 16 x) + c1 (byt 8 x) + c1 (byt 0 x)
theorem app_1 (c : Nat) (q : Nat × (Nat → Nat)) : (app c q).1 = q.1 + c1 c := by
  unfold app c1
  split <;> rfl
theorem app4_1 (x : Int32) (q : Nat × (Nat → Nat)) : (app4 x q).1 = q.1 + cnt4 x := by
  unfold app4 cnt4
  rw [app_1, app_1, app_1, app_1]
  omega
theorem c1_le (c : Nat) : c1 c ≤ 1 := by
  unfold c1
  split <;> omega
theorem byt_lt (k : Nat) (x : Int32) : byt k x < 256 := Nat.mod_lt _ (by decide)
theorem e_X10_bytesIn (x : Int32) (h : AH) : f_X10_bytesIn x h = some (nI (cnt4 x), h) := by
  have st : ∀ (n : Nat) (s s' y : Int32) (k a : Nat), ((s.toUInt32 &&& Int32.toUInt32 31).toBitVec % 32).toNat = k → ¬ s < 0 → s + (-8) = s' → y = nI a → f_X10_bytesIn_5 (n + 1) x y s h = f_X10_bytesIn_5 n x (nI (a + c1 (byt k x))) s' h := by
    intro n s s' y k a hk h0 hs hy
    subst hy
    rw [f_X10_bytesIn_5, if_neg h0, by_u x s k hk]
    have : (nI (byt k x) = 0) = (byt k x = 0) := n_eq (b := 0) (by have := byt_lt k x; omega) (by decide)
    simp only [this]
    unfold f_X10_bytesIn_25 c1
    by_cases c : byt k x = 0
    · rw [if_pos c, if_pos c, nm_id, nm_id, hs]
      simp
    · rw [if_neg c, if_neg c, nm_id, nm_id, hs, nI_1]
  unfold f_X10_bytesIn
  rw [show FU = 4091 + 5 from rfl, st 4095 24 16 0 24 0 (by decide) (by decide) (by decide) rfl, st 4094 16 8 _ 16 _ (by decide) (by decide) (by decide) rfl, st 4093 8 0 _ 8 _ (by decide) (by decide) (by decide) rfl, st 4092 0 (-8) _ 0 _ (by decide) (by decide) (by decide) rfl, f_X10_bytesIn_5, if_pos (by decide)]
  simp [cnt4]
theorem e_X12_bytesIn (x : Int32) (h : AH) : f_X12_bytesIn x h = some (nI (cnt4 x), h) := by
  have st : ∀ (n : Nat) (s s' y : Int32) (k a : Nat), (k = 0 ∨ k = 8 ∨ k = 16 ∨ k = 24) → ((s &&& 31).toBitVec.smod 32).toNat = k → ¬ s < 0 → s + (-8) = s' → y = nI a → f_X12_bytesIn_5 (n + 1) x y s h = f_X12_bytesIn_5 n x (nI (a + c1 (byt k x))) s' h := by
    intro n s s' y k a hk4 hk h0 hs hy
    subst hy
    rw [f_X12_bytesIn_5, if_neg h0, and255, by_s x (s &&& 31) k hk4 hk]
    have : (nI (byt k x) = 0) = (byt k x = 0) := n_eq (b := 0) (by have := byt_lt k x; omega) (by decide)
    simp only [this]
    unfold f_X12_bytesIn_25 c1
    by_cases c : byt k x = 0
    · rw [if_pos c, if_pos c, nm_id, nm_id, hs]
      simp
    · rw [if_neg c, if_neg c, nm_id, nm_id, hs, nI_1]
  unfold f_X12_bytesIn
  rw [show FU = 4091 + 5 from rfl, st 4095 24 16 0 24 0 (by decide) (by decide) (by decide) (by decide) rfl, st 4094 16 8 _ 16 _ (by decide) (by decide) (by decide) (by decide) rfl, st 4093 8 0 _ 8 _ (by decide) (by decide) (by decide) (by decide) rfl, st 4092 0 (-8) _ 0 _ (by decide) (by decide) (by decide) (by decide) rfl, f_X12_bytesIn_5, if_pos (by decide)]
  simp [cnt4]
def cT (q : Nat × (Nat → Nat)) (h : AH) : Prop := h.1 1 1 = nI q.1 ∧ ∀ j, j < q.1 → 0 < q.2 j ∧ q.2 j < 256 ∧ h.1 2 j = nI (q.2 j)
def mT (q : Nat × (Nat → Nat)) (h : AH) : Prop := h.1 56 6 = nI q.1 ∧ ∀ j, j < q.1 → h.1 57 j = bys (q.2 j)
theorem cT_app {q : Nat × (Nat → Nat)} {h : AH} {c : Nat} (T : cT q h) (h0 : c ≠ 0) (hc : c < 256) : cT (app c q) (sI (sI h 2 q.1 (nI c)) 1 1 (nI (q.1 + 1))) := by
  unfold app
  rw [if_neg h0]
  refine ⟨rfl, fun j hj => ?_⟩
  by_cases e : j = q.1
  · subst e
    simp [sI_eq]
    omega
  · have := T.2 j (by simp at hj; omega)
    simp [sI_eq, e]
    exact this
theorem mT_app {q : Nat × (Nat → Nat)} {h : AH} {c : Nat} (T : mT q h) (h0 : c ≠ 0) : mT (app c q) (sI (sI h 57 q.1 (bys c)) 56 6 (nI (q.1 + 1))) := by
  unfold app
  rw [if_neg h0]
  refine ⟨rfl, fun j hj => ?_⟩
  by_cases e : j = q.1
  · subst e
    simp [sI_eq]
  · have := T.2 j (by simp at hj; omega)
    simp [sI_eq, e]
    exact this
theorem e_X10_put (x : Int32) (h : AH) (q : Nat × (Nat → Nat)) (T : cT q h) (hq : q.1 + cnt4 x ≤ 160) : ∃ h', f_X10_put 1 x h = some h' ∧ cT (app4 x q) h' := by
  have st : ∀ (n : Nat) (s s' : Int32) (k : Nat) (q : Nat × (Nat → Nat)) (h : AH), ((s.toUInt32 &&& Int32.toUInt32 31).toBitVec % 32).toNat = k → ¬ s < 0 → s + (-8) = s' → cT q h → q.1 + c1 (byt k x) ≤ 160 → ∃ h', f_X10_put_3 (n + 1) 1 x s h = f_X10_put_3 n 1 x s' h' ∧ cT (app (byt k x) q) h' := by
    intro n s s' k q h hk h0 hs T hq
    have hb := byt_lt k x
    have hz : (nI (byt k x) = 0) = (byt k x = 0) := n_eq (b := 0) (by omega) (by decide)
    rw [f_X10_put_3, if_neg h0, nm_id, by_u x s k hk]
    simp only [hz]
    by_cases c : byt k x = 0
    · refine ⟨h, ?_, ?_⟩
      · rw [if_pos c, f_X10_put_50, nm_id, hs]
      · unfold app
        rw [if_pos c]
        exact T
    · have hq' : q.1 + 1 ≤ 160 := by
        have : c1 (byt k x) = 1 := by unfold c1; rw [if_neg c]
        omega
      refine ⟨_, ?_, cT_app T c hb⟩
      have e1 : vp_nar .char ((nI (byt k x)).toUInt32 % 65536).toInt32 = nI (byt k x) := by
        rw [pk_vc, pk_char]
        have : (nI (byt k x)).toBitVec.toNat = byt k x := by
          rcases i_nat (nI (byt k x)) with e | e <;> rw [nI_toInt (by omega)] at e <;> omega
        rw [this, Nat.mod_eq_of_lt (by omega)]
      have e2 : (sI h 2 q.1 (nI (byt k x))).1 1 1 = nI q.1 := T.1
      simp (disch := omega) only [if_neg c, T.1, k_mul, k_mul', k_add, k_le, k_le', k_lt, k_lt', k_eq, n_le, n_lt, n_eq, n_m1, nI_add, pk_mul, if_neg (show ¬ 160 ≤ q.1 by omega), rv_0_0, rv_0_1, rv_0_2, rv_0_3, rv_0_4, rv_0_6, rv_0_7, rv_0_9, rv_0_10, rv_0_11, rv_0_12, rv_0_13, rv_0_14, rv_1_0, an_2, rv_3_0, rv_3_1, an_4, an_5, rv_6_0, rv_6_1, an_7, an_8, rv_9_0, rv_9_1, an_10, an_11, rv_12_0, rv_12_1, an_13, an_14, rv_15_0, rv_15_1, an_16, an_17, rv_18_0, rv_18_1, an_19, an_20, rv_21_0, rv_21_1, an_22, an_23, rv_24_0, rv_24_1, rv_24_2, an_25, an_26, an_27, rv_28_0, rv_28_1, rv_28_2, an_29, an_30, an_31, rv_32_0, rv_32_1, an_33, an_34, rv_35_0, rv_35_1, rv_35_2, rv_35_3, rv_35_4, rv_35_5, rv_35_6, an_36, an_37, an_38, an_39, an_40, rv_41_0, rv_41_1, rv_41_3, rv_41_4, rv_41_5, an_42, an_43, an_44, an_45, rv_46_0, rv_46_1, rv_46_2, rv_46_3, rv_46_4, rv_46_6, an_47, an_48, rv_49_0, rv_49_1, an_50, rv_51_0, rv_51_1, rv_51_2, rv_51_3, rv_51_4, rv_51_6, rv_51_7, an_52, an_53, an_54, an_55, rv_56_1, rv_56_2, rv_56_3, rv_56_4, rv_56_15, rv_56_16, rv_56_17, rv_56_19, rv_56_22, rv_56_23, rv_56_24, rv_56_25, rv_56_26, rv_56_27, rv_56_28, rv_56_31, rv_56_33, rv_56_35, rv_56_36, rv_56_37, rv_56_39, rv_56_40, rv_56_41, rv_56_42, rv_56_43, rv_56_44, rv_56_46, rv_56_47, rv_56_48, rv_56_49, rv_56_51, rv_56_52, rv_56_54, an_57, an_58, an_59, an_60, an_61, an_62, an_63, an_64, an_65, an_66, an_67, an_68, an_69, an_70, an_71, an_72, an_73, an_74, an_75, an_76, an_77, an_78, an_79, an_80, an_81, an_82, an_83, an_84, an_85, an_86, an_87, og_ix, nI_clamp, nm_id, e1, e2, f_X10_put_50, hs]
  unfold f_X10_put
  unfold cnt4 at hq
  have a1 := app_1 (byt 24 x) q
  have a2 := app_1 (byt 16 x) (app (byt 24 x) q)
  have a3 := app_1 (byt 8 x) (app (byt 16 x) (app (byt 24 x) q))
  obtain ⟨h1, e1, T1⟩ := st 4095 24 16 24 q h (by decide) (by decide) (by decide) T (by omega)
  obtain ⟨h2, e2, T2⟩ := st 4094 16 8 16 _ h1 (by decide) (by decide) (by decide) T1 (by omega)
  obtain ⟨h3, e3, T3⟩ := st 4093 8 0 8 _ h2 (by decide) (by decide) (by decide) T2 (by omega)
  obtain ⟨h4, e4, T4⟩ := st 4092 0 (-8) 0 _ h3 (by decide) (by decide) (by decide) T3 (by omega)
  refine ⟨h4, ?_, T4⟩
  rw [show FU = 4095 + 1 from rfl, e1, e2, e3, e4, f_X10_put_3, if_pos (by decide)]
theorem e_X12_put (x : Int32) (h : AH) (q : Nat × (Nat → Nat)) (T : mT q h) (hq : q.1 + cnt4 x ≤ 160) : ∃ h', f_X12_put 56 x h = some h' ∧ mT (app4 x q) h' := by
  have st : ∀ (n : Nat) (s s' : Int32) (k : Nat) (q : Nat × (Nat → Nat)) (h : AH), (k = 0 ∨ k = 8 ∨ k = 16 ∨ k = 24) → ((s &&& 31).toBitVec.smod 32).toNat = k → ¬ s < 0 → s + (-8) = s' → mT q h → q.1 + c1 (byt k x) ≤ 160 → ∃ h', f_X12_put_3 (n + 1) 56 x s h = f_X12_put_3 n 56 x s' h' ∧ mT (app (byt k x) q) h' := by
    intro n s s' k q h hk4 hk h0 hs T hq
    have hb := byt_lt k x
    have hz : (nI (byt k x) = 0) = (byt k x = 0) := n_eq (b := 0) (by omega) (by decide)
    have h8 := by_s x (s &&& 31) k hk4 hk
    rw [f_X12_put_3, if_neg h0, and255, h8]
    simp only [hz]
    by_cases c : byt k x = 0
    · refine ⟨h, ?_, ?_⟩
      · rw [if_pos c, f_X12_put_43, nm_id, hs]
      · unfold app
        rw [if_pos c]
        exact T
    · have hq' : q.1 + 1 ≤ 160 := by
        have : c1 (byt k x) = 1 := by unfold c1; rw [if_neg c]
        omega
      refine ⟨_, ?_, mT_app T c⟩
      have e1 : vp_nar .byte (x >>> (s &&& 31)).toInt8.toInt32 = bys (byt k x) := by
        rw [pk_vb, i8 _ _ h8]
      have e2 : (sI h 57 q.1 (bys (byt k x))).1 56 6 = nI q.1 := T.1
      simp (disch := omega) only [if_neg c, T.1, k_mul, k_mul', k_add, k_le, k_le', k_lt, k_lt', k_eq, n_le, n_lt, n_eq, n_m1, nI_add, pk_mul, rv_0_0, rv_0_1, rv_0_2, rv_0_3, rv_0_4, rv_0_6, rv_0_7, rv_0_9, rv_0_10, rv_0_11, rv_0_12, rv_0_13, rv_0_14, rv_1_0, an_2, rv_3_0, rv_3_1, an_4, an_5, rv_6_0, rv_6_1, an_7, an_8, rv_9_0, rv_9_1, an_10, an_11, rv_12_0, rv_12_1, an_13, an_14, rv_15_0, rv_15_1, an_16, an_17, rv_18_0, rv_18_1, an_19, an_20, rv_21_0, rv_21_1, an_22, an_23, rv_24_0, rv_24_1, rv_24_2, an_25, an_26, an_27, rv_28_0, rv_28_1, rv_28_2, an_29, an_30, an_31, rv_32_0, rv_32_1, an_33, an_34, rv_35_0, rv_35_1, rv_35_2, rv_35_3, rv_35_4, rv_35_5, rv_35_6, an_36, an_37, an_38, an_39, an_40, rv_41_0, rv_41_1, rv_41_3, rv_41_4, rv_41_5, an_42, an_43, an_44, an_45, rv_46_0, rv_46_1, rv_46_2, rv_46_3, rv_46_4, rv_46_6, an_47, an_48, rv_49_0, rv_49_1, an_50, rv_51_0, rv_51_1, rv_51_2, rv_51_3, rv_51_4, rv_51_6, rv_51_7, an_52, an_53, an_54, an_55, rv_56_1, rv_56_2, rv_56_3, rv_56_4, rv_56_15, rv_56_16, rv_56_17, rv_56_19, rv_56_22, rv_56_23, rv_56_24, rv_56_25, rv_56_26, rv_56_27, rv_56_28, rv_56_31, rv_56_33, rv_56_35, rv_56_36, rv_56_37, rv_56_39, rv_56_40, rv_56_41, rv_56_42, rv_56_43, rv_56_44, rv_56_46, rv_56_47, rv_56_48, rv_56_49, rv_56_51, rv_56_52, rv_56_54, an_57, an_58, an_59, an_60, an_61, an_62, an_63, an_64, an_65, an_66, an_67, an_68, an_69, an_70, an_71, an_72, an_73, an_74, an_75, an_76, an_77, an_78, an_79, an_80, an_81, an_82, an_83, an_84, an_85, an_86, an_87, og_ix, nI_clamp, nm_id, e1, e2, f_X12_put_43, hs]
  unfold f_X12_put
  unfold cnt4 at hq
  have a1 := app_1 (byt 24 x) q
  have a2 := app_1 (byt 16 x) (app (byt 24 x) q)
  have a3 := app_1 (byt 8 x) (app (byt 16 x) (app (byt 24 x) q))
  obtain ⟨h1, e1, T1⟩ := st 4095 24 16 24 q h (by decide) (by decide) (by decide) (by decide) T (by omega)
  obtain ⟨h2, e2, T2⟩ := st 4094 16 8 16 _ h1 (by decide) (by decide) (by decide) (by decide) T1 (by omega)
  obtain ⟨h3, e3, T3⟩ := st 4093 8 0 8 _ h2 (by decide) (by decide) (by decide) (by decide) T2 (by omega)
  obtain ⟨h4, e4, T4⟩ := st 4092 0 (-8) 0 _ h3 (by decide) (by decide) (by decide) (by decide) T3 (by omega)
  refine ⟨h4, ?_, T4⟩
  rw [show FU = 4095 + 1 from rfl, e1, e2, e3, e4, f_X12_put_3, if_pos (by decide)]
theorem g0 : G0 Rel := by
  intro h ⟨v, R⟩ a b c d e
  have hL := R.L160
  have R1 := R.thr (x := 0)
  have k4 : ∀ x, cnt4 x ≤ 4 := fun x => by
    unfold cnt4
    have := c1_le (byt 24 x)
    have := c1_le (byt 16 x)
    have := c1_le (byt 8 x)
    have := c1_le (byt 0 x)
    omega
  have := k4 a
  have := k4 b
  have := k4 c
  have := k4 d
  have := k4 e
  have s1 : ∀ h, f_X11_feed 0 a b c d e h = f_X11_feed 0 a b c d e h := fun _ => rfl
  by_cases z : v.L + (cnt4 a + cnt4 b + cnt4 c + cnt4 d + cnt4 e) ≤ 160
  · have t0 := R.1
    have T : cT (v.L, v.tx) h := ⟨R.cL, fun j hj => ⟨(t0.2.2.2 j hj).1, (t0.2.2.2 j hj).2.1, (t0.2.2.2 j hj).2.2.1⟩⟩
    have q1 := app4_1 a (v.L, v.tx)
    have q2 := app4_1 b (app4 a (v.L, v.tx))
    have q3 := app4_1 c (app4 b (app4 a (v.L, v.tx)))
    have q4 := app4_1 d (app4 c (app4 b (app4 a (v.L, v.tx))))
    have q5 := app4_1 e (app4 d (app4 c (app4 b (app4 a (v.L, v.tx)))))
    simp only at q1
    obtain ⟨h1, e1, T1⟩ := e_X10_put a h _ T (by simp only; omega)
    obtain ⟨h2, e2, T2⟩ := e_X10_put b h1 _ T1 (by omega)
    obtain ⟨h3, e3, T3⟩ := e_X10_put c h2 _ T2 (by omega)
    obtain ⟨h4, e4, T4⟩ := e_X10_put d h3 _ T3 (by omega)
    obtain ⟨h5, e5, T5⟩ := e_X10_put e h4 _ T4 (by omega)
    generalize hq : app4 e (app4 d (app4 c (app4 b (app4 a (v.L, v.tx))))) = qq at T5 q5
    have f1 : f_X11_feed 0 a b c d e h = some (nI qq.1, h5) := by
      simp (disch := omega) only [f_X11_feed, e_X10_bytesIn, ob_some, nm_id, rv_0_0, rv_0_1, rv_0_2, rv_0_3, rv_0_4, rv_0_6, rv_0_7, rv_0_9, rv_0_10, rv_0_11, rv_0_12, rv_0_13, rv_0_14, rv_1_0, an_2, rv_3_0, rv_3_1, an_4, an_5, rv_6_0, rv_6_1, an_7, an_8, rv_9_0, rv_9_1, an_10, an_11, rv_12_0, rv_12_1, an_13, an_14, rv_15_0, rv_15_1, an_16, an_17, rv_18_0, rv_18_1, an_19, an_20, rv_21_0, rv_21_1, an_22, an_23, rv_24_0, rv_24_1, rv_24_2, an_25, an_26, an_27, rv_28_0, rv_28_1, rv_28_2, an_29, an_30, an_31, rv_32_0, rv_32_1, an_33, an_34, rv_35_0, rv_35_1, rv_35_2, rv_35_3, rv_35_4, rv_35_5, rv_35_6, an_36, an_37, an_38, an_39, an_40, rv_41_0, rv_41_1, rv_41_3, rv_41_4, rv_41_5, an_42, an_43, an_44, an_45, rv_46_0, rv_46_1, rv_46_2, rv_46_3, rv_46_4, rv_46_6, an_47, an_48, rv_49_0, rv_49_1, an_50, rv_51_0, rv_51_1, rv_51_2, rv_51_3, rv_51_4, rv_51_6, rv_51_7, an_52, an_53, an_54, an_55, rv_56_1, rv_56_2, rv_56_3, rv_56_4, rv_56_15, rv_56_16, rv_56_17, rv_56_19, rv_56_22, rv_56_23, rv_56_24, rv_56_25, rv_56_26, rv_56_27, rv_56_28, rv_56_31, rv_56_33, rv_56_35, rv_56_36, rv_56_37, rv_56_39, rv_56_40, rv_56_41, rv_56_42, rv_56_43, rv_56_44, rv_56_46, rv_56_47, rv_56_48, rv_56_49, rv_56_51, rv_56_52, rv_56_54, an_57, an_58, an_59, an_60, an_61, an_62, an_63, an_64, an_65, an_66, an_67, an_68, an_69, an_70, an_71, an_72, an_73, an_74, an_75, an_76, an_77, an_78, an_79, an_80, an_81, an_82, an_83, an_84, an_85, an_86, an_87, R.cL, k_mul, k_mul', k_add, k_le, k_le', k_lt, k_lt', k_eq, n_le, n_lt, n_eq, n_m1, nI_add, pk_mul, if_pos z, e1, e2, e3, e4, e5, ov_some, T5.1]
    have ag := w_f_X11_feed_i0 _ _ _ _ _ _ _ f1
    have M : mT (v.L, v.tx) (sI h5 56 0 0) := by
      refine ⟨(ag.1 56 6 rfl).trans R.mL, fun j hj => ?_⟩
      have := (t0.2.2.2 j hj).2.2.2
      rw [Nat.zero_add] at this
      exact (ag.1 57 j rfl).trans this
    obtain ⟨g1, i1, M1⟩ := e_X12_put a _ _ M (by simp only; omega)
    obtain ⟨g2, i2, M2⟩ := e_X12_put b g1 _ M1 (by omega)
    obtain ⟨g3, i3, M3⟩ := e_X12_put c g2 _ M2 (by omega)
    obtain ⟨g4, i4, M4⟩ := e_X12_put d g3 _ M3 (by omega)
    obtain ⟨g5, i5, M5⟩ := e_X12_put e g4 _ M4 (by omega)
    rw [hq] at M5
    have f2 : f_X12_feed 56 a b c d e h5 = some (nI qq.1, g5) := by
      have z' : v.L + cnt4 a + cnt4 b + cnt4 c + cnt4 d + cnt4 e ≤ 160 := by omega
      simp (disch := omega) only [f_X12_feed, e_X12_bytesIn, ob_some, nm_id, M.1, k_mul, k_mul', k_add, k_le, k_le', k_lt, k_lt', k_eq, n_le, n_lt, n_eq, n_m1, nI_add, pk_mul, if_pos z', i1, i2, i3, i4, i5, ov_some, M5.1]
    refine ⟨_, _, _, f1, f2, ?_⟩
    have ag2 := w_f_X12_feed_i56 _ _ _ _ _ _ _ f2
    have ag3 := agr_tr (W := (1, 1) :: (2, 1000) :: (56, 0) :: (56, 6) :: (57, 1000) :: []) (agr_up ag rfl) ag2 rfl
    obtain ⟨r1, r2, r3, r4, r5, r6, r7, r8⟩ := R
    refine rel_mk (L := qq.1) (tx := qq.2) ⟨by omega, (ag2.1 1 1 rfl).trans T5.1, M5.1, fun j hj => ⟨(T5.2 j hj).1, (T5.2 j hj).2.1, (ag2.1 2 j rfl).trans (T5.2 j hj).2.2, ?_⟩⟩ (gP_eq (agr_on ag3 rfl) r2) (gO_eq (agr_on ag3 rfl) r3) (gR_eq (agr_on ag3 rfl) r4) (gS_eq (agr_on ag3 rfl) r5) (gD_eq (agr_on ag3 rfl) r6) (gG_eq (agr_on ag3 rfl) r7) (gI_eq (agr_on ag3 rfl) r8)
    rw [Nat.zero_add]
    exact M5.2 j hj
  · have f1 : f_X11_feed 0 a b c d e h = some (-1, h) := by
      simp (disch := omega) only [f_X11_feed, e_X10_bytesIn, ob_some, nm_id, rv_0_0, rv_0_1, rv_0_2, rv_0_3, rv_0_4, rv_0_6, rv_0_7, rv_0_9, rv_0_10, rv_0_11, rv_0_12, rv_0_13, rv_0_14, rv_1_0, an_2, rv_3_0, rv_3_1, an_4, an_5, rv_6_0, rv_6_1, an_7, an_8, rv_9_0, rv_9_1, an_10, an_11, rv_12_0, rv_12_1, an_13, an_14, rv_15_0, rv_15_1, an_16, an_17, rv_18_0, rv_18_1, an_19, an_20, rv_21_0, rv_21_1, an_22, an_23, rv_24_0, rv_24_1, rv_24_2, an_25, an_26, an_27, rv_28_0, rv_28_1, rv_28_2, an_29, an_30, an_31, rv_32_0, rv_32_1, an_33, an_34, rv_35_0, rv_35_1, rv_35_2, rv_35_3, rv_35_4, rv_35_5, rv_35_6, an_36, an_37, an_38, an_39, an_40, rv_41_0, rv_41_1, rv_41_3, rv_41_4, rv_41_5, an_42, an_43, an_44, an_45, rv_46_0, rv_46_1, rv_46_2, rv_46_3, rv_46_4, rv_46_6, an_47, an_48, rv_49_0, rv_49_1, an_50, rv_51_0, rv_51_1, rv_51_2, rv_51_3, rv_51_4, rv_51_6, rv_51_7, an_52, an_53, an_54, an_55, rv_56_1, rv_56_2, rv_56_3, rv_56_4, rv_56_15, rv_56_16, rv_56_17, rv_56_19, rv_56_22, rv_56_23, rv_56_24, rv_56_25, rv_56_26, rv_56_27, rv_56_28, rv_56_31, rv_56_33, rv_56_35, rv_56_36, rv_56_37, rv_56_39, rv_56_40, rv_56_41, rv_56_42, rv_56_43, rv_56_44, rv_56_46, rv_56_47, rv_56_48, rv_56_49, rv_56_51, rv_56_52, rv_56_54, an_57, an_58, an_59, an_60, an_61, an_62, an_63, an_64, an_65, an_66, an_67, an_68, an_69, an_70, an_71, an_72, an_73, an_74, an_75, an_76, an_77, an_78, an_79, an_80, an_81, an_82, an_83, an_84, an_85, an_86, an_87, R.cL, k_mul, k_mul', k_add, k_le, k_le', k_lt, k_lt', k_eq, n_le, n_lt, n_eq, n_m1, nI_add, pk_mul, if_neg z]
    have f2 : f_X12_feed 56 a b c d e h = some (-1, sI h 56 0 0) := by
      have z' : ¬ v.L + cnt4 a + cnt4 b + cnt4 c + cnt4 d + cnt4 e ≤ 160 := by omega
      simp (disch := omega) only [f_X12_feed, e_X12_bytesIn, ob_some, nm_id, R1.mL, k_mul, k_mul', k_add, k_le, k_le', k_lt, k_lt', k_eq, n_le, n_lt, n_eq, n_m1, nI_add, pk_mul, if_neg z']
    exact ⟨_, _, _, f1, f2, v, R1⟩
