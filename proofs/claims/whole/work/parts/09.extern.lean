section VRT
variable {E : EV} {d : Nat} {K : MK} {Z : Array Value → State → Outcome → State → Prop} {h : AH} {L : List (Nat × Value)} {st : List Value} {pc : Nat}
theorem V_nret {r r0 : Int32} {h0 : AH} {ty : FieldType} (hr : K.2.2.2 = some ty) (hb : narrow ty (.int r) = .int r) (hq : (r, h) = (r0, h0)) (dd : decode K.2.1 pc = .ok (.ireturn, 1)) : V E d K (ZI E r0 h0) h L [.int r] pc := by
  intro p e s m args below meth c H locs ls C hP hS hl
  cases hq
  exact W.zret (v := r) C.1 C.2.1 (C.2.2.1.trans hr) hb (fun t ht hW => ⟨⟨r, h, rfl, ⟨rfl, rfl⟩, by show va_P E.2.1 vwCl (wld E h) t.heap; rw [ht]; exact hP⟩, hS.F ht⟩) hS.2.2 dd C.2.2.2.2.2.2.1
theorem V_cst {o : String} {idx : Nat} (hL : Cond.fieldLink o idx "java/lang/String" "COMPACT_STRINGS" "Z" ∈ wAll) (ho : K.1.cls = o) (dd : decode K.2.1 pc = .ok (.getstatic idx, 3)) (k : V E d K Z h L (.int 1 :: st) (pc + 3)) : V E d K Z h L st pc := by
  intro p e s m args below meth c H locs ls C hP hS hl
  subst ho
  obtain ⟨c1, c2, c3, c4, c5, c6, c7, c8⟩ := id C
  exact va_gets c1 c2 c8.2.2.2.2.2.1 hS c5 (c6 _ hL) (fun _ h => h) dd (k _ _ _ _ _ _ _ _ _ _ _ C hP hS hl)
theorem V_sio {o : String} {idx : Nat} (hL : Cond.fieldLink o idx "jdk/internal/util/Preconditions" "SIOOBE_FORMATTER" "Ljava/util/function/BiFunction;" ∈ wAll) (ho : K.1.cls = o) (dd : decode K.2.1 pc = .ok (.getstatic idx, 3)) (k : ∀ v : Value, v = .null ∨ v = .ref 3000 → V E d K Z h L (v :: st) (pc + 3)) : V E d K Z h L st pc := by
  intro p e s m args below meth c H locs ls C hP hS hl
  subst ho
  obtain ⟨c1, c2, c3, c4, c5, c6, c7, c8⟩ := id C
  rcases c8.2.2.2.2.2.2.1 with q | q
  · exact va_gets c1 c2 q hS c5 (c6 _ hL) (fun _ h => h) dd (k .null (Or.inl rfl) _ _ _ _ _ _ _ _ _ _ _ C hP hS hl)
  · exact va_gets c1 c2 q hS c5 (c6 _ hL) (fun _ h => h) dd (k (.ref 3000) (Or.inr rfl) _ _ _ _ _ _ _ _ _ _ _ C hP hS hl)
theorem V_scod {o : String} {idx i : Nat} (hi : i < 3) (hL : Cond.fieldLink o idx "java/lang/String" "coder" "B" ∈ wAll) (ho : K.1.cls = o) (dd : decode K.2.1 pc = .ok (.getfield idx, 3)) (k : V E d K Z h L (.int 0 :: st) (pc + 3)) : V E d K Z h L (.ref (1000 + i) :: st) pc := by
  intro p e s m args below meth c H locs ls C hP hS hl
  subst ho
  obtain ⟨c1, c2, c3, c4, c5, c6, c7, c8⟩ := id C
  exact vk_getf c1 c2 (c8.2.2.2.2.1.1 i hi).2.1 hS c5 (c6 _ hL) (fun _ h => h) dd (k _ _ _ _ _ _ _ _ _ _ _ C hP hS hl)
theorem V_sval {o : String} {idx i : Nat} (hi : i < 3) (hL : Cond.fieldLink o idx "java/lang/String" "value" "[B" ∈ wAll) (ho : K.1.cls = o) (dd : decode K.2.1 pc = .ok (.getfield idx, 3)) (k : V E d K Z h L (.ref (1100 + i) :: st) (pc + 3)) : V E d K Z h L (.ref (1000 + i) :: st) pc := by
  intro p e s m args below meth c H locs ls C hP hS hl
  subst ho
  obtain ⟨c1, c2, c3, c4, c5, c6, c7, c8⟩ := id C
  exact vk_getf c1 c2 (c8.2.2.2.2.1.1 i hi).2.2.1 hS c5 (c6 _ hL) (fun _ h => h) dd (k _ _ _ _ _ _ _ _ _ _ _ C hP hS hl)
theorem V_sblen {i : Nat} (hi : i < 3) (dd : decode K.2.1 pc = .ok (.arraylength, 1)) (k : V E d K Z h L (.int (Int32.ofNat (strL.getD i 0)) :: st) (pc + 1)) : V E d K Z h L (.ref (1100 + i) :: st) pc := by
  intro p e s m args below meth c H locs ls C hP hS hl
  obtain ⟨c1, c2, c3, c4, c5, c6, c7, c8⟩ := id C
  exact va_tlen c1 c2 (c8.2.2.2.2.1.1 i hi).2.2.2 hS rfl dd (k _ _ _ _ _ _ _ _ _ _ _ C hP hS hl)
theorem V_sbld {i : Nat} {x : Int32} (hi : i < 3) (hx : ix x (strL.getD i 0) = true) (dd : decode K.2.1 pc = .ok (.baload, 1)) (k : V E d K Z h L (.int ((strB.getD i []).getD x.toNatClampNeg 0) :: st) (pc + 1)) : V E d K Z h L (.int x :: .ref (1100 + i) :: st) pc := by
  intro p e s m args below meth c H locs ls C hP hS hl
  obtain ⟨c1, c2, c3, c4, c5, c6, c7, c8⟩ := id C
  exact va_tb c1 c2 (c8.2.2.2.2.1.1 i hi).2.2.2 hS (ix_in hx) rfl dd (k _ _ _ _ _ _ _ _ _ _ _ C hP hS hl)
def MTk (M : MK) (n : Nat) : Prop := MOk M n ∧ Cond.instanceMethod M.1 ∈ wAll ∧ Cond.selects M.1.cls M.1 M.1 ∈ wAll ∧ M.1.cls = "java/lang/String"
/-- a call of a method of a text -/
theorem V_cti {M : MK} {o : String} {idx n i : Nat} {As rest st0 : List Value} {r : Int32} {h' : AH} (hi : i < 3) (hM : Con E d M (ZI E r h') (.ref (1000 + i) :: As) h) (hL : Cond.methodLink o idx M.1 ∈ wAll) (hV : MTk M n) (ho : K.1.cls = o) (hn : As.length = n) (hst : As.reverse ++ .ref (1000 + i) :: rest = st0) (hr : (rest.map fun v => v.category).sum ≤ 8) (dd : decode K.2.1 pc = .ok (.invokevirtual idx, 3)) (k : V E (d + 1) K Z h' L (.int r :: rest) (pc + 3)) : V E (d + 1) K Z h L st0 pc := by
  intro p e s m args below meth c H locs ls C hP hS hl
  subst hst
  subst ho
  obtain ⟨⟨hcd, hini, hd, h21⟩, hin, hse, hcl⟩ := hV
  obtain ⟨c1, c2, c3, c4, c5, c6, c7, c8⟩ := id C
  have hst : (F0 m pc ls ((As.reverse ++ .ref (1000 + i) :: rest).map (trv E.2.2.2))).stack = (As.map (trv E.2.2.2)).reverse ++ .ref (E.2.2.2 (1000 + i)) :: rest.map (trv E.2.2.2) := by
    show (As.reverse ++ .ref (1000 + i) :: rest).map (trv E.2.2.2) = _
    rw [List.map_append, List.map_reverse]
    rfl
  have hcat : 2 * (F0 m pc ls ((As.reverse ++ .ref (1000 + i) :: rest).map (trv E.2.2.2))).monitorRoom + ((rest.map (trv E.2.2.2)).map fun v => v.category).sum ≤ 8 := by
    refine lv_room (rest := (As.reverse ++ .ref (1000 + i) :: rest).map (trv E.2.2.2)) ?_
    rw [cat_tr]
    exact hr
  have hpre : PreV s H M.1.cls (E.2.2.2 (1000 + i)) (va_Pc ((.ref (1000 + i) :: As).map (trv E.2.2.2)) (fun U => va_P E.2.1 vwCl (wld E h) U.heap ∧ SK E U)) (As.map (trv E.2.2.2)) :=
    ⟨blind, by rw [hcl]; exact vk_recv (i := i) (adK := fun i => E.2.2.2 (1000 + i)) c8.2.2.2.2.1 hi hS, fun U hU hW => ⟨rfl, by rw [hU]; exact hP, SK.warm hS hU hW c8⟩⟩
  have hR : (rm d).frames + 1 ≤ (rm (d + 1)).frames ∧ 8 + (M.2.2.1 + 11) + (rm d).locals ≤ (rm (d + 1)).locals := ⟨Nat.le_refl _, by show 8 + (M.2.2.1 + 11) + 40 * d ≤ 40 * (d + 1); omega⟩
  have hfit : 0 + 0 ≤ (rm (d + 1)).cells ∧ 0 + 0 ≤ (rm (d + 1)).slots := ⟨Nat.le_refl _, Nat.le_refl _⟩
  refine va_calli (va_runV (R := rm (d + 1)) (n := n) ⟨c1, c2, c4, c5, c6⟩ hM ⟨callB_of (ws' := wAll) n c6 (goodAll' hcd) rfl rfl rfl (c6 _ hini) (c6 _ hL) hd hR, c6 _ hin, c6 _ hse⟩ hpre rfl (by rw [List.length_map]; exact hn) hl.1 hst hcat dd hfit) hS (fun _ _ q => q) (fun _ q => q) (fun r2 u t H1 locs1 ht hvm hq hB hz hk1 hS1 => ?_)
  obtain ⟨rfl, rfl⟩ := hq
  subst ht
  exact k _ _ _ _ _ _ _ _ _ _ _ C hB hS1 hl
/-- a copy out of a static array -/
theorem V_acopyT {o : String} {idx i a0 a1 : Nat} {sp dp n : Int32} {h' : AH} (hl1 : Cond.methodLink o idx arraycopyName ∈ wAll) (ho : K.1.cls = o) (hi7 : i < 7) (ha : 2000 + i = a0) (h1 : (kd a1).1 = 1) (hc : cok sp dp n (sN i) (an a1) = true) (hh : h' = sCt h i sp a1 dp n) (hr : (st.map fun v => v.category).sum ≤ 8) (dd : decode K.2.1 pc = .ok (.invokestatic idx, 3)) (k : V E (d + 1) K Z h' L st (pc + 3)) : V E (d + 1) K Z h L (.int n :: .int dp :: .ref a1 :: .int sp :: .ref a0 :: st) pc := by
  intro p e s m args below meth c H locs ls C hP hS hl
  subst ho; subst hh; subst ha
  obtain ⟨c1, c2, c3, c4, c5, c6, c7, c8⟩ := id C
  obtain ⟨q1, q2, q3, q4, q5⟩ := (of_decide_eq_true hc : _ ∧ _)
  have he1 : (wld E h)[a1]? = some (E.2.2.2 a1, .inl (E.2.2.1 1, an a1, .inl (h.1 a1))) := by rw [wld_at (kd_lt (by rw [h1]; decide)), cel_A h1 (by decide) (by decide) (by decide)]
  have hD : va_D (AA E) (wld E h) := wld_D c8.1
  have nn : ∀ z : Int32, ¬ z < 0 → z.toInt = (z.toNatClampNeg : Int) := by
    intro z hz
    have hz0 : (0 : Int) ≤ z.toInt := by simpa using Int32.le_iff_toInt_le.mp (Int32.not_lt.mp hz)
    show z.toInt = ((z.toInt.toNat : Nat) : Int)
    omega
  intro T hT X
  obtain ⟨scr, hs1, hs2, hs3, hs4, -, hs5, hs7⟩ := (c8.2.2.2.1 i hi7).2
  have hc0 : H[E.2.2.2 (2000 + i)]? = some scr := by rw [hS.2.1 _ (Array.getElem?_eq_some_iff.mp hs1).1 hs7]; exact hs1
  have hc1 : H[E.2.2.2 a1]? = some (vp_cell (E.2.2.1 1) (an a1, .inl (h.1 a1))) := hP a1 _ he1
  obtain ⟨hs6, k0, hk0, cm0, hkk0⟩ := hs2
  obtain ⟨-, k1, hk1, cm1, hkk1⟩ := (c8.2.1.2 0 _ (rfl : (tyL E)[0]? = some (E.2.2.1 1, .int))).1 (an a1) (fun j => .int (h.1 a1 j))
  have hcs := cat_tr E st
  have hnf := nfw
  obtain ⟨vm', X', step⟩ := X.arraycopy c1 c5 (c6 _ hl1) (c6 _ nat_arraycopy) (c6 _ st_java_lang_System_arraycopy) (c6 _ in_J10) (src := E.2.2.2 (2000 + i)) (dst := E.2.2.2 a1) (cs := scr) (cd := vp_cell (E.2.2.1 1) (an a1, .inl (h.1 a1))) (srcPos := sp) (destPos := dp) (n := n) (by rw [hT]; exact hc0) (by rw [hT]; exact hc1)
    hs6 (fun _ h => by cases h) hs3 (fun h => by cases h) hk0 hk1 hkk0 hkk1 (by simp [refKind]) q1 q2 q3
    (by rw [nn sp q1, nn n q3]; omega)
    (by rw [nn dp q2, nn n q3]; show ¬ _ > ((arrV (E.2.2.1 1) (an a1) (fun j => .int (h.1 a1 j))).slots.size : Int); rw [arrV_size]; omega)
    (fun vm₁ _ j hj => by
      have e : scr.slots.getD (sp.toNatClampNeg + j) .null = .int (sT i (sp.toNatClampNeg + j)) := by
        rw [Array.getD_eq_getD_getElem?, hs5 _ (by omega)]
        rfl
      refine ⟨?_, ?_⟩
      · rw [e]; rfl
      · rw [e]; exact trivial)
    (g := F0 m pc ls ((.int n :: .int dp :: .ref a1 :: .int sp :: .ref (2000 + i) :: st).map (trv E.2.2.2))) rfl (by show ls.size = _; rw [c4]; exact hl.1) (rest := st.map (trv E.2.2.2)) rfl (by rw [c2]; exact dd) (Nat.succ_le_succ (Nat.zero_le _)) (by show 2 * 0 + _ + _ ≤ 40 * (d + 1); omega)
  have e1 : copied scr (vp_cell (E.2.2.1 1) (an a1, .inl (h.1 a1))) sp dp n = vp_cell (E.2.2.1 1) (an a1, .inl (va_cpy (sT i) (h.1 a1) sp.toNatClampNeg dp.toNatClampNeg n.toNatClampNeg)) := va_copiedX (fun z => .int z) scr (E.2.2.1 1) (sT i) (h.1 a1) hs5 q4
  rw [e1] at X' step
  have hlt : E.2.2.2 a1 < H.size := (Array.getElem?_eq_some_iff.mp hc1).1
  have hheap : ((T.setVm vm').setCell (E.2.2.2 a1) (vp_cell (E.2.2.1 1) (an a1, .inl (va_cpy (sT i) (h.1 a1) sp.toNatClampNeg dp.toNatClampNeg n.toNatClampNeg)))).heap = H.setIfInBounds (E.2.2.2 a1) (vp_cell (E.2.2.1 1) (an a1, .inl (va_cpy (sT i) (h.1 a1) sp.toNatClampNeg dp.toNatClampNeg n.toNatClampNeg))) := by rw [← hT]; rfl
  have oq : ∀ q : Nat, q ≠ E.2.2.2 a1 → (H.setIfInBounds (E.2.2.2 a1) (vp_cell (E.2.2.1 1) (an a1, .inl (va_cpy (sT i) (h.1 a1) sp.toNatClampNeg dp.toNatClampNeg n.toNatClampNeg))))[q]? = H[q]? := fun q hq => by simp [Array.getElem?_setIfInBounds, Ne.symm hq]
  have hat : va_at E.2.1 vwCl (E.2.2.2 a1, .inl (E.2.2.1 1, an a1, .inl (va_cpy (sT i) (h.1 a1) sp.toNatClampNeg dp.toNatClampNeg n.toNatClampNeg))) (H.setIfInBounds (E.2.2.2 a1) (vp_cell (E.2.2.1 1) (an a1, .inl (va_cpy (sT i) (h.1 a1) sp.toNatClampNeg dp.toNatClampNeg n.toNatClampNeg)))) := by
    show (H.setIfInBounds (E.2.2.2 a1) (vp_cell (E.2.2.1 1) (an a1, .inl (va_cpy (sT i) (h.1 a1) sp.toNatClampNeg dp.toNatClampNeg n.toNatClampNeg))))[E.2.2.2 a1]? = some (vp_cell (E.2.2.1 1) (an a1, .inl (va_cpy (sT i) (h.1 a1) sp.toNatClampNeg dp.toNatClampNeg n.toNatClampNeg)))
    simp [Array.getElem?_setIfInBounds, hlt]
  have hP1 := hP.set hD he1 hat oq
  rw [wld_A h1 (by decide) (by decide) (by decide) (by decide)] at hP1
  obtain ⟨t, a1', b1⟩ := k _ _ _ _ _ _ _ _ _ _ _ C hP1 ⟨by simp; exact hS.1, fun q g1 g2 => by
      rw [oq q (fun e => g2 (by rw [e]; exact hD.2 a1 _ he1))]
      exact hS.2.1 q g1 g2, fun q hq => by
      rcases List.mem_append.mp hq with h | h
      · exact hS.2.2 q h
      · obtain ⟨z, -, hz⟩ := List.mem_map.mp h
        rw [← hz]
        exact hD.2 a1 _ he1⟩ hl _ hheap X'
  exact ⟨t, step t a1', b1⟩
end VRT

theorem dJ0_length_8abf5_0 : decode cJ0_length_8abf5 0 = .ok (.aload_n 0, 1) := by decide +kernel
theorem dJ0_length_8abf5_1 : decode cJ0_length_8abf5 1 = .ok (.getfield 9, 3) := by decide +kernel
theorem dJ0_length_8abf5_4 : decode cJ0_length_8abf5 4 = .ok (.arraylength, 1) := by decide +kernel
theorem dJ0_length_8abf5_5 : decode cJ0_length_8abf5 5 = .ok (.aload_n 0, 1) := by decide +kernel
theorem dJ0_length_8abf5_6 : decode cJ0_length_8abf5 6 = .ok (.invokevirtual 335, 3) := by decide +kernel
theorem dJ0_length_8abf5_9 : decode cJ0_length_8abf5 9 = .ok (.ishr, 1) := by decide +kernel
theorem dJ0_length_8abf5_10 : decode cJ0_length_8abf5 10 = .ok (.ireturn, 1) := by decide +kernel
theorem dJ0_charAt_5068e_0 : decode cJ0_charAt_5068e 0 = .ok (.aload_n 0, 1) := by decide +kernel
theorem dJ0_charAt_5068e_1 : decode cJ0_charAt_5068e 1 = .ok (.invokevirtual 492, 3) := by decide +kernel
theorem dJ0_charAt_5068e_4 : decode cJ0_charAt_5068e 4 = .ok (.ifCond .eq 12, 3) := by decide +kernel
theorem dJ0_charAt_5068e_7 : decode cJ0_charAt_5068e 7 = .ok (.aload_n 0, 1) := by decide +kernel
theorem dJ0_charAt_5068e_8 : decode cJ0_charAt_5068e 8 = .ok (.getfield 9, 3) := by decide +kernel
theorem dJ0_charAt_5068e_11 : decode cJ0_charAt_5068e 11 = .ok (.iload_n 1, 1) := by decide +kernel
theorem dJ0_charAt_5068e_12 : decode cJ0_charAt_5068e 12 = .ok (.invokestatic 495, 3) := by decide +kernel
theorem dJ0_charAt_5068e_15 : decode cJ0_charAt_5068e 15 = .ok (.ireturn, 1) := by decide +kernel
theorem dJ0_charAt_5068e_16 : decode cJ0_charAt_5068e 16 = .ok (.aload_n 0, 1) := by decide +kernel
theorem dJ0_charAt_5068e_17 : decode cJ0_charAt_5068e 17 = .ok (.getfield 9, 3) := by decide +kernel
theorem dJ0_charAt_5068e_20 : decode cJ0_charAt_5068e 20 = .ok (.iload_n 1, 1) := by decide +kernel
theorem dJ0_charAt_5068e_21 : decode cJ0_charAt_5068e 21 = .ok (.invokestatic 498, 3) := by decide +kernel
theorem dJ0_charAt_5068e_24 : decode cJ0_charAt_5068e 24 = .ok (.ireturn, 1) := by decide +kernel
theorem dJ0_coder_7d493_0 : decode cJ0_coder_7d493 0 = .ok (.getstatic 38, 3) := by decide +kernel
theorem dJ0_coder_7d493_3 : decode cJ0_coder_7d493 3 = .ok (.ifCond .eq 10, 3) := by decide +kernel
theorem dJ0_coder_7d493_6 : decode cJ0_coder_7d493 6 = .ok (.aload_n 0, 1) := by decide +kernel
theorem dJ0_coder_7d493_7 : decode cJ0_coder_7d493 7 = .ok (.getfield 15, 3) := by decide +kernel
theorem dJ0_coder_7d493_10 : decode cJ0_coder_7d493 10 = .ok (.goto 4, 3) := by decide +kernel
theorem dJ0_coder_7d493_13 : decode cJ0_coder_7d493 13 = .ok (.iconst 1, 1) := by decide +kernel
theorem dJ0_coder_7d493_14 : decode cJ0_coder_7d493 14 = .ok (.ireturn, 1) := by decide +kernel
theorem dJ0_isLatin1_aae02_0 : decode cJ0_isLatin1_aae02 0 = .ok (.getstatic 38, 3) := by decide +kernel
theorem dJ0_isLatin1_aae02_3 : decode cJ0_isLatin1_aae02 3 = .ok (.ifCond .eq 14, 3) := by decide +kernel
theorem dJ0_isLatin1_aae02_6 : decode cJ0_isLatin1_aae02 6 = .ok (.aload_n 0, 1) := by decide +kernel
theorem dJ0_isLatin1_aae02_7 : decode cJ0_isLatin1_aae02 7 = .ok (.getfield 15, 3) := by decide +kernel
theorem dJ0_isLatin1_aae02_10 : decode cJ0_isLatin1_aae02 10 = .ok (.ifCond .ne 7, 3) := by decide +kernel
theorem dJ0_isLatin1_aae02_13 : decode cJ0_isLatin1_aae02 13 = .ok (.iconst 1, 1) := by decide +kernel
theorem dJ0_isLatin1_aae02_14 : decode cJ0_isLatin1_aae02 14 = .ok (.goto 4, 3) := by decide +kernel
theorem dJ0_isLatin1_aae02_17 : decode cJ0_isLatin1_aae02 17 = .ok (.iconst 0, 1) := by decide +kernel
theorem dJ0_isLatin1_aae02_18 : decode cJ0_isLatin1_aae02 18 = .ok (.ireturn, 1) := by decide +kernel
theorem dJ0_checkIndex_df160_0 : decode cJ0_checkIndex_df160 0 = .ok (.iload_n 0, 1) := by decide +kernel
theorem dJ0_checkIndex_df160_1 : decode cJ0_checkIndex_df160 1 = .ok (.iload_n 1, 1) := by decide +kernel
theorem dJ0_checkIndex_df160_2 : decode cJ0_checkIndex_df160 2 = .ok (.getstatic 1053, 3) := by decide +kernel
theorem dJ0_checkIndex_df160_5 : decode cJ0_checkIndex_df160 5 = .ok (.invokestatic 1059, 3) := by decide +kernel
theorem dJ0_checkIndex_df160_8 : decode cJ0_checkIndex_df160 8 = .ok (.pop, 1) := by decide +kernel
theorem dJ0_checkIndex_df160_9 : decode cJ0_checkIndex_df160 9 = .ok (.return_, 1) := by decide +kernel
theorem dJ1_charAt_3b067_0 : decode cJ1_charAt_3b067 0 = .ok (.iload_n 1, 1) := by decide +kernel
theorem dJ1_charAt_3b067_1 : decode cJ1_charAt_3b067 1 = .ok (.aload_n 0, 1) := by decide +kernel
theorem dJ1_charAt_3b067_2 : decode cJ1_charAt_3b067 2 = .ok (.arraylength, 1) := by decide +kernel
theorem dJ1_charAt_3b067_3 : decode cJ1_charAt_3b067 3 = .ok (.invokestatic 9, 3) := by decide +kernel
theorem dJ1_charAt_3b067_6 : decode cJ1_charAt_3b067 6 = .ok (.aload_n 0, 1) := by decide +kernel
theorem dJ1_charAt_3b067_7 : decode cJ1_charAt_3b067 7 = .ok (.iload_n 1, 1) := by decide +kernel
theorem dJ1_charAt_3b067_8 : decode cJ1_charAt_3b067 8 = .ok (.baload, 1) := by decide +kernel
theorem dJ1_charAt_3b067_9 : decode cJ1_charAt_3b067 9 = .ok (.sipush 255, 3) := by decide +kernel
theorem dJ1_charAt_3b067_12 : decode cJ1_charAt_3b067 12 = .ok (.iand, 1) := by decide +kernel
theorem dJ1_charAt_3b067_13 : decode cJ1_charAt_3b067 13 = .ok (.i2c, 1) := by decide +kernel
theorem dJ1_charAt_3b067_14 : decode cJ1_charAt_3b067 14 = .ok (.ireturn, 1) := by decide +kernel
theorem dJ3_checkIndex_8e157_0 : decode cJ3_checkIndex_8e157 0 = .ok (.iload_n 0, 1) := by decide +kernel
theorem dJ3_checkIndex_8e157_1 : decode cJ3_checkIndex_8e157 1 = .ok (.ifCond .lt 8, 3) := by decide +kernel
theorem dJ3_checkIndex_8e157_4 : decode cJ3_checkIndex_8e157 4 = .ok (.iload_n 0, 1) := by decide +kernel
theorem dJ3_checkIndex_8e157_5 : decode cJ3_checkIndex_8e157 5 = .ok (.iload_n 1, 1) := by decide +kernel
theorem dJ3_checkIndex_8e157_6 : decode cJ3_checkIndex_8e157 6 = .ok (.if_icmp .lt 10, 3) := by decide +kernel
theorem dJ3_checkIndex_8e157_9 : decode cJ3_checkIndex_8e157 9 = .ok (.aload_n 2, 1) := by decide +kernel
theorem dJ3_checkIndex_8e157_10 : decode cJ3_checkIndex_8e157 10 = .ok (.iload_n 0, 1) := by decide +kernel
theorem dJ3_checkIndex_8e157_11 : decode cJ3_checkIndex_8e157 11 = .ok (.iload_n 1, 1) := by decide +kernel
theorem dJ3_checkIndex_8e157_12 : decode cJ3_checkIndex_8e157 12 = .ok (.invokestatic 95, 3) := by decide +kernel
theorem dJ3_checkIndex_8e157_15 : decode cJ3_checkIndex_8e157 15 = .ok (.athrow, 1) := by decide +kernel
theorem dJ3_checkIndex_8e157_16 : decode cJ3_checkIndex_8e157 16 = .ok (.iload_n 0, 1) := by decide +kernel
theorem dJ3_checkIndex_8e157_17 : decode cJ3_checkIndex_8e157 17 = .ok (.ireturn, 1) := by decide +kernel
set_option maxHeartbeats 4000000 in
theorem c_J0_coder {E : EV} {d : Nat} {h : AH} {i : Nat} (hi : i < 3) : Con E (d + 1) K_J0_coder_7d493 (ZI E 0 h) [.ref (1000 + i)] h := by
  refine Con.ofV rfl (Nat.le_of_ble_eq_true rfl) ?_
  show V E (d + 1) K_J0_coder_7d493 (ZI E 0 h) h [(0, .ref (1000 + i))] [] 0
  refine V_cst fl_J0_38 rfl dJ0_coder_7d493_0 ?_
  refine V_if_eq (tgt := 13) dJ0_coder_7d493_3 (by decide) (fun c => absurd c (by decide)) (fun c => ?_)
  refine V_aload_n 0 dJ0_coder_7d493_6 rfl rfl ?_
  refine V_scod hi fl_J0_15 rfl dJ0_coder_7d493_7 ?_
  refine V_goto (tgt := 14) dJ0_coder_7d493_10 (by decide) ?_
  exact V_nret rfl (by decide) rfl dJ0_coder_7d493_14
theorem MT_J0_coder : MTk K_J0_coder_7d493 0 := ⟨⟨cd_J0_coder_7d493, in_J0, ⟨by decide, by decide, by decide +kernel⟩, by decide⟩, im_J0_coder_7d493, se_J0_coder_7d493, rfl⟩
set_option maxHeartbeats 4000000 in
theorem c_J0_isLatin1 {E : EV} {d : Nat} {h : AH} {i : Nat} (hi : i < 3) : Con E (d + 1) K_J0_isLatin1_aae02 (ZI E 1 h) [.ref (1000 + i)] h := by
  refine Con.ofV rfl (Nat.le_of_ble_eq_true rfl) ?_
  show V E (d + 1) K_J0_isLatin1_aae02 (ZI E 1 h) h [(0, .ref (1000 + i))] [] 0
  refine V_cst fl_J0_38 rfl dJ0_isLatin1_aae02_0 ?_
  refine V_if_eq (tgt := 17) dJ0_isLatin1_aae02_3 (by decide) (fun c => absurd c (by decide)) (fun c => ?_)
  refine V_aload_n 0 dJ0_isLatin1_aae02_6 rfl rfl ?_
  refine V_scod hi fl_J0_15 rfl dJ0_isLatin1_aae02_7 ?_
  refine V_if_ne (tgt := 17) dJ0_isLatin1_aae02_10 (by decide) (fun c => absurd rfl c) (fun c => ?_)
  refine V_iconst (v := 1) dJ0_isLatin1_aae02_13 (by decide) ?_
  refine V_goto (tgt := 18) dJ0_isLatin1_aae02_14 (by decide) ?_
  exact V_zret rfl (by decide) rfl dJ0_isLatin1_aae02_18
theorem MT_J0_isLatin1 : MTk K_J0_isLatin1_aae02 0 := ⟨⟨cd_J0_isLatin1_aae02, in_J0, ⟨by decide, by decide, by decide +kernel⟩, by decide⟩, im_J0_isLatin1_aae02, se_J0_isLatin1_aae02, rfl⟩
set_option maxHeartbeats 4000000 in
theorem c_J0_length_i {E : EV} {d : Nat} {h : AH} {i : Nat} (hi : i < 3) : Con E (d + 2) K_J0_length_8abf5 (ZI E (Int32.ofNat (strL.getD i 0)) h) [.ref (1000 + i)] h := by
  refine Con.ofV rfl (Nat.le_of_ble_eq_true rfl) ?_
  show V E (d + 2) K_J0_length_8abf5 (ZI E (Int32.ofNat (strL.getD i 0)) h) h [(0, .ref (1000 + i))] [] 0
  refine V_aload_n 0 dJ0_length_8abf5_0 rfl rfl ?_
  refine V_sval hi fl_J0_9 rfl dJ0_length_8abf5_1 ?_
  refine V_sblen hi dJ0_length_8abf5_4 ?_
  refine V_aload_n 0 dJ0_length_8abf5_5 rfl rfl ?_
  refine V_cti (As := []) (rest := [.int (Int32.ofNat (strL.getD i 0))]) hi (c_J0_coder (d := d) hi) ml_J0_335 MT_J0_coder rfl rfl rfl (Nat.le_of_ble_eq_true rfl) dJ0_length_8abf5_6 ?_
  refine V_ishr dJ0_length_8abf5_9 ?_
  exact V_iret rfl (by rw [sb_shr0]) dJ0_length_8abf5_10
theorem MT_J0_length_8abf5 : MTk K_J0_length_8abf5 0 := ⟨⟨cd_J0_length_8abf5, in_J0, ⟨by decide, by decide, by decide +kernel⟩, by decide⟩, im_J0_length_8abf5, se_J0_length_8abf5, rfl⟩
set_option maxHeartbeats 4000000 in
theorem c_J3_checkIndex {E : EV} {d : Nat} {h : AH} {x0 x1 : Int32} {v : Value} (hv : v = .null ∨ v = .ref 3000) (h0 : ¬ x0 < 0) (h1 : x0 < x1) : Con E (d + 1) K_J3_checkIndex_8e157 (ZI E x0 h) [.int x0, .int x1, v] h := by
  have key : V E (d + 1) K_J3_checkIndex_8e157 (ZI E x0 h) h [(0, .int x0), (1, .int x1), (2, v)] [] 0 := by
    refine V_iload_n 0 dJ3_checkIndex_8e157_0 rfl rfl ?_
    refine V_if_lt (tgt := 9) dJ3_checkIndex_8e157_1 (by decide) (fun c => absurd c h0) (fun c => ?_)
    refine V_iload_n 0 dJ3_checkIndex_8e157_4 rfl rfl ?_
    refine V_iload_n 1 dJ3_checkIndex_8e157_5 rfl rfl ?_
    refine V_ic_lt (tgt := 16) dJ3_checkIndex_8e157_6 (by decide) (fun c => ?_) (fun c => absurd h1 c)
    refine V_iload_n 0 dJ3_checkIndex_8e157_16 rfl rfl ?_
    exact V_iret rfl rfl dJ3_checkIndex_8e157_17
  rcases hv with rfl | rfl
  · exact Con.ofV rfl (Nat.le_of_ble_eq_true rfl) key
  · exact Con.ofV rfl (Nat.le_of_ble_eq_true rfl) key
theorem MS_J3_checkIndex : MSk K_J3_checkIndex_8e157 3 := ⟨⟨cd_J3_checkIndex_8e157, in_J3, ⟨by decide, by decide, by decide +kernel⟩, by decide⟩, st_J3_checkIndex_8e157⟩
set_option maxHeartbeats 4000000 in
theorem c_J0_checkIndex {E : EV} {d : Nat} {h : AH} {x0 x1 : Int32} (h0 : ¬ x0 < 0) (h1 : x0 < x1) : Con E (d + 2) K_J0_checkIndex_df160 (ZV E h) [.int x0, .int x1] h := by
  refine Con.ofV rfl (Nat.le_of_ble_eq_true rfl) ?_
  show V E (d + 2) K_J0_checkIndex_df160 (ZV E h) h [(0, .int x0), (1, .int x1)] [] 0
  refine V_iload_n 0 dJ0_checkIndex_df160_0 rfl rfl ?_
  refine V_iload_n 1 dJ0_checkIndex_df160_1 rfl rfl ?_
  refine V_sio fl_J0_1053 rfl dJ0_checkIndex_df160_2 (fun v hv => ?_)
  refine V_csi (As := [.int x0, .int x1, v]) (rest := []) (c_J3_checkIndex (d := d) hv h0 h1) (Or.inl ml_J0_1059) MS_J3_checkIndex rfl rfl rfl (Nat.le_of_ble_eq_true rfl) dJ0_checkIndex_df160_5 ?_
  refine V_pop dJ0_checkIndex_df160_8 rfl ?_
  exact V_vret rfl rfl dJ0_checkIndex_df160_9
theorem MS_J0_checkIndex : MSk K_J0_checkIndex_df160 2 := ⟨⟨cd_J0_checkIndex_df160, in_J0, ⟨by decide, by decide, by decide +kernel⟩, by decide⟩, st_J0_checkIndex_df160⟩
theorem ix_split {x : Int32} {n : Nat} (hn : n < 100) (hx : ix x n = true) : ¬ x < 0 ∧ x < Int32.ofNat n := by
  obtain ⟨j, h1, rfl⟩ := vp_in_of (ix_in hx) (by omega)
  exact ⟨nI_pos (by omega), nI_lt h1 (by omega)⟩
set_option maxHeartbeats 4000000 in
theorem c_J1_charAt {E : EV} {d : Nat} {h : AH} {i : Nat} {x : Int32} (hi : i < 3) (hx : ix x (strL.getD i 0) = true) : Con E (d + 3) K_J1_charAt_3b067 (ZI E ((strB.getD i []).getD x.toNatClampNeg 0 &&& 255) h) [.ref (1100 + i), .int x] h := by
  have hb : strL.getD i 0 < 100 := by
    have : i = 0 ∨ i = 1 ∨ i = 2 := by omega
    rcases this with rfl | rfl | rfl <;> decide
  obtain ⟨h0, h1⟩ := ix_split hb hx
  refine Con.ofV rfl (Nat.le_of_ble_eq_true rfl) ?_
  show V E (d + 3) K_J1_charAt_3b067 _ h [(0, .ref (1100 + i)), (1, .int x)] [] 0
  refine V_iload_n 1 dJ1_charAt_3b067_0 rfl rfl ?_
  refine V_aload_n 0 dJ1_charAt_3b067_1 rfl rfl ?_
  refine V_sblen hi dJ1_charAt_3b067_2 ?_
  refine V_csv (As := [.int x, .int (Int32.ofNat (strL.getD i 0))]) (rest := []) (c_J0_checkIndex (d := d) h0 h1) (Or.inl ml_J1_9) MS_J0_checkIndex rfl rfl rfl (Nat.le_of_ble_eq_true rfl) dJ1_charAt_3b067_3 ?_
  refine V_aload_n 0 dJ1_charAt_3b067_6 rfl rfl ?_
  refine V_iload_n 1 dJ1_charAt_3b067_7 rfl rfl ?_
  refine V_sbld hi hx dJ1_charAt_3b067_8 ?_
  refine V_sipush (v := 255) dJ1_charAt_3b067_9 (by decide) ?_
  refine V_iand dJ1_charAt_3b067_12 ?_
  refine V_i2c dJ1_charAt_3b067_13 ?_
  exact V_nret rfl (by rw [sc_c2]; exact sc_nar _) (by rw [sc_c2]) dJ1_charAt_3b067_14
theorem MS_J1_charAt : MSk K_J1_charAt_3b067 2 := ⟨⟨cd_J1_charAt_3b067, in_J1, ⟨by decide, by decide, by decide +kernel⟩, by decide⟩, st_J1_charAt_3b067⟩
set_option maxHeartbeats 4000000 in
theorem c_J0_charAt_i {E : EV} {d : Nat} {h : AH} {i : Nat} {x : Int32} (hi : i < 3) (hx : ix x (strL.getD i 0) = true) : Con E (d + 4) K_J0_charAt_5068e (ZI E ((strB.getD i []).getD x.toNatClampNeg 0 &&& 255) h) [.ref (1000 + i), .int x] h := by
  refine Con.ofV rfl (Nat.le_of_ble_eq_true rfl) ?_
  show V E (d + 4) K_J0_charAt_5068e _ h [(0, .ref (1000 + i)), (1, .int x)] [] 0
  refine V_aload_n 0 dJ0_charAt_5068e_0 rfl rfl ?_
  refine V_cti (As := []) (rest := []) hi (c_J0_isLatin1 (d := d + 2) hi) ml_J0_492 MT_J0_isLatin1 rfl rfl rfl (Nat.le_of_ble_eq_true rfl) dJ0_charAt_5068e_1 ?_
  refine V_if_eq (tgt := 16) dJ0_charAt_5068e_4 (by decide) (fun c => absurd c (by decide)) (fun c => ?_)
  refine V_aload_n 0 dJ0_charAt_5068e_7 rfl rfl ?_
  refine V_sval hi fl_J0_9 rfl dJ0_charAt_5068e_8 ?_
  refine V_iload_n 1 dJ0_charAt_5068e_11 rfl rfl ?_
  refine V_csi (As := [.ref (1100 + i), .int x]) (rest := []) (c_J1_charAt (d := d) hi hx) (Or.inl ml_J0_495) MS_J1_charAt rfl rfl rfl (Nat.le_of_ble_eq_true rfl) dJ0_charAt_5068e_12 ?_
  exact V_nret rfl (sc_nar _) rfl dJ0_charAt_5068e_15
theorem MT_J0_charAt_5068e : MTk K_J0_charAt_5068e 1 := ⟨⟨cd_J0_charAt_5068e, in_J0, ⟨by decide, by decide, by decide +kernel⟩, by decide⟩, im_J0_charAt_5068e, se_J0_charAt_5068e, rfl⟩
theorem isS_i {k : Nat} (h : isS k = true) : ∃ i, i < 3 ∧ k = 1000 + i ∧ strb k = strB.getD i [] ∧ (strb k).length = strL.getD i 0 := by
  rcases (of_decide_eq_true h : k = 1000 ∨ k = 1001 ∨ k = 1002) with rfl | rfl | rfl
  · exact ⟨0, by decide, rfl, rfl, rfl⟩
  · exact ⟨1, by decide, rfl, rfl, rfl⟩
  · exact ⟨2, by decide, rfl, rfl, rfl⟩
section VTX
variable {E : EV} {d : Nat} {K : MK} {Z : Array Value → State → Outcome → State → Prop} {h : AH} {L : List (Nat × Value)} {st : List Value} {pc : Nat}
theorem V_slen {o : String} {idx k0 : Nat} {r : Int32} {h' : AH} {rest : List Value} (hd : 3 ≤ d) (e : f_J0_length_8abf5 k0 h = some (r, h')) (hL : Cond.methodLink o idx yJ0_length_8abf5 ∈ wAll) (ho : K.1.cls = o) (hr : (rest.map fun v => v.category).sum ≤ 8) (dd : decode K.2.1 pc = .ok (.invokevirtual idx, 3)) (k : V E (d + 1) K Z h' L (.int r :: rest) (pc + 3)) : V E (d + 1) K Z h L (.ref k0 :: rest) pc := by
  obtain ⟨hs, e⟩ := og_s e
  obtain ⟨i, hi, rfl, h1, h2⟩ := isS_i hs
  cases so_s e
  obtain ⟨d, rfl⟩ : ∃ d', d = d' + 2 := ⟨d - 2, by omega⟩
  refine V_cti (As := []) (rest := rest) hi (c_J0_length_i (d := d) hi) hL MT_J0_length_8abf5 ho rfl rfl hr dd ?_
  rw [h2] at k
  exact k
theorem V_scha {o : String} {idx k0 : Nat} {x r : Int32} {h' : AH} {rest : List Value} (hd : 5 ≤ d) (e : f_J0_charAt_5068e k0 x h = some (r, h')) (hL : Cond.methodLink o idx yJ0_charAt_5068e ∈ wAll) (ho : K.1.cls = o) (hr : (rest.map fun v => v.category).sum ≤ 8) (dd : decode K.2.1 pc = .ok (.invokevirtual idx, 3)) (k : V E (d + 1) K Z h' L (.int r :: rest) (pc + 3)) : V E (d + 1) K Z h L (.int x :: .ref k0 :: rest) pc := by
  obtain ⟨hs, e⟩ := og_s e
  obtain ⟨hx, e⟩ := og_s e
  obtain ⟨i, hi, rfl, h1, h2⟩ := isS_i hs
  cases so_s e
  obtain ⟨d, rfl⟩ : ∃ d', d = d' + 4 := ⟨d - 4, by omega⟩
  rw [h2] at hx
  refine V_cti (As := [.int x]) (rest := rest) hi (c_J0_charAt_i (d := d) hi hx) hL MT_J0_charAt_5068e ho rfl rfl hr dd ?_
  rw [h1] at k
  exact k
end VTX

