section VR2
variable {E : EV} {d : Nat} {K : MK} {Z : Array Value → State → Outcome → State → Prop} {h : AH} {L : List (Nat × Value)} {st : List Value} {pc : Nat}
def SLk (o : String) (idx i : Nat) : Prop := i < 7 ∧ (Cond.fieldLink o idx (stN.getD i ("", "")).1 (stN.getD i ("", "")).2 "[I" ∈ wAll ∨ ∃ host, Cond.fieldLinkNest o idx (stN.getD i ("", "")).1 (stN.getD i ("", "")).2 "[I" host ∈ nstL)
theorem V_gets {o : String} {idx i a : Nat} (F : SLk o idx i) (ho : K.1.cls = o) (ha : 2000 + i = a) (dd : decode K.2.1 pc = .ok (.getstatic idx, 3)) (k : V E d K Z h L (.ref a :: st) (pc + 3)) : V E d K Z h L st pc := by
  intro p e s m args below meth c H locs ls C hP hS hl
  subst ho; subst ha
  obtain ⟨c1, c2, c3, c4, c5, c6, c7, c8⟩ := id C
  have q := (c8.2.2.2.1 i F.1).1
  rcases F.2 with h2 | ⟨host, h2⟩
  · exact va_gets c1 c2 q hS c5 (c6 _ h2) (fun _ h => h) dd (k _ _ _ _ _ _ _ _ _ _ _ C hP hS hl)
  · exact va_getsN c1 c2 q hS c5 (va_Nw.use rfl (c8.2.2.1 _ h2)) (fun _ h => h) dd (k _ _ _ _ _ _ _ _ _ _ _ C hP hS hl)
theorem V_tald {i : Nat} {x : Int32} {a : Nat} (hi7 : i < 7) (ha : 2000 + i = a) (hi : ix x (sN i) = true) (dd : decode K.2.1 pc = .ok (.iaload, 1)) (k : V E d K Z h L (.int (sT i x.toNatClampNeg) :: st) (pc + 1)) : V E d K Z h L (.int x :: .ref a :: st) pc := by
  intro p e s m args below meth c H locs ls C hP hS hl
  subst ha
  obtain ⟨c1, c2, c3, c4, c5, c6, c7, c8⟩ := id C
  exact va_ti c1 c2 (c8.2.2.2.1 i hi7).2 hS (ix_in hi) rfl dd (k _ _ _ _ _ _ _ _ _ _ _ C hP hS hl)
theorem V_tlen {i : Nat} {a : Nat} {v : Int32} (hi7 : i < 7) (ha : 2000 + i = a) (hv : Int32.ofNat (sN i) = v) (dd : decode K.2.1 pc = .ok (.arraylength, 1)) (k : V E d K Z h L (.int v :: st) (pc + 1)) : V E d K Z h L (.ref a :: st) pc := by
  intro p e s m args below meth c H locs ls C hP hS hl
  subst ha
  obtain ⟨c1, c2, c3, c4, c5, c6, c7, c8⟩ := id C
  exact va_tlen c1 c2 (c8.2.2.2.1 i hi7).2 hS hv dd (k _ _ _ _ _ _ _ _ _ _ _ C hP hS hl)
theorem cat_tr (E : EV) (rest : List Value) : ((rest.map (trv E.2.2.2)).map fun v => v.category).sum = (rest.map fun v => v.category).sum := by
  rw [List.map_map]
  have : ((fun v : Value => v.category) ∘ trv E.2.2.2) = fun v : Value => v.category := funext fun v => trv_cat _ v
  rw [this]
/-- whether a stretch may be copied -/
def cok (sp dp n : Int32) (n0 n1 : Nat) : Bool := decide (¬ sp < 0 ∧ ¬ dp < 0 ∧ ¬ n < 0 ∧ sp.toNatClampNeg + n.toNatClampNeg ≤ n0 ∧ dp.toNatClampNeg + n.toNatClampNeg ≤ n1)
def sCp (h : AH) (src : Nat) (sp : Int32) (dst : Nat) (dp n : Int32) : AH := sA h dst (va_cpy (h.1 src) (h.1 dst) sp.toNatClampNeg dp.toNatClampNeg n.toNatClampNeg)
theorem nfw : nativeFrameWords "java/lang/System" "arraycopy" 5 + 11 + 8 ≤ 40 := by decide +kernel
theorem V_acopy {o : String} {idx a0 a1 : Nat} {sp dp n : Int32} {h' : AH} (hl1 : Cond.methodLink o idx arraycopyName ∈ wAll) (ho : K.1.cls = o) (h0 : (kd a0).1 = 1) (h1 : (kd a1).1 = 1) (hc : cok sp dp n (an a0) (an a1) = true) (hh : h' = sCp h a0 sp a1 dp n) (hr : (st.map fun v => v.category).sum ≤ 8) (dd : decode K.2.1 pc = .ok (.invokestatic idx, 3)) (k : V E (d + 1) K Z h' L st (pc + 3)) : V E (d + 1) K Z h L (.int n :: .int dp :: .ref a1 :: .int sp :: .ref a0 :: st) pc := by
  intro p e s m args below meth c H locs ls C hP hS hl
  subst ho; subst hh
  obtain ⟨c1, c2, c3, c4, c5, c6, c7, c8⟩ := id C
  obtain ⟨q1, q2, q3, q4, q5⟩ := (of_decide_eq_true hc : _ ∧ _)
  have he0 : (wld E h)[a0]? = some (E.2.2.2 a0, .inl (E.2.2.1 1, an a0, .inl (h.1 a0))) := by rw [wld_at (kd_lt (by rw [h0]; decide)), cel_A h0 (by decide) (by decide) (by decide)]
  have he1 : (wld E h)[a1]? = some (E.2.2.2 a1, .inl (E.2.2.1 1, an a1, .inl (h.1 a1))) := by rw [wld_at (kd_lt (by rw [h1]; decide)), cel_A h1 (by decide) (by decide) (by decide)]
  refine va_copyi (ty := .int) c1 c2 (c4.trans hl.1.symm) c5 (c6 _ hl1) (c6 _ nat_arraycopy) (c6 _ st_java_lang_System_arraycopy) (c6 _ in_J10) c8.2.1 hP (wld_D c8.1) hS a0 a1 0 0 he0 he1 rfl rfl rfl q1 q2 q3 q4 q5 (fun _ _ => rfl) (Nat.succ_le_succ (Nat.zero_le _)) ?_ dd (fun H1 locs1 hP1 hD1 hS1 => ?_)
  · have := cat_tr E st
    have := nfw
    show _ ≤ 40 * (d + 1)
    omega
  · rw [wld_A h1 (by decide) (by decide) (by decide) (by decide)] at hP1
    exact k _ _ _ _ _ _ _ _ _ _ _ C hP1 hS1 hl
theorem V_mmax {o : String} {idx : Nat} {x y : Int32} (hl1 : Cond.methodLink o idx Lib.Math.max.name ∈ wAll) (ho : K.1.cls = o) (hr : (st.map fun v => v.category).sum ≤ 8) (dd : decode K.2.1 pc = .ok (.invokestatic idx, 3)) (k : V E (d + 1) K Z h L (.int (if x < y then y else x) :: st) (pc + 3)) : V E (d + 1) K Z h L (.int y :: .int x :: st) pc := by
  intro p e s m args below meth c H locs ls C hP hS hl
  subst ho
  obtain ⟨c1, c2, c3, c4, c5, c6, c7, c8⟩ := id C
  have := cat_tr E st
  exact va_mmax c1 c2 (c4.trans hl.1.symm) c5 (c6 _ hl1) (c6 _ st_J9_max_7cf53) (c6 _ in_J9) (c6 _ cd_J9_max_7cf53) (Nat.succ_le_succ (Nat.zero_le _)) (by show _ ≤ 40 * (d + 1); omega) (Nat.zero_le _) (Nat.zero_le _) dd (k _ _ _ _ _ _ _ _ _ _ _ C hP hS hl)
theorem V_mmin {o : String} {idx : Nat} {x y : Int32} (hl1 : Cond.methodLink o idx Lib.Math.min.name ∈ wAll) (ho : K.1.cls = o) (hr : (st.map fun v => v.category).sum ≤ 8) (dd : decode K.2.1 pc = .ok (.invokestatic idx, 3)) (k : V E (d + 1) K Z h L (.int (if y < x then y else x) :: st) (pc + 3)) : V E (d + 1) K Z h L (.int y :: .int x :: st) pc := by
  intro p e s m args below meth c H locs ls C hP hS hl
  subst ho
  obtain ⟨c1, c2, c3, c4, c5, c6, c7, c8⟩ := id C
  have := cat_tr E st
  exact va_mmin c1 c2 (c4.trans hl.1.symm) c5 (c6 _ hl1) (c6 _ st_J9_min_7cf53) (c6 _ in_J9) (c6 _ cd_J9_min_7cf53) (Nat.succ_le_succ (Nat.zero_le _)) (by show _ ≤ 40 * (d + 1); omega) (Nat.zero_le _) (Nat.zero_le _) dd (k _ _ _ _ _ _ _ _ _ _ _ C hP hS hl)
theorem V_mmaxL {o : String} {idx : Nat} {x y : Int64} (hl1 : Cond.methodLink o idx Lib.MathLoose.max_long.x ∈ wAll) (ho : K.1.cls = o) (hr : (st.map fun v => v.category).sum ≤ 8) (dd : decode K.2.1 pc = .ok (.invokestatic idx, 3)) (k : V E (d + 1) K Z h L (.long (if y < x then x else y) :: st) (pc + 3)) : V E (d + 1) K Z h L (.long y :: .long x :: st) pc := by
  intro p e s m args below meth c H locs ls C hP hS hl
  subst ho
  obtain ⟨c1, c2, c3, c4, c5, c6, c7, c8⟩ := id C
  have := cat_tr E st
  exact va_mmax_long c1 c2 (c4.trans hl.1.symm) c5 (c6 _ hl1) (c6 _ st_J9_max_f86c9) (c6 _ in_J9) (c6 _ cd_J9_max_f86c9) (Nat.succ_le_succ (Nat.zero_le _)) (by show _ ≤ 40 * (d + 1); omega) (Nat.zero_le _) (Nat.zero_le _) dd (k _ _ _ _ _ _ _ _ _ _ _ C hP hS hl)
theorem V_mminL {o : String} {idx : Nat} {x y : Int64} (hl1 : Cond.methodLink o idx Lib.MathLoose.min_long.x ∈ wAll) (ho : K.1.cls = o) (hr : (st.map fun v => v.category).sum ≤ 8) (dd : decode K.2.1 pc = .ok (.invokestatic idx, 3)) (k : V E (d + 1) K Z h L (.long (if y < x then y else x) :: st) (pc + 3)) : V E (d + 1) K Z h L (.long y :: .long x :: st) pc := by
  intro p e s m args below meth c H locs ls C hP hS hl
  subst ho
  obtain ⟨c1, c2, c3, c4, c5, c6, c7, c8⟩ := id C
  have := cat_tr E st
  exact va_mmin_long c1 c2 (c4.trans hl.1.symm) c5 (c6 _ hl1) (c6 _ st_J9_min_f86c9) (c6 _ in_J9) (c6 _ cd_J9_min_f86c9) (Nat.succ_le_succ (Nat.zero_le _)) (by show _ ≤ 40 * (d + 1); omega) (Nat.zero_le _) (Nat.zero_le _) dd (k _ _ _ _ _ _ _ _ _ _ _ C hP hS hl)
theorem V_tin {dflt lo hi : Int} {offs : Array Int} {len : Nat} {x v : Int32} {off : Int} {tgt : Nat} (dd : decode K.2.1 pc = .ok (.tableswitch dflt lo hi offs, len)) (hx : x = v) (h1 : ¬ v.toInt < lo) (h2 : ¬ hi < v.toInt) (ho : offs[(v.toInt - lo).toNat]? = some off) (ht : (pc : Int) + off = (tgt : Int)) (k : V E d K Z h L st tgt) : V E d K Z h L (.int x :: st) pc := by
  intro p e s m args below meth c H locs ls C hP hS hl
  subst hx
  exact lv_tableIn C.1 C.2.1 dd h1 h2 ho ht (k _ _ _ _ _ _ _ _ _ _ _ C hP hS hl)
theorem V_tout {dflt lo hi : Int} {offs : Array Int} {len : Nat} {x : Int32} {tgt : Nat} (dd : decode K.2.1 pc = .ok (.tableswitch dflt lo hi offs, len)) (hx : x.toInt < lo ∨ hi < x.toInt) (ht : (pc : Int) + dflt = (tgt : Int)) (k : V E d K Z h L st tgt) : V E d K Z h L (.int x :: st) pc := by
  intro p e s m args below meth c H locs ls C hP hS hl
  exact lv_tableOut C.1 C.2.1 dd hx ht (k _ _ _ _ _ _ _ _ _ _ _ C hP hS hl)
theorem V_lks {dflt : Int} {ps : Array (Int × Int)} {len : Nat} {x : Int32} {off : Int} {tgt : Nat} (dd : decode K.2.1 pc = .ok (.lookupswitch dflt ps, len)) (hp : (ps.toList.zip (ps.toList.drop 1)).all (fun (a, next) => a.1 < next.1) = true) (ho : Op.lookupswitch.offset ps.toList dflt x.toInt = off) (ht : (pc : Int) + off = (tgt : Int)) (k : V E d K Z h L st tgt) : V E d K Z h L (.int x :: st) pc := by
  intro p e s m args below meth c H locs ls C hP hS hl
  exact lv_lookup C.1 C.2.1 dd hp ho ht (k _ _ _ _ _ _ _ _ _ _ _ C hP hS hl)
theorem ne_ti {x v : Int32} {i : Int} (c : ¬ x = v) (hv : v.toInt = i) : x.toInt ≠ i := fun q => c (Int32.toInt_inj.mp (q.trans hv.symm))
theorem V_ldcS {o tx : String} {idx a : Nat} (hq : (o, idx, tx, a) ∈ strR) (ho : K.1.cls = o) (dd : decode K.2.1 pc = .ok (.ldc idx, 2)) (k : V E d K Z h L (.ref a :: st) (pc + 2)) : V E d K Z h L st pc := by
  intro p e s m args below meth c H locs ls C hP hS hl
  subst ho
  obtain ⟨c1, c2, c3, c4, c5, c6, c7, c8⟩ := id C
  exact va_ldcS c1 c2 c5 (c8.2.2.2.2.2.2.2 _ hq) dd (k _ _ _ _ _ _ _ _ _ _ _ C hP hS hl)
end VR2
