section VCT
variable {E : EV} {R : Room} {K : MK} {S0 : State} {A : Nat → Prop} {QF : QT} {ws : va_W} {L : List (Nat × Value)} {st : List Value} {cs ss pc : Nat}
theorem C_cst {o : String} {idx : Nat} (hL : Cond.fieldLink o idx "java/lang/String" "COMPACT_STRINGS" "Z" ∈ wAll) (ho : K.1.cls = o) (dd : decode K.2.1 pc = .ok (.getstatic idx, 3)) (k : VC E R K S0 A QF ws L (.int 1 :: st) cs ss (pc + 3)) : VC E R K S0 A QF ws L st cs ss pc := by
  intro p e m args below meth c H locs ls C hP hD hS hl
  subst ho
  obtain ⟨c1, c2, c3, c4, c5, c6, c7, c8, c9, c10⟩ := id C
  exact va_gets c1 c2 c10.2.2.2.1 hS c5 (c6 _ hL) (fun _ h => h) dd (k _ _ _ _ _ _ _ _ _ _ C hP hD hS hl)
theorem C_scod {o : String} {idx i : Nat} (hi : i < 3) (hL : Cond.fieldLink o idx "java/lang/String" "coder" "B" ∈ wAll) (ho : K.1.cls = o) (dd : decode K.2.1 pc = .ok (.getfield idx, 3)) (k : VC E R K S0 A QF ws L (.int 0 :: st) cs ss (pc + 3)) : VC E R K S0 A QF ws L (.ref (E.2.2.2 (1000 + i)) :: st) cs ss pc := by
  intro p e m args below meth c H locs ls C hP hD hS hl
  subst ho
  obtain ⟨c1, c2, c3, c4, c5, c6, c7, c8, c9, c10⟩ := id C
  exact vk_getf c1 c2 (c10.2.2.1.1 i hi).2.1 hS c5 (c6 _ hL) (fun _ h => h) dd (k _ _ _ _ _ _ _ _ _ _ C hP hD hS hl)
theorem C_sval {o : String} {idx i : Nat} (hi : i < 3) (hL : Cond.fieldLink o idx "java/lang/String" "value" "[B" ∈ wAll) (ho : K.1.cls = o) (dd : decode K.2.1 pc = .ok (.getfield idx, 3)) (k : VC E R K S0 A QF ws L (.ref (E.2.2.2 (1100 + i)) :: st) cs ss (pc + 3)) : VC E R K S0 A QF ws L (.ref (E.2.2.2 (1000 + i)) :: st) cs ss pc := by
  intro p e m args below meth c H locs ls C hP hD hS hl
  subst ho
  obtain ⟨c1, c2, c3, c4, c5, c6, c7, c8, c9, c10⟩ := id C
  exact vk_getf c1 c2 (c10.2.2.1.1 i hi).2.2.1 hS c5 (c6 _ hL) (fun _ h => h) dd (k _ _ _ _ _ _ _ _ _ _ C hP hD hS hl)
theorem C_sblen {i : Nat} (hi : i < 3) (dd : decode K.2.1 pc = .ok (.arraylength, 1)) (k : VC E R K S0 A QF ws L (.int (Int32.ofNat (strL.getD i 0)) :: st) cs ss (pc + 1)) : VC E R K S0 A QF ws L (.ref (E.2.2.2 (1100 + i)) :: st) cs ss pc := by
  intro p e m args below meth c H locs ls C hP hD hS hl
  obtain ⟨c1, c2, c3, c4, c5, c6, c7, c8, c9, c10⟩ := id C
  exact va_tlen c1 c2 (c10.2.2.1.1 i hi).2.2.2 hS rfl dd (k _ _ _ _ _ _ _ _ _ _ C hP hD hS hl)
theorem C_ishr {x y : Int32} (dd : decode K.2.1 pc = .ok (.ishr, 1)) (k : VC E R K S0 A QF ws L (.int (x >>> (y &&& 31)) :: st) cs ss (pc + 1)) : VC E R K S0 A QF ws L (.int y :: .int x :: st) cs ss pc := by
  intro p e m args below meth c H locs ls C hP hD hS hl
  exact lv_ishr C.1 C.2.1 dd (k _ _ _ _ _ _ _ _ _ _ C hP hD hS hl)
/-- a text's method, in any world: it answers v and changes nothing -/
def ConT (E : EV) (d : Nat) (M : MK) (i : Nat) (v : Int32) : Prop := ∀ sz : Nat,
  Met E.1 M.1 (.code M.1 M.2.1 M.2.2.1 M.2.2.2 :: wAll) (rmC d 0 0) (va_Pc [.ref (E.2.2.2 (1000 + i))] (fun U => U.heap.size = sz ∧ CK E (fun q => sz ≤ q) U U.heap)) (va_Qi (fun (r : Int32) (_ : Unit) => r = v) (fun _ _ => True) (fun q => sz ≤ q)) 0 0 (fun q => sz ≤ q)
def QX (sz : Nat) (v : Int32) : QT := fun below args s => MQ below (va_Qi (fun (r : Int32) (_ : Unit) => r = v) (fun _ _ => True) (fun q => sz ≤ q)) args s 0 0 (fun q => sz ≤ q)
theorem ConT.ofV {E : EV} {d : Nat} {M : MK} {i : Nat} {v : Int32} (hy : plainName M.1.cls = true) (hni : M.1.name ≠ "<init>") (hpl : M.1.cls ≠ "BestPairLaw") (hlen : (lg_sl [.ref (E.2.2.2 (1000 + i))]).length ≤ M.2.2.1) (k : ∀ (S0 : State) (sz : Nat), VC E (rmC d 0 0) M S0 (fun q => sz ≤ q) (QX sz v) [] [(0, .ref (E.2.2.2 (1000 + i)))] [] 0 0 0) : ConT E d M i v := by
  intro sz
  refine Met.ofW (cc := M.2.1) (maxL := M.2.2.1) (ret := M.2.2.2) hy rfl ?_
  intro p e s m args below meth c s₁ B hml hv
  obtain ⟨rfl, hsz, hCK⟩ := hv
  have hts := atoms_spec (ws := .code M.1 M.2.1 M.2.2.1 M.2.2.2 :: wAll) B.pre
  have hown : s.vm.findClass M.1.cls = some m.cls := findClass_of_methodNamed B.named
  have hl := lv_entry [.ref (E.2.2.2 (1000 + i))] (n := M.2.2.1) hlen
  have htb : c.exceptionTable.toList = tbl M.1 := by
    rw [code_tab B.named B.method (Stand.of_body B).code (hts _ List.mem_cons_self)]
    simp [tbl, hpl]
  rw [lg_entry_eq]
  exact k s sz p e m _ below meth c s.heap [] _ ⟨B.exec, B.bytes, B.returns, hml, hown, fun w hw => hts w (List.mem_cons_of_mem _ hw), B.notSynchronized, fun q hq => (by rw [← hsz]; exact hq), ⟨fun z => absurd z hni, htb⟩, hCK⟩ (fun k q h => by simp at h) ⟨fun i j p q h => by simp at h, fun k q h => by simp at h⟩ va_S.rf hl
theorem C_xret {d sz : Nat} {v r : Int32} {ty : FieldType} (hr : K.2.2.2 = some ty) (hn : narrow ty (.int r) = .int r) (hv : r = v) (dd : decode K.2.1 pc = .ok (.ireturn, 1)) : VC E (rmC d 0 0) K S0 (fun q => sz ≤ q) (QX sz v) ws L [.int r] 0 0 pc := by
  intro p e m args below meth c H locs ls C hP hD hS hl
  subst hv
  exact W.zret (v := r) C.1 C.2.1 (C.2.2.1.trans hr) hn (fun t ht hW => ⟨⟨r, (), rfl, rfl, trivial⟩, hS.F ht⟩) hS.2.2 dd C.2.2.2.2.2.2.1
theorem C_callT {M : MK} {d' idx i : Nat} {v : Int32} {o : String} (hi : i < 3) (hM : ConT E d' M i v) (hV : MTk M 0) (hL : Cond.methodLink o idx M.1 ∈ wAll) (ho : K.1.cls = o) (hr : (st.map fun v => v.category).sum ≤ 8) (hR : d' + 1 ≤ R.frames ∧ 8 + (M.2.2.1 + 11) + 40 * d' ≤ R.locals) (hf : cs ≤ R.cells ∧ ss ≤ R.slots) (dd : decode K.2.1 pc = .ok (.invokevirtual idx, 3)) (k : VC E R K S0 A QF ws L (.int v :: st) cs ss (pc + 3)) : VC E R K S0 A QF ws L (.ref (E.2.2.2 (1000 + i)) :: st) cs ss pc := by
  intro p e m args below meth c H locs ls C hP hD hS hl
  subst ho
  obtain ⟨c1, c2, c3, c4, c5, c6, c7, c8, c9, c10⟩ := id C
  obtain ⟨⟨hcd, hini, hd, h21⟩, hin, hse, hcl⟩ := hV
  have hsub : ∀ q, H.size ≤ q → A q := fun q hq => c8 q (Nat.le_trans hS.1 hq)
  have hpre : PreV S0 H M.1.cls (E.2.2.2 (1000 + i)) (va_Pc [.ref (E.2.2.2 (1000 + i))] (fun U => U.heap.size = H.size ∧ CK E (fun q => H.size ≤ q) U U.heap)) [] :=
    ⟨fun a U g mk z => ⟨z.1, z.2.1, CK.same (u := U) rfl z.2.2⟩, by rw [hcl]; exact vk_recv (i := i) (adK := fun i => E.2.2.2 (1000 + i)) c10.2.2.1 hi hS, fun U hU hW => ⟨rfl, by rw [hU], by rw [hU]; exact CK.warm hS hW hsub c10⟩⟩
  have hcat : 2 * (F0 m pc ls (.ref (E.2.2.2 (1000 + i)) :: st)).monitorRoom + (st.map fun v => v.category).sum ≤ 8 := lv_room (rest := .ref (E.2.2.2 (1000 + i)) :: st) hr
  refine va_calli (va_runV (As := []) (rest := st) (R := R) (n := 0) ⟨c1, c2, c4, c5, c6⟩ (hM H.size) ⟨callB_of (ws' := wAll) 0 c6 (goodAll' hcd) rfl rfl rfl (c6 _ hini) (c6 _ hL) hd hR, c6 _ hin, c6 _ hse⟩ hpre rfl rfl hl.1 rfl hcat dd hf) hS (fun q _ h => hsub q h) hsub (fun r2 u t H1 locs1 ht hvm hq hB hz hk1 hS1 => ?_)
  subst hq
  subst ht
  exact k _ _ _ _ _ _ _ _ _ _ C (hP.kept (fun kk x hx => hk1 x.1 ((hP kk x hx).lt) (Nat.not_le.mpr ((hP kk x hx).lt)))) hD hS1 hl
end VCT
set_option maxHeartbeats 4000000 in
theorem t_coder {E : EV} {d i : Nat} (hi : i < 3) : ConT E (d + 1) K_J0_coder_7d493 i 0 := by
  refine ConT.ofV rfl (by decide) (by decide) (Nat.le_of_ble_eq_true rfl) (fun S0 sz => ?_)
  refine C_cst fl_J0_38 rfl dJ0_coder_7d493_0 ?_
  refine C_if_eq (tgt := 13) dJ0_coder_7d493_3 (by decide) (fun c => absurd c (by decide)) (fun c => ?_)
  refine C_aload_n 0 dJ0_coder_7d493_6 rfl rfl ?_
  refine C_scod hi fl_J0_15 rfl dJ0_coder_7d493_7 ?_
  refine C_goto (tgt := 14) dJ0_coder_7d493_10 (by decide) ?_
  exact C_xret rfl (by decide) rfl dJ0_coder_7d493_14
set_option maxHeartbeats 4000000 in
theorem t_length {E : EV} {d i : Nat} (hi : i < 3) : ConT E (d + 2) K_J0_length_8abf5 i (Int32.ofNat (strL.getD i 0)) := by
  refine ConT.ofV rfl (by decide) (by decide) (Nat.le_of_ble_eq_true rfl) (fun S0 sz => ?_)
  refine C_aload_n 0 dJ0_length_8abf5_0 rfl rfl ?_
  refine C_sval hi fl_J0_9 rfl dJ0_length_8abf5_1 ?_
  refine C_sblen hi dJ0_length_8abf5_4 ?_
  refine C_aload_n 0 dJ0_length_8abf5_5 rfl rfl ?_
  refine C_callT hi (t_coder (d := d) hi) MT_J0_coder ml_J0_335 rfl (Nat.le_of_ble_eq_true rfl) ⟨Nat.le_refl _, by show 8 + (1 + 11) + 40 * (d + 1) ≤ 40 * (d + 2); omega⟩ ⟨Nat.le_refl _, Nat.le_refl _⟩ dJ0_length_8abf5_6 ?_
  refine C_ishr dJ0_length_8abf5_9 ?_
  exact C_xret rfl rfl (by rw [sb_shr0]) dJ0_length_8abf5_10
