theorem dL_person_0 : decode cL_person 0 = .ok (.aload_n 3, 1) := by decide +kernel
theorem dL_person_1 : decode cL_person 1 = .ok (.iconst 0, 1) := by decide +kernel
theorem dL_person_2 : decode cL_person 2 = .ok (.aload_n 0, 1) := by decide +kernel
theorem dL_person_3 : decode cL_person 3 = .ok (.iload_n 1, 1) := by decide +kernel
theorem dL_person_4 : decode cL_person 4 = .ok (.iload_n 2, 1) := by decide +kernel
theorem dL_person_5 : decode cL_person 5 = .ok (.invokevirtual 7, 3) := by decide +kernel
theorem dL_person_8 : decode cL_person 8 = .ok (.i2l, 1) := by decide +kernel
theorem dL_person_9 : decode cL_person 9 = .ok (.lastore, 1) := by decide +kernel
theorem dL_person_10 : decode cL_person 10 = .ok (.goto 7, 3) := by decide +kernel
theorem dL_person_13 : decode cL_person 13 = .ok (.astore 4, 2) := by decide +kernel
theorem dL_person_15 : decode cL_person 15 = .ok (.iconst 1, 1) := by decide +kernel
theorem dL_person_16 : decode cL_person 16 = .ok (.ireturn, 1) := by decide +kernel
theorem dL_person_17 : decode cL_person 17 = .ok (.iconst 0, 1) := by decide +kernel
theorem dL_person_18 : decode cL_person 18 = .ok (.ireturn, 1) := by decide +kernel
theorem MV_X11_person : MVk K_X11_person 2 11 := ⟨⟨cd_X11_person, in_X11, ⟨by decide, by decide, by decide +kernel⟩, by decide⟩, im_X11_person, se_X11_person, _, _, rfl⟩
/-! BestPairLaw.person -/
abbrev K_L_person : MK := (yL_person, cL_person, 5, some .int)
theorem cw_person : Cond.codeWith yL_person cL_person 5 (some .int) [(0, 10, 13, 13)] ∈ wAll := wAll_5 99 rfl rfl
theorem cl_catch : Cond.classLink RL 13 nse ∈ wAll := wAll_5 100 rfl rfl
theorem cast_in : Cond.castable nse nse ∈ nseL := by decide +kernel
theorem cast_ng : goodWord (Cond.castable nse nse) = false := by decide +kernel
theorem wld_J {E : EV} {h : AH} {x : Int64} : (wld E h).set 87 (E.2.2.2 87, .inl (E.2.2.1 5, 1, .inr (.inl (vp_updL (fun i => if i = 0 then h.2.1 87 else 0) 0 x)))) = wld E (sL h 87 x) := by
  refine wld_set (by decide) ?_ (fun a ha => cel_congr (fun b => rfl) (by simp [sL, ha]) rfl)
  show cel E (sL h 87 x) 87 = _
  have hk : kd 87 = (5, 1) := by decide
  unfold cel
  rw [hk]
  simp only [an, hk]
  have : (fun i : Nat => if i = 0 then (sL h 87 x).2.1 87 else 0) = vp_updL (fun i => if i = 0 then h.2.1 87 else 0) 0 x := by
    funext i
    by_cases hi : i = 0
    · subst hi; simp [vp_updL, sL]
    · simp [vp_updL, hi]
  simp [this]
theorem cel_J {E : EV} {h : AH} : cel E h 87 = .inl (E.2.2.1 5, 1, .inr (.inl (fun i => if i = 0 then h.2.1 87 else 0))) := by
  have hk : kd 87 = (5, 1) := by decide
  simp [cel, hk, an]
section LPR
variable {E : EV} {R : Room} {K : MK} {S0 : State} {A : Nat → Prop} {QF : QT} {L : List (Nat × Value)} {st : List Value} {cs ss pc : Nat} {h : AH}
theorem C_last {x : Int64} (dd : decode K.2.1 pc = .ok (.lastore, 1)) (k : VC E R K S0 A QF (wld E (sL h 87 x)) L st cs ss (pc + 1)) : VC E R K S0 A QF (wld E h) L (.long x :: .int 0 :: .ref (E.2.2.2 87) :: st) cs ss pc := by
  intro p e m args below meth c H locs ls C hP hD hS hl
  obtain ⟨c1, c2, c3, c4, c5, c6, c7, c8, c9, c10⟩ := id C
  refine va_last c1 c2 c10.1 hP hD hS 87 4 (n := 1) (f := fun i => if i = 0 then h.2.1 87 else 0) (by rw [wld_at (by decide), cel_J]) rfl (by unfold vp_in; decide) dd (fun H1 locs1 hP1 hD1 hS1 => ?_)
  rw [show (0 : Int32).toNatClampNeg = 0 from rfl, wld_J] at hP1 hD1
  exact k _ _ _ _ _ _ _ _ _ _ C hP1 hD1 hS1 hl
theorem C_lald (dd : decode K.2.1 pc = .ok (.laload, 1)) (k : VC E R K S0 A QF (wld E h) L (.long (h.2.1 87) :: st) cs ss (pc + 1)) : VC E R K S0 A QF (wld E h) L (.int 0 :: .ref (E.2.2.2 87) :: st) cs ss pc := by
  intro p e m args below meth c H locs ls C hP hD hS hl
  obtain ⟨c1, c2, c3, c4, c5, c6, c7, c8, c9, c10⟩ := id C
  exact va_lald c1 c2 c10.1 hP 87 4 (n := 1) (f := fun i => if i = 0 then h.2.1 87 else 0) (by rw [wld_at (by decide), cel_J]) rfl (by unfold vp_in; decide) dd (k _ _ _ _ _ _ _ _ _ _ C hP hD hS hl)
theorem P_callX {rest : List Value} {x1 x2 : Int32} {d : Nat} (hd : 6 ≤ d) (hlv : 2 ≤ d) (hst : E.1.stackTraces = false) (hbad : badP x1 x2 h) (hSK : SKA E A S0 S0.heap) (hTW : TW S0) (hTZ : TZ A S0 S0.heap) (hAA : ∀ q, AA E q → A q) (hr : (rest.map fun v => v.category).sum ≤ 8) (hR : d + 1 ≤ R.frames ∧ 8 + (3 + 11) + 40 * d ≤ R.locals) (hf : cs + 1 ≤ R.cells ∧ ss + 6 ≤ R.slots) (k : ∀ q : Nat, VC E R K_L_person S0 A QF (wld E h) L [.ref q] (cs + 1) (ss + 6) 13) : VC E R K_L_person S0 A QF (wld E h) L (.int x2 :: .int x1 :: .ref (E.2.2.2 0) :: rest) cs ss 5 := by
  intro p e m args below meth c H locs ls C hP hD hS hl
  obtain ⟨c1, c2, c3, c4, c5, c6, c7, c8, c9, c10⟩ := id C
  have hsub : ∀ q, Apx E H.size q → A q := fun q z => z.elim (hAA q) (fun z => c8 q (Nat.le_trans hS.1 z))
  have he : (wld E h)[0]? = some (E.2.2.2 0, .inr (11, (List.range (nf 11)).map (fv E h 0 11))) := by rw [wld_at (by decide), cel_O (ci := 11) (by decide)]
  have hpre : PreV S0 H RX11 (E.2.2.2 0) (PcX E h x1 x2 H.size) [.int x1, .int x2] :=
    ⟨fun a U g mk z => ⟨z.1, z.2.1, z.2.2.1, SKA.same (u := U) rfl z.2.2.2.1, TW.same (u := U) rfl z.2.2.2.2.1, TZ.same (u := U) rfl z.2.2.2.2.2⟩, va_recv (q := (RX11, TX11, 16)) c10.1 hP rfl he, fun U hU hW => ⟨rfl, by rw [hU], by rw [hU]; exact hP, by rw [hU]; exact SKA.warm hS hW hsub hSK, TW.warm hW hTW, by rw [hU]; exact TZ.warm hS hW hsub hTZ⟩⟩
  have hcat : 2 * (F0 m 5 ls (.int x2 :: .int x1 :: .ref (E.2.2.2 0) :: rest)).monitorRoom + (rest.map fun v => v.category).sum ≤ 8 := lv_room (rest := .int x2 :: .int x1 :: .ref (E.2.2.2 0) :: rest) hr
  have hini : Cond.initialized RX11 ∈ wAll := in_X11
  refine vx_calli (vx_runV (As := [.int x1, .int x2]) (rest := rest) (n := 2) ⟨c1, c2, c4, c5, c6⟩ (px_met hd (by omega) hst hbad H.size) ⟨callB_of (ws' := wAll) 2 c6 (goodAll' cd_X11_person) rfl rfl rfl (c6 _ hini) (c6 _ ml_L_7) ⟨by decide, by decide, by decide +kernel⟩ hR, c6 _ im_X11_person, c6 _ se_X11_person⟩ hpre rfl rfl hl.1 rfl hcat dL_person_5 hf) hS (fun q _ z => hsub q z) hsub (fun q _ z => hsub q z) (fun X ce q9 u t H1 locs1 ht hal _ hB hz hk hS1 hq9 hcv hcl => ?_) (fun r u t H1 locs1 ht hal hF => hF.elim)
  obtain ⟨rfl, hPt⟩ := hB
  subst ht
  have htab : c.exceptionTable.toList = [⟨0, 10, 13, 13⟩] := by rw [c9.2]; rfl
  exact xc_catch (own := RL) (name := nse) c5 ⟨0, 10, 13, 13⟩ htab (by decide) (by decide) (c6 _ cl_catch) (va_Nw.use rfl (hTW _ cast_in cast_ng)) hq9 hcv hcl (k q9 _ _ _ _ _ _ _ _ _ _ C hPt ((wld_D hSK.2.1).weaken (fun _ _ _ z => hAA _ z)) hS1 hl)
end LPR
def QLp (E : EV) (r : Int32) (h' : AH) (sz : Nat) : QT := fun below args s => MQ below (va_Qi (fun (x : Int32) (u : AH) => x = r ∧ u = h') (fun u t => va_P E.2.1 vwCl (wld E u) t.heap) (Apx E sz)) args s 1 6 (Apx E sz)
def PcL (E : EV) (h : AH) (x1 x2 : Int32) (sz : Nat) : Array Value → State → Prop := va_Pc [.ref (E.2.2.2 0), .int x1, .int x2, .ref (E.2.2.2 87)] (fun U => U.heap.size = sz ∧ va_P E.2.1 vwCl (wld E h) U.heap ∧ SKA E (Apx E sz) U U.heap ∧ TW U ∧ TZ (Apx E sz) U U.heap)
theorem P_ret {E : EV} {d sz : Nat} {S0 : State} {r : Int32} {h : AH} {L : List (Nat × Value)} {pc : Nat} (dd : decode cL_person pc = .ok (.ireturn, 1)) : VC E (rmC d 1 6) K_L_person S0 (Apx E sz) (QLp E r h sz) (wld E h) L [.int r] 1 6 pc := by
  intro p e m args below meth c H locs ls C hP hD hS hl
  exact W.iret (v := r) C.1 C.2.1 C.2.2.1 (fun t ht hW => ⟨⟨r, h, rfl, ⟨rfl, rfl⟩, by show va_P E.2.1 vwCl (wld E h) t.heap; rw [ht]; exact hP⟩, hS.F ht⟩) hS.2.2 dd C.2.2.2.2.2.2.1
/-- what BestPairLaw.person answers, and the heap behind it -/
def lpR (x1 x2 : Int32) (h : AH) (r : Int32) (h' : AH) : Prop := (∃ v h1, f_X11_person 0 x1 x2 h = some (v, h1) ∧ r = 0 ∧ h' = sL h1 87 v.toInt64) ∨ (badP x1 x2 h ∧ r = 1 ∧ h' = h)
set_option maxHeartbeats 4000000 in
theorem lp_walk {E : EV} {d sz : Nat} {S0 : State} {h h' : AH} {x1 x2 r : Int32} (hd : 8 ≤ d) (hst : E.1.stackTraces = false) (hlp : lpR x1 x2 h r h') (hSK : SKA E (Apx E sz) S0 S0.heap) (hTW : TW S0) (hTZ : TZ (Apx E sz) S0 S0.heap) : VC E (rmC d 1 6) K_L_person S0 (Apx E sz) (QLp E r h' sz) (wld E h) [(0, .ref (E.2.2.2 0)), (1, .int x1), (2, .int x2), (3, .ref (E.2.2.2 87))] [] 0 0 0 := by
  obtain ⟨d', rfl⟩ : ∃ d', d = d' + 1 := ⟨d - 1, by omega⟩
  have hAA : ∀ q, AA E q → Apx E sz q := fun q z => Or.inl z
  refine C_aload_n 3 dL_person_0 rfl rfl ?_
  refine C_iconst (v := 0) dL_person_1 (by decide) ?_
  refine C_aload_n 0 dL_person_2 rfl rfl ?_
  refine C_iload_n 1 dL_person_3 rfl rfl ?_
  refine C_iload_n 2 dL_person_4 rfl rfl ?_
  rcases hlp with ⟨v, h1, hf, rfl, rfl⟩ | ⟨hbad, rfl, rfl⟩
  · refine C_cvi (As := [.int x1, .int x2]) (rest := [.int 0, .ref (E.2.2.2 87)]) hSK hAA (c_X11_person (d := d') (by omega) hf rfl) (Or.inl ml_L_7) MV_X11_person rfl rfl rfl rfl (Nat.le_of_ble_eq_true rfl) ⟨Nat.le_refl _, by show 8 + (3 + 11) + 40 * d' ≤ 40 * (d' + 1); omega⟩ ⟨Nat.zero_le _, Nat.zero_le _⟩ dL_person_5 ?_
    refine C_i2l dL_person_8 ?_
    refine C_last dL_person_9 ?_
    refine C_goto (tgt := 17) dL_person_10 (by decide) ?_
    refine C_iconst (v := 0) dL_person_17 (by decide) ?_
    refine C_widen (cs' := 1) (ss' := 6) (Nat.zero_le _) (Nat.zero_le _) ?_
    exact P_ret dL_person_18
  · refine P_callX (rest := [.int 0, .ref (E.2.2.2 87)]) (d := d') (by omega) (by omega) hst hbad hSK hTW hTZ hAA (Nat.le_of_ble_eq_true rfl) ⟨Nat.le_refl _, by show 8 + (3 + 11) + 40 * d' ≤ 40 * (d' + 1); omega⟩ ⟨Nat.le_refl _, Nat.le_refl _⟩ (fun q => ?_)
    refine C_astore (L' := [(4, .ref q), (0, .ref (E.2.2.2 0)), (1, .int x1), (2, .int x2), (3, .ref (E.2.2.2 87))]) dL_person_13 (Nat.le_of_ble_eq_true rfl) rfl ?_
    refine C_iconst (v := 1) dL_person_15 (by decide) ?_
    exact P_ret dL_person_16
theorem lp_met {E : EV} {d : Nat} {h h' : AH} {x1 x2 r : Int32} (hd : 8 ≤ d) (hst : E.1.stackTraces = false) (hlp : lpR x1 x2 h r h') (sz : Nat) : Met E.1 yL_person (.codeWith yL_person cL_person 5 (some .int) [(0, 10, 13, 13)] :: wAll) (rmC d 1 6) (PcL E h x1 x2 sz) (va_Qi (fun (x : Int32) (u : AH) => x = r ∧ u = h') (fun u t => va_P E.2.1 vwCl (wld E u) t.heap) (Apx E sz)) 1 6 (Apx E sz) := by
  refine va_MetW (cc := cL_person) (maxL := 5) (ret := some .int) (hh := [(0, 10, 13, 13)]) (by decide) rfl ?_
  intro p e s m args below meth c s₁ B hml hv
  obtain ⟨rfl, hsz, hP, hSK, hTW, hTZ⟩ := hv
  have hts := atoms_spec (ws := .codeWith yL_person cL_person 5 (some .int) [(0, 10, 13, 13)] :: wAll) B.pre
  have hown : s.vm.findClass RL = some m.cls := findClass_of_methodNamed B.named
  have hl := lv_entry [.ref (E.2.2.2 0), .int x1, .int x2, .ref (E.2.2.2 87)] (n := 5) (Nat.le_of_ble_eq_true rfl)
  have htb : c.exceptionTable.toList = tbl yL_person := vx_table (x := yL_person) B (hts _ List.mem_cons_self)
  rw [lg_entry_eq]
  exact lp_walk hd hst hlp hSK hTW hTZ p e m _ below meth c s.heap [] _ ⟨B.exec, B.bytes, B.returns, hml, hown, fun w hw => hts w (List.mem_cons_of_mem _ hw), B.notSynchronized, fun q hq => Or.inr (by rw [← hsz]; exact hq), ⟨fun z => absurd z (by decide), htb⟩, hSK.1⟩ hP ((wld_D hSK.2.1).weaken (fun _ _ _ z => Or.inl z)) va_S.rf hl
