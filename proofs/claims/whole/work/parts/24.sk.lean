def isC1 : Cond → Bool
  | .castable _ _ => true
  | _ => false
def isC3 : Cond → Bool
  | .declares _ => true
  | _ => false
theorem nse_13 : ∀ w ∈ nseL, goodWord w = false → (isC1 w || isC3 w) = true := by decide +kernel
/-! all that stays, against any set A of cells that may change -/
def SKA (E : EV) (A : Nat → Prop) (U : State) (H : Heap) : Prop := CK E A U H ∧ (∀ i j, i < 88 → j < 88 → E.2.2.2 i = E.2.2.2 j → i = j) ∧ (∀ i, i < 7 → va_Z (stN.getD i ("", "")).1 (stN.getD i ("", "")).2 "[I" (.ref (E.2.2.2 (2000 + i))) A U H ∧ va_T .int (E.2.2.2 (2000 + i)) (sN i) (fun j => .int (sT i j)) A U H) ∧ (va_Z "jdk/internal/util/Preconditions" "SIOOBE_FORMATTER" "Ljava/util/function/BiFunction;" .null A U H ∨ va_Z "jdk/internal/util/Preconditions" "SIOOBE_FORMATTER" "Ljava/util/function/BiFunction;" (.ref (E.2.2.2 3000)) A U H)
def TW (U : State) : Prop := ∀ w ∈ nseL, goodWord w = false → va_Nw w U
def TZ (A : Nat → Prop) (U : State) (H : Heap) : Prop := vx_Zq Bundle.tN "UNASSIGNED_STACK" Bundle.steD A U H ∧ vx_Zq Bundle.tN "SUPPRESSED_SENTINEL" Bundle.listD A U H
theorem SKA.warm {E : EV} {A A' : Nat → Prop} {s U : State} {H : Heap} {locs : List Loc} (hS : va_S A s.heap H locs) (hW : s.WarmedH U.vm) (hA : ∀ q, A' q → A q) (h : SKA E A s s.heap) : SKA E A' U H := by
  obtain ⟨h1, h2, h3, h4⟩ := h
  have al := hW.alike
  exact ⟨CK.warm hS hW hA h1, h2, fun i hi => ⟨(((h3 i hi).1.kept hS.2.1).moved al).narrow hA, (((h3 i hi).2.kept hS.2.1).moved al).narrow hA⟩, h4.imp (fun z => va_Z.narrow (va_Z.moved al (va_Z.kept z hS.2.1)) hA) (fun z => va_Z.narrow (va_Z.moved al (va_Z.kept z hS.2.1)) hA)⟩
theorem SKA.same {E : EV} {A : Nat → Prop} {u U : State} {H : Heap} (hv : U.vm = u.vm) (h : SKA E A u H) : SKA E A U H := by
  obtain ⟨h1, h2, h3, h4⟩ := h
  have al : u.vm.Alike U.vm := by rw [hv]; exact Vm.Alike.refl _
  exact ⟨CK.same hv h1, h2, fun i hi => ⟨(h3 i hi).1.moved al, (h3 i hi).2.moved al⟩, h4.imp (fun z => va_Z.moved al z) (fun z => va_Z.moved al z)⟩
theorem SKA.SK {E : EV} {U : State} (h : SKA E (AA E) U U.heap) : SK E U := by
  obtain ⟨⟨k1, k2, k3, k4, k5, k6⟩, h2, h3, h4⟩ := h
  exact ⟨h2, k1, k2, h3, k3, k4, h4, k6⟩
theorem nse_form {w : Cond} (h : w ∈ nseL) (hg : goodWord w = false) : (∃ a b, w = .castable a b) ∨ ∃ x, w = .declares x := by
  have h1 : (isC1 w || isC3 w) = true := nse_13 w h hg
  cases w <;> simp [isC1, isC3] at h1
  · exact Or.inr ⟨_, rfl⟩
  · exact Or.inl ⟨_, _, rfl⟩
theorem TW.warm {s U : State} (hW : s.WarmedH U.vm) (h : TW s) : TW U := fun w hw hg => by
  have q := h w hw hg
  rcases nse_form hw hg with ⟨_, _, rfl⟩ | ⟨_, rfl⟩
  · exact va_Nw.warmC hW q
  · exact va_Nw.warmD hW q
theorem TW.same {u U : State} (hv : U.vm = u.vm) (h : TW u) : TW U := fun w hw hg => by
  have q := h w hw hg
  rcases nse_form hw hg with ⟨_, _, rfl⟩ | ⟨_, rfl⟩
  · exact va_Nw.same rfl hv.symm q
  · exact va_Nw.same rfl hv.symm q
theorem TZ.warm {A A' : Nat → Prop} {s U : State} {H : Heap} {locs : List Loc} (hS : va_S A s.heap H locs) (hW : s.WarmedH U.vm) (hA : ∀ q, A' q → A q) (h : TZ A s s.heap) : TZ A' U H := ⟨((h.1.kept hS.2.1).moved hW.alike).narrow hA, ((h.2.kept hS.2.1).moved hW.alike).narrow hA⟩
theorem TZ.same {A : Nat → Prop} {u U : State} {H : Heap} (hv : U.vm = u.vm) (h : TZ A u H) : TZ A U H := by
  have al : u.vm.Alike U.vm := by rw [hv]; exact Vm.Alike.refl _
  exact ⟨h.1.moved al, h.2.moved al⟩
section VCK
variable {E : EV} {R : Room} {K : MK} {S0 : State} {A : Nat → Prop} {QF : QT} {ws : va_W} {L : List (Nat × Value)} {st : List Value} {cs ss pc : Nat}
theorem C_if_lt {x : Int32} {off : Int} {tgt : Nat} (dd : decode K.2.1 pc = .ok (.ifCond .lt off, 3)) (ht : (pc : Int) + off = (tgt : Int)) (kt : x < 0 → VC E R K S0 A QF ws L st cs ss tgt) (kf : ¬ x < 0 → VC E R K S0 A QF ws L st cs ss (pc + 3)) : VC E R K S0 A QF ws L (.int x :: st) cs ss pc := by
  intro p e m args below meth c H locs ls C hP hD hS hl
  exact lv_if_lt C.1 C.2.1 dd ht (fun q => kt q _ _ _ _ _ _ _ _ _ _ C hP hD hS hl) (fun q => kf q _ _ _ _ _ _ _ _ _ _ C hP hD hS hl)
theorem C_ic_le {x y : Int32} {off : Int} {tgt : Nat} (dd : decode K.2.1 pc = .ok (.if_icmp .le off, 3)) (ht : (pc : Int) + off = (tgt : Int)) (kt : x ≤ y → VC E R K S0 A QF ws L st cs ss tgt) (kf : ¬ x ≤ y → VC E R K S0 A QF ws L st cs ss (pc + 3)) : VC E R K S0 A QF ws L (.int y :: .int x :: st) cs ss pc := by
  intro p e m args below meth c H locs ls C hP hD hS hl
  exact lv_icmp_le C.1 C.2.1 dd ht (fun q => kt q _ _ _ _ _ _ _ _ _ _ C hP hD hS hl) (fun q => kf q _ _ _ _ _ _ _ _ _ _ C hP hD hS hl)
theorem C_gets {o : String} {idx i : Nat} (hSK : SKA E A S0 S0.heap) (F : SLk o idx i) (hn : Cond.fieldLink o idx (stN.getD i ("", "")).1 (stN.getD i ("", "")).2 "[I" ∈ wAll) (ho : K.1.cls = o) (dd : decode K.2.1 pc = .ok (.getstatic idx, 3)) (k : VC E R K S0 A QF ws L (.ref (E.2.2.2 (2000 + i)) :: st) cs ss (pc + 3)) : VC E R K S0 A QF ws L st cs ss pc := by
  intro p e m args below meth c H locs ls C hP hD hS hl
  subst ho
  exact va_gets C.1 C.2.1 (hSK.2.2.1 i F.1).1 hS C.2.2.2.2.1 (C.2.2.2.2.2.1 _ hn) (fun _ h => h) dd (k _ _ _ _ _ _ _ _ _ _ C hP hD hS hl)
theorem C_tlen {i : Nat} {v : Int32} (hSK : SKA E A S0 S0.heap) (hi7 : i < 7) (hv : Int32.ofNat (sN i) = v) (dd : decode K.2.1 pc = .ok (.arraylength, 1)) (k : VC E R K S0 A QF ws L (.int v :: st) cs ss (pc + 1)) : VC E R K S0 A QF ws L (.ref (E.2.2.2 (2000 + i)) :: st) cs ss pc := by
  intro p e m args below meth c H locs ls C hP hD hS hl
  exact va_tlen C.1 C.2.1 (hSK.2.2.1 i hi7).2 hS hv dd (k _ _ _ _ _ _ _ _ _ _ C hP hD hS hl)
/-- a call of a method that has a contract over the abstract heap -/
theorem run_C {M : MK} {Z' : Array Value → State → Outcome → State → Prop} {o : String} {idx n ci kk d : Nat} {h : AH} {As rest : List Value} (hSK : SKA E A S0 S0.heap) (hAA : ∀ q, AA E q → A q) (hM : Con E d M Z' (.ref kk :: As) h) (hL : MLk o idx M.1) (hV : MVk M n ci) (ho : K.1.cls = o) (hk : kd kk = (0, ci)) (hn : As.length = n) (hr : (rest.map fun v => v.category).sum ≤ 8) (hR : d + 1 ≤ R.frames ∧ 8 + (M.2.2.1 + 11) + 40 * d ≤ R.locals) (hf : cs ≤ R.cells ∧ ss ≤ R.slots) (dd : decode K.2.1 pc = .ok (.invokevirtual idx, 3))
    {p : Program} {e : Env} {m : MethodId} {args : Array Value} {below : List Frame} {meth : Method} {c : Code} {H : Heap} {locs : List Loc} {ls : Array Slot} (C : CX E K A p S0 m args meth c) (hP : va_P E.2.1 vwCl (wld E h) H) (hS : va_S A S0.heap H locs) (hl : lv_has ls K.2.2.1 L) :
    va_Run p E.1 e R S0 m args below meth c H locs cs ss 0 0 (F0 m pc ls ((As.map (trv E.2.2.2)).reverse ++ .ref (E.2.2.2 kk) :: rest)) rest (Z' ((.ref (E.2.2.2 kk) :: As.map (trv E.2.2.2)).toArray)) (AA E) := by
  subst ho
  obtain ⟨⟨hcd, hini, hd, h21⟩, hin, hse, T, N, hc⟩ := hV
  obtain ⟨c1, c2, c3, c4, c5, c6, c7, c8, c9, c10⟩ := id C
  have he : (wld E h)[kk]? = some (E.2.2.2 kk, .inr (ci, (List.range (nf ci)).map (fv E h kk ci))) := by rw [wld_at (kd_lt (by rw [hk]; simp)), cel_O hk]
  have hcat : 2 * (F0 m pc ls ((As.map (trv E.2.2.2)).reverse ++ .ref (E.2.2.2 kk) :: rest)).monitorRoom + (rest.map fun v => v.category).sum ≤ 8 := lv_room (rest := (As.map (trv E.2.2.2)).reverse ++ .ref (E.2.2.2 kk) :: rest) hr
  have hpre : PreV S0 H M.1.cls (E.2.2.2 kk) (va_Pc ((.ref kk :: As).map (trv E.2.2.2)) (fun U => va_P E.2.1 vwCl (wld E h) U.heap ∧ SK E U)) (As.map (trv E.2.2.2)) :=
    ⟨blind, va_recv c10.1 hP hc he, fun U hU hW => ⟨rfl, by rw [hU]; exact hP, SKA.SK (by rw [hU]; exact SKA.warm hS hW hAA hSK)⟩⟩
  rcases hL with h2 | ⟨host, h2⟩
  · exact va_runV (R := R) (n := n) ⟨c1, c2, c4, c5, c6⟩ hM ⟨callB_of (ws' := wAll) n c6 (goodAll' hcd) rfl rfl rfl (c6 _ hini) (c6 _ h2) hd hR, c6 _ hin, c6 _ hse⟩ hpre rfl (by rw [List.length_map]; exact hn) hl.1 rfl hcat dd hf
  · exact va_runVN (R := R) (n := n) ⟨c1, c2, c4, c5, c6⟩ hM ⟨va_cnB (ws' := wAll) n c6 (goodAll' hcd) rfl rfl rfl (c10.2.1 _ h2) (c6 _ hini) hd hR, c6 _ hin, c6 _ hse⟩ hpre rfl (by rw [List.length_map]; exact hn) hl.1 rfl hcat dd hf
theorem C_cvi {M : MK} {o : String} {idx n ci kk d : Nat} {h h' : AH} {r : Int32} {As rest st0 : List Value} (hSK : SKA E A S0 S0.heap) (hAA : ∀ q, AA E q → A q) (hM : Con E d M (ZI E r h') (.ref kk :: As) h) (hL : MLk o idx M.1) (hV : MVk M n ci) (ho : K.1.cls = o) (hk : kd kk = (0, ci)) (hn : As.length = n) (hst : (As.map (trv E.2.2.2)).reverse ++ .ref (E.2.2.2 kk) :: rest = st0) (hr : (rest.map fun v => v.category).sum ≤ 8) (hR : d + 1 ≤ R.frames ∧ 8 + (M.2.2.1 + 11) + 40 * d ≤ R.locals) (hf : cs ≤ R.cells ∧ ss ≤ R.slots) (dd : decode K.2.1 pc = .ok (.invokevirtual idx, 3)) (k : VC E R K S0 A QF (wld E h') L (.int r :: rest) cs ss (pc + 3)) : VC E R K S0 A QF (wld E h) L st0 cs ss pc := by
  intro p e m args below meth c H locs ls C hP hD hS hl
  subst hst
  refine va_calli (run_C hSK hAA hM hL hV ho hk hn hr hR hf dd C hP hS hl) hS (fun q _ z => hAA q z) hAA (fun r2 u t H1 locs1 ht hvm hq hB hz hk1 hS1 => ?_)
  obtain ⟨rfl, rfl⟩ := hq
  subst ht
  exact k _ _ _ _ _ _ _ _ _ _ C hB ((wld_D hSK.2.1).weaken (fun _ _ _ z => hAA _ z)) hS1 hl
end VCK
