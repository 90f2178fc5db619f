/-! the abstract heap: ints of objects and arrays, one long an object, one moving reference an object -/
abbrev AH : Type := (Nat → Nat → Int32) × (Nat → Int64) × (Nat → Nat)
def sI (h : AH) (k j : Nat) (v : Int32) : AH := (fun a b => if a = k then (if b = j then v else h.1 a b) else h.1 a b, h.2)
def sL (h : AH) (k : Nat) (v : Int64) : AH := (h.1, fun a => if a = k then v else h.2.1 a, h.2.2)
def sR (h : AH) (k r : Nat) : AH := (h.1, h.2.1, fun a => if a = k then r else h.2.2 a)
def sA (h : AH) (k : Nat) (f : Nat → Int32) : AH := (fun a b => if a = k then f b else h.1 a b, h.2)
def ix (i : Int32) (n : Nat) : Bool := decide (¬ (i < 0 ∨ n ≤ i.toNatClampNeg))
def bz (r : Int32) : Bool := decide (r = 0 ∨ r = 1)
def og {R : Type} (b : Bool) (k : Option R) : Option R := if b = true then k else none
def nm {α R : Type} (e : α) (k : α → Option R) : Option R := k e
def ob {R : Type} (e : Option (Int32 × AH)) (k : Int32 → AH → Option R) : Option R := match e with
  | none => none
  | some q => k q.1 q.2
def ov {R : Type} (e : Option AH) (k : AH → Option R) : Option R := match e with
  | none => none
  | some q => k q
theorem og_s {R : Type} {b : Bool} {k : Option R} {r : R} (h : og b k = some r) : b = true ∧ k = some r := by
  unfold og at h
  by_cases hb : b = true
  · rw [if_pos hb] at h
    exact ⟨hb, h⟩
  · rw [if_neg hb] at h
    cases h
theorem nm_s {α R : Type} {e : α} {k : α → Option R} {r : R} (h : nm e k = some r) : ∃ x, x = e ∧ k x = some r := ⟨e, rfl, h⟩
theorem ob_s {R : Type} {e : Option (Int32 × AH)} {k : Int32 → AH → Option R} {r : R} (h : ob e k = some r) : ∃ x u, e = some (x, u) ∧ k x u = some r := by
  cases e with
  | none => cases h
  | some q => exact ⟨q.1, q.2, rfl, h⟩
theorem ov_s {R : Type} {e : Option AH} {k : AH → Option R} {r : R} (h : ov e k = some r) : ∃ u, e = some u ∧ k u = some r := by
  cases e with
  | none => cases h
  | some q => exact ⟨q, rfl, h⟩
theorem it_s {R : Type} {c : Prop} [Decidable c] {A B : Option R} {r : R} (hc : c) (h : (if c then A else B) = some r) : A = some r := by
  rw [if_pos hc] at h
  exact h
theorem if_s {R : Type} {c : Prop} [Decidable c] {A B : Option R} {r : R} (hc : ¬ c) (h : (if c then A else B) = some r) : B = some r := by
  rw [if_neg hc] at h
  exact h
theorem so_s {α : Type} {a b : α} (h : some a = some b) : a = b := Option.some.inj h
theorem ix_in {i : Int32} {n : Nat} (h : ix i n = true) : vp_in i n := of_decide_eq_true (p := ¬ (i < 0 ∨ n ≤ i.toNatClampNeg)) h
theorem bz_n {r : Int32} (h : bz r = true) : narrow .boolean (.int r) = .int r := by
  rcases (of_decide_eq_true h : r = 0 ∨ r = 1) with rfl | rfl <;> decide
theorem bz_f {r : Int32} (h : bz r = true) : fits .boolean (.int r) = true := by
  rcases (of_decide_eq_true h : r = 0 ∨ r = 1) with rfl | rfl <;> decide
/-! the world of it -/
abbrev EV : Type := Launch × va_G × (Nat → ClassId) × (Nat → Nat)
def trv (ad : Nat → Nat) : Value → Value
  | .ref a => .ref (ad a)
  | v => v
theorem trv_cat (ad : Nat → Nat) (v : Value) : (trv ad v).category = v.category := by cases v <;> rfl
def fv (E : EV) (h : AH) (k ci j : Nat) : Value := if fk ci j = 0 then .int (h.1 k j) else if fk ci j = 1 then .long (h.2.1 k) else if fk ci j = 2 then .ref (E.2.2.2 (rf k j)) else .ref (E.2.2.2 (h.2.2 k))
def cel (E : EV) (h : AH) (k : Nat) : va_E := if (kd k).1 = 0 then .inr ((kd k).2, (List.range (nf (kd k).2)).map (fv E h k (kd k).2)) else if (kd k).1 = 4 then .inl (E.2.2.1 4, an k, .inr (.inr (.inr (.inr (fun i => some (E.2.2.2 (rf k i))))))) else if (kd k).1 = 5 then .inl (E.2.2.1 5, an k, .inr (.inl (fun i => if i = 0 then h.2.1 k else 0))) else .inl (E.2.2.1 (kd k).1, an k, .inl (h.1 k))
def wld (E : EV) (h : AH) : va_W := (List.range 88).map (fun k => (E.2.2.2 k, cel E h k))
def tyL (E : EV) : List (ClassId × FieldType) := [(E.2.2.1 1, .int), (E.2.2.1 2, .char), (E.2.2.1 3, .byte), (E.2.2.1 4, .object "BestPair$Rule"), (E.2.2.1 5, .long)]
def AA (E : EV) : Nat → Prop := fun q => ∃ k, k < 88 ∧ q = E.2.2.2 k
theorem wld_at {E : EV} {h : AH} {k : Nat} (hk : k < 88) : (wld E h)[k]? = some (E.2.2.2 k, cel E h k) := by
  unfold wld
  rw [List.getElem?_map, List.getElem?_range hk]
  rfl
theorem wld_lt {E : EV} {h : AH} {k : Nat} {q : Nat × va_E} (hk : (wld E h)[k]? = some q) : k < 88 := by
  have := (List.getElem?_eq_some_iff.mp hk).1
  simpa [wld] using this
theorem wld_set {E : EV} {h h' : AH} {k : Nat} {e : va_E} (hk : k < 88) (he : cel E h' k = e) (ho : ∀ a, a ≠ k → cel E h' a = cel E h a) : (wld E h).set k (E.2.2.2 k, e) = wld E h' := by
  apply List.ext_getElem?
  intro i
  rw [List.getElem?_set]
  by_cases hi : i < 88
  · by_cases e1 : k = i
    · subst e1
      rw [if_pos rfl, if_pos (by simpa [wld] using hk), wld_at hk, he]
    · rw [if_neg e1, wld_at hi, wld_at hi, ho i (fun q => e1 q.symm)]
  · rw [if_neg (by omega), List.getElem?_eq_none (by simp [wld]; omega), List.getElem?_eq_none (by simp [wld]; omega)]
theorem wld_D {E : EV} {h : AH} (inj : ∀ i j, i < 88 → j < 88 → E.2.2.2 i = E.2.2.2 j → i = j) : va_D (AA E) (wld E h) := by
  refine ⟨fun i j p q hi hj hpq => ?_, fun k q hk => ?_⟩
  · have h1 := wld_lt hi
    have h2 := wld_lt hj
    rw [wld_at h1] at hi
    rw [wld_at h2] at hj
    cases hi
    cases hj
    exact inj i j h1 h2 hpq
  · have h1 := wld_lt hk
    rw [wld_at h1] at hk
    cases hk
    exact ⟨k, h1, rfl⟩
theorem cel_O {E : EV} {h : AH} {k ci : Nat} (hk : kd k = (0, ci)) : cel E h k = .inr (ci, (List.range (nf ci)).map (fv E h k ci)) := by simp [cel, hk]
theorem cel_A {E : EV} {h : AH} {k t : Nat} (hk : (kd k).1 = t) (h0 : t ≠ 0) (h4 : t ≠ 4) (h5 : t ≠ 5) : cel E h k = .inl (E.2.2.1 t, an k, .inl (h.1 k)) := by simp [cel, hk, h0, h4, h5]
theorem cel_R {E : EV} {h : AH} {k : Nat} (hk : (kd k).1 = 4) : cel E h k = .inl (E.2.2.1 4, an k, .inr (.inr (.inr (.inr (fun i => some (E.2.2.2 (rf k i))))))) := by simp [cel, hk]
theorem cel_congr {E : EV} {h h' : AH} {a : Nat} (h1 : ∀ b, h'.1 a b = h.1 a b) (h2 : h'.2.1 a = h.2.1 a) (h3 : h'.2.2 a = h.2.2 a) : cel E h' a = cel E h a := by
  have e1 : h'.1 a = h.1 a := funext h1
  have e2 : fv E h' a (kd a).2 = fv E h a (kd a).2 := by
    funext j
    simp [fv, e1, h2, h3]
  unfold cel
  rw [e1, e2, h2]
theorem fv_at {E : EV} {h : AH} {k ci j : Nat} {v : Value} (hj : j < nf ci) (hv : fv E h k ci j = v) : ((List.range (nf ci)).map (fv E h k ci))[j]? = some v := by
  rw [List.getElem?_map, List.getElem?_range hj]
  exact congrArg some hv
theorem fv_set {E : EV} {h h' : AH} {k ci j : Nat} {v : Value} (hj : j < nf ci) (hv : fv E h' k ci j = v) (ho : ∀ b, b < nf ci → b ≠ j → fv E h' k ci b = fv E h k ci b) : ((List.range (nf ci)).map (fv E h k ci)).set j v = (List.range (nf ci)).map (fv E h' k ci) := by
  apply List.ext_getElem?
  intro i
  rw [List.getElem?_set]
  by_cases hi : i < nf ci
  · by_cases e1 : j = i
    · subst e1
      rw [if_pos rfl, if_pos (by simpa using hj), fv_at hj hv]
    · rw [if_neg e1, List.getElem?_map, List.getElem?_map, List.getElem?_range hi]
      simp [ho i hi (fun q => e1 q.symm)]
  · rw [if_neg (by omega), List.getElem?_eq_none (by simp; omega), List.getElem?_eq_none (by simp; omega)]
theorem wld_I {E : EV} {h : AH} {k ci j : Nat} {x : Int32} (hk : kd k = (0, ci)) (hj : j < nf ci) (h0 : fk ci j = 0) : (wld E h).set k (E.2.2.2 k, .inr (ci, ((List.range (nf ci)).map (fv E h k ci)).set j (.int x))) = wld E (sI h k j x) := by
  refine wld_set (kd_lt (by rw [hk]; simp)) ?_ (fun a ha => cel_congr (fun b => by simp [sI, ha]) rfl rfl)
  rw [cel_O hk, fv_set hj (h' := sI h k j x) (by simp [fv, h0, sI]) (fun b hb hn => by simp [fv, sI, hn])]
theorem wld_L {E : EV} {h : AH} {k ci j : Nat} {x : Int64} (hk : kd k = (0, ci)) (hj : j < nf ci) (h0 : fk ci j = 1) (hu : ∀ b, b < nf ci → fk ci b = 1 → b = j) : (wld E h).set k (E.2.2.2 k, .inr (ci, ((List.range (nf ci)).map (fv E h k ci)).set j (.long x))) = wld E (sL h k x) := by
  refine wld_set (kd_lt (by rw [hk]; simp)) ?_ (fun a ha => cel_congr (fun b => rfl) (by simp [sL, ha]) rfl)
  rw [cel_O hk, fv_set hj (h' := sL h k x) (by simp [fv, h0, sL]) (fun b hb hn => by
    have : fk ci b ≠ 1 := fun q => hn (hu b hb q)
    simp [fv, sL, this])]
theorem wld_R {E : EV} {h : AH} {k ci j r : Nat} (hk : kd k = (0, ci)) (hj : j < nf ci) (h0 : fk ci j = 3) (hu : ∀ b, b < nf ci → fk ci b = 3 → b = j) (hle : ∀ b, b < nf ci → fk ci b ≤ 3) : (wld E h).set k (E.2.2.2 k, .inr (ci, ((List.range (nf ci)).map (fv E h k ci)).set j (.ref (E.2.2.2 r)))) = wld E (sR h k r) := by
  refine wld_set (kd_lt (by rw [hk]; simp)) ?_ (fun a ha => cel_congr (fun b => rfl) rfl (by simp [sR, ha]))
  rw [cel_O hk, fv_set hj (h' := sR h k r) (by simp [fv, h0, sR]) (fun b hb hn => by
    have h3 : fk ci b ≠ 3 := fun q => hn (hu b hb q)
    have := hle b hb
    have : fk ci b = 0 ∨ fk ci b = 1 ∨ fk ci b = 2 := by omega
    rcases this with q | q | q <;> simp [fv, sR, q])]
theorem wld_A {E : EV} {h : AH} {k t : Nat} {f : Nat → Int32} (hk : (kd k).1 = t) (h0 : t ≠ 0) (h4 : t ≠ 4) (h5 : t ≠ 5) (h9 : t ≠ 9) : (wld E h).set k (E.2.2.2 k, .inl (E.2.2.1 t, an k, .inl f)) = wld E (sA h k f) := by
  refine wld_set (kd_lt (by rw [hk]; exact h9)) ?_ (fun a ha => cel_congr (fun b => by simp [sA, ha]) rfl rfl)
  rw [cel_A hk h0 h4 h5]
  simp [sA]
theorem sA_upd (h : AH) (k j : Nat) (x : Int32) : sA h k (upd (h.1 k) j x) = sI h k j x := by
  unfold sA sI upd
  refine Prod.ext ?_ rfl
  funext a b
  by_cases ha : a = k
  · subst ha; simp
  · simp [ha]
/-! what stays: tables, statics, texts -/
def Stt (E : EV) (U : State) (H : Heap) : Prop := ∀ i, i < 7 → va_Z (stN.getD i ("", "")).1 (stN.getD i ("", "")).2 "[I" (.ref (E.2.2.2 (2000 + i))) (AA E) U H ∧ va_T .int (E.2.2.2 (2000 + i)) (sN i) (fun j => .int (sT i j)) (AA E) U H
def strR : List (String × Nat × String × Nat) := [(RX2, 24, "wfsonp", 1001), (RX6, 58, "sgwfomj", 1000), (RX8, 84, "wfsonp", 1001), (RX12, 26, "y", 1002), (RX12, 32, "wfsonp", 1001), (RX12, 37, "sgwfomj", 1000)]
def strL : List Nat := [7, 6, 1]
def strB : List (List Int32) := [[115, 103, 119, 102, 111, 109, 106], [119, 102, 115, 111, 110, 112], [121]]
def SIO (E : EV) (v : Value) (U : State) (H : Heap) : Prop := va_Z "jdk/internal/util/Preconditions" "SIOOBE_FORMATTER" "Ljava/util/function/BiFunction;" (trv E.2.2.2 v) (AA E) U H
def Str (E : EV) (U : State) (H : Heap) : Prop := vk_S 3 strL strB (fun i => E.2.2.2 (1000 + i)) (fun i => E.2.2.2 (1100 + i)) (AA E) U H ∧ va_Z "java/lang/String" "COMPACT_STRINGS" "Z" (.int 1) (AA E) U H ∧ (SIO E .null U H ∨ SIO E (.ref 3000) U H) ∧ ∀ q ∈ strR, vk_R q.1 q.2.1 q.2.2.1 (E.2.2.2 q.2.2.2) U
def SK (E : EV) (U : State) : Prop := (∀ i j, i < 88 → j < 88 → E.2.2.2 i = E.2.2.2 j → i = j) ∧ va_K E.2.1 vwCl (tyL E) U ∧ (∀ w ∈ nstL, va_Nw w U) ∧ Stt E U U.heap ∧ Str E U U.heap
theorem nst_form {w : Cond} (h : w ∈ nstL) : (∃ a i b n d k, w = .fieldLinkNest a i b n d k) ∨ ∃ a i x k, w = .methodLinkNest a i x k := by
  have h1 := (List.mem_filter.mp h).2
  cases w <;> simp [isN] at h1
  · exact Or.inr ⟨_, _, _, _, rfl⟩
  · exact Or.inl ⟨_, _, _, _, _, _, rfl⟩
theorem nst_tab {w : Cond} (h : w ∈ nstL) : w.onTables = true := by
  rcases nst_form h with ⟨_, _, _, _, _, _, rfl⟩ | ⟨_, _, _, _, rfl⟩ <;> rfl
theorem SK.same {E : EV} {u U : State} (hv : U.vm = u.vm) (hh : U.heap = u.heap) (h : SK E u) : SK E U := by
  obtain ⟨h1, h2, h3, h4, h5, h6, h8, h7⟩ := h
  have al : u.vm.Alike U.vm := by rw [hv]; exact Vm.Alike.refl _
  exact ⟨h1, va_K.moved al h2, fun w hw => va_Nw.same (nst_tab hw) hv.symm (h3 w hw), fun i hi => ⟨by rw [hh]; exact (h4 i hi).1.moved al, by rw [hh]; exact (h4 i hi).2.moved al⟩, by rw [hh]; exact h5.moved al, by rw [hh]; exact h6.moved al, by rw [hh]; exact h8.imp (fun z => va_Z.moved al z) (fun z => va_Z.moved al z), fun q hq => (h7 q hq).same hv⟩
theorem SK.warm {E : EV} {s U : State} {H : Heap} {locs : List Loc} (hS : va_S (AA E) s.heap H locs) (hU : U.heap = H) (hW : s.WarmedH U.vm) (h : SK E s) : SK E U := by
  obtain ⟨h1, h2, h3, h4, h5, h6, h8, h7⟩ := h
  have al := hW.alike
  subst hU
  refine ⟨h1, va_K.moved al h2, fun w hw => ?_, fun i hi => ⟨((h4 i hi).1.kept hS.2.1).moved al, ((h4 i hi).2.kept hS.2.1).moved al⟩, (h5.kept hS.2.1).moved al, (h6.kept hS.2.1).moved al, h8.imp (fun z => va_Z.moved al (va_Z.kept z hS.2.1)) (fun z => va_Z.moved al (va_Z.kept z hS.2.1)), fun q hq => (h7 q hq).warm hW⟩
  have q := h3 w hw
  rcases nst_form hw with ⟨_, _, _, _, _, _, rfl⟩ | ⟨_, _, _, _, rfl⟩
  · exact va_Nw.warmF hW q
  · exact va_Nw.warmM hW q
/-! contracts -/
def rm (d : Nat) : Room := { frames := d, cells := 0, slots := 0, locals := 40 * d }
abbrev MK : Type := MethodName × ByteArray × Nat × Option FieldType
def ZI (E : EV) (r : Int32) (h : AH) : Array Value → State → Outcome → State → Prop := va_Qi (fun (x : Int32) (u : AH) => x = r ∧ u = h) (fun u t => va_P E.2.1 vwCl (wld E u) t.heap) (AA E)
def ZV (E : EV) (h : AH) : Array Value → State → Outcome → State → Prop := va_Qv (fun (u : AH) => u = h) (fun u t => va_P E.2.1 vwCl (wld E u) t.heap) (AA E)
def Con (E : EV) (d : Nat) (M : MK) (Z : Array Value → State → Outcome → State → Prop) (vs : List Value) (h : AH) : Prop :=
  Met E.1 M.1 (.code M.1 M.2.1 M.2.2.1 M.2.2.2 :: wAll) (rm d) (va_Pc (vs.map (trv E.2.2.2)) (fun U => va_P E.2.1 vwCl (wld E h) U.heap ∧ SK E U)) Z 0 0 (AA E)
def Ctx (E : EV) (K : MK) (p : Program) (s : State) (m : MethodId) (args : Array Value) (meth : Method) (c : Code) : Prop :=
  p.tables.exec = Jvm.exec ∧ c.code = K.2.1 ∧ meth.sig.returnType = K.2.2.2 ∧ c.maxLocals = K.2.2.1 ∧ s.vm.findClass K.1.cls = some m.cls ∧ (∀ w ∈ wAll, w.before args s = true) ∧ meth.locks = false ∧ SK E s
def trL (E : EV) (L : List (Nat × Value)) : List (Nat × Value) := L.map (fun q => (q.1, trv E.2.2.2 q.2))
def V (E : EV) (d : Nat) (K : MK) (Z : Array Value → State → Outcome → State → Prop) (h : AH) (L : List (Nat × Value)) (st : List Value) (pc : Nat) : Prop :=
  ∀ (p : Program) (e : Env) (s : State) (m : MethodId) (args : Array Value) (below : List Frame) (meth : Method) (c : Code) (H : Heap) (locs : List Loc) (ls : Array Slot), Ctx E K p s m args meth c → va_P E.2.1 vwCl (wld E h) H → va_S (AA E) s.heap H locs → lv_has ls K.2.2.1 (trL E L) → W p E.1 e (rm d) s m args below meth c H locs 0 0 (MQ below Z args s 0 0 (AA E)) (F0 m pc ls (st.map (trv E.2.2.2)))
theorem lv_args_tr (ad : Nat → Nat) : ∀ (vs : List Value) (i : Nat), lv_args i (vs.map (trv ad)) = (lv_args i vs).map (fun q => (q.1, trv ad q.2))
  | [], _ => rfl
  | v :: vs, i => by
    show (i, trv ad v) :: lv_args (if (trv ad v).category = 2 then i + 2 else i + 1) (vs.map (trv ad)) = _
    rw [trv_cat, lv_args_tr ad vs]
    rfl
theorem Con.ofV {E : EV} {d : Nat} {M : MK} {Z : Array Value → State → Outcome → State → Prop} {vs : List Value} {h : AH} (hy : plainName M.1.cls = true) (hlen : (lg_sl (vs.map (trv E.2.2.2))).length ≤ M.2.2.1) (k : V E d M Z h (lv_args 0 vs) [] 0) : Con E d M Z vs h := by
  refine Met.ofW (cc := M.2.1) (maxL := M.2.2.1) (ret := M.2.2.2) hy rfl ?_
  intro p e s m args below meth c s₁ B hml hv
  obtain ⟨rfl, hP, hSK⟩ := hv
  have hts := atoms_spec (ws := .code M.1 M.2.1 M.2.2.1 M.2.2.2 :: wAll) B.pre
  have hown : s.vm.findClass M.1.cls = some m.cls := findClass_of_methodNamed B.named
  have hl := lv_entry (vs.map (trv E.2.2.2)) (n := M.2.2.1) hlen
  rw [lg_entry_eq]
  rw [lv_args_tr] at hl
  exact k p e s m _ below meth c s.heap [] _ ⟨B.exec, B.bytes, B.returns, hml, hown, fun w hw => hts w (List.mem_cons_of_mem _ hw), B.notSynchronized, hSK⟩ hP va_S.rf hl
