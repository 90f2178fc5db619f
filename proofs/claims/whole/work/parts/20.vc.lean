theorem im_obj : Cond.instanceMethod Lib.objectInit ∈ wAll := wAll_1 32 rfl rfl
theorem cd_obj : Cond.code Lib.objectInit ⟨#[0xb1]⟩ 1 none ∈ wAll := wAll_1 33 rfl rfl
theorem ac_char : Cond.arrayClass .char ∈ wAll := wAll_1 53 rfl rfl
theorem ac_int : Cond.arrayClass .int ∈ wAll := wAll_1 75 rfl rfl
theorem ac_byte : Cond.arrayClass .byte ∈ wAll := wAll_1 205 rfl rfl
theorem ac_long : Cond.arrayClass .long ∈ wAll := wAll_8 46 rfl rfl
/-! VC: as V, but over any list of cells, any room, any end; new cells may come -/
def CK (E : EV) (A : Nat → Prop) (U : State) (H : Heap) : Prop := va_K E.2.1 vwCl (tyL E) U ∧ (∀ w ∈ nstL, va_Nw w U) ∧ vk_S 3 strL strB (fun i => E.2.2.2 (1000 + i)) (fun i => E.2.2.2 (1100 + i)) A U H ∧ va_Z "java/lang/String" "COMPACT_STRINGS" "Z" (.int 1) A U H ∧ va_AO "BestPair$Rule" U ∧ ∀ q ∈ strR, vk_R q.1 q.2.1 q.2.2.1 (E.2.2.2 q.2.2.2) U
def tbl (y : MethodName) : List ExceptionTableEntry := if y.cls = "BestPairLaw" ∧ y.name = "person" then tableOf [(0, 10, 13, 13)] else []
abbrev QT : Type := List Frame → Array Value → State → State → Prop
def CX (E : EV) (K : MK) (A : Nat → Prop) (p : Program) (s : State) (m : MethodId) (args : Array Value) (meth : Method) (c : Code) : Prop :=
  p.tables.exec = Jvm.exec ∧ c.code = K.2.1 ∧ meth.sig.returnType = K.2.2.2 ∧ c.maxLocals = K.2.2.1 ∧ s.vm.findClass K.1.cls = some m.cls ∧ (∀ w ∈ wAll, w.before args s = true) ∧ meth.locks = false ∧ (∀ q, s.heap.size ≤ q → A q) ∧ ((K.1.name = "<init>" → meth.name = "<init>") ∧ c.exceptionTable.toList = tbl K.1) ∧ CK E A s s.heap
def VC (E : EV) (R : Room) (K : MK) (S0 : State) (A : Nat → Prop) (QF : QT) (ws : va_W) (L : List (Nat × Value)) (st : List Value) (cs ss : Nat) (pc : Nat) : Prop :=
  ∀ (p : Program) (e : Env) (m : MethodId) (args : Array Value) (below : List Frame) (meth : Method) (c : Code) (H : Heap) (locs : List Loc) (ls : Array Slot), CX E K A p S0 m args meth c → va_P E.2.1 vwCl ws H → va_D A ws → va_S A S0.heap H locs → lv_has ls K.2.2.1 L → W p E.1 e R S0 m args below meth c H locs cs ss (QF below args S0) (F0 m pc ls st)
theorem CK.same {E : EV} {A : Nat → Prop} {u U : State} {H : Heap} (hv : U.vm = u.vm) (h : CK E A u H) : CK E A U H := by
  obtain ⟨h1, h2, h3, h4, h6, h5⟩ := h
  have al : u.vm.Alike U.vm := by rw [hv]; exact Vm.Alike.refl _
  exact ⟨va_K.moved al h1, fun w hw => va_Nw.same (nst_tab hw) hv.symm (h2 w hw), h3.moved al, h4.moved al, h6.moved al, fun q hq => (h5 q hq).same hv⟩
theorem CK.warm {E : EV} {A A' : Nat → Prop} {s U : State} {H : Heap} {locs : List Loc} (hS : va_S A s.heap H locs) (hW : s.WarmedH U.vm) (hA : ∀ q, A' q → A q) (h : CK E A s s.heap) : CK E A' U H := by
  obtain ⟨h1, h2, h3, h4, h6, h5⟩ := h
  have al := hW.alike
  refine ⟨va_K.moved al h1, fun w hw => ?_, ((h3.kept hS.2.1).moved al).narrow hA, ((h4.kept hS.2.1).moved al).narrow hA, h6.moved al, fun q hq => (h5 q hq).warm hW⟩
  have q := h2 w hw
  rcases nst_form hw with ⟨_, _, _, _, _, _, rfl⟩ | ⟨_, _, _, _, rfl⟩
  · exact va_Nw.warmF hW q
  · exact va_Nw.warmM hW q
section VCR
variable {E : EV} {R : Room} {K : MK} {S0 : State} {A : Nat → Prop} {QF : QT} {ws : va_W} {L : List (Nat × Value)} {st : List Value} {cs ss pc : Nat}
theorem C_iconst {n : Int} {v : Int32} (dd : decode K.2.1 pc = .ok (.iconst n, 1)) (hv : Int32.ofInt n = v) (k : VC E R K S0 A QF ws L (.int v :: st) cs ss (pc + 1)) : VC E R K S0 A QF ws L st cs ss pc := by
  intro p e m args below meth c H locs ls C hP hD hS hl
  exact lv_iconst C.1 C.2.1 dd hv (k _ _ _ _ _ _ _ _ _ _ C hP hD hS hl)
theorem C_bipush {n : Int} {v : Int32} (dd : decode K.2.1 pc = .ok (.bipush n, 2)) (hv : (Int8.ofInt n).toInt32 = v) (k : VC E R K S0 A QF ws L (.int v :: st) cs ss (pc + 2)) : VC E R K S0 A QF ws L st cs ss pc := by
  intro p e m args below meth c H locs ls C hP hD hS hl
  exact lv_bipush C.1 C.2.1 dd hv (k _ _ _ _ _ _ _ _ _ _ C hP hD hS hl)
theorem C_sipush {n : Int} {v : Int32} (dd : decode K.2.1 pc = .ok (.sipush n, 3)) (hv : (Int16.ofInt n).toInt32 = v) (k : VC E R K S0 A QF ws L (.int v :: st) cs ss (pc + 3)) : VC E R K S0 A QF ws L st cs ss pc := by
  intro p e m args below meth c H locs ls C hP hD hS hl
  exact lv_sipush C.1 C.2.1 dd hv (k _ _ _ _ _ _ _ _ _ _ C hP hD hS hl)
theorem C_iload_n {n : Fin 4} {i : Nat} {x : Int32} (q : Nat) (dd : decode K.2.1 pc = .ok (.iload_n n, 1)) (hi : (n : Nat) = i) (hq : L[q]? = some (i, .int x)) (k : VC E R K S0 A QF ws L (.int x :: st) cs ss (pc + 1)) : VC E R K S0 A QF ws L st cs ss pc := by
  intro p e m args below meth c H locs ls C hP hD hS hl
  exact lv_iload_n C.1 C.2.1 dd hi (lv_at hl q hq) (k _ _ _ _ _ _ _ _ _ _ C hP hD hS hl)
theorem C_iload {i : Nat} {x : Int32} (q : Nat) (dd : decode K.2.1 pc = .ok (.iload i, 2)) (hq : L[q]? = some (i, .int x)) (k : VC E R K S0 A QF ws L (.int x :: st) cs ss (pc + 2)) : VC E R K S0 A QF ws L st cs ss pc := by
  intro p e m args below meth c H locs ls C hP hD hS hl
  exact lv_iload C.1 C.2.1 dd (lv_at hl q hq) (k _ _ _ _ _ _ _ _ _ _ C hP hD hS hl)
theorem C_istore_n {n : Fin 4} {i : Nat} {x : Int32} {L' : List (Nat × Value)} (dd : decode K.2.1 pc = .ok (.istore_n n, 1)) (hi : (n : Nat) = i) (hn : i < K.2.2.1) (hL : (i, Value.int x) :: drop1 i L = L') (k : VC E R K S0 A QF ws L' st cs ss (pc + 1)) : VC E R K S0 A QF ws L (.int x :: st) cs ss pc := by
  intro p e m args below meth c H locs ls C hP hD hS hl
  subst hL
  exact lv_istore_n C.1 C.2.1 dd hi hl hn rfl (fun ls hl => k _ _ _ _ _ _ _ _ _ _ C hP hD hS hl)
theorem C_istore {i : Nat} {x : Int32} {L' : List (Nat × Value)} (dd : decode K.2.1 pc = .ok (.istore i, 2)) (hn : i < K.2.2.1) (hL : (i, Value.int x) :: drop1 i L = L') (k : VC E R K S0 A QF ws L' st cs ss (pc + 2)) : VC E R K S0 A QF ws L (.int x :: st) cs ss pc := by
  intro p e m args below meth c H locs ls C hP hD hS hl
  subst hL
  exact lv_istore C.1 C.2.1 dd hl hn rfl (fun ls hl => k _ _ _ _ _ _ _ _ _ _ C hP hD hS hl)
theorem C_lload_n {n : Fin 4} {i : Nat} {x : Int64} (q : Nat) (dd : decode K.2.1 pc = .ok (.lload_n n, 1)) (hi : (n : Nat) = i) (hq : L[q]? = some (i, .long x)) (k : VC E R K S0 A QF ws L (.long x :: st) cs ss (pc + 1)) : VC E R K S0 A QF ws L st cs ss pc := by
  intro p e m args below meth c H locs ls C hP hD hS hl
  exact lv_lload_n C.1 C.2.1 dd hi (lv_at hl q hq) (k _ _ _ _ _ _ _ _ _ _ C hP hD hS hl)
theorem C_lload {i : Nat} {x : Int64} (q : Nat) (dd : decode K.2.1 pc = .ok (.lload i, 2)) (hq : L[q]? = some (i, .long x)) (k : VC E R K S0 A QF ws L (.long x :: st) cs ss (pc + 2)) : VC E R K S0 A QF ws L st cs ss pc := by
  intro p e m args below meth c H locs ls C hP hD hS hl
  exact lv_lload C.1 C.2.1 dd (lv_at hl q hq) (k _ _ _ _ _ _ _ _ _ _ C hP hD hS hl)
theorem C_lstore_n {n : Fin 4} {i : Nat} {x : Int64} {L' : List (Nat × Value)} (dd : decode K.2.1 pc = .ok (.lstore_n n, 1)) (hi : (n : Nat) = i) (hn : i + 1 < K.2.2.1) (hL : (i, Value.long x) :: drop2 i L = L') (k : VC E R K S0 A QF ws L' st cs ss (pc + 1)) : VC E R K S0 A QF ws L (.long x :: st) cs ss pc := by
  intro p e m args below meth c H locs ls C hP hD hS hl
  subst hL
  exact lv_lstore_n C.1 C.2.1 dd hi hl hn rfl (fun ls hl => k _ _ _ _ _ _ _ _ _ _ C hP hD hS hl)
theorem C_lstore {i : Nat} {x : Int64} {L' : List (Nat × Value)} (dd : decode K.2.1 pc = .ok (.lstore i, 2)) (hn : i + 1 < K.2.2.1) (hL : (i, Value.long x) :: drop2 i L = L') (k : VC E R K S0 A QF ws L' st cs ss (pc + 2)) : VC E R K S0 A QF ws L (.long x :: st) cs ss pc := by
  intro p e m args below meth c H locs ls C hP hD hS hl
  subst hL
  exact lv_lstore C.1 C.2.1 dd hl hn rfl (fun ls hl => k _ _ _ _ _ _ _ _ _ _ C hP hD hS hl)
theorem C_aload_n {n : Fin 4} {i : Nat} {x : Nat} (q : Nat) (dd : decode K.2.1 pc = .ok (.aload_n n, 1)) (hi : (n : Nat) = i) (hq : L[q]? = some (i, .ref x)) (k : VC E R K S0 A QF ws L (.ref x :: st) cs ss (pc + 1)) : VC E R K S0 A QF ws L st cs ss pc := by
  intro p e m args below meth c H locs ls C hP hD hS hl
  exact lv_aload_n C.1 C.2.1 dd hi (lv_at hl q hq) (k _ _ _ _ _ _ _ _ _ _ C hP hD hS hl)
theorem C_aload {i : Nat} {x : Nat} (q : Nat) (dd : decode K.2.1 pc = .ok (.aload i, 2)) (hq : L[q]? = some (i, .ref x)) (k : VC E R K S0 A QF ws L (.ref x :: st) cs ss (pc + 2)) : VC E R K S0 A QF ws L st cs ss pc := by
  intro p e m args below meth c H locs ls C hP hD hS hl
  exact lv_aload C.1 C.2.1 dd (lv_at hl q hq) (k _ _ _ _ _ _ _ _ _ _ C hP hD hS hl)
theorem C_astore_n {n : Fin 4} {i : Nat} {x : Nat} {L' : List (Nat × Value)} (dd : decode K.2.1 pc = .ok (.astore_n n, 1)) (hi : (n : Nat) = i) (hn : i < K.2.2.1) (hL : (i, Value.ref x) :: drop1 i L = L') (k : VC E R K S0 A QF ws L' st cs ss (pc + 1)) : VC E R K S0 A QF ws L (.ref x :: st) cs ss pc := by
  intro p e m args below meth c H locs ls C hP hD hS hl
  subst hL
  exact lv_astore_n C.1 C.2.1 dd hi hl hn rfl (fun ls hl => k _ _ _ _ _ _ _ _ _ _ C hP hD hS hl)
theorem C_astore {i : Nat} {x : Nat} {L' : List (Nat × Value)} (dd : decode K.2.1 pc = .ok (.astore i, 2)) (hn : i < K.2.2.1) (hL : (i, Value.ref x) :: drop1 i L = L') (k : VC E R K S0 A QF ws L' st cs ss (pc + 2)) : VC E R K S0 A QF ws L (.ref x :: st) cs ss pc := by
  intro p e m args below meth c H locs ls C hP hD hS hl
  subst hL
  exact lv_astore C.1 C.2.1 dd hl hn rfl (fun ls hl => k _ _ _ _ _ _ _ _ _ _ C hP hD hS hl)
theorem C_iinc {i : Nat} {n : Int} {x y a : Int32} {L' : List (Nat × Value)} (q : Nat) (dd : decode K.2.1 pc = .ok (.iinc i n, 3)) (hq : L[q]? = some (i, .int y)) (ha : Int32.ofInt n = a) (hn : i < K.2.2.1) (hx : y + a = x) (hL : (i, Value.int x) :: drop1 i L = L') (k : VC E R K S0 A QF ws L' st cs ss (pc + 3)) : VC E R K S0 A QF ws L st cs ss pc := by
  intro p e m args below meth c H locs ls C hP hD hS hl
  subst hL; subst ha
  exact lv_iinc C.1 C.2.1 dd hl (k := q) hq hx hn rfl (fun ls hl => k _ _ _ _ _ _ _ _ _ _ C hP hD hS hl)
theorem C_iadd {x y : Int32} (dd : decode K.2.1 pc = .ok (.iadd, 1)) (k : VC E R K S0 A QF ws L (.int (x + y) :: st) cs ss (pc + 1)) : VC E R K S0 A QF ws L (.int y :: .int x :: st) cs ss pc := by
  intro p e m args below meth c H locs ls C hP hD hS hl
  exact lv_iadd C.1 C.2.1 dd (k _ _ _ _ _ _ _ _ _ _ C hP hD hS hl)
theorem C_isub {x y : Int32} (dd : decode K.2.1 pc = .ok (.isub, 1)) (k : VC E R K S0 A QF ws L (.int (x - y) :: st) cs ss (pc + 1)) : VC E R K S0 A QF ws L (.int y :: .int x :: st) cs ss pc := by
  intro p e m args below meth c H locs ls C hP hD hS hl
  exact lv_isub C.1 C.2.1 dd (k _ _ _ _ _ _ _ _ _ _ C hP hD hS hl)
theorem C_iand {x y : Int32} (dd : decode K.2.1 pc = .ok (.iand, 1)) (k : VC E R K S0 A QF ws L (.int (x &&& y) :: st) cs ss (pc + 1)) : VC E R K S0 A QF ws L (.int y :: .int x :: st) cs ss pc := by
  intro p e m args below meth c H locs ls C hP hD hS hl
  exact lv_iand C.1 C.2.1 dd (k _ _ _ _ _ _ _ _ _ _ C hP hD hS hl)
theorem C_land {x y : Int64} (dd : decode K.2.1 pc = .ok (.land, 1)) (k : VC E R K S0 A QF ws L (.long (x &&& y) :: st) cs ss (pc + 1)) : VC E R K S0 A QF ws L (.long y :: .long x :: st) cs ss pc := by
  intro p e m args below meth c H locs ls C hP hD hS hl
  exact lv_land C.1 C.2.1 dd (k _ _ _ _ _ _ _ _ _ _ C hP hD hS hl)
theorem C_lor {x y : Int64} (dd : decode K.2.1 pc = .ok (.lor, 1)) (k : VC E R K S0 A QF ws L (.long (x ||| y) :: st) cs ss (pc + 1)) : VC E R K S0 A QF ws L (.long y :: .long x :: st) cs ss pc := by
  intro p e m args below meth c H locs ls C hP hD hS hl
  exact lv_lor C.1 C.2.1 dd (k _ _ _ _ _ _ _ _ _ _ C hP hD hS hl)
theorem C_lshl {x : Int64} {y : Int32} (dd : decode K.2.1 pc = .ok (.lshl, 1)) (k : VC E R K S0 A QF ws L (.long (x <<< (y.toInt64 &&& 63)) :: st) cs ss (pc + 1)) : VC E R K S0 A QF ws L (.int y :: .long x :: st) cs ss pc := by
  intro p e m args below meth c H locs ls C hP hD hS hl
  exact lv_lshl C.1 C.2.1 dd rfl (k _ _ _ _ _ _ _ _ _ _ C hP hD hS hl)
theorem C_i2l {x : Int32} (dd : decode K.2.1 pc = .ok (.i2l, 1)) (k : VC E R K S0 A QF ws L (.long x.toInt64 :: st) cs ss (pc + 1)) : VC E R K S0 A QF ws L (.int x :: st) cs ss pc := by
  intro p e m args below meth c H locs ls C hP hD hS hl
  exact lv_i2l C.1 C.2.1 dd rfl (k _ _ _ _ _ _ _ _ _ _ C hP hD hS hl)
theorem C_lcmp {x y : Int64} (dd : decode K.2.1 pc = .ok (.lcmp, 1)) (k : VC E R K S0 A QF ws L (.int (lg_cmp x y) :: st) cs ss (pc + 1)) : VC E R K S0 A QF ws L (.long y :: .long x :: st) cs ss pc := by
  intro p e m args below meth c H locs ls C hP hD hS hl
  exact W.lcmp C.1 C.2.1 dd (k _ _ _ _ _ _ _ _ _ _ C hP hD hS hl)
theorem C_dup {v : Value} (dd : decode K.2.1 pc = .ok (.dup, 1)) (hc : v.category = 1) (k : VC E R K S0 A QF ws L (v :: v :: st) cs ss (pc + 1)) : VC E R K S0 A QF ws L (v :: st) cs ss pc := by
  intro p e m args below meth c H locs ls C hP hD hS hl
  exact lv_dup C.1 C.2.1 dd hc (k _ _ _ _ _ _ _ _ _ _ C hP hD hS hl)
theorem C_if_eq {x : Int32} {off : Int} {tgt : Nat} (dd : decode K.2.1 pc = .ok (.ifCond .eq off, 3)) (ht : (pc : Int) + off = (tgt : Int)) (kt : x = 0 → VC E R K S0 A QF ws L st cs ss tgt) (kf : ¬ x = 0 → VC E R K S0 A QF ws L st cs ss (pc + 3)) : VC E R K S0 A QF ws L (.int x :: st) cs ss pc := by
  intro p e m args below meth c H locs ls C hP hD hS hl
  exact lv_if_eq C.1 C.2.1 dd ht (fun q => kt q _ _ _ _ _ _ _ _ _ _ C hP hD hS hl) (fun q => kf q _ _ _ _ _ _ _ _ _ _ C hP hD hS hl)
theorem C_if_ne {x : Int32} {off : Int} {tgt : Nat} (dd : decode K.2.1 pc = .ok (.ifCond .ne off, 3)) (ht : (pc : Int) + off = (tgt : Int)) (kt : ¬ x = 0 → VC E R K S0 A QF ws L st cs ss tgt) (kf : x = 0 → VC E R K S0 A QF ws L st cs ss (pc + 3)) : VC E R K S0 A QF ws L (.int x :: st) cs ss pc := by
  intro p e m args below meth c H locs ls C hP hD hS hl
  exact lv_if_ne C.1 C.2.1 dd ht (fun q => kt q _ _ _ _ _ _ _ _ _ _ C hP hD hS hl) (fun q => kf q _ _ _ _ _ _ _ _ _ _ C hP hD hS hl)
theorem C_ic_eq {x y : Int32} {off : Int} {tgt : Nat} (dd : decode K.2.1 pc = .ok (.if_icmp .eq off, 3)) (ht : (pc : Int) + off = (tgt : Int)) (kt : x = y → VC E R K S0 A QF ws L st cs ss tgt) (kf : ¬ x = y → VC E R K S0 A QF ws L st cs ss (pc + 3)) : VC E R K S0 A QF ws L (.int y :: .int x :: st) cs ss pc := by
  intro p e m args below meth c H locs ls C hP hD hS hl
  exact lv_icmp_eq C.1 C.2.1 dd ht (fun q => kt q _ _ _ _ _ _ _ _ _ _ C hP hD hS hl) (fun q => kf q _ _ _ _ _ _ _ _ _ _ C hP hD hS hl)
theorem C_ic_ne {x y : Int32} {off : Int} {tgt : Nat} (dd : decode K.2.1 pc = .ok (.if_icmp .ne off, 3)) (ht : (pc : Int) + off = (tgt : Int)) (kt : ¬ x = y → VC E R K S0 A QF ws L st cs ss tgt) (kf : x = y → VC E R K S0 A QF ws L st cs ss (pc + 3)) : VC E R K S0 A QF ws L (.int y :: .int x :: st) cs ss pc := by
  intro p e m args below meth c H locs ls C hP hD hS hl
  exact lv_icmp_ne C.1 C.2.1 dd ht (fun q => kt q _ _ _ _ _ _ _ _ _ _ C hP hD hS hl) (fun q => kf q _ _ _ _ _ _ _ _ _ _ C hP hD hS hl)
theorem C_ic_ge {x y : Int32} {off : Int} {tgt : Nat} (dd : decode K.2.1 pc = .ok (.if_icmp .ge off, 3)) (ht : (pc : Int) + off = (tgt : Int)) (kt : y ≤ x → VC E R K S0 A QF ws L st cs ss tgt) (kf : ¬ y ≤ x → VC E R K S0 A QF ws L st cs ss (pc + 3)) : VC E R K S0 A QF ws L (.int y :: .int x :: st) cs ss pc := by
  intro p e m args below meth c H locs ls C hP hD hS hl
  exact lv_icmp_ge C.1 C.2.1 dd ht (fun q => kt q _ _ _ _ _ _ _ _ _ _ C hP hD hS hl) (fun q => kf q _ _ _ _ _ _ _ _ _ _ C hP hD hS hl)
theorem C_ic_gt {x y : Int32} {off : Int} {tgt : Nat} (dd : decode K.2.1 pc = .ok (.if_icmp .gt off, 3)) (ht : (pc : Int) + off = (tgt : Int)) (kt : y < x → VC E R K S0 A QF ws L st cs ss tgt) (kf : ¬ y < x → VC E R K S0 A QF ws L st cs ss (pc + 3)) : VC E R K S0 A QF ws L (.int y :: .int x :: st) cs ss pc := by
  intro p e m args below meth c H locs ls C hP hD hS hl
  exact lv_icmp_gt C.1 C.2.1 dd ht (fun q => kt q _ _ _ _ _ _ _ _ _ _ C hP hD hS hl) (fun q => kf q _ _ _ _ _ _ _ _ _ _ C hP hD hS hl)
theorem C_goto {off : Int} {tgt : Nat} (dd : decode K.2.1 pc = .ok (.goto off, 3)) (ht : (pc : Int) + off = (tgt : Int)) (k : VC E R K S0 A QF ws L st cs ss tgt) : VC E R K S0 A QF ws L st cs ss pc := by
  intro p e m args below meth c H locs ls C hP hD hS hl
  exact lv_goto C.1 C.2.1 dd ht (k _ _ _ _ _ _ _ _ _ _ C hP hD hS hl)
theorem C_tin {dflt lo hi : Int} {offs : Array Int} {len : Nat} {x v : Int32} {off : Int} {tgt : Nat} (dd : decode K.2.1 pc = .ok (.tableswitch dflt lo hi offs, len)) (hx : x = v) (h1 : ¬ v.toInt < lo) (h2 : ¬ hi < v.toInt) (ho : offs[(v.toInt - lo).toNat]? = some off) (ht : (pc : Int) + off = (tgt : Int)) (k : VC E R K S0 A QF ws L st cs ss tgt) : VC E R K S0 A QF ws L (.int x :: st) cs ss pc := by
  intro p e m args below meth c H locs ls C hP hD hS hl
  subst hx
  exact lv_tableIn C.1 C.2.1 dd h1 h2 ho ht (k _ _ _ _ _ _ _ _ _ _ C hP hD hS hl)
theorem C_tout {dflt lo hi : Int} {offs : Array Int} {len : Nat} {x : Int32} {tgt : Nat} (dd : decode K.2.1 pc = .ok (.tableswitch dflt lo hi offs, len)) (hx : x.toInt < lo ∨ hi < x.toInt) (ht : (pc : Int) + dflt = (tgt : Int)) (k : VC E R K S0 A QF ws L st cs ss tgt) : VC E R K S0 A QF ws L (.int x :: st) cs ss pc := by
  intro p e m args below meth c H locs ls C hP hD hS hl
  exact lv_tableOut C.1 C.2.1 dd hx ht (k _ _ _ _ _ _ _ _ _ _ C hP hD hS hl)
theorem C_ldc2 {o : String} {i : Nat} {v : Int64} (ho : K.1.cls = o) (hc : Cond.constantLong o i v ∈ wAll) (dd : decode K.2.1 pc = .ok (.ldc2_w i, 3)) (k : VC E R K S0 A QF ws L (.long v :: st) cs ss (pc + 3)) : VC E R K S0 A QF ws L st cs ss pc := by
  intro p e m args below meth c H locs ls C hP hD hS hl
  subst ho
  exact lv_ldc2 C.1 C.2.1 C.2.2.2.2.1 (C.2.2.2.2.2.1 _ hc) dd (k _ _ _ _ _ _ _ _ _ _ C hP hD hS hl)
theorem C_ldcS {o tx : String} {idx a : Nat} (hq : (o, idx, tx, a) ∈ strR) (ho : K.1.cls = o) (dd : decode K.2.1 pc = .ok (.ldc idx, 2)) (k : VC E R K S0 A QF ws L (.ref (E.2.2.2 a) :: st) cs ss (pc + 2)) : VC E R K S0 A QF ws L st cs ss pc := by
  intro p e m args below meth c H locs ls C hP hD hS hl
  subst ho
  obtain ⟨c1, c2, c3, c4, c5, c6, c7, c8, c9, c10⟩ := id C
  exact va_ldcS c1 c2 c5 (c10.2.2.2.2.2 _ hq) dd (k _ _ _ _ _ _ _ _ _ _ C hP hD hS hl)
theorem C_sub (ps : List Nat) {L' : List (Nat × Value)} (hp : lv_pick L ps = L') (k : VC E R K S0 A QF ws L' st cs ss pc) : VC E R K S0 A QF ws L st cs ss pc := by
  intro p e m args below meth c H locs ls C hP hD hS hl
  exact k _ _ _ _ _ _ _ _ _ _ C hP hD hS (lv_sub hl ps hp)
theorem C_ws {ws' : va_W} (hw : ws = ws') (k : VC E R K S0 A QF ws' L st cs ss pc) : VC E R K S0 A QF ws L st cs ss pc := hw ▸ k
theorem C_widen {cs' ss' : Nat} (h1 : cs ≤ cs') (h2 : ss ≤ ss') (k : VC E R K S0 A QF ws L st cs' ss' pc) : VC E R K S0 A QF ws L st cs ss pc := by
  intro p e m args below meth c H locs ls C hP hD hS hl
  exact W.widen h1 h2 (k _ _ _ _ _ _ _ _ _ _ C hP hD hS hl)
theorem C_obj {o : String} {idx a : Nat} (hl1 : Cond.methodLink o idx Lib.objectInit ∈ wAll) (ho : K.1.cls = o) (hR : 1 ≤ R.frames ∧ 20 ≤ R.locals) (hr : (st.map fun v => v.category).sum ≤ 8) (dd : decode K.2.1 pc = .ok (.invokespecial idx, 3)) (k : VC E R K S0 A QF ws L st cs ss (pc + 3)) : VC E R K S0 A QF ws L (.ref a :: st) cs ss pc := by
  intro p e m args below meth c H locs ls C hP hD hS hl
  subst ho
  obtain ⟨c1, c2, c3, c4, c5, c6, c7, c8, c9, c10⟩ := id C
  refine W.objInit c1 c2 c5 (c6 _ hl1) (c6 _ im_obj) (c6 _ cd_obj) rfl (by rw [c4]; exact hl.1) rfl dd hR.1 ?_ (k _ _ _ _ _ _ _ _ _ _ C hP hD hS hl)
  have := lv_room (m := m) (pc := pc) (ls := ls) (rest := .ref a :: st) hr
  have h2 := hR.2
  omega
theorem C_new_int {n : Int32} {N : Nat} (hn : ¬ n < 0) (hN : n.toNatClampNeg = N) (hb : N ≤ 10000) (hc : cs + 1 ≤ R.cells) (hs : ss + N ≤ R.slots) (dd : decode K.2.1 pc = .ok (.newarray .int, 2)) (k : ∀ q : Nat, VC E R K S0 A QF (ws ++ [(q, .inl (E.2.2.1 1, N, .inl (fun _ => 0)))]) L (.ref q :: st) (cs + 1) (ss + N) (pc + 2)) : VC E R K S0 A QF ws L (.int n :: st) cs ss pc := by
  intro p e m args below meth c H locs ls C hP hD hS hl
  obtain ⟨c1, c2, c3, c4, c5, c6, c7, c8, c9, c10⟩ := id C
  refine va_newa (atype := .int) (ty := .int) (a0 := (N, .inl (fun _ => 0))) c1 c2 (c6 _ ac_int) rfl c10.1 hP hD hS c8 (fun _ => rfl) hn hN (Nat.le_trans (Nat.mul_le_mul hb (show componentBytes .int ≤ 8 by decide)) (by decide)) hc hs dd (fun q cA H1 hK1 hP1 hD1 hS1 => ?_)
  have e1 : S0.vm.findClass ("[" ++ FieldType.toString .int) = some cA := (hK1.2 5 _ rfl).2
  have e2 : S0.vm.findClass ("[" ++ FieldType.toString .int) = some (E.2.2.1 1) := (c10.1.2 0 _ rfl).2
  have e3 : cA = E.2.2.1 1 := Option.some.inj (e1.symm.trans e2)
  subst e3
  exact k q _ _ _ _ _ _ _ _ _ _ C hP1 hD1 hS1 hl
theorem C_new_char {n : Int32} {N : Nat} (hn : ¬ n < 0) (hN : n.toNatClampNeg = N) (hb : N ≤ 10000) (hc : cs + 1 ≤ R.cells) (hs : ss + N ≤ R.slots) (dd : decode K.2.1 pc = .ok (.newarray .char, 2)) (k : ∀ q : Nat, VC E R K S0 A QF (ws ++ [(q, .inl (E.2.2.1 2, N, .inl (fun _ => 0)))]) L (.ref q :: st) (cs + 1) (ss + N) (pc + 2)) : VC E R K S0 A QF ws L (.int n :: st) cs ss pc := by
  intro p e m args below meth c H locs ls C hP hD hS hl
  obtain ⟨c1, c2, c3, c4, c5, c6, c7, c8, c9, c10⟩ := id C
  refine va_newa (atype := .char) (ty := .char) (a0 := (N, .inl (fun _ => 0))) c1 c2 (c6 _ ac_char) rfl c10.1 hP hD hS c8 (fun _ => rfl) hn hN (Nat.le_trans (Nat.mul_le_mul hb (show componentBytes .char ≤ 8 by decide)) (by decide)) hc hs dd (fun q cA H1 hK1 hP1 hD1 hS1 => ?_)
  have e1 : S0.vm.findClass ("[" ++ FieldType.toString .char) = some cA := (hK1.2 5 _ rfl).2
  have e2 : S0.vm.findClass ("[" ++ FieldType.toString .char) = some (E.2.2.1 2) := (c10.1.2 1 _ rfl).2
  have e3 : cA = E.2.2.1 2 := Option.some.inj (e1.symm.trans e2)
  subst e3
  exact k q _ _ _ _ _ _ _ _ _ _ C hP1 hD1 hS1 hl
theorem C_new_byte {n : Int32} {N : Nat} (hn : ¬ n < 0) (hN : n.toNatClampNeg = N) (hb : N ≤ 10000) (hc : cs + 1 ≤ R.cells) (hs : ss + N ≤ R.slots) (dd : decode K.2.1 pc = .ok (.newarray .byte, 2)) (k : ∀ q : Nat, VC E R K S0 A QF (ws ++ [(q, .inl (E.2.2.1 3, N, .inl (fun _ => 0)))]) L (.ref q :: st) (cs + 1) (ss + N) (pc + 2)) : VC E R K S0 A QF ws L (.int n :: st) cs ss pc := by
  intro p e m args below meth c H locs ls C hP hD hS hl
  obtain ⟨c1, c2, c3, c4, c5, c6, c7, c8, c9, c10⟩ := id C
  refine va_newa (atype := .byte) (ty := .byte) (a0 := (N, .inl (fun _ => 0))) c1 c2 (c6 _ ac_byte) rfl c10.1 hP hD hS c8 (fun _ => rfl) hn hN (Nat.le_trans (Nat.mul_le_mul hb (show componentBytes .byte ≤ 8 by decide)) (by decide)) hc hs dd (fun q cA H1 hK1 hP1 hD1 hS1 => ?_)
  have e1 : S0.vm.findClass ("[" ++ FieldType.toString .byte) = some cA := (hK1.2 5 _ rfl).2
  have e2 : S0.vm.findClass ("[" ++ FieldType.toString .byte) = some (E.2.2.1 3) := (c10.1.2 2 _ rfl).2
  have e3 : cA = E.2.2.1 3 := Option.some.inj (e1.symm.trans e2)
  subst e3
  exact k q _ _ _ _ _ _ _ _ _ _ C hP1 hD1 hS1 hl
theorem C_new_long {n : Int32} {N : Nat} (hn : ¬ n < 0) (hN : n.toNatClampNeg = N) (hb : N ≤ 10000) (hc : cs + 1 ≤ R.cells) (hs : ss + N ≤ R.slots) (dd : decode K.2.1 pc = .ok (.newarray .long, 2)) (k : ∀ q : Nat, VC E R K S0 A QF (ws ++ [(q, .inl (E.2.2.1 5, N, .inr (.inl (fun _ => 0))))]) L (.ref q :: st) (cs + 1) (ss + N) (pc + 2)) : VC E R K S0 A QF ws L (.int n :: st) cs ss pc := by
  intro p e m args below meth c H locs ls C hP hD hS hl
  obtain ⟨c1, c2, c3, c4, c5, c6, c7, c8, c9, c10⟩ := id C
  refine va_newa (atype := .long) (ty := .long) (a0 := (N, .inr (.inl (fun _ => 0)))) c1 c2 (c6 _ ac_long) rfl c10.1 hP hD hS c8 (fun _ => rfl) hn hN (Nat.le_trans (Nat.mul_le_mul hb (show componentBytes .long ≤ 8 by decide)) (by decide)) hc hs dd (fun q cA H1 hK1 hP1 hD1 hS1 => ?_)
  have e1 : S0.vm.findClass ("[" ++ FieldType.toString .long) = some cA := (hK1.2 5 _ rfl).2
  have e2 : S0.vm.findClass ("[" ++ FieldType.toString .long) = some (E.2.2.1 5) := (c10.1.2 4 _ rfl).2
  have e3 : cA = E.2.2.1 5 := Option.some.inj (e1.symm.trans e2)
  subst e3
  exact k q _ _ _ _ _ _ _ _ _ _ C hP1 hD1 hS1 hl
theorem C_new_rules {o : String} {idx : Nat} {n : Int32} {N : Nat} (hcl : Cond.classLink o idx "BestPair$Rule" ∈ wAll) (ho : K.1.cls = o) (hn : ¬ n < 0) (hN : n.toNatClampNeg = N) (hb : N ≤ 10000) (hc : cs + 1 ≤ R.cells) (hs : ss + N ≤ R.slots) (dd : decode K.2.1 pc = .ok (.anewarray idx, 3)) (k : ∀ q : Nat, VC E R K S0 A QF (ws ++ [(q, .inl (E.2.2.1 4, N, .inr (.inr (.inr (.inr (fun _ => none))))))]) L (.ref q :: st) (cs + 1) (ss + N) (pc + 3)) : VC E R K S0 A QF ws L (.int n :: st) cs ss pc := by
  intro p e m args below meth c H locs ls C hP hD hS hl
  subst ho
  obtain ⟨c1, c2, c3, c4, c5, c6, c7, c8, c9, c10⟩ := id C
  refine va_newq c1 c2 c5 (c6 _ hcl) c10.2.2.2.2.1 c10.1 hP hD hS c8 hn hN (by omega) hc hs dd (fun q cA H1 hK1 hP1 hD1 hS1 => ?_)
  obtain ⟨_, _, _, _, _, e1⟩ := (hK1.2 5 _ rfl).2
  obtain ⟨_, _, _, _, _, e2⟩ := (c10.1.2 3 _ rfl).2
  have e3 : cA = E.2.2.1 4 := Option.some.inj (e1.symm.trans e2)
  subst e3
  exact k q _ _ _ _ _ _ _ _ _ _ C hP1 hD1 hS1 hl
theorem C_aast {i : Int32} {n v a ci : Nat} {vs : List Value} {f : Nat → Option Nat} {ws' : va_W} (q0 qk : Nat) (ha : ws[q0]? = some (a, .inl (E.2.2.1 4, n, .inr (.inr (.inr (.inr f)))))) (hv : ws[qk]? = some (v, .inr (7, vs))) (hi : ix i n = true) (hw : ws.set q0 (a, .inl (E.2.2.1 4, n, .inr (.inr (.inr (.inr (va_up f i.toNatClampNeg (some v))))))) = ws') (dd : decode K.2.1 pc = .ok (.aastore, 1)) (k : VC E R K S0 A QF ws' L st cs ss (pc + 1)) : VC E R K S0 A QF ws L (.ref v :: .int i :: .ref a :: st) cs ss pc := by
  intro p e m args below meth c H locs ls C hP hD hS hl
  subst hw
  obtain ⟨c1, c2, c3, c4, c5, c6, c7, c8, c9, c10⟩ := id C
  exact va_astq (r := (RX7, TX7, 3)) c1 c2 c10.1 hP hD hS q0 3 qk 7 ha rfl hv rfl (ix_in hi) dd (fun H1 locs1 hP1 hD1 hS1 => k _ _ _ _ _ _ _ _ _ _ C hP1 hD1 hS1 hl)
def FFk (o : String) (idx ci j : Nat) (ty : FieldType) : Prop := ∃ (C : String) (T : u_T) (N : Nat) (ty0 : Nat → FieldType), vwCl[ci]? = some (C, T, N) ∧ N = nf ci ∧ (∀ w ∈ u_ws C T N, w ∈ wAll) ∧ j < N ∧ Cond.fieldLink o idx (T j).1 (T j).2.1 (T j).2.2.1 ∈ wAll ∧ (∀ k, k < N → parseFieldDescriptor (T k).2.2.1 = some (ty0 k)) ∧ (∀ a, a < N → ∀ b, b < N → a ≠ b → (T a).2.1 ≠ (T b).2.1) ∧ (T j).1 = o ∧ parseFieldDescriptor (T j).2.2.1 = some ty ∧ ((T j).2.2.2 = true ∨ (T j).2.2.2 = false)
theorem C_putR {o : String} {idx ci j a r : Nat} {ty : FieldType} {fs : List Value} {ws' : va_W} (q0 : Nat) (F : FFk o idx ci j ty) (ho : K.1.cls = o) (hin2 : K.1.name = "<init>") (hty : narrow ty (.ref r) = .ref r ∧ fits ty (.ref r) = true) (he : ws[q0]? = some (a, .inr (ci, fs))) (hl9 : j < fs.length) (hw : ws.set q0 (a, .inr (ci, fs.set j (.ref r))) = ws') (dd : decode K.2.1 pc = .ok (.putfield idx, 3)) (k : VC E R K S0 A QF ws' L st cs ss (pc + 3)) : VC E R K S0 A QF ws L (.ref r :: .ref a :: st) cs ss pc := by
  intro p e m args below meth c H locs ls C hP hD hS hl
  subst ho; subst hw
  obtain ⟨C', T, N, ty0, hc, hN, hin, hj, h2, ht, hnm, hdecl, hd, hfin⟩ := F
  obtain ⟨c1, c2, c3, c4, c5, c6, c7, c8, c9, c10⟩ := id C
  rcases hfin with hfin | hfin
  · exact va_putF (D := E.2.1) c1 c2 c6 hin ty0 ht hnm c5 c10.1 hP hD hS q0 he hc j hj (c6 _ h2) (fun _ h => h) hfin (c9.1 hin2) hdecl hd hty.1 hty.2 hl9 dd (fun H1 locs1 hP1 hD1 hS1 => k _ _ _ _ _ _ _ _ _ _ C hP1 hD1 hS1 hl)
  · exact va_put (D := E.2.1) c1 c2 c6 hin ty0 ht hnm c5 c10.1 hP hD hS q0 he hc j hj (c6 _ h2) (fun _ h => h) hfin hd hty.1 hty.2 hl9 dd (fun H1 locs1 hP1 hD1 hS1 => k _ _ _ _ _ _ _ _ _ _ C hP1 hD1 hS1 hl)
theorem C_getR {o : String} {idx ci j a : Nat} {v : Value} {ty : FieldType} {fs : List Value} (q0 : Nat) (F : FFk o idx ci j ty) (ho : K.1.cls = o) (he : ws[q0]? = some (a, .inr (ci, fs))) (hv : fs[j]? = some v) (dd : decode K.2.1 pc = .ok (.getfield idx, 3)) (k : VC E R K S0 A QF ws L (v :: st) cs ss (pc + 3)) : VC E R K S0 A QF ws L (.ref a :: st) cs ss pc := by
  intro p e m args below meth c H locs ls C hP hD hS hl
  subst ho
  obtain ⟨C', T, N, ty0, hc, hN, hin, hj, h2, ht, hnm, hdecl, hd, hfin⟩ := F
  obtain ⟨c1, c2, c3, c4, c5, c6, c7, c8, c9, c10⟩ := id C
  exact va_get (D := E.2.1) c1 c2 c6 hin c5 c10.1 hP q0 he hc j hj (c6 _ h2) (fun _ h => h) hv dd (k _ _ _ _ _ _ _ _ _ _ C hP hD hS hl)
theorem C_new {o C' : String} {T : u_T} {N ci idx : Nat} (ty : Nat → FieldType) (fs : List Value) (hc : vwCl[ci]? = some (C', T, N)) (hin : ∀ w ∈ u_ws C' T N, w ∈ wAll) (hty : ∀ k, k < N → parseFieldDescriptor (T k).2.2.1 = some (ty k)) (hcl : Cond.classLink o idx C' ∈ wAll) (hinst : Cond.instantiable C' N ∈ wAll) (hini : Cond.initialized C' ∈ wAll) (ho : K.1.cls = o) (hfs : ∀ j, j < N → defaultValue (ty j) = vp_V fs j) (hcs : cs + 1 ≤ R.cells) (hss : ss + N ≤ R.slots) (dd : decode K.2.1 pc = .ok (.new idx, 3)) (k : ∀ q : Nat, VC E R K S0 A QF (ws ++ [(q, .inr (ci, fs))]) L (.ref q :: st) (cs + 1) (ss + N) (pc + 3)) : VC E R K S0 A QF ws L st cs ss pc := by
  intro p e m args below meth c H locs ls C hP hD hS hl
  subst ho
  obtain ⟨c1, c2, c3, c4, c5, c6, c7, c8, c9, c10⟩ := id C
  exact va_new (ci := ci) (fs := fs) c1 c2 c6 hin ty hty c5 (c6 _ hcl) (c6 _ hinst) (c6 _ hini) c10.1 hP hD hS c8 hc hfs hcs hss dd (fun q H1 hP1 hD1 hS1 => k q _ _ _ _ _ _ _ _ _ _ C hP1 hD1 hS1 hl)
end VCR
/-! a constructor's contract: it begins with its own cell alone, and ends with wF u, u the new cells -/
theorem code_tab {args : Array Value} {s : State} {y : MethodName} {m : MethodId} {meth : Method} {c : Code} {cc : ByteArray} {maxL : Nat} {ret : Option FieldType} (hn : s.methodNamed? y = some m) (hm : s.vm.method? m = some meth) (hc : meth.code = some c) (h : (Cond.code y cc maxL ret).before args s = true) : c.exceptionTable.toList = [] := by
  obtain ⟨meth9, c9, h1, h2, -, -, -, -, h7, -⟩ := Cond.code_spec hn h
  cases Option.some.inj (h1.symm.trans hm)
  cases Option.some.inj (h2.symm.trans hc)
  rw [Array.isEmpty_iff.mp h7]
def rmC (d CS SS : Nat) : Room := { frames := d, cells := CS, slots := SS, locals := 40 * d }
def ConC (E : EV) (d : Nat) (M : MK) (CS SS : Nat) (a : Nat) (vs : List Value) (ci : Nat) (fs : List Value) (n : Nat) (wF : List Nat → va_W) : Prop := ∀ sz : Nat,
  Met E.1 M.1 (.code M.1 M.2.1 M.2.2.1 M.2.2.2 :: wAll) (rmC d CS SS) (va_Pc (.ref a :: vs) (fun U => U.heap.size = sz ∧ va_P E.2.1 vwCl [(a, .inr (ci, fs))] U.heap ∧ CK E (va_A [(a, .inr (ci, fs))] sz) U U.heap)) (va_Qv (fun u : List Nat => u.length = n) (fun u t => va_P E.2.1 vwCl (wF u) t.heap ∧ va_D (va_A [(a, .inr (ci, fs))] sz) (wF u)) (va_A [(a, .inr (ci, fs))] sz)) CS SS (va_A [(a, .inr (ci, fs))] sz)
def QC (E : EV) (a ci : Nat) (fs : List Value) (sz CS SS n : Nat) (wF : List Nat → va_W) : QT := fun below args s => MQ below (va_Qv (fun u : List Nat => u.length = n) (fun u t => va_P E.2.1 vwCl (wF u) t.heap ∧ va_D (va_A [(a, .inr (ci, fs))] sz) (wF u)) (va_A [(a, .inr (ci, fs))] sz)) args s CS SS (va_A [(a, .inr (ci, fs))] sz)
theorem ConC.ofV {E : EV} {d : Nat} {M : MK} {CS SS a ci n : Nat} {vs fs : List Value} {wF : List Nat → va_W} (hy : plainName M.1.cls = true) (hni : M.1.name = "<init>") (hlen : (lg_sl (.ref a :: vs)).length ≤ M.2.2.1) (k : ∀ (S0 : State) (sz : Nat), VC E (rmC d CS SS) M S0 (va_A [(a, .inr (ci, fs))] sz) (QC E a ci fs sz CS SS n wF) [(a, .inr (ci, fs))] (lv_args 0 (.ref a :: vs)) [] 0 0 0) : ConC E d M CS SS a vs ci fs n wF := by
  intro sz
  refine Met.ofW (cc := M.2.1) (maxL := M.2.2.1) (ret := M.2.2.2) hy rfl ?_
  intro p e s m args below meth c s₁ B hml hv
  obtain ⟨rfl, hsz, hP, hCK⟩ := hv
  have hts := atoms_spec (ws := .code M.1 M.2.1 M.2.2.1 M.2.2.2 :: wAll) B.pre
  have hown : s.vm.findClass M.1.cls = some m.cls := findClass_of_methodNamed B.named
  have hl := lv_entry (.ref a :: vs) (n := M.2.2.1) hlen
  have hin : meth.name = "<init>" := (name_of_methodNamed B.named B.method).1.trans hni
  have htb : c.exceptionTable.toList = tbl M.1 := by
    rw [code_tab B.named B.method (Stand.of_body B).code (hts _ List.mem_cons_self)]
    simp [tbl, hni]
  rw [lg_entry_eq]
  have hD : va_D (va_A [(a, .inr (ci, fs))] sz) [(a, .inr (ci, fs))] := by
    refine ⟨fun i j p q hi hj _ => ?_, fun k q hk => va_A.in hk⟩
    have h1 := (List.getElem?_eq_some_iff.mp hi).1
    have h2 := (List.getElem?_eq_some_iff.mp hj).1
    simp at h1 h2
    omega
  exact k s sz p e m _ below meth c s.heap [] _ ⟨B.exec, B.bytes, B.returns, hml, hown, fun w hw => hts w (List.mem_cons_of_mem _ hw), B.notSynchronized, fun q hq => Or.inr (by rw [← hsz]; exact hq), ⟨fun _ => hin, htb⟩, hCK⟩ hP hD va_S.rf hl
theorem C_vret {E : EV} {d : Nat} {K : MK} {S0 : State} {CS SS a ci n sz : Nat} {fs : List Value} {wF : List Nat → va_W} {ws : va_W} {L : List (Nat × Value)} {pc : Nat} (u : List Nat) (hu : u.length = n) (hw : wF u = ws) (hr : K.2.2.2 = none) (dd : decode K.2.1 pc = .ok (.return_, 1)) : VC E (rmC d CS SS) K S0 (va_A [(a, .inr (ci, fs))] sz) (QC E a ci fs sz CS SS n wF) ws L [] CS SS pc := by
  intro p e m args below meth c H locs ls C hP hD hS hl
  subst hw
  exact W.vret C.1 C.2.1 (C.2.2.1.trans hr) (fun t ht hW => ⟨⟨u, rfl, hu, by show va_P E.2.1 vwCl (wF u) t.heap; rw [ht]; exact hP, hD⟩, hS.F ht⟩) hS.2.2 dd C.2.2.2.2.2.2.1
theorem rng_some {α : Type} (wr : List α) (x : α) : (List.range wr.length).map (fun i => (wr ++ [x])[i]?) = wr.map some := by
  apply List.ext_getElem?
  intro i
  rw [List.getElem?_map, List.getElem?_map]
  by_cases hi : i < wr.length
  · rw [List.getElem?_range hi, List.getElem?_eq_getElem hi]
    simp [List.getElem?_append_left hi]
  · rw [List.getElem?_eq_none (by simpa using hi), List.getElem?_eq_none (by simpa using hi)]
    rfl
theorem va_nd_range : ∀ n : Nat, va_nd (List.range n) = true := by
  intro n
  have key : ∀ l : List Nat, l.Nodup → va_nd l = true := by
    intro l
    induction l with
    | nil => intro _; rfl
    | cons b l ih =>
      intro h
      obtain ⟨h1, h2⟩ := List.nodup_cons.mp h
      simp [va_nd, h1, ih h2]
  exact key _ List.nodup_range
/-- 'new' is done, its constructor is called: the new cell is the last of the list -/
theorem C_init {E : EV} {R : Room} {K : MK} {S0 : State} {A : Nat → Prop} {QF : QT} {wr : va_W} {L : List (Nat × Value)} {cs ss pc : Nat} {M : MK} {d' CS' SS' q ci n nn idx : Nat} {As rest st0 fs : List Value} {wF : List Nat → va_W} {o : String} (hM : ConC E d' M CS' SS' q As ci fs n wF) (hMo : MOk M nn) (hin : Cond.instanceMethod M.1 ∈ wAll) (hL : MLk o idx M.1) (ho : K.1.cls = o) (hni : M.1.name = "<init>") (hret : M.2.2.2 = none) (hAs : As.length = nn) (hst : As.reverse ++ .ref q :: rest = st0) (hr : (rest.map fun v => v.category).sum ≤ 8) (hR : d' + 1 ≤ R.frames ∧ 8 + (M.2.2.1 + 11) + 40 * d' ≤ R.locals) (hf : cs + CS' ≤ R.cells ∧ ss + SS' ≤ R.slots) (dd : decode K.2.1 pc = .ok (.invokespecial idx, 3)) (k : ∀ u : List Nat, u.length = n → VC E R K S0 A QF (wr ++ wF u) L rest (cs + CS') (ss + SS') (pc + 3)) : VC E R K S0 A QF (wr ++ [(q, .inr (ci, fs))]) L st0 cs ss pc := by
  intro p e m args below meth c H locs ls C hP hD hS hl
  subst ho; subst hst
  obtain ⟨c1, c2, c3, c4, c5, c6, c7, c8, c9, c10⟩ := id C
  obtain ⟨hcd, hini, hd, h21⟩ := hMo
  obtain ⟨yM, bM, lM, rM⟩ := M
  simp only at hret
  subst hret
  have hC : [wr.length].map (fun i => (wr ++ [(q, (.inr (ci, fs) : va_E))])[i]?) = [(q, (.inr (ci, fs) : va_E))].map some := by simp
  have hRr := rng_some wr (q, (.inr (ci, fs) : va_E))
  have hFc := va_free (wc := [(q, .inr (ci, fs))]) hD hS c8 [wr.length] hC
  have hPc : va_P E.2.1 vwCl [(q, .inr (ci, fs))] H := fun kk x hx => by
    have : kk = 0 := by
      have := (List.getElem?_eq_some_iff.mp hx).1
      simpa using this
    subst this
    cases hx
    exact hP wr.length _ (by simp)
  have hpre : PreS S0 H (va_Pc (.ref q :: As) (fun U => U.heap.size = H.size ∧ va_P E.2.1 vwCl [(q, .inr (ci, fs))] U.heap ∧ CK E (va_A [(q, .inr (ci, fs))] H.size) U U.heap)) (.ref q :: As) :=
    ⟨fun a U g mk z => ⟨z.1, z.2.1, z.2.2.1, CK.same (u := U) rfl z.2.2.2⟩, fun U hU hW => ⟨rfl, by rw [hU], by rw [hU]; exact hPc, by rw [hU]; exact CK.warm hS hW hFc c10⟩⟩
  have hcat : 2 * (F0 m pc ls (As.reverse ++ .ref q :: rest)).monitorRoom + (rest.map fun v => v.category).sum ≤ 8 := lv_room (rest := As.reverse ++ .ref q :: rest) hr
  have key : ∀ (Hr : va_Run p E.1 e R S0 m args below meth c H locs cs ss CS' SS' (F0 m pc ls (As.reverse ++ .ref q :: rest)) rest (va_Qv (fun u : List Nat => u.length = n) (fun u t => va_P E.2.1 vwCl (wF u) t.heap ∧ va_D (va_A [(q, .inr (ci, fs))] H.size) (wF u)) (va_A [(q, .inr (ci, fs))] H.size) ((Value.ref q :: As).toArray)) (va_A [(q, .inr (ci, fs))] H.size)), W p E.1 e R S0 m args below meth c H locs cs ss (QF below args S0) (F0 m pc ls (As.reverse ++ .ref q :: rest)) := by
    intro Hr
    refine va_callv Hr hS (fun x _ hx => hFc x hx) hFc (fun u t H1 locs1 ht hvm hq hB hz hk1 hS1 => ?_)
    subst ht
    obtain ⟨hP2, hD2⟩ := va_join (wr := wr) (w1 := wF u) hP hD [wr.length] (List.range wr.length) hC hRr (va_nd_range _) (fun i hi hi2 => by
      have h1 := List.mem_range.mp hi
      have h2 := List.mem_singleton.mp hi2
      omega) hk1 hFc hB.1 hB.2
    exact k u hq _ _ _ _ _ _ _ _ _ _ C hP2 hD2 hS1 hl
  rcases hL with h2 | ⟨host, h2⟩
  · exact key (va_runI (R := R) (n := nn) ⟨c1, c2, c4, c5, c6⟩ (hM H.size) ⟨callB_of (ws' := wAll) nn c6 (goodAll' hcd) rfl rfl rfl (c6 _ hini) (c6 _ h2) hd hR, hni, c6 _ hin⟩ hpre rfl hAs hl.1 rfl hcat dd hf)
  · exact key (va_runIN (R := R) (n := nn) ⟨c1, c2, c4, c5, c6⟩ (hM H.size) ⟨va_cnB (ws' := wAll) nn c6 (goodAll' hcd) rfl rfl rfl (c10.2.1 _ h2) (c6 _ hini) hd hR, hni, c6 _ hin⟩ hpre rfl hAs hl.1 rfl hcat dd hf)
