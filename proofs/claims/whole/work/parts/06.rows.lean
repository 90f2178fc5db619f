section VR
variable {E : EV} {d : Nat} {K : MK} {Z : Array Value → State → Outcome → State → Prop} {h : AH} {L : List (Nat × Value)} {st : List Value} {pc : Nat}
theorem trL_at {q i : Nat} {v : Value} (hq : L[q]? = some (i, v)) : (trL E L)[q]? = some (i, trv E.2.2.2 v) := by
  unfold trL
  rw [List.getElem?_map, hq]
  rfl
def drop1 (i : Nat) (L : List (Nat × Value)) : List (Nat × Value) := L.filter (fun q => !(q.1 == i) && !(q.1 + 1 == i && q.2.category == 2))
def drop2 (i : Nat) (L : List (Nat × Value)) : List (Nat × Value) := L.filter (fun q => !(q.1 == i) && (!(q.1 == i + 1) && !(q.1 + 1 == i && q.2.category == 2)))
theorem drop1_tr (i : Nat) (L : List (Nat × Value)) : drop1 i (trL E L) = trL E (drop1 i L) := by
  unfold drop1 trL
  rw [List.filter_map]
  congr 1
  apply List.filter_congr
  intro q _
  simp [trv_cat]
theorem drop2_tr (i : Nat) (L : List (Nat × Value)) : drop2 i (trL E L) = trL E (drop2 i L) := by
  unfold drop2 trL
  rw [List.filter_map]
  congr 1
  apply List.filter_congr
  intro q _
  simp [trv_cat]
theorem V_sub (ps : List Nat) {L' : List (Nat × Value)} (hp : lv_pick L ps = L') (k : V E d K Z h L' st pc) : V E d K Z h L st pc := by
  intro p e s m args below meth c H locs ls C hP hS hl
  refine k _ _ _ _ _ _ _ _ _ _ _ C hP hS (lv_sub hl ps ?_)
  subst hp
  clear k
  unfold lv_pick trL
  induction ps with
  | nil => rfl
  | cons a ps ih =>
    simp only [List.filterMap_cons, List.getElem?_map]
    cases hL : L[a]? with
    | none => simpa [hL] using ih
    | some w => simpa [hL] using ih
theorem V_eqh {h' : AH} (e : h = h') (k : V E d K Z h' L st pc) : V E d K Z h L st pc := e ▸ k
theorem V_iconst {n : Int} {v : Int32} (dd : decode K.2.1 pc = .ok (.iconst n, 1)) (hv : Int32.ofInt n = v) (k : V E d K Z h L (.int v :: st) (pc + 1)) : V E d K Z h L st pc := by
  intro p e s m args below meth c H locs ls C hP hS hl
  exact lv_iconst C.1 C.2.1 dd hv (k _ _ _ _ _ _ _ _ _ _ _ C hP hS hl)
theorem V_bipush {n : Int} {v : Int32} (dd : decode K.2.1 pc = .ok (.bipush n, 2)) (hv : (Int8.ofInt n).toInt32 = v) (k : V E d K Z h L (.int v :: st) (pc + 2)) : V E d K Z h L st pc := by
  intro p e s m args below meth c H locs ls C hP hS hl
  exact lv_bipush C.1 C.2.1 dd hv (k _ _ _ _ _ _ _ _ _ _ _ C hP hS hl)
theorem V_sipush {n : Int} {v : Int32} (dd : decode K.2.1 pc = .ok (.sipush n, 3)) (hv : (Int16.ofInt n).toInt32 = v) (k : V E d K Z h L (.int v :: st) (pc + 3)) : V E d K Z h L st pc := by
  intro p e s m args below meth c H locs ls C hP hS hl
  exact lv_sipush C.1 C.2.1 dd hv (k _ _ _ _ _ _ _ _ _ _ _ C hP hS hl)
theorem V_lconst {n : Fin 2} {v : Int64} (dd : decode K.2.1 pc = .ok (.lconst n, 1)) (hv : Int64.ofNat (n : Nat) = v) (k : V E d K Z h L (.long v :: st) (pc + 1)) : V E d K Z h L st pc := by
  intro p e s m args below meth c H locs ls C hP hS hl
  exact lv_lconst C.1 C.2.1 dd hv (k _ _ _ _ _ _ _ _ _ _ _ C hP hS hl)
theorem V_iload_n {n : Fin 4} {i : Nat} {x : Int32} (q : Nat) (dd : decode K.2.1 pc = .ok (.iload_n n, 1)) (hi : (n : Nat) = i) (hq : L[q]? = some (i, .int x)) (k : V E d K Z h L (.int x :: st) (pc + 1)) : V E d K Z h L st pc := by
  intro p e s m args below meth c H locs ls C hP hS hl
  exact lv_iload_n C.1 C.2.1 dd hi (lv_at hl q (trL_at hq)) (k _ _ _ _ _ _ _ _ _ _ _ C hP hS hl)
theorem V_iload {i : Nat} {x : Int32} (q : Nat) (dd : decode K.2.1 pc = .ok (.iload i, 2)) (hq : L[q]? = some (i, .int x)) (k : V E d K Z h L (.int x :: st) (pc + 2)) : V E d K Z h L st pc := by
  intro p e s m args below meth c H locs ls C hP hS hl
  exact lv_iload C.1 C.2.1 dd (lv_at hl q (trL_at hq)) (k _ _ _ _ _ _ _ _ _ _ _ C hP hS hl)
theorem V_istore_n {n : Fin 4} {i : Nat} {x e0 : Int32} {L' : List (Nat × Value)} (dd : decode K.2.1 pc = .ok (.istore_n n, 1)) (hi : (n : Nat) = i) (hn : i < K.2.2.1) (hx : x = e0) (hL : (i, Value.int x) :: drop1 i L = L') (k : V E d K Z h L' st (pc + 1)) : V E d K Z h L (.int e0 :: st) pc := by
  intro p e s m args below meth c H locs ls C hP hS hl
  subst hx; subst hL
  refine lv_istore_n C.1 C.2.1 dd hi hl hn rfl (fun ls hl => ?_)
  refine k _ _ _ _ _ _ _ _ _ _ _ C hP hS ?_
  have e1 := drop1_tr (E := E) i L
  unfold drop1 at e1
  show lv_has ls _ ((i, _) :: trL E (drop1 i L))
  rw [← drop1_tr]
  exact hl
theorem V_istore {i : Nat} {x e0 : Int32} {L' : List (Nat × Value)} (dd : decode K.2.1 pc = .ok (.istore i, 2)) (hn : i < K.2.2.1) (hx : x = e0) (hL : (i, Value.int x) :: drop1 i L = L') (k : V E d K Z h L' st (pc + 2)) : V E d K Z h L (.int e0 :: st) pc := by
  intro p e s m args below meth c H locs ls C hP hS hl
  subst hx; subst hL
  refine lv_istore C.1 C.2.1 dd hl hn rfl (fun ls hl => ?_)
  refine k _ _ _ _ _ _ _ _ _ _ _ C hP hS ?_
  have e1 := drop1_tr (E := E) i L
  unfold drop1 at e1
  show lv_has ls _ ((i, _) :: trL E (drop1 i L))
  rw [← drop1_tr]
  exact hl
theorem V_lload_n {n : Fin 4} {i : Nat} {x : Int64} (q : Nat) (dd : decode K.2.1 pc = .ok (.lload_n n, 1)) (hi : (n : Nat) = i) (hq : L[q]? = some (i, .long x)) (k : V E d K Z h L (.long x :: st) (pc + 1)) : V E d K Z h L st pc := by
  intro p e s m args below meth c H locs ls C hP hS hl
  exact lv_lload_n C.1 C.2.1 dd hi (lv_at hl q (trL_at hq)) (k _ _ _ _ _ _ _ _ _ _ _ C hP hS hl)
theorem V_lload {i : Nat} {x : Int64} (q : Nat) (dd : decode K.2.1 pc = .ok (.lload i, 2)) (hq : L[q]? = some (i, .long x)) (k : V E d K Z h L (.long x :: st) (pc + 2)) : V E d K Z h L st pc := by
  intro p e s m args below meth c H locs ls C hP hS hl
  exact lv_lload C.1 C.2.1 dd (lv_at hl q (trL_at hq)) (k _ _ _ _ _ _ _ _ _ _ _ C hP hS hl)
theorem V_lstore_n {n : Fin 4} {i : Nat} {x e0 : Int64} {L' : List (Nat × Value)} (dd : decode K.2.1 pc = .ok (.lstore_n n, 1)) (hi : (n : Nat) = i) (hn : i + 1 < K.2.2.1) (hx : x = e0) (hL : (i, Value.long x) :: drop2 i L = L') (k : V E d K Z h L' st (pc + 1)) : V E d K Z h L (.long e0 :: st) pc := by
  intro p e s m args below meth c H locs ls C hP hS hl
  subst hx; subst hL
  refine lv_lstore_n C.1 C.2.1 dd hi hl hn rfl (fun ls hl => ?_)
  refine k _ _ _ _ _ _ _ _ _ _ _ C hP hS ?_
  have e1 := drop2_tr (E := E) i L
  unfold drop2 at e1
  show lv_has ls _ ((i, _) :: trL E (drop2 i L))
  rw [← drop2_tr]
  exact hl
theorem V_lstore {i : Nat} {x e0 : Int64} {L' : List (Nat × Value)} (dd : decode K.2.1 pc = .ok (.lstore i, 2)) (hn : i + 1 < K.2.2.1) (hx : x = e0) (hL : (i, Value.long x) :: drop2 i L = L') (k : V E d K Z h L' st (pc + 2)) : V E d K Z h L (.long e0 :: st) pc := by
  intro p e s m args below meth c H locs ls C hP hS hl
  subst hx; subst hL
  refine lv_lstore C.1 C.2.1 dd hl hn rfl (fun ls hl => ?_)
  refine k _ _ _ _ _ _ _ _ _ _ _ C hP hS ?_
  have e1 := drop2_tr (E := E) i L
  unfold drop2 at e1
  show lv_has ls _ ((i, _) :: trL E (drop2 i L))
  rw [← drop2_tr]
  exact hl
theorem V_aload_n {n : Fin 4} {i : Nat} {x : Nat} (q : Nat) (dd : decode K.2.1 pc = .ok (.aload_n n, 1)) (hi : (n : Nat) = i) (hq : L[q]? = some (i, .ref x)) (k : V E d K Z h L (.ref x :: st) (pc + 1)) : V E d K Z h L st pc := by
  intro p e s m args below meth c H locs ls C hP hS hl
  exact lv_aload_n C.1 C.2.1 dd hi (lv_at hl q (trL_at hq)) (k _ _ _ _ _ _ _ _ _ _ _ C hP hS hl)
theorem V_aload {i : Nat} {x : Nat} (q : Nat) (dd : decode K.2.1 pc = .ok (.aload i, 2)) (hq : L[q]? = some (i, .ref x)) (k : V E d K Z h L (.ref x :: st) (pc + 2)) : V E d K Z h L st pc := by
  intro p e s m args below meth c H locs ls C hP hS hl
  exact lv_aload C.1 C.2.1 dd (lv_at hl q (trL_at hq)) (k _ _ _ _ _ _ _ _ _ _ _ C hP hS hl)
theorem V_astore_n {n : Fin 4} {i : Nat} {x e0 : Nat} {L' : List (Nat × Value)} (dd : decode K.2.1 pc = .ok (.astore_n n, 1)) (hi : (n : Nat) = i) (hn : i < K.2.2.1) (hx : x = e0) (hL : (i, Value.ref x) :: drop1 i L = L') (k : V E d K Z h L' st (pc + 1)) : V E d K Z h L (.ref e0 :: st) pc := by
  intro p e s m args below meth c H locs ls C hP hS hl
  subst hx; subst hL
  refine lv_astore_n C.1 C.2.1 dd hi hl hn rfl (fun ls hl => ?_)
  refine k _ _ _ _ _ _ _ _ _ _ _ C hP hS ?_
  have e1 := drop1_tr (E := E) i L
  unfold drop1 at e1
  show lv_has ls _ ((i, _) :: trL E (drop1 i L))
  rw [← drop1_tr]
  exact hl
theorem V_astore {i : Nat} {x e0 : Nat} {L' : List (Nat × Value)} (dd : decode K.2.1 pc = .ok (.astore i, 2)) (hn : i < K.2.2.1) (hx : x = e0) (hL : (i, Value.ref x) :: drop1 i L = L') (k : V E d K Z h L' st (pc + 2)) : V E d K Z h L (.ref e0 :: st) pc := by
  intro p e s m args below meth c H locs ls C hP hS hl
  subst hx; subst hL
  refine lv_astore C.1 C.2.1 dd hl hn rfl (fun ls hl => ?_)
  refine k _ _ _ _ _ _ _ _ _ _ _ C hP hS ?_
  have e1 := drop1_tr (E := E) i L
  unfold drop1 at e1
  show lv_has ls _ ((i, _) :: trL E (drop1 i L))
  rw [← drop1_tr]
  exact hl
theorem V_iinc {i : Nat} {n : Int} {x y a : Int32} {L' : List (Nat × Value)} (q : Nat) (dd : decode K.2.1 pc = .ok (.iinc i n, 3)) (hq : L[q]? = some (i, .int y)) (ha : Int32.ofInt n = a) (hn : i < K.2.2.1) (hx : x = y + a) (hL : (i, Value.int x) :: drop1 i L = L') (k : V E d K Z h L' st (pc + 3)) : V E d K Z h L st pc := by
  intro p e s m args below meth c H locs ls C hP hS hl
  subst hL; subst ha
  refine lv_iinc C.1 C.2.1 dd hl (k := q) (trL_at hq) hx.symm hn rfl (fun ls hl => ?_)
  refine k _ _ _ _ _ _ _ _ _ _ _ C hP hS ?_
  show lv_has ls _ ((i, _) :: trL E (drop1 i L))
  rw [← drop1_tr]
  exact hl
theorem V_iadd {x : Int32} {y : Int32} (dd : decode K.2.1 pc = .ok (.iadd, 1)) (k : V E d K Z h L (.int (x + y) :: st) (pc + 1)) : V E d K Z h L (.int y :: .int x :: st) pc := by
  intro p e s m args below meth c H locs ls C hP hS hl
  exact lv_iadd C.1 C.2.1 dd (k _ _ _ _ _ _ _ _ _ _ _ C hP hS hl)
theorem V_isub {x : Int32} {y : Int32} (dd : decode K.2.1 pc = .ok (.isub, 1)) (k : V E d K Z h L (.int (x - y) :: st) (pc + 1)) : V E d K Z h L (.int y :: .int x :: st) pc := by
  intro p e s m args below meth c H locs ls C hP hS hl
  exact lv_isub C.1 C.2.1 dd (k _ _ _ _ _ _ _ _ _ _ _ C hP hS hl)
theorem V_imul {x : Int32} {y : Int32} (dd : decode K.2.1 pc = .ok (.imul, 1)) (k : V E d K Z h L (.int (x * y) :: st) (pc + 1)) : V E d K Z h L (.int y :: .int x :: st) pc := by
  intro p e s m args below meth c H locs ls C hP hS hl
  exact lv_imul C.1 C.2.1 dd (k _ _ _ _ _ _ _ _ _ _ _ C hP hS hl)
theorem V_iand {x : Int32} {y : Int32} (dd : decode K.2.1 pc = .ok (.iand, 1)) (k : V E d K Z h L (.int (x &&& y) :: st) (pc + 1)) : V E d K Z h L (.int y :: .int x :: st) pc := by
  intro p e s m args below meth c H locs ls C hP hS hl
  exact lv_iand C.1 C.2.1 dd (k _ _ _ _ _ _ _ _ _ _ _ C hP hS hl)
theorem V_ior {x : Int32} {y : Int32} (dd : decode K.2.1 pc = .ok (.ior, 1)) (k : V E d K Z h L (.int (x ||| y) :: st) (pc + 1)) : V E d K Z h L (.int y :: .int x :: st) pc := by
  intro p e s m args below meth c H locs ls C hP hS hl
  exact lv_ior C.1 C.2.1 dd (k _ _ _ _ _ _ _ _ _ _ _ C hP hS hl)
theorem V_ixor {x : Int32} {y : Int32} (dd : decode K.2.1 pc = .ok (.ixor, 1)) (k : V E d K Z h L (.int (x ^^^ y) :: st) (pc + 1)) : V E d K Z h L (.int y :: .int x :: st) pc := by
  intro p e s m args below meth c H locs ls C hP hS hl
  exact lv_ixor C.1 C.2.1 dd (k _ _ _ _ _ _ _ _ _ _ _ C hP hS hl)
theorem V_ishl {x : Int32} {y : Int32} (dd : decode K.2.1 pc = .ok (.ishl, 1)) (k : V E d K Z h L (.int (x <<< (y &&& 31)) :: st) (pc + 1)) : V E d K Z h L (.int y :: .int x :: st) pc := by
  intro p e s m args below meth c H locs ls C hP hS hl
  exact lv_ishl C.1 C.2.1 dd (k _ _ _ _ _ _ _ _ _ _ _ C hP hS hl)
theorem V_ishr {x : Int32} {y : Int32} (dd : decode K.2.1 pc = .ok (.ishr, 1)) (k : V E d K Z h L (.int (x >>> (y &&& 31)) :: st) (pc + 1)) : V E d K Z h L (.int y :: .int x :: st) pc := by
  intro p e s m args below meth c H locs ls C hP hS hl
  exact lv_ishr C.1 C.2.1 dd (k _ _ _ _ _ _ _ _ _ _ _ C hP hS hl)
theorem V_idiv {x : Int32} {y : Int32} (dd : decode K.2.1 pc = .ok (.idiv, 1)) (hne : ¬ y = 0) (k : V E d K Z h L (.int (x / y) :: st) (pc + 1)) : V E d K Z h L (.int y :: .int x :: st) pc := by
  intro p e s m args below meth c H locs ls C hP hS hl
  exact lv_idiv C.1 C.2.1 dd hne (k _ _ _ _ _ _ _ _ _ _ _ C hP hS hl)
theorem V_irem {x : Int32} {y : Int32} (dd : decode K.2.1 pc = .ok (.irem, 1)) (hne : ¬ y = 0) (k : V E d K Z h L (.int (x - x / y * y) :: st) (pc + 1)) : V E d K Z h L (.int y :: .int x :: st) pc := by
  intro p e s m args below meth c H locs ls C hP hS hl
  exact lv_irem C.1 C.2.1 dd hne (k _ _ _ _ _ _ _ _ _ _ _ C hP hS hl)
theorem V_iushr {x : Int32} {y : Int32} (dd : decode K.2.1 pc = .ok (.iushr, 1)) (k : V E d K Z h L (.int ((x.toUInt32 >>> (y.toUInt32 &&& Int32.toUInt32 31)).toInt32) :: st) (pc + 1)) : V E d K Z h L (.int y :: .int x :: st) pc := by
  intro p e s m args below meth c H locs ls C hP hS hl
  exact lv_iushr C.1 C.2.1 dd rfl (k _ _ _ _ _ _ _ _ _ _ _ C hP hS hl)
theorem V_ladd {x : Int64} {y : Int64} (dd : decode K.2.1 pc = .ok (.ladd, 1)) (k : V E d K Z h L (.long (x + y) :: st) (pc + 1)) : V E d K Z h L (.long y :: .long x :: st) pc := by
  intro p e s m args below meth c H locs ls C hP hS hl
  exact lv_ladd C.1 C.2.1 dd (k _ _ _ _ _ _ _ _ _ _ _ C hP hS hl)
theorem V_lsub {x : Int64} {y : Int64} (dd : decode K.2.1 pc = .ok (.lsub, 1)) (k : V E d K Z h L (.long (x - y) :: st) (pc + 1)) : V E d K Z h L (.long y :: .long x :: st) pc := by
  intro p e s m args below meth c H locs ls C hP hS hl
  exact lv_lsub C.1 C.2.1 dd (k _ _ _ _ _ _ _ _ _ _ _ C hP hS hl)
theorem V_lmul {x : Int64} {y : Int64} (dd : decode K.2.1 pc = .ok (.lmul, 1)) (k : V E d K Z h L (.long (x * y) :: st) (pc + 1)) : V E d K Z h L (.long y :: .long x :: st) pc := by
  intro p e s m args below meth c H locs ls C hP hS hl
  exact lv_lmul C.1 C.2.1 dd (k _ _ _ _ _ _ _ _ _ _ _ C hP hS hl)
theorem V_land {x : Int64} {y : Int64} (dd : decode K.2.1 pc = .ok (.land, 1)) (k : V E d K Z h L (.long (x &&& y) :: st) (pc + 1)) : V E d K Z h L (.long y :: .long x :: st) pc := by
  intro p e s m args below meth c H locs ls C hP hS hl
  exact lv_land C.1 C.2.1 dd (k _ _ _ _ _ _ _ _ _ _ _ C hP hS hl)
theorem V_lor {x : Int64} {y : Int64} (dd : decode K.2.1 pc = .ok (.lor, 1)) (k : V E d K Z h L (.long (x ||| y) :: st) (pc + 1)) : V E d K Z h L (.long y :: .long x :: st) pc := by
  intro p e s m args below meth c H locs ls C hP hS hl
  exact lv_lor C.1 C.2.1 dd (k _ _ _ _ _ _ _ _ _ _ _ C hP hS hl)
theorem V_ldiv {x : Int64} {y : Int64} (dd : decode K.2.1 pc = .ok (.ldiv, 1)) (hne : ¬ y = 0) (k : V E d K Z h L (.long (x / y) :: st) (pc + 1)) : V E d K Z h L (.long y :: .long x :: st) pc := by
  intro p e s m args below meth c H locs ls C hP hS hl
  exact lv_ldiv C.1 C.2.1 dd hne (k _ _ _ _ _ _ _ _ _ _ _ C hP hS hl)
theorem V_lrem {x : Int64} {y : Int64} (dd : decode K.2.1 pc = .ok (.lrem, 1)) (hne : ¬ y = 0) (k : V E d K Z h L (.long (x - x / y * y) :: st) (pc + 1)) : V E d K Z h L (.long y :: .long x :: st) pc := by
  intro p e s m args below meth c H locs ls C hP hS hl
  exact lv_lrem C.1 C.2.1 dd hne (k _ _ _ _ _ _ _ _ _ _ _ C hP hS hl)
theorem V_lshl {x : Int64} {y : Int32} (dd : decode K.2.1 pc = .ok (.lshl, 1)) (k : V E d K Z h L (.long (x <<< (y.toInt64 &&& 63)) :: st) (pc + 1)) : V E d K Z h L (.int y :: .long x :: st) pc := by
  intro p e s m args below meth c H locs ls C hP hS hl
  exact lv_lshl C.1 C.2.1 dd rfl (k _ _ _ _ _ _ _ _ _ _ _ C hP hS hl)
theorem V_lushr {x : Int64} {y : Int32} (dd : decode K.2.1 pc = .ok (.lushr, 1)) (k : V E d K Z h L (.long ((x.toUInt64 >>> (y.toInt64.toUInt64 &&& Int64.toUInt64 63)).toInt64) :: st) (pc + 1)) : V E d K Z h L (.int y :: .long x :: st) pc := by
  intro p e s m args below meth c H locs ls C hP hS hl
  exact lv_lushr C.1 C.2.1 dd rfl (k _ _ _ _ _ _ _ _ _ _ _ C hP hS hl)
theorem V_lcmp {x y : Int64} (dd : decode K.2.1 pc = .ok (.lcmp, 1)) (k : V E d K Z h L (.int (lg_cmp x y) :: st) (pc + 1)) : V E d K Z h L (.long y :: .long x :: st) pc := by
  intro p e s m args below meth c H locs ls C hP hS hl
  exact W.lcmp C.1 C.2.1 dd (k _ _ _ _ _ _ _ _ _ _ _ C hP hS hl)
theorem V_ineg {x : Int32} (dd : decode K.2.1 pc = .ok (.ineg, 1)) (k : V E d K Z h L (.int (-x) :: st) (pc + 1)) : V E d K Z h L (.int x :: st) pc := by
  intro p e s m args below meth c H locs ls C hP hS hl
  exact lv_ineg C.1 C.2.1 dd (k _ _ _ _ _ _ _ _ _ _ _ C hP hS hl)
theorem V_i2l {x : Int32} (dd : decode K.2.1 pc = .ok (.i2l, 1)) (k : V E d K Z h L (.long (x.toInt64) :: st) (pc + 1)) : V E d K Z h L (.int x :: st) pc := by
  intro p e s m args below meth c H locs ls C hP hS hl
  exact lv_i2l C.1 C.2.1 dd rfl (k _ _ _ _ _ _ _ _ _ _ _ C hP hS hl)
theorem V_l2i {x : Int64} (dd : decode K.2.1 pc = .ok (.l2i, 1)) (k : V E d K Z h L (.int (x.toInt32) :: st) (pc + 1)) : V E d K Z h L (.long x :: st) pc := by
  intro p e s m args below meth c H locs ls C hP hS hl
  exact lv_l2i C.1 C.2.1 dd rfl (k _ _ _ _ _ _ _ _ _ _ _ C hP hS hl)
theorem V_i2c {x : Int32} (dd : decode K.2.1 pc = .ok (.i2c, 1)) (k : V E d K Z h L (.int ((x.toUInt32 % 65536).toInt32) :: st) (pc + 1)) : V E d K Z h L (.int x :: st) pc := by
  intro p e s m args below meth c H locs ls C hP hS hl
  exact lv_i2c C.1 C.2.1 dd rfl (k _ _ _ _ _ _ _ _ _ _ _ C hP hS hl)
theorem V_i2b {x : Int32} (dd : decode K.2.1 pc = .ok (.i2b, 1)) (k : V E d K Z h L (.int (x.toInt8.toInt32) :: st) (pc + 1)) : V E d K Z h L (.int x :: st) pc := by
  intro p e s m args below meth c H locs ls C hP hS hl
  exact lv_i2b C.1 C.2.1 dd rfl (k _ _ _ _ _ _ _ _ _ _ _ C hP hS hl)
theorem V_dup {v : Value} (dd : decode K.2.1 pc = .ok (.dup, 1)) (hc : v.category = 1) (k : V E d K Z h L (v :: v :: st) (pc + 1)) : V E d K Z h L (v :: st) pc := by
  intro p e s m args below meth c H locs ls C hP hS hl
  exact lv_dup C.1 C.2.1 dd (by rw [trv_cat]; exact hc) (k _ _ _ _ _ _ _ _ _ _ _ C hP hS hl)
theorem V_pop {v : Value} (dd : decode K.2.1 pc = .ok (.pop, 1)) (hc : v.category = 1) (k : V E d K Z h L st (pc + 1)) : V E d K Z h L (v :: st) pc := by
  intro p e s m args below meth c H locs ls C hP hS hl
  exact lv_pop C.1 C.2.1 dd (by rw [trv_cat]; exact hc) (k _ _ _ _ _ _ _ _ _ _ _ C hP hS hl)
theorem V_dup2 {v w : Value} (dd : decode K.2.1 pc = .ok (.dup2, 1)) (hc : v.category = 1) (hw : w.category = 1) (k : V E d K Z h L (v :: w :: v :: w :: st) (pc + 1)) : V E d K Z h L (v :: w :: st) pc := by
  intro p e s m args below meth c H locs ls C hP hS hl
  exact lv_dup2_11 C.1 C.2.1 dd (by rw [trv_cat]; exact hc) (by rw [trv_cat]; exact hw) (k _ _ _ _ _ _ _ _ _ _ _ C hP hS hl)
theorem V_dup_x1 {v w : Value} (dd : decode K.2.1 pc = .ok (.dup_x1, 1)) (hc : v.category = 1) (hw : w.category = 1) (k : V E d K Z h L (v :: w :: v :: st) (pc + 1)) : V E d K Z h L (v :: w :: st) pc := by
  intro p e s m args below meth c H locs ls C hP hS hl
  exact lv_dup_x1 C.1 C.2.1 dd (by rw [trv_cat]; exact hc) (by rw [trv_cat]; exact hw) (k _ _ _ _ _ _ _ _ _ _ _ C hP hS hl)
theorem V_if_eq {x : Int32} {off : Int} {tgt : Nat} (dd : decode K.2.1 pc = .ok (.ifCond .eq off, 3)) (ht : (pc : Int) + off = (tgt : Int)) (kt : x = 0 → V E d K Z h L st tgt) (kf : ¬ x = 0 → V E d K Z h L st (pc + 3)) : V E d K Z h L (.int x :: st) pc := by
  intro p e s m args below meth c H locs ls C hP hS hl
  exact lv_if_eq C.1 C.2.1 dd ht (fun q => kt q _ _ _ _ _ _ _ _ _ _ _ C hP hS hl) (fun q => kf q _ _ _ _ _ _ _ _ _ _ _ C hP hS hl)
theorem V_if_ne {x : Int32} {off : Int} {tgt : Nat} (dd : decode K.2.1 pc = .ok (.ifCond .ne off, 3)) (ht : (pc : Int) + off = (tgt : Int)) (kt : ¬ x = 0 → V E d K Z h L st tgt) (kf : x = 0 → V E d K Z h L st (pc + 3)) : V E d K Z h L (.int x :: st) pc := by
  intro p e s m args below meth c H locs ls C hP hS hl
  exact lv_if_ne C.1 C.2.1 dd ht (fun q => kt q _ _ _ _ _ _ _ _ _ _ _ C hP hS hl) (fun q => kf q _ _ _ _ _ _ _ _ _ _ _ C hP hS hl)
theorem V_if_lt {x : Int32} {off : Int} {tgt : Nat} (dd : decode K.2.1 pc = .ok (.ifCond .lt off, 3)) (ht : (pc : Int) + off = (tgt : Int)) (kt : x < 0 → V E d K Z h L st tgt) (kf : ¬ x < 0 → V E d K Z h L st (pc + 3)) : V E d K Z h L (.int x :: st) pc := by
  intro p e s m args below meth c H locs ls C hP hS hl
  exact lv_if_lt C.1 C.2.1 dd ht (fun q => kt q _ _ _ _ _ _ _ _ _ _ _ C hP hS hl) (fun q => kf q _ _ _ _ _ _ _ _ _ _ _ C hP hS hl)
theorem V_if_ge {x : Int32} {off : Int} {tgt : Nat} (dd : decode K.2.1 pc = .ok (.ifCond .ge off, 3)) (ht : (pc : Int) + off = (tgt : Int)) (kt : 0 ≤ x → V E d K Z h L st tgt) (kf : ¬ 0 ≤ x → V E d K Z h L st (pc + 3)) : V E d K Z h L (.int x :: st) pc := by
  intro p e s m args below meth c H locs ls C hP hS hl
  exact lv_if_ge C.1 C.2.1 dd ht (fun q => kt q _ _ _ _ _ _ _ _ _ _ _ C hP hS hl) (fun q => kf q _ _ _ _ _ _ _ _ _ _ _ C hP hS hl)
theorem V_if_gt {x : Int32} {off : Int} {tgt : Nat} (dd : decode K.2.1 pc = .ok (.ifCond .gt off, 3)) (ht : (pc : Int) + off = (tgt : Int)) (kt : 0 < x → V E d K Z h L st tgt) (kf : ¬ 0 < x → V E d K Z h L st (pc + 3)) : V E d K Z h L (.int x :: st) pc := by
  intro p e s m args below meth c H locs ls C hP hS hl
  exact lv_if_gt C.1 C.2.1 dd ht (fun q => kt q _ _ _ _ _ _ _ _ _ _ _ C hP hS hl) (fun q => kf q _ _ _ _ _ _ _ _ _ _ _ C hP hS hl)
theorem V_if_le {x : Int32} {off : Int} {tgt : Nat} (dd : decode K.2.1 pc = .ok (.ifCond .le off, 3)) (ht : (pc : Int) + off = (tgt : Int)) (kt : x ≤ 0 → V E d K Z h L st tgt) (kf : ¬ x ≤ 0 → V E d K Z h L st (pc + 3)) : V E d K Z h L (.int x :: st) pc := by
  intro p e s m args below meth c H locs ls C hP hS hl
  exact lv_if_le C.1 C.2.1 dd ht (fun q => kt q _ _ _ _ _ _ _ _ _ _ _ C hP hS hl) (fun q => kf q _ _ _ _ _ _ _ _ _ _ _ C hP hS hl)
theorem V_ic_eq {x y : Int32} {off : Int} {tgt : Nat} (dd : decode K.2.1 pc = .ok (.if_icmp .eq off, 3)) (ht : (pc : Int) + off = (tgt : Int)) (kt : x = y → V E d K Z h L st tgt) (kf : ¬ x = y → V E d K Z h L st (pc + 3)) : V E d K Z h L (.int y :: .int x :: st) pc := by
  intro p e s m args below meth c H locs ls C hP hS hl
  exact lv_icmp_eq C.1 C.2.1 dd ht (fun q => kt q _ _ _ _ _ _ _ _ _ _ _ C hP hS hl) (fun q => kf q _ _ _ _ _ _ _ _ _ _ _ C hP hS hl)
theorem V_ic_ne {x y : Int32} {off : Int} {tgt : Nat} (dd : decode K.2.1 pc = .ok (.if_icmp .ne off, 3)) (ht : (pc : Int) + off = (tgt : Int)) (kt : ¬ x = y → V E d K Z h L st tgt) (kf : x = y → V E d K Z h L st (pc + 3)) : V E d K Z h L (.int y :: .int x :: st) pc := by
  intro p e s m args below meth c H locs ls C hP hS hl
  exact lv_icmp_ne C.1 C.2.1 dd ht (fun q => kt q _ _ _ _ _ _ _ _ _ _ _ C hP hS hl) (fun q => kf q _ _ _ _ _ _ _ _ _ _ _ C hP hS hl)
theorem V_ic_lt {x y : Int32} {off : Int} {tgt : Nat} (dd : decode K.2.1 pc = .ok (.if_icmp .lt off, 3)) (ht : (pc : Int) + off = (tgt : Int)) (kt : x < y → V E d K Z h L st tgt) (kf : ¬ x < y → V E d K Z h L st (pc + 3)) : V E d K Z h L (.int y :: .int x :: st) pc := by
  intro p e s m args below meth c H locs ls C hP hS hl
  exact lv_icmp_lt C.1 C.2.1 dd ht (fun q => kt q _ _ _ _ _ _ _ _ _ _ _ C hP hS hl) (fun q => kf q _ _ _ _ _ _ _ _ _ _ _ C hP hS hl)
theorem V_ic_ge {x y : Int32} {off : Int} {tgt : Nat} (dd : decode K.2.1 pc = .ok (.if_icmp .ge off, 3)) (ht : (pc : Int) + off = (tgt : Int)) (kt : y ≤ x → V E d K Z h L st tgt) (kf : ¬ y ≤ x → V E d K Z h L st (pc + 3)) : V E d K Z h L (.int y :: .int x :: st) pc := by
  intro p e s m args below meth c H locs ls C hP hS hl
  exact lv_icmp_ge C.1 C.2.1 dd ht (fun q => kt q _ _ _ _ _ _ _ _ _ _ _ C hP hS hl) (fun q => kf q _ _ _ _ _ _ _ _ _ _ _ C hP hS hl)
theorem V_ic_gt {x y : Int32} {off : Int} {tgt : Nat} (dd : decode K.2.1 pc = .ok (.if_icmp .gt off, 3)) (ht : (pc : Int) + off = (tgt : Int)) (kt : y < x → V E d K Z h L st tgt) (kf : ¬ y < x → V E d K Z h L st (pc + 3)) : V E d K Z h L (.int y :: .int x :: st) pc := by
  intro p e s m args below meth c H locs ls C hP hS hl
  exact lv_icmp_gt C.1 C.2.1 dd ht (fun q => kt q _ _ _ _ _ _ _ _ _ _ _ C hP hS hl) (fun q => kf q _ _ _ _ _ _ _ _ _ _ _ C hP hS hl)
theorem V_ic_le {x y : Int32} {off : Int} {tgt : Nat} (dd : decode K.2.1 pc = .ok (.if_icmp .le off, 3)) (ht : (pc : Int) + off = (tgt : Int)) (kt : x ≤ y → V E d K Z h L st tgt) (kf : ¬ x ≤ y → V E d K Z h L st (pc + 3)) : V E d K Z h L (.int y :: .int x :: st) pc := by
  intro p e s m args below meth c H locs ls C hP hS hl
  exact lv_icmp_le C.1 C.2.1 dd ht (fun q => kt q _ _ _ _ _ _ _ _ _ _ _ C hP hS hl) (fun q => kf q _ _ _ _ _ _ _ _ _ _ _ C hP hS hl)
theorem V_goto {off : Int} {tgt : Nat} (dd : decode K.2.1 pc = .ok (.goto off, 3)) (ht : (pc : Int) + off = (tgt : Int)) (k : V E d K Z h L st tgt) : V E d K Z h L st pc := by
  intro p e s m args below meth c H locs ls C hP hS hl
  exact lv_goto C.1 C.2.1 dd ht (k _ _ _ _ _ _ _ _ _ _ _ C hP hS hl)
theorem V_ldc {o : String} {i : Nat} {v : Int32} (ho : K.1.cls = o) (hc : Cond.constant o i v ∈ wAll) (dd : decode K.2.1 pc = .ok (.ldc i, 2)) (k : V E d K Z h L (.int v :: st) (pc + 2)) : V E d K Z h L st pc := by
  intro p e s m args below meth c H locs ls C hP hS hl
  subst ho
  exact lv_ldc C.1 C.2.1 C.2.2.2.2.1 (C.2.2.2.2.2.1 _ hc) dd (k _ _ _ _ _ _ _ _ _ _ _ C hP hS hl)
theorem V_ldcw {o : String} {i : Nat} {v : Int32} (ho : K.1.cls = o) (hc : Cond.constant o i v ∈ wAll) (dd : decode K.2.1 pc = .ok (.ldc_w i, 3)) (k : V E d K Z h L (.int v :: st) (pc + 3)) : V E d K Z h L st pc := by
  intro p e s m args below meth c H locs ls C hP hS hl
  subst ho
  exact lv_ldcw C.1 C.2.1 C.2.2.2.2.1 (C.2.2.2.2.2.1 _ hc) dd (k _ _ _ _ _ _ _ _ _ _ _ C hP hS hl)
theorem V_ldc2 {o : String} {i : Nat} {v : Int64} (ho : K.1.cls = o) (hc : Cond.constantLong o i v ∈ wAll) (dd : decode K.2.1 pc = .ok (.ldc2_w i, 3)) (k : V E d K Z h L (.long v :: st) (pc + 3)) : V E d K Z h L st pc := by
  intro p e s m args below meth c H locs ls C hP hS hl
  subst ho
  exact lv_ldc2 C.1 C.2.1 C.2.2.2.2.1 (C.2.2.2.2.2.1 _ hc) dd (k _ _ _ _ _ _ _ _ _ _ _ C hP hS hl)
def FLk (o : String) (idx ci j : Nat) : Prop := ∃ (C : String) (T : u_T) (N : Nat), vwCl[ci]? = some (C, T, N) ∧ N = nf ci ∧ (∀ w ∈ u_ws C T N, w ∈ wAll) ∧ j < N ∧ (Cond.fieldLink o idx (T j).1 (T j).2.1 (T j).2.2.1 ∈ wAll ∨ ∃ host, Cond.fieldLinkNest o idx (T j).1 (T j).2.1 (T j).2.2.1 host ∈ nstL)
def FPk (o : String) (idx ci j : Nat) (ty : FieldType) : Prop := ∃ (C : String) (T : u_T) (N : Nat) (ty0 : Nat → FieldType), vwCl[ci]? = some (C, T, N) ∧ N = nf ci ∧ (∀ w ∈ u_ws C T N, w ∈ wAll) ∧ j < N ∧ (Cond.fieldLink o idx (T j).1 (T j).2.1 (T j).2.2.1 ∈ wAll ∨ ∃ host, Cond.fieldLinkNest o idx (T j).1 (T j).2.1 (T j).2.2.1 host ∈ nstL) ∧ (∀ k, k < N → parseFieldDescriptor (T k).2.2.1 = some (ty0 k)) ∧ (∀ a, a < N → ∀ b, b < N → a ≠ b → (T a).2.1 ≠ (T b).2.1) ∧ (T j).2.2.2 = false ∧ parseFieldDescriptor (T j).2.2.1 = some ty
theorem V_getv {o : String} {idx ci j kk : Nat} {v : Value} (F : FLk o idx ci j) (ho : K.1.cls = o) (hk : kd kk = (0, ci)) (hv : fv E h kk ci j = trv E.2.2.2 v) (dd : decode K.2.1 pc = .ok (.getfield idx, 3)) (k : V E d K Z h L (v :: st) (pc + 3)) : V E d K Z h L (.ref kk :: st) pc := by
  intro p e s m args below meth c H locs ls C hP hS hl
  subst ho
  obtain ⟨C', T, N, hc, hN, hin, hj, hl2⟩ := F
  have he : (wld E h)[kk]? = some (E.2.2.2 kk, .inr (ci, (List.range (nf ci)).map (fv E h kk ci))) := by rw [wld_at (kd_lt (by rw [hk]; simp)), cel_O hk]
  have hf : ((List.range (nf ci)).map (fv E h kk ci))[j]? = some (trv E.2.2.2 v) := fv_at (hN ▸ hj) hv
  rcases hl2 with h2 | ⟨host, h2⟩
  · exact va_get (D := E.2.1) C.1 C.2.1 C.2.2.2.2.2.1 hin C.2.2.2.2.1 C.2.2.2.2.2.2.2.2.1 hP kk he hc j hj (C.2.2.2.2.2.1 _ h2) (fun _ h => h) hf dd (k _ _ _ _ _ _ _ _ _ _ _ C hP hS hl)
  · exact va_getN (D := E.2.1) C.1 C.2.1 C.2.2.2.2.2.1 hin C.2.2.2.2.1 C.2.2.2.2.2.2.2.2.1 hP kk he hc j hj (va_Nw.use rfl (C.2.2.2.2.2.2.2.2.2.1 _ h2)) (fun _ h => h) hf dd (k _ _ _ _ _ _ _ _ _ _ _ C hP hS hl)
theorem V_getI {o : String} {idx ci j kk : Nat} (F : FLk o idx ci j) (ho : K.1.cls = o) (hk : kd kk = (0, ci)) (h0 : fk ci j = 0) (dd : decode K.2.1 pc = .ok (.getfield idx, 3)) (k : V E d K Z h L (.int (h.1 kk j) :: st) (pc + 3)) : V E d K Z h L (.ref kk :: st) pc := V_getv F ho hk (by simp [fv, h0, trv]) dd k
theorem V_getL {o : String} {idx ci j kk : Nat} (F : FLk o idx ci j) (ho : K.1.cls = o) (hk : kd kk = (0, ci)) (h0 : fk ci j = 1) (dd : decode K.2.1 pc = .ok (.getfield idx, 3)) (k : V E d K Z h L (.long (h.2.1 kk) :: st) (pc + 3)) : V E d K Z h L (.ref kk :: st) pc := V_getv F ho hk (by simp [fv, h0, trv]) dd k
theorem V_getR {o : String} {idx ci j kk : Nat} (F : FLk o idx ci j) (ho : K.1.cls = o) (hk : kd kk = (0, ci)) (h0 : fk ci j = 2) (dd : decode K.2.1 pc = .ok (.getfield idx, 3)) (k : V E d K Z h L (.ref (rf kk j) :: st) (pc + 3)) : V E d K Z h L (.ref kk :: st) pc := V_getv F ho hk (by simp [fv, h0, trv]) dd k
theorem V_getM {o : String} {idx ci j kk : Nat} (F : FLk o idx ci j) (ho : K.1.cls = o) (hk : kd kk = (0, ci)) (h0 : fk ci j = 3) (dd : decode K.2.1 pc = .ok (.getfield idx, 3)) (k : V E d K Z h L (.ref (h.2.2 kk) :: st) (pc + 3)) : V E d K Z h L (.ref kk :: st) pc := V_getv F ho hk (by simp [fv, h0, trv]) dd k
theorem V_putv {o : String} {idx ci j kk : Nat} {ty : FieldType} {v : Value} {h' : AH} (F : FPk o idx ci j ty) (ho : K.1.cls = o) (hk : kd kk = (0, ci)) (hn : narrow ty (trv E.2.2.2 v) = trv E.2.2.2 v) (hf : fits ty (trv E.2.2.2 v) = true) (hw : j < nf ci → (wld E h).set kk (E.2.2.2 kk, .inr (ci, ((List.range (nf ci)).map (fv E h kk ci)).set j (trv E.2.2.2 v))) = wld E h') (dd : decode K.2.1 pc = .ok (.putfield idx, 3)) (k : V E d K Z h' L st (pc + 3)) : V E d K Z h L (v :: .ref kk :: st) pc := by
  intro p e s m args below meth c H locs ls C hP hS hl
  subst ho
  obtain ⟨C', T, N, ty0, hc, hN, hin, hj, hl2, hty, hnm, hfin, hd⟩ := F
  have he : (wld E h)[kk]? = some (E.2.2.2 kk, .inr (ci, (List.range (nf ci)).map (fv E h kk ci))) := by rw [wld_at (kd_lt (by rw [hk]; simp)), cel_O hk]
  have hD : va_D (AA E) (wld E h) := wld_D C.2.2.2.2.2.2.2.1
  have hw := hw (hN ▸ hj)
  rcases hl2 with h2 | ⟨host, h2⟩
  · refine va_put (D := E.2.1) C.1 C.2.1 C.2.2.2.2.2.1 hin ty0 hty hnm C.2.2.2.2.1 C.2.2.2.2.2.2.2.2.1 hP hD hS kk he hc j hj (C.2.2.2.2.2.1 _ h2) (fun _ h => h) hfin hd hn hf (by simpa using (hN ▸ hj)) dd (fun H1 locs1 hP1 hD1 hS1 => ?_)
    rw [hw] at hP1
    exact k _ _ _ _ _ _ _ _ _ _ _ C hP1 hS1 hl
  · refine va_putN (D := E.2.1) C.1 C.2.1 C.2.2.2.2.2.1 hin ty0 hty hnm C.2.2.2.2.1 C.2.2.2.2.2.2.2.2.1 hP hD hS kk he hc j hj (va_Nw.use rfl (C.2.2.2.2.2.2.2.2.2.1 _ h2)) (fun _ h => h) hfin hd hn hf (by simpa using (hN ▸ hj)) dd (fun H1 locs1 hP1 hD1 hS1 => ?_)
    rw [hw] at hP1
    exact k _ _ _ _ _ _ _ _ _ _ _ C hP1 hS1 hl
theorem V_putI {o : String} {idx ci j kk : Nat} {x : Int32} {h' : AH} (F : FPk o idx ci j .int) (ho : K.1.cls = o) (hk : kd kk = (0, ci)) (h0 : fk ci j = 0) (hh : h' = sI h kk j x) (dd : decode K.2.1 pc = .ok (.putfield idx, 3)) (k : V E d K Z h' L st (pc + 3)) : V E d K Z h L (.int x :: .ref kk :: st) pc := by
  subst hh
  exact V_putv F ho hk (vp_nar_int x) rfl (fun hj => wld_I hk hj h0) dd k
theorem V_putZ {o : String} {idx ci j kk : Nat} {x : Int32} {h' : AH} (F : FPk o idx ci j .boolean) (ho : K.1.cls = o) (hk : kd kk = (0, ci)) (h0 : fk ci j = 0) (hb : bz x = true) (hh : h' = sI h kk j x) (dd : decode K.2.1 pc = .ok (.putfield idx, 3)) (k : V E d K Z h' L st (pc + 3)) : V E d K Z h L (.int x :: .ref kk :: st) pc := by
  subst hh
  exact V_putv F ho hk (bz_n hb) (bz_f hb) (fun hj => wld_I hk hj h0) dd k
theorem V_putL {o : String} {idx ci j kk : Nat} {x : Int64} {h' : AH} (F : FPk o idx ci j .long) (ho : K.1.cls = o) (hk : kd kk = (0, ci)) (h0 : fk ci j = 1) (hu : ∀ b, b < nf ci → fk ci b = 1 → b = j) (hh : h' = sL h kk x) (dd : decode K.2.1 pc = .ok (.putfield idx, 3)) (k : V E d K Z h' L st (pc + 3)) : V E d K Z h L (.long x :: .ref kk :: st) pc := by
  subst hh
  exact V_putv F ho hk rfl rfl (fun hj => wld_L hk hj h0 hu) dd k
theorem V_putM {o : String} {idx ci j kk r : Nat} {ty : FieldType} {h' : AH} (F : FPk o idx ci j (.array ty)) (ho : K.1.cls = o) (hk : kd kk = (0, ci)) (h0 : fk ci j = 3) (hu : ∀ b, b < nf ci → fk ci b = 3 → b = j) (hle : ∀ b, b < nf ci → fk ci b ≤ 3) (hh : h' = sR h kk r) (dd : decode K.2.1 pc = .ok (.putfield idx, 3)) (k : V E d K Z h' L st (pc + 3)) : V E d K Z h L (.ref r :: .ref kk :: st) pc := by
  subst hh
  exact V_putv F ho hk rfl rfl (fun hj => wld_R hk hj h0 hu hle) dd k
theorem V_iald {i : Int32} {kk : Nat} (hk : (kd kk).1 = 1) (hi : ix i (an kk) = true) (dd : decode K.2.1 pc = .ok (.iaload, 1)) (k : V E d K Z h L (.int (h.1 kk i.toNatClampNeg) :: st) (pc + 1)) : V E d K Z h L (.int i :: .ref kk :: st) pc := by
  intro p e s m args below meth c H locs ls C hP hS hl
  have he : (wld E h)[kk]? = some (E.2.2.2 kk, .inl (E.2.2.1 1, an kk, .inl (h.1 kk))) := by rw [wld_at (kd_lt (by rw [hk]; decide)), cel_A hk (by decide) (by decide) (by decide)]
  exact va_iald C.1 C.2.1 C.2.2.2.2.2.2.2.2.1 hP kk 0 he rfl (ix_in hi) dd (k _ _ _ _ _ _ _ _ _ _ _ C hP hS hl)
theorem V_cald {i : Int32} {kk : Nat} (hk : (kd kk).1 = 2) (hi : ix i (an kk) = true) (dd : decode K.2.1 pc = .ok (.caload, 1)) (k : V E d K Z h L (.int (h.1 kk i.toNatClampNeg) :: st) (pc + 1)) : V E d K Z h L (.int i :: .ref kk :: st) pc := by
  intro p e s m args below meth c H locs ls C hP hS hl
  have he : (wld E h)[kk]? = some (E.2.2.2 kk, .inl (E.2.2.1 2, an kk, .inl (h.1 kk))) := by rw [wld_at (kd_lt (by rw [hk]; decide)), cel_A hk (by decide) (by decide) (by decide)]
  exact va_cald C.1 C.2.1 C.2.2.2.2.2.2.2.2.1 hP kk 1 he rfl (ix_in hi) dd (k _ _ _ _ _ _ _ _ _ _ _ C hP hS hl)
theorem V_bald {i : Int32} {kk : Nat} (hk : (kd kk).1 = 3) (hi : ix i (an kk) = true) (dd : decode K.2.1 pc = .ok (.baload, 1)) (k : V E d K Z h L (.int (h.1 kk i.toNatClampNeg) :: st) (pc + 1)) : V E d K Z h L (.int i :: .ref kk :: st) pc := by
  intro p e s m args below meth c H locs ls C hP hS hl
  have he : (wld E h)[kk]? = some (E.2.2.2 kk, .inl (E.2.2.1 3, an kk, .inl (h.1 kk))) := by rw [wld_at (kd_lt (by rw [hk]; decide)), cel_A hk (by decide) (by decide) (by decide)]
  exact va_bald C.1 C.2.1 C.2.2.2.2.2.2.2.2.1 hP kk 2 he rfl (ix_in hi) dd (k _ _ _ _ _ _ _ _ _ _ _ C hP hS hl)
theorem V_iast {i x : Int32} {kk : Nat} {h' : AH} (hk : (kd kk).1 = 1) (hi : ix i (an kk) = true) (hh : h' = sI h kk i.toNatClampNeg x) (dd : decode K.2.1 pc = .ok (.iastore, 1)) (k : V E d K Z h' L st (pc + 1)) : V E d K Z h L (.int x :: .int i :: .ref kk :: st) pc := by
  intro p e s m args below meth c H locs ls C hP hS hl
  subst hh
  have he : (wld E h)[kk]? = some (E.2.2.2 kk, .inl (E.2.2.1 1, an kk, .inl (h.1 kk))) := by rw [wld_at (kd_lt (by rw [hk]; decide)), cel_A hk (by decide) (by decide) (by decide)]
  refine va_iast C.1 C.2.1 C.2.2.2.2.2.2.2.2.1 hP (wld_D C.2.2.2.2.2.2.2.1) hS kk 0 he rfl (ix_in hi) dd (fun H1 locs1 hP1 hD1 hS1 => ?_)
  rw [wld_A hk (by decide) (by decide) (by decide) (by decide), sA_upd] at hP1
  exact k _ _ _ _ _ _ _ _ _ _ _ C hP1 hS1 hl
theorem V_cast {i x : Int32} {kk : Nat} {h' : AH} (hk : (kd kk).1 = 2) (hi : ix i (an kk) = true) (hh : h' = sI h kk i.toNatClampNeg (vp_nar .char x)) (dd : decode K.2.1 pc = .ok (.castore, 1)) (k : V E d K Z h' L st (pc + 1)) : V E d K Z h L (.int x :: .int i :: .ref kk :: st) pc := by
  intro p e s m args below meth c H locs ls C hP hS hl
  subst hh
  have he : (wld E h)[kk]? = some (E.2.2.2 kk, .inl (E.2.2.1 2, an kk, .inl (h.1 kk))) := by rw [wld_at (kd_lt (by rw [hk]; decide)), cel_A hk (by decide) (by decide) (by decide)]
  refine va_cast C.1 C.2.1 C.2.2.2.2.2.2.2.2.1 hP (wld_D C.2.2.2.2.2.2.2.1) hS kk 1 he rfl (ix_in hi) dd (fun H1 locs1 hP1 hD1 hS1 => ?_)
  rw [wld_A hk (by decide) (by decide) (by decide) (by decide), sA_upd] at hP1
  exact k _ _ _ _ _ _ _ _ _ _ _ C hP1 hS1 hl
theorem V_bast {i x : Int32} {kk : Nat} {h' : AH} (hk : (kd kk).1 = 3) (hi : ix i (an kk) = true) (hh : h' = sI h kk i.toNatClampNeg (vp_nar .byte x)) (dd : decode K.2.1 pc = .ok (.bastore, 1)) (k : V E d K Z h' L st (pc + 1)) : V E d K Z h L (.int x :: .int i :: .ref kk :: st) pc := by
  intro p e s m args below meth c H locs ls C hP hS hl
  subst hh
  have he : (wld E h)[kk]? = some (E.2.2.2 kk, .inl (E.2.2.1 3, an kk, .inl (h.1 kk))) := by rw [wld_at (kd_lt (by rw [hk]; decide)), cel_A hk (by decide) (by decide) (by decide)]
  refine va_bast C.1 C.2.1 C.2.2.2.2.2.2.2.2.1 hP (wld_D C.2.2.2.2.2.2.2.1) hS kk 2 he rfl (ix_in hi) dd (fun H1 locs1 hP1 hD1 hS1 => ?_)
  rw [wld_A hk (by decide) (by decide) (by decide) (by decide), sA_upd] at hP1
  exact k _ _ _ _ _ _ _ _ _ _ _ C hP1 hS1 hl
theorem V_alen {kk t : Nat} (hk : (kd kk).1 = t) (ht : t = 1 ∨ t = 2 ∨ t = 3) (dd : decode K.2.1 pc = .ok (.arraylength, 1)) (k : V E d K Z h L (.int (Int32.ofNat (an kk)) :: st) (pc + 1)) : V E d K Z h L (.ref kk :: st) pc := by
  intro p e s m args below meth c H locs ls C hP hS hl
  have he : (wld E h)[kk]? = some (E.2.2.2 kk, .inl (E.2.2.1 t, an kk, .inl (h.1 kk))) := by rw [wld_at (kd_lt (by rw [hk]; omega)), cel_A hk (by omega) (by omega) (by omega)]
  rcases ht with rfl | rfl | rfl
  · exact va_alen C.1 C.2.1 C.2.2.2.2.2.2.2.2.1 hP kk 0 he rfl rfl dd (k _ _ _ _ _ _ _ _ _ _ _ C hP hS hl)
  · exact va_alen C.1 C.2.1 C.2.2.2.2.2.2.2.2.1 hP kk 1 he rfl rfl dd (k _ _ _ _ _ _ _ _ _ _ _ C hP hS hl)
  · exact va_alen C.1 C.2.1 C.2.2.2.2.2.2.2.2.1 hP kk 2 he rfl rfl dd (k _ _ _ _ _ _ _ _ _ _ _ C hP hS hl)
theorem V_aald {i : Int32} {kk : Nat} (hk : (kd kk).1 = 4) (hi : ix i (an kk) = true) (dd : decode K.2.1 pc = .ok (.aaload, 1)) (k : V E d K Z h L (.ref (rf kk i.toNatClampNeg) :: st) (pc + 1)) : V E d K Z h L (.int i :: .ref kk :: st) pc := by
  intro p e s m args below meth c H locs ls C hP hS hl
  have he : (wld E h)[kk]? = some (E.2.2.2 kk, .inl (E.2.2.1 4, an kk, .inr (.inr (.inr (.inr (fun i => some (E.2.2.2 (rf kk i)))))))) := by rw [wld_at (kd_lt (by rw [hk]; decide)), cel_R hk]
  exact va_aldq C.1 C.2.1 C.2.2.2.2.2.2.2.2.1 hP kk 3 he rfl (ix_in hi) dd (k _ _ _ _ _ _ _ _ _ _ _ C hP hS hl)
theorem V_iret {r r0 : Int32} {h0 : AH} (hr : K.2.2.2 = some .int) (hq : (r, h) = (r0, h0)) (dd : decode K.2.1 pc = .ok (.ireturn, 1)) : V E d K (ZI E r0 h0) h L [.int r] pc := by
  intro p e s m args below meth c H locs ls C hP hS hl
  cases hq
  exact W.iret (v := r) C.1 C.2.1 (C.2.2.1.trans hr) (fun t ht hW => ⟨⟨r, h, rfl, ⟨rfl, rfl⟩, by show va_P E.2.1 vwCl (wld E h) t.heap; rw [ht]; exact hP⟩, hS.F ht⟩) hS.2.2 dd C.2.2.2.2.2.2.1
theorem V_zret {r r0 : Int32} {h0 : AH} (hr : K.2.2.2 = some .boolean) (hb : bz r = true) (hq : (r, h) = (r0, h0)) (dd : decode K.2.1 pc = .ok (.ireturn, 1)) : V E d K (ZI E r0 h0) h L [.int r] pc := by
  intro p e s m args below meth c H locs ls C hP hS hl
  cases hq
  exact W.zret (v := r) C.1 C.2.1 (C.2.2.1.trans hr) (bz_n hb) (fun t ht hW => ⟨⟨r, h, rfl, ⟨rfl, rfl⟩, by show va_P E.2.1 vwCl (wld E h) t.heap; rw [ht]; exact hP⟩, hS.F ht⟩) hS.2.2 dd C.2.2.2.2.2.2.1
theorem V_vret {h0 : AH} (hr : K.2.2.2 = none) (hq : h = h0) (dd : decode K.2.1 pc = .ok (.return_, 1)) : V E d K (ZV E h0) h L [] pc := by
  intro p e s m args below meth c H locs ls C hP hS hl
  cases hq
  exact W.vret C.1 C.2.1 (C.2.2.1.trans hr) (fun t ht hW => ⟨⟨h, rfl, rfl, by show va_P E.2.1 vwCl (wld E h) t.heap; rw [ht]; exact hP⟩, hS.F ht⟩) hS.2.2 dd C.2.2.2.2.2.2.1
/-! calls -/
def MLk (o : String) (idx : Nat) (y : MethodName) : Prop := Cond.methodLink o idx y ∈ wAll ∨ ∃ host, Cond.methodLinkNest o idx y host ∈ nstL
def MOk (M : MK) (n : Nat) : Prop := Cond.code M.1 M.2.1 M.2.2.1 M.2.2.2 ∈ wAll ∧ Cond.initialized M.1.cls ∈ wAll ∧ (M.1.cls ≠ "java/lang/invoke/MethodHandle" ∧ M.1.cls ≠ "java/lang/invoke/VarHandle" ∧ (parseMethodDescriptor M.1.desc).map (fun d => d.parameters.length) = some n) ∧ M.2.2.1 ≤ 21
def MVk (M : MK) (n ci : Nat) : Prop := MOk M n ∧ Cond.instanceMethod M.1 ∈ wAll ∧ Cond.selects M.1.cls M.1 M.1 ∈ wAll ∧ ∃ T N, vwCl[ci]? = some (M.1.cls, T, N)
def MSk (M : MK) (n : Nat) : Prop := MOk M n ∧ Cond.static M.1 ∈ wAll
theorem goodAll {w c0 : Cond} (h : w ∈ wAll) : GoodIn (c0 :: wAll) (w :: wAll) := by
  intro x hx
  have hx2 : x ∈ wAll := by
    rcases List.mem_cons.mp hx with rfl | q
    · exact h
    · exact q
  exact ⟨List.mem_cons_of_mem _ hx2, good_of_word (List.mem_filter.mp hx2).2⟩
theorem goodAll' {w : Cond} (h : w ∈ wAll) : GoodIn wAll (w :: wAll) := by
  intro x hx
  have hx2 : x ∈ wAll := by
    rcases List.mem_cons.mp hx with rfl | q
    · exact h
    · exact q
  exact ⟨hx2, good_of_word (List.mem_filter.mp hx2).2⟩
theorem blind {E : EV} {vs : List Value} {h : AH} : FrameBlind (va_Pc (vs.map (trv E.2.2.2)) (fun U => va_P E.2.1 vwCl (wld E h) U.heap ∧ SK E U)) := fun a U g mk q => ⟨q.1, q.2.1, SK.same (u := U) rfl rfl q.2.2⟩
theorem run_V {M : MK} {Z' : Array Value → State → Outcome → State → Prop} {o : String} {idx n ci kk : Nat} {As rest : List Value} (hM : Con E d M Z' (.ref kk :: As) h) (hL : MLk o idx M.1) (hV : MVk M n ci) (ho : K.1.cls = o) (hk : kd kk = (0, ci)) (hn : As.length = n) (hr : (rest.map fun v => v.category).sum ≤ 8) (dd : decode K.2.1 pc = .ok (.invokevirtual idx, 3))
    {p : Program} {e : Env} {s : State} {m : MethodId} {args : Array Value} {below : List Frame} {meth : Method} {c : Code} {H : Heap} {locs : List Loc} {ls : Array Slot} (C : Ctx E K p s m args meth c) (hP : va_P E.2.1 vwCl (wld E h) H) (hS : va_S (AA E) s.heap H locs) (hl : lv_has ls K.2.2.1 (trL E L)) :
    va_Run p E.1 e (rm (d + 1)) s m args below meth c H locs 0 0 0 0 (F0 m pc ls ((As.reverse ++ .ref kk :: rest).map (trv E.2.2.2))) (rest.map (trv E.2.2.2)) (Z' ((.ref (E.2.2.2 kk) :: As.map (trv E.2.2.2)).toArray)) (AA E) := by
  subst ho
  obtain ⟨⟨hcd, hini, hd, h21⟩, hin, hse, T, N, hc⟩ := hV
  obtain ⟨c1, c2, c3, c4, c5, c6, c7, c8⟩ := C
  have he : (wld E h)[kk]? = some (E.2.2.2 kk, .inr (ci, (List.range (nf ci)).map (fv E h kk ci))) := by rw [wld_at (kd_lt (by rw [hk]; simp)), cel_O hk]
  have hst : (F0 m pc ls ((As.reverse ++ .ref kk :: rest).map (trv E.2.2.2))).stack = (As.map (trv E.2.2.2)).reverse ++ .ref (E.2.2.2 kk) :: rest.map (trv E.2.2.2) := by
    show (As.reverse ++ .ref kk :: rest).map (trv E.2.2.2) = _
    rw [List.map_append, List.map_reverse]
    rfl
  have hcat : 2 * (F0 m pc ls ((As.reverse ++ .ref kk :: rest).map (trv E.2.2.2))).monitorRoom + ((rest.map (trv E.2.2.2)).map fun v => v.category).sum ≤ 8 := by
    refine lv_room (rest := (As.reverse ++ .ref kk :: rest).map (trv E.2.2.2)) ?_
    rw [List.map_map]
    have : ((fun v : Value => v.category) ∘ trv E.2.2.2) = fun v : Value => v.category := funext fun v => trv_cat _ v
    rw [this]
    exact hr
  have hpre : PreV s H M.1.cls (E.2.2.2 kk) (va_Pc ((.ref kk :: As).map (trv E.2.2.2)) (fun U => va_P E.2.1 vwCl (wld E h) U.heap ∧ SK E U)) (As.map (trv E.2.2.2)) :=
    ⟨blind, va_recv c8.2.1 hP hc he, fun U hU hW => ⟨rfl, by rw [hU]; exact hP, SK.warm hS hU hW c8⟩⟩
  have hR : (rm d).frames + 1 ≤ (rm (d + 1)).frames ∧ 8 + (M.2.2.1 + 11) + (rm d).locals ≤ (rm (d + 1)).locals := ⟨Nat.le_refl _, by show 8 + (M.2.2.1 + 11) + 40 * d ≤ 40 * (d + 1); omega⟩
  have hfit : 0 + 0 ≤ (rm (d + 1)).cells ∧ 0 + 0 ≤ (rm (d + 1)).slots := ⟨Nat.le_refl _, Nat.le_refl _⟩
  rcases hL with h2 | ⟨host, h2⟩
  · exact va_runV (R := rm (d + 1)) (n := n) ⟨c1, c2, c4, c5, c6⟩ hM ⟨callB_of (ws' := wAll) n c6 (goodAll' hcd) rfl rfl rfl (c6 _ hini) (c6 _ h2) hd hR, c6 _ hin, c6 _ hse⟩ hpre rfl (by rw [List.length_map]; exact hn) hl.1 hst hcat dd hfit
  · exact va_runVN (R := rm (d + 1)) (n := n) ⟨c1, c2, c4, c5, c6⟩ hM ⟨va_cnB (ws' := wAll) n c6 (goodAll' hcd) rfl rfl rfl (c8.2.2.1 _ h2) (c6 _ hini) hd hR, c6 _ hin, c6 _ hse⟩ hpre rfl (by rw [List.length_map]; exact hn) hl.1 hst hcat dd hfit
theorem V_cvi {M : MK} {o : String} {idx n ci kk : Nat} {As rest st0 : List Value} {r : Int32} {h' : AH} (hM : Con E d M (ZI E r h') (.ref kk :: As) h) (hL : MLk o idx M.1) (hV : MVk M n ci) (ho : K.1.cls = o) (hk : kd kk = (0, ci)) (hn : As.length = n) (hst : As.reverse ++ .ref kk :: rest = st0) (hr : (rest.map fun v => v.category).sum ≤ 8) (dd : decode K.2.1 pc = .ok (.invokevirtual idx, 3)) (k : V E (d + 1) K Z h' L (.int r :: rest) (pc + 3)) : V E (d + 1) K Z h L st0 pc := by
  intro p e s m args below meth c H locs ls C hP hS hl
  subst hst
  refine va_calli (run_V hM hL hV ho hk hn hr dd C hP hS hl) hS (fun _ _ q => q) (fun _ q => q) (fun r2 u t H1 locs1 ht hvm hq hB hz hk1 hS1 => ?_)
  obtain ⟨rfl, rfl⟩ := hq
  subst ht
  exact k _ _ _ _ _ _ _ _ _ _ _ C hB hS1 hl
theorem V_cvv {M : MK} {o : String} {idx n ci kk : Nat} {As rest st0 : List Value} {h' : AH} (hM : Con E d M (ZV E h') (.ref kk :: As) h) (hL : MLk o idx M.1) (hV : MVk M n ci) (ho : K.1.cls = o) (hk : kd kk = (0, ci)) (hn : As.length = n) (hst : As.reverse ++ .ref kk :: rest = st0) (hr : (rest.map fun v => v.category).sum ≤ 8) (dd : decode K.2.1 pc = .ok (.invokevirtual idx, 3)) (k : V E (d + 1) K Z h' L rest (pc + 3)) : V E (d + 1) K Z h L st0 pc := by
  intro p e s m args below meth c H locs ls C hP hS hl
  subst hst
  refine va_callv (run_V hM hL hV ho hk hn hr dd C hP hS hl) hS (fun _ _ q => q) (fun _ q => q) (fun u t H1 locs1 ht hvm hq hB hz hk1 hS1 => ?_)
  subst hq
  subst ht
  exact k _ _ _ _ _ _ _ _ _ _ _ C hB hS1 hl
theorem run_S {M : MK} {Z' : Array Value → State → Outcome → State → Prop} {o : String} {idx n : Nat} {As rest : List Value} (hM : Con E d M Z' As h) (hL : MLk o idx M.1) (hV : MSk M n) (ho : K.1.cls = o) (hn : As.length = n) (hr : (rest.map fun v => v.category).sum ≤ 8) (dd : decode K.2.1 pc = .ok (.invokestatic idx, 3))
    {p : Program} {e : Env} {s : State} {m : MethodId} {args : Array Value} {below : List Frame} {meth : Method} {c : Code} {H : Heap} {locs : List Loc} {ls : Array Slot} (C : Ctx E K p s m args meth c) (hP : va_P E.2.1 vwCl (wld E h) H) (hS : va_S (AA E) s.heap H locs) (hl : lv_has ls K.2.2.1 (trL E L)) :
    va_Run p E.1 e (rm (d + 1)) s m args below meth c H locs 0 0 0 0 (F0 m pc ls ((As.reverse ++ rest).map (trv E.2.2.2))) (rest.map (trv E.2.2.2)) (Z' ((As.map (trv E.2.2.2)).toArray)) (AA E) := by
  subst ho
  obtain ⟨⟨hcd, hini, hd, h21⟩, hsta⟩ := hV
  obtain ⟨c1, c2, c3, c4, c5, c6, c7, c8⟩ := C
  have hst : (F0 m pc ls ((As.reverse ++ rest).map (trv E.2.2.2))).stack = (As.map (trv E.2.2.2)).reverse ++ rest.map (trv E.2.2.2) := by
    show (As.reverse ++ rest).map (trv E.2.2.2) = _
    rw [List.map_append, List.map_reverse]
  have hcat : 2 * (F0 m pc ls ((As.reverse ++ rest).map (trv E.2.2.2))).monitorRoom + ((rest.map (trv E.2.2.2)).map fun v => v.category).sum ≤ 8 := by
    refine lv_room (rest := (As.reverse ++ rest).map (trv E.2.2.2)) ?_
    rw [List.map_map]
    have : ((fun v : Value => v.category) ∘ trv E.2.2.2) = fun v : Value => v.category := funext fun v => trv_cat _ v
    rw [this]
    exact hr
  have hpre : PreS s H (va_Pc (As.map (trv E.2.2.2)) (fun U => va_P E.2.1 vwCl (wld E h) U.heap ∧ SK E U)) (As.map (trv E.2.2.2)) :=
    ⟨blind, fun U hU hW => ⟨rfl, by rw [hU]; exact hP, SK.warm hS hU hW c8⟩⟩
  have hR : (rm d).frames + 1 ≤ (rm (d + 1)).frames ∧ 8 + (M.2.2.1 + 11) + (rm d).locals ≤ (rm (d + 1)).locals := ⟨Nat.le_refl _, by show 8 + (M.2.2.1 + 11) + 40 * d ≤ 40 * (d + 1); omega⟩
  have hfit : 0 + 0 ≤ (rm (d + 1)).cells ∧ 0 + 0 ≤ (rm (d + 1)).slots := ⟨Nat.le_refl _, Nat.le_refl _⟩
  rcases hL with h2 | ⟨host, h2⟩
  · exact va_runS (R := rm (d + 1)) (n := n) ⟨c1, c2, c4, c5, c6⟩ hM ⟨callB_of (ws' := wAll) n c6 (goodAll' hcd) rfl rfl rfl (c6 _ hini) (c6 _ h2) hd hR, c6 _ hsta⟩ hpre rfl (by rw [List.length_map]; exact hn) hl.1 hst hcat dd hfit
  · exact va_runSN (R := rm (d + 1)) (n := n) ⟨c1, c2, c4, c5, c6⟩ hM ⟨va_cnB (ws' := wAll) n c6 (goodAll' hcd) rfl rfl rfl (c8.2.2.1 _ h2) (c6 _ hini) hd hR, c6 _ hsta, trivial⟩ hpre rfl (by rw [List.length_map]; exact hn) hl.1 hst hcat dd hfit
theorem V_csi {M : MK} {o : String} {idx n : Nat} {As rest st0 : List Value} {r : Int32} {h' : AH} (hM : Con E d M (ZI E r h') As h) (hL : MLk o idx M.1) (hV : MSk M n) (ho : K.1.cls = o) (hn : As.length = n) (hst : As.reverse ++ rest = st0) (hr : (rest.map fun v => v.category).sum ≤ 8) (dd : decode K.2.1 pc = .ok (.invokestatic idx, 3)) (k : V E (d + 1) K Z h' L (.int r :: rest) (pc + 3)) : V E (d + 1) K Z h L st0 pc := by
  intro p e s m args below meth c H locs ls C hP hS hl
  subst hst
  refine va_calli (run_S hM hL hV ho hn hr dd C hP hS hl) hS (fun _ _ q => q) (fun _ q => q) (fun r2 u t H1 locs1 ht hvm hq hB hz hk1 hS1 => ?_)
  obtain ⟨rfl, rfl⟩ := hq
  subst ht
  exact k _ _ _ _ _ _ _ _ _ _ _ C hB hS1 hl
theorem V_csv {M : MK} {o : String} {idx n : Nat} {As rest st0 : List Value} {h' : AH} (hM : Con E d M (ZV E h') As h) (hL : MLk o idx M.1) (hV : MSk M n) (ho : K.1.cls = o) (hn : As.length = n) (hst : As.reverse ++ rest = st0) (hr : (rest.map fun v => v.category).sum ≤ 8) (dd : decode K.2.1 pc = .ok (.invokestatic idx, 3)) (k : V E (d + 1) K Z h' L rest (pc + 3)) : V E (d + 1) K Z h L st0 pc := by
  intro p e s m args below meth c H locs ls C hP hS hl
  subst hst
  refine va_callv (run_S hM hL hV ho hn hr dd C hP hS hl) hS (fun _ _ q => q) (fun _ q => q) (fun u t H1 locs1 ht hvm hq hB hz hk1 hS1 => ?_)
  subst hq
  subst ht
  exact k _ _ _ _ _ _ _ _ _ _ _ C hB hS1 hl
end VR
