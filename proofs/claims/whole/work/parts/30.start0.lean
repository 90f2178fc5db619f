/-! the start: what the Statement gives there -/
theorem tbl_in {w : Cond} (h : w ∈ tables_1) : w ∈ lw_tbl := List.mem_append_right _ h
theorem wAll_in {w : Cond} (h : w ∈ wAll) : w ∈ lw_tbl := (List.mem_filter.mp h).1
theorem nstL_in {w : Cond} (h : w ∈ nstL) : w ∈ lw_tbl := (List.mem_filter.mp h).1
theorem nse_tbl : ∀ w ∈ nseL, w ∈ lw_tbl := by decide +kernel
theorem ls_ITEM_LEAST : (Jvm.Cond.laysStatic "BestPair" "ITEM_LEAST" "[I") ∈ lw_tbl := tbl_in (tb_2 (List.mem_of_getElem? (i := 224) rfl))
theorem ls_ITEM_MOST : (Jvm.Cond.laysStatic "BestPair" "ITEM_MOST" "[I") ∈ lw_tbl := tbl_in (tb_2 (List.mem_of_getElem? (i := 226) rfl))
theorem ls_ITEM_WITHOUT : (Jvm.Cond.laysStatic "BestPair" "ITEM_WITHOUT" "[I") ∈ lw_tbl := tbl_in (tb_2 (List.mem_of_getElem? (i := 161) rfl))
theorem ls_ORDERS_OF : (Jvm.Cond.laysStatic "BestPair" "ORDERS_OF" "[I") ∈ lw_tbl := tbl_in (tb_3 (List.mem_of_getElem? (i := 235) rfl))
theorem ls_TENS : (Jvm.Cond.laysStatic "BestPair" "TENS" "[I") ∈ lw_tbl := tbl_in (tb_4 (List.mem_of_getElem? (i := 187) rfl))
theorem ls_TOLD_ITEMS : (Jvm.Cond.laysStatic "BestPair" "TOLD_ITEMS" "[I") ∈ lw_tbl := tbl_in (tb_5 (List.mem_of_getElem? (i := 106) rfl))
theorem ls_FIVES : (Jvm.Cond.laysStatic "BestPair$Future" "FIVES" "[I") ∈ lw_tbl := tbl_in (tb_4 (List.mem_of_getElem? (i := 160) rfl))
theorem ls_COMPACT : (Jvm.Cond.laysStatic "java/lang/String" "COMPACT_STRINGS" "Z") ∈ lw_tbl := tbl_in (tb_1 (List.mem_of_getElem? (i := 178) rfl))
theorem ls_SIO : (Jvm.Cond.laysStatic "jdk/internal/util/Preconditions" "SIOOBE_FORMATTER" "Ljava/util/function/BiFunction;") ∈ lw_tbl := tbl_in (tb_2 (List.mem_of_getElem? (i := 186) rfl))
theorem ls_UNA : (Jvm.Cond.laysStatic "java/lang/Throwable" "UNASSIGNED_STACK" "[Ljava/lang/StackTraceElement;") ∈ lw_tbl := tbl_in (tb_5 (List.mem_of_getElem? (i := 134) rfl))
theorem ls_SUP : (Jvm.Cond.laysStatic "java/lang/Throwable" "SUPPRESSED_SENTINEL" "Ljava/util/List;") ∈ lw_tbl := tbl_in (tb_5 (List.mem_of_getElem? (i := 136) rfl))
theorem ao_rule : (Jvm.Cond.arrayOver (Jvm.ClassFile.FieldType.object "BestPair$Rule")) ∈ lw_tbl := tbl_in (tb_1 (List.mem_of_getElem? (i := 95) rfl))
theorem sr_X2_24 : (Jvm.Cond.stringRef "BestPair$Door" (24 : Nat) "wfsonp") ∈ lw_tbl := tbl_in (tb_1 (List.mem_of_getElem? (i := 168) rfl))
theorem sr_X6_58 : (Jvm.Cond.stringRef "BestPair$People" (58 : Nat) "sgwfomj") ∈ lw_tbl := tbl_in (tb_2 (List.mem_of_getElem? (i := 165) rfl))
theorem sr_X8_84 : (Jvm.Cond.stringRef "BestPair$RuleReader" (84 : Nat) "wfsonp") ∈ lw_tbl := tbl_in (tb_3 (List.mem_of_getElem? (i := 27) rfl))
theorem sr_X12_26 : (Jvm.Cond.stringRef "BestPairModel" (26 : Nat) "y") ∈ lw_tbl := tbl_in (tb_5 (List.mem_of_getElem? (i := 174) rfl))
theorem sr_X12_32 : (Jvm.Cond.stringRef "BestPairModel" (32 : Nat) "wfsonp") ∈ lw_tbl := tbl_in (tb_5 (List.mem_of_getElem? (i := 175) rfl))
theorem sr_X12_37 : (Jvm.Cond.stringRef "BestPairModel" (37 : Nat) "sgwfomj") ∈ lw_tbl := tbl_in (tb_5 (List.mem_of_getElem? (i := 176) rfl))
theorem ini_jdk_internal_util_Preconditions : (Jvm.Cond.initialized "jdk/internal/util/Preconditions") ∈ lw_tbl := tbl_in (tb_1 (List.mem_of_getElem? (i := 17) rfl))
theorem ini_java_lang_Throwable : (Jvm.Cond.initialized "java/lang/Throwable") ∈ lw_tbl := tbl_in (tb_1 (List.mem_of_getElem? (i := 21) rfl))
abbrev nar (args : Array Value) (s : State) : Prop := (Jvm.Cond.and given_1 narrow_1).before args s = true
def adT0 (adK adV adT : Nat → Nat) (adF : Nat) : Nat → Nat := fun k => if k < 1100 then adK (k - 1000) else if k < 2000 then adV (k - 1100) else if k < 3000 then adT (k - 2000) else adF
theorem sta_0 {args : Array Value} {s : State} {A : Nat → Prop} (hgv : nar args s) (hts : ∀ w ∈ lw_tbl, w.before args s = true) (hA : ∀ a : Nat, a < s.heap.size → ¬ A a) : ∃ t : Nat, va_Z "BestPair" "ITEM_LEAST" "[I" (.ref t) A s s.heap ∧ va_T .int t (sN 0) (fun j => .int (sT 0 j)) A s s.heap := by
  have hs := flat_of_before _ hgv
  have hel : ∀ j : Nat, j < 7 → (Term.elem (.static "BestPair" "ITEM_LEAST" "[I") (.int (Int32.ofNat j))).eval args s none [] s = some (.int (sT 0 j)) := by
    intro j hj
    match j, hj with
    | 0, _ => exact va_eqt (z := sT 0 0) (hs _ (by decide +kernel))
    | 1, _ => exact va_eqt (z := sT 0 1) (hs _ (by decide +kernel))
    | 2, _ => exact va_eqt (z := sT 0 2) (hs _ (by decide +kernel))
    | 3, _ => exact va_eqt (z := sT 0 3) (hs _ (by decide +kernel))
    | 4, _ => exact va_eqt (z := sT 0 4) (hs _ (by decide +kernel))
    | 5, _ => exact va_eqt (z := sT 0 5) (hs _ (by decide +kernel))
    | 6, _ => exact va_eqt (z := sT 0 6) (hs _ (by decide +kernel))
  obtain ⟨t, ht, hT⟩ := va_Tof (tm := .static "BestPair" "ITEM_LEAST" "[I") (ty := .int) (N := 7) (f := fun j => .int (sT 0 j)) (A := A) (by decide) (hs _ (by decide +kernel)) (va_eqt (z := 7) (hs _ (by decide +kernel))) hel hA
  exact ⟨t, va_Zref (hts _ ls_ITEM_LEAST) (hts _ (wAll_in in_X11)) ht hA, hT⟩
theorem sta_1 {args : Array Value} {s : State} {A : Nat → Prop} (hgv : nar args s) (hts : ∀ w ∈ lw_tbl, w.before args s = true) (hA : ∀ a : Nat, a < s.heap.size → ¬ A a) : ∃ t : Nat, va_Z "BestPair" "ITEM_MOST" "[I" (.ref t) A s s.heap ∧ va_T .int t (sN 1) (fun j => .int (sT 1 j)) A s s.heap := by
  have hs := flat_of_before _ hgv
  have hel : ∀ j : Nat, j < 7 → (Term.elem (.static "BestPair" "ITEM_MOST" "[I") (.int (Int32.ofNat j))).eval args s none [] s = some (.int (sT 1 j)) := by
    intro j hj
    match j, hj with
    | 0, _ => exact va_eqt (z := sT 1 0) (hs _ (by decide +kernel))
    | 1, _ => exact va_eqt (z := sT 1 1) (hs _ (by decide +kernel))
    | 2, _ => exact va_eqt (z := sT 1 2) (hs _ (by decide +kernel))
    | 3, _ => exact va_eqt (z := sT 1 3) (hs _ (by decide +kernel))
    | 4, _ => exact va_eqt (z := sT 1 4) (hs _ (by decide +kernel))
    | 5, _ => exact va_eqt (z := sT 1 5) (hs _ (by decide +kernel))
    | 6, _ => exact va_eqt (z := sT 1 6) (hs _ (by decide +kernel))
  obtain ⟨t, ht, hT⟩ := va_Tof (tm := .static "BestPair" "ITEM_MOST" "[I") (ty := .int) (N := 7) (f := fun j => .int (sT 1 j)) (A := A) (by decide) (hs _ (by decide +kernel)) (va_eqt (z := 7) (hs _ (by decide +kernel))) hel hA
  exact ⟨t, va_Zref (hts _ ls_ITEM_MOST) (hts _ (wAll_in in_X11)) ht hA, hT⟩
theorem sta_2 {args : Array Value} {s : State} {A : Nat → Prop} (hgv : nar args s) (hts : ∀ w ∈ lw_tbl, w.before args s = true) (hA : ∀ a : Nat, a < s.heap.size → ¬ A a) : ∃ t : Nat, va_Z "BestPair" "ITEM_WITHOUT" "[I" (.ref t) A s s.heap ∧ va_T .int t (sN 2) (fun j => .int (sT 2 j)) A s s.heap := by
  have hs := flat_of_before _ hgv
  have hel : ∀ j : Nat, j < 7 → (Term.elem (.static "BestPair" "ITEM_WITHOUT" "[I") (.int (Int32.ofNat j))).eval args s none [] s = some (.int (sT 2 j)) := by
    intro j hj
    match j, hj with
    | 0, _ => exact va_eqt (z := sT 2 0) (hs _ (by decide +kernel))
    | 1, _ => exact va_eqt (z := sT 2 1) (hs _ (by decide +kernel))
    | 2, _ => exact va_eqt (z := sT 2 2) (hs _ (by decide +kernel))
    | 3, _ => exact va_eqt (z := sT 2 3) (hs _ (by decide +kernel))
    | 4, _ => exact va_eqt (z := sT 2 4) (hs _ (by decide +kernel))
    | 5, _ => exact va_eqt (z := sT 2 5) (hs _ (by decide +kernel))
    | 6, _ => exact va_eqt (z := sT 2 6) (hs _ (by decide +kernel))
  obtain ⟨t, ht, hT⟩ := va_Tof (tm := .static "BestPair" "ITEM_WITHOUT" "[I") (ty := .int) (N := 7) (f := fun j => .int (sT 2 j)) (A := A) (by decide) (hs _ (by decide +kernel)) (va_eqt (z := 7) (hs _ (by decide +kernel))) hel hA
  exact ⟨t, va_Zref (hts _ ls_ITEM_WITHOUT) (hts _ (wAll_in in_X11)) ht hA, hT⟩
theorem sta_3 {args : Array Value} {s : State} {A : Nat → Prop} (hgv : nar args s) (hts : ∀ w ∈ lw_tbl, w.before args s = true) (hA : ∀ a : Nat, a < s.heap.size → ¬ A a) : ∃ t : Nat, va_Z "BestPair" "ORDERS_OF" "[I" (.ref t) A s s.heap ∧ va_T .int t (sN 3) (fun j => .int (sT 3 j)) A s s.heap := by
  have hs := flat_of_before _ hgv
  have hel : ∀ j : Nat, j < 7 → (Term.elem (.static "BestPair" "ORDERS_OF" "[I") (.int (Int32.ofNat j))).eval args s none [] s = some (.int (sT 3 j)) := by
    intro j hj
    match j, hj with
    | 0, _ => exact va_eqt (z := sT 3 0) (hs _ (by decide +kernel))
    | 1, _ => exact va_eqt (z := sT 3 1) (hs _ (by decide +kernel))
    | 2, _ => exact va_eqt (z := sT 3 2) (hs _ (by decide +kernel))
    | 3, _ => exact va_eqt (z := sT 3 3) (hs _ (by decide +kernel))
    | 4, _ => exact va_eqt (z := sT 3 4) (hs _ (by decide +kernel))
    | 5, _ => exact va_eqt (z := sT 3 5) (hs _ (by decide +kernel))
    | 6, _ => exact va_eqt (z := sT 3 6) (hs _ (by decide +kernel))
  obtain ⟨t, ht, hT⟩ := va_Tof (tm := .static "BestPair" "ORDERS_OF" "[I") (ty := .int) (N := 7) (f := fun j => .int (sT 3 j)) (A := A) (by decide) (hs _ (by decide +kernel)) (va_eqt (z := 7) (hs _ (by decide +kernel))) hel hA
  exact ⟨t, va_Zref (hts _ ls_ORDERS_OF) (hts _ (wAll_in in_X11)) ht hA, hT⟩
theorem sta_4 {args : Array Value} {s : State} {A : Nat → Prop} (hgv : nar args s) (hts : ∀ w ∈ lw_tbl, w.before args s = true) (hA : ∀ a : Nat, a < s.heap.size → ¬ A a) : ∃ t : Nat, va_Z "BestPair" "TENS" "[I" (.ref t) A s s.heap ∧ va_T .int t (sN 4) (fun j => .int (sT 4 j)) A s s.heap := by
  have hs := flat_of_before _ hgv
  have hel : ∀ j : Nat, j < 5 → (Term.elem (.static "BestPair" "TENS" "[I") (.int (Int32.ofNat j))).eval args s none [] s = some (.int (sT 4 j)) := by
    intro j hj
    match j, hj with
    | 0, _ => exact va_eqt (z := sT 4 0) (hs _ (by decide +kernel))
    | 1, _ => exact va_eqt (z := sT 4 1) (hs _ (by decide +kernel))
    | 2, _ => exact va_eqt (z := sT 4 2) (hs _ (by decide +kernel))
    | 3, _ => exact va_eqt (z := sT 4 3) (hs _ (by decide +kernel))
    | 4, _ => exact va_eqt (z := sT 4 4) (hs _ (by decide +kernel))
  obtain ⟨t, ht, hT⟩ := va_Tof (tm := .static "BestPair" "TENS" "[I") (ty := .int) (N := 5) (f := fun j => .int (sT 4 j)) (A := A) (by decide) (hs _ (by decide +kernel)) (va_eqt (z := 5) (hs _ (by decide +kernel))) hel hA
  exact ⟨t, va_Zref (hts _ ls_TENS) (hts _ (wAll_in in_X11)) ht hA, hT⟩
theorem sta_5 {args : Array Value} {s : State} {A : Nat → Prop} (hgv : nar args s) (hts : ∀ w ∈ lw_tbl, w.before args s = true) (hA : ∀ a : Nat, a < s.heap.size → ¬ A a) : ∃ t : Nat, va_Z "BestPair" "TOLD_ITEMS" "[I" (.ref t) A s s.heap ∧ va_T .int t (sN 5) (fun j => .int (sT 5 j)) A s s.heap := by
  have hs := flat_of_before _ hgv
  have hel : ∀ j : Nat, j < 5 → (Term.elem (.static "BestPair" "TOLD_ITEMS" "[I") (.int (Int32.ofNat j))).eval args s none [] s = some (.int (sT 5 j)) := by
    intro j hj
    match j, hj with
    | 0, _ => exact va_eqt (z := sT 5 0) (hs _ (by decide +kernel))
    | 1, _ => exact va_eqt (z := sT 5 1) (hs _ (by decide +kernel))
    | 2, _ => exact va_eqt (z := sT 5 2) (hs _ (by decide +kernel))
    | 3, _ => exact va_eqt (z := sT 5 3) (hs _ (by decide +kernel))
    | 4, _ => exact va_eqt (z := sT 5 4) (hs _ (by decide +kernel))
  obtain ⟨t, ht, hT⟩ := va_Tof (tm := .static "BestPair" "TOLD_ITEMS" "[I") (ty := .int) (N := 5) (f := fun j => .int (sT 5 j)) (A := A) (by decide) (hs _ (by decide +kernel)) (va_eqt (z := 5) (hs _ (by decide +kernel))) hel hA
  exact ⟨t, va_Zref (hts _ ls_TOLD_ITEMS) (hts _ (wAll_in in_X11)) ht hA, hT⟩
theorem sta_6 {args : Array Value} {s : State} {A : Nat → Prop} (hgv : nar args s) (hts : ∀ w ∈ lw_tbl, w.before args s = true) (hA : ∀ a : Nat, a < s.heap.size → ¬ A a) : ∃ t : Nat, va_Z "BestPair$Future" "FIVES" "[I" (.ref t) A s s.heap ∧ va_T .int t (sN 6) (fun j => .int (sT 6 j)) A s s.heap := by
  have hs := flat_of_before _ hgv
  have hel : ∀ j : Nat, j < 4 → (Term.elem (.static "BestPair$Future" "FIVES" "[I") (.int (Int32.ofNat j))).eval args s none [] s = some (.int (sT 6 j)) := by
    intro j hj
    match j, hj with
    | 0, _ => exact va_eqt (z := sT 6 0) (hs _ (by decide +kernel))
    | 1, _ => exact va_eqt (z := sT 6 1) (hs _ (by decide +kernel))
    | 2, _ => exact va_eqt (z := sT 6 2) (hs _ (by decide +kernel))
    | 3, _ => exact va_eqt (z := sT 6 3) (hs _ (by decide +kernel))
  obtain ⟨t, ht, hT⟩ := va_Tof (tm := .static "BestPair$Future" "FIVES" "[I") (ty := .int) (N := 4) (f := fun j => .int (sT 6 j)) (A := A) (by decide) (hs _ (by decide +kernel)) (va_eqt (z := 4) (hs _ (by decide +kernel))) hel hA
  exact ⟨t, va_Zref (hts _ ls_FIVES) (hts _ (wAll_in in_X4)) ht hA, hT⟩
def tmS (i : Nat) : Term := match i with
  | 0 => .string "BestPair$People" 58
  | 1 => .string "BestPair$Door" 24
  | _ => .string "BestPairModel" 26
set_option maxHeartbeats 4000000 in
theorem str_0 {args : Array Value} {s : State} {A : Nat → Prop} (hgv : nar args s) (hA : ∀ a : Nat, a < s.heap.size → ¬ A a) : ∃ adK adV : Nat → Nat, vk_S 3 strL strB adK adV A s s.heap ∧ ∀ i : Nat, i < 3 → (tmS i).eval args s none [] s = some (.ref (adK i)) := by
  have hs := flat_of_before _ hgv
  refine vk_Sof (tm := tmS) (fun i hi => ?_) (fun i hi => ?_) (fun i hi => ?_) (fun i hi => ?_) (fun i hi => ?_) (fun i hi j hj => ?_) (fun i j hi hj hij => ?_) hA
  · match i, hi with
    | 0, _ => exact (by decide)
    | 1, _ => exact (by decide)
    | 2, _ => exact (by decide)
  · match i, hi with
    | 0, _ => exact hs _ (by decide +kernel)
    | 1, _ => exact hs _ (by decide +kernel)
    | 2, _ => exact hs _ (by decide +kernel)
  · match i, hi with
    | 0, _ => exact hs _ (by decide +kernel)
    | 1, _ => exact hs _ (by decide +kernel)
    | 2, _ => exact hs _ (by decide +kernel)
  · match i, hi with
    | 0, _ => exact hs _ (by decide +kernel)
    | 1, _ => exact hs _ (by decide +kernel)
    | 2, _ => exact hs _ (by decide +kernel)
  · match i, hi with
    | 0, _ => exact hs _ (by decide +kernel)
    | 1, _ => exact hs _ (by decide +kernel)
    | 2, _ => exact hs _ (by decide +kernel)
  · match i, hi, j, hj with
    | 0, _, 0, _ => exact hs _ (by decide +kernel)
    | 0, _, 1, _ => exact hs _ (by decide +kernel)
    | 0, _, 2, _ => exact hs _ (by decide +kernel)
    | 0, _, 3, _ => exact hs _ (by decide +kernel)
    | 0, _, 4, _ => exact hs _ (by decide +kernel)
    | 0, _, 5, _ => exact hs _ (by decide +kernel)
    | 0, _, 6, _ => exact hs _ (by decide +kernel)
    | 1, _, 0, _ => exact hs _ (by decide +kernel)
    | 1, _, 1, _ => exact hs _ (by decide +kernel)
    | 1, _, 2, _ => exact hs _ (by decide +kernel)
    | 1, _, 3, _ => exact hs _ (by decide +kernel)
    | 1, _, 4, _ => exact hs _ (by decide +kernel)
    | 1, _, 5, _ => exact hs _ (by decide +kernel)
    | 2, _, 0, _ => exact hs _ (by decide +kernel)
  · match i, hi, j, hj with
    | 0, _, 0, _ => exact absurd rfl hij
    | 1, _, 1, _ => exact absurd rfl hij
    | 2, _, 2, _ => exact absurd rfl hij
    | 0, _, 1, _ => exact Or.inr (hs _ (by decide +kernel))
    | 1, _, 0, _ => exact Or.inl (hs _ (by decide +kernel))
    | 0, _, 2, _ => exact Or.inl (hs _ (by decide +kernel))
    | 2, _, 0, _ => exact Or.inr (hs _ (by decide +kernel))
    | 1, _, 2, _ => exact Or.inl (hs _ (by decide +kernel))
    | 2, _, 1, _ => exact Or.inr (hs _ (by decide +kernel))
set_option maxHeartbeats 4000000 in
theorem str_R {args : Array Value} {s : State} {adK : Nat → Nat} (hgv : nar args s) (hts : ∀ w ∈ lw_tbl, w.before args s = true) (hev : ∀ i : Nat, i < 3 → (tmS i).eval args s none [] s = some (.ref (adK i))) {ad : Nat → Nat} (e0 : ad 1000 = adK 0) (e1 : ad 1001 = adK 1) (e2 : ad 1002 = adK 2) : ∀ q ∈ strR, vk_R q.1 q.2.1 q.2.2.1 (ad q.2.2.2) s := by
  have hs := flat_of_before _ hgv
  have k0 := hev 0 (by decide)
  have k1 := hev 1 (by decide)
  have k2 := hev 2 (by decide)
  have k3 : (Term.string "BestPair$RuleReader" 84).eval args s none [] s = some (.ref (adK 1)) := va_eqR (t := .string "BestPair$Door" 24) (hs _ (by decide +kernel)) k1
  have k4 : (Term.string "BestPairModel" 32).eval args s none [] s = some (.ref (adK 1)) := va_eqR (t := .string "BestPair$Door" 24) (hs _ (by decide +kernel)) k1
  have k5 : (Term.string "BestPairModel" 37).eval args s none [] s = some (.ref (adK 0)) := va_eqR (t := .string "BestPair$People" 58) (hs _ (by decide +kernel)) k0
  intro q hq
  simp only [strR, List.mem_cons, List.not_mem_nil, or_false] at hq
  rcases hq with rfl | rfl | rfl | rfl | rfl | rfl
  · exact vk_R.of (hts _ sr_X2_24) (by rw [e1]; exact k1)
  · exact vk_R.of (hts _ sr_X6_58) (by rw [e0]; exact k0)
  · exact vk_R.of (hts _ sr_X8_84) (by rw [e1]; exact k3)
  · exact vk_R.of (hts _ sr_X12_26) (by rw [e2]; exact k2)
  · exact vk_R.of (hts _ sr_X12_32) (by rw [e1]; exact k4)
  · exact vk_R.of (hts _ sr_X12_37) (by rw [e0]; exact k5)
theorem cls_K {args : Array Value} {s : State} (hts : ∀ w ∈ lw_tbl, w.before args s = true) : ∃ (dC : Nat → ClassId) (dI : Nat → Nat → Nat), ∀ (k : Nat) (q : vw_C), vwCl[k]? = some q → u_Kn s q.1 q.2.1 q.2.2 (dC k) (dI k) := by
  have key : ∀ k : Nat, ∃ z : ClassId × (Nat → Nat), ∀ q : vw_C, vwCl[k]? = some q → u_Kn s q.1 q.2.1 q.2.2 z.1 z.2 := by
    intro k
    match k with
    | 0 =>
      obtain ⟨c, i, h⟩ := u_known (C := RX0) (T := TX0) (N := 7) (n := 7) hts (fun w hw => wAll_in (iw_X0 w hw)) (hts _ (wAll_in is_X0))
      exact ⟨(c, i), fun q hq => by cases hq; exact h⟩
    | 1 =>
      obtain ⟨c, i, h⟩ := u_known (C := RX1) (T := TX1) (N := 6) (n := 6) hts (fun w hw => wAll_in (iw_X1 w hw)) (hts _ (wAll_in is_X1))
      exact ⟨(c, i), fun q hq => by cases hq; exact h⟩
    | 2 =>
      obtain ⟨c, i, h⟩ := u_known (C := RX2) (T := TX2) (N := 7) (n := 7) hts (fun w hw => wAll_in (iw_X2 w hw)) (hts _ (wAll_in is_X2))
      exact ⟨(c, i), fun q hq => by cases hq; exact h⟩
    | 3 =>
      obtain ⟨c, i, h⟩ := u_known (C := RX3) (T := TX3) (N := 2) (n := 2) hts (fun w hw => wAll_in (iw_X3 w hw)) (hts _ (wAll_in is_X3))
      exact ⟨(c, i), fun q hq => by cases hq; exact h⟩
    | 4 =>
      obtain ⟨c, i, h⟩ := u_known (C := RX4) (T := TX4) (N := 9) (n := 9) hts (fun w hw => wAll_in (iw_X4 w hw)) (hts _ (wAll_in is_X4))
      exact ⟨(c, i), fun q hq => by cases hq; exact h⟩
    | 5 =>
      obtain ⟨c, i, h⟩ := u_known (C := RX5) (T := TX5) (N := 6) (n := 6) hts (fun w hw => wAll_in (iw_X5 w hw)) (hts _ (wAll_in is_X5))
      exact ⟨(c, i), fun q hq => by cases hq; exact h⟩
    | 6 =>
      obtain ⟨c, i, h⟩ := u_known (C := RX6) (T := TX6) (N := 3) (n := 3) hts (fun w hw => wAll_in (iw_X6 w hw)) (hts _ (wAll_in is_X6))
      exact ⟨(c, i), fun q hq => by cases hq; exact h⟩
    | 7 =>
      obtain ⟨c, i, h⟩ := u_known (C := RX7) (T := TX7) (N := 3) (n := 3) hts (fun w hw => wAll_in (iw_X7 w hw)) (hts _ (wAll_in is_X7))
      exact ⟨(c, i), fun q hq => by cases hq; exact h⟩
    | 8 =>
      obtain ⟨c, i, h⟩ := u_known (C := RX8) (T := TX8) (N := 3) (n := 3) hts (fun w hw => wAll_in (iw_X8 w hw)) (hts _ (wAll_in is_X8))
      exact ⟨(c, i), fun q hq => by cases hq; exact h⟩
    | 9 =>
      obtain ⟨c, i, h⟩ := u_known (C := RX9) (T := TX9) (N := 3) (n := 3) hts (fun w hw => wAll_in (iw_X9 w hw)) (hts _ (wAll_in is_X9))
      exact ⟨(c, i), fun q hq => by cases hq; exact h⟩
    | 10 =>
      obtain ⟨c, i, h⟩ := u_known (C := RX10) (T := TX10) (N := 3) (n := 3) hts (fun w hw => wAll_in (iw_X10 w hw)) (hts _ (wAll_in is_X10))
      exact ⟨(c, i), fun q hq => by cases hq; exact h⟩
    | 11 =>
      obtain ⟨c, i, h⟩ := u_known (C := RX11) (T := TX11) (N := 16) (n := 16) hts (fun w hw => wAll_in (iw_X11 w hw)) (hts _ (wAll_in is_X11))
      exact ⟨(c, i), fun q hq => by cases hq; exact h⟩
    | 12 =>
      obtain ⟨c, i, h⟩ := u_known (C := RX12) (T := TX12) (N := 58) (n := 58) hts (fun w hw => wAll_in (iw_X12 w hw)) (hts _ (wAll_in is_X12))
      exact ⟨(c, i), fun q hq => by cases hq; exact h⟩
    | k + 13 => exact ⟨(0, fun _ => 0), fun q hq => by simp [vwCl] at hq⟩
  obtain ⟨f, hf⟩ := Classical.axiomOfChoice key
  exact ⟨fun k => (f k).1, fun k => (f k).2, hf⟩
theorem arr_K {args : Array Value} {s : State} (hts : ∀ w ∈ lw_tbl, w.before args s = true) : ∃ ca : Nat → ClassId, ∀ (k : Nat) (q : ClassId × FieldType), ([(ca 1, .int), (ca 2, .char), (ca 3, .byte), (ca 4, .object "BestPair$Rule"), (ca 5, .long)] : List (ClassId × FieldType))[k]? = some q → ArrOfT s q.1 q.2 ∧ va_RA s q.1 q.2 := by
  obtain ⟨c1, k1, p1, a1, a2, a3⟩ := Cond.arrayClass_spec (hts _ (wAll_in ac_int))
  obtain ⟨c2, k2, p2, b1, b2, b3⟩ := Cond.arrayClass_spec (hts _ (wAll_in ac_char))
  obtain ⟨c3, k3, p3, d1, d2, d3⟩ := Cond.arrayClass_spec (hts _ (wAll_in ac_byte))
  obtain ⟨p4, c4, k4, g0, g1, g2, g3, g4⟩ := Cond.arrayOver_spec (hts _ ao_rule)
  obtain ⟨c5, k5, p5, e1, e2, e3⟩ := Cond.arrayClass_spec (hts _ (wAll_in ac_long))
  refine ⟨fun k => if k = 1 then c1 else if k = 2 then c2 else if k = 3 then c3 else if k = 4 then c4 else c5, fun k q hq => ?_⟩
  match k, hq with
  | 0, hq => cases hq; exact ⟨fun n z => ⟨fun k h => (by cases h), k1, a2, p1, a3⟩, a1⟩
  | 1, hq => cases hq; exact ⟨fun n z => ⟨fun k h => (by cases h), k2, b2, p2, b3⟩, b1⟩
  | 2, hq => cases hq; exact ⟨fun n z => ⟨fun k h => (by cases h), k3, d2, p3, d3⟩, d1⟩
  | 3, hq => cases hq; exact ⟨fun n z => ⟨fun k h => (by cases h), k4, g2, p4, g3⟩, k4, p4, g2, g3, g0, g4⟩
  | 4, hq => cases hq; exact ⟨fun n z => ⟨fun k h => (by cases h), k5, e2, p5, e3⟩, e1⟩
  | k + 5, hq => simp at hq
