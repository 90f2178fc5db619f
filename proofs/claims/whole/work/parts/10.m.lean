theorem dJ6_bitCount_0f7a4_0 : decode cJ6_bitCount_0f7a4 0 = .ok (.iload_n 0, 1) := by decide +kernel
theorem dJ6_bitCount_0f7a4_1 : decode cJ6_bitCount_0f7a4 1 = .ok (.iload_n 0, 1) := by decide +kernel
theorem dJ6_bitCount_0f7a4_2 : decode cJ6_bitCount_0f7a4 2 = .ok (.iconst 1, 1) := by decide +kernel
theorem dJ6_bitCount_0f7a4_3 : decode cJ6_bitCount_0f7a4 3 = .ok (.iushr, 1) := by decide +kernel
theorem dJ6_bitCount_0f7a4_4 : decode cJ6_bitCount_0f7a4 4 = .ok (.ldc_w 265, 3) := by decide +kernel
theorem dJ6_bitCount_0f7a4_7 : decode cJ6_bitCount_0f7a4 7 = .ok (.iand, 1) := by decide +kernel
theorem dJ6_bitCount_0f7a4_8 : decode cJ6_bitCount_0f7a4 8 = .ok (.isub, 1) := by decide +kernel
theorem dJ6_bitCount_0f7a4_9 : decode cJ6_bitCount_0f7a4 9 = .ok (.istore_n 0, 1) := by decide +kernel
theorem dJ6_bitCount_0f7a4_10 : decode cJ6_bitCount_0f7a4 10 = .ok (.iload_n 0, 1) := by decide +kernel
theorem dJ6_bitCount_0f7a4_11 : decode cJ6_bitCount_0f7a4 11 = .ok (.ldc_w 266, 3) := by decide +kernel
theorem dJ6_bitCount_0f7a4_14 : decode cJ6_bitCount_0f7a4 14 = .ok (.iand, 1) := by decide +kernel
theorem dJ6_bitCount_0f7a4_15 : decode cJ6_bitCount_0f7a4 15 = .ok (.iload_n 0, 1) := by decide +kernel
theorem dJ6_bitCount_0f7a4_16 : decode cJ6_bitCount_0f7a4 16 = .ok (.iconst 2, 1) := by decide +kernel
theorem dJ6_bitCount_0f7a4_17 : decode cJ6_bitCount_0f7a4 17 = .ok (.iushr, 1) := by decide +kernel
theorem dJ6_bitCount_0f7a4_18 : decode cJ6_bitCount_0f7a4 18 = .ok (.ldc_w 266, 3) := by decide +kernel
theorem dJ6_bitCount_0f7a4_21 : decode cJ6_bitCount_0f7a4 21 = .ok (.iand, 1) := by decide +kernel
theorem dJ6_bitCount_0f7a4_22 : decode cJ6_bitCount_0f7a4 22 = .ok (.iadd, 1) := by decide +kernel
theorem dJ6_bitCount_0f7a4_23 : decode cJ6_bitCount_0f7a4 23 = .ok (.istore_n 0, 1) := by decide +kernel
theorem dJ6_bitCount_0f7a4_24 : decode cJ6_bitCount_0f7a4 24 = .ok (.iload_n 0, 1) := by decide +kernel
theorem dJ6_bitCount_0f7a4_25 : decode cJ6_bitCount_0f7a4 25 = .ok (.iload_n 0, 1) := by decide +kernel
theorem dJ6_bitCount_0f7a4_26 : decode cJ6_bitCount_0f7a4 26 = .ok (.iconst 4, 1) := by decide +kernel
theorem dJ6_bitCount_0f7a4_27 : decode cJ6_bitCount_0f7a4 27 = .ok (.iushr, 1) := by decide +kernel
theorem dJ6_bitCount_0f7a4_28 : decode cJ6_bitCount_0f7a4 28 = .ok (.iadd, 1) := by decide +kernel
theorem dJ6_bitCount_0f7a4_29 : decode cJ6_bitCount_0f7a4 29 = .ok (.ldc_w 267, 3) := by decide +kernel
theorem dJ6_bitCount_0f7a4_32 : decode cJ6_bitCount_0f7a4 32 = .ok (.iand, 1) := by decide +kernel
theorem dJ6_bitCount_0f7a4_33 : decode cJ6_bitCount_0f7a4 33 = .ok (.istore_n 0, 1) := by decide +kernel
theorem dJ6_bitCount_0f7a4_34 : decode cJ6_bitCount_0f7a4 34 = .ok (.iload_n 0, 1) := by decide +kernel
theorem dJ6_bitCount_0f7a4_35 : decode cJ6_bitCount_0f7a4 35 = .ok (.iload_n 0, 1) := by decide +kernel
theorem dJ6_bitCount_0f7a4_36 : decode cJ6_bitCount_0f7a4 36 = .ok (.bipush 8, 2) := by decide +kernel
theorem dJ6_bitCount_0f7a4_38 : decode cJ6_bitCount_0f7a4 38 = .ok (.iushr, 1) := by decide +kernel
theorem dJ6_bitCount_0f7a4_39 : decode cJ6_bitCount_0f7a4 39 = .ok (.iadd, 1) := by decide +kernel
theorem dJ6_bitCount_0f7a4_40 : decode cJ6_bitCount_0f7a4 40 = .ok (.istore_n 0, 1) := by decide +kernel
theorem dJ6_bitCount_0f7a4_41 : decode cJ6_bitCount_0f7a4 41 = .ok (.iload_n 0, 1) := by decide +kernel
theorem dJ6_bitCount_0f7a4_42 : decode cJ6_bitCount_0f7a4 42 = .ok (.iload_n 0, 1) := by decide +kernel
theorem dJ6_bitCount_0f7a4_43 : decode cJ6_bitCount_0f7a4 43 = .ok (.bipush 16, 2) := by decide +kernel
theorem dJ6_bitCount_0f7a4_45 : decode cJ6_bitCount_0f7a4 45 = .ok (.iushr, 1) := by decide +kernel
theorem dJ6_bitCount_0f7a4_46 : decode cJ6_bitCount_0f7a4 46 = .ok (.iadd, 1) := by decide +kernel
theorem dJ6_bitCount_0f7a4_47 : decode cJ6_bitCount_0f7a4 47 = .ok (.istore_n 0, 1) := by decide +kernel
theorem dJ6_bitCount_0f7a4_48 : decode cJ6_bitCount_0f7a4 48 = .ok (.iload_n 0, 1) := by decide +kernel
theorem dJ6_bitCount_0f7a4_49 : decode cJ6_bitCount_0f7a4 49 = .ok (.bipush 63, 2) := by decide +kernel
theorem dJ6_bitCount_0f7a4_51 : decode cJ6_bitCount_0f7a4 51 = .ok (.iand, 1) := by decide +kernel
theorem dJ6_bitCount_0f7a4_52 : decode cJ6_bitCount_0f7a4 52 = .ok (.ireturn, 1) := by decide +kernel
def f_J6_bitCount_0f7a4 (x0 : Int32) (h : AH) : Option (Int32 × AH) :=
  nm ((x0 - ((jiushr x0 1) &&& 1431655765))) fun x0_1 =>
  nm (((x0_1 &&& 858993459) + ((jiushr x0_1 2) &&& 858993459))) fun x0_3 =>
  nm (((x0_3 + (jiushr x0_3 4)) &&& 252645135)) fun x0_5 =>
  nm ((x0_5 + (jiushr x0_5 8))) fun x0_7 =>
  nm ((x0_7 + (jiushr x0_7 16))) fun x0_9 =>
  some ((x0_9 &&& 63), h)
set_option maxHeartbeats 4000000 in
set_option maxRecDepth 100000 in
theorem c_J6_bitCount_0f7a4 {E : EV} {d : Nat} (hd : 0 + 1 ≤ d) {x0 : Int32} {h : AH} {r0 : Int32} {h0 : AH} (hf : f_J6_bitCount_0f7a4 x0 h = some (r0, h0)) : Con E d K_J6_bitCount_0f7a4 (ZI E r0 h0) [.int x0] h := by
  obtain ⟨d, rfl⟩ : ∃ d', d = d' + 1 := ⟨d - 1, by omega⟩
  have hd := Nat.le_of_succ_le_succ hd
  refine Con.ofV rfl (Nat.le_of_ble_eq_true rfl) ?_
  unfold f_J6_bitCount_0f7a4 at hf
  show V E (d + 1) K_J6_bitCount_0f7a4 (ZI E r0 h0) h [(0, .int x0)] [] 0
  refine V_iload_n 0 dJ6_bitCount_0f7a4_0 rfl rfl ?_
  refine V_iload_n 0 dJ6_bitCount_0f7a4_1 rfl rfl ?_
  refine V_iconst (v := 1) dJ6_bitCount_0f7a4_2 (by decide) ?_
  refine V_iushr dJ6_bitCount_0f7a4_3 ?_
  refine V_ldcw (v := 1431655765) rfl kc_J6_265 dJ6_bitCount_0f7a4_4 ?_
  refine V_iand dJ6_bitCount_0f7a4_7 ?_
  refine V_isub dJ6_bitCount_0f7a4_8 ?_
  obtain ⟨x0_1, e_2, hf⟩ := nm_s hf
  refine V_istore_n (L' := [(0, .int x0_1)]) dJ6_bitCount_0f7a4_9 rfl (Nat.le_of_ble_eq_true rfl) e_2 rfl ?_
  refine V_iload_n 0 dJ6_bitCount_0f7a4_10 rfl rfl ?_
  refine V_ldcw (v := 858993459) rfl kc_J6_266 dJ6_bitCount_0f7a4_11 ?_
  refine V_iand dJ6_bitCount_0f7a4_14 ?_
  refine V_iload_n 0 dJ6_bitCount_0f7a4_15 rfl rfl ?_
  refine V_iconst (v := 2) dJ6_bitCount_0f7a4_16 (by decide) ?_
  refine V_iushr dJ6_bitCount_0f7a4_17 ?_
  refine V_ldcw (v := 858993459) rfl kc_J6_266 dJ6_bitCount_0f7a4_18 ?_
  refine V_iand dJ6_bitCount_0f7a4_21 ?_
  refine V_iadd dJ6_bitCount_0f7a4_22 ?_
  obtain ⟨x0_3, e_4, hf⟩ := nm_s hf
  refine V_istore_n (L' := [(0, .int x0_3)]) dJ6_bitCount_0f7a4_23 rfl (Nat.le_of_ble_eq_true rfl) e_4 rfl ?_
  refine V_iload_n 0 dJ6_bitCount_0f7a4_24 rfl rfl ?_
  refine V_iload_n 0 dJ6_bitCount_0f7a4_25 rfl rfl ?_
  refine V_iconst (v := 4) dJ6_bitCount_0f7a4_26 (by decide) ?_
  refine V_iushr dJ6_bitCount_0f7a4_27 ?_
  refine V_iadd dJ6_bitCount_0f7a4_28 ?_
  refine V_ldcw (v := 252645135) rfl kc_J6_267 dJ6_bitCount_0f7a4_29 ?_
  refine V_iand dJ6_bitCount_0f7a4_32 ?_
  obtain ⟨x0_5, e_6, hf⟩ := nm_s hf
  refine V_istore_n (L' := [(0, .int x0_5)]) dJ6_bitCount_0f7a4_33 rfl (Nat.le_of_ble_eq_true rfl) e_6 rfl ?_
  refine V_iload_n 0 dJ6_bitCount_0f7a4_34 rfl rfl ?_
  refine V_iload_n 0 dJ6_bitCount_0f7a4_35 rfl rfl ?_
  refine V_bipush (v := 8) dJ6_bitCount_0f7a4_36 (by decide) ?_
  refine V_iushr dJ6_bitCount_0f7a4_38 ?_
  refine V_iadd dJ6_bitCount_0f7a4_39 ?_
  obtain ⟨x0_7, e_8, hf⟩ := nm_s hf
  refine V_istore_n (L' := [(0, .int x0_7)]) dJ6_bitCount_0f7a4_40 rfl (Nat.le_of_ble_eq_true rfl) e_8 rfl ?_
  refine V_iload_n 0 dJ6_bitCount_0f7a4_41 rfl rfl ?_
  refine V_iload_n 0 dJ6_bitCount_0f7a4_42 rfl rfl ?_
  refine V_bipush (v := 16) dJ6_bitCount_0f7a4_43 (by decide) ?_
  refine V_iushr dJ6_bitCount_0f7a4_45 ?_
  refine V_iadd dJ6_bitCount_0f7a4_46 ?_
  obtain ⟨x0_9, e_10, hf⟩ := nm_s hf
  refine V_istore_n (L' := [(0, .int x0_9)]) dJ6_bitCount_0f7a4_47 rfl (Nat.le_of_ble_eq_true rfl) e_10 rfl ?_
  refine V_iload_n 0 dJ6_bitCount_0f7a4_48 rfl rfl ?_
  refine V_bipush (v := 63) dJ6_bitCount_0f7a4_49 (by decide) ?_
  refine V_iand dJ6_bitCount_0f7a4_51 ?_
  exact V_iret rfl (so_s hf) dJ6_bitCount_0f7a4_52
theorem dJ7_fill_53178_0 : decode cJ7_fill_53178 0 = .ok (.iconst 0, 1) := by decide +kernel
theorem dJ7_fill_53178_1 : decode cJ7_fill_53178 1 = .ok (.istore_n 2, 1) := by decide +kernel
theorem dJ7_fill_53178_2 : decode cJ7_fill_53178 2 = .ok (.aload_n 0, 1) := by decide +kernel
theorem dJ7_fill_53178_3 : decode cJ7_fill_53178 3 = .ok (.arraylength, 1) := by decide +kernel
theorem dJ7_fill_53178_4 : decode cJ7_fill_53178 4 = .ok (.istore_n 3, 1) := by decide +kernel
theorem dJ7_fill_53178_5 : decode cJ7_fill_53178 5 = .ok (.iload_n 2, 1) := by decide +kernel
theorem dJ7_fill_53178_6 : decode cJ7_fill_53178 6 = .ok (.iload_n 3, 1) := by decide +kernel
theorem dJ7_fill_53178_7 : decode cJ7_fill_53178 7 = .ok (.if_icmp .ge 13, 3) := by decide +kernel
theorem dJ7_fill_53178_10 : decode cJ7_fill_53178 10 = .ok (.aload_n 0, 1) := by decide +kernel
theorem dJ7_fill_53178_11 : decode cJ7_fill_53178 11 = .ok (.iload_n 2, 1) := by decide +kernel
theorem dJ7_fill_53178_12 : decode cJ7_fill_53178 12 = .ok (.iload_n 1, 1) := by decide +kernel
theorem dJ7_fill_53178_13 : decode cJ7_fill_53178 13 = .ok (.iastore, 1) := by decide +kernel
theorem dJ7_fill_53178_14 : decode cJ7_fill_53178 14 = .ok (.iinc 2 1, 3) := by decide +kernel
theorem dJ7_fill_53178_17 : decode cJ7_fill_53178 17 = .ok (.goto (-12), 3) := by decide +kernel
theorem dJ7_fill_53178_20 : decode cJ7_fill_53178 20 = .ok (.return_, 1) := by decide +kernel
def f_J7_fill_53178_5 : Nat → Nat → Int32 → Int32 → Int32 → AH → Option AH
  | 0, _, _, _, _, _ => none
  | n + 1, k0, x1, x2, x3, h =>
    if x3 ≤ x2 then (
      some h
    ) else (
      og (ix x2 (an k0)) <|
      nm (sI h k0 x2.toNatClampNeg x1) fun h_3 =>
      nm (x2 + 1) fun x2_5 =>
      f_J7_fill_53178_5 n k0 x1 x2_5 x3 h_3
    )
def f_J7_fill_53178 (k0 : Nat) (x1 : Int32) (h : AH) : Option AH :=
  nm ((Int32.ofNat (an k0))) fun x3_1 =>
  f_J7_fill_53178_5 FU k0 x1 0 x3_1 h
set_option maxHeartbeats 4000000 in
set_option maxRecDepth 100000 in
theorem v_J7_fill_53178_5 {E : EV} {d : Nat} (hd : 0 ≤ d) {h0 : AH} : ∀ (n : Nat) (k0 : Nat) (x1 : Int32) (x2 : Int32) (x3 : Int32) (h : AH), f_J7_fill_53178_5 n k0 x1 x2 x3 h = some h0 → (kd k0).1 = 1 → V E (d + 1) K_J7_fill_53178 (ZV E h0) h [(0, .ref k0), (1, .int x1), (2, .int x2), (3, .int x3)] [] 5 := by
  intro n
  induction n with
  | zero =>
    intro k0 x1 x2 x3 h hf
    rw [f_J7_fill_53178_5] at hf
    cases hf
  | succ n ih =>
    intro k0 x1 x2 x3 h hf t_k0
    rw [f_J7_fill_53178_5] at hf
    refine V_iload_n 2 dJ7_fill_53178_5 rfl rfl ?_
    refine V_iload_n 3 dJ7_fill_53178_6 rfl rfl ?_
    refine V_ic_ge (tgt := 20) dJ7_fill_53178_7 (by decide) (fun c_1 => ?_) (fun c_1 => ?_)
    · have hf := it_s c_1 hf
      exact V_vret rfl (so_s hf) dJ7_fill_53178_20
    · have hf := if_s c_1 hf
      refine V_aload_n 0 dJ7_fill_53178_10 rfl rfl ?_
      refine V_iload_n 2 dJ7_fill_53178_11 rfl rfl ?_
      refine V_iload_n 1 dJ7_fill_53178_12 rfl rfl ?_
      obtain ⟨b_2, hf⟩ := og_s hf
      obtain ⟨h_3, e_4, hf⟩ := nm_s hf
      refine V_iast t_k0 b_2 e_4 dJ7_fill_53178_13 ?_
      obtain ⟨x2_5, e_6, hf⟩ := nm_s hf
      refine V_iinc (a := 1) (L' := [(2, .int x2_5), (0, .ref k0), (1, .int x1), (3, .int x3)]) 2 dJ7_fill_53178_14 rfl (by decide) (Nat.le_of_ble_eq_true rfl) e_6 rfl ?_
      refine V_goto (tgt := 5) dJ7_fill_53178_17 (by decide) ?_
      refine V_sub [1, 2, 0, 3] rfl ?_
      exact ih _ _ _ _ _ hf t_k0
set_option maxHeartbeats 4000000 in
set_option maxRecDepth 100000 in
theorem c_J7_fill_53178 {E : EV} {d : Nat} (hd : 0 + 1 ≤ d) {k0 : Nat} {x1 : Int32} {h : AH} {h0 : AH} (hf : f_J7_fill_53178 k0 x1 h = some h0) (t_k0 : (kd k0).1 = 1) : Con E d K_J7_fill_53178 (ZV E h0) [.ref k0, .int x1] h := by
  obtain ⟨d, rfl⟩ : ∃ d', d = d' + 1 := ⟨d - 1, by omega⟩
  have hd := Nat.le_of_succ_le_succ hd
  refine Con.ofV rfl (Nat.le_of_ble_eq_true rfl) ?_
  unfold f_J7_fill_53178 at hf
  show V E (d + 1) K_J7_fill_53178 (ZV E h0) h [(0, .ref k0), (1, .int x1)] [] 0
  refine V_iconst (v := 0) dJ7_fill_53178_0 (by decide) ?_
  refine V_istore_n (L' := [(2, .int 0), (0, .ref k0), (1, .int x1)]) dJ7_fill_53178_1 rfl (Nat.le_of_ble_eq_true rfl) rfl rfl ?_
  refine V_aload_n 1 dJ7_fill_53178_2 rfl rfl ?_
  refine V_alen t_k0 (by decide) dJ7_fill_53178_3 ?_
  obtain ⟨x3_1, e_2, hf⟩ := nm_s hf
  refine V_istore_n (L' := [(3, .int x3_1), (2, .int 0), (0, .ref k0), (1, .int x1)]) dJ7_fill_53178_4 rfl (Nat.le_of_ble_eq_true rfl) e_2 rfl ?_
  refine V_sub [2, 3, 1, 0] rfl ?_
  exact v_J7_fill_53178_5 hd FU _ _ _ _ _ hf t_k0
theorem dX11_isIn_0 : decode cX11_isIn 0 = .ok (.iload_n 0, 1) := by decide +kernel
theorem dX11_isIn_1 : decode cX11_isIn 1 = .ok (.iload_n 1, 1) := by decide +kernel
theorem dX11_isIn_2 : decode cX11_isIn 2 = .ok (.ishr, 1) := by decide +kernel
theorem dX11_isIn_3 : decode cX11_isIn 3 = .ok (.iconst 1, 1) := by decide +kernel
theorem dX11_isIn_4 : decode cX11_isIn 4 = .ok (.iand, 1) := by decide +kernel
theorem dX11_isIn_5 : decode cX11_isIn 5 = .ok (.iconst 1, 1) := by decide +kernel
theorem dX11_isIn_6 : decode cX11_isIn 6 = .ok (.if_icmp .ne 7, 3) := by decide +kernel
theorem dX11_isIn_9 : decode cX11_isIn 9 = .ok (.iconst 1, 1) := by decide +kernel
theorem dX11_isIn_10 : decode cX11_isIn 10 = .ok (.goto 4, 3) := by decide +kernel
theorem dX11_isIn_13 : decode cX11_isIn 13 = .ok (.iconst 0, 1) := by decide +kernel
theorem dX11_isIn_14 : decode cX11_isIn 14 = .ok (.ireturn, 1) := by decide +kernel
def f_X11_isIn_14 (s0 : Int32) (h : AH) : Option (Int32 × AH) :=
  og (bz s0) <|
  some (s0, h)
def f_X11_isIn (x0 : Int32) (x1 : Int32) (h : AH) : Option (Int32 × AH) :=
  if ((x0 >>> (x1 &&& 31)) &&& 1) = 1 then (
    f_X11_isIn_14 1 h
  ) else (
    f_X11_isIn_14 0 h
  )
set_option maxHeartbeats 4000000 in
set_option maxRecDepth 100000 in
theorem v_X11_isIn_14 {E : EV} {d : Nat} (hd : 0 ≤ d) {r0 : Int32} {h0 : AH} {s0 : Int32} {h : AH} (hf : f_X11_isIn_14 s0 h = some (r0, h0)) : V E (d + 1) K_X11_isIn (ZI E r0 h0) h [] [.int s0] 14 := by
  unfold f_X11_isIn_14 at hf
  obtain ⟨b_1, hf⟩ := og_s hf
  exact V_zret rfl b_1 (so_s hf) dX11_isIn_14
set_option maxHeartbeats 4000000 in
set_option maxRecDepth 100000 in
theorem c_X11_isIn {E : EV} {d : Nat} (hd : 0 + 1 ≤ d) {x0 : Int32} {x1 : Int32} {h : AH} {r0 : Int32} {h0 : AH} (hf : f_X11_isIn x0 x1 h = some (r0, h0)) : Con E d K_X11_isIn (ZI E r0 h0) [.int x0, .int x1] h := by
  obtain ⟨d, rfl⟩ : ∃ d', d = d' + 1 := ⟨d - 1, by omega⟩
  have hd := Nat.le_of_succ_le_succ hd
  refine Con.ofV rfl (Nat.le_of_ble_eq_true rfl) ?_
  unfold f_X11_isIn at hf
  show V E (d + 1) K_X11_isIn (ZI E r0 h0) h [(0, .int x0), (1, .int x1)] [] 0
  refine V_iload_n 0 dX11_isIn_0 rfl rfl ?_
  refine V_iload_n 1 dX11_isIn_1 rfl rfl ?_
  refine V_ishr dX11_isIn_2 ?_
  refine V_iconst (v := 1) dX11_isIn_3 (by decide) ?_
  refine V_iand dX11_isIn_4 ?_
  refine V_iconst (v := 1) dX11_isIn_5 (by decide) ?_
  refine V_ic_ne (tgt := 13) dX11_isIn_6 (by decide) (fun c_1 => ?_) (fun c_1 => ?_)
  · have hf := if_s c_1 hf
    refine V_iconst (v := 0) dX11_isIn_13 (by decide) ?_
    refine V_sub [] rfl ?_
    exact v_X11_isIn_14 hd hf
  · have hf := it_s c_1 hf
    refine V_iconst (v := 1) dX11_isIn_9 (by decide) ?_
    refine V_goto (tgt := 14) dX11_isIn_10 (by decide) ?_
    refine V_sub [] rfl ?_
    exact v_X11_isIn_14 hd hf
theorem dX5_add_0 : decode cX5_add 0 = .ok (.aload_n 0, 1) := by decide +kernel
theorem dX5_add_1 : decode cX5_add 1 = .ok (.getfield 34, 3) := by decide +kernel
theorem dX5_add_4 : decode cX5_add 4 = .ok (.bipush 6, 2) := by decide +kernel
theorem dX5_add_6 : decode cX5_add 6 = .ok (.if_icmp .ge 23, 3) := by decide +kernel
theorem dX5_add_9 : decode cX5_add 9 = .ok (.aload_n 0, 1) := by decide +kernel
theorem dX5_add_10 : decode cX5_add 10 = .ok (.getfield 9, 3) := by decide +kernel
theorem dX5_add_13 : decode cX5_add 13 = .ok (.aload_n 0, 1) := by decide +kernel
theorem dX5_add_14 : decode cX5_add 14 = .ok (.getfield 34, 3) := by decide +kernel
theorem dX5_add_17 : decode cX5_add 17 = .ok (.iload_n 1, 1) := by decide +kernel
theorem dX5_add_18 : decode cX5_add 18 = .ok (.iastore, 1) := by decide +kernel
theorem dX5_add_19 : decode cX5_add 19 = .ok (.aload_n 0, 1) := by decide +kernel
theorem dX5_add_20 : decode cX5_add 20 = .ok (.dup, 1) := by decide +kernel
theorem dX5_add_21 : decode cX5_add 21 = .ok (.getfield 34, 3) := by decide +kernel
theorem dX5_add_24 : decode cX5_add 24 = .ok (.iconst 1, 1) := by decide +kernel
theorem dX5_add_25 : decode cX5_add 25 = .ok (.iadd, 1) := by decide +kernel
theorem dX5_add_26 : decode cX5_add 26 = .ok (.putfield 34, 3) := by decide +kernel
theorem dX5_add_29 : decode cX5_add 29 = .ok (.return_, 1) := by decide +kernel
theorem F_X5_34 : FLk RX5 34 5 2 := ⟨RX5, TX5, 6, rfl, rfl, iw_X5, by decide, Or.inl fl_X5_34⟩
theorem F_X5_9 : FLk RX5 9 5 1 := ⟨RX5, TX5, 6, rfl, rfl, iw_X5, by decide, Or.inl fl_X5_9⟩
theorem P_X5_34 : FPk RX5 34 5 2 .int := ⟨RX5, TX5, 6, tyX5, rfl, rfl, iw_X5, by decide, Or.inl fl_X5_34, tyX5_ok, nmX5, rfl, by decide +kernel⟩
def f_X5_add_29  (h : AH) : Option AH :=
  some h
def f_X5_add (k0 : Nat) (x1 : Int32) (h : AH) : Option AH :=
  if 6 ≤ (h.1 k0 2) then (
    f_X5_add_29 h
  ) else (
    og (ix (h.1 k0 2) (an (rf k0 1))) <|
    nm (sI h (rf k0 1) (h.1 k0 2).toNatClampNeg x1) fun h_3 =>
    nm (sI h_3 k0 2 ((h_3.1 k0 2) + 1)) fun h_5 =>
    f_X5_add_29 h_5
  )
set_option maxHeartbeats 4000000 in
set_option maxRecDepth 100000 in
theorem v_X5_add_29 {E : EV} {d : Nat} (hd : 0 ≤ d) {h0 : AH}  {h : AH} (hf : f_X5_add_29 h = some h0) : V E (d + 1) K_X5_add (ZV E h0) h [] [] 29 := by
  unfold f_X5_add_29 at hf
  exact V_vret rfl (so_s hf) dX5_add_29
set_option maxHeartbeats 4000000 in
set_option maxRecDepth 100000 in
theorem c_X5_add {E : EV} {d : Nat} (hd : 0 + 1 ≤ d) {k0 : Nat} {x1 : Int32} {h : AH} {h0 : AH} (hf : f_X5_add k0 x1 h = some h0) (t_k0 : kd k0 = (0, 5)) : Con E d K_X5_add (ZV E h0) [.ref k0, .int x1] h := by
  obtain ⟨d, rfl⟩ : ∃ d', d = d' + 1 := ⟨d - 1, by omega⟩
  have hd := Nat.le_of_succ_le_succ hd
  refine Con.ofV rfl (Nat.le_of_ble_eq_true rfl) ?_
  unfold f_X5_add at hf
  show V E (d + 1) K_X5_add (ZV E h0) h [(0, .ref k0), (1, .int x1)] [] 0
  refine V_aload_n 0 dX5_add_0 rfl rfl ?_
  refine V_getI F_X5_34 rfl t_k0 rfl dX5_add_1 ?_
  refine V_bipush (v := 6) dX5_add_4 (by decide) ?_
  refine V_ic_ge (tgt := 29) dX5_add_6 (by decide) (fun c_1 => ?_) (fun c_1 => ?_)
  · have hf := it_s c_1 hf
    refine V_sub [] rfl ?_
    exact v_X5_add_29 hd hf
  · have hf := if_s c_1 hf
    refine V_aload_n 0 dX5_add_9 rfl rfl ?_
    refine V_getR F_X5_9 rfl t_k0 rfl dX5_add_10 ?_
    refine V_aload_n 0 dX5_add_13 rfl rfl ?_
    refine V_getI F_X5_34 rfl t_k0 rfl dX5_add_14 ?_
    refine V_iload_n 1 dX5_add_17 rfl rfl ?_
    obtain ⟨b_2, hf⟩ := og_s hf
    obtain ⟨h_3, e_4, hf⟩ := nm_s hf
    refine V_iast (rfA t_k0 (Nat.le_of_ble_eq_true rfl) rfl rfl (by decide)) b_2 e_4 dX5_add_18 ?_
    refine V_aload_n 0 dX5_add_19 rfl rfl ?_
    refine V_dup dX5_add_20 rfl ?_
    refine V_getI F_X5_34 rfl t_k0 rfl dX5_add_21 ?_
    refine V_iconst (v := 1) dX5_add_24 (by decide) ?_
    refine V_iadd dX5_add_25 ?_
    obtain ⟨h_5, e_6, hf⟩ := nm_s hf
    refine V_putI P_X5_34 rfl t_k0 rfl e_6 dX5_add_26 ?_
    refine V_sub [] rfl ?_
    exact v_X5_add_29 hd hf
theorem dX5_lowest_0 : decode cX5_lowest 0 = .ok (.aload_n 0, 1) := by decide +kernel
theorem dX5_lowest_1 : decode cX5_lowest 1 = .ok (.iconst 0, 1) := by decide +kernel
theorem dX5_lowest_2 : decode cX5_lowest 2 = .ok (.putfield 34, 3) := by decide +kernel
theorem dX5_lowest_5 : decode cX5_lowest 5 = .ok (.iconst 0, 1) := by decide +kernel
theorem dX5_lowest_6 : decode cX5_lowest 6 = .ok (.istore_n 2, 1) := by decide +kernel
theorem dX5_lowest_7 : decode cX5_lowest 7 = .ok (.iload_n 2, 1) := by decide +kernel
theorem dX5_lowest_8 : decode cX5_lowest 8 = .ok (.bipush 6, 2) := by decide +kernel
theorem dX5_lowest_10 : decode cX5_lowest 10 = .ok (.if_icmp .ge 22, 3) := by decide +kernel
theorem dX5_lowest_13 : decode cX5_lowest 13 = .ok (.iload_n 1, 1) := by decide +kernel
theorem dX5_lowest_14 : decode cX5_lowest 14 = .ok (.iload_n 2, 1) := by decide +kernel
theorem dX5_lowest_15 : decode cX5_lowest 15 = .ok (.invokestatic 38, 3) := by decide +kernel
theorem dX5_lowest_18 : decode cX5_lowest 18 = .ok (.ifCond .eq 8, 3) := by decide +kernel
theorem dX5_lowest_21 : decode cX5_lowest 21 = .ok (.aload_n 0, 1) := by decide +kernel
theorem dX5_lowest_22 : decode cX5_lowest 22 = .ok (.iload_n 2, 1) := by decide +kernel
theorem dX5_lowest_23 : decode cX5_lowest 23 = .ok (.invokevirtual 42, 3) := by decide +kernel
theorem dX5_lowest_26 : decode cX5_lowest 26 = .ok (.iinc 2 1, 3) := by decide +kernel
theorem dX5_lowest_29 : decode cX5_lowest 29 = .ok (.goto (-22), 3) := by decide +kernel
theorem dX5_lowest_32 : decode cX5_lowest 32 = .ok (.return_, 1) := by decide +kernel
theorem ML_X5_38 : MLk RX5 38 yX11_isIn := Or.inr ⟨_, mn_X5_38⟩
theorem MS_X11_isIn : MSk K_X11_isIn 2 := ⟨⟨cd_X11_isIn, in_X11, ⟨by decide, by decide, by decide +kernel⟩, by decide⟩, st_X11_isIn⟩
theorem ML_X5_42 : MLk RX5 42 yX5_add := Or.inl ml_X5_42
theorem MV_X5_add : MVk K_X5_add 1 5 := ⟨⟨cd_X5_add, in_X5, ⟨by decide, by decide, by decide +kernel⟩, by decide⟩, im_X5_add, se_X5_add, _, _, rfl⟩
def f_X5_lowest_26 (q7 : Nat → Int32 → Int32 → AH → Option AH) (k0 : Nat) (x1 : Int32) (x2 : Int32) (h : AH) : Option AH :=
  nm (x2 + 1) fun x2_1 =>
  q7 k0 x1 x2_1 h
def f_X5_lowest_7 : Nat → Nat → Int32 → Int32 → AH → Option AH
  | 0, _, _, _, _ => none
  | n + 1, k0, x1, x2, h =>
    if 6 ≤ x2 then (
      some h
    ) else (
      ob (f_X11_isIn x1 x2 h) fun r_4 h_3 =>
      if r_4 = 0 then (
        f_X5_lowest_26 (f_X5_lowest_7 n) k0 x1 x2 h_3
      ) else (
        ov (f_X5_add k0 x2 h_3) fun h_7 =>
        f_X5_lowest_26 (f_X5_lowest_7 n) k0 x1 x2 h_7
      )
    )
def f_X5_lowest (k0 : Nat) (x1 : Int32) (h : AH) : Option AH :=
  nm (sI h k0 2 0) fun h_1 =>
  f_X5_lowest_7 FU k0 x1 0 h_1
set_option maxHeartbeats 4000000 in
set_option maxRecDepth 100000 in
theorem v_X5_lowest_26 {E : EV} {d : Nat} (hd : 1 ≤ d) {h0 : AH} {q7 : Nat → Int32 → Int32 → AH → Option AH} (cq7 : ∀ (k0 : Nat) (x1 : Int32) (x2 : Int32) (h : AH), q7 k0 x1 x2 h = some h0 → kd k0 = (0, 5) → V E (d + 1) K_X5_lowest (ZV E h0) h [(0, .ref k0), (1, .int x1), (2, .int x2)] [] 7) {k0 : Nat} {x1 : Int32} {x2 : Int32} {h : AH} (hf : f_X5_lowest_26 q7 k0 x1 x2 h = some h0) (t_k0 : kd k0 = (0, 5)) : V E (d + 1) K_X5_lowest (ZV E h0) h [(0, .ref k0), (1, .int x1), (2, .int x2)] [] 26 := by
  unfold f_X5_lowest_26 at hf
  obtain ⟨x2_1, e_2, hf⟩ := nm_s hf
  refine V_iinc (a := 1) (L' := [(2, .int x2_1), (0, .ref k0), (1, .int x1)]) 2 dX5_lowest_26 rfl (by decide) (Nat.le_of_ble_eq_true rfl) e_2 rfl ?_
  refine V_goto (tgt := 7) dX5_lowest_29 (by decide) ?_
  refine V_sub [1, 2, 0] rfl ?_
  exact cq7 _ _ _ _ hf t_k0
set_option maxHeartbeats 4000000 in
set_option maxRecDepth 100000 in
theorem v_X5_lowest_7 {E : EV} {d : Nat} (hd : 1 ≤ d) {h0 : AH} : ∀ (n : Nat) (k0 : Nat) (x1 : Int32) (x2 : Int32) (h : AH), f_X5_lowest_7 n k0 x1 x2 h = some h0 → kd k0 = (0, 5) → V E (d + 1) K_X5_lowest (ZV E h0) h [(0, .ref k0), (1, .int x1), (2, .int x2)] [] 7 := by
  intro n
  induction n with
  | zero =>
    intro k0 x1 x2 h hf
    rw [f_X5_lowest_7] at hf
    cases hf
  | succ n ih =>
    intro k0 x1 x2 h hf t_k0
    rw [f_X5_lowest_7] at hf
    refine V_iload_n 2 dX5_lowest_7 rfl rfl ?_
    refine V_bipush (v := 6) dX5_lowest_8 (by decide) ?_
    refine V_ic_ge (tgt := 32) dX5_lowest_10 (by decide) (fun c_1 => ?_) (fun c_1 => ?_)
    · have hf := it_s c_1 hf
      exact V_vret rfl (so_s hf) dX5_lowest_32
    · have hf := if_s c_1 hf
      refine V_iload_n 1 dX5_lowest_13 rfl rfl ?_
      refine V_iload_n 2 dX5_lowest_14 rfl rfl ?_
      obtain ⟨r_4, h_3, e_2, hf⟩ := ob_s hf
      refine V_csi (As := [.int x1, .int x2]) (rest := []) (c_X11_isIn (d := d) (Nat.le_trans (Nat.le_of_ble_eq_true rfl) hd) e_2) ML_X5_38 MS_X11_isIn rfl rfl rfl (Nat.le_of_ble_eq_true rfl) dX5_lowest_15 ?_
      refine V_if_eq (tgt := 26) dX5_lowest_18 (by decide) (fun c_5 => ?_) (fun c_5 => ?_)
      · have hf := it_s c_5 hf
        exact v_X5_lowest_26 hd ih hf t_k0
      · have hf := if_s c_5 hf
        refine V_aload_n 0 dX5_lowest_21 rfl rfl ?_
        refine V_iload_n 2 dX5_lowest_22 rfl rfl ?_
        obtain ⟨h_7, e_6, hf⟩ := ov_s hf
        refine V_cvv (As := [.int x2]) (rest := []) (c_X5_add (d := d) (Nat.le_trans (Nat.le_of_ble_eq_true rfl) hd) e_6 t_k0) ML_X5_42 MV_X5_add rfl t_k0 rfl rfl (Nat.le_of_ble_eq_true rfl) dX5_lowest_23 ?_
        exact v_X5_lowest_26 hd ih hf t_k0
set_option maxHeartbeats 4000000 in
set_option maxRecDepth 100000 in
theorem c_X5_lowest {E : EV} {d : Nat} (hd : 1 + 1 ≤ d) {k0 : Nat} {x1 : Int32} {h : AH} {h0 : AH} (hf : f_X5_lowest k0 x1 h = some h0) (t_k0 : kd k0 = (0, 5)) : Con E d K_X5_lowest (ZV E h0) [.ref k0, .int x1] h := by
  obtain ⟨d, rfl⟩ : ∃ d', d = d' + 1 := ⟨d - 1, by omega⟩
  have hd := Nat.le_of_succ_le_succ hd
  refine Con.ofV rfl (Nat.le_of_ble_eq_true rfl) ?_
  unfold f_X5_lowest at hf
  show V E (d + 1) K_X5_lowest (ZV E h0) h [(0, .ref k0), (1, .int x1)] [] 0
  refine V_aload_n 0 dX5_lowest_0 rfl rfl ?_
  refine V_iconst (v := 0) dX5_lowest_1 (by decide) ?_
  obtain ⟨h_1, e_2, hf⟩ := nm_s hf
  refine V_putI P_X5_34 rfl t_k0 rfl e_2 dX5_lowest_2 ?_
  refine V_iconst (v := 0) dX5_lowest_5 (by decide) ?_
  refine V_istore_n (L' := [(2, .int 0), (0, .ref k0), (1, .int x1)]) dX5_lowest_6 rfl (Nat.le_of_ble_eq_true rfl) rfl rfl ?_
  refine V_sub [1, 2, 0] rfl ?_
  exact v_X5_lowest_7 hd FU _ _ _ _ hf t_k0
theorem dX6_item_0 : decode cX6_item 0 = .ok (.aload_n 0, 1) := by decide +kernel
theorem dX6_item_1 : decode cX6_item 1 = .ok (.getfield 9, 3) := by decide +kernel
theorem dX6_item_4 : decode cX6_item 4 = .ok (.iload_n 1, 1) := by decide +kernel
theorem dX6_item_5 : decode cX6_item 5 = .ok (.bipush 7, 2) := by decide +kernel
theorem dX6_item_7 : decode cX6_item 7 = .ok (.imul, 1) := by decide +kernel
theorem dX6_item_8 : decode cX6_item 8 = .ok (.iload_n 2, 1) := by decide +kernel
theorem dX6_item_9 : decode cX6_item 9 = .ok (.iadd, 1) := by decide +kernel
theorem dX6_item_10 : decode cX6_item 10 = .ok (.iaload, 1) := by decide +kernel
theorem dX6_item_11 : decode cX6_item 11 = .ok (.ireturn, 1) := by decide +kernel
theorem F_X6_9 : FLk RX6 9 6 0 := ⟨RX6, TX6, 3, rfl, rfl, iw_X6, by decide, Or.inl fl_X6_9⟩
def f_X6_item (k0 : Nat) (x1 : Int32) (x2 : Int32) (h : AH) : Option (Int32 × AH) :=
  og (ix ((x1 * 7) + x2) (an (rf k0 0))) <|
  some ((h.1 (rf k0 0) ((x1 * 7) + x2).toNatClampNeg), h)
set_option maxHeartbeats 4000000 in
set_option maxRecDepth 100000 in
theorem c_X6_item {E : EV} {d : Nat} (hd : 0 + 1 ≤ d) {k0 : Nat} {x1 : Int32} {x2 : Int32} {h : AH} {r0 : Int32} {h0 : AH} (hf : f_X6_item k0 x1 x2 h = some (r0, h0)) (t_k0 : kd k0 = (0, 6)) : Con E d K_X6_item (ZI E r0 h0) [.ref k0, .int x1, .int x2] h := by
  obtain ⟨d, rfl⟩ : ∃ d', d = d' + 1 := ⟨d - 1, by omega⟩
  have hd := Nat.le_of_succ_le_succ hd
  refine Con.ofV rfl (Nat.le_of_ble_eq_true rfl) ?_
  unfold f_X6_item at hf
  show V E (d + 1) K_X6_item (ZI E r0 h0) h [(0, .ref k0), (1, .int x1), (2, .int x2)] [] 0
  refine V_aload_n 0 dX6_item_0 rfl rfl ?_
  refine V_getR F_X6_9 rfl t_k0 rfl dX6_item_1 ?_
  refine V_iload_n 1 dX6_item_4 rfl rfl ?_
  refine V_bipush (v := 7) dX6_item_5 (by decide) ?_
  refine V_imul dX6_item_7 ?_
  refine V_iload_n 2 dX6_item_8 rfl rfl ?_
  refine V_iadd dX6_item_9 ?_
  obtain ⟨b_1, hf⟩ := og_s hf
  refine V_iald (rfA t_k0 (Nat.le_of_ble_eq_true rfl) rfl rfl (by decide)) b_1 dX6_item_10 ?_
  exact V_iret rfl (so_s hf) dX6_item_11
theorem dX0_comesIn_0 : decode cX0_comesIn 0 = .ok (.iload_n 2, 1) := by decide +kernel
theorem dX0_comesIn_1 : decode cX0_comesIn 1 = .ok (.ifCond .eq 15, 3) := by decide +kernel
theorem dX0_comesIn_4 : decode cX0_comesIn 4 = .ok (.aload_n 0, 1) := by decide +kernel
theorem dX0_comesIn_5 : decode cX0_comesIn 5 = .ok (.getfield 18, 3) := by decide +kernel
theorem dX0_comesIn_8 : decode cX0_comesIn 8 = .ok (.iload_n 1, 1) := by decide +kernel
theorem dX0_comesIn_9 : decode cX0_comesIn 9 = .ok (.iconst 4, 1) := by decide +kernel
theorem dX0_comesIn_10 : decode cX0_comesIn 10 = .ok (.invokevirtual 80, 3) := by decide +kernel
theorem dX0_comesIn_13 : decode cX0_comesIn 13 = .ok (.goto 12, 3) := by decide +kernel
theorem dX0_comesIn_16 : decode cX0_comesIn 16 = .ok (.aload_n 0, 1) := by decide +kernel
theorem dX0_comesIn_17 : decode cX0_comesIn 17 = .ok (.getfield 22, 3) := by decide +kernel
theorem dX0_comesIn_20 : decode cX0_comesIn 20 = .ok (.getfield 111, 3) := by decide +kernel
theorem dX0_comesIn_23 : decode cX0_comesIn 23 = .ok (.iload_n 1, 1) := by decide +kernel
theorem dX0_comesIn_24 : decode cX0_comesIn 24 = .ok (.iaload, 1) := by decide +kernel
theorem dX0_comesIn_25 : decode cX0_comesIn 25 = .ok (.ireturn, 1) := by decide +kernel
theorem F_X0_22 : FLk RX0 22 0 1 := ⟨RX0, TX0, 7, rfl, rfl, iw_X0, by decide, Or.inl fl_X0_22⟩
theorem F_X0_111 : FLk RX0 111 9 2 := ⟨RX9, TX9, 3, rfl, rfl, iw_X9, by decide, Or.inr ⟨_, fn_X0_111⟩⟩
theorem F_X0_18 : FLk RX0 18 0 0 := ⟨RX0, TX0, 7, rfl, rfl, iw_X0, by decide, Or.inl fl_X0_18⟩
theorem ML_X0_80 : MLk RX0 80 yX6_item := Or.inl ml_X0_80
theorem MV_X6_item : MVk K_X6_item 2 6 := ⟨⟨cd_X6_item, in_X6, ⟨by decide, by decide, by decide +kernel⟩, by decide⟩, im_X6_item, se_X6_item, _, _, rfl⟩
def f_X0_comesIn_25 (s0 : Int32) (h : AH) : Option (Int32 × AH) :=
  some (s0, h)
def f_X0_comesIn (k0 : Nat) (x1 : Int32) (x2 : Int32) (h : AH) : Option (Int32 × AH) :=
  if x2 = 0 then (
    og (ix x1 (an (rf (rf k0 1) 2))) <|
    f_X0_comesIn_25 (h.1 (rf (rf k0 1) 2) x1.toNatClampNeg) h
  ) else (
    ob (f_X6_item (rf k0 0) x1 4 h) fun r_5 h_4 =>
    f_X0_comesIn_25 r_5 h_4
  )
set_option maxHeartbeats 4000000 in
set_option maxRecDepth 100000 in
theorem v_X0_comesIn_25 {E : EV} {d : Nat} (hd : 1 ≤ d) {r0 : Int32} {h0 : AH} {s0 : Int32} {h : AH} (hf : f_X0_comesIn_25 s0 h = some (r0, h0)) : V E (d + 1) K_X0_comesIn (ZI E r0 h0) h [] [.int s0] 25 := by
  unfold f_X0_comesIn_25 at hf
  exact V_iret rfl (so_s hf) dX0_comesIn_25
set_option maxHeartbeats 4000000 in
set_option maxRecDepth 100000 in
theorem c_X0_comesIn {E : EV} {d : Nat} (hd : 1 + 1 ≤ d) {k0 : Nat} {x1 : Int32} {x2 : Int32} {h : AH} {r0 : Int32} {h0 : AH} (hf : f_X0_comesIn k0 x1 x2 h = some (r0, h0)) (t_k0 : kd k0 = (0, 0)) : Con E d K_X0_comesIn (ZI E r0 h0) [.ref k0, .int x1, .int x2] h := by
  obtain ⟨d, rfl⟩ : ∃ d', d = d' + 1 := ⟨d - 1, by omega⟩
  have hd := Nat.le_of_succ_le_succ hd
  refine Con.ofV rfl (Nat.le_of_ble_eq_true rfl) ?_
  unfold f_X0_comesIn at hf
  show V E (d + 1) K_X0_comesIn (ZI E r0 h0) h [(0, .ref k0), (1, .int x1), (2, .int x2)] [] 0
  refine V_iload_n 2 dX0_comesIn_0 rfl rfl ?_
  refine V_if_eq (tgt := 16) dX0_comesIn_1 (by decide) (fun c_1 => ?_) (fun c_1 => ?_)
  · have hf := it_s c_1 hf
    refine V_aload_n 0 dX0_comesIn_16 rfl rfl ?_
    refine V_getR F_X0_22 rfl t_k0 rfl dX0_comesIn_17 ?_
    refine V_getR F_X0_111 rfl (rfO t_k0 (Nat.le_of_ble_eq_true rfl) rfl rfl) rfl dX0_comesIn_20 ?_
    refine V_iload_n 1 dX0_comesIn_23 rfl rfl ?_
    obtain ⟨b_2, hf⟩ := og_s hf
    refine V_iald (rfA (rfO t_k0 (Nat.le_of_ble_eq_true rfl) rfl rfl) (Nat.le_of_ble_eq_true rfl) rfl rfl (by decide)) b_2 dX0_comesIn_24 ?_
    refine V_sub [] rfl ?_
    exact v_X0_comesIn_25 hd hf
  · have hf := if_s c_1 hf
    refine V_aload_n 0 dX0_comesIn_4 rfl rfl ?_
    refine V_getR F_X0_18 rfl t_k0 rfl dX0_comesIn_5 ?_
    refine V_iload_n 1 dX0_comesIn_8 rfl rfl ?_
    refine V_iconst (v := 4) dX0_comesIn_9 (by decide) ?_
    obtain ⟨r_5, h_4, e_3, hf⟩ := ob_s hf
    refine V_cvi (As := [.int x1, .int 4]) (rest := []) (c_X6_item (d := d) (Nat.le_trans (Nat.le_of_ble_eq_true rfl) hd) e_3 (rfO t_k0 (Nat.le_of_ble_eq_true rfl) rfl rfl)) ML_X0_80 MV_X6_item rfl (rfO t_k0 (Nat.le_of_ble_eq_true rfl) rfl rfl) rfl rfl (Nat.le_of_ble_eq_true rfl) dX0_comesIn_10 ?_
    refine V_goto (tgt := 25) dX0_comesIn_13 (by decide) ?_
    refine V_sub [] rfl ?_
    exact v_X0_comesIn_25 hd hf
theorem dX2_forget_0 : decode cX2_forget 0 = .ok (.aload_n 0, 1) := by decide +kernel
theorem dX2_forget_1 : decode cX2_forget 1 = .ok (.getfield 18, 3) := by decide +kernel
theorem dX2_forget_4 : decode cX2_forget 4 = .ok (.bipush (-2), 2) := by decide +kernel
theorem dX2_forget_6 : decode cX2_forget 6 = .ok (.invokestatic 55, 3) := by decide +kernel
theorem dX2_forget_9 : decode cX2_forget 9 = .ok (.aload_n 0, 1) := by decide +kernel
theorem dX2_forget_10 : decode cX2_forget 10 = .ok (.getfield 21, 3) := by decide +kernel
theorem dX2_forget_13 : decode cX2_forget 13 = .ok (.bipush (-2), 2) := by decide +kernel
theorem dX2_forget_15 : decode cX2_forget 15 = .ok (.invokestatic 55, 3) := by decide +kernel
theorem dX2_forget_18 : decode cX2_forget 18 = .ok (.return_, 1) := by decide +kernel
theorem F_X2_18 : FLk RX2 18 2 4 := ⟨RX2, TX2, 7, rfl, rfl, iw_X2, by decide, Or.inl fl_X2_18⟩
theorem ML_X2_55 : MLk RX2 55 yJ7_fill_53178 := Or.inl ml_X2_55
theorem MS_J7_fill_53178 : MSk K_J7_fill_53178 2 := ⟨⟨cd_J7_fill_53178, in_J7, ⟨by decide, by decide, by decide +kernel⟩, by decide⟩, st_J7_fill_53178⟩
theorem F_X2_21 : FLk RX2 21 2 5 := ⟨RX2, TX2, 7, rfl, rfl, iw_X2, by decide, Or.inl fl_X2_21⟩
def f_X2_forget (k0 : Nat) (h : AH) : Option AH :=
  ov (f_J7_fill_53178 (rf k0 4) (-2) h) fun h_2 =>
  ov (f_J7_fill_53178 (rf k0 5) (-2) h_2) fun h_4 =>
  some h_4
set_option maxHeartbeats 4000000 in
set_option maxRecDepth 100000 in
theorem c_X2_forget {E : EV} {d : Nat} (hd : 1 + 1 ≤ d) {k0 : Nat} {h : AH} {h0 : AH} (hf : f_X2_forget k0 h = some h0) (t_k0 : kd k0 = (0, 2)) : Con E d K_X2_forget (ZV E h0) [.ref k0] h := by
  obtain ⟨d, rfl⟩ : ∃ d', d = d' + 1 := ⟨d - 1, by omega⟩
  have hd := Nat.le_of_succ_le_succ hd
  refine Con.ofV rfl (Nat.le_of_ble_eq_true rfl) ?_
  unfold f_X2_forget at hf
  show V E (d + 1) K_X2_forget (ZV E h0) h [(0, .ref k0)] [] 0
  refine V_aload_n 0 dX2_forget_0 rfl rfl ?_
  refine V_getR F_X2_18 rfl t_k0 rfl dX2_forget_1 ?_
  refine V_bipush (v := (-2)) dX2_forget_4 (by decide) ?_
  obtain ⟨h_2, e_1, hf⟩ := ov_s hf
  refine V_csv (As := [.ref (rf k0 4), .int (-2)]) (rest := []) (c_J7_fill_53178 (d := d) (Nat.le_trans (Nat.le_of_ble_eq_true rfl) hd) e_1 (rfA t_k0 (Nat.le_of_ble_eq_true rfl) rfl rfl (by decide))) ML_X2_55 MS_J7_fill_53178 rfl rfl rfl (Nat.le_of_ble_eq_true rfl) dX2_forget_6 ?_
  refine V_aload_n 0 dX2_forget_9 rfl rfl ?_
  refine V_getR F_X2_21 rfl t_k0 rfl dX2_forget_10 ?_
  refine V_bipush (v := (-2)) dX2_forget_13 (by decide) ?_
  obtain ⟨h_4, e_3, hf⟩ := ov_s hf
  refine V_csv (As := [.ref (rf k0 5), .int (-2)]) (rest := []) (c_J7_fill_53178 (d := d) (Nat.le_trans (Nat.le_of_ble_eq_true rfl) hd) e_3 (rfA t_k0 (Nat.le_of_ble_eq_true rfl) rfl rfl (by decide))) ML_X2_55 MS_J7_fill_53178 rfl rfl rfl (Nat.le_of_ble_eq_true rfl) dX2_forget_15 ?_
  exact V_vret rfl (so_s hf) dX2_forget_18
theorem dX5_begin_0 : decode cX5_begin 0 = .ok (.aload_n 0, 1) := by decide +kernel
theorem dX5_begin_1 : decode cX5_begin 1 = .ok (.getfield 18, 3) := by decide +kernel
theorem dX5_begin_4 : decode cX5_begin 4 = .ok (.iconst 0, 1) := by decide +kernel
theorem dX5_begin_5 : decode cX5_begin 5 = .ok (.iload_n 1, 1) := by decide +kernel
theorem dX5_begin_6 : decode cX5_begin 6 = .ok (.iastore, 1) := by decide +kernel
theorem dX5_begin_7 : decode cX5_begin 7 = .ok (.return_, 1) := by decide +kernel
theorem F_X5_18 : FLk RX5 18 5 4 := ⟨RX5, TX5, 6, rfl, rfl, iw_X5, by decide, Or.inl fl_X5_18⟩
def f_X5_begin (k0 : Nat) (x1 : Int32) (h : AH) : Option AH :=
  og (ix 0 (an (rf k0 4))) <|
  nm (sI h (rf k0 4) (0 : Int32).toNatClampNeg x1) fun h_2 =>
  some h_2
set_option maxHeartbeats 4000000 in
set_option maxRecDepth 100000 in
theorem c_X5_begin {E : EV} {d : Nat} (hd : 0 + 1 ≤ d) {k0 : Nat} {x1 : Int32} {h : AH} {h0 : AH} (hf : f_X5_begin k0 x1 h = some h0) (t_k0 : kd k0 = (0, 5)) : Con E d K_X5_begin (ZV E h0) [.ref k0, .int x1] h := by
  obtain ⟨d, rfl⟩ : ∃ d', d = d' + 1 := ⟨d - 1, by omega⟩
  have hd := Nat.le_of_succ_le_succ hd
  refine Con.ofV rfl (Nat.le_of_ble_eq_true rfl) ?_
  unfold f_X5_begin at hf
  show V E (d + 1) K_X5_begin (ZV E h0) h [(0, .ref k0), (1, .int x1)] [] 0
  refine V_aload_n 0 dX5_begin_0 rfl rfl ?_
  refine V_getR F_X5_18 rfl t_k0 rfl dX5_begin_1 ?_
  refine V_iconst (v := 0) dX5_begin_4 (by decide) ?_
  refine V_iload_n 1 dX5_begin_5 rfl rfl ?_
  obtain ⟨b_1, hf⟩ := og_s hf
  obtain ⟨h_2, e_3, hf⟩ := nm_s hf
  refine V_iast (rfA t_k0 (Nat.le_of_ble_eq_true rfl) rfl rfl (by decide)) b_1 e_3 dX5_begin_6 ?_
  exact V_vret rfl (so_s hf) dX5_begin_7
theorem dX6_canWear_0 : decode cX6_canWear 0 = .ok (.iload_n 2, 1) := by decide +kernel
theorem dX6_canWear_1 : decode cX6_canWear 1 = .ok (.aload_n 0, 1) := by decide +kernel
theorem dX6_canWear_2 : decode cX6_canWear 2 = .ok (.iload_n 1, 1) := by decide +kernel
theorem dX6_canWear_3 : decode cX6_canWear 3 = .ok (.iconst 0, 1) := by decide +kernel
theorem dX6_canWear_4 : decode cX6_canWear 4 = .ok (.invokevirtual 18, 3) := by decide +kernel
theorem dX6_canWear_7 : decode cX6_canWear 7 = .ok (.isub, 1) := by decide +kernel
theorem dX6_canWear_8 : decode cX6_canWear 8 = .ok (.istore_n 3, 1) := by decide +kernel
theorem dX6_canWear_9 : decode cX6_canWear 9 = .ok (.iload_n 3, 1) := by decide +kernel
theorem dX6_canWear_10 : decode cX6_canWear 10 = .ok (.ifCond .lt 17, 3) := by decide +kernel
theorem dX6_canWear_13 : decode cX6_canWear 13 = .ok (.iload_n 3, 1) := by decide +kernel
theorem dX6_canWear_14 : decode cX6_canWear 14 = .ok (.aload_n 0, 1) := by decide +kernel
theorem dX6_canWear_15 : decode cX6_canWear 15 = .ok (.iload_n 1, 1) := by decide +kernel
theorem dX6_canWear_16 : decode cX6_canWear 16 = .ok (.iconst 1, 1) := by decide +kernel
theorem dX6_canWear_17 : decode cX6_canWear 17 = .ok (.invokevirtual 18, 3) := by decide +kernel
theorem dX6_canWear_20 : decode cX6_canWear 20 = .ok (.if_icmp .gt 7, 3) := by decide +kernel
theorem dX6_canWear_23 : decode cX6_canWear 23 = .ok (.iconst 1, 1) := by decide +kernel
theorem dX6_canWear_24 : decode cX6_canWear 24 = .ok (.goto 4, 3) := by decide +kernel
theorem dX6_canWear_27 : decode cX6_canWear 27 = .ok (.iconst 0, 1) := by decide +kernel
theorem dX6_canWear_28 : decode cX6_canWear 28 = .ok (.ireturn, 1) := by decide +kernel
theorem ML_X6_18 : MLk RX6 18 yX6_item := Or.inl ml_X6_18
def f_X6_canWear_28 (s0 : Int32) (h : AH) : Option (Int32 × AH) :=
  og (bz s0) <|
  some (s0, h)
def f_X6_canWear_27  (h : AH) : Option (Int32 × AH) :=
  f_X6_canWear_28 0 h
def f_X6_canWear (k0 : Nat) (x1 : Int32) (x2 : Int32) (h : AH) : Option (Int32 × AH) :=
  ob (f_X6_item k0 x1 0 h) fun r_3 h_2 =>
  nm ((x2 - r_3)) fun x3_4 =>
  if x3_4 < 0 then (
    f_X6_canWear_27 h_2
  ) else (
    ob (f_X6_item k0 x1 1 h_2) fun r_9 h_8 =>
    if r_9 < x3_4 then (
      f_X6_canWear_27 h_8
    ) else (
      f_X6_canWear_28 1 h_8
    )
  )
set_option maxHeartbeats 4000000 in
set_option maxRecDepth 100000 in
theorem v_X6_canWear_28 {E : EV} {d : Nat} (hd : 1 ≤ d) {r0 : Int32} {h0 : AH} {s0 : Int32} {h : AH} (hf : f_X6_canWear_28 s0 h = some (r0, h0)) : V E (d + 1) K_X6_canWear (ZI E r0 h0) h [] [.int s0] 28 := by
  unfold f_X6_canWear_28 at hf
  obtain ⟨b_1, hf⟩ := og_s hf
  exact V_zret rfl b_1 (so_s hf) dX6_canWear_28
set_option maxHeartbeats 4000000 in
set_option maxRecDepth 100000 in
theorem v_X6_canWear_27 {E : EV} {d : Nat} (hd : 1 ≤ d) {r0 : Int32} {h0 : AH}  {h : AH} (hf : f_X6_canWear_27 h = some (r0, h0)) : V E (d + 1) K_X6_canWear (ZI E r0 h0) h [] [] 27 := by
  unfold f_X6_canWear_27 at hf
  refine V_iconst (v := 0) dX6_canWear_27 (by decide) ?_
  exact v_X6_canWear_28 hd hf
set_option maxHeartbeats 4000000 in
set_option maxRecDepth 100000 in
theorem c_X6_canWear {E : EV} {d : Nat} (hd : 1 + 1 ≤ d) {k0 : Nat} {x1 : Int32} {x2 : Int32} {h : AH} {r0 : Int32} {h0 : AH} (hf : f_X6_canWear k0 x1 x2 h = some (r0, h0)) (t_k0 : kd k0 = (0, 6)) : Con E d K_X6_canWear (ZI E r0 h0) [.ref k0, .int x1, .int x2] h := by
  obtain ⟨d, rfl⟩ : ∃ d', d = d' + 1 := ⟨d - 1, by omega⟩
  have hd := Nat.le_of_succ_le_succ hd
  refine Con.ofV rfl (Nat.le_of_ble_eq_true rfl) ?_
  unfold f_X6_canWear at hf
  show V E (d + 1) K_X6_canWear (ZI E r0 h0) h [(0, .ref k0), (1, .int x1), (2, .int x2)] [] 0
  refine V_iload_n 2 dX6_canWear_0 rfl rfl ?_
  refine V_aload_n 0 dX6_canWear_1 rfl rfl ?_
  refine V_iload_n 1 dX6_canWear_2 rfl rfl ?_
  refine V_iconst (v := 0) dX6_canWear_3 (by decide) ?_
  obtain ⟨r_3, h_2, e_1, hf⟩ := ob_s hf
  refine V_cvi (As := [.int x1, .int 0]) (rest := [.int x2]) (c_X6_item (d := d) (Nat.le_trans (Nat.le_of_ble_eq_true rfl) hd) e_1 t_k0) ML_X6_18 MV_X6_item rfl t_k0 rfl rfl (Nat.le_of_ble_eq_true rfl) dX6_canWear_4 ?_
  refine V_isub dX6_canWear_7 ?_
  obtain ⟨x3_4, e_5, hf⟩ := nm_s hf
  refine V_istore_n (L' := [(3, .int x3_4), (0, .ref k0), (1, .int x1), (2, .int x2)]) dX6_canWear_8 rfl (Nat.le_of_ble_eq_true rfl) e_5 rfl ?_
  refine V_iload_n 0 dX6_canWear_9 rfl rfl ?_
  refine V_if_lt (tgt := 27) dX6_canWear_10 (by decide) (fun c_6 => ?_) (fun c_6 => ?_)
  · have hf := it_s c_6 hf
    refine V_sub [] rfl ?_
    exact v_X6_canWear_27 hd hf
  · have hf := if_s c_6 hf
    refine V_iload_n 0 dX6_canWear_13 rfl rfl ?_
    refine V_aload_n 1 dX6_canWear_14 rfl rfl ?_
    refine V_iload_n 2 dX6_canWear_15 rfl rfl ?_
    refine V_iconst (v := 1) dX6_canWear_16 (by decide) ?_
    obtain ⟨r_9, h_8, e_7, hf⟩ := ob_s hf
    refine V_cvi (As := [.int x1, .int 1]) (rest := [.int x3_4]) (c_X6_item (d := d) (Nat.le_trans (Nat.le_of_ble_eq_true rfl) hd) e_7 t_k0) ML_X6_18 MV_X6_item rfl t_k0 rfl rfl (Nat.le_of_ble_eq_true rfl) dX6_canWear_17 ?_
    refine V_ic_gt (tgt := 27) dX6_canWear_20 (by decide) (fun c_10 => ?_) (fun c_10 => ?_)
    · have hf := it_s c_10 hf
      refine V_sub [] rfl ?_
      exact v_X6_canWear_27 hd hf
    · have hf := if_s c_10 hf
      refine V_iconst (v := 1) dX6_canWear_23 (by decide) ?_
      refine V_goto (tgt := 28) dX6_canWear_24 (by decide) ?_
      refine V_sub [] rfl ?_
      exact v_X6_canWear_28 hd hf
theorem dX7_endOfClause_0 : decode cX7_endOfClause 0 = .ok (.iload_n 1, 1) := by decide +kernel
theorem dX7_endOfClause_1 : decode cX7_endOfClause 1 = .ok (.istore_n 2, 1) := by decide +kernel
theorem dX7_endOfClause_2 : decode cX7_endOfClause 2 = .ok (.iload_n 2, 1) := by decide +kernel
theorem dX7_endOfClause_3 : decode cX7_endOfClause 3 = .ok (.aload_n 0, 1) := by decide +kernel
theorem dX7_endOfClause_4 : decode cX7_endOfClause 4 = .ok (.getfield 24, 3) := by decide +kernel
theorem dX7_endOfClause_7 : decode cX7_endOfClause 7 = .ok (.if_icmp .ge 20, 3) := by decide +kernel
theorem dX7_endOfClause_10 : decode cX7_endOfClause 10 = .ok (.aload_n 0, 1) := by decide +kernel
theorem dX7_endOfClause_11 : decode cX7_endOfClause 11 = .ok (.getfield 9, 3) := by decide +kernel
theorem dX7_endOfClause_14 : decode cX7_endOfClause 14 = .ok (.iload_n 2, 1) := by decide +kernel
theorem dX7_endOfClause_15 : decode cX7_endOfClause 15 = .ok (.iaload, 1) := by decide +kernel
theorem dX7_endOfClause_16 : decode cX7_endOfClause 16 = .ok (.bipush (-59), 2) := by decide +kernel
theorem dX7_endOfClause_18 : decode cX7_endOfClause 18 = .ok (.if_icmp .eq 9, 3) := by decide +kernel
theorem dX7_endOfClause_21 : decode cX7_endOfClause 21 = .ok (.iinc 2 1, 3) := by decide +kernel
theorem dX7_endOfClause_24 : decode cX7_endOfClause 24 = .ok (.goto (-22), 3) := by decide +kernel
theorem dX7_endOfClause_27 : decode cX7_endOfClause 27 = .ok (.iload_n 2, 1) := by decide +kernel
theorem dX7_endOfClause_28 : decode cX7_endOfClause 28 = .ok (.ireturn, 1) := by decide +kernel
theorem F_X7_24 : FLk RX7 24 7 2 := ⟨RX7, TX7, 3, rfl, rfl, iw_X7, by decide, Or.inl fl_X7_24⟩
theorem F_X7_9 : FLk RX7 9 7 0 := ⟨RX7, TX7, 3, rfl, rfl, iw_X7, by decide, Or.inl fl_X7_9⟩
def f_X7_endOfClause_27 (x2 : Int32) (h : AH) : Option (Int32 × AH) :=
  some (x2, h)
def f_X7_endOfClause_2 : Nat → Nat → Int32 → AH → Option (Int32 × AH)
  | 0, _, _, _ => none
  | n + 1, k0, x2, h =>
    if (h.1 k0 2) ≤ x2 then (
      f_X7_endOfClause_27 x2 h
    ) else (
      og (ix x2 (an (rf k0 0))) <|
      if (h.1 (rf k0 0) x2.toNatClampNeg) = (-59) then (
        f_X7_endOfClause_27 x2 h
      ) else (
        nm (x2 + 1) fun x2_4 =>
        f_X7_endOfClause_2 n k0 x2_4 h
      )
    )
def f_X7_endOfClause (k0 : Nat) (x1 : Int32) (h : AH) : Option (Int32 × AH) :=
  f_X7_endOfClause_2 FU k0 x1 h
set_option maxHeartbeats 4000000 in
set_option maxRecDepth 100000 in
theorem v_X7_endOfClause_27 {E : EV} {d : Nat} (hd : 0 ≤ d) {r0 : Int32} {h0 : AH} {x2 : Int32} {h : AH} (hf : f_X7_endOfClause_27 x2 h = some (r0, h0)) : V E (d + 1) K_X7_endOfClause (ZI E r0 h0) h [(2, .int x2)] [] 27 := by
  unfold f_X7_endOfClause_27 at hf
  refine V_iload_n 0 dX7_endOfClause_27 rfl rfl ?_
  exact V_iret rfl (so_s hf) dX7_endOfClause_28
set_option maxHeartbeats 4000000 in
set_option maxRecDepth 100000 in
theorem v_X7_endOfClause_2 {E : EV} {d : Nat} (hd : 0 ≤ d) {r0 : Int32} {h0 : AH} : ∀ (n : Nat) (k0 : Nat) (x2 : Int32) (h : AH), f_X7_endOfClause_2 n k0 x2 h = some (r0, h0) → kd k0 = (0, 7) → V E (d + 1) K_X7_endOfClause (ZI E r0 h0) h [(0, .ref k0), (2, .int x2)] [] 2 := by
  intro n
  induction n with
  | zero =>
    intro k0 x2 h hf
    rw [f_X7_endOfClause_2] at hf
    cases hf
  | succ n ih =>
    intro k0 x2 h hf t_k0
    rw [f_X7_endOfClause_2] at hf
    refine V_iload_n 1 dX7_endOfClause_2 rfl rfl ?_
    refine V_aload_n 0 dX7_endOfClause_3 rfl rfl ?_
    refine V_getI F_X7_24 rfl t_k0 rfl dX7_endOfClause_4 ?_
    refine V_ic_ge (tgt := 27) dX7_endOfClause_7 (by decide) (fun c_1 => ?_) (fun c_1 => ?_)
    · have hf := it_s c_1 hf
      refine V_sub [1] rfl ?_
      exact v_X7_endOfClause_27 hd hf
    · have hf := if_s c_1 hf
      refine V_aload_n 0 dX7_endOfClause_10 rfl rfl ?_
      refine V_getR F_X7_9 rfl t_k0 rfl dX7_endOfClause_11 ?_
      refine V_iload_n 1 dX7_endOfClause_14 rfl rfl ?_
      obtain ⟨b_2, hf⟩ := og_s hf
      refine V_iald (rfA t_k0 (Nat.le_of_ble_eq_true rfl) rfl rfl (by decide)) b_2 dX7_endOfClause_15 ?_
      refine V_bipush (v := (-59)) dX7_endOfClause_16 (by decide) ?_
      refine V_ic_eq (tgt := 27) dX7_endOfClause_18 (by decide) (fun c_3 => ?_) (fun c_3 => ?_)
      · have hf := it_s c_3 hf
        refine V_sub [1] rfl ?_
        exact v_X7_endOfClause_27 hd hf
      · have hf := if_s c_3 hf
        obtain ⟨x2_4, e_5, hf⟩ := nm_s hf
        refine V_iinc (a := 1) (L' := [(2, .int x2_4), (0, .ref k0)]) 1 dX7_endOfClause_21 rfl (by decide) (Nat.le_of_ble_eq_true rfl) e_5 rfl ?_
        refine V_goto (tgt := 2) dX7_endOfClause_24 (by decide) ?_
        refine V_sub [1, 0] rfl ?_
        exact ih _ _ _ hf t_k0
set_option maxHeartbeats 4000000 in
set_option maxRecDepth 100000 in
theorem c_X7_endOfClause {E : EV} {d : Nat} (hd : 0 + 1 ≤ d) {k0 : Nat} {x1 : Int32} {h : AH} {r0 : Int32} {h0 : AH} (hf : f_X7_endOfClause k0 x1 h = some (r0, h0)) (t_k0 : kd k0 = (0, 7)) : Con E d K_X7_endOfClause (ZI E r0 h0) [.ref k0, .int x1] h := by
  obtain ⟨d, rfl⟩ : ∃ d', d = d' + 1 := ⟨d - 1, by omega⟩
  have hd := Nat.le_of_succ_le_succ hd
  refine Con.ofV rfl (Nat.le_of_ble_eq_true rfl) ?_
  unfold f_X7_endOfClause at hf
  show V E (d + 1) K_X7_endOfClause (ZI E r0 h0) h [(0, .ref k0), (1, .int x1)] [] 0
  refine V_iload_n 1 dX7_endOfClause_0 rfl rfl ?_
  refine V_istore_n (L' := [(2, .int x1), (0, .ref k0), (1, .int x1)]) dX7_endOfClause_1 rfl (Nat.le_of_ble_eq_true rfl) rfl rfl ?_
  refine V_sub [1, 0] rfl ?_
  exact v_X7_endOfClause_2 hd FU _ _ _ hf t_k0
theorem dX7_reckon_0 : decode cX7_reckon 0 = .ok (.iload_n 0, 1) := by decide +kernel
theorem dX7_reckon_1 : decode cX7_reckon 1 = .ok (.lookupswitch 141 #[(38, 108), (42, 132), (43, 116), (45, 124), (60, 86), (61, 75), (62, 97), (124, 112)], 75) := by decide +kernel
theorem dX7_reckon_76 : decode cX7_reckon 76 = .ok (.iload_n 1, 1) := by decide +kernel
theorem dX7_reckon_77 : decode cX7_reckon 77 = .ok (.iload_n 2, 1) := by decide +kernel
theorem dX7_reckon_78 : decode cX7_reckon 78 = .ok (.if_icmp .ne 7, 3) := by decide +kernel
theorem dX7_reckon_81 : decode cX7_reckon 81 = .ok (.iconst 1, 1) := by decide +kernel
theorem dX7_reckon_82 : decode cX7_reckon 82 = .ok (.goto 4, 3) := by decide +kernel
theorem dX7_reckon_85 : decode cX7_reckon 85 = .ok (.iconst 0, 1) := by decide +kernel
theorem dX7_reckon_86 : decode cX7_reckon 86 = .ok (.ireturn, 1) := by decide +kernel
theorem dX7_reckon_87 : decode cX7_reckon 87 = .ok (.iload_n 1, 1) := by decide +kernel
theorem dX7_reckon_88 : decode cX7_reckon 88 = .ok (.iload_n 2, 1) := by decide +kernel
theorem dX7_reckon_89 : decode cX7_reckon 89 = .ok (.if_icmp .ge 7, 3) := by decide +kernel
theorem dX7_reckon_92 : decode cX7_reckon 92 = .ok (.iconst 1, 1) := by decide +kernel
theorem dX7_reckon_93 : decode cX7_reckon 93 = .ok (.goto 4, 3) := by decide +kernel
theorem dX7_reckon_96 : decode cX7_reckon 96 = .ok (.iconst 0, 1) := by decide +kernel
theorem dX7_reckon_97 : decode cX7_reckon 97 = .ok (.ireturn, 1) := by decide +kernel
theorem dX7_reckon_98 : decode cX7_reckon 98 = .ok (.iload_n 1, 1) := by decide +kernel
theorem dX7_reckon_99 : decode cX7_reckon 99 = .ok (.iload_n 2, 1) := by decide +kernel
theorem dX7_reckon_100 : decode cX7_reckon 100 = .ok (.if_icmp .le 7, 3) := by decide +kernel
theorem dX7_reckon_103 : decode cX7_reckon 103 = .ok (.iconst 1, 1) := by decide +kernel
theorem dX7_reckon_104 : decode cX7_reckon 104 = .ok (.goto 4, 3) := by decide +kernel
theorem dX7_reckon_107 : decode cX7_reckon 107 = .ok (.iconst 0, 1) := by decide +kernel
theorem dX7_reckon_108 : decode cX7_reckon 108 = .ok (.ireturn, 1) := by decide +kernel
theorem dX7_reckon_109 : decode cX7_reckon 109 = .ok (.iload_n 1, 1) := by decide +kernel
theorem dX7_reckon_110 : decode cX7_reckon 110 = .ok (.iload_n 2, 1) := by decide +kernel
theorem dX7_reckon_111 : decode cX7_reckon 111 = .ok (.iand, 1) := by decide +kernel
theorem dX7_reckon_112 : decode cX7_reckon 112 = .ok (.ireturn, 1) := by decide +kernel
theorem dX7_reckon_113 : decode cX7_reckon 113 = .ok (.iload_n 1, 1) := by decide +kernel
theorem dX7_reckon_114 : decode cX7_reckon 114 = .ok (.iload_n 2, 1) := by decide +kernel
theorem dX7_reckon_115 : decode cX7_reckon 115 = .ok (.ior, 1) := by decide +kernel
theorem dX7_reckon_116 : decode cX7_reckon 116 = .ok (.ireturn, 1) := by decide +kernel
theorem dX7_reckon_117 : decode cX7_reckon 117 = .ok (.iload_n 1, 1) := by decide +kernel
theorem dX7_reckon_118 : decode cX7_reckon 118 = .ok (.iload_n 2, 1) := by decide +kernel
theorem dX7_reckon_119 : decode cX7_reckon 119 = .ok (.iadd, 1) := by decide +kernel
theorem dX7_reckon_120 : decode cX7_reckon 120 = .ok (.i2l, 1) := by decide +kernel
theorem dX7_reckon_121 : decode cX7_reckon 121 = .ok (.lstore_n 3, 1) := by decide +kernel
theorem dX7_reckon_122 : decode cX7_reckon 122 = .ok (.goto 33, 3) := by decide +kernel
theorem dX7_reckon_125 : decode cX7_reckon 125 = .ok (.iload_n 1, 1) := by decide +kernel
theorem dX7_reckon_126 : decode cX7_reckon 126 = .ok (.iload_n 2, 1) := by decide +kernel
theorem dX7_reckon_127 : decode cX7_reckon 127 = .ok (.isub, 1) := by decide +kernel
theorem dX7_reckon_128 : decode cX7_reckon 128 = .ok (.i2l, 1) := by decide +kernel
theorem dX7_reckon_129 : decode cX7_reckon 129 = .ok (.lstore_n 3, 1) := by decide +kernel
theorem dX7_reckon_130 : decode cX7_reckon 130 = .ok (.goto 25, 3) := by decide +kernel
theorem dX7_reckon_133 : decode cX7_reckon 133 = .ok (.iload_n 1, 1) := by decide +kernel
theorem dX7_reckon_134 : decode cX7_reckon 134 = .ok (.i2l, 1) := by decide +kernel
theorem dX7_reckon_135 : decode cX7_reckon 135 = .ok (.iload_n 2, 1) := by decide +kernel
theorem dX7_reckon_136 : decode cX7_reckon 136 = .ok (.i2l, 1) := by decide +kernel
theorem dX7_reckon_137 : decode cX7_reckon 137 = .ok (.lmul, 1) := by decide +kernel
theorem dX7_reckon_138 : decode cX7_reckon 138 = .ok (.lstore_n 3, 1) := by decide +kernel
theorem dX7_reckon_139 : decode cX7_reckon 139 = .ok (.goto 16, 3) := by decide +kernel
theorem dX7_reckon_142 : decode cX7_reckon 142 = .ok (.iload_n 2, 1) := by decide +kernel
theorem dX7_reckon_143 : decode cX7_reckon 143 = .ok (.ifCond .ne 7, 3) := by decide +kernel
theorem dX7_reckon_146 : decode cX7_reckon 146 = .ok (.lconst 0, 1) := by decide +kernel
theorem dX7_reckon_147 : decode cX7_reckon 147 = .ok (.goto 7, 3) := by decide +kernel
theorem dX7_reckon_150 : decode cX7_reckon 150 = .ok (.iload_n 1, 1) := by decide +kernel
theorem dX7_reckon_151 : decode cX7_reckon 151 = .ok (.iload_n 2, 1) := by decide +kernel
theorem dX7_reckon_152 : decode cX7_reckon 152 = .ok (.idiv, 1) := by decide +kernel
theorem dX7_reckon_153 : decode cX7_reckon 153 = .ok (.i2l, 1) := by decide +kernel
theorem dX7_reckon_154 : decode cX7_reckon 154 = .ok (.lstore_n 3, 1) := by decide +kernel
theorem dX7_reckon_155 : decode cX7_reckon 155 = .ok (.lload_n 3, 1) := by decide +kernel
theorem dX7_reckon_156 : decode cX7_reckon 156 = .ok (.ldc2_w 40, 3) := by decide +kernel
theorem dX7_reckon_159 : decode cX7_reckon 159 = .ok (.lcmp, 1) := by decide +kernel
theorem dX7_reckon_160 : decode cX7_reckon 160 = .ok (.ifCond .le 8, 3) := by decide +kernel
theorem dX7_reckon_163 : decode cX7_reckon 163 = .ok (.ldc 42, 2) := by decide +kernel
theorem dX7_reckon_165 : decode cX7_reckon 165 = .ok (.goto 18, 3) := by decide +kernel
theorem dX7_reckon_168 : decode cX7_reckon 168 = .ok (.lload_n 3, 1) := by decide +kernel
theorem dX7_reckon_169 : decode cX7_reckon 169 = .ok (.ldc2_w 43, 3) := by decide +kernel
theorem dX7_reckon_172 : decode cX7_reckon 172 = .ok (.lcmp, 1) := by decide +kernel
theorem dX7_reckon_173 : decode cX7_reckon 173 = .ok (.ifCond .ge 8, 3) := by decide +kernel
theorem dX7_reckon_176 : decode cX7_reckon 176 = .ok (.ldc 45, 2) := by decide +kernel
theorem dX7_reckon_178 : decode cX7_reckon 178 = .ok (.goto 5, 3) := by decide +kernel
theorem dX7_reckon_181 : decode cX7_reckon 181 = .ok (.lload_n 3, 1) := by decide +kernel
theorem dX7_reckon_182 : decode cX7_reckon 182 = .ok (.l2i, 1) := by decide +kernel
theorem dX7_reckon_183 : decode cX7_reckon 183 = .ok (.ireturn, 1) := by decide +kernel
def f_X7_reckon_86 (s0 : Int32) (h : AH) : Option (Int32 × AH) :=
  some (s0, h)
def f_X7_reckon_97 (s0 : Int32) (h : AH) : Option (Int32 × AH) :=
  some (s0, h)
def f_X7_reckon_108 (s0 : Int32) (h : AH) : Option (Int32 × AH) :=
  some (s0, h)
def f_X7_reckon_183 (s0 : Int32) (h : AH) : Option (Int32 × AH) :=
  some (s0, h)
def f_X7_reckon_155 (l3 : Int64) (h : AH) : Option (Int32 × AH) :=
  if (lg_cmp l3 1000000) ≤ 0 then (
    if 0 ≤ (lg_cmp l3 (-1000000)) then (
      f_X7_reckon_183 ((l3).toInt32) h
    ) else (
      f_X7_reckon_183 (-1000000) h
    )
  ) else (
    f_X7_reckon_183 1000000 h
  )
def f_X7_reckon_154 (sl0 : Int64) (h : AH) : Option (Int32 × AH) :=
  f_X7_reckon_155 sl0 h
def f_X7_reckon (x0 : Int32) (x1 : Int32) (x2 : Int32) (h : AH) : Option (Int32 × AH) :=
  if x0 = 38 then (
    some ((x1 &&& x2), h)
  ) else (
    if x0 = 42 then (
      nm ((((x1).toInt64) * ((x2).toInt64))) fun l3_3 =>
      f_X7_reckon_155 l3_3 h
    ) else (
      if x0 = 43 then (
        nm ((((x1 + x2)).toInt64)) fun l3_6 =>
        f_X7_reckon_155 l3_6 h
      ) else (
        if x0 = 45 then (
          nm ((((x1 - x2)).toInt64)) fun l3_9 =>
          f_X7_reckon_155 l3_9 h
        ) else (
          if x0 = 60 then (
            if x2 ≤ x1 then (
              f_X7_reckon_97 0 h
            ) else (
              f_X7_reckon_97 1 h
            )
          ) else (
            if x0 = 61 then (
              if x1 = x2 then (
                f_X7_reckon_86 1 h
              ) else (
                f_X7_reckon_86 0 h
              )
            ) else (
              if x0 = 62 then (
                if x1 ≤ x2 then (
                  f_X7_reckon_108 0 h
                ) else (
                  f_X7_reckon_108 1 h
                )
              ) else (
                if x0 = 124 then (
                  some ((x1 ||| x2), h)
                ) else (
                  if x2 = 0 then (
                    f_X7_reckon_154 0 h
                  ) else (
                    og (decide (¬ x2 = 0)) <|
                    f_X7_reckon_154 (((x1 / x2)).toInt64) h
                  )
  ))))))))
set_option maxHeartbeats 4000000 in
set_option maxRecDepth 100000 in
theorem v_X7_reckon_86 {E : EV} {d : Nat} (hd : 0 ≤ d) {r0 : Int32} {h0 : AH} {s0 : Int32} {h : AH} (hf : f_X7_reckon_86 s0 h = some (r0, h0)) : V E (d + 1) K_X7_reckon (ZI E r0 h0) h [] [.int s0] 86 := by
  unfold f_X7_reckon_86 at hf
  exact V_iret rfl (so_s hf) dX7_reckon_86
set_option maxHeartbeats 4000000 in
set_option maxRecDepth 100000 in
theorem v_X7_reckon_97 {E : EV} {d : Nat} (hd : 0 ≤ d) {r0 : Int32} {h0 : AH} {s0 : Int32} {h : AH} (hf : f_X7_reckon_97 s0 h = some (r0, h0)) : V E (d + 1) K_X7_reckon (ZI E r0 h0) h [] [.int s0] 97 := by
  unfold f_X7_reckon_97 at hf
  exact V_iret rfl (so_s hf) dX7_reckon_97
set_option maxHeartbeats 4000000 in
set_option maxRecDepth 100000 in
theorem v_X7_reckon_108 {E : EV} {d : Nat} (hd : 0 ≤ d) {r0 : Int32} {h0 : AH} {s0 : Int32} {h : AH} (hf : f_X7_reckon_108 s0 h = some (r0, h0)) : V E (d + 1) K_X7_reckon (ZI E r0 h0) h [] [.int s0] 108 := by
  unfold f_X7_reckon_108 at hf
  exact V_iret rfl (so_s hf) dX7_reckon_108
set_option maxHeartbeats 4000000 in
set_option maxRecDepth 100000 in
theorem v_X7_reckon_183 {E : EV} {d : Nat} (hd : 0 ≤ d) {r0 : Int32} {h0 : AH} {s0 : Int32} {h : AH} (hf : f_X7_reckon_183 s0 h = some (r0, h0)) : V E (d + 1) K_X7_reckon (ZI E r0 h0) h [] [.int s0] 183 := by
  unfold f_X7_reckon_183 at hf
  exact V_iret rfl (so_s hf) dX7_reckon_183
set_option maxHeartbeats 4000000 in
set_option maxRecDepth 100000 in
theorem v_X7_reckon_155 {E : EV} {d : Nat} (hd : 0 ≤ d) {r0 : Int32} {h0 : AH} {l3 : Int64} {h : AH} (hf : f_X7_reckon_155 l3 h = some (r0, h0)) : V E (d + 1) K_X7_reckon (ZI E r0 h0) h [(3, .long l3)] [] 155 := by
  unfold f_X7_reckon_155 at hf
  refine V_lload_n 0 dX7_reckon_155 rfl rfl ?_
  refine V_ldc2 (v := 1000000) rfl kl_X7_40 dX7_reckon_156 ?_
  refine V_lcmp dX7_reckon_159 ?_
  refine V_if_le (tgt := 168) dX7_reckon_160 (by decide) (fun c_1 => ?_) (fun c_1 => ?_)
  · have hf := it_s c_1 hf
    refine V_lload_n 0 dX7_reckon_168 rfl rfl ?_
    refine V_ldc2 (v := (-1000000)) rfl kl_X7_43 dX7_reckon_169 ?_
    refine V_lcmp dX7_reckon_172 ?_
    refine V_if_ge (tgt := 181) dX7_reckon_173 (by decide) (fun c_2 => ?_) (fun c_2 => ?_)
    · have hf := it_s c_2 hf
      refine V_lload_n 0 dX7_reckon_181 rfl rfl ?_
      refine V_l2i dX7_reckon_182 ?_
      refine V_sub [] rfl ?_
      exact v_X7_reckon_183 hd hf
    · have hf := if_s c_2 hf
      refine V_ldc (v := (-1000000)) rfl kc_X7_45 dX7_reckon_176 ?_
      refine V_goto (tgt := 183) dX7_reckon_178 (by decide) ?_
      refine V_sub [] rfl ?_
      exact v_X7_reckon_183 hd hf
  · have hf := if_s c_1 hf
    refine V_ldc (v := 1000000) rfl kc_X7_42 dX7_reckon_163 ?_
    refine V_goto (tgt := 183) dX7_reckon_165 (by decide) ?_
    refine V_sub [] rfl ?_
    exact v_X7_reckon_183 hd hf
set_option maxHeartbeats 4000000 in
set_option maxRecDepth 100000 in
theorem v_X7_reckon_154 {E : EV} {d : Nat} (hd : 0 ≤ d) {r0 : Int32} {h0 : AH} {sl0 : Int64} {h : AH} (hf : f_X7_reckon_154 sl0 h = some (r0, h0)) : V E (d + 1) K_X7_reckon (ZI E r0 h0) h [] [.long sl0] 154 := by
  unfold f_X7_reckon_154 at hf
  refine V_lstore_n (L' := [(3, .long sl0)]) dX7_reckon_154 rfl (Nat.le_of_ble_eq_true rfl) rfl rfl ?_
  exact v_X7_reckon_155 hd hf
set_option maxHeartbeats 4000000 in
set_option maxRecDepth 100000 in
theorem c_X7_reckon {E : EV} {d : Nat} (hd : 0 + 1 ≤ d) {x0 : Int32} {x1 : Int32} {x2 : Int32} {h : AH} {r0 : Int32} {h0 : AH} (hf : f_X7_reckon x0 x1 x2 h = some (r0, h0)) : Con E d K_X7_reckon (ZI E r0 h0) [.int x0, .int x1, .int x2] h := by
  obtain ⟨d, rfl⟩ : ∃ d', d = d' + 1 := ⟨d - 1, by omega⟩
  have hd := Nat.le_of_succ_le_succ hd
  refine Con.ofV rfl (Nat.le_of_ble_eq_true rfl) ?_
  unfold f_X7_reckon at hf
  show V E (d + 1) K_X7_reckon (ZI E r0 h0) h [(0, .int x0), (1, .int x1), (2, .int x2)] [] 0
  refine V_iload_n 0 dX7_reckon_0 rfl rfl ?_
  by_cases c_1 : x0 = 38
  · have hf := it_s c_1 hf
    refine V_lks (off := 108) (tgt := 109) dX7_reckon_1 (by decide) (by rw [c_1]; decide) (by decide) ?_
    refine V_iload_n 1 dX7_reckon_109 rfl rfl ?_
    refine V_iload_n 2 dX7_reckon_110 rfl rfl ?_
    refine V_iand dX7_reckon_111 ?_
    exact V_iret rfl (so_s hf) dX7_reckon_112
  · have hf := if_s c_1 hf
    by_cases c_2 : x0 = 42
    · have hf := it_s c_2 hf
      refine V_lks (off := 132) (tgt := 133) dX7_reckon_1 (by decide) (by rw [c_2]; decide) (by decide) ?_
      refine V_iload_n 1 dX7_reckon_133 rfl rfl ?_
      refine V_i2l dX7_reckon_134 ?_
      refine V_iload_n 2 dX7_reckon_135 rfl rfl ?_
      refine V_i2l dX7_reckon_136 ?_
      refine V_lmul dX7_reckon_137 ?_
      obtain ⟨l3_3, e_4, hf⟩ := nm_s hf
      refine V_lstore_n (L' := [(3, .long l3_3), (0, .int x0), (1, .int x1), (2, .int x2)]) dX7_reckon_138 rfl (Nat.le_of_ble_eq_true rfl) e_4 rfl ?_
      refine V_goto (tgt := 155) dX7_reckon_139 (by decide) ?_
      refine V_sub [0] rfl ?_
      exact v_X7_reckon_155 hd hf
    · have hf := if_s c_2 hf
      by_cases c_5 : x0 = 43
      · have hf := it_s c_5 hf
        refine V_lks (off := 116) (tgt := 117) dX7_reckon_1 (by decide) (by rw [c_5]; decide) (by decide) ?_
        refine V_iload_n 1 dX7_reckon_117 rfl rfl ?_
        refine V_iload_n 2 dX7_reckon_118 rfl rfl ?_
        refine V_iadd dX7_reckon_119 ?_
        refine V_i2l dX7_reckon_120 ?_
        obtain ⟨l3_6, e_7, hf⟩ := nm_s hf
        refine V_lstore_n (L' := [(3, .long l3_6), (0, .int x0), (1, .int x1), (2, .int x2)]) dX7_reckon_121 rfl (Nat.le_of_ble_eq_true rfl) e_7 rfl ?_
        refine V_goto (tgt := 155) dX7_reckon_122 (by decide) ?_
        refine V_sub [0] rfl ?_
        exact v_X7_reckon_155 hd hf
      · have hf := if_s c_5 hf
        by_cases c_8 : x0 = 45
        · have hf := it_s c_8 hf
          refine V_lks (off := 124) (tgt := 125) dX7_reckon_1 (by decide) (by rw [c_8]; decide) (by decide) ?_
          refine V_iload_n 1 dX7_reckon_125 rfl rfl ?_
          refine V_iload_n 2 dX7_reckon_126 rfl rfl ?_
          refine V_isub dX7_reckon_127 ?_
          refine V_i2l dX7_reckon_128 ?_
          obtain ⟨l3_9, e_10, hf⟩ := nm_s hf
          refine V_lstore_n (L' := [(3, .long l3_9), (0, .int x0), (1, .int x1), (2, .int x2)]) dX7_reckon_129 rfl (Nat.le_of_ble_eq_true rfl) e_10 rfl ?_
          refine V_goto (tgt := 155) dX7_reckon_130 (by decide) ?_
          refine V_sub [0] rfl ?_
          exact v_X7_reckon_155 hd hf
        · have hf := if_s c_8 hf
          by_cases c_11 : x0 = 60
          · have hf := it_s c_11 hf
            refine V_lks (off := 86) (tgt := 87) dX7_reckon_1 (by decide) (by rw [c_11]; decide) (by decide) ?_
            refine V_iload_n 1 dX7_reckon_87 rfl rfl ?_
            refine V_iload_n 2 dX7_reckon_88 rfl rfl ?_
            refine V_ic_ge (tgt := 96) dX7_reckon_89 (by decide) (fun c_12 => ?_) (fun c_12 => ?_)
            · have hf := it_s c_12 hf
              refine V_iconst (v := 0) dX7_reckon_96 (by decide) ?_
              refine V_sub [] rfl ?_
              exact v_X7_reckon_97 hd hf
            · have hf := if_s c_12 hf
              refine V_iconst (v := 1) dX7_reckon_92 (by decide) ?_
              refine V_goto (tgt := 97) dX7_reckon_93 (by decide) ?_
              refine V_sub [] rfl ?_
              exact v_X7_reckon_97 hd hf
          · have hf := if_s c_11 hf
            by_cases c_13 : x0 = 61
            · have hf := it_s c_13 hf
              refine V_lks (off := 75) (tgt := 76) dX7_reckon_1 (by decide) (by rw [c_13]; decide) (by decide) ?_
              refine V_iload_n 1 dX7_reckon_76 rfl rfl ?_
              refine V_iload_n 2 dX7_reckon_77 rfl rfl ?_
              refine V_ic_ne (tgt := 85) dX7_reckon_78 (by decide) (fun c_14 => ?_) (fun c_14 => ?_)
              · have hf := if_s c_14 hf
                refine V_iconst (v := 0) dX7_reckon_85 (by decide) ?_
                refine V_sub [] rfl ?_
                exact v_X7_reckon_86 hd hf
              · have hf := it_s c_14 hf
                refine V_iconst (v := 1) dX7_reckon_81 (by decide) ?_
                refine V_goto (tgt := 86) dX7_reckon_82 (by decide) ?_
                refine V_sub [] rfl ?_
                exact v_X7_reckon_86 hd hf
            · have hf := if_s c_13 hf
              by_cases c_15 : x0 = 62
              · have hf := it_s c_15 hf
                refine V_lks (off := 97) (tgt := 98) dX7_reckon_1 (by decide) (by rw [c_15]; decide) (by decide) ?_
                refine V_iload_n 1 dX7_reckon_98 rfl rfl ?_
                refine V_iload_n 2 dX7_reckon_99 rfl rfl ?_
                refine V_ic_le (tgt := 107) dX7_reckon_100 (by decide) (fun c_16 => ?_) (fun c_16 => ?_)
                · have hf := it_s c_16 hf
                  refine V_iconst (v := 0) dX7_reckon_107 (by decide) ?_
                  refine V_sub [] rfl ?_
                  exact v_X7_reckon_108 hd hf
                · have hf := if_s c_16 hf
                  refine V_iconst (v := 1) dX7_reckon_103 (by decide) ?_
                  refine V_goto (tgt := 108) dX7_reckon_104 (by decide) ?_
                  refine V_sub [] rfl ?_
                  exact v_X7_reckon_108 hd hf
              · have hf := if_s c_15 hf
                by_cases c_17 : x0 = 124
                · have hf := it_s c_17 hf
                  refine V_lks (off := 112) (tgt := 113) dX7_reckon_1 (by decide) (by rw [c_17]; decide) (by decide) ?_
                  refine V_iload_n 1 dX7_reckon_113 rfl rfl ?_
                  refine V_iload_n 2 dX7_reckon_114 rfl rfl ?_
                  refine V_ior dX7_reckon_115 ?_
                  exact V_iret rfl (so_s hf) dX7_reckon_116
                · have hf := if_s c_17 hf
                  refine V_lks (off := 141) (tgt := 142) dX7_reckon_1 (by decide) ((lv_osw c_1 (by decide)).trans ((lv_osw c_2 (by decide)).trans ((lv_osw c_5 (by decide)).trans ((lv_osw c_8 (by decide)).trans ((lv_osw c_11 (by decide)).trans ((lv_osw c_13 (by decide)).trans ((lv_osw c_15 (by decide)).trans ((lv_osw c_17 (by decide)).trans (rfl))))))))) (by decide) ?_
                  refine V_iload_n 2 dX7_reckon_142 rfl rfl ?_
                  refine V_if_ne (tgt := 150) dX7_reckon_143 (by decide) (fun c_18 => ?_) (fun c_18 => ?_)
                  · have hf := if_s c_18 hf
                    refine V_iload_n 1 dX7_reckon_150 rfl rfl ?_
                    refine V_iload_n 2 dX7_reckon_151 rfl rfl ?_
                    obtain ⟨b_19, hf⟩ := og_s hf
                    refine V_idiv dX7_reckon_152 (of_decide_eq_true b_19) ?_
                    refine V_i2l dX7_reckon_153 ?_
                    refine V_sub [] rfl ?_
                    exact v_X7_reckon_154 hd hf
                  · have hf := it_s c_18 hf
                    refine V_lconst (v := 0) dX7_reckon_146 (by decide) ?_
                    refine V_goto (tgt := 154) dX7_reckon_147 (by decide) ?_
                    refine V_sub [] rfl ?_
                    exact v_X7_reckon_154 hd hf
theorem dX7_value_0 : decode cX7_value 0 = .ok (.iconst 0, 1) := by decide +kernel
theorem dX7_value_1 : decode cX7_value 1 = .ok (.istore_n 2, 1) := by decide +kernel
theorem dX7_value_2 : decode cX7_value 2 = .ok (.iconst 0, 1) := by decide +kernel
theorem dX7_value_3 : decode cX7_value 3 = .ok (.istore_n 3, 1) := by decide +kernel
theorem dX7_value_4 : decode cX7_value 4 = .ok (.iload_n 3, 1) := by decide +kernel
theorem dX7_value_5 : decode cX7_value 5 = .ok (.aload_n 0, 1) := by decide +kernel
theorem dX7_value_6 : decode cX7_value 6 = .ok (.getfield 24, 3) := by decide +kernel
theorem dX7_value_9 : decode cX7_value 9 = .ok (.if_icmp .ge 182, 3) := by decide +kernel
theorem dX7_value_12 : decode cX7_value 12 = .ok (.aload_n 0, 1) := by decide +kernel
theorem dX7_value_13 : decode cX7_value 13 = .ok (.getfield 9, 3) := by decide +kernel
theorem dX7_value_16 : decode cX7_value 16 = .ok (.iload_n 3, 1) := by decide +kernel
theorem dX7_value_17 : decode cX7_value 17 = .ok (.iaload, 1) := by decide +kernel
theorem dX7_value_18 : decode cX7_value 18 = .ok (.istore 4, 2) := by decide +kernel
theorem dX7_value_20 : decode cX7_value 20 = .ok (.iload 4, 2) := by decide +kernel
theorem dX7_value_22 : decode cX7_value 22 = .ok (.ifCond .lt 42, 3) := by decide +kernel
theorem dX7_value_25 : decode cX7_value 25 = .ok (.iload_n 2, 1) := by decide +kernel
theorem dX7_value_26 : decode cX7_value 26 = .ok (.bipush 64, 2) := by decide +kernel
theorem dX7_value_28 : decode cX7_value 28 = .ok (.if_icmp .ge 157, 3) := by decide +kernel
theorem dX7_value_31 : decode cX7_value 31 = .ok (.aload_n 0, 1) := by decide +kernel
theorem dX7_value_32 : decode cX7_value 32 = .ok (.getfield 15, 3) := by decide +kernel
theorem dX7_value_35 : decode cX7_value 35 = .ok (.iload_n 2, 1) := by decide +kernel
theorem dX7_value_36 : decode cX7_value 36 = .ok (.iload 4, 2) := by decide +kernel
theorem dX7_value_38 : decode cX7_value 38 = .ok (.sipush 10000, 3) := by decide +kernel
theorem dX7_value_41 : decode cX7_value 41 = .ok (.if_icmp .ge 8, 3) := by decide +kernel
theorem dX7_value_44 : decode cX7_value 44 = .ok (.iload 4, 2) := by decide +kernel
theorem dX7_value_46 : decode cX7_value 46 = .ok (.goto 11, 3) := by decide +kernel
theorem dX7_value_49 : decode cX7_value 49 = .ok (.aload_n 1, 1) := by decide +kernel
theorem dX7_value_50 : decode cX7_value 50 = .ok (.iload 4, 2) := by decide +kernel
theorem dX7_value_52 : decode cX7_value 52 = .ok (.sipush 10000, 3) := by decide +kernel
theorem dX7_value_55 : decode cX7_value 55 = .ok (.isub, 1) := by decide +kernel
theorem dX7_value_56 : decode cX7_value 56 = .ok (.iaload, 1) := by decide +kernel
theorem dX7_value_57 : decode cX7_value 57 = .ok (.iastore, 1) := by decide +kernel
theorem dX7_value_58 : decode cX7_value 58 = .ok (.iinc 2 1, 3) := by decide +kernel
theorem dX7_value_61 : decode cX7_value 61 = .ok (.goto 124, 3) := by decide +kernel
theorem dX7_value_64 : decode cX7_value 64 = .ok (.iload 4, 2) := by decide +kernel
theorem dX7_value_66 : decode cX7_value 66 = .ok (.bipush (-59), 2) := by decide +kernel
theorem dX7_value_68 : decode cX7_value 68 = .ok (.if_icmp .ne 18, 3) := by decide +kernel
theorem dX7_value_71 : decode cX7_value 71 = .ok (.iload_n 2, 1) := by decide +kernel
theorem dX7_value_72 : decode cX7_value 72 = .ok (.ifCond .le 12, 3) := by decide +kernel
theorem dX7_value_75 : decode cX7_value 75 = .ok (.aload_n 0, 1) := by decide +kernel
theorem dX7_value_76 : decode cX7_value 76 = .ok (.getfield 15, 3) := by decide +kernel
theorem dX7_value_79 : decode cX7_value 79 = .ok (.iconst 0, 1) := by decide +kernel
theorem dX7_value_80 : decode cX7_value 80 = .ok (.iaload, 1) := by decide +kernel
theorem dX7_value_81 : decode cX7_value 81 = .ok (.goto 4, 3) := by decide +kernel
theorem dX7_value_84 : decode cX7_value 84 = .ok (.iconst 0, 1) := by decide +kernel
theorem dX7_value_85 : decode cX7_value 85 = .ok (.ireturn, 1) := by decide +kernel
theorem dX7_value_86 : decode cX7_value 86 = .ok (.iload 4, 2) := by decide +kernel
theorem dX7_value_88 : decode cX7_value 88 = .ok (.bipush (-63), 2) := by decide +kernel
theorem dX7_value_90 : decode cX7_value 90 = .ok (.if_icmp .ne 27, 3) := by decide +kernel
theorem dX7_value_93 : decode cX7_value 93 = .ok (.iload_n 2, 1) := by decide +kernel
theorem dX7_value_94 : decode cX7_value 94 = .ok (.ifCond .le 18, 3) := by decide +kernel
theorem dX7_value_97 : decode cX7_value 97 = .ok (.aload_n 0, 1) := by decide +kernel
theorem dX7_value_98 : decode cX7_value 98 = .ok (.getfield 15, 3) := by decide +kernel
theorem dX7_value_101 : decode cX7_value 101 = .ok (.iconst 0, 1) := by decide +kernel
theorem dX7_value_102 : decode cX7_value 102 = .ok (.iaload, 1) := by decide +kernel
theorem dX7_value_103 : decode cX7_value 103 = .ok (.ifCond .ne 9, 3) := by decide +kernel
theorem dX7_value_106 : decode cX7_value 106 = .ok (.aload_n 0, 1) := by decide +kernel
theorem dX7_value_107 : decode cX7_value 107 = .ok (.iload_n 3, 1) := by decide +kernel
theorem dX7_value_108 : decode cX7_value 108 = .ok (.invokevirtual 32, 3) := by decide +kernel
theorem dX7_value_111 : decode cX7_value 111 = .ok (.istore_n 3, 1) := by decide +kernel
theorem dX7_value_112 : decode cX7_value 112 = .ok (.iconst 0, 1) := by decide +kernel
theorem dX7_value_113 : decode cX7_value 113 = .ok (.istore_n 2, 1) := by decide +kernel
theorem dX7_value_114 : decode cX7_value 114 = .ok (.goto 71, 3) := by decide +kernel
theorem dX7_value_117 : decode cX7_value 117 = .ok (.iload 4, 2) := by decide +kernel
theorem dX7_value_119 : decode cX7_value 119 = .ok (.bipush (-33), 2) := by decide +kernel
theorem dX7_value_121 : decode cX7_value 121 = .ok (.if_icmp .ne 28, 3) := by decide +kernel
theorem dX7_value_124 : decode cX7_value 124 = .ok (.iload_n 2, 1) := by decide +kernel
theorem dX7_value_125 : decode cX7_value 125 = .ok (.ifCond .le 60, 3) := by decide +kernel
theorem dX7_value_128 : decode cX7_value 128 = .ok (.aload_n 0, 1) := by decide +kernel
theorem dX7_value_129 : decode cX7_value 129 = .ok (.getfield 15, 3) := by decide +kernel
theorem dX7_value_132 : decode cX7_value 132 = .ok (.iload_n 2, 1) := by decide +kernel
theorem dX7_value_133 : decode cX7_value 133 = .ok (.iconst 1, 1) := by decide +kernel
theorem dX7_value_134 : decode cX7_value 134 = .ok (.isub, 1) := by decide +kernel
theorem dX7_value_135 : decode cX7_value 135 = .ok (.iconst 1, 1) := by decide +kernel
theorem dX7_value_136 : decode cX7_value 136 = .ok (.aload_n 0, 1) := by decide +kernel
theorem dX7_value_137 : decode cX7_value 137 = .ok (.getfield 15, 3) := by decide +kernel
theorem dX7_value_140 : decode cX7_value 140 = .ok (.iload_n 2, 1) := by decide +kernel
theorem dX7_value_141 : decode cX7_value 141 = .ok (.iconst 1, 1) := by decide +kernel
theorem dX7_value_142 : decode cX7_value 142 = .ok (.isub, 1) := by decide +kernel
theorem dX7_value_143 : decode cX7_value 143 = .ok (.iaload, 1) := by decide +kernel
theorem dX7_value_144 : decode cX7_value 144 = .ok (.isub, 1) := by decide +kernel
theorem dX7_value_145 : decode cX7_value 145 = .ok (.iastore, 1) := by decide +kernel
theorem dX7_value_146 : decode cX7_value 146 = .ok (.goto 39, 3) := by decide +kernel
theorem dX7_value_149 : decode cX7_value 149 = .ok (.iload_n 2, 1) := by decide +kernel
theorem dX7_value_150 : decode cX7_value 150 = .ok (.iconst 1, 1) := by decide +kernel
theorem dX7_value_151 : decode cX7_value 151 = .ok (.if_icmp .le 34, 3) := by decide +kernel
theorem dX7_value_154 : decode cX7_value 154 = .ok (.iinc 2 (-1), 3) := by decide +kernel
theorem dX7_value_157 : decode cX7_value 157 = .ok (.aload_n 0, 1) := by decide +kernel
theorem dX7_value_158 : decode cX7_value 158 = .ok (.getfield 15, 3) := by decide +kernel
theorem dX7_value_161 : decode cX7_value 161 = .ok (.iload_n 2, 1) := by decide +kernel
theorem dX7_value_162 : decode cX7_value 162 = .ok (.iconst 1, 1) := by decide +kernel
theorem dX7_value_163 : decode cX7_value 163 = .ok (.isub, 1) := by decide +kernel
theorem dX7_value_164 : decode cX7_value 164 = .ok (.iload 4, 2) := by decide +kernel
theorem dX7_value_166 : decode cX7_value 166 = .ok (.ineg, 1) := by decide +kernel
theorem dX7_value_167 : decode cX7_value 167 = .ok (.aload_n 0, 1) := by decide +kernel
theorem dX7_value_168 : decode cX7_value 168 = .ok (.getfield 15, 3) := by decide +kernel
theorem dX7_value_171 : decode cX7_value 171 = .ok (.iload_n 2, 1) := by decide +kernel
theorem dX7_value_172 : decode cX7_value 172 = .ok (.iconst 1, 1) := by decide +kernel
theorem dX7_value_173 : decode cX7_value 173 = .ok (.isub, 1) := by decide +kernel
theorem dX7_value_174 : decode cX7_value 174 = .ok (.iaload, 1) := by decide +kernel
theorem dX7_value_175 : decode cX7_value 175 = .ok (.aload_n 0, 1) := by decide +kernel
theorem dX7_value_176 : decode cX7_value 176 = .ok (.getfield 15, 3) := by decide +kernel
theorem dX7_value_179 : decode cX7_value 179 = .ok (.iload_n 2, 1) := by decide +kernel
theorem dX7_value_180 : decode cX7_value 180 = .ok (.iaload, 1) := by decide +kernel
theorem dX7_value_181 : decode cX7_value 181 = .ok (.invokestatic 36, 3) := by decide +kernel
theorem dX7_value_184 : decode cX7_value 184 = .ok (.iastore, 1) := by decide +kernel
theorem dX7_value_185 : decode cX7_value 185 = .ok (.iinc 3 1, 3) := by decide +kernel
theorem dX7_value_188 : decode cX7_value 188 = .ok (.goto (-184), 3) := by decide +kernel
theorem dX7_value_191 : decode cX7_value 191 = .ok (.iconst 0, 1) := by decide +kernel
theorem dX7_value_192 : decode cX7_value 192 = .ok (.ireturn, 1) := by decide +kernel
theorem F_X7_15 : FLk RX7 15 7 1 := ⟨RX7, TX7, 3, rfl, rfl, iw_X7, by decide, Or.inl fl_X7_15⟩
theorem ML_X7_36 : MLk RX7 36 yX7_reckon := Or.inl ml_X7_36
theorem MS_X7_reckon : MSk K_X7_reckon 3 := ⟨⟨cd_X7_reckon, in_X7, ⟨by decide, by decide, by decide +kernel⟩, by decide⟩, st_X7_reckon⟩
theorem ML_X7_32 : MLk RX7 32 yX7_endOfClause := Or.inl ml_X7_32
theorem MV_X7_endOfClause : MVk K_X7_endOfClause 1 7 := ⟨⟨cd_X7_endOfClause, in_X7, ⟨by decide, by decide, by decide +kernel⟩, by decide⟩, im_X7_endOfClause, se_X7_endOfClause, _, _, rfl⟩
def f_X7_value_185 (q4 : Nat → Nat → Int32 → Int32 → AH → Option (Int32 × AH)) (k0 : Nat) (k1 : Nat) (x2 : Int32) (x3 : Int32) (h : AH) : Option (Int32 × AH) :=
  nm (x3 + 1) fun x3_1 =>
  q4 k0 k1 x2 x3_1 h
def f_X7_value_57 (q4 : Nat → Nat → Int32 → Int32 → AH → Option (Int32 × AH)) (k0 : Nat) (k1 : Nat) (x2 : Int32) (x3 : Int32) (s0 : Int32) (s1 : Int32) (sk2 : Nat) (h : AH) : Option (Int32 × AH) :=
  og (ix s1 (an sk2)) <|
  nm (sI h sk2 s1.toNatClampNeg s0) fun h_2 =>
  nm (x2 + 1) fun x2_4 =>
  f_X7_value_185 q4 k0 k1 x2_4 x3 h_2
def f_X7_value_85 (s0 : Int32) (h : AH) : Option (Int32 × AH) :=
  some (s0, h)
def f_X7_value_112 (q4 : Nat → Nat → Int32 → Int32 → AH → Option (Int32 × AH)) (k0 : Nat) (k1 : Nat) (x3 : Int32) (h : AH) : Option (Int32 × AH) :=
  f_X7_value_185 q4 k0 k1 0 x3 h
def f_X7_value_4 : Nat → Nat → Nat → Int32 → Int32 → AH → Option (Int32 × AH)
  | 0, _, _, _, _, _ => none
  | n + 1, k0, k1, x2, x3, h =>
    if (h.1 k0 2) ≤ x3 then (
      some (0, h)
    ) else (
      og (ix x3 (an (rf k0 0))) <|
      nm ((h.1 (rf k0 0) x3.toNatClampNeg)) fun x4_3 =>
      if x4_3 < 0 then (
        if x4_3 = (-59) then (
          if x2 ≤ 0 then (
            f_X7_value_85 0 h
          ) else (
            og (ix 0 (an (rf k0 1))) <|
            f_X7_value_85 (h.1 (rf k0 1) (0 : Int32).toNatClampNeg) h
          )
        ) else (
          if x4_3 = (-63) then (
            if x2 ≤ 0 then (
              f_X7_value_112 (f_X7_value_4 n) k0 k1 x3 h
            ) else (
              og (ix 0 (an (rf k0 1))) <|
              if (h.1 (rf k0 1) (0 : Int32).toNatClampNeg) = 0 then (
                ob (f_X7_endOfClause k0 x3 h) fun r_30 h_29 =>
                f_X7_value_112 (f_X7_value_4 n) k0 k1 r_30 h_29
              ) else (
                f_X7_value_112 (f_X7_value_4 n) k0 k1 x3 h
              )
            )
          ) else (
            if x4_3 = (-33) then (
              if x2 ≤ 0 then (
                f_X7_value_185 (f_X7_value_4 n) k0 k1 x2 x3 h
              ) else (
                og (ix (x2 - 1) (an (rf k0 1))) <|
                og (ix (x2 - 1) (an (rf k0 1))) <|
                nm (sI h (rf k0 1) (x2 - 1).toNatClampNeg (1 - (h.1 (rf k0 1) (x2 - 1).toNatClampNeg))) fun h_23 =>
                f_X7_value_185 (f_X7_value_4 n) k0 k1 x2 x3 h_23
              )
            ) else (
              if x2 ≤ 1 then (
                f_X7_value_185 (f_X7_value_4 n) k0 k1 x2 x3 h
              ) else (
                nm (x2 + (-1)) fun x2_10 =>
                og (ix (x2_10 - 1) (an (rf k0 1))) <|
                og (ix x2_10 (an (rf k0 1))) <|
                ob (f_X7_reckon (-x4_3) (h.1 (rf k0 1) (x2_10 - 1).toNatClampNeg) (h.1 (rf k0 1) x2_10.toNatClampNeg) h) fun r_16 h_15 =>
                og (ix (x2_10 - 1) (an (rf k0 1))) <|
                nm (sI h_15 (rf k0 1) (x2_10 - 1).toNatClampNeg r_16) fun h_18 =>
                f_X7_value_185 (f_X7_value_4 n) k0 k1 x2_10 x3 h_18
              )
            )
          )
        )
      ) else (
        if 64 ≤ x2 then (
          f_X7_value_185 (f_X7_value_4 n) k0 k1 x2 x3 h
        ) else (
          if 10000 ≤ x4_3 then (
            og (ix (x4_3 - 10000) (an k1)) <|
            f_X7_value_57 (f_X7_value_4 n) k0 k1 x2 x3 (h.1 k1 (x4_3 - 10000).toNatClampNeg) x2 (rf k0 1) h
          ) else (
            f_X7_value_57 (f_X7_value_4 n) k0 k1 x2 x3 x4_3 x2 (rf k0 1) h
          )
        )
      )
    )
def f_X7_value (k0 : Nat) (k1 : Nat) (h : AH) : Option (Int32 × AH) :=
  f_X7_value_4 FU k0 k1 0 0 h
set_option maxHeartbeats 4000000 in
set_option maxRecDepth 100000 in
theorem v_X7_value_185 {E : EV} {d : Nat} (hd : 1 ≤ d) {r0 : Int32} {h0 : AH} {q4 : Nat → Nat → Int32 → Int32 → AH → Option (Int32 × AH)} (cq4 : ∀ (k0 : Nat) (k1 : Nat) (x2 : Int32) (x3 : Int32) (h : AH), q4 k0 k1 x2 x3 h = some (r0, h0) → kd k0 = (0, 7) → (kd k1).1 = 1 → V E (d + 1) K_X7_value (ZI E r0 h0) h [(0, .ref k0), (1, .ref k1), (2, .int x2), (3, .int x3)] [] 4) {k0 : Nat} {k1 : Nat} {x2 : Int32} {x3 : Int32} {h : AH} (hf : f_X7_value_185 q4 k0 k1 x2 x3 h = some (r0, h0)) (t_k0 : kd k0 = (0, 7)) (t_k1 : (kd k1).1 = 1) : V E (d + 1) K_X7_value (ZI E r0 h0) h [(0, .ref k0), (1, .ref k1), (2, .int x2), (3, .int x3)] [] 185 := by
  unfold f_X7_value_185 at hf
  obtain ⟨x3_1, e_2, hf⟩ := nm_s hf
  refine V_iinc (a := 1) (L' := [(3, .int x3_1), (0, .ref k0), (1, .ref k1), (2, .int x2)]) 3 dX7_value_185 rfl (by decide) (Nat.le_of_ble_eq_true rfl) e_2 rfl ?_
  refine V_goto (tgt := 4) dX7_value_188 (by decide) ?_
  refine V_sub [1, 2, 3, 0] rfl ?_
  exact cq4 _ _ _ _ _ hf t_k0 t_k1
set_option maxHeartbeats 4000000 in
set_option maxRecDepth 100000 in
theorem v_X7_value_57 {E : EV} {d : Nat} (hd : 1 ≤ d) {r0 : Int32} {h0 : AH} {q4 : Nat → Nat → Int32 → Int32 → AH → Option (Int32 × AH)} (cq4 : ∀ (k0 : Nat) (k1 : Nat) (x2 : Int32) (x3 : Int32) (h : AH), q4 k0 k1 x2 x3 h = some (r0, h0) → kd k0 = (0, 7) → (kd k1).1 = 1 → V E (d + 1) K_X7_value (ZI E r0 h0) h [(0, .ref k0), (1, .ref k1), (2, .int x2), (3, .int x3)] [] 4) {k0 : Nat} {k1 : Nat} {x2 : Int32} {x3 : Int32} {s0 : Int32} {s1 : Int32} {sk2 : Nat} {h : AH} (hf : f_X7_value_57 q4 k0 k1 x2 x3 s0 s1 sk2 h = some (r0, h0)) (t_k0 : kd k0 = (0, 7)) (t_k1 : (kd k1).1 = 1) (t_sk2 : (kd sk2).1 = 1) : V E (d + 1) K_X7_value (ZI E r0 h0) h [(0, .ref k0), (1, .ref k1), (2, .int x2), (3, .int x3)] [.int s0, .int s1, .ref sk2] 57 := by
  unfold f_X7_value_57 at hf
  obtain ⟨b_1, hf⟩ := og_s hf
  obtain ⟨h_2, e_3, hf⟩ := nm_s hf
  refine V_iast t_sk2 b_1 e_3 dX7_value_57 ?_
  obtain ⟨x2_4, e_5, hf⟩ := nm_s hf
  refine V_iinc (a := 1) (L' := [(2, .int x2_4), (0, .ref k0), (1, .ref k1), (3, .int x3)]) 2 dX7_value_58 rfl (by decide) (Nat.le_of_ble_eq_true rfl) e_5 rfl ?_
  refine V_goto (tgt := 185) dX7_value_61 (by decide) ?_
  refine V_sub [1, 2, 0, 3] rfl ?_
  exact v_X7_value_185 hd cq4 hf t_k0 t_k1
set_option maxHeartbeats 4000000 in
set_option maxRecDepth 100000 in
theorem v_X7_value_85 {E : EV} {d : Nat} (hd : 1 ≤ d) {r0 : Int32} {h0 : AH} {s0 : Int32} {h : AH} (hf : f_X7_value_85 s0 h = some (r0, h0)) : V E (d + 1) K_X7_value (ZI E r0 h0) h [] [.int s0] 85 := by
  unfold f_X7_value_85 at hf
  exact V_iret rfl (so_s hf) dX7_value_85
set_option maxHeartbeats 4000000 in
set_option maxRecDepth 100000 in
theorem v_X7_value_112 {E : EV} {d : Nat} (hd : 1 ≤ d) {r0 : Int32} {h0 : AH} {q4 : Nat → Nat → Int32 → Int32 → AH → Option (Int32 × AH)} (cq4 : ∀ (k0 : Nat) (k1 : Nat) (x2 : Int32) (x3 : Int32) (h : AH), q4 k0 k1 x2 x3 h = some (r0, h0) → kd k0 = (0, 7) → (kd k1).1 = 1 → V E (d + 1) K_X7_value (ZI E r0 h0) h [(0, .ref k0), (1, .ref k1), (2, .int x2), (3, .int x3)] [] 4) {k0 : Nat} {k1 : Nat} {x3 : Int32} {h : AH} (hf : f_X7_value_112 q4 k0 k1 x3 h = some (r0, h0)) (t_k0 : kd k0 = (0, 7)) (t_k1 : (kd k1).1 = 1) : V E (d + 1) K_X7_value (ZI E r0 h0) h [(0, .ref k0), (1, .ref k1), (3, .int x3)] [] 112 := by
  unfold f_X7_value_112 at hf
  refine V_iconst (v := 0) dX7_value_112 (by decide) ?_
  refine V_istore_n (L' := [(2, .int 0), (0, .ref k0), (1, .ref k1), (3, .int x3)]) dX7_value_113 rfl (Nat.le_of_ble_eq_true rfl) rfl rfl ?_
  refine V_goto (tgt := 185) dX7_value_114 (by decide) ?_
  refine V_sub [1, 2, 0, 3] rfl ?_
  exact v_X7_value_185 hd cq4 hf t_k0 t_k1
set_option maxHeartbeats 4000000 in
set_option maxRecDepth 100000 in
theorem v_X7_value_4 {E : EV} {d : Nat} (hd : 1 ≤ d) {r0 : Int32} {h0 : AH} : ∀ (n : Nat) (k0 : Nat) (k1 : Nat) (x2 : Int32) (x3 : Int32) (h : AH), f_X7_value_4 n k0 k1 x2 x3 h = some (r0, h0) → kd k0 = (0, 7) → (kd k1).1 = 1 → V E (d + 1) K_X7_value (ZI E r0 h0) h [(0, .ref k0), (1, .ref k1), (2, .int x2), (3, .int x3)] [] 4 := by
  intro n
  induction n with
  | zero =>
    intro k0 k1 x2 x3 h hf
    rw [f_X7_value_4] at hf
    cases hf
  | succ n ih =>
    intro k0 k1 x2 x3 h hf t_k0 t_k1
    rw [f_X7_value_4] at hf
    refine V_iload_n 3 dX7_value_4 rfl rfl ?_
    refine V_aload_n 0 dX7_value_5 rfl rfl ?_
    refine V_getI F_X7_24 rfl t_k0 rfl dX7_value_6 ?_
    refine V_ic_ge (tgt := 191) dX7_value_9 (by decide) (fun c_1 => ?_) (fun c_1 => ?_)
    · have hf := it_s c_1 hf
      refine V_iconst (v := 0) dX7_value_191 (by decide) ?_
      exact V_iret rfl (so_s hf) dX7_value_192
    · have hf := if_s c_1 hf
      refine V_aload_n 0 dX7_value_12 rfl rfl ?_
      refine V_getR F_X7_9 rfl t_k0 rfl dX7_value_13 ?_
      refine V_iload_n 3 dX7_value_16 rfl rfl ?_
      obtain ⟨b_2, hf⟩ := og_s hf
      refine V_iald (rfA t_k0 (Nat.le_of_ble_eq_true rfl) rfl rfl (by decide)) b_2 dX7_value_17 ?_
      obtain ⟨x4_3, e_4, hf⟩ := nm_s hf
      refine V_istore (L' := [(4, .int x4_3), (0, .ref k0), (1, .ref k1), (2, .int x2), (3, .int x3)]) dX7_value_18 (Nat.le_of_ble_eq_true rfl) e_4 rfl ?_
      refine V_iload 0 dX7_value_20 rfl ?_
      refine V_if_lt (tgt := 64) dX7_value_22 (by decide) (fun c_5 => ?_) (fun c_5 => ?_)
      · have hf := it_s c_5 hf
        refine V_iload 0 dX7_value_64 rfl ?_
        refine V_bipush (v := (-59)) dX7_value_66 (by decide) ?_
        refine V_ic_ne (tgt := 86) dX7_value_68 (by decide) (fun c_6 => ?_) (fun c_6 => ?_)
        · have hf := if_s c_6 hf
          refine V_iload 0 dX7_value_86 rfl ?_
          refine V_bipush (v := (-63)) dX7_value_88 (by decide) ?_
          refine V_ic_ne (tgt := 117) dX7_value_90 (by decide) (fun c_7 => ?_) (fun c_7 => ?_)
          · have hf := if_s c_7 hf
            refine V_iload 0 dX7_value_117 rfl ?_
            refine V_bipush (v := (-33)) dX7_value_119 (by decide) ?_
            refine V_ic_ne (tgt := 149) dX7_value_121 (by decide) (fun c_8 => ?_) (fun c_8 => ?_)
            · have hf := if_s c_8 hf
              refine V_iload_n 3 dX7_value_149 rfl rfl ?_
              refine V_iconst (v := 1) dX7_value_150 (by decide) ?_
              refine V_ic_le (tgt := 185) dX7_value_151 (by decide) (fun c_9 => ?_) (fun c_9 => ?_)
              · have hf := it_s c_9 hf
                refine V_sub [1, 2, 3, 4] rfl ?_
                exact v_X7_value_185 hd ih hf t_k0 t_k1
              · have hf := if_s c_9 hf
                obtain ⟨x2_10, e_11, hf⟩ := nm_s hf
                refine V_iinc (a := (-1)) (L' := [(2, .int x2_10), (4, .int x4_3), (0, .ref k0), (1, .ref k1), (3, .int x3)]) 3 dX7_value_154 rfl (by decide) (Nat.le_of_ble_eq_true rfl) e_11 rfl ?_
                refine V_aload_n 2 dX7_value_157 rfl rfl ?_
                refine V_getR F_X7_15 rfl t_k0 rfl dX7_value_158 ?_
                refine V_iload_n 0 dX7_value_161 rfl rfl ?_
                refine V_iconst (v := 1) dX7_value_162 (by decide) ?_
                refine V_isub dX7_value_163 ?_
                refine V_iload 1 dX7_value_164 rfl ?_
                refine V_ineg dX7_value_166 ?_
                refine V_aload_n 2 dX7_value_167 rfl rfl ?_
                refine V_getR F_X7_15 rfl t_k0 rfl dX7_value_168 ?_
                refine V_iload_n 0 dX7_value_171 rfl rfl ?_
                refine V_iconst (v := 1) dX7_value_172 (by decide) ?_
                refine V_isub dX7_value_173 ?_
                obtain ⟨b_12, hf⟩ := og_s hf
                refine V_iald (rfA t_k0 (Nat.le_of_ble_eq_true rfl) rfl rfl (by decide)) b_12 dX7_value_174 ?_
                refine V_aload_n 2 dX7_value_175 rfl rfl ?_
                refine V_getR F_X7_15 rfl t_k0 rfl dX7_value_176 ?_
                refine V_iload_n 0 dX7_value_179 rfl rfl ?_
                obtain ⟨b_13, hf⟩ := og_s hf
                refine V_iald (rfA t_k0 (Nat.le_of_ble_eq_true rfl) rfl rfl (by decide)) b_13 dX7_value_180 ?_
                obtain ⟨r_16, h_15, e_14, hf⟩ := ob_s hf
                refine V_csi (As := [.int (-x4_3), .int (h.1 (rf k0 1) (x2_10 - 1).toNatClampNeg), .int (h.1 (rf k0 1) x2_10.toNatClampNeg)]) (rest := [.int (x2_10 - 1), .ref (rf k0 1)]) (c_X7_reckon (d := d) (Nat.le_trans (Nat.le_of_ble_eq_true rfl) hd) e_14) ML_X7_36 MS_X7_reckon rfl rfl rfl (Nat.le_of_ble_eq_true rfl) dX7_value_181 ?_
                obtain ⟨b_17, hf⟩ := og_s hf
                obtain ⟨h_18, e_19, hf⟩ := nm_s hf
                refine V_iast (rfA t_k0 (Nat.le_of_ble_eq_true rfl) rfl rfl (by decide)) b_17 e_19 dX7_value_184 ?_
                refine V_sub [2, 3, 0, 4] rfl ?_
                exact v_X7_value_185 hd ih hf t_k0 t_k1
            · have hf := it_s c_8 hf
              refine V_iload_n 3 dX7_value_124 rfl rfl ?_
              refine V_if_le (tgt := 185) dX7_value_125 (by decide) (fun c_20 => ?_) (fun c_20 => ?_)
              · have hf := it_s c_20 hf
                refine V_sub [1, 2, 3, 4] rfl ?_
                exact v_X7_value_185 hd ih hf t_k0 t_k1
              · have hf := if_s c_20 hf
                refine V_aload_n 1 dX7_value_128 rfl rfl ?_
                refine V_getR F_X7_15 rfl t_k0 rfl dX7_value_129 ?_
                refine V_iload_n 3 dX7_value_132 rfl rfl ?_
                refine V_iconst (v := 1) dX7_value_133 (by decide) ?_
                refine V_isub dX7_value_134 ?_
                refine V_iconst (v := 1) dX7_value_135 (by decide) ?_
                refine V_aload_n 1 dX7_value_136 rfl rfl ?_
                refine V_getR F_X7_15 rfl t_k0 rfl dX7_value_137 ?_
                refine V_iload_n 3 dX7_value_140 rfl rfl ?_
                refine V_iconst (v := 1) dX7_value_141 (by decide) ?_
                refine V_isub dX7_value_142 ?_
                obtain ⟨b_21, hf⟩ := og_s hf
                refine V_iald (rfA t_k0 (Nat.le_of_ble_eq_true rfl) rfl rfl (by decide)) b_21 dX7_value_143 ?_
                refine V_isub dX7_value_144 ?_
                obtain ⟨b_22, hf⟩ := og_s hf
                obtain ⟨h_23, e_24, hf⟩ := nm_s hf
                refine V_iast (rfA t_k0 (Nat.le_of_ble_eq_true rfl) rfl rfl (by decide)) b_22 e_24 dX7_value_145 ?_
                refine V_goto (tgt := 185) dX7_value_146 (by decide) ?_
                refine V_sub [1, 2, 3, 4] rfl ?_
                exact v_X7_value_185 hd ih hf t_k0 t_k1
          · have hf := it_s c_7 hf
            refine V_iload_n 3 dX7_value_93 rfl rfl ?_
            refine V_if_le (tgt := 112) dX7_value_94 (by decide) (fun c_25 => ?_) (fun c_25 => ?_)
            · have hf := it_s c_25 hf
              refine V_sub [1, 2, 4] rfl ?_
              exact v_X7_value_112 hd ih hf t_k0 t_k1
            · have hf := if_s c_25 hf
              refine V_aload_n 1 dX7_value_97 rfl rfl ?_
              refine V_getR F_X7_15 rfl t_k0 rfl dX7_value_98 ?_
              refine V_iconst (v := 0) dX7_value_101 (by decide) ?_
              obtain ⟨b_26, hf⟩ := og_s hf
              refine V_iald (rfA t_k0 (Nat.le_of_ble_eq_true rfl) rfl rfl (by decide)) b_26 dX7_value_102 ?_
              refine V_if_ne (tgt := 112) dX7_value_103 (by decide) (fun c_27 => ?_) (fun c_27 => ?_)
              · have hf := if_s c_27 hf
                refine V_sub [1, 2, 4] rfl ?_
                exact v_X7_value_112 hd ih hf t_k0 t_k1
              · have hf := it_s c_27 hf
                refine V_aload_n 1 dX7_value_106 rfl rfl ?_
                refine V_iload_n 4 dX7_value_107 rfl rfl ?_
                obtain ⟨r_30, h_29, e_28, hf⟩ := ob_s hf
                refine V_cvi (As := [.int x3]) (rest := []) (c_X7_endOfClause (d := d) (Nat.le_trans (Nat.le_of_ble_eq_true rfl) hd) e_28 t_k0) ML_X7_32 MV_X7_endOfClause rfl t_k0 rfl rfl (Nat.le_of_ble_eq_true rfl) dX7_value_108 ?_
                refine V_istore_n (L' := [(3, .int r_30), (4, .int x4_3), (0, .ref k0), (1, .ref k1), (2, .int x2)]) dX7_value_111 rfl (Nat.le_of_ble_eq_true rfl) rfl rfl ?_
                refine V_sub [2, 3, 0] rfl ?_
                exact v_X7_value_112 hd ih hf t_k0 t_k1
        · have hf := it_s c_6 hf
          refine V_iload_n 3 dX7_value_71 rfl rfl ?_
          refine V_if_le (tgt := 84) dX7_value_72 (by decide) (fun c_31 => ?_) (fun c_31 => ?_)
          · have hf := it_s c_31 hf
            refine V_iconst (v := 0) dX7_value_84 (by decide) ?_
            refine V_sub [] rfl ?_
            exact v_X7_value_85 hd hf
          · have hf := if_s c_31 hf
            refine V_aload_n 1 dX7_value_75 rfl rfl ?_
            refine V_getR F_X7_15 rfl t_k0 rfl dX7_value_76 ?_
            refine V_iconst (v := 0) dX7_value_79 (by decide) ?_
            obtain ⟨b_32, hf⟩ := og_s hf
            refine V_iald (rfA t_k0 (Nat.le_of_ble_eq_true rfl) rfl rfl (by decide)) b_32 dX7_value_80 ?_
            refine V_goto (tgt := 85) dX7_value_81 (by decide) ?_
            refine V_sub [] rfl ?_
            exact v_X7_value_85 hd hf
      · have hf := if_s c_5 hf
        refine V_iload_n 3 dX7_value_25 rfl rfl ?_
        refine V_bipush (v := 64) dX7_value_26 (by decide) ?_
        refine V_ic_ge (tgt := 185) dX7_value_28 (by decide) (fun c_33 => ?_) (fun c_33 => ?_)
        · have hf := it_s c_33 hf
          refine V_sub [1, 2, 3, 4] rfl ?_
          exact v_X7_value_185 hd ih hf t_k0 t_k1
        · have hf := if_s c_33 hf
          refine V_aload_n 1 dX7_value_31 rfl rfl ?_
          refine V_getR F_X7_15 rfl t_k0 rfl dX7_value_32 ?_
          refine V_iload_n 3 dX7_value_35 rfl rfl ?_
          refine V_iload 0 dX7_value_36 rfl ?_
          refine V_sipush (v := 10000) dX7_value_38 (by decide) ?_
          refine V_ic_ge (tgt := 49) dX7_value_41 (by decide) (fun c_34 => ?_) (fun c_34 => ?_)
          · have hf := it_s c_34 hf
            refine V_aload_n 2 dX7_value_49 rfl rfl ?_
            refine V_iload 0 dX7_value_50 rfl ?_
            refine V_sipush (v := 10000) dX7_value_52 (by decide) ?_
            refine V_isub dX7_value_55 ?_
            obtain ⟨b_35, hf⟩ := og_s hf
            refine V_iald t_k1 b_35 dX7_value_56 ?_
            refine V_sub [1, 2, 3, 4] rfl ?_
            exact v_X7_value_57 hd ih hf t_k0 t_k1 (rfA t_k0 (Nat.le_of_ble_eq_true rfl) rfl rfl (by decide))
          · have hf := if_s c_34 hf
            refine V_iload 0 dX7_value_44 rfl ?_
            refine V_goto (tgt := 57) dX7_value_46 (by decide) ?_
            refine V_sub [1, 2, 3, 4] rfl ?_
            exact v_X7_value_57 hd ih hf t_k0 t_k1 (rfA t_k0 (Nat.le_of_ble_eq_true rfl) rfl rfl (by decide))
set_option maxHeartbeats 4000000 in
set_option maxRecDepth 100000 in
theorem c_X7_value {E : EV} {d : Nat} (hd : 1 + 1 ≤ d) {k0 : Nat} {k1 : Nat} {h : AH} {r0 : Int32} {h0 : AH} (hf : f_X7_value k0 k1 h = some (r0, h0)) (t_k0 : kd k0 = (0, 7)) (t_k1 : (kd k1).1 = 1) : Con E d K_X7_value (ZI E r0 h0) [.ref k0, .ref k1] h := by
  obtain ⟨d, rfl⟩ : ∃ d', d = d' + 1 := ⟨d - 1, by omega⟩
  have hd := Nat.le_of_succ_le_succ hd
  refine Con.ofV rfl (Nat.le_of_ble_eq_true rfl) ?_
  unfold f_X7_value at hf
  show V E (d + 1) K_X7_value (ZI E r0 h0) h [(0, .ref k0), (1, .ref k1)] [] 0
  refine V_iconst (v := 0) dX7_value_0 (by decide) ?_
  refine V_istore_n (L' := [(2, .int 0), (0, .ref k0), (1, .ref k1)]) dX7_value_1 rfl (Nat.le_of_ble_eq_true rfl) rfl rfl ?_
  refine V_iconst (v := 0) dX7_value_2 (by decide) ?_
  refine V_istore_n (L' := [(3, .int 0), (2, .int 0), (0, .ref k0), (1, .ref k1)]) dX7_value_3 rfl (Nat.le_of_ble_eq_true rfl) rfl rfl ?_
  refine V_sub [2, 3, 1, 0] rfl ?_
  exact v_X7_value_4 hd FU _ _ _ _ _ hf t_k0 t_k1
theorem dX2_desire_0 : decode cX2_desire 0 = .ok (.iload_n 1, 1) := by decide +kernel
theorem dX2_desire_1 : decode cX2_desire 1 = .ok (.bipush 6, 2) := by decide +kernel
theorem dX2_desire_3 : decode cX2_desire 3 = .ok (.imul, 1) := by decide +kernel
theorem dX2_desire_4 : decode cX2_desire 4 = .ok (.iload_n 2, 1) := by decide +kernel
theorem dX2_desire_5 : decode cX2_desire 5 = .ok (.iadd, 1) := by decide +kernel
theorem dX2_desire_6 : decode cX2_desire 6 = .ok (.bipush 7, 2) := by decide +kernel
theorem dX2_desire_8 : decode cX2_desire 8 = .ok (.imul, 1) := by decide +kernel
theorem dX2_desire_9 : decode cX2_desire 9 = .ok (.iload_n 3, 1) := by decide +kernel
theorem dX2_desire_10 : decode cX2_desire 10 = .ok (.iadd, 1) := by decide +kernel
theorem dX2_desire_11 : decode cX2_desire 11 = .ok (.istore 4, 2) := by decide +kernel
theorem dX2_desire_13 : decode cX2_desire 13 = .ok (.aload_n 0, 1) := by decide +kernel
theorem dX2_desire_14 : decode cX2_desire 14 = .ok (.getfield 18, 3) := by decide +kernel
theorem dX2_desire_17 : decode cX2_desire 17 = .ok (.iload 4, 2) := by decide +kernel
theorem dX2_desire_19 : decode cX2_desire 19 = .ok (.iaload, 1) := by decide +kernel
theorem dX2_desire_20 : decode cX2_desire 20 = .ok (.bipush (-2), 2) := by decide +kernel
theorem dX2_desire_22 : decode cX2_desire 22 = .ok (.if_icmp .eq 11, 3) := by decide +kernel
theorem dX2_desire_25 : decode cX2_desire 25 = .ok (.aload_n 0, 1) := by decide +kernel
theorem dX2_desire_26 : decode cX2_desire 26 = .ok (.getfield 18, 3) := by decide +kernel
theorem dX2_desire_29 : decode cX2_desire 29 = .ok (.iload 4, 2) := by decide +kernel
theorem dX2_desire_31 : decode cX2_desire 31 = .ok (.iaload, 1) := by decide +kernel
theorem dX2_desire_32 : decode cX2_desire 32 = .ok (.ireturn, 1) := by decide +kernel
theorem dX2_desire_33 : decode cX2_desire 33 = .ok (.aload_n 0, 1) := by decide +kernel
theorem dX2_desire_34 : decode cX2_desire 34 = .ok (.getfield 35, 3) := by decide +kernel
theorem dX2_desire_37 : decode cX2_desire 37 = .ok (.getfield 75, 3) := by decide +kernel
theorem dX2_desire_40 : decode cX2_desire 40 = .ok (.iload_n 1, 1) := by decide +kernel
theorem dX2_desire_41 : decode cX2_desire 41 = .ok (.iaload, 1) := by decide +kernel
theorem dX2_desire_42 : decode cX2_desire 42 = .ok (.istore 5, 2) := by decide +kernel
theorem dX2_desire_44 : decode cX2_desire 44 = .ok (.iload 5, 2) := by decide +kernel
theorem dX2_desire_46 : decode cX2_desire 46 = .ok (.iconst (-1), 1) := by decide +kernel
theorem dX2_desire_47 : decode cX2_desire 47 = .ok (.if_icmp .ne 37, 3) := by decide +kernel
theorem dX2_desire_50 : decode cX2_desire 50 = .ok (.aload_n 0, 1) := by decide +kernel
theorem dX2_desire_51 : decode cX2_desire 51 = .ok (.getfield 35, 3) := by decide +kernel
theorem dX2_desire_54 : decode cX2_desire 54 = .ok (.iload_n 1, 1) := by decide +kernel
theorem dX2_desire_55 : decode cX2_desire 55 = .ok (.aload_n 0, 1) := by decide +kernel
theorem dX2_desire_56 : decode cX2_desire 56 = .ok (.getfield 9, 3) := by decide +kernel
theorem dX2_desire_59 : decode cX2_desire 59 = .ok (.iload_n 2, 1) := by decide +kernel
theorem dX2_desire_60 : decode cX2_desire 60 = .ok (.iaload, 1) := by decide +kernel
theorem dX2_desire_61 : decode cX2_desire 61 = .ok (.invokevirtual 78, 3) := by decide +kernel
theorem dX2_desire_64 : decode cX2_desire 64 = .ok (.ifCond .eq 14, 3) := by decide +kernel
theorem dX2_desire_67 : decode cX2_desire 67 = .ok (.aload_n 0, 1) := by decide +kernel
theorem dX2_desire_68 : decode cX2_desire 68 = .ok (.getfield 15, 3) := by decide +kernel
theorem dX2_desire_71 : decode cX2_desire 71 = .ok (.iload_n 2, 1) := by decide +kernel
theorem dX2_desire_72 : decode cX2_desire 72 = .ok (.iaload, 1) := by decide +kernel
theorem dX2_desire_73 : decode cX2_desire 73 = .ok (.iconst 1, 1) := by decide +kernel
theorem dX2_desire_74 : decode cX2_desire 74 = .ok (.iadd, 1) := by decide +kernel
theorem dX2_desire_75 : decode cX2_desire 75 = .ok (.goto 4, 3) := by decide +kernel
theorem dX2_desire_78 : decode cX2_desire 78 = .ok (.iconst 0, 1) := by decide +kernel
theorem dX2_desire_79 : decode cX2_desire 79 = .ok (.istore 6, 2) := by decide +kernel
theorem dX2_desire_81 : decode cX2_desire 81 = .ok (.goto 102, 3) := by decide +kernel
theorem dX2_desire_84 : decode cX2_desire 84 = .ok (.aload_n 0, 1) := by decide +kernel
theorem dX2_desire_85 : decode cX2_desire 85 = .ok (.getfield 32, 3) := by decide +kernel
theorem dX2_desire_88 : decode cX2_desire 88 = .ok (.iconst 0, 1) := by decide +kernel
theorem dX2_desire_89 : decode cX2_desire 89 = .ok (.aload_n 0, 1) := by decide +kernel
theorem dX2_desire_90 : decode cX2_desire 90 = .ok (.getfield 15, 3) := by decide +kernel
theorem dX2_desire_93 : decode cX2_desire 93 = .ok (.iload_n 2, 1) := by decide +kernel
theorem dX2_desire_94 : decode cX2_desire 94 = .ok (.iaload, 1) := by decide +kernel
theorem dX2_desire_95 : decode cX2_desire 95 = .ok (.iastore, 1) := by decide +kernel
theorem dX2_desire_96 : decode cX2_desire 96 = .ok (.aload_n 0, 1) := by decide +kernel
theorem dX2_desire_97 : decode cX2_desire 97 = .ok (.getfield 32, 3) := by decide +kernel
theorem dX2_desire_100 : decode cX2_desire 100 = .ok (.iconst 1, 1) := by decide +kernel
theorem dX2_desire_101 : decode cX2_desire 101 = .ok (.aload_n 0, 1) := by decide +kernel
theorem dX2_desire_102 : decode cX2_desire 102 = .ok (.getfield 9, 3) := by decide +kernel
theorem dX2_desire_105 : decode cX2_desire 105 = .ok (.iload_n 2, 1) := by decide +kernel
theorem dX2_desire_106 : decode cX2_desire 106 = .ok (.iaload, 1) := by decide +kernel
theorem dX2_desire_107 : decode cX2_desire 107 = .ok (.aload_n 0, 1) := by decide +kernel
theorem dX2_desire_108 : decode cX2_desire 108 = .ok (.getfield 35, 3) := by decide +kernel
theorem dX2_desire_111 : decode cX2_desire 111 = .ok (.iload_n 1, 1) := by decide +kernel
theorem dX2_desire_112 : decode cX2_desire 112 = .ok (.iconst 0, 1) := by decide +kernel
theorem dX2_desire_113 : decode cX2_desire 113 = .ok (.invokevirtual 43, 3) := by decide +kernel
theorem dX2_desire_116 : decode cX2_desire 116 = .ok (.isub, 1) := by decide +kernel
theorem dX2_desire_117 : decode cX2_desire 117 = .ok (.iastore, 1) := by decide +kernel
theorem dX2_desire_118 : decode cX2_desire 118 = .ok (.aload_n 0, 1) := by decide +kernel
theorem dX2_desire_119 : decode cX2_desire 119 = .ok (.getfield 32, 3) := by decide +kernel
theorem dX2_desire_122 : decode cX2_desire 122 = .ok (.iconst 2, 1) := by decide +kernel
theorem dX2_desire_123 : decode cX2_desire 123 = .ok (.aload_n 0, 1) := by decide +kernel
theorem dX2_desire_124 : decode cX2_desire 124 = .ok (.getfield 35, 3) := by decide +kernel
theorem dX2_desire_127 : decode cX2_desire 127 = .ok (.iload_n 1, 1) := by decide +kernel
theorem dX2_desire_128 : decode cX2_desire 128 = .ok (.iconst 0, 1) := by decide +kernel
theorem dX2_desire_129 : decode cX2_desire 129 = .ok (.invokevirtual 43, 3) := by decide +kernel
theorem dX2_desire_132 : decode cX2_desire 132 = .ok (.iastore, 1) := by decide +kernel
theorem dX2_desire_133 : decode cX2_desire 133 = .ok (.aload_n 0, 1) := by decide +kernel
theorem dX2_desire_134 : decode cX2_desire 134 = .ok (.getfield 32, 3) := by decide +kernel
theorem dX2_desire_137 : decode cX2_desire 137 = .ok (.iconst 3, 1) := by decide +kernel
theorem dX2_desire_138 : decode cX2_desire 138 = .ok (.iload_n 1, 1) := by decide +kernel
theorem dX2_desire_139 : decode cX2_desire 139 = .ok (.iload_n 2, 1) := by decide +kernel
theorem dX2_desire_140 : decode cX2_desire 140 = .ok (.if_icmp .ne 7, 3) := by decide +kernel
theorem dX2_desire_143 : decode cX2_desire 143 = .ok (.iconst 1, 1) := by decide +kernel
theorem dX2_desire_144 : decode cX2_desire 144 = .ok (.goto 4, 3) := by decide +kernel
theorem dX2_desire_147 : decode cX2_desire 147 = .ok (.iconst 0, 1) := by decide +kernel
theorem dX2_desire_148 : decode cX2_desire 148 = .ok (.iastore, 1) := by decide +kernel
theorem dX2_desire_149 : decode cX2_desire 149 = .ok (.aload_n 0, 1) := by decide +kernel
theorem dX2_desire_150 : decode cX2_desire 150 = .ok (.getfield 32, 3) := by decide +kernel
theorem dX2_desire_153 : decode cX2_desire 153 = .ok (.iconst 4, 1) := by decide +kernel
theorem dX2_desire_154 : decode cX2_desire 154 = .ok (.iload_n 3, 1) := by decide +kernel
theorem dX2_desire_155 : decode cX2_desire 155 = .ok (.iastore, 1) := by decide +kernel
theorem dX2_desire_156 : decode cX2_desire 156 = .ok (.aload_n 0, 1) := by decide +kernel
theorem dX2_desire_157 : decode cX2_desire 157 = .ok (.getfield 32, 3) := by decide +kernel
theorem dX2_desire_160 : decode cX2_desire 160 = .ok (.iconst 5, 1) := by decide +kernel
theorem dX2_desire_161 : decode cX2_desire 161 = .ok (.iload_n 2, 1) := by decide +kernel
theorem dX2_desire_162 : decode cX2_desire 162 = .ok (.iastore, 1) := by decide +kernel
theorem dX2_desire_163 : decode cX2_desire 163 = .ok (.iconst 0, 1) := by decide +kernel
theorem dX2_desire_164 : decode cX2_desire 164 = .ok (.aload_n 0, 1) := by decide +kernel
theorem dX2_desire_165 : decode cX2_desire 165 = .ok (.getfield 39, 3) := by decide +kernel
theorem dX2_desire_168 : decode cX2_desire 168 = .ok (.iload 5, 2) := by decide +kernel
theorem dX2_desire_170 : decode cX2_desire 170 = .ok (.aaload, 1) := by decide +kernel
theorem dX2_desire_171 : decode cX2_desire 171 = .ok (.aload_n 0, 1) := by decide +kernel
theorem dX2_desire_172 : decode cX2_desire 172 = .ok (.getfield 32, 3) := by decide +kernel
theorem dX2_desire_175 : decode cX2_desire 175 = .ok (.invokevirtual 81, 3) := by decide +kernel
theorem dX2_desire_178 : decode cX2_desire 178 = .ok (.invokestatic 87, 3) := by decide +kernel
theorem dX2_desire_181 : decode cX2_desire 181 = .ok (.istore 6, 2) := by decide +kernel
theorem dX2_desire_183 : decode cX2_desire 183 = .ok (.aload_n 0, 1) := by decide +kernel
theorem dX2_desire_184 : decode cX2_desire 184 = .ok (.getfield 18, 3) := by decide +kernel
theorem dX2_desire_187 : decode cX2_desire 187 = .ok (.iload 4, 2) := by decide +kernel
theorem dX2_desire_189 : decode cX2_desire 189 = .ok (.iload 6, 2) := by decide +kernel
theorem dX2_desire_191 : decode cX2_desire 191 = .ok (.iastore, 1) := by decide +kernel
theorem dX2_desire_192 : decode cX2_desire 192 = .ok (.iload 6, 2) := by decide +kernel
theorem dX2_desire_194 : decode cX2_desire 194 = .ok (.ireturn, 1) := by decide +kernel
theorem F_X2_32 : FLk RX2 32 2 6 := ⟨RX2, TX2, 7, rfl, rfl, iw_X2, by decide, Or.inl fl_X2_32⟩
theorem F_X2_39 : FLk RX2 39 2 1 := ⟨RX2, TX2, 7, rfl, rfl, iw_X2, by decide, Or.inl fl_X2_39⟩
theorem ML_X2_81 : MLk RX2 81 yX7_value := Or.inl ml_X2_81
theorem MV_X7_value : MVk K_X7_value 1 7 := ⟨⟨cd_X7_value, in_X7, ⟨by decide, by decide, by decide +kernel⟩, by decide⟩, im_X7_value, se_X7_value, _, _, rfl⟩
theorem F_X2_35 : FLk RX2 35 2 0 := ⟨RX2, TX2, 7, rfl, rfl, iw_X2, by decide, Or.inl fl_X2_35⟩
theorem F_X2_75 : FLk RX2 75 6 1 := ⟨RX6, TX6, 3, rfl, rfl, iw_X6, by decide, Or.inr ⟨_, fn_X2_75⟩⟩
theorem F_X2_15 : FLk RX2 15 2 3 := ⟨RX2, TX2, 7, rfl, rfl, iw_X2, by decide, Or.inl fl_X2_15⟩
theorem F_X2_9 : FLk RX2 9 2 2 := ⟨RX2, TX2, 7, rfl, rfl, iw_X2, by decide, Or.inl fl_X2_9⟩
theorem ML_X2_43 : MLk RX2 43 yX6_item := Or.inl ml_X2_43
theorem ML_X2_78 : MLk RX2 78 yX6_canWear := Or.inl ml_X2_78
theorem MV_X6_canWear : MVk K_X6_canWear 2 6 := ⟨⟨cd_X6_canWear, in_X6, ⟨by decide, by decide, by decide +kernel⟩, by decide⟩, im_X6_canWear, se_X6_canWear, _, _, rfl⟩
def f_X2_desire_183 (k0 : Nat) (x4 : Int32) (x6 : Int32) (h : AH) : Option (Int32 × AH) :=
  og (ix x4 (an (rf k0 4))) <|
  nm (sI h (rf k0 4) x4.toNatClampNeg x6) fun h_2 =>
  some (x6, h_2)
def f_X2_desire_79 (k0 : Nat) (x4 : Int32) (s0 : Int32) (h : AH) : Option (Int32 × AH) :=
  f_X2_desire_183 k0 x4 s0 h
def f_X2_desire_148 (k0 : Nat) (x2 : Int32) (x3 : Int32) (x4 : Int32) (x5 : Int32) (s0 : Int32) (s1 : Int32) (sk2 : Nat) (h : AH) : Option (Int32 × AH) :=
  og (ix s1 (an sk2)) <|
  nm (sI h sk2 s1.toNatClampNeg s0) fun h_2 =>
  og (ix 4 (an (rf k0 6))) <|
  nm (sI h_2 (rf k0 6) (4 : Int32).toNatClampNeg x3) fun h_5 =>
  og (ix 5 (an (rf k0 6))) <|
  nm (sI h_5 (rf k0 6) (5 : Int32).toNatClampNeg x2) fun h_8 =>
  og (ix x5 (an (rf k0 1))) <|
  ob (f_X7_value (rf (rf k0 1) x5.toNatClampNeg) (rf k0 6) h_8) fun r_13 h_12 =>
  nm ((if 0 < r_13 then r_13 else 0)) fun x6_14 =>
  f_X2_desire_183 k0 x4 x6_14 h_12
def f_X2_desire (k0 : Nat) (x1 : Int32) (x2 : Int32) (x3 : Int32) (h : AH) : Option (Int32 × AH) :=
  nm (((((x1 * 6) + x2) * 7) + x3)) fun x4_1 =>
  og (ix x4_1 (an (rf k0 4))) <|
  if (h.1 (rf k0 4) x4_1.toNatClampNeg) = (-2) then (
    og (ix x1 (an (rf (rf k0 0) 1))) <|
    nm ((h.1 (rf (rf k0 0) 1) x1.toNatClampNeg)) fun x5_6 =>
    if x5_6 = (-1) then (
      og (ix x2 (an (rf k0 2))) <|
      ob (f_X6_canWear (rf k0 0) x1 (h.1 (rf k0 2) x2.toNatClampNeg) h) fun r_30 h_29 =>
      if r_30 = 0 then (
        f_X2_desire_79 k0 x4_1 0 h_29
      ) else (
        og (ix x2 (an (rf k0 3))) <|
        f_X2_desire_79 k0 x4_1 ((h_29.1 (rf k0 3) x2.toNatClampNeg) + 1) h_29
      )
    ) else (
      og (ix x2 (an (rf k0 3))) <|
      og (ix 0 (an (rf k0 6))) <|
      nm (sI h (rf k0 6) (0 : Int32).toNatClampNeg (h.1 (rf k0 3) x2.toNatClampNeg)) fun h_11 =>
      og (ix x2 (an (rf k0 2))) <|
      ob (f_X6_item (rf k0 0) x1 0 h_11) fun r_16 h_15 =>
      og (ix 1 (an (rf k0 6))) <|
      nm (sI h_15 (rf k0 6) (1 : Int32).toNatClampNeg ((h_11.1 (rf k0 2) x2.toNatClampNeg) - r_16)) fun h_18 =>
      ob (f_X6_item (rf k0 0) x1 0 h_18) fun r_22 h_21 =>
      og (ix 2 (an (rf k0 6))) <|
      nm (sI h_21 (rf k0 6) (2 : Int32).toNatClampNeg r_22) fun h_24 =>
      if x1 = x2 then (
        f_X2_desire_148 k0 x2 x3 x4_1 x5_6 1 3 (rf k0 6) h_24
      ) else (
        f_X2_desire_148 k0 x2 x3 x4_1 x5_6 0 3 (rf k0 6) h_24
      )
    )
  ) else (
    og (ix x4_1 (an (rf k0 4))) <|
    some ((h.1 (rf k0 4) x4_1.toNatClampNeg), h)
  )
set_option maxHeartbeats 4000000 in
set_option maxRecDepth 100000 in
theorem v_X2_desire_183 {E : EV} {d : Nat} (hd : 2 ≤ d) {r0 : Int32} {h0 : AH} {k0 : Nat} {x4 : Int32} {x6 : Int32} {h : AH} (hf : f_X2_desire_183 k0 x4 x6 h = some (r0, h0)) (t_k0 : kd k0 = (0, 2)) : V E (d + 1) K_X2_desire (ZI E r0 h0) h [(0, .ref k0), (4, .int x4), (6, .int x6)] [] 183 := by
  unfold f_X2_desire_183 at hf
  refine V_aload_n 0 dX2_desire_183 rfl rfl ?_
  refine V_getR F_X2_18 rfl t_k0 rfl dX2_desire_184 ?_
  refine V_iload 1 dX2_desire_187 rfl ?_
  refine V_iload 2 dX2_desire_189 rfl ?_
  obtain ⟨b_1, hf⟩ := og_s hf
  obtain ⟨h_2, e_3, hf⟩ := nm_s hf
  refine V_iast (rfA t_k0 (Nat.le_of_ble_eq_true rfl) rfl rfl (by decide)) b_1 e_3 dX2_desire_191 ?_
  refine V_iload 2 dX2_desire_192 rfl ?_
  exact V_iret rfl (so_s hf) dX2_desire_194
set_option maxHeartbeats 4000000 in
set_option maxRecDepth 100000 in
theorem v_X2_desire_79 {E : EV} {d : Nat} (hd : 2 ≤ d) {r0 : Int32} {h0 : AH} {k0 : Nat} {x4 : Int32} {s0 : Int32} {h : AH} (hf : f_X2_desire_79 k0 x4 s0 h = some (r0, h0)) (t_k0 : kd k0 = (0, 2)) : V E (d + 1) K_X2_desire (ZI E r0 h0) h [(0, .ref k0), (4, .int x4)] [.int s0] 79 := by
  unfold f_X2_desire_79 at hf
  refine V_istore (L' := [(6, .int s0), (0, .ref k0), (4, .int x4)]) dX2_desire_79 (Nat.le_of_ble_eq_true rfl) rfl rfl ?_
  refine V_goto (tgt := 183) dX2_desire_81 (by decide) ?_
  refine V_sub [1, 2, 0] rfl ?_
  exact v_X2_desire_183 hd hf t_k0
set_option maxHeartbeats 4000000 in
set_option maxRecDepth 100000 in
theorem v_X2_desire_148 {E : EV} {d : Nat} (hd : 2 ≤ d) {r0 : Int32} {h0 : AH} {k0 : Nat} {x2 : Int32} {x3 : Int32} {x4 : Int32} {x5 : Int32} {s0 : Int32} {s1 : Int32} {sk2 : Nat} {h : AH} (hf : f_X2_desire_148 k0 x2 x3 x4 x5 s0 s1 sk2 h = some (r0, h0)) (t_k0 : kd k0 = (0, 2)) (t_sk2 : (kd sk2).1 = 1) : V E (d + 1) K_X2_desire (ZI E r0 h0) h [(0, .ref k0), (2, .int x2), (3, .int x3), (4, .int x4), (5, .int x5)] [.int s0, .int s1, .ref sk2] 148 := by
  unfold f_X2_desire_148 at hf
  obtain ⟨b_1, hf⟩ := og_s hf
  obtain ⟨h_2, e_3, hf⟩ := nm_s hf
  refine V_iast t_sk2 b_1 e_3 dX2_desire_148 ?_
  refine V_aload_n 0 dX2_desire_149 rfl rfl ?_
  refine V_getR F_X2_32 rfl t_k0 rfl dX2_desire_150 ?_
  refine V_iconst (v := 4) dX2_desire_153 (by decide) ?_
  refine V_iload_n 2 dX2_desire_154 rfl rfl ?_
  obtain ⟨b_4, hf⟩ := og_s hf
  obtain ⟨h_5, e_6, hf⟩ := nm_s hf
  refine V_iast (rfA t_k0 (Nat.le_of_ble_eq_true rfl) rfl rfl (by decide)) b_4 e_6 dX2_desire_155 ?_
  refine V_aload_n 0 dX2_desire_156 rfl rfl ?_
  refine V_getR F_X2_32 rfl t_k0 rfl dX2_desire_157 ?_
  refine V_iconst (v := 5) dX2_desire_160 (by decide) ?_
  refine V_iload_n 1 dX2_desire_161 rfl rfl ?_
  obtain ⟨b_7, hf⟩ := og_s hf
  obtain ⟨h_8, e_9, hf⟩ := nm_s hf
  refine V_iast (rfA t_k0 (Nat.le_of_ble_eq_true rfl) rfl rfl (by decide)) b_7 e_9 dX2_desire_162 ?_
  refine V_iconst (v := 0) dX2_desire_163 (by decide) ?_
  refine V_aload_n 0 dX2_desire_164 rfl rfl ?_
  refine V_getR F_X2_39 rfl t_k0 rfl dX2_desire_165 ?_
  refine V_iload 4 dX2_desire_168 rfl ?_
  obtain ⟨b_10, hf⟩ := og_s hf
  refine V_aald (rfA t_k0 (Nat.le_of_ble_eq_true rfl) rfl rfl (by decide)) b_10 dX2_desire_170 ?_
  refine V_aload_n 0 dX2_desire_171 rfl rfl ?_
  refine V_getR F_X2_32 rfl t_k0 rfl dX2_desire_172 ?_
  obtain ⟨r_13, h_12, e_11, hf⟩ := ob_s hf
  refine V_cvi (As := [.ref (rf k0 6)]) (rest := [.int 0]) (c_X7_value (d := d) (Nat.le_trans (Nat.le_of_ble_eq_true rfl) hd) e_11 (raO (rfA t_k0 (Nat.le_of_ble_eq_true rfl) rfl rfl (by decide)) (ix_lt b_10)) (rfA t_k0 (Nat.le_of_ble_eq_true rfl) rfl rfl (by decide))) ML_X2_81 MV_X7_value rfl (raO (rfA t_k0 (Nat.le_of_ble_eq_true rfl) rfl rfl (by decide)) (ix_lt b_10)) rfl rfl (Nat.le_of_ble_eq_true rfl) dX2_desire_175 ?_
  refine V_mmax ml_X2_87 rfl (Nat.le_of_ble_eq_true rfl) dX2_desire_178 ?_
  obtain ⟨x6_14, e_15, hf⟩ := nm_s hf
  refine V_istore (L' := [(6, .int x6_14), (0, .ref k0), (2, .int x2), (3, .int x3), (4, .int x4), (5, .int x5)]) dX2_desire_181 (Nat.le_of_ble_eq_true rfl) e_15 rfl ?_
  refine V_sub [1, 4, 0] rfl ?_
  exact v_X2_desire_183 hd hf t_k0
set_option maxHeartbeats 4000000 in
set_option maxRecDepth 100000 in
theorem c_X2_desire {E : EV} {d : Nat} (hd : 2 + 1 ≤ d) {k0 : Nat} {x1 : Int32} {x2 : Int32} {x3 : Int32} {h : AH} {r0 : Int32} {h0 : AH} (hf : f_X2_desire k0 x1 x2 x3 h = some (r0, h0)) (t_k0 : kd k0 = (0, 2)) : Con E d K_X2_desire (ZI E r0 h0) [.ref k0, .int x1, .int x2, .int x3] h := by
  obtain ⟨d, rfl⟩ : ∃ d', d = d' + 1 := ⟨d - 1, by omega⟩
  have hd := Nat.le_of_succ_le_succ hd
  refine Con.ofV rfl (Nat.le_of_ble_eq_true rfl) ?_
  unfold f_X2_desire at hf
  show V E (d + 1) K_X2_desire (ZI E r0 h0) h [(0, .ref k0), (1, .int x1), (2, .int x2), (3, .int x3)] [] 0
  refine V_iload_n 1 dX2_desire_0 rfl rfl ?_
  refine V_bipush (v := 6) dX2_desire_1 (by decide) ?_
  refine V_imul dX2_desire_3 ?_
  refine V_iload_n 2 dX2_desire_4 rfl rfl ?_
  refine V_iadd dX2_desire_5 ?_
  refine V_bipush (v := 7) dX2_desire_6 (by decide) ?_
  refine V_imul dX2_desire_8 ?_
  refine V_iload_n 3 dX2_desire_9 rfl rfl ?_
  refine V_iadd dX2_desire_10 ?_
  obtain ⟨x4_1, e_2, hf⟩ := nm_s hf
  refine V_istore (L' := [(4, .int x4_1), (0, .ref k0), (1, .int x1), (2, .int x2), (3, .int x3)]) dX2_desire_11 (Nat.le_of_ble_eq_true rfl) e_2 rfl ?_
  refine V_aload_n 1 dX2_desire_13 rfl rfl ?_
  refine V_getR F_X2_18 rfl t_k0 rfl dX2_desire_14 ?_
  refine V_iload 0 dX2_desire_17 rfl ?_
  obtain ⟨b_3, hf⟩ := og_s hf
  refine V_iald (rfA t_k0 (Nat.le_of_ble_eq_true rfl) rfl rfl (by decide)) b_3 dX2_desire_19 ?_
  refine V_bipush (v := (-2)) dX2_desire_20 (by decide) ?_
  refine V_ic_eq (tgt := 33) dX2_desire_22 (by decide) (fun c_4 => ?_) (fun c_4 => ?_)
  · have hf := it_s c_4 hf
    refine V_aload_n 1 dX2_desire_33 rfl rfl ?_
    refine V_getR F_X2_35 rfl t_k0 rfl dX2_desire_34 ?_
    refine V_getR F_X2_75 rfl (rfO t_k0 (Nat.le_of_ble_eq_true rfl) rfl rfl) rfl dX2_desire_37 ?_
    refine V_iload_n 2 dX2_desire_40 rfl rfl ?_
    obtain ⟨b_5, hf⟩ := og_s hf
    refine V_iald (rfA (rfO t_k0 (Nat.le_of_ble_eq_true rfl) rfl rfl) (Nat.le_of_ble_eq_true rfl) rfl rfl (by decide)) b_5 dX2_desire_41 ?_
    obtain ⟨x5_6, e_7, hf⟩ := nm_s hf
    refine V_istore (L' := [(5, .int x5_6), (4, .int x4_1), (0, .ref k0), (1, .int x1), (2, .int x2), (3, .int x3)]) dX2_desire_42 (Nat.le_of_ble_eq_true rfl) e_7 rfl ?_
    refine V_iload 0 dX2_desire_44 rfl ?_
    refine V_iconst (v := (-1)) dX2_desire_46 (by decide) ?_
    refine V_ic_ne (tgt := 84) dX2_desire_47 (by decide) (fun c_8 => ?_) (fun c_8 => ?_)
    · have hf := if_s c_8 hf
      refine V_aload_n 2 dX2_desire_84 rfl rfl ?_
      refine V_getR F_X2_32 rfl t_k0 rfl dX2_desire_85 ?_
      refine V_iconst (v := 0) dX2_desire_88 (by decide) ?_
      refine V_aload_n 2 dX2_desire_89 rfl rfl ?_
      refine V_getR F_X2_15 rfl t_k0 rfl dX2_desire_90 ?_
      refine V_iload_n 4 dX2_desire_93 rfl rfl ?_
      obtain ⟨b_9, hf⟩ := og_s hf
      refine V_iald (rfA t_k0 (Nat.le_of_ble_eq_true rfl) rfl rfl (by decide)) b_9 dX2_desire_94 ?_
      obtain ⟨b_10, hf⟩ := og_s hf
      obtain ⟨h_11, e_12, hf⟩ := nm_s hf
      refine V_iast (rfA t_k0 (Nat.le_of_ble_eq_true rfl) rfl rfl (by decide)) b_10 e_12 dX2_desire_95 ?_
      refine V_aload_n 2 dX2_desire_96 rfl rfl ?_
      refine V_getR F_X2_32 rfl t_k0 rfl dX2_desire_97 ?_
      refine V_iconst (v := 1) dX2_desire_100 (by decide) ?_
      refine V_aload_n 2 dX2_desire_101 rfl rfl ?_
      refine V_getR F_X2_9 rfl t_k0 rfl dX2_desire_102 ?_
      refine V_iload_n 4 dX2_desire_105 rfl rfl ?_
      obtain ⟨b_13, hf⟩ := og_s hf
      refine V_iald (rfA t_k0 (Nat.le_of_ble_eq_true rfl) rfl rfl (by decide)) b_13 dX2_desire_106 ?_
      refine V_aload_n 2 dX2_desire_107 rfl rfl ?_
      refine V_getR F_X2_35 rfl t_k0 rfl dX2_desire_108 ?_
      refine V_iload_n 3 dX2_desire_111 rfl rfl ?_
      refine V_iconst (v := 0) dX2_desire_112 (by decide) ?_
      obtain ⟨r_16, h_15, e_14, hf⟩ := ob_s hf
      refine V_cvi (As := [.int x1, .int 0]) (rest := [.int (h_11.1 (rf k0 2) x2.toNatClampNeg), .int 1, .ref (rf k0 6)]) (c_X6_item (d := d) (Nat.le_trans (Nat.le_of_ble_eq_true rfl) hd) e_14 (rfO t_k0 (Nat.le_of_ble_eq_true rfl) rfl rfl)) ML_X2_43 MV_X6_item rfl (rfO t_k0 (Nat.le_of_ble_eq_true rfl) rfl rfl) rfl rfl (Nat.le_of_ble_eq_true rfl) dX2_desire_113 ?_
      refine V_isub dX2_desire_116 ?_
      obtain ⟨b_17, hf⟩ := og_s hf
      obtain ⟨h_18, e_19, hf⟩ := nm_s hf
      refine V_iast (rfA t_k0 (Nat.le_of_ble_eq_true rfl) rfl rfl (by decide)) b_17 e_19 dX2_desire_117 ?_
      refine V_aload_n 2 dX2_desire_118 rfl rfl ?_
      refine V_getR F_X2_32 rfl t_k0 rfl dX2_desire_119 ?_
      refine V_iconst (v := 2) dX2_desire_122 (by decide) ?_
      refine V_aload_n 2 dX2_desire_123 rfl rfl ?_
      refine V_getR F_X2_35 rfl t_k0 rfl dX2_desire_124 ?_
      refine V_iload_n 3 dX2_desire_127 rfl rfl ?_
      refine V_iconst (v := 0) dX2_desire_128 (by decide) ?_
      obtain ⟨r_22, h_21, e_20, hf⟩ := ob_s hf
      refine V_cvi (As := [.int x1, .int 0]) (rest := [.int 2, .ref (rf k0 6)]) (c_X6_item (d := d) (Nat.le_trans (Nat.le_of_ble_eq_true rfl) hd) e_20 (rfO t_k0 (Nat.le_of_ble_eq_true rfl) rfl rfl)) ML_X2_43 MV_X6_item rfl (rfO t_k0 (Nat.le_of_ble_eq_true rfl) rfl rfl) rfl rfl (Nat.le_of_ble_eq_true rfl) dX2_desire_129 ?_
      obtain ⟨b_23, hf⟩ := og_s hf
      obtain ⟨h_24, e_25, hf⟩ := nm_s hf
      refine V_iast (rfA t_k0 (Nat.le_of_ble_eq_true rfl) rfl rfl (by decide)) b_23 e_25 dX2_desire_132 ?_
      refine V_aload_n 2 dX2_desire_133 rfl rfl ?_
      refine V_getR F_X2_32 rfl t_k0 rfl dX2_desire_134 ?_
      refine V_iconst (v := 3) dX2_desire_137 (by decide) ?_
      refine V_iload_n 3 dX2_desire_138 rfl rfl ?_
      refine V_iload_n 4 dX2_desire_139 rfl rfl ?_
      refine V_ic_ne (tgt := 147) dX2_desire_140 (by decide) (fun c_26 => ?_) (fun c_26 => ?_)
      · have hf := if_s c_26 hf
        refine V_iconst (v := 0) dX2_desire_147 (by decide) ?_
        refine V_sub [2, 4, 5, 1, 0] rfl ?_
        exact v_X2_desire_148 hd hf t_k0 (rfA t_k0 (Nat.le_of_ble_eq_true rfl) rfl rfl (by decide))
      · have hf := it_s c_26 hf
        refine V_iconst (v := 1) dX2_desire_143 (by decide) ?_
        refine V_goto (tgt := 148) dX2_desire_144 (by decide) ?_
        refine V_sub [2, 4, 5, 1, 0] rfl ?_
        exact v_X2_desire_148 hd hf t_k0 (rfA t_k0 (Nat.le_of_ble_eq_true rfl) rfl rfl (by decide))
    · have hf := it_s c_8 hf
      refine V_aload_n 2 dX2_desire_50 rfl rfl ?_
      refine V_getR F_X2_35 rfl t_k0 rfl dX2_desire_51 ?_
      refine V_iload_n 3 dX2_desire_54 rfl rfl ?_
      refine V_aload_n 2 dX2_desire_55 rfl rfl ?_
      refine V_getR F_X2_9 rfl t_k0 rfl dX2_desire_56 ?_
      refine V_iload_n 4 dX2_desire_59 rfl rfl ?_
      obtain ⟨b_27, hf⟩ := og_s hf
      refine V_iald (rfA t_k0 (Nat.le_of_ble_eq_true rfl) rfl rfl (by decide)) b_27 dX2_desire_60 ?_
      obtain ⟨r_30, h_29, e_28, hf⟩ := ob_s hf
      refine V_cvi (As := [.int x1, .int (h.1 (rf k0 2) x2.toNatClampNeg)]) (rest := []) (c_X6_canWear (d := d) (Nat.le_trans (Nat.le_of_ble_eq_true rfl) hd) e_28 (rfO t_k0 (Nat.le_of_ble_eq_true rfl) rfl rfl)) ML_X2_78 MV_X6_canWear rfl (rfO t_k0 (Nat.le_of_ble_eq_true rfl) rfl rfl) rfl rfl (Nat.le_of_ble_eq_true rfl) dX2_desire_61 ?_
      refine V_if_eq (tgt := 78) dX2_desire_64 (by decide) (fun c_31 => ?_) (fun c_31 => ?_)
      · have hf := it_s c_31 hf
        refine V_iconst (v := 0) dX2_desire_78 (by decide) ?_
        refine V_sub [2, 1] rfl ?_
        exact v_X2_desire_79 hd hf t_k0
      · have hf := if_s c_31 hf
        refine V_aload_n 2 dX2_desire_67 rfl rfl ?_
        refine V_getR F_X2_15 rfl t_k0 rfl dX2_desire_68 ?_
        refine V_iload_n 4 dX2_desire_71 rfl rfl ?_
        obtain ⟨b_32, hf⟩ := og_s hf
        refine V_iald (rfA t_k0 (Nat.le_of_ble_eq_true rfl) rfl rfl (by decide)) b_32 dX2_desire_72 ?_
        refine V_iconst (v := 1) dX2_desire_73 (by decide) ?_
        refine V_iadd dX2_desire_74 ?_
        refine V_goto (tgt := 79) dX2_desire_75 (by decide) ?_
        refine V_sub [2, 1] rfl ?_
        exact v_X2_desire_79 hd hf t_k0
  · have hf := if_s c_4 hf
    refine V_aload_n 1 dX2_desire_25 rfl rfl ?_
    refine V_getR F_X2_18 rfl t_k0 rfl dX2_desire_26 ?_
    refine V_iload 0 dX2_desire_29 rfl ?_
    obtain ⟨b_33, hf⟩ := og_s hf
    refine V_iald (rfA t_k0 (Nat.le_of_ble_eq_true rfl) rfl rfl (by decide)) b_33 dX2_desire_31 ?_
    exact V_iret rfl (so_s hf) dX2_desire_32
theorem dX2_pick_0 : decode cX2_pick 0 = .ok (.aload_n 0, 1) := by decide +kernel
theorem dX2_pick_1 : decode cX2_pick 1 = .ok (.getfield 21, 3) := by decide +kernel
theorem dX2_pick_4 : decode cX2_pick 4 = .ok (.iload_n 1, 1) := by decide +kernel
theorem dX2_pick_5 : decode cX2_pick 5 = .ok (.bipush 64, 2) := by decide +kernel
theorem dX2_pick_7 : decode cX2_pick 7 = .ok (.imul, 1) := by decide +kernel
theorem dX2_pick_8 : decode cX2_pick 8 = .ok (.iload_n 2, 1) := by decide +kernel
theorem dX2_pick_9 : decode cX2_pick 9 = .ok (.iadd, 1) := by decide +kernel
theorem dX2_pick_10 : decode cX2_pick 10 = .ok (.iaload, 1) := by decide +kernel
theorem dX2_pick_11 : decode cX2_pick 11 = .ok (.istore_n 3, 1) := by decide +kernel
theorem dX2_pick_12 : decode cX2_pick 12 = .ok (.iload_n 3, 1) := by decide +kernel
theorem dX2_pick_13 : decode cX2_pick 13 = .ok (.bipush (-2), 2) := by decide +kernel
theorem dX2_pick_15 : decode cX2_pick 15 = .ok (.if_icmp .eq 5, 3) := by decide +kernel
theorem dX2_pick_18 : decode cX2_pick 18 = .ok (.iload_n 3, 1) := by decide +kernel
theorem dX2_pick_19 : decode cX2_pick 19 = .ok (.ireturn, 1) := by decide +kernel
theorem dX2_pick_20 : decode cX2_pick 20 = .ok (.iload_n 2, 1) := by decide +kernel
theorem dX2_pick_21 : decode cX2_pick 21 = .ok (.invokestatic 61, 3) := by decide +kernel
theorem dX2_pick_24 : decode cX2_pick 24 = .ok (.istore 4, 2) := by decide +kernel
theorem dX2_pick_26 : decode cX2_pick 26 = .ok (.iconst (-1), 1) := by decide +kernel
theorem dX2_pick_27 : decode cX2_pick 27 = .ok (.istore 5, 2) := by decide +kernel
theorem dX2_pick_29 : decode cX2_pick 29 = .ok (.iconst 0, 1) := by decide +kernel
theorem dX2_pick_30 : decode cX2_pick 30 = .ok (.istore 6, 2) := by decide +kernel
theorem dX2_pick_32 : decode cX2_pick 32 = .ok (.iconst 0, 1) := by decide +kernel
theorem dX2_pick_33 : decode cX2_pick 33 = .ok (.istore 7, 2) := by decide +kernel
theorem dX2_pick_35 : decode cX2_pick 35 = .ok (.iload 7, 2) := by decide +kernel
theorem dX2_pick_37 : decode cX2_pick 37 = .ok (.bipush 6, 2) := by decide +kernel
theorem dX2_pick_39 : decode cX2_pick 39 = .ok (.if_icmp .ge 62, 3) := by decide +kernel
theorem dX2_pick_42 : decode cX2_pick 42 = .ok (.iload_n 2, 1) := by decide +kernel
theorem dX2_pick_43 : decode cX2_pick 43 = .ok (.iload 7, 2) := by decide +kernel
theorem dX2_pick_45 : decode cX2_pick 45 = .ok (.invokestatic 67, 3) := by decide +kernel
theorem dX2_pick_48 : decode cX2_pick 48 = .ok (.ifCond .eq 47, 3) := by decide +kernel
theorem dX2_pick_51 : decode cX2_pick 51 = .ok (.aload_n 0, 1) := by decide +kernel
theorem dX2_pick_52 : decode cX2_pick 52 = .ok (.iload_n 1, 1) := by decide +kernel
theorem dX2_pick_53 : decode cX2_pick 53 = .ok (.iload 7, 2) := by decide +kernel
theorem dX2_pick_55 : decode cX2_pick 55 = .ok (.iload 4, 2) := by decide +kernel
theorem dX2_pick_57 : decode cX2_pick 57 = .ok (.invokevirtual 71, 3) := by decide +kernel
theorem dX2_pick_60 : decode cX2_pick 60 = .ok (.istore 8, 2) := by decide +kernel
theorem dX2_pick_62 : decode cX2_pick 62 = .ok (.iload 8, 2) := by decide +kernel
theorem dX2_pick_64 : decode cX2_pick 64 = .ok (.iload 6, 2) := by decide +kernel
theorem dX2_pick_66 : decode cX2_pick 66 = .ok (.if_icmp .gt 21, 3) := by decide +kernel
theorem dX2_pick_69 : decode cX2_pick 69 = .ok (.iload 8, 2) := by decide +kernel
theorem dX2_pick_71 : decode cX2_pick 71 = .ok (.iload 6, 2) := by decide +kernel
theorem dX2_pick_73 : decode cX2_pick 73 = .ok (.if_icmp .ne 22, 3) := by decide +kernel
theorem dX2_pick_76 : decode cX2_pick 76 = .ok (.iload 8, 2) := by decide +kernel
theorem dX2_pick_78 : decode cX2_pick 78 = .ok (.ifCond .le 17, 3) := by decide +kernel
theorem dX2_pick_81 : decode cX2_pick 81 = .ok (.iload 7, 2) := by decide +kernel
theorem dX2_pick_83 : decode cX2_pick 83 = .ok (.iload_n 1, 1) := by decide +kernel
theorem dX2_pick_84 : decode cX2_pick 84 = .ok (.if_icmp .ne 11, 3) := by decide +kernel
theorem dX2_pick_87 : decode cX2_pick 87 = .ok (.iload 7, 2) := by decide +kernel
theorem dX2_pick_89 : decode cX2_pick 89 = .ok (.istore 5, 2) := by decide +kernel
theorem dX2_pick_91 : decode cX2_pick 91 = .ok (.iload 8, 2) := by decide +kernel
theorem dX2_pick_93 : decode cX2_pick 93 = .ok (.istore 6, 2) := by decide +kernel
theorem dX2_pick_95 : decode cX2_pick 95 = .ok (.iinc 7 1, 3) := by decide +kernel
theorem dX2_pick_98 : decode cX2_pick 98 = .ok (.goto (-63), 3) := by decide +kernel
theorem dX2_pick_101 : decode cX2_pick 101 = .ok (.aload_n 0, 1) := by decide +kernel
theorem dX2_pick_102 : decode cX2_pick 102 = .ok (.getfield 21, 3) := by decide +kernel
theorem dX2_pick_105 : decode cX2_pick 105 = .ok (.iload_n 1, 1) := by decide +kernel
theorem dX2_pick_106 : decode cX2_pick 106 = .ok (.bipush 64, 2) := by decide +kernel
theorem dX2_pick_108 : decode cX2_pick 108 = .ok (.imul, 1) := by decide +kernel
theorem dX2_pick_109 : decode cX2_pick 109 = .ok (.iload_n 2, 1) := by decide +kernel
theorem dX2_pick_110 : decode cX2_pick 110 = .ok (.iadd, 1) := by decide +kernel
theorem dX2_pick_111 : decode cX2_pick 111 = .ok (.iload 5, 2) := by decide +kernel
theorem dX2_pick_113 : decode cX2_pick 113 = .ok (.iastore, 1) := by decide +kernel
theorem dX2_pick_114 : decode cX2_pick 114 = .ok (.iload 5, 2) := by decide +kernel
theorem dX2_pick_116 : decode cX2_pick 116 = .ok (.ireturn, 1) := by decide +kernel
theorem ML_X2_67 : MLk RX2 67 yX11_isIn := Or.inr ⟨_, mn_X2_67⟩
theorem ML_X2_71 : MLk RX2 71 yX2_desire := Or.inl ml_X2_71
theorem MV_X2_desire : MVk K_X2_desire 3 2 := ⟨⟨cd_X2_desire, in_X2, ⟨by decide, by decide, by decide +kernel⟩, by decide⟩, im_X2_desire, se_X2_desire, _, _, rfl⟩
theorem ML_X2_61 : MLk RX2 61 yJ6_bitCount_0f7a4 := Or.inl ml_X2_61
theorem MS_J6_bitCount_0f7a4 : MSk K_J6_bitCount_0f7a4 1 := ⟨⟨cd_J6_bitCount_0f7a4, in_J6, ⟨by decide, by decide, by decide +kernel⟩, by decide⟩, st_J6_bitCount_0f7a4⟩
def f_X2_pick_95 (q35 : Nat → Int32 → Int32 → Int32 → Int32 → Int32 → Int32 → AH → Option (Int32 × AH)) (k0 : Nat) (x1 : Int32) (x2 : Int32) (x4 : Int32) (x5 : Int32) (x6 : Int32) (x7 : Int32) (h : AH) : Option (Int32 × AH) :=
  nm (x7 + 1) fun x7_1 =>
  q35 k0 x1 x2 x4 x5 x6 x7_1 h
def f_X2_pick_87 (q35 : Nat → Int32 → Int32 → Int32 → Int32 → Int32 → Int32 → AH → Option (Int32 × AH)) (k0 : Nat) (x1 : Int32) (x2 : Int32) (x4 : Int32) (x7 : Int32) (x8 : Int32) (h : AH) : Option (Int32 × AH) :=
  f_X2_pick_95 q35 k0 x1 x2 x4 x7 x8 x7 h
def f_X2_pick_35 : Nat → Nat → Int32 → Int32 → Int32 → Int32 → Int32 → Int32 → AH → Option (Int32 × AH)
  | 0, _, _, _, _, _, _, _, _ => none
  | n + 1, k0, x1, x2, x4, x5, x6, x7, h =>
    if 6 ≤ x7 then (
      og (ix ((x1 * 64) + x2) (an (rf k0 5))) <|
      nm (sI h (rf k0 5) ((x1 * 64) + x2).toNatClampNeg x5) fun h_3 =>
      some (x5, h_3)
    ) else (
      ob (f_X11_isIn x2 x7 h) fun r_7 h_6 =>
      if r_7 = 0 then (
        f_X2_pick_95 (f_X2_pick_35 n) k0 x1 x2 x4 x5 x6 x7 h_6
      ) else (
        ob (f_X2_desire k0 x1 x7 x4 h_6) fun r_11 h_10 =>
        if x6 < r_11 then (
          f_X2_pick_87 (f_X2_pick_35 n) k0 x1 x2 x4 x7 r_11 h_10
        ) else (
          if r_11 = x6 then (
            if r_11 ≤ 0 then (
              f_X2_pick_95 (f_X2_pick_35 n) k0 x1 x2 x4 x5 x6 x7 h_10
            ) else (
              if x7 = x1 then (
                f_X2_pick_87 (f_X2_pick_35 n) k0 x1 x2 x4 x7 r_11 h_10
              ) else (
                f_X2_pick_95 (f_X2_pick_35 n) k0 x1 x2 x4 x5 x6 x7 h_10
              )
            )
          ) else (
            f_X2_pick_95 (f_X2_pick_35 n) k0 x1 x2 x4 x5 x6 x7 h_10
          )
        )
      )
    )
def f_X2_pick (k0 : Nat) (x1 : Int32) (x2 : Int32) (h : AH) : Option (Int32 × AH) :=
  og (ix ((x1 * 64) + x2) (an (rf k0 5))) <|
  nm ((h.1 (rf k0 5) ((x1 * 64) + x2).toNatClampNeg)) fun x3_2 =>
  if x3_2 = (-2) then (
    ob (f_J6_bitCount_0f7a4 x2 h) fun r_7 h_6 =>
    f_X2_pick_35 FU k0 x1 x2 r_7 (-1) 0 0 h_6
  ) else (
    some (x3_2, h)
  )
set_option maxHeartbeats 4000000 in
set_option maxRecDepth 100000 in
theorem v_X2_pick_95 {E : EV} {d : Nat} (hd : 3 ≤ d) {r0 : Int32} {h0 : AH} {q35 : Nat → Int32 → Int32 → Int32 → Int32 → Int32 → Int32 → AH → Option (Int32 × AH)} (cq35 : ∀ (k0 : Nat) (x1 : Int32) (x2 : Int32) (x4 : Int32) (x5 : Int32) (x6 : Int32) (x7 : Int32) (h : AH), q35 k0 x1 x2 x4 x5 x6 x7 h = some (r0, h0) → kd k0 = (0, 2) → V E (d + 1) K_X2_pick (ZI E r0 h0) h [(0, .ref k0), (1, .int x1), (2, .int x2), (4, .int x4), (5, .int x5), (6, .int x6), (7, .int x7)] [] 35) {k0 : Nat} {x1 : Int32} {x2 : Int32} {x4 : Int32} {x5 : Int32} {x6 : Int32} {x7 : Int32} {h : AH} (hf : f_X2_pick_95 q35 k0 x1 x2 x4 x5 x6 x7 h = some (r0, h0)) (t_k0 : kd k0 = (0, 2)) : V E (d + 1) K_X2_pick (ZI E r0 h0) h [(0, .ref k0), (1, .int x1), (2, .int x2), (4, .int x4), (5, .int x5), (6, .int x6), (7, .int x7)] [] 95 := by
  unfold f_X2_pick_95 at hf
  obtain ⟨x7_1, e_2, hf⟩ := nm_s hf
  refine V_iinc (a := 1) (L' := [(7, .int x7_1), (0, .ref k0), (1, .int x1), (2, .int x2), (4, .int x4), (5, .int x5), (6, .int x6)]) 6 dX2_pick_95 rfl (by decide) (Nat.le_of_ble_eq_true rfl) e_2 rfl ?_
  refine V_goto (tgt := 35) dX2_pick_98 (by decide) ?_
  refine V_sub [1, 2, 3, 4, 5, 6, 0] rfl ?_
  exact cq35 _ _ _ _ _ _ _ _ hf t_k0
set_option maxHeartbeats 4000000 in
set_option maxRecDepth 100000 in
theorem v_X2_pick_87 {E : EV} {d : Nat} (hd : 3 ≤ d) {r0 : Int32} {h0 : AH} {q35 : Nat → Int32 → Int32 → Int32 → Int32 → Int32 → Int32 → AH → Option (Int32 × AH)} (cq35 : ∀ (k0 : Nat) (x1 : Int32) (x2 : Int32) (x4 : Int32) (x5 : Int32) (x6 : Int32) (x7 : Int32) (h : AH), q35 k0 x1 x2 x4 x5 x6 x7 h = some (r0, h0) → kd k0 = (0, 2) → V E (d + 1) K_X2_pick (ZI E r0 h0) h [(0, .ref k0), (1, .int x1), (2, .int x2), (4, .int x4), (5, .int x5), (6, .int x6), (7, .int x7)] [] 35) {k0 : Nat} {x1 : Int32} {x2 : Int32} {x4 : Int32} {x7 : Int32} {x8 : Int32} {h : AH} (hf : f_X2_pick_87 q35 k0 x1 x2 x4 x7 x8 h = some (r0, h0)) (t_k0 : kd k0 = (0, 2)) : V E (d + 1) K_X2_pick (ZI E r0 h0) h [(0, .ref k0), (1, .int x1), (2, .int x2), (4, .int x4), (7, .int x7), (8, .int x8)] [] 87 := by
  unfold f_X2_pick_87 at hf
  refine V_iload 4 dX2_pick_87 rfl ?_
  refine V_istore (L' := [(5, .int x7), (0, .ref k0), (1, .int x1), (2, .int x2), (4, .int x4), (7, .int x7), (8, .int x8)]) dX2_pick_89 (Nat.le_of_ble_eq_true rfl) rfl rfl ?_
  refine V_iload 6 dX2_pick_91 rfl ?_
  refine V_istore (L' := [(6, .int x8), (5, .int x7), (0, .ref k0), (1, .int x1), (2, .int x2), (4, .int x4), (7, .int x7), (8, .int x8)]) dX2_pick_93 (Nat.le_of_ble_eq_true rfl) rfl rfl ?_
  refine V_sub [2, 3, 4, 5, 1, 0, 6] rfl ?_
  exact v_X2_pick_95 hd cq35 hf t_k0
set_option maxHeartbeats 4000000 in
set_option maxRecDepth 100000 in
theorem v_X2_pick_35 {E : EV} {d : Nat} (hd : 3 ≤ d) {r0 : Int32} {h0 : AH} : ∀ (n : Nat) (k0 : Nat) (x1 : Int32) (x2 : Int32) (x4 : Int32) (x5 : Int32) (x6 : Int32) (x7 : Int32) (h : AH), f_X2_pick_35 n k0 x1 x2 x4 x5 x6 x7 h = some (r0, h0) → kd k0 = (0, 2) → V E (d + 1) K_X2_pick (ZI E r0 h0) h [(0, .ref k0), (1, .int x1), (2, .int x2), (4, .int x4), (5, .int x5), (6, .int x6), (7, .int x7)] [] 35 := by
  intro n
  induction n with
  | zero =>
    intro k0 x1 x2 x4 x5 x6 x7 h hf
    rw [f_X2_pick_35] at hf
    cases hf
  | succ n ih =>
    intro k0 x1 x2 x4 x5 x6 x7 h hf t_k0
    rw [f_X2_pick_35] at hf
    refine V_iload 6 dX2_pick_35 rfl ?_
    refine V_bipush (v := 6) dX2_pick_37 (by decide) ?_
    refine V_ic_ge (tgt := 101) dX2_pick_39 (by decide) (fun c_1 => ?_) (fun c_1 => ?_)
    · have hf := it_s c_1 hf
      refine V_aload_n 0 dX2_pick_101 rfl rfl ?_
      refine V_getR F_X2_21 rfl t_k0 rfl dX2_pick_102 ?_
      refine V_iload_n 1 dX2_pick_105 rfl rfl ?_
      refine V_bipush (v := 64) dX2_pick_106 (by decide) ?_
      refine V_imul dX2_pick_108 ?_
      refine V_iload_n 2 dX2_pick_109 rfl rfl ?_
      refine V_iadd dX2_pick_110 ?_
      refine V_iload 4 dX2_pick_111 rfl ?_
      obtain ⟨b_2, hf⟩ := og_s hf
      obtain ⟨h_3, e_4, hf⟩ := nm_s hf
      refine V_iast (rfA t_k0 (Nat.le_of_ble_eq_true rfl) rfl rfl (by decide)) b_2 e_4 dX2_pick_113 ?_
      refine V_iload 4 dX2_pick_114 rfl ?_
      exact V_iret rfl (so_s hf) dX2_pick_116
    · have hf := if_s c_1 hf
      refine V_iload_n 2 dX2_pick_42 rfl rfl ?_
      refine V_iload 6 dX2_pick_43 rfl ?_
      obtain ⟨r_7, h_6, e_5, hf⟩ := ob_s hf
      refine V_csi (As := [.int x2, .int x7]) (rest := []) (c_X11_isIn (d := d) (Nat.le_trans (Nat.le_of_ble_eq_true rfl) hd) e_5) ML_X2_67 MS_X11_isIn rfl rfl rfl (Nat.le_of_ble_eq_true rfl) dX2_pick_45 ?_
      refine V_if_eq (tgt := 95) dX2_pick_48 (by decide) (fun c_8 => ?_) (fun c_8 => ?_)
      · have hf := it_s c_8 hf
        exact v_X2_pick_95 hd ih hf t_k0
      · have hf := if_s c_8 hf
        refine V_aload_n 0 dX2_pick_51 rfl rfl ?_
        refine V_iload_n 1 dX2_pick_52 rfl rfl ?_
        refine V_iload 6 dX2_pick_53 rfl ?_
        refine V_iload 3 dX2_pick_55 rfl ?_
        obtain ⟨r_11, h_10, e_9, hf⟩ := ob_s hf
        refine V_cvi (As := [.int x1, .int x7, .int x4]) (rest := []) (c_X2_desire (d := d) (Nat.le_trans (Nat.le_of_ble_eq_true rfl) hd) e_9 t_k0) ML_X2_71 MV_X2_desire rfl t_k0 rfl rfl (Nat.le_of_ble_eq_true rfl) dX2_pick_57 ?_
        refine V_istore (L' := [(8, .int r_11), (0, .ref k0), (1, .int x1), (2, .int x2), (4, .int x4), (5, .int x5), (6, .int x6), (7, .int x7)]) dX2_pick_60 (Nat.le_of_ble_eq_true rfl) rfl rfl ?_
        refine V_iload 0 dX2_pick_62 rfl ?_
        refine V_iload 6 dX2_pick_64 rfl ?_
        refine V_ic_gt (tgt := 87) dX2_pick_66 (by decide) (fun c_12 => ?_) (fun c_12 => ?_)
        · have hf := it_s c_12 hf
          refine V_sub [1, 2, 3, 4, 7, 0] rfl ?_
          exact v_X2_pick_87 hd ih hf t_k0
        · have hf := if_s c_12 hf
          refine V_iload 0 dX2_pick_69 rfl ?_
          refine V_iload 6 dX2_pick_71 rfl ?_
          refine V_ic_ne (tgt := 95) dX2_pick_73 (by decide) (fun c_13 => ?_) (fun c_13 => ?_)
          · have hf := if_s c_13 hf
            refine V_sub [1, 2, 3, 4, 5, 6, 7] rfl ?_
            exact v_X2_pick_95 hd ih hf t_k0
          · have hf := it_s c_13 hf
            refine V_iload 0 dX2_pick_76 rfl ?_
            refine V_if_le (tgt := 95) dX2_pick_78 (by decide) (fun c_14 => ?_) (fun c_14 => ?_)
            · have hf := it_s c_14 hf
              refine V_sub [1, 2, 3, 4, 5, 6, 7] rfl ?_
              exact v_X2_pick_95 hd ih hf t_k0
            · have hf := if_s c_14 hf
              refine V_iload 7 dX2_pick_81 rfl ?_
              refine V_iload_n 2 dX2_pick_83 rfl rfl ?_
              refine V_ic_ne (tgt := 95) dX2_pick_84 (by decide) (fun c_15 => ?_) (fun c_15 => ?_)
              · have hf := if_s c_15 hf
                refine V_sub [1, 2, 3, 4, 5, 6, 7] rfl ?_
                exact v_X2_pick_95 hd ih hf t_k0
              · have hf := it_s c_15 hf
                refine V_sub [1, 2, 3, 4, 7, 0] rfl ?_
                exact v_X2_pick_87 hd ih hf t_k0
set_option maxHeartbeats 4000000 in
set_option maxRecDepth 100000 in
theorem c_X2_pick {E : EV} {d : Nat} (hd : 3 + 1 ≤ d) {k0 : Nat} {x1 : Int32} {x2 : Int32} {h : AH} {r0 : Int32} {h0 : AH} (hf : f_X2_pick k0 x1 x2 h = some (r0, h0)) (t_k0 : kd k0 = (0, 2)) : Con E d K_X2_pick (ZI E r0 h0) [.ref k0, .int x1, .int x2] h := by
  obtain ⟨d, rfl⟩ : ∃ d', d = d' + 1 := ⟨d - 1, by omega⟩
  have hd := Nat.le_of_succ_le_succ hd
  refine Con.ofV rfl (Nat.le_of_ble_eq_true rfl) ?_
  unfold f_X2_pick at hf
  show V E (d + 1) K_X2_pick (ZI E r0 h0) h [(0, .ref k0), (1, .int x1), (2, .int x2)] [] 0
  refine V_aload_n 0 dX2_pick_0 rfl rfl ?_
  refine V_getR F_X2_21 rfl t_k0 rfl dX2_pick_1 ?_
  refine V_iload_n 1 dX2_pick_4 rfl rfl ?_
  refine V_bipush (v := 64) dX2_pick_5 (by decide) ?_
  refine V_imul dX2_pick_7 ?_
  refine V_iload_n 2 dX2_pick_8 rfl rfl ?_
  refine V_iadd dX2_pick_9 ?_
  obtain ⟨b_1, hf⟩ := og_s hf
  refine V_iald (rfA t_k0 (Nat.le_of_ble_eq_true rfl) rfl rfl (by decide)) b_1 dX2_pick_10 ?_
  obtain ⟨x3_2, e_3, hf⟩ := nm_s hf
  refine V_istore_n (L' := [(3, .int x3_2), (0, .ref k0), (1, .int x1), (2, .int x2)]) dX2_pick_11 rfl (Nat.le_of_ble_eq_true rfl) e_3 rfl ?_
  refine V_iload_n 0 dX2_pick_12 rfl rfl ?_
  refine V_bipush (v := (-2)) dX2_pick_13 (by decide) ?_
  refine V_ic_eq (tgt := 20) dX2_pick_15 (by decide) (fun c_4 => ?_) (fun c_4 => ?_)
  · have hf := it_s c_4 hf
    refine V_iload_n 3 dX2_pick_20 rfl rfl ?_
    obtain ⟨r_7, h_6, e_5, hf⟩ := ob_s hf
    refine V_csi (As := [.int x2]) (rest := []) (c_J6_bitCount_0f7a4 (d := d) (Nat.le_trans (Nat.le_of_ble_eq_true rfl) hd) e_5) ML_X2_61 MS_J6_bitCount_0f7a4 rfl rfl rfl (Nat.le_of_ble_eq_true rfl) dX2_pick_21 ?_
    refine V_istore (L' := [(4, .int r_7), (3, .int x3_2), (0, .ref k0), (1, .int x1), (2, .int x2)]) dX2_pick_24 (Nat.le_of_ble_eq_true rfl) rfl rfl ?_
    refine V_iconst (v := (-1)) dX2_pick_26 (by decide) ?_
    refine V_istore (L' := [(5, .int (-1)), (4, .int r_7), (3, .int x3_2), (0, .ref k0), (1, .int x1), (2, .int x2)]) dX2_pick_27 (Nat.le_of_ble_eq_true rfl) rfl rfl ?_
    refine V_iconst (v := 0) dX2_pick_29 (by decide) ?_
    refine V_istore (L' := [(6, .int 0), (5, .int (-1)), (4, .int r_7), (3, .int x3_2), (0, .ref k0), (1, .int x1), (2, .int x2)]) dX2_pick_30 (Nat.le_of_ble_eq_true rfl) rfl rfl ?_
    refine V_iconst (v := 0) dX2_pick_32 (by decide) ?_
    refine V_istore (L' := [(7, .int 0), (6, .int 0), (5, .int (-1)), (4, .int r_7), (3, .int x3_2), (0, .ref k0), (1, .int x1), (2, .int x2)]) dX2_pick_33 (Nat.le_of_ble_eq_true rfl) rfl rfl ?_
    refine V_sub [5, 6, 7, 3, 2, 1, 0] rfl ?_
    exact v_X2_pick_35 hd FU _ _ _ _ _ _ _ _ hf t_k0
  · have hf := if_s c_4 hf
    refine V_iload_n 0 dX2_pick_18 rfl rfl ?_
    exact V_iret rfl (so_s hf) dX2_pick_19
theorem dX5_go_0 : decode cX5_go 0 = .ok (.iload_n 1, 1) := by decide +kernel
theorem dX5_go_1 : decode cX5_go 1 = .ok (.istore_n 2, 1) := by decide +kernel
theorem dX5_go_2 : decode cX5_go 2 = .ok (.iload_n 2, 1) := by decide +kernel
theorem dX5_go_3 : decode cX5_go 3 = .ok (.aload_n 0, 1) := by decide +kernel
theorem dX5_go_4 : decode cX5_go 4 = .ok (.getfield 34, 3) := by decide +kernel
theorem dX5_go_7 : decode cX5_go 7 = .ok (.if_icmp .ge 76, 3) := by decide +kernel
theorem dX5_go_10 : decode cX5_go 10 = .ok (.aload_n 0, 1) := by decide +kernel
theorem dX5_go_11 : decode cX5_go 11 = .ok (.getfield 9, 3) := by decide +kernel
theorem dX5_go_14 : decode cX5_go 14 = .ok (.iload_n 2, 1) := by decide +kernel
theorem dX5_go_15 : decode cX5_go 15 = .ok (.iaload, 1) := by decide +kernel
theorem dX5_go_16 : decode cX5_go 16 = .ok (.istore_n 3, 1) := by decide +kernel
theorem dX5_go_17 : decode cX5_go 17 = .ok (.aload_n 0, 1) := by decide +kernel
theorem dX5_go_18 : decode cX5_go 18 = .ok (.getfield 24, 3) := by decide +kernel
theorem dX5_go_21 : decode cX5_go 21 = .ok (.iload_n 3, 1) := by decide +kernel
theorem dX5_go_22 : decode cX5_go 22 = .ok (.aload_n 0, 1) := by decide +kernel
theorem dX5_go_23 : decode cX5_go 23 = .ok (.getfield 18, 3) := by decide +kernel
theorem dX5_go_26 : decode cX5_go 26 = .ok (.iload_n 2, 1) := by decide +kernel
theorem dX5_go_27 : decode cX5_go 27 = .ok (.iaload, 1) := by decide +kernel
theorem dX5_go_28 : decode cX5_go 28 = .ok (.invokevirtual 50, 3) := by decide +kernel
theorem dX5_go_31 : decode cX5_go 31 = .ok (.istore 4, 2) := by decide +kernel
theorem dX5_go_33 : decode cX5_go 33 = .ok (.aload_n 0, 1) := by decide +kernel
theorem dX5_go_34 : decode cX5_go 34 = .ok (.getfield 15, 3) := by decide +kernel
theorem dX5_go_37 : decode cX5_go 37 = .ok (.iload_n 3, 1) := by decide +kernel
theorem dX5_go_38 : decode cX5_go 38 = .ok (.iload 4, 2) := by decide +kernel
theorem dX5_go_40 : decode cX5_go 40 = .ok (.iastore, 1) := by decide +kernel
theorem dX5_go_41 : decode cX5_go 41 = .ok (.aload_n 0, 1) := by decide +kernel
theorem dX5_go_42 : decode cX5_go 42 = .ok (.getfield 18, 3) := by decide +kernel
theorem dX5_go_45 : decode cX5_go 45 = .ok (.iload_n 2, 1) := by decide +kernel
theorem dX5_go_46 : decode cX5_go 46 = .ok (.iconst 1, 1) := by decide +kernel
theorem dX5_go_47 : decode cX5_go 47 = .ok (.iadd, 1) := by decide +kernel
theorem dX5_go_48 : decode cX5_go 48 = .ok (.iload 4, 2) := by decide +kernel
theorem dX5_go_50 : decode cX5_go 50 = .ok (.iconst (-1), 1) := by decide +kernel
theorem dX5_go_51 : decode cX5_go 51 = .ok (.if_icmp .ne 12, 3) := by decide +kernel
theorem dX5_go_54 : decode cX5_go 54 = .ok (.aload_n 0, 1) := by decide +kernel
theorem dX5_go_55 : decode cX5_go 55 = .ok (.getfield 18, 3) := by decide +kernel
theorem dX5_go_58 : decode cX5_go 58 = .ok (.iload_n 2, 1) := by decide +kernel
theorem dX5_go_59 : decode cX5_go 59 = .ok (.iaload, 1) := by decide +kernel
theorem dX5_go_60 : decode cX5_go 60 = .ok (.goto 16, 3) := by decide +kernel
theorem dX5_go_63 : decode cX5_go 63 = .ok (.aload_n 0, 1) := by decide +kernel
theorem dX5_go_64 : decode cX5_go 64 = .ok (.getfield 18, 3) := by decide +kernel
theorem dX5_go_67 : decode cX5_go 67 = .ok (.iload_n 2, 1) := by decide +kernel
theorem dX5_go_68 : decode cX5_go 68 = .ok (.iaload, 1) := by decide +kernel
theorem dX5_go_69 : decode cX5_go 69 = .ok (.iconst 1, 1) := by decide +kernel
theorem dX5_go_70 : decode cX5_go 70 = .ok (.iload 4, 2) := by decide +kernel
theorem dX5_go_72 : decode cX5_go 72 = .ok (.ishl, 1) := by decide +kernel
theorem dX5_go_73 : decode cX5_go 73 = .ok (.iconst (-1), 1) := by decide +kernel
theorem dX5_go_74 : decode cX5_go 74 = .ok (.ixor, 1) := by decide +kernel
theorem dX5_go_75 : decode cX5_go 75 = .ok (.iand, 1) := by decide +kernel
theorem dX5_go_76 : decode cX5_go 76 = .ok (.iastore, 1) := by decide +kernel
theorem dX5_go_77 : decode cX5_go 77 = .ok (.iinc 2 1, 3) := by decide +kernel
theorem dX5_go_80 : decode cX5_go 80 = .ok (.goto (-78), 3) := by decide +kernel
theorem dX5_go_83 : decode cX5_go 83 = .ok (.return_, 1) := by decide +kernel
theorem F_X5_24 : FLk RX5 24 5 0 := ⟨RX5, TX5, 6, rfl, rfl, iw_X5, by decide, Or.inl fl_X5_24⟩
theorem ML_X5_50 : MLk RX5 50 yX2_pick := Or.inl ml_X5_50
theorem MV_X2_pick : MVk K_X2_pick 2 2 := ⟨⟨cd_X2_pick, in_X2, ⟨by decide, by decide, by decide +kernel⟩, by decide⟩, im_X2_pick, se_X2_pick, _, _, rfl⟩
theorem F_X5_15 : FLk RX5 15 5 3 := ⟨RX5, TX5, 6, rfl, rfl, iw_X5, by decide, Or.inl fl_X5_15⟩
def f_X5_go_76 (q2 : Nat → Int32 → AH → Option AH) (k0 : Nat) (x2 : Int32) (s0 : Int32) (s1 : Int32) (sk2 : Nat) (h : AH) : Option AH :=
  og (ix s1 (an sk2)) <|
  nm (sI h sk2 s1.toNatClampNeg s0) fun h_2 =>
  nm (x2 + 1) fun x2_4 =>
  q2 k0 x2_4 h_2
def f_X5_go_2 : Nat → Nat → Int32 → AH → Option AH
  | 0, _, _, _ => none
  | n + 1, k0, x2, h =>
    if (h.1 k0 2) ≤ x2 then (
      some h
    ) else (
      og (ix x2 (an (rf k0 1))) <|
      nm ((h.1 (rf k0 1) x2.toNatClampNeg)) fun x3_3 =>
      og (ix x2 (an (rf k0 4))) <|
      ob (f_X2_pick (rf k0 0) x3_3 (h.1 (rf k0 4) x2.toNatClampNeg) h) fun r_8 h_7 =>
      og (ix x3_3 (an (rf k0 3))) <|
      nm (sI h_7 (rf k0 3) x3_3.toNatClampNeg r_8) fun h_10 =>
      if r_8 = (-1) then (
        og (ix x2 (an (rf k0 4))) <|
        f_X5_go_76 (f_X5_go_2 n) k0 x2 (h_10.1 (rf k0 4) x2.toNatClampNeg) (x2 + 1) (rf k0 4) h_10
      ) else (
        og (ix x2 (an (rf k0 4))) <|
        f_X5_go_76 (f_X5_go_2 n) k0 x2 ((h_10.1 (rf k0 4) x2.toNatClampNeg) &&& (((1 : Int32) <<< (r_8 &&& 31)) ^^^ (-1))) (x2 + 1) (rf k0 4) h_10
      )
    )
def f_X5_go (k0 : Nat) (x1 : Int32) (h : AH) : Option AH :=
  f_X5_go_2 FU k0 x1 h
set_option maxHeartbeats 4000000 in
set_option maxRecDepth 100000 in
theorem v_X5_go_76 {E : EV} {d : Nat} (hd : 4 ≤ d) {h0 : AH} {q2 : Nat → Int32 → AH → Option AH} (cq2 : ∀ (k0 : Nat) (x2 : Int32) (h : AH), q2 k0 x2 h = some h0 → kd k0 = (0, 5) → V E (d + 1) K_X5_go (ZV E h0) h [(0, .ref k0), (2, .int x2)] [] 2) {k0 : Nat} {x2 : Int32} {s0 : Int32} {s1 : Int32} {sk2 : Nat} {h : AH} (hf : f_X5_go_76 q2 k0 x2 s0 s1 sk2 h = some h0) (t_k0 : kd k0 = (0, 5)) (t_sk2 : (kd sk2).1 = 1) : V E (d + 1) K_X5_go (ZV E h0) h [(0, .ref k0), (2, .int x2)] [.int s0, .int s1, .ref sk2] 76 := by
  unfold f_X5_go_76 at hf
  obtain ⟨b_1, hf⟩ := og_s hf
  obtain ⟨h_2, e_3, hf⟩ := nm_s hf
  refine V_iast t_sk2 b_1 e_3 dX5_go_76 ?_
  obtain ⟨x2_4, e_5, hf⟩ := nm_s hf
  refine V_iinc (a := 1) (L' := [(2, .int x2_4), (0, .ref k0)]) 1 dX5_go_77 rfl (by decide) (Nat.le_of_ble_eq_true rfl) e_5 rfl ?_
  refine V_goto (tgt := 2) dX5_go_80 (by decide) ?_
  refine V_sub [1, 0] rfl ?_
  exact cq2 _ _ _ hf t_k0
set_option maxHeartbeats 4000000 in
set_option maxRecDepth 100000 in
theorem v_X5_go_2 {E : EV} {d : Nat} (hd : 4 ≤ d) {h0 : AH} : ∀ (n : Nat) (k0 : Nat) (x2 : Int32) (h : AH), f_X5_go_2 n k0 x2 h = some h0 → kd k0 = (0, 5) → V E (d + 1) K_X5_go (ZV E h0) h [(0, .ref k0), (2, .int x2)] [] 2 := by
  intro n
  induction n with
  | zero =>
    intro k0 x2 h hf
    rw [f_X5_go_2] at hf
    cases hf
  | succ n ih =>
    intro k0 x2 h hf t_k0
    rw [f_X5_go_2] at hf
    refine V_iload_n 1 dX5_go_2 rfl rfl ?_
    refine V_aload_n 0 dX5_go_3 rfl rfl ?_
    refine V_getI F_X5_34 rfl t_k0 rfl dX5_go_4 ?_
    refine V_ic_ge (tgt := 83) dX5_go_7 (by decide) (fun c_1 => ?_) (fun c_1 => ?_)
    · have hf := it_s c_1 hf
      exact V_vret rfl (so_s hf) dX5_go_83
    · have hf := if_s c_1 hf
      refine V_aload_n 0 dX5_go_10 rfl rfl ?_
      refine V_getR F_X5_9 rfl t_k0 rfl dX5_go_11 ?_
      refine V_iload_n 1 dX5_go_14 rfl rfl ?_
      obtain ⟨b_2, hf⟩ := og_s hf
      refine V_iald (rfA t_k0 (Nat.le_of_ble_eq_true rfl) rfl rfl (by decide)) b_2 dX5_go_15 ?_
      obtain ⟨x3_3, e_4, hf⟩ := nm_s hf
      refine V_istore_n (L' := [(3, .int x3_3), (0, .ref k0), (2, .int x2)]) dX5_go_16 rfl (Nat.le_of_ble_eq_true rfl) e_4 rfl ?_
      refine V_aload_n 1 dX5_go_17 rfl rfl ?_
      refine V_getR F_X5_24 rfl t_k0 rfl dX5_go_18 ?_
      refine V_iload_n 0 dX5_go_21 rfl rfl ?_
      refine V_aload_n 1 dX5_go_22 rfl rfl ?_
      refine V_getR F_X5_18 rfl t_k0 rfl dX5_go_23 ?_
      refine V_iload_n 2 dX5_go_26 rfl rfl ?_
      obtain ⟨b_5, hf⟩ := og_s hf
      refine V_iald (rfA t_k0 (Nat.le_of_ble_eq_true rfl) rfl rfl (by decide)) b_5 dX5_go_27 ?_
      obtain ⟨r_8, h_7, e_6, hf⟩ := ob_s hf
      refine V_cvi (As := [.int x3_3, .int (h.1 (rf k0 4) x2.toNatClampNeg)]) (rest := []) (c_X2_pick (d := d) (Nat.le_trans (Nat.le_of_ble_eq_true rfl) hd) e_6 (rfO t_k0 (Nat.le_of_ble_eq_true rfl) rfl rfl)) ML_X5_50 MV_X2_pick rfl (rfO t_k0 (Nat.le_of_ble_eq_true rfl) rfl rfl) rfl rfl (Nat.le_of_ble_eq_true rfl) dX5_go_28 ?_
      refine V_istore (L' := [(4, .int r_8), (3, .int x3_3), (0, .ref k0), (2, .int x2)]) dX5_go_31 (Nat.le_of_ble_eq_true rfl) rfl rfl ?_
      refine V_aload_n 2 dX5_go_33 rfl rfl ?_
      refine V_getR F_X5_15 rfl t_k0 rfl dX5_go_34 ?_
      refine V_iload_n 1 dX5_go_37 rfl rfl ?_
      refine V_iload 0 dX5_go_38 rfl ?_
      obtain ⟨b_9, hf⟩ := og_s hf
      obtain ⟨h_10, e_11, hf⟩ := nm_s hf
      refine V_iast (rfA t_k0 (Nat.le_of_ble_eq_true rfl) rfl rfl (by decide)) b_9 e_11 dX5_go_40 ?_
      refine V_aload_n 2 dX5_go_41 rfl rfl ?_
      refine V_getR F_X5_18 rfl t_k0 rfl dX5_go_42 ?_
      refine V_iload_n 3 dX5_go_45 rfl rfl ?_
      refine V_iconst (v := 1) dX5_go_46 (by decide) ?_
      refine V_iadd dX5_go_47 ?_
      refine V_iload 0 dX5_go_48 rfl ?_
      refine V_iconst (v := (-1)) dX5_go_50 (by decide) ?_
      refine V_ic_ne (tgt := 63) dX5_go_51 (by decide) (fun c_12 => ?_) (fun c_12 => ?_)
      · have hf := if_s c_12 hf
        refine V_aload_n 2 dX5_go_63 rfl rfl ?_
        refine V_getR F_X5_18 rfl t_k0 rfl dX5_go_64 ?_
        refine V_iload_n 3 dX5_go_67 rfl rfl ?_
        obtain ⟨b_13, hf⟩ := og_s hf
        refine V_iald (rfA t_k0 (Nat.le_of_ble_eq_true rfl) rfl rfl (by decide)) b_13 dX5_go_68 ?_
        refine V_iconst (v := 1) dX5_go_69 (by decide) ?_
        refine V_iload 0 dX5_go_70 rfl ?_
        refine V_ishl dX5_go_72 ?_
        refine V_iconst (v := (-1)) dX5_go_73 (by decide) ?_
        refine V_ixor dX5_go_74 ?_
        refine V_iand dX5_go_75 ?_
        refine V_sub [2, 3] rfl ?_
        exact v_X5_go_76 hd ih hf t_k0 (rfA t_k0 (Nat.le_of_ble_eq_true rfl) rfl rfl (by decide))
      · have hf := it_s c_12 hf
        refine V_aload_n 2 dX5_go_54 rfl rfl ?_
        refine V_getR F_X5_18 rfl t_k0 rfl dX5_go_55 ?_
        refine V_iload_n 3 dX5_go_58 rfl rfl ?_
        obtain ⟨b_14, hf⟩ := og_s hf
        refine V_iald (rfA t_k0 (Nat.le_of_ble_eq_true rfl) rfl rfl (by decide)) b_14 dX5_go_59 ?_
        refine V_goto (tgt := 76) dX5_go_60 (by decide) ?_
        refine V_sub [2, 3] rfl ?_
        exact v_X5_go_76 hd ih hf t_k0 (rfA t_k0 (Nat.le_of_ble_eq_true rfl) rfl rfl (by decide))
set_option maxHeartbeats 4000000 in
set_option maxRecDepth 100000 in
theorem c_X5_go {E : EV} {d : Nat} (hd : 4 + 1 ≤ d) {k0 : Nat} {x1 : Int32} {h : AH} {h0 : AH} (hf : f_X5_go k0 x1 h = some h0) (t_k0 : kd k0 = (0, 5)) : Con E d K_X5_go (ZV E h0) [.ref k0, .int x1] h := by
  obtain ⟨d, rfl⟩ : ∃ d', d = d' + 1 := ⟨d - 1, by omega⟩
  have hd := Nat.le_of_succ_le_succ hd
  refine Con.ofV rfl (Nat.le_of_ble_eq_true rfl) ?_
  unfold f_X5_go at hf
  show V E (d + 1) K_X5_go (ZV E h0) h [(0, .ref k0), (1, .int x1)] [] 0
  refine V_iload_n 1 dX5_go_0 rfl rfl ?_
  refine V_istore_n (L' := [(2, .int x1), (0, .ref k0), (1, .int x1)]) dX5_go_1 rfl (Nat.le_of_ble_eq_true rfl) rfl rfl ?_
  refine V_sub [1, 0] rfl ?_
  exact v_X5_go_2 hd FU _ _ _ hf t_k0
theorem dX2_worthOf_0 : decode cX2_worthOf 0 = .ok (.iload_n 1, 1) := by decide +kernel
theorem dX2_worthOf_1 : decode cX2_worthOf 1 = .ok (.iconst (-1), 1) := by decide +kernel
theorem dX2_worthOf_2 : decode cX2_worthOf 2 = .ok (.if_icmp .ne 7, 3) := by decide +kernel
theorem dX2_worthOf_5 : decode cX2_worthOf 5 = .ok (.iconst 0, 1) := by decide +kernel
theorem dX2_worthOf_6 : decode cX2_worthOf 6 = .ok (.goto 9, 3) := by decide +kernel
theorem dX2_worthOf_9 : decode cX2_worthOf 9 = .ok (.aload_n 0, 1) := by decide +kernel
theorem dX2_worthOf_10 : decode cX2_worthOf 10 = .ok (.getfield 15, 3) := by decide +kernel
theorem dX2_worthOf_13 : decode cX2_worthOf 13 = .ok (.iload_n 1, 1) := by decide +kernel
theorem dX2_worthOf_14 : decode cX2_worthOf 14 = .ok (.iaload, 1) := by decide +kernel
theorem dX2_worthOf_15 : decode cX2_worthOf 15 = .ok (.ireturn, 1) := by decide +kernel
def f_X2_worthOf_15 (s0 : Int32) (h : AH) : Option (Int32 × AH) :=
  some (s0, h)
def f_X2_worthOf (k0 : Nat) (x1 : Int32) (h : AH) : Option (Int32 × AH) :=
  if x1 = (-1) then (
    f_X2_worthOf_15 0 h
  ) else (
    og (ix x1 (an (rf k0 3))) <|
    f_X2_worthOf_15 (h.1 (rf k0 3) x1.toNatClampNeg) h
  )
set_option maxHeartbeats 4000000 in
set_option maxRecDepth 100000 in
theorem v_X2_worthOf_15 {E : EV} {d : Nat} (hd : 0 ≤ d) {r0 : Int32} {h0 : AH} {s0 : Int32} {h : AH} (hf : f_X2_worthOf_15 s0 h = some (r0, h0)) : V E (d + 1) K_X2_worthOf (ZI E r0 h0) h [] [.int s0] 15 := by
  unfold f_X2_worthOf_15 at hf
  exact V_iret rfl (so_s hf) dX2_worthOf_15
set_option maxHeartbeats 4000000 in
set_option maxRecDepth 100000 in
theorem c_X2_worthOf {E : EV} {d : Nat} (hd : 0 + 1 ≤ d) {k0 : Nat} {x1 : Int32} {h : AH} {r0 : Int32} {h0 : AH} (hf : f_X2_worthOf k0 x1 h = some (r0, h0)) (t_k0 : kd k0 = (0, 2)) : Con E d K_X2_worthOf (ZI E r0 h0) [.ref k0, .int x1] h := by
  obtain ⟨d, rfl⟩ : ∃ d', d = d' + 1 := ⟨d - 1, by omega⟩
  have hd := Nat.le_of_succ_le_succ hd
  refine Con.ofV rfl (Nat.le_of_ble_eq_true rfl) ?_
  unfold f_X2_worthOf at hf
  show V E (d + 1) K_X2_worthOf (ZI E r0 h0) h [(0, .ref k0), (1, .int x1)] [] 0
  refine V_iload_n 1 dX2_worthOf_0 rfl rfl ?_
  refine V_iconst (v := (-1)) dX2_worthOf_1 (by decide) ?_
  refine V_ic_ne (tgt := 9) dX2_worthOf_2 (by decide) (fun c_1 => ?_) (fun c_1 => ?_)
  · have hf := if_s c_1 hf
    refine V_aload_n 0 dX2_worthOf_9 rfl rfl ?_
    refine V_getR F_X2_15 rfl t_k0 rfl dX2_worthOf_10 ?_
    refine V_iload_n 1 dX2_worthOf_13 rfl rfl ?_
    obtain ⟨b_2, hf⟩ := og_s hf
    refine V_iald (rfA t_k0 (Nat.le_of_ble_eq_true rfl) rfl rfl (by decide)) b_2 dX2_worthOf_14 ?_
    refine V_sub [] rfl ?_
    exact v_X2_worthOf_15 hd hf
  · have hf := it_s c_1 hf
    refine V_iconst (v := 0) dX2_worthOf_5 (by decide) ?_
    refine V_goto (tgt := 15) dX2_worthOf_6 (by decide) ?_
    refine V_sub [] rfl ?_
    exact v_X2_worthOf_15 hd hf
theorem dX5_worthOf_0 : decode cX5_worthOf 0 = .ok (.aload_n 0, 1) := by decide +kernel
theorem dX5_worthOf_1 : decode cX5_worthOf 1 = .ok (.getfield 24, 3) := by decide +kernel
theorem dX5_worthOf_4 : decode cX5_worthOf 4 = .ok (.aload_n 0, 1) := by decide +kernel
theorem dX5_worthOf_5 : decode cX5_worthOf 5 = .ok (.getfield 15, 3) := by decide +kernel
theorem dX5_worthOf_8 : decode cX5_worthOf 8 = .ok (.iload_n 1, 1) := by decide +kernel
theorem dX5_worthOf_9 : decode cX5_worthOf 9 = .ok (.iaload, 1) := by decide +kernel
theorem dX5_worthOf_10 : decode cX5_worthOf 10 = .ok (.invokevirtual 65, 3) := by decide +kernel
theorem dX5_worthOf_13 : decode cX5_worthOf 13 = .ok (.ireturn, 1) := by decide +kernel
theorem ML_X5_65 : MLk RX5 65 yX2_worthOf := Or.inl ml_X5_65
theorem MV_X2_worthOf : MVk K_X2_worthOf 1 2 := ⟨⟨cd_X2_worthOf, in_X2, ⟨by decide, by decide, by decide +kernel⟩, by decide⟩, im_X2_worthOf, se_X2_worthOf, _, _, rfl⟩
def f_X5_worthOf (k0 : Nat) (x1 : Int32) (h : AH) : Option (Int32 × AH) :=
  og (ix x1 (an (rf k0 3))) <|
  ob (f_X2_worthOf (rf k0 0) (h.1 (rf k0 3) x1.toNatClampNeg) h) fun r_4 h_3 =>
  some (r_4, h_3)
set_option maxHeartbeats 4000000 in
set_option maxRecDepth 100000 in
theorem c_X5_worthOf {E : EV} {d : Nat} (hd : 1 + 1 ≤ d) {k0 : Nat} {x1 : Int32} {h : AH} {r0 : Int32} {h0 : AH} (hf : f_X5_worthOf k0 x1 h = some (r0, h0)) (t_k0 : kd k0 = (0, 5)) : Con E d K_X5_worthOf (ZI E r0 h0) [.ref k0, .int x1] h := by
  obtain ⟨d, rfl⟩ : ∃ d', d = d' + 1 := ⟨d - 1, by omega⟩
  have hd := Nat.le_of_succ_le_succ hd
  refine Con.ofV rfl (Nat.le_of_ble_eq_true rfl) ?_
  unfold f_X5_worthOf at hf
  show V E (d + 1) K_X5_worthOf (ZI E r0 h0) h [(0, .ref k0), (1, .int x1)] [] 0
  refine V_aload_n 0 dX5_worthOf_0 rfl rfl ?_
  refine V_getR F_X5_24 rfl t_k0 rfl dX5_worthOf_1 ?_
  refine V_aload_n 0 dX5_worthOf_4 rfl rfl ?_
  refine V_getR F_X5_15 rfl t_k0 rfl dX5_worthOf_5 ?_
  refine V_iload_n 1 dX5_worthOf_8 rfl rfl ?_
  obtain ⟨b_1, hf⟩ := og_s hf
  refine V_iald (rfA t_k0 (Nat.le_of_ble_eq_true rfl) rfl rfl (by decide)) b_1 dX5_worthOf_9 ?_
  obtain ⟨r_4, h_3, e_2, hf⟩ := ob_s hf
  refine V_cvi (As := [.int (h.1 (rf k0 3) x1.toNatClampNeg)]) (rest := []) (c_X2_worthOf (d := d) (Nat.le_trans (Nat.le_of_ble_eq_true rfl) hd) e_2 (rfO t_k0 (Nat.le_of_ble_eq_true rfl) rfl rfl)) ML_X5_65 MV_X2_worthOf rfl (rfO t_k0 (Nat.le_of_ble_eq_true rfl) rfl rfl) rfl rfl (Nat.le_of_ble_eq_true rfl) dX5_worthOf_10 ?_
  exact V_iret rfl (so_s hf) dX5_worthOf_13
theorem dX0_come_0 : decode cX0_come 0 = .ok (.aload_n 0, 1) := by decide +kernel
theorem dX0_come_1 : decode cX0_come 1 = .ok (.getfield 30, 3) := by decide +kernel
theorem dX0_come_4 : decode cX0_come 4 = .ok (.iload_n 2, 1) := by decide +kernel
theorem dX0_come_5 : decode cX0_come 5 = .ok (.invokevirtual 65, 3) := by decide +kernel
theorem dX0_come_8 : decode cX0_come 8 = .ok (.iconst 0, 1) := by decide +kernel
theorem dX0_come_9 : decode cX0_come 9 = .ok (.istore_n 3, 1) := by decide +kernel
theorem dX0_come_10 : decode cX0_come 10 = .ok (.iload_n 3, 1) := by decide +kernel
theorem dX0_come_11 : decode cX0_come 11 = .ok (.aload_n 0, 1) := by decide +kernel
theorem dX0_come_12 : decode cX0_come 12 = .ok (.getfield 30, 3) := by decide +kernel
theorem dX0_come_15 : decode cX0_come 15 = .ok (.getfield 95, 3) := by decide +kernel
theorem dX0_come_18 : decode cX0_come 18 = .ok (.if_icmp .ge 42, 3) := by decide +kernel
theorem dX0_come_21 : decode cX0_come 21 = .ok (.aload_n 0, 1) := by decide +kernel
theorem dX0_come_22 : decode cX0_come 22 = .ok (.getfield 30, 3) := by decide +kernel
theorem dX0_come_25 : decode cX0_come 25 = .ok (.getfield 96, 3) := by decide +kernel
theorem dX0_come_28 : decode cX0_come 28 = .ok (.iload_n 3, 1) := by decide +kernel
theorem dX0_come_29 : decode cX0_come 29 = .ok (.iaload, 1) := by decide +kernel
theorem dX0_come_30 : decode cX0_come 30 = .ok (.istore 4, 2) := by decide +kernel
theorem dX0_come_32 : decode cX0_come 32 = .ok (.aload_n 0, 1) := by decide +kernel
theorem dX0_come_33 : decode cX0_come 33 = .ok (.getfield 26, 3) := by decide +kernel
theorem dX0_come_36 : decode cX0_come 36 = .ok (.getfield 99, 3) := by decide +kernel
theorem dX0_come_39 : decode cX0_come 39 = .ok (.iload 4, 2) := by decide +kernel
theorem dX0_come_41 : decode cX0_come 41 = .ok (.aload_n 0, 1) := by decide +kernel
theorem dX0_come_42 : decode cX0_come 42 = .ok (.iload 4, 2) := by decide +kernel
theorem dX0_come_44 : decode cX0_come 44 = .ok (.iload_n 1, 1) := by decide +kernel
theorem dX0_come_45 : decode cX0_come 45 = .ok (.iload 4, 2) := by decide +kernel
theorem dX0_come_47 : decode cX0_come 47 = .ok (.invokestatic 38, 3) := by decide +kernel
theorem dX0_come_50 : decode cX0_come 50 = .ok (.invokevirtual 104, 3) := by decide +kernel
theorem dX0_come_53 : decode cX0_come 53 = .ok (.iastore, 1) := by decide +kernel
theorem dX0_come_54 : decode cX0_come 54 = .ok (.iinc 3 1, 3) := by decide +kernel
theorem dX0_come_57 : decode cX0_come 57 = .ok (.goto (-47), 3) := by decide +kernel
theorem dX0_come_60 : decode cX0_come 60 = .ok (.aload_n 0, 1) := by decide +kernel
theorem dX0_come_61 : decode cX0_come 61 = .ok (.getfield 26, 3) := by decide +kernel
theorem dX0_come_64 : decode cX0_come 64 = .ok (.invokevirtual 108, 3) := by decide +kernel
theorem dX0_come_67 : decode cX0_come 67 = .ok (.aload_n 0, 1) := by decide +kernel
theorem dX0_come_68 : decode cX0_come 68 = .ok (.getfield 30, 3) := by decide +kernel
theorem dX0_come_71 : decode cX0_come 71 = .ok (.iload_n 2, 1) := by decide +kernel
theorem dX0_come_72 : decode cX0_come 72 = .ok (.invokevirtual 74, 3) := by decide +kernel
theorem dX0_come_75 : decode cX0_come 75 = .ok (.aload_n 0, 1) := by decide +kernel
theorem dX0_come_76 : decode cX0_come 76 = .ok (.getfield 30, 3) := by decide +kernel
theorem dX0_come_79 : decode cX0_come 79 = .ok (.iconst 0, 1) := by decide +kernel
theorem dX0_come_80 : decode cX0_come 80 = .ok (.invokevirtual 77, 3) := by decide +kernel
theorem dX0_come_83 : decode cX0_come 83 = .ok (.iconst 0, 1) := by decide +kernel
theorem dX0_come_84 : decode cX0_come 84 = .ok (.istore_n 3, 1) := by decide +kernel
theorem dX0_come_85 : decode cX0_come 85 = .ok (.iload_n 3, 1) := by decide +kernel
theorem dX0_come_86 : decode cX0_come 86 = .ok (.aload_n 0, 1) := by decide +kernel
theorem dX0_come_87 : decode cX0_come 87 = .ok (.getfield 30, 3) := by decide +kernel
theorem dX0_come_90 : decode cX0_come 90 = .ok (.getfield 95, 3) := by decide +kernel
theorem dX0_come_93 : decode cX0_come 93 = .ok (.if_icmp .ge 66, 3) := by decide +kernel
theorem dX0_come_96 : decode cX0_come 96 = .ok (.aload_n 0, 1) := by decide +kernel
theorem dX0_come_97 : decode cX0_come 97 = .ok (.getfield 30, 3) := by decide +kernel
theorem dX0_come_100 : decode cX0_come 100 = .ok (.getfield 96, 3) := by decide +kernel
theorem dX0_come_103 : decode cX0_come 103 = .ok (.iload_n 3, 1) := by decide +kernel
theorem dX0_come_104 : decode cX0_come 104 = .ok (.iaload, 1) := by decide +kernel
theorem dX0_come_105 : decode cX0_come 105 = .ok (.istore 4, 2) := by decide +kernel
theorem dX0_come_107 : decode cX0_come 107 = .ok (.aload_n 0, 1) := by decide +kernel
theorem dX0_come_108 : decode cX0_come 108 = .ok (.iload 4, 2) := by decide +kernel
theorem dX0_come_110 : decode cX0_come 110 = .ok (.iload_n 1, 1) := by decide +kernel
theorem dX0_come_111 : decode cX0_come 111 = .ok (.iload 4, 2) := by decide +kernel
theorem dX0_come_113 : decode cX0_come 113 = .ok (.invokestatic 38, 3) := by decide +kernel
theorem dX0_come_116 : decode cX0_come 116 = .ok (.ifCond .ne 7, 3) := by decide +kernel
theorem dX0_come_119 : decode cX0_come 119 = .ok (.iconst 1, 1) := by decide +kernel
theorem dX0_come_120 : decode cX0_come 120 = .ok (.goto 4, 3) := by decide +kernel
theorem dX0_come_123 : decode cX0_come 123 = .ok (.iconst 0, 1) := by decide +kernel
theorem dX0_come_124 : decode cX0_come 124 = .ok (.invokevirtual 104, 3) := by decide +kernel
theorem dX0_come_127 : decode cX0_come 127 = .ok (.istore 5, 2) := by decide +kernel
theorem dX0_come_129 : decode cX0_come 129 = .ok (.aload_n 0, 1) := by decide +kernel
theorem dX0_come_130 : decode cX0_come 130 = .ok (.getfield 15, 3) := by decide +kernel
theorem dX0_come_133 : decode cX0_come 133 = .ok (.iload_n 1, 1) := by decide +kernel
theorem dX0_come_134 : decode cX0_come 134 = .ok (.bipush 6, 2) := by decide +kernel
theorem dX0_come_136 : decode cX0_come 136 = .ok (.imul, 1) := by decide +kernel
theorem dX0_come_137 : decode cX0_come 137 = .ok (.iload 4, 2) := by decide +kernel
theorem dX0_come_139 : decode cX0_come 139 = .ok (.iadd, 1) := by decide +kernel
theorem dX0_come_140 : decode cX0_come 140 = .ok (.aload_n 0, 1) := by decide +kernel
theorem dX0_come_141 : decode cX0_come 141 = .ok (.getfield 30, 3) := by decide +kernel
theorem dX0_come_144 : decode cX0_come 144 = .ok (.iload 4, 2) := by decide +kernel
theorem dX0_come_146 : decode cX0_come 146 = .ok (.invokevirtual 85, 3) := by decide +kernel
theorem dX0_come_149 : decode cX0_come 149 = .ok (.iload 5, 2) := by decide +kernel
theorem dX0_come_151 : decode cX0_come 151 = .ok (.iadd, 1) := by decide +kernel
theorem dX0_come_152 : decode cX0_come 152 = .ok (.iastore, 1) := by decide +kernel
theorem dX0_come_153 : decode cX0_come 153 = .ok (.iinc 3 1, 3) := by decide +kernel
theorem dX0_come_156 : decode cX0_come 156 = .ok (.goto (-71), 3) := by decide +kernel
theorem dX0_come_159 : decode cX0_come 159 = .ok (.return_, 1) := by decide +kernel
theorem ML_X0_104 : MLk RX0 104 yX0_comesIn := Or.inl ml_X0_104
theorem MV_X0_comesIn : MVk K_X0_comesIn 2 0 := ⟨⟨cd_X0_comesIn, in_X0, ⟨by decide, by decide, by decide +kernel⟩, by decide⟩, im_X0_comesIn, se_X0_comesIn, _, _, rfl⟩
theorem F_X0_15 : FLk RX0 15 0 6 := ⟨RX0, TX0, 7, rfl, rfl, iw_X0, by decide, Or.inl fl_X0_15⟩
theorem F_X0_30 : FLk RX0 30 0 3 := ⟨RX0, TX0, 7, rfl, rfl, iw_X0, by decide, Or.inl fl_X0_30⟩
theorem ML_X0_85 : MLk RX0 85 yX5_worthOf := Or.inl ml_X0_85
theorem MV_X5_worthOf : MVk K_X5_worthOf 1 5 := ⟨⟨cd_X5_worthOf, in_X5, ⟨by decide, by decide, by decide +kernel⟩, by decide⟩, im_X5_worthOf, se_X5_worthOf, _, _, rfl⟩
theorem F_X0_95 : FLk RX0 95 5 2 := ⟨RX5, TX5, 6, rfl, rfl, iw_X5, by decide, Or.inr ⟨_, fn_X0_95⟩⟩
theorem F_X0_96 : FLk RX0 96 5 1 := ⟨RX5, TX5, 6, rfl, rfl, iw_X5, by decide, Or.inr ⟨_, fn_X0_96⟩⟩
theorem ML_X0_38 : MLk RX0 38 yX11_isIn := Or.inr ⟨_, mn_X0_38⟩
theorem F_X0_26 : FLk RX0 26 0 2 := ⟨RX0, TX0, 7, rfl, rfl, iw_X0, by decide, Or.inl fl_X0_26⟩
theorem ML_X0_108 : MLk RX0 108 yX2_forget := Or.inr ⟨_, mn_X0_108⟩
theorem MV_X2_forget : MVk K_X2_forget 0 2 := ⟨⟨cd_X2_forget, in_X2, ⟨by decide, by decide, by decide +kernel⟩, by decide⟩, im_X2_forget, se_X2_forget, _, _, rfl⟩
theorem ML_X0_74 : MLk RX0 74 yX5_begin := Or.inl ml_X0_74
theorem MV_X5_begin : MVk K_X5_begin 1 5 := ⟨⟨cd_X5_begin, in_X5, ⟨by decide, by decide, by decide +kernel⟩, by decide⟩, im_X5_begin, se_X5_begin, _, _, rfl⟩
theorem ML_X0_77 : MLk RX0 77 yX5_go := Or.inl ml_X0_77
theorem MV_X5_go : MVk K_X5_go 1 5 := ⟨⟨cd_X5_go, in_X5, ⟨by decide, by decide, by decide +kernel⟩, by decide⟩, im_X5_go, se_X5_go, _, _, rfl⟩
theorem F_X0_99 : FLk RX0 99 2 3 := ⟨RX2, TX2, 7, rfl, rfl, iw_X2, by decide, Or.inr ⟨_, fn_X0_99⟩⟩
theorem ML_X0_65 : MLk RX0 65 yX5_lowest := Or.inl ml_X0_65
theorem MV_X5_lowest : MVk K_X5_lowest 1 5 := ⟨⟨cd_X5_lowest, in_X5, ⟨by decide, by decide, by decide +kernel⟩, by decide⟩, im_X5_lowest, se_X5_lowest, _, _, rfl⟩
def f_X0_come_124 (q85 : Nat → Int32 → Int32 → AH → Option AH) (k0 : Nat) (x1 : Int32) (x3 : Int32) (x4 : Int32) (s0 : Int32) (s1 : Int32) (sk2 : Nat) (h : AH) : Option AH :=
  ob (f_X0_comesIn sk2 s1 s0 h) fun r_3 h_2 =>
  ob (f_X5_worthOf (rf k0 3) x4 h_2) fun r_6 h_5 =>
  og (ix ((x1 * 6) + x4) (an (rf k0 6))) <|
  nm (sI h_5 (rf k0 6) ((x1 * 6) + x4).toNatClampNeg (r_6 + r_3)) fun h_8 =>
  nm (x3 + 1) fun x3_10 =>
  q85 k0 x1 x3_10 h_8
def f_X0_come_85 : Nat → Nat → Int32 → Int32 → AH → Option AH
  | 0, _, _, _, _ => none
  | n + 1, k0, x1, x3, h =>
    if (h.1 (rf k0 3) 2) ≤ x3 then (
      some h
    ) else (
      og (ix x3 (an (rf (rf k0 3) 1))) <|
      nm ((h.1 (rf (rf k0 3) 1) x3.toNatClampNeg)) fun x4_3 =>
      ob (f_X11_isIn x1 x4_3 h) fun r_7 h_6 =>
      if r_7 = 0 then (
        f_X0_come_124 (f_X0_come_85 n) k0 x1 x3 x4_3 1 x4_3 k0 h_6
      ) else (
        f_X0_come_124 (f_X0_come_85 n) k0 x1 x3 x4_3 0 x4_3 k0 h_6
      )
    )
def f_X0_come_10 : Nat → Nat → Int32 → Int32 → Int32 → AH → Option AH
  | 0, _, _, _, _, _ => none
  | n + 1, k0, x1, x2, x3, h =>
    if (h.1 (rf k0 3) 2) ≤ x3 then (
      ov (f_X2_forget (rf k0 2) h) fun h_3 =>
      ov (f_X5_begin (rf k0 3) x2 h_3) fun h_5 =>
      ov (f_X5_go (rf k0 3) 0 h_5) fun h_7 =>
      f_X0_come_85 FU k0 x1 0 h_7
    ) else (
      og (ix x3 (an (rf (rf k0 3) 1))) <|
      nm ((h.1 (rf (rf k0 3) 1) x3.toNatClampNeg)) fun x4_9 =>
      ob (f_X11_isIn x1 x4_9 h) fun r_13 h_12 =>
      ob (f_X0_comesIn k0 x4_9 r_13 h_12) fun r_16 h_15 =>
      og (ix x4_9 (an (rf (rf k0 2) 3))) <|
      nm (sI h_15 (rf (rf k0 2) 3) x4_9.toNatClampNeg r_16) fun h_18 =>
      nm (x3 + 1) fun x3_20 =>
      f_X0_come_10 n k0 x1 x2 x3_20 h_18
    )
def f_X0_come (k0 : Nat) (x1 : Int32) (x2 : Int32) (h : AH) : Option AH :=
  ov (f_X5_lowest (rf k0 3) x2 h) fun h_2 =>
  f_X0_come_10 FU k0 x1 x2 0 h_2
set_option maxHeartbeats 4000000 in
set_option maxRecDepth 100000 in
theorem v_X0_come_124 {E : EV} {d : Nat} (hd : 5 ≤ d) {h0 : AH} {q85 : Nat → Int32 → Int32 → AH → Option AH} (cq85 : ∀ (k0 : Nat) (x1 : Int32) (x3 : Int32) (h : AH), q85 k0 x1 x3 h = some h0 → kd k0 = (0, 0) → V E (d + 1) K_X0_come (ZV E h0) h [(0, .ref k0), (1, .int x1), (3, .int x3)] [] 85) {k0 : Nat} {x1 : Int32} {x3 : Int32} {x4 : Int32} {s0 : Int32} {s1 : Int32} {sk2 : Nat} {h : AH} (hf : f_X0_come_124 q85 k0 x1 x3 x4 s0 s1 sk2 h = some h0) (t_k0 : kd k0 = (0, 0)) (t_sk2 : kd sk2 = (0, 0)) : V E (d + 1) K_X0_come (ZV E h0) h [(0, .ref k0), (1, .int x1), (3, .int x3), (4, .int x4)] [.int s0, .int s1, .ref sk2] 124 := by
  unfold f_X0_come_124 at hf
  obtain ⟨r_3, h_2, e_1, hf⟩ := ob_s hf
  refine V_cvi (As := [.int s1, .int s0]) (rest := []) (c_X0_comesIn (d := d) (Nat.le_trans (Nat.le_of_ble_eq_true rfl) hd) e_1 t_sk2) ML_X0_104 MV_X0_comesIn rfl t_sk2 rfl rfl (Nat.le_of_ble_eq_true rfl) dX0_come_124 ?_
  refine V_istore (L' := [(5, .int r_3), (0, .ref k0), (1, .int x1), (3, .int x3), (4, .int x4)]) dX0_come_127 (Nat.le_of_ble_eq_true rfl) rfl rfl ?_
  refine V_aload_n 1 dX0_come_129 rfl rfl ?_
  refine V_getR F_X0_15 rfl t_k0 rfl dX0_come_130 ?_
  refine V_iload_n 2 dX0_come_133 rfl rfl ?_
  refine V_bipush (v := 6) dX0_come_134 (by decide) ?_
  refine V_imul dX0_come_136 ?_
  refine V_iload 4 dX0_come_137 rfl ?_
  refine V_iadd dX0_come_139 ?_
  refine V_aload_n 1 dX0_come_140 rfl rfl ?_
  refine V_getR F_X0_30 rfl t_k0 rfl dX0_come_141 ?_
  refine V_iload 4 dX0_come_144 rfl ?_
  obtain ⟨r_6, h_5, e_4, hf⟩ := ob_s hf
  refine V_cvi (As := [.int x4]) (rest := [.int ((x1 * 6) + x4), .ref (rf k0 6)]) (c_X5_worthOf (d := d) (Nat.le_trans (Nat.le_of_ble_eq_true rfl) hd) e_4 (rfO t_k0 (Nat.le_of_ble_eq_true rfl) rfl rfl)) ML_X0_85 MV_X5_worthOf rfl (rfO t_k0 (Nat.le_of_ble_eq_true rfl) rfl rfl) rfl rfl (Nat.le_of_ble_eq_true rfl) dX0_come_146 ?_
  refine V_iload 0 dX0_come_149 rfl ?_
  refine V_iadd dX0_come_151 ?_
  obtain ⟨b_7, hf⟩ := og_s hf
  obtain ⟨h_8, e_9, hf⟩ := nm_s hf
  refine V_iast (rfA t_k0 (Nat.le_of_ble_eq_true rfl) rfl rfl (by decide)) b_7 e_9 dX0_come_152 ?_
  obtain ⟨x3_10, e_11, hf⟩ := nm_s hf
  refine V_iinc (a := 1) (L' := [(3, .int x3_10), (5, .int r_3), (0, .ref k0), (1, .int x1), (4, .int x4)]) 3 dX0_come_153 rfl (by decide) (Nat.le_of_ble_eq_true rfl) e_11 rfl ?_
  refine V_goto (tgt := 85) dX0_come_156 (by decide) ?_
  refine V_sub [2, 3, 0] rfl ?_
  exact cq85 _ _ _ _ hf t_k0
set_option maxHeartbeats 4000000 in
set_option maxRecDepth 100000 in
theorem v_X0_come_85 {E : EV} {d : Nat} (hd : 5 ≤ d) {h0 : AH} : ∀ (n : Nat) (k0 : Nat) (x1 : Int32) (x3 : Int32) (h : AH), f_X0_come_85 n k0 x1 x3 h = some h0 → kd k0 = (0, 0) → V E (d + 1) K_X0_come (ZV E h0) h [(0, .ref k0), (1, .int x1), (3, .int x3)] [] 85 := by
  intro n
  induction n with
  | zero =>
    intro k0 x1 x3 h hf
    rw [f_X0_come_85] at hf
    cases hf
  | succ n ih =>
    intro k0 x1 x3 h hf t_k0
    rw [f_X0_come_85] at hf
    refine V_iload_n 2 dX0_come_85 rfl rfl ?_
    refine V_aload_n 0 dX0_come_86 rfl rfl ?_
    refine V_getR F_X0_30 rfl t_k0 rfl dX0_come_87 ?_
    refine V_getI F_X0_95 rfl (rfO t_k0 (Nat.le_of_ble_eq_true rfl) rfl rfl) rfl dX0_come_90 ?_
    refine V_ic_ge (tgt := 159) dX0_come_93 (by decide) (fun c_1 => ?_) (fun c_1 => ?_)
    · have hf := it_s c_1 hf
      exact V_vret rfl (so_s hf) dX0_come_159
    · have hf := if_s c_1 hf
      refine V_aload_n 0 dX0_come_96 rfl rfl ?_
      refine V_getR F_X0_30 rfl t_k0 rfl dX0_come_97 ?_
      refine V_getR F_X0_96 rfl (rfO t_k0 (Nat.le_of_ble_eq_true rfl) rfl rfl) rfl dX0_come_100 ?_
      refine V_iload_n 2 dX0_come_103 rfl rfl ?_
      obtain ⟨b_2, hf⟩ := og_s hf
      refine V_iald (rfA (rfO t_k0 (Nat.le_of_ble_eq_true rfl) rfl rfl) (Nat.le_of_ble_eq_true rfl) rfl rfl (by decide)) b_2 dX0_come_104 ?_
      obtain ⟨x4_3, e_4, hf⟩ := nm_s hf
      refine V_istore (L' := [(4, .int x4_3), (0, .ref k0), (1, .int x1), (3, .int x3)]) dX0_come_105 (Nat.le_of_ble_eq_true rfl) e_4 rfl ?_
      refine V_aload_n 1 dX0_come_107 rfl rfl ?_
      refine V_iload 0 dX0_come_108 rfl ?_
      refine V_iload_n 2 dX0_come_110 rfl rfl ?_
      refine V_iload 0 dX0_come_111 rfl ?_
      obtain ⟨r_7, h_6, e_5, hf⟩ := ob_s hf
      refine V_csi (As := [.int x1, .int x4_3]) (rest := [.int x4_3, .ref k0]) (c_X11_isIn (d := d) (Nat.le_trans (Nat.le_of_ble_eq_true rfl) hd) e_5) ML_X0_38 MS_X11_isIn rfl rfl rfl (Nat.le_of_ble_eq_true rfl) dX0_come_113 ?_
      refine V_if_ne (tgt := 123) dX0_come_116 (by decide) (fun c_8 => ?_) (fun c_8 => ?_)
      · have hf := if_s c_8 hf
        refine V_iconst (v := 0) dX0_come_123 (by decide) ?_
        refine V_sub [1, 2, 3, 0] rfl ?_
        exact v_X0_come_124 hd ih hf t_k0 t_k0
      · have hf := it_s c_8 hf
        refine V_iconst (v := 1) dX0_come_119 (by decide) ?_
        refine V_goto (tgt := 124) dX0_come_120 (by decide) ?_
        refine V_sub [1, 2, 3, 0] rfl ?_
        exact v_X0_come_124 hd ih hf t_k0 t_k0
set_option maxHeartbeats 4000000 in
set_option maxRecDepth 100000 in
theorem v_X0_come_10 {E : EV} {d : Nat} (hd : 5 ≤ d) {h0 : AH} : ∀ (n : Nat) (k0 : Nat) (x1 : Int32) (x2 : Int32) (x3 : Int32) (h : AH), f_X0_come_10 n k0 x1 x2 x3 h = some h0 → kd k0 = (0, 0) → V E (d + 1) K_X0_come (ZV E h0) h [(0, .ref k0), (1, .int x1), (2, .int x2), (3, .int x3)] [] 10 := by
  intro n
  induction n with
  | zero =>
    intro k0 x1 x2 x3 h hf
    rw [f_X0_come_10] at hf
    cases hf
  | succ n ih =>
    intro k0 x1 x2 x3 h hf t_k0
    rw [f_X0_come_10] at hf
    refine V_iload_n 3 dX0_come_10 rfl rfl ?_
    refine V_aload_n 0 dX0_come_11 rfl rfl ?_
    refine V_getR F_X0_30 rfl t_k0 rfl dX0_come_12 ?_
    refine V_getI F_X0_95 rfl (rfO t_k0 (Nat.le_of_ble_eq_true rfl) rfl rfl) rfl dX0_come_15 ?_
    refine V_ic_ge (tgt := 60) dX0_come_18 (by decide) (fun c_1 => ?_) (fun c_1 => ?_)
    · have hf := it_s c_1 hf
      refine V_aload_n 0 dX0_come_60 rfl rfl ?_
      refine V_getR F_X0_26 rfl t_k0 rfl dX0_come_61 ?_
      obtain ⟨h_3, e_2, hf⟩ := ov_s hf
      refine V_cvv (As := []) (rest := []) (c_X2_forget (d := d) (Nat.le_trans (Nat.le_of_ble_eq_true rfl) hd) e_2 (rfO t_k0 (Nat.le_of_ble_eq_true rfl) rfl rfl)) ML_X0_108 MV_X2_forget rfl (rfO t_k0 (Nat.le_of_ble_eq_true rfl) rfl rfl) rfl rfl (Nat.le_of_ble_eq_true rfl) dX0_come_64 ?_
      refine V_aload_n 0 dX0_come_67 rfl rfl ?_
      refine V_getR F_X0_30 rfl t_k0 rfl dX0_come_68 ?_
      refine V_iload_n 2 dX0_come_71 rfl rfl ?_
      obtain ⟨h_5, e_4, hf⟩ := ov_s hf
      refine V_cvv (As := [.int x2]) (rest := []) (c_X5_begin (d := d) (Nat.le_trans (Nat.le_of_ble_eq_true rfl) hd) e_4 (rfO t_k0 (Nat.le_of_ble_eq_true rfl) rfl rfl)) ML_X0_74 MV_X5_begin rfl (rfO t_k0 (Nat.le_of_ble_eq_true rfl) rfl rfl) rfl rfl (Nat.le_of_ble_eq_true rfl) dX0_come_72 ?_
      refine V_aload_n 0 dX0_come_75 rfl rfl ?_
      refine V_getR F_X0_30 rfl t_k0 rfl dX0_come_76 ?_
      refine V_iconst (v := 0) dX0_come_79 (by decide) ?_
      obtain ⟨h_7, e_6, hf⟩ := ov_s hf
      refine V_cvv (As := [.int 0]) (rest := []) (c_X5_go (d := d) (Nat.le_trans (Nat.le_of_ble_eq_true rfl) hd) e_6 (rfO t_k0 (Nat.le_of_ble_eq_true rfl) rfl rfl)) ML_X0_77 MV_X5_go rfl (rfO t_k0 (Nat.le_of_ble_eq_true rfl) rfl rfl) rfl rfl (Nat.le_of_ble_eq_true rfl) dX0_come_80 ?_
      refine V_iconst (v := 0) dX0_come_83 (by decide) ?_
      refine V_istore_n (L' := [(3, .int 0), (0, .ref k0), (1, .int x1), (2, .int x2)]) dX0_come_84 rfl (Nat.le_of_ble_eq_true rfl) rfl rfl ?_
      refine V_sub [1, 2, 0] rfl ?_
      exact v_X0_come_85 hd FU _ _ _ _ hf t_k0
    · have hf := if_s c_1 hf
      refine V_aload_n 0 dX0_come_21 rfl rfl ?_
      refine V_getR F_X0_30 rfl t_k0 rfl dX0_come_22 ?_
      refine V_getR F_X0_96 rfl (rfO t_k0 (Nat.le_of_ble_eq_true rfl) rfl rfl) rfl dX0_come_25 ?_
      refine V_iload_n 3 dX0_come_28 rfl rfl ?_
      obtain ⟨b_8, hf⟩ := og_s hf
      refine V_iald (rfA (rfO t_k0 (Nat.le_of_ble_eq_true rfl) rfl rfl) (Nat.le_of_ble_eq_true rfl) rfl rfl (by decide)) b_8 dX0_come_29 ?_
      obtain ⟨x4_9, e_10, hf⟩ := nm_s hf
      refine V_istore (L' := [(4, .int x4_9), (0, .ref k0), (1, .int x1), (2, .int x2), (3, .int x3)]) dX0_come_30 (Nat.le_of_ble_eq_true rfl) e_10 rfl ?_
      refine V_aload_n 1 dX0_come_32 rfl rfl ?_
      refine V_getR F_X0_26 rfl t_k0 rfl dX0_come_33 ?_
      refine V_getR F_X0_99 rfl (rfO t_k0 (Nat.le_of_ble_eq_true rfl) rfl rfl) rfl dX0_come_36 ?_
      refine V_iload 0 dX0_come_39 rfl ?_
      refine V_aload_n 1 dX0_come_41 rfl rfl ?_
      refine V_iload 0 dX0_come_42 rfl ?_
      refine V_iload_n 2 dX0_come_44 rfl rfl ?_
      refine V_iload 0 dX0_come_45 rfl ?_
      obtain ⟨r_13, h_12, e_11, hf⟩ := ob_s hf
      refine V_csi (As := [.int x1, .int x4_9]) (rest := [.int x4_9, .ref k0, .int x4_9, .ref (rf (rf k0 2) 3)]) (c_X11_isIn (d := d) (Nat.le_trans (Nat.le_of_ble_eq_true rfl) hd) e_11) ML_X0_38 MS_X11_isIn rfl rfl rfl (Nat.le_of_ble_eq_true rfl) dX0_come_47 ?_
      obtain ⟨r_16, h_15, e_14, hf⟩ := ob_s hf
      refine V_cvi (As := [.int x4_9, .int r_13]) (rest := [.int x4_9, .ref (rf (rf k0 2) 3)]) (c_X0_comesIn (d := d) (Nat.le_trans (Nat.le_of_ble_eq_true rfl) hd) e_14 t_k0) ML_X0_104 MV_X0_comesIn rfl t_k0 rfl rfl (Nat.le_of_ble_eq_true rfl) dX0_come_50 ?_
      obtain ⟨b_17, hf⟩ := og_s hf
      obtain ⟨h_18, e_19, hf⟩ := nm_s hf
      refine V_iast (rfA (rfO t_k0 (Nat.le_of_ble_eq_true rfl) rfl rfl) (Nat.le_of_ble_eq_true rfl) rfl rfl (by decide)) b_17 e_19 dX0_come_53 ?_
      obtain ⟨x3_20, e_21, hf⟩ := nm_s hf
      refine V_iinc (a := 1) (L' := [(3, .int x3_20), (4, .int x4_9), (0, .ref k0), (1, .int x1), (2, .int x2)]) 4 dX0_come_54 rfl (by decide) (Nat.le_of_ble_eq_true rfl) e_21 rfl ?_
      refine V_goto (tgt := 10) dX0_come_57 (by decide) ?_
      refine V_sub [2, 3, 4, 0] rfl ?_
      exact ih _ _ _ _ _ hf t_k0
set_option maxHeartbeats 4000000 in
set_option maxRecDepth 100000 in
theorem c_X0_come {E : EV} {d : Nat} (hd : 5 + 1 ≤ d) {k0 : Nat} {x1 : Int32} {x2 : Int32} {h : AH} {h0 : AH} (hf : f_X0_come k0 x1 x2 h = some h0) (t_k0 : kd k0 = (0, 0)) : Con E d K_X0_come (ZV E h0) [.ref k0, .int x1, .int x2] h := by
  obtain ⟨d, rfl⟩ : ∃ d', d = d' + 1 := ⟨d - 1, by omega⟩
  have hd := Nat.le_of_succ_le_succ hd
  refine Con.ofV rfl (Nat.le_of_ble_eq_true rfl) ?_
  unfold f_X0_come at hf
  show V E (d + 1) K_X0_come (ZV E h0) h [(0, .ref k0), (1, .int x1), (2, .int x2)] [] 0
  refine V_aload_n 0 dX0_come_0 rfl rfl ?_
  refine V_getR F_X0_30 rfl t_k0 rfl dX0_come_1 ?_
  refine V_iload_n 2 dX0_come_4 rfl rfl ?_
  obtain ⟨h_2, e_1, hf⟩ := ov_s hf
  refine V_cvv (As := [.int x2]) (rest := []) (c_X5_lowest (d := d) (Nat.le_trans (Nat.le_of_ble_eq_true rfl) hd) e_1 (rfO t_k0 (Nat.le_of_ble_eq_true rfl) rfl rfl)) ML_X0_65 MV_X5_lowest rfl (rfO t_k0 (Nat.le_of_ble_eq_true rfl) rfl rfl) rfl rfl (Nat.le_of_ble_eq_true rfl) dX0_come_5 ?_
  refine V_iconst (v := 0) dX0_come_8 (by decide) ?_
  refine V_istore_n (L' := [(3, .int 0), (0, .ref k0), (1, .int x1), (2, .int x2)]) dX0_come_9 rfl (Nat.le_of_ble_eq_true rfl) rfl rfl ?_
  refine V_sub [1, 2, 3, 0] rfl ?_
  exact v_X0_come_10 hd FU _ _ _ _ _ hf t_k0
theorem dX0_isQuiet_0 : decode cX0_isQuiet 0 = .ok (.iconst 0, 1) := by decide +kernel
theorem dX0_isQuiet_1 : decode cX0_isQuiet 1 = .ok (.istore_n 3, 1) := by decide +kernel
theorem dX0_isQuiet_2 : decode cX0_isQuiet 2 = .ok (.iload_n 3, 1) := by decide +kernel
theorem dX0_isQuiet_3 : decode cX0_isQuiet 3 = .ok (.bipush 6, 2) := by decide +kernel
theorem dX0_isQuiet_5 : decode cX0_isQuiet 5 = .ok (.if_icmp .ge 52, 3) := by decide +kernel
theorem dX0_isQuiet_8 : decode cX0_isQuiet 8 = .ok (.iload_n 1, 1) := by decide +kernel
theorem dX0_isQuiet_9 : decode cX0_isQuiet 9 = .ok (.iconst 1, 1) := by decide +kernel
theorem dX0_isQuiet_10 : decode cX0_isQuiet 10 = .ok (.iload_n 3, 1) := by decide +kernel
theorem dX0_isQuiet_11 : decode cX0_isQuiet 11 = .ok (.ishl, 1) := by decide +kernel
theorem dX0_isQuiet_12 : decode cX0_isQuiet 12 = .ok (.ixor, 1) := by decide +kernel
theorem dX0_isQuiet_13 : decode cX0_isQuiet 13 = .ok (.istore 4, 2) := by decide +kernel
theorem dX0_isQuiet_15 : decode cX0_isQuiet 15 = .ok (.iload_n 2, 1) := by decide +kernel
theorem dX0_isQuiet_16 : decode cX0_isQuiet 16 = .ok (.iload_n 3, 1) := by decide +kernel
theorem dX0_isQuiet_17 : decode cX0_isQuiet 17 = .ok (.invokestatic 38, 3) := by decide +kernel
theorem dX0_isQuiet_20 : decode cX0_isQuiet 20 = .ok (.ifCond .eq 31, 3) := by decide +kernel
theorem dX0_isQuiet_23 : decode cX0_isQuiet 23 = .ok (.aload_n 0, 1) := by decide +kernel
theorem dX0_isQuiet_24 : decode cX0_isQuiet 24 = .ok (.getfield 15, 3) := by decide +kernel
theorem dX0_isQuiet_27 : decode cX0_isQuiet 27 = .ok (.iload 4, 2) := by decide +kernel
theorem dX0_isQuiet_29 : decode cX0_isQuiet 29 = .ok (.bipush 6, 2) := by decide +kernel
theorem dX0_isQuiet_31 : decode cX0_isQuiet 31 = .ok (.imul, 1) := by decide +kernel
theorem dX0_isQuiet_32 : decode cX0_isQuiet 32 = .ok (.iload_n 3, 1) := by decide +kernel
theorem dX0_isQuiet_33 : decode cX0_isQuiet 33 = .ok (.iadd, 1) := by decide +kernel
theorem dX0_isQuiet_34 : decode cX0_isQuiet 34 = .ok (.iaload, 1) := by decide +kernel
theorem dX0_isQuiet_35 : decode cX0_isQuiet 35 = .ok (.aload_n 0, 1) := by decide +kernel
theorem dX0_isQuiet_36 : decode cX0_isQuiet 36 = .ok (.getfield 15, 3) := by decide +kernel
theorem dX0_isQuiet_39 : decode cX0_isQuiet 39 = .ok (.iload_n 1, 1) := by decide +kernel
theorem dX0_isQuiet_40 : decode cX0_isQuiet 40 = .ok (.bipush 6, 2) := by decide +kernel
theorem dX0_isQuiet_42 : decode cX0_isQuiet 42 = .ok (.imul, 1) := by decide +kernel
theorem dX0_isQuiet_43 : decode cX0_isQuiet 43 = .ok (.iload_n 3, 1) := by decide +kernel
theorem dX0_isQuiet_44 : decode cX0_isQuiet 44 = .ok (.iadd, 1) := by decide +kernel
theorem dX0_isQuiet_45 : decode cX0_isQuiet 45 = .ok (.iaload, 1) := by decide +kernel
theorem dX0_isQuiet_46 : decode cX0_isQuiet 46 = .ok (.if_icmp .le 5, 3) := by decide +kernel
theorem dX0_isQuiet_49 : decode cX0_isQuiet 49 = .ok (.iconst 0, 1) := by decide +kernel
theorem dX0_isQuiet_50 : decode cX0_isQuiet 50 = .ok (.ireturn, 1) := by decide +kernel
theorem dX0_isQuiet_51 : decode cX0_isQuiet 51 = .ok (.iinc 3 1, 3) := by decide +kernel
theorem dX0_isQuiet_54 : decode cX0_isQuiet 54 = .ok (.goto (-52), 3) := by decide +kernel
theorem dX0_isQuiet_57 : decode cX0_isQuiet 57 = .ok (.iconst 1, 1) := by decide +kernel
theorem dX0_isQuiet_58 : decode cX0_isQuiet 58 = .ok (.ireturn, 1) := by decide +kernel
def f_X0_isQuiet_51 (q2 : Nat → Int32 → Int32 → Int32 → AH → Option (Int32 × AH)) (k0 : Nat) (x1 : Int32) (x2 : Int32) (x3 : Int32) (h : AH) : Option (Int32 × AH) :=
  nm (x3 + 1) fun x3_1 =>
  q2 k0 x1 x2 x3_1 h
def f_X0_isQuiet_2 : Nat → Nat → Int32 → Int32 → Int32 → AH → Option (Int32 × AH)
  | 0, _, _, _, _, _ => none
  | n + 1, k0, x1, x2, x3, h =>
    if 6 ≤ x3 then (
      some (1, h)
    ) else (
      nm ((x1 ^^^ ((1 : Int32) <<< (x3 &&& 31)))) fun x4_2 =>
      ob (f_X11_isIn x2 x3 h) fun r_6 h_5 =>
      if r_6 = 0 then (
        f_X0_isQuiet_51 (f_X0_isQuiet_2 n) k0 x1 x2 x3 h_5
      ) else (
        og (ix ((x4_2 * 6) + x3) (an (rf k0 6))) <|
        og (ix ((x1 * 6) + x3) (an (rf k0 6))) <|
        if (h_5.1 (rf k0 6) ((x4_2 * 6) + x3).toNatClampNeg) ≤ (h_5.1 (rf k0 6) ((x1 * 6) + x3).toNatClampNeg) then (
          f_X0_isQuiet_51 (f_X0_isQuiet_2 n) k0 x1 x2 x3 h_5
        ) else (
          some (0, h_5)
        )
      )
    )
def f_X0_isQuiet (k0 : Nat) (x1 : Int32) (x2 : Int32) (h : AH) : Option (Int32 × AH) :=
  f_X0_isQuiet_2 FU k0 x1 x2 0 h
set_option maxHeartbeats 4000000 in
set_option maxRecDepth 100000 in
theorem v_X0_isQuiet_51 {E : EV} {d : Nat} (hd : 1 ≤ d) {r0 : Int32} {h0 : AH} {q2 : Nat → Int32 → Int32 → Int32 → AH → Option (Int32 × AH)} (cq2 : ∀ (k0 : Nat) (x1 : Int32) (x2 : Int32) (x3 : Int32) (h : AH), q2 k0 x1 x2 x3 h = some (r0, h0) → kd k0 = (0, 0) → V E (d + 1) K_X0_isQuiet (ZI E r0 h0) h [(0, .ref k0), (1, .int x1), (2, .int x2), (3, .int x3)] [] 2) {k0 : Nat} {x1 : Int32} {x2 : Int32} {x3 : Int32} {h : AH} (hf : f_X0_isQuiet_51 q2 k0 x1 x2 x3 h = some (r0, h0)) (t_k0 : kd k0 = (0, 0)) : V E (d + 1) K_X0_isQuiet (ZI E r0 h0) h [(0, .ref k0), (1, .int x1), (2, .int x2), (3, .int x3)] [] 51 := by
  unfold f_X0_isQuiet_51 at hf
  obtain ⟨x3_1, e_2, hf⟩ := nm_s hf
  refine V_iinc (a := 1) (L' := [(3, .int x3_1), (0, .ref k0), (1, .int x1), (2, .int x2)]) 3 dX0_isQuiet_51 rfl (by decide) (Nat.le_of_ble_eq_true rfl) e_2 rfl ?_
  refine V_goto (tgt := 2) dX0_isQuiet_54 (by decide) ?_
  refine V_sub [1, 2, 3, 0] rfl ?_
  exact cq2 _ _ _ _ _ hf t_k0
set_option maxHeartbeats 4000000 in
set_option maxRecDepth 100000 in
theorem v_X0_isQuiet_2 {E : EV} {d : Nat} (hd : 1 ≤ d) {r0 : Int32} {h0 : AH} : ∀ (n : Nat) (k0 : Nat) (x1 : Int32) (x2 : Int32) (x3 : Int32) (h : AH), f_X0_isQuiet_2 n k0 x1 x2 x3 h = some (r0, h0) → kd k0 = (0, 0) → V E (d + 1) K_X0_isQuiet (ZI E r0 h0) h [(0, .ref k0), (1, .int x1), (2, .int x2), (3, .int x3)] [] 2 := by
  intro n
  induction n with
  | zero =>
    intro k0 x1 x2 x3 h hf
    rw [f_X0_isQuiet_2] at hf
    cases hf
  | succ n ih =>
    intro k0 x1 x2 x3 h hf t_k0
    rw [f_X0_isQuiet_2] at hf
    refine V_iload_n 3 dX0_isQuiet_2 rfl rfl ?_
    refine V_bipush (v := 6) dX0_isQuiet_3 (by decide) ?_
    refine V_ic_ge (tgt := 57) dX0_isQuiet_5 (by decide) (fun c_1 => ?_) (fun c_1 => ?_)
    · have hf := it_s c_1 hf
      refine V_iconst (v := 1) dX0_isQuiet_57 (by decide) ?_
      exact V_zret rfl (by decide) (so_s hf) dX0_isQuiet_58
    · have hf := if_s c_1 hf
      refine V_iload_n 1 dX0_isQuiet_8 rfl rfl ?_
      refine V_iconst (v := 1) dX0_isQuiet_9 (by decide) ?_
      refine V_iload_n 3 dX0_isQuiet_10 rfl rfl ?_
      refine V_ishl dX0_isQuiet_11 ?_
      refine V_ixor dX0_isQuiet_12 ?_
      obtain ⟨x4_2, e_3, hf⟩ := nm_s hf
      refine V_istore (L' := [(4, .int x4_2), (0, .ref k0), (1, .int x1), (2, .int x2), (3, .int x3)]) dX0_isQuiet_13 (Nat.le_of_ble_eq_true rfl) e_3 rfl ?_
      refine V_iload_n 3 dX0_isQuiet_15 rfl rfl ?_
      refine V_iload_n 4 dX0_isQuiet_16 rfl rfl ?_
      obtain ⟨r_6, h_5, e_4, hf⟩ := ob_s hf
      refine V_csi (As := [.int x2, .int x3]) (rest := []) (c_X11_isIn (d := d) (Nat.le_trans (Nat.le_of_ble_eq_true rfl) hd) e_4) ML_X0_38 MS_X11_isIn rfl rfl rfl (Nat.le_of_ble_eq_true rfl) dX0_isQuiet_17 ?_
      refine V_if_eq (tgt := 51) dX0_isQuiet_20 (by decide) (fun c_7 => ?_) (fun c_7 => ?_)
      · have hf := it_s c_7 hf
        refine V_sub [1, 2, 3, 4] rfl ?_
        exact v_X0_isQuiet_51 hd ih hf t_k0
      · have hf := if_s c_7 hf
        refine V_aload_n 1 dX0_isQuiet_23 rfl rfl ?_
        refine V_getR F_X0_15 rfl t_k0 rfl dX0_isQuiet_24 ?_
        refine V_iload 0 dX0_isQuiet_27 rfl ?_
        refine V_bipush (v := 6) dX0_isQuiet_29 (by decide) ?_
        refine V_imul dX0_isQuiet_31 ?_
        refine V_iload_n 4 dX0_isQuiet_32 rfl rfl ?_
        refine V_iadd dX0_isQuiet_33 ?_
        obtain ⟨b_8, hf⟩ := og_s hf
        refine V_iald (rfA t_k0 (Nat.le_of_ble_eq_true rfl) rfl rfl (by decide)) b_8 dX0_isQuiet_34 ?_
        refine V_aload_n 1 dX0_isQuiet_35 rfl rfl ?_
        refine V_getR F_X0_15 rfl t_k0 rfl dX0_isQuiet_36 ?_
        refine V_iload_n 2 dX0_isQuiet_39 rfl rfl ?_
        refine V_bipush (v := 6) dX0_isQuiet_40 (by decide) ?_
        refine V_imul dX0_isQuiet_42 ?_
        refine V_iload_n 4 dX0_isQuiet_43 rfl rfl ?_
        refine V_iadd dX0_isQuiet_44 ?_
        obtain ⟨b_9, hf⟩ := og_s hf
        refine V_iald (rfA t_k0 (Nat.le_of_ble_eq_true rfl) rfl rfl (by decide)) b_9 dX0_isQuiet_45 ?_
        refine V_ic_le (tgt := 51) dX0_isQuiet_46 (by decide) (fun c_10 => ?_) (fun c_10 => ?_)
        · have hf := it_s c_10 hf
          refine V_sub [1, 2, 3, 4] rfl ?_
          exact v_X0_isQuiet_51 hd ih hf t_k0
        · have hf := if_s c_10 hf
          refine V_iconst (v := 0) dX0_isQuiet_49 (by decide) ?_
          exact V_zret rfl (by decide) (so_s hf) dX0_isQuiet_50
set_option maxHeartbeats 4000000 in
set_option maxRecDepth 100000 in
theorem c_X0_isQuiet {E : EV} {d : Nat} (hd : 1 + 1 ≤ d) {k0 : Nat} {x1 : Int32} {x2 : Int32} {h : AH} {r0 : Int32} {h0 : AH} (hf : f_X0_isQuiet k0 x1 x2 h = some (r0, h0)) (t_k0 : kd k0 = (0, 0)) : Con E d K_X0_isQuiet (ZI E r0 h0) [.ref k0, .int x1, .int x2] h := by
  obtain ⟨d, rfl⟩ : ∃ d', d = d' + 1 := ⟨d - 1, by omega⟩
  have hd := Nat.le_of_succ_le_succ hd
  refine Con.ofV rfl (Nat.le_of_ble_eq_true rfl) ?_
  unfold f_X0_isQuiet at hf
  show V E (d + 1) K_X0_isQuiet (ZI E r0 h0) h [(0, .ref k0), (1, .int x1), (2, .int x2)] [] 0
  refine V_iconst (v := 0) dX0_isQuiet_0 (by decide) ?_
  refine V_istore_n (L' := [(3, .int 0), (0, .ref k0), (1, .int x1), (2, .int x2)]) dX0_isQuiet_1 rfl (Nat.le_of_ble_eq_true rfl) rfl rfl ?_
  refine V_sub [1, 2, 3, 0] rfl ?_
  exact v_X0_isQuiet_2 hd FU _ _ _ _ _ hf t_k0
theorem dX0_findQuiet_0 : decode cX0_findQuiet 0 = .ok (.iconst 0, 1) := by decide +kernel
theorem dX0_findQuiet_1 : decode cX0_findQuiet 1 = .ok (.istore_n 3, 1) := by decide +kernel
theorem dX0_findQuiet_2 : decode cX0_findQuiet 2 = .ok (.iload_n 3, 1) := by decide +kernel
theorem dX0_findQuiet_3 : decode cX0_findQuiet 3 = .ok (.iload_n 1, 1) := by decide +kernel
theorem dX0_findQuiet_4 : decode cX0_findQuiet 4 = .ok (.if_icmp .gt 23, 3) := by decide +kernel
theorem dX0_findQuiet_7 : decode cX0_findQuiet 7 = .ok (.iload_n 3, 1) := by decide +kernel
theorem dX0_findQuiet_8 : decode cX0_findQuiet 8 = .ok (.iload_n 1, 1) := by decide +kernel
theorem dX0_findQuiet_9 : decode cX0_findQuiet 9 = .ok (.iconst (-1), 1) := by decide +kernel
theorem dX0_findQuiet_10 : decode cX0_findQuiet 10 = .ok (.ixor, 1) := by decide +kernel
theorem dX0_findQuiet_11 : decode cX0_findQuiet 11 = .ok (.iand, 1) := by decide +kernel
theorem dX0_findQuiet_12 : decode cX0_findQuiet 12 = .ok (.ifCond .ne 9, 3) := by decide +kernel
theorem dX0_findQuiet_15 : decode cX0_findQuiet 15 = .ok (.aload_n 0, 1) := by decide +kernel
theorem dX0_findQuiet_16 : decode cX0_findQuiet 16 = .ok (.iload_n 3, 1) := by decide +kernel
theorem dX0_findQuiet_17 : decode cX0_findQuiet 17 = .ok (.iload_n 1, 1) := by decide +kernel
theorem dX0_findQuiet_18 : decode cX0_findQuiet 18 = .ok (.invokevirtual 88, 3) := by decide +kernel
theorem dX0_findQuiet_21 : decode cX0_findQuiet 21 = .ok (.iinc 3 1, 3) := by decide +kernel
theorem dX0_findQuiet_24 : decode cX0_findQuiet 24 = .ok (.goto (-22), 3) := by decide +kernel
theorem dX0_findQuiet_27 : decode cX0_findQuiet 27 = .ok (.iconst 0, 1) := by decide +kernel
theorem dX0_findQuiet_28 : decode cX0_findQuiet 28 = .ok (.istore_n 3, 1) := by decide +kernel
theorem dX0_findQuiet_29 : decode cX0_findQuiet 29 = .ok (.iconst 0, 1) := by decide +kernel
theorem dX0_findQuiet_30 : decode cX0_findQuiet 30 = .ok (.istore 4, 2) := by decide +kernel
theorem dX0_findQuiet_32 : decode cX0_findQuiet 32 = .ok (.iload 4, 2) := by decide +kernel
theorem dX0_findQuiet_34 : decode cX0_findQuiet 34 = .ok (.iload_n 1, 1) := by decide +kernel
theorem dX0_findQuiet_35 : decode cX0_findQuiet 35 = .ok (.if_icmp .gt 39, 3) := by decide +kernel
theorem dX0_findQuiet_38 : decode cX0_findQuiet 38 = .ok (.iload 4, 2) := by decide +kernel
theorem dX0_findQuiet_40 : decode cX0_findQuiet 40 = .ok (.iload_n 1, 1) := by decide +kernel
theorem dX0_findQuiet_41 : decode cX0_findQuiet 41 = .ok (.iconst (-1), 1) := by decide +kernel
theorem dX0_findQuiet_42 : decode cX0_findQuiet 42 = .ok (.ixor, 1) := by decide +kernel
theorem dX0_findQuiet_43 : decode cX0_findQuiet 43 = .ok (.iand, 1) := by decide +kernel
theorem dX0_findQuiet_44 : decode cX0_findQuiet 44 = .ok (.ifCond .ne 24, 3) := by decide +kernel
theorem dX0_findQuiet_47 : decode cX0_findQuiet 47 = .ok (.aload_n 0, 1) := by decide +kernel
theorem dX0_findQuiet_48 : decode cX0_findQuiet 48 = .ok (.iload 4, 2) := by decide +kernel
theorem dX0_findQuiet_50 : decode cX0_findQuiet 50 = .ok (.iload_n 1, 1) := by decide +kernel
theorem dX0_findQuiet_51 : decode cX0_findQuiet 51 = .ok (.invokevirtual 92, 3) := by decide +kernel
theorem dX0_findQuiet_54 : decode cX0_findQuiet 54 = .ok (.ifCond .eq 14, 3) := by decide +kernel
theorem dX0_findQuiet_57 : decode cX0_findQuiet 57 = .ok (.iload_n 3, 1) := by decide +kernel
theorem dX0_findQuiet_58 : decode cX0_findQuiet 58 = .ok (.iload_n 2, 1) := by decide +kernel
theorem dX0_findQuiet_59 : decode cX0_findQuiet 59 = .ok (.if_icmp .ne 6, 3) := by decide +kernel
theorem dX0_findQuiet_62 : decode cX0_findQuiet 62 = .ok (.iload 4, 2) := by decide +kernel
theorem dX0_findQuiet_64 : decode cX0_findQuiet 64 = .ok (.ireturn, 1) := by decide +kernel
theorem dX0_findQuiet_65 : decode cX0_findQuiet 65 = .ok (.iinc 3 1, 3) := by decide +kernel
theorem dX0_findQuiet_68 : decode cX0_findQuiet 68 = .ok (.iinc 4 1, 3) := by decide +kernel
theorem dX0_findQuiet_71 : decode cX0_findQuiet 71 = .ok (.goto (-39), 3) := by decide +kernel
theorem dX0_findQuiet_74 : decode cX0_findQuiet 74 = .ok (.iload_n 2, 1) := by decide +kernel
theorem dX0_findQuiet_75 : decode cX0_findQuiet 75 = .ok (.iconst (-1), 1) := by decide +kernel
theorem dX0_findQuiet_76 : decode cX0_findQuiet 76 = .ok (.if_icmp .ne 7, 3) := by decide +kernel
theorem dX0_findQuiet_79 : decode cX0_findQuiet 79 = .ok (.iload_n 3, 1) := by decide +kernel
theorem dX0_findQuiet_80 : decode cX0_findQuiet 80 = .ok (.goto 4, 3) := by decide +kernel
theorem dX0_findQuiet_83 : decode cX0_findQuiet 83 = .ok (.iconst (-1), 1) := by decide +kernel
theorem dX0_findQuiet_84 : decode cX0_findQuiet 84 = .ok (.ireturn, 1) := by decide +kernel
theorem ML_X0_92 : MLk RX0 92 yX0_isQuiet := Or.inl ml_X0_92
theorem MV_X0_isQuiet : MVk K_X0_isQuiet 2 0 := ⟨⟨cd_X0_isQuiet, in_X0, ⟨by decide, by decide, by decide +kernel⟩, by decide⟩, im_X0_isQuiet, se_X0_isQuiet, _, _, rfl⟩
theorem ML_X0_88 : MLk RX0 88 yX0_come := Or.inl ml_X0_88
theorem MV_X0_come : MVk K_X0_come 2 0 := ⟨⟨cd_X0_come, in_X0, ⟨by decide, by decide, by decide +kernel⟩, by decide⟩, im_X0_come, se_X0_come, _, _, rfl⟩
def f_X0_findQuiet_21 (q2 : Nat → Int32 → Int32 → Int32 → AH → Option (Int32 × AH)) (k0 : Nat) (x1 : Int32) (x2 : Int32) (x3 : Int32) (h : AH) : Option (Int32 × AH) :=
  nm (x3 + 1) fun x3_1 =>
  q2 k0 x1 x2 x3_1 h
def f_X0_findQuiet_68 (q32 : Nat → Int32 → Int32 → Int32 → Int32 → AH → Option (Int32 × AH)) (k0 : Nat) (x1 : Int32) (x2 : Int32) (x3 : Int32) (x4 : Int32) (h : AH) : Option (Int32 × AH) :=
  nm (x4 + 1) fun x4_1 =>
  q32 k0 x1 x2 x3 x4_1 h
def f_X0_findQuiet_84 (s0 : Int32) (h : AH) : Option (Int32 × AH) :=
  some (s0, h)
def f_X0_findQuiet_32 : Nat → Nat → Int32 → Int32 → Int32 → Int32 → AH → Option (Int32 × AH)
  | 0, _, _, _, _, _, _ => none
  | n + 1, k0, x1, x2, x3, x4, h =>
    if x1 < x4 then (
      if x2 = (-1) then (
        f_X0_findQuiet_84 x3 h
      ) else (
        f_X0_findQuiet_84 (-1) h
      )
    ) else (
      if (x4 &&& (x1 ^^^ (-1))) = 0 then (
        ob (f_X0_isQuiet k0 x4 x1 h) fun r_6 h_5 =>
        if r_6 = 0 then (
          f_X0_findQuiet_68 (f_X0_findQuiet_32 n) k0 x1 x2 x3 x4 h_5
        ) else (
          if x3 = x2 then (
            some (x4, h_5)
          ) else (
            nm (x3 + 1) fun x3_9 =>
            f_X0_findQuiet_68 (f_X0_findQuiet_32 n) k0 x1 x2 x3_9 x4 h_5
          )
        )
      ) else (
        f_X0_findQuiet_68 (f_X0_findQuiet_32 n) k0 x1 x2 x3 x4 h
      )
    )
def f_X0_findQuiet_2 : Nat → Nat → Int32 → Int32 → Int32 → AH → Option (Int32 × AH)
  | 0, _, _, _, _, _ => none
  | n + 1, k0, x1, x2, x3, h =>
    if x1 < x3 then (
      f_X0_findQuiet_32 FU k0 x1 x2 0 0 h
    ) else (
      if (x3 &&& (x1 ^^^ (-1))) = 0 then (
        ov (f_X0_come k0 x3 x1 h) fun h_4 =>
        f_X0_findQuiet_21 (f_X0_findQuiet_2 n) k0 x1 x2 x3 h_4
      ) else (
        f_X0_findQuiet_21 (f_X0_findQuiet_2 n) k0 x1 x2 x3 h
      )
    )
def f_X0_findQuiet (k0 : Nat) (x1 : Int32) (x2 : Int32) (h : AH) : Option (Int32 × AH) :=
  f_X0_findQuiet_2 FU k0 x1 x2 0 h
set_option maxHeartbeats 4000000 in
set_option maxRecDepth 100000 in
theorem v_X0_findQuiet_21 {E : EV} {d : Nat} (hd : 6 ≤ d) {r0 : Int32} {h0 : AH} {q2 : Nat → Int32 → Int32 → Int32 → AH → Option (Int32 × AH)} (cq2 : ∀ (k0 : Nat) (x1 : Int32) (x2 : Int32) (x3 : Int32) (h : AH), q2 k0 x1 x2 x3 h = some (r0, h0) → kd k0 = (0, 0) → V E (d + 1) K_X0_findQuiet (ZI E r0 h0) h [(0, .ref k0), (1, .int x1), (2, .int x2), (3, .int x3)] [] 2) {k0 : Nat} {x1 : Int32} {x2 : Int32} {x3 : Int32} {h : AH} (hf : f_X0_findQuiet_21 q2 k0 x1 x2 x3 h = some (r0, h0)) (t_k0 : kd k0 = (0, 0)) : V E (d + 1) K_X0_findQuiet (ZI E r0 h0) h [(0, .ref k0), (1, .int x1), (2, .int x2), (3, .int x3)] [] 21 := by
  unfold f_X0_findQuiet_21 at hf
  obtain ⟨x3_1, e_2, hf⟩ := nm_s hf
  refine V_iinc (a := 1) (L' := [(3, .int x3_1), (0, .ref k0), (1, .int x1), (2, .int x2)]) 3 dX0_findQuiet_21 rfl (by decide) (Nat.le_of_ble_eq_true rfl) e_2 rfl ?_
  refine V_goto (tgt := 2) dX0_findQuiet_24 (by decide) ?_
  refine V_sub [1, 2, 3, 0] rfl ?_
  exact cq2 _ _ _ _ _ hf t_k0
set_option maxHeartbeats 4000000 in
set_option maxRecDepth 100000 in
theorem v_X0_findQuiet_68 {E : EV} {d : Nat} (hd : 6 ≤ d) {r0 : Int32} {h0 : AH} {q32 : Nat → Int32 → Int32 → Int32 → Int32 → AH → Option (Int32 × AH)} (cq32 : ∀ (k0 : Nat) (x1 : Int32) (x2 : Int32) (x3 : Int32) (x4 : Int32) (h : AH), q32 k0 x1 x2 x3 x4 h = some (r0, h0) → kd k0 = (0, 0) → V E (d + 1) K_X0_findQuiet (ZI E r0 h0) h [(0, .ref k0), (1, .int x1), (2, .int x2), (3, .int x3), (4, .int x4)] [] 32) {k0 : Nat} {x1 : Int32} {x2 : Int32} {x3 : Int32} {x4 : Int32} {h : AH} (hf : f_X0_findQuiet_68 q32 k0 x1 x2 x3 x4 h = some (r0, h0)) (t_k0 : kd k0 = (0, 0)) : V E (d + 1) K_X0_findQuiet (ZI E r0 h0) h [(0, .ref k0), (1, .int x1), (2, .int x2), (3, .int x3), (4, .int x4)] [] 68 := by
  unfold f_X0_findQuiet_68 at hf
  obtain ⟨x4_1, e_2, hf⟩ := nm_s hf
  refine V_iinc (a := 1) (L' := [(4, .int x4_1), (0, .ref k0), (1, .int x1), (2, .int x2), (3, .int x3)]) 4 dX0_findQuiet_68 rfl (by decide) (Nat.le_of_ble_eq_true rfl) e_2 rfl ?_
  refine V_goto (tgt := 32) dX0_findQuiet_71 (by decide) ?_
  refine V_sub [1, 2, 3, 4, 0] rfl ?_
  exact cq32 _ _ _ _ _ _ hf t_k0
set_option maxHeartbeats 4000000 in
set_option maxRecDepth 100000 in
theorem v_X0_findQuiet_84 {E : EV} {d : Nat} (hd : 6 ≤ d) {r0 : Int32} {h0 : AH} {s0 : Int32} {h : AH} (hf : f_X0_findQuiet_84 s0 h = some (r0, h0)) : V E (d + 1) K_X0_findQuiet (ZI E r0 h0) h [] [.int s0] 84 := by
  unfold f_X0_findQuiet_84 at hf
  exact V_iret rfl (so_s hf) dX0_findQuiet_84
set_option maxHeartbeats 4000000 in
set_option maxRecDepth 100000 in
theorem v_X0_findQuiet_32 {E : EV} {d : Nat} (hd : 6 ≤ d) {r0 : Int32} {h0 : AH} : ∀ (n : Nat) (k0 : Nat) (x1 : Int32) (x2 : Int32) (x3 : Int32) (x4 : Int32) (h : AH), f_X0_findQuiet_32 n k0 x1 x2 x3 x4 h = some (r0, h0) → kd k0 = (0, 0) → V E (d + 1) K_X0_findQuiet (ZI E r0 h0) h [(0, .ref k0), (1, .int x1), (2, .int x2), (3, .int x3), (4, .int x4)] [] 32 := by
  intro n
  induction n with
  | zero =>
    intro k0 x1 x2 x3 x4 h hf
    rw [f_X0_findQuiet_32] at hf
    cases hf
  | succ n ih =>
    intro k0 x1 x2 x3 x4 h hf t_k0
    rw [f_X0_findQuiet_32] at hf
    refine V_iload 4 dX0_findQuiet_32 rfl ?_
    refine V_iload_n 1 dX0_findQuiet_34 rfl rfl ?_
    refine V_ic_gt (tgt := 74) dX0_findQuiet_35 (by decide) (fun c_1 => ?_) (fun c_1 => ?_)
    · have hf := it_s c_1 hf
      refine V_iload_n 2 dX0_findQuiet_74 rfl rfl ?_
      refine V_iconst (v := (-1)) dX0_findQuiet_75 (by decide) ?_
      refine V_ic_ne (tgt := 83) dX0_findQuiet_76 (by decide) (fun c_2 => ?_) (fun c_2 => ?_)
      · have hf := if_s c_2 hf
        refine V_iconst (v := (-1)) dX0_findQuiet_83 (by decide) ?_
        refine V_sub [] rfl ?_
        exact v_X0_findQuiet_84 hd hf
      · have hf := it_s c_2 hf
        refine V_iload_n 3 dX0_findQuiet_79 rfl rfl ?_
        refine V_goto (tgt := 84) dX0_findQuiet_80 (by decide) ?_
        refine V_sub [] rfl ?_
        exact v_X0_findQuiet_84 hd hf
    · have hf := if_s c_1 hf
      refine V_iload 4 dX0_findQuiet_38 rfl ?_
      refine V_iload_n 1 dX0_findQuiet_40 rfl rfl ?_
      refine V_iconst (v := (-1)) dX0_findQuiet_41 (by decide) ?_
      refine V_ixor dX0_findQuiet_42 ?_
      refine V_iand dX0_findQuiet_43 ?_
      refine V_if_ne (tgt := 68) dX0_findQuiet_44 (by decide) (fun c_3 => ?_) (fun c_3 => ?_)
      · have hf := if_s c_3 hf
        exact v_X0_findQuiet_68 hd ih hf t_k0
      · have hf := it_s c_3 hf
        refine V_aload_n 0 dX0_findQuiet_47 rfl rfl ?_
        refine V_iload 4 dX0_findQuiet_48 rfl ?_
        refine V_iload_n 1 dX0_findQuiet_50 rfl rfl ?_
        obtain ⟨r_6, h_5, e_4, hf⟩ := ob_s hf
        refine V_cvi (As := [.int x4, .int x1]) (rest := []) (c_X0_isQuiet (d := d) (Nat.le_trans (Nat.le_of_ble_eq_true rfl) hd) e_4 t_k0) ML_X0_92 MV_X0_isQuiet rfl t_k0 rfl rfl (Nat.le_of_ble_eq_true rfl) dX0_findQuiet_51 ?_
        refine V_if_eq (tgt := 68) dX0_findQuiet_54 (by decide) (fun c_7 => ?_) (fun c_7 => ?_)
        · have hf := it_s c_7 hf
          exact v_X0_findQuiet_68 hd ih hf t_k0
        · have hf := if_s c_7 hf
          refine V_iload_n 3 dX0_findQuiet_57 rfl rfl ?_
          refine V_iload_n 2 dX0_findQuiet_58 rfl rfl ?_
          refine V_ic_ne (tgt := 65) dX0_findQuiet_59 (by decide) (fun c_8 => ?_) (fun c_8 => ?_)
          · have hf := if_s c_8 hf
            obtain ⟨x3_9, e_10, hf⟩ := nm_s hf
            refine V_iinc (a := 1) (L' := [(3, .int x3_9), (0, .ref k0), (1, .int x1), (2, .int x2), (4, .int x4)]) 3 dX0_findQuiet_65 rfl (by decide) (Nat.le_of_ble_eq_true rfl) e_10 rfl ?_
            refine V_sub [1, 2, 3, 0, 4] rfl ?_
            exact v_X0_findQuiet_68 hd ih hf t_k0
          · have hf := it_s c_8 hf
            refine V_iload 4 dX0_findQuiet_62 rfl ?_
            exact V_iret rfl (so_s hf) dX0_findQuiet_64
set_option maxHeartbeats 4000000 in
set_option maxRecDepth 100000 in
theorem v_X0_findQuiet_2 {E : EV} {d : Nat} (hd : 6 ≤ d) {r0 : Int32} {h0 : AH} : ∀ (n : Nat) (k0 : Nat) (x1 : Int32) (x2 : Int32) (x3 : Int32) (h : AH), f_X0_findQuiet_2 n k0 x1 x2 x3 h = some (r0, h0) → kd k0 = (0, 0) → V E (d + 1) K_X0_findQuiet (ZI E r0 h0) h [(0, .ref k0), (1, .int x1), (2, .int x2), (3, .int x3)] [] 2 := by
  intro n
  induction n with
  | zero =>
    intro k0 x1 x2 x3 h hf
    rw [f_X0_findQuiet_2] at hf
    cases hf
  | succ n ih =>
    intro k0 x1 x2 x3 h hf t_k0
    rw [f_X0_findQuiet_2] at hf
    refine V_iload_n 3 dX0_findQuiet_2 rfl rfl ?_
    refine V_iload_n 1 dX0_findQuiet_3 rfl rfl ?_
    refine V_ic_gt (tgt := 27) dX0_findQuiet_4 (by decide) (fun c_1 => ?_) (fun c_1 => ?_)
    · have hf := it_s c_1 hf
      refine V_iconst (v := 0) dX0_findQuiet_27 (by decide) ?_
      refine V_istore_n (L' := [(3, .int 0), (0, .ref k0), (1, .int x1), (2, .int x2)]) dX0_findQuiet_28 rfl (Nat.le_of_ble_eq_true rfl) rfl rfl ?_
      refine V_iconst (v := 0) dX0_findQuiet_29 (by decide) ?_
      refine V_istore (L' := [(4, .int 0), (3, .int 0), (0, .ref k0), (1, .int x1), (2, .int x2)]) dX0_findQuiet_30 (Nat.le_of_ble_eq_true rfl) rfl rfl ?_
      refine V_sub [2, 3, 4, 1, 0] rfl ?_
      exact v_X0_findQuiet_32 hd FU _ _ _ _ _ _ hf t_k0
    · have hf := if_s c_1 hf
      refine V_iload_n 3 dX0_findQuiet_7 rfl rfl ?_
      refine V_iload_n 1 dX0_findQuiet_8 rfl rfl ?_
      refine V_iconst (v := (-1)) dX0_findQuiet_9 (by decide) ?_
      refine V_ixor dX0_findQuiet_10 ?_
      refine V_iand dX0_findQuiet_11 ?_
      refine V_if_ne (tgt := 21) dX0_findQuiet_12 (by decide) (fun c_2 => ?_) (fun c_2 => ?_)
      · have hf := if_s c_2 hf
        exact v_X0_findQuiet_21 hd ih hf t_k0
      · have hf := it_s c_2 hf
        refine V_aload_n 0 dX0_findQuiet_15 rfl rfl ?_
        refine V_iload_n 3 dX0_findQuiet_16 rfl rfl ?_
        refine V_iload_n 1 dX0_findQuiet_17 rfl rfl ?_
        obtain ⟨h_4, e_3, hf⟩ := ov_s hf
        refine V_cvv (As := [.int x3, .int x1]) (rest := []) (c_X0_come (d := d) (Nat.le_trans (Nat.le_of_ble_eq_true rfl) hd) e_3 t_k0) ML_X0_88 MV_X0_come rfl t_k0 rfl rfl (Nat.le_of_ble_eq_true rfl) dX0_findQuiet_18 ?_
        exact v_X0_findQuiet_21 hd ih hf t_k0
set_option maxHeartbeats 4000000 in
set_option maxRecDepth 100000 in
theorem c_X0_findQuiet {E : EV} {d : Nat} (hd : 6 + 1 ≤ d) {k0 : Nat} {x1 : Int32} {x2 : Int32} {h : AH} {r0 : Int32} {h0 : AH} (hf : f_X0_findQuiet k0 x1 x2 h = some (r0, h0)) (t_k0 : kd k0 = (0, 0)) : Con E d K_X0_findQuiet (ZI E r0 h0) [.ref k0, .int x1, .int x2] h := by
  obtain ⟨d, rfl⟩ : ∃ d', d = d' + 1 := ⟨d - 1, by omega⟩
  have hd := Nat.le_of_succ_le_succ hd
  refine Con.ofV rfl (Nat.le_of_ble_eq_true rfl) ?_
  unfold f_X0_findQuiet at hf
  show V E (d + 1) K_X0_findQuiet (ZI E r0 h0) h [(0, .ref k0), (1, .int x1), (2, .int x2)] [] 0
  refine V_iconst (v := 0) dX0_findQuiet_0 (by decide) ?_
  refine V_istore_n (L' := [(3, .int 0), (0, .ref k0), (1, .int x1), (2, .int x2)]) dX0_findQuiet_1 rfl (Nat.le_of_ble_eq_true rfl) rfl rfl ?_
  refine V_sub [1, 2, 3, 0] rfl ?_
  exact v_X0_findQuiet_2 hd FU _ _ _ _ _ hf t_k0
theorem dX0_shiftOf_0 : decode cX0_shiftOf 0 = .ok (.iconst 2, 1) := by decide +kernel
theorem dX0_shiftOf_1 : decode cX0_shiftOf 1 = .ok (.aload_n 0, 1) := by decide +kernel
theorem dX0_shiftOf_2 : decode cX0_shiftOf 2 = .ok (.getfield 34, 3) := by decide +kernel
theorem dX0_shiftOf_5 : decode cX0_shiftOf 5 = .ok (.iconst 1, 1) := by decide +kernel
theorem dX0_shiftOf_6 : decode cX0_shiftOf 6 = .ok (.isub, 1) := by decide +kernel
theorem dX0_shiftOf_7 : decode cX0_shiftOf 7 = .ok (.iload_n 1, 1) := by decide +kernel
theorem dX0_shiftOf_8 : decode cX0_shiftOf 8 = .ok (.isub, 1) := by decide +kernel
theorem dX0_shiftOf_9 : decode cX0_shiftOf 9 = .ok (.imul, 1) := by decide +kernel
theorem dX0_shiftOf_10 : decode cX0_shiftOf 10 = .ok (.ireturn, 1) := by decide +kernel
theorem F_X0_34 : FLk RX0 34 0 5 := ⟨RX0, TX0, 7, rfl, rfl, iw_X0, by decide, Or.inl fl_X0_34⟩
def f_X0_shiftOf (k0 : Nat) (x1 : Int32) (h : AH) : Option (Int32 × AH) :=
  some ((2 * (((h.1 k0 5) - 1) - x1)), h)
set_option maxHeartbeats 4000000 in
set_option maxRecDepth 100000 in
theorem c_X0_shiftOf {E : EV} {d : Nat} (hd : 0 + 1 ≤ d) {k0 : Nat} {x1 : Int32} {h : AH} {r0 : Int32} {h0 : AH} (hf : f_X0_shiftOf k0 x1 h = some (r0, h0)) (t_k0 : kd k0 = (0, 0)) : Con E d K_X0_shiftOf (ZI E r0 h0) [.ref k0, .int x1] h := by
  obtain ⟨d, rfl⟩ : ∃ d', d = d' + 1 := ⟨d - 1, by omega⟩
  have hd := Nat.le_of_succ_le_succ hd
  refine Con.ofV rfl (Nat.le_of_ble_eq_true rfl) ?_
  unfold f_X0_shiftOf at hf
  show V E (d + 1) K_X0_shiftOf (ZI E r0 h0) h [(0, .ref k0), (1, .int x1)] [] 0
  refine V_iconst (v := 2) dX0_shiftOf_0 (by decide) ?_
  refine V_aload_n 0 dX0_shiftOf_1 rfl rfl ?_
  refine V_getI F_X0_34 rfl t_k0 rfl dX0_shiftOf_2 ?_
  refine V_iconst (v := 1) dX0_shiftOf_5 (by decide) ?_
  refine V_isub dX0_shiftOf_6 ?_
  refine V_iload_n 1 dX0_shiftOf_7 rfl rfl ?_
  refine V_isub dX0_shiftOf_8 ?_
  refine V_imul dX0_shiftOf_9 ?_
  exact V_iret rfl (so_s hf) dX0_shiftOf_10
theorem dX0_roundOf_0 : decode cX0_roundOf 0 = .ok (.iload_n 1, 1) := by decide +kernel
theorem dX0_roundOf_1 : decode cX0_roundOf 1 = .ok (.aload_n 0, 1) := by decide +kernel
theorem dX0_roundOf_2 : decode cX0_roundOf 2 = .ok (.iload_n 2, 1) := by decide +kernel
theorem dX0_roundOf_3 : decode cX0_roundOf 3 = .ok (.invokevirtual 58, 3) := by decide +kernel
theorem dX0_roundOf_6 : decode cX0_roundOf 6 = .ok (.ishr, 1) := by decide +kernel
theorem dX0_roundOf_7 : decode cX0_roundOf 7 = .ok (.iconst 3, 1) := by decide +kernel
theorem dX0_roundOf_8 : decode cX0_roundOf 8 = .ok (.iand, 1) := by decide +kernel
theorem dX0_roundOf_9 : decode cX0_roundOf 9 = .ok (.ireturn, 1) := by decide +kernel
theorem ML_X0_58 : MLk RX0 58 yX0_shiftOf := Or.inl ml_X0_58
theorem MV_X0_shiftOf : MVk K_X0_shiftOf 1 0 := ⟨⟨cd_X0_shiftOf, in_X0, ⟨by decide, by decide, by decide +kernel⟩, by decide⟩, im_X0_shiftOf, se_X0_shiftOf, _, _, rfl⟩
def f_X0_roundOf (k0 : Nat) (x1 : Int32) (x2 : Int32) (h : AH) : Option (Int32 × AH) :=
  ob (f_X0_shiftOf k0 x2 h) fun r_3 h_2 =>
  some (((x1 >>> (r_3 &&& 31)) &&& 3), h_2)
set_option maxHeartbeats 4000000 in
set_option maxRecDepth 100000 in
theorem c_X0_roundOf {E : EV} {d : Nat} (hd : 1 + 1 ≤ d) {k0 : Nat} {x1 : Int32} {x2 : Int32} {h : AH} {r0 : Int32} {h0 : AH} (hf : f_X0_roundOf k0 x1 x2 h = some (r0, h0)) (t_k0 : kd k0 = (0, 0)) : Con E d K_X0_roundOf (ZI E r0 h0) [.ref k0, .int x1, .int x2] h := by
  obtain ⟨d, rfl⟩ : ∃ d', d = d' + 1 := ⟨d - 1, by omega⟩
  have hd := Nat.le_of_succ_le_succ hd
  refine Con.ofV rfl (Nat.le_of_ble_eq_true rfl) ?_
  unfold f_X0_roundOf at hf
  show V E (d + 1) K_X0_roundOf (ZI E r0 h0) h [(0, .ref k0), (1, .int x1), (2, .int x2)] [] 0
  refine V_iload_n 1 dX0_roundOf_0 rfl rfl ?_
  refine V_aload_n 0 dX0_roundOf_1 rfl rfl ?_
  refine V_iload_n 2 dX0_roundOf_2 rfl rfl ?_
  obtain ⟨r_3, h_2, e_1, hf⟩ := ob_s hf
  refine V_cvi (As := [.int x2]) (rest := [.int x1]) (c_X0_shiftOf (d := d) (Nat.le_trans (Nat.le_of_ble_eq_true rfl) hd) e_1 t_k0) ML_X0_58 MV_X0_shiftOf rfl t_k0 rfl rfl (Nat.le_of_ble_eq_true rfl) dX0_roundOf_3 ?_
  refine V_ishr dX0_roundOf_6 ?_
  refine V_iconst (v := 3) dX0_roundOf_7 (by decide) ?_
  refine V_iand dX0_roundOf_8 ?_
  exact V_iret rfl (so_s hf) dX0_roundOf_9
theorem dX0_isTold_0 : decode cX0_isTold 0 = .ok (.iconst 0, 1) := by decide +kernel
theorem dX0_isTold_1 : decode cX0_isTold 1 = .ok (.istore_n 3, 1) := by decide +kernel
theorem dX0_isTold_2 : decode cX0_isTold 2 = .ok (.iload_n 3, 1) := by decide +kernel
theorem dX0_isTold_3 : decode cX0_isTold 3 = .ok (.aload_n 0, 1) := by decide +kernel
theorem dX0_isTold_4 : decode cX0_isTold 4 = .ok (.getfield 34, 3) := by decide +kernel
theorem dX0_isTold_7 : decode cX0_isTold 7 = .ok (.if_icmp .ge 21, 3) := by decide +kernel
theorem dX0_isTold_10 : decode cX0_isTold 10 = .ok (.aload_n 0, 1) := by decide +kernel
theorem dX0_isTold_11 : decode cX0_isTold 11 = .ok (.iload_n 1, 1) := by decide +kernel
theorem dX0_isTold_12 : decode cX0_isTold 12 = .ok (.iload_n 3, 1) := by decide +kernel
theorem dX0_isTold_13 : decode cX0_isTold 13 = .ok (.invokevirtual 62, 3) := by decide +kernel
theorem dX0_isTold_16 : decode cX0_isTold 16 = .ok (.iload_n 2, 1) := by decide +kernel
theorem dX0_isTold_17 : decode cX0_isTold 17 = .ok (.if_icmp .le 5, 3) := by decide +kernel
theorem dX0_isTold_20 : decode cX0_isTold 20 = .ok (.iconst 0, 1) := by decide +kernel
theorem dX0_isTold_21 : decode cX0_isTold 21 = .ok (.ireturn, 1) := by decide +kernel
theorem dX0_isTold_22 : decode cX0_isTold 22 = .ok (.iinc 3 1, 3) := by decide +kernel
theorem dX0_isTold_25 : decode cX0_isTold 25 = .ok (.goto (-23), 3) := by decide +kernel
theorem dX0_isTold_28 : decode cX0_isTold 28 = .ok (.iconst 1, 1) := by decide +kernel
theorem dX0_isTold_29 : decode cX0_isTold 29 = .ok (.ireturn, 1) := by decide +kernel
theorem ML_X0_62 : MLk RX0 62 yX0_roundOf := Or.inl ml_X0_62
theorem MV_X0_roundOf : MVk K_X0_roundOf 2 0 := ⟨⟨cd_X0_roundOf, in_X0, ⟨by decide, by decide, by decide +kernel⟩, by decide⟩, im_X0_roundOf, se_X0_roundOf, _, _, rfl⟩
def f_X0_isTold_2 : Nat → Nat → Int32 → Int32 → Int32 → AH → Option (Int32 × AH)
  | 0, _, _, _, _, _ => none
  | n + 1, k0, x1, x2, x3, h =>
    if (h.1 k0 5) ≤ x3 then (
      some (1, h)
    ) else (
      ob (f_X0_roundOf k0 x1 x3 h) fun r_4 h_3 =>
      if r_4 ≤ x2 then (
        nm (x3 + 1) fun x3_6 =>
        f_X0_isTold_2 n k0 x1 x2 x3_6 h_3
      ) else (
        some (0, h_3)
      )
    )
def f_X0_isTold (k0 : Nat) (x1 : Int32) (x2 : Int32) (h : AH) : Option (Int32 × AH) :=
  f_X0_isTold_2 FU k0 x1 x2 0 h
set_option maxHeartbeats 4000000 in
set_option maxRecDepth 100000 in
theorem v_X0_isTold_2 {E : EV} {d : Nat} (hd : 2 ≤ d) {r0 : Int32} {h0 : AH} : ∀ (n : Nat) (k0 : Nat) (x1 : Int32) (x2 : Int32) (x3 : Int32) (h : AH), f_X0_isTold_2 n k0 x1 x2 x3 h = some (r0, h0) → kd k0 = (0, 0) → V E (d + 1) K_X0_isTold (ZI E r0 h0) h [(0, .ref k0), (1, .int x1), (2, .int x2), (3, .int x3)] [] 2 := by
  intro n
  induction n with
  | zero =>
    intro k0 x1 x2 x3 h hf
    rw [f_X0_isTold_2] at hf
    cases hf
  | succ n ih =>
    intro k0 x1 x2 x3 h hf t_k0
    rw [f_X0_isTold_2] at hf
    refine V_iload_n 3 dX0_isTold_2 rfl rfl ?_
    refine V_aload_n 0 dX0_isTold_3 rfl rfl ?_
    refine V_getI F_X0_34 rfl t_k0 rfl dX0_isTold_4 ?_
    refine V_ic_ge (tgt := 28) dX0_isTold_7 (by decide) (fun c_1 => ?_) (fun c_1 => ?_)
    · have hf := it_s c_1 hf
      refine V_iconst (v := 1) dX0_isTold_28 (by decide) ?_
      exact V_zret rfl (by decide) (so_s hf) dX0_isTold_29
    · have hf := if_s c_1 hf
      refine V_aload_n 0 dX0_isTold_10 rfl rfl ?_
      refine V_iload_n 1 dX0_isTold_11 rfl rfl ?_
      refine V_iload_n 3 dX0_isTold_12 rfl rfl ?_
      obtain ⟨r_4, h_3, e_2, hf⟩ := ob_s hf
      refine V_cvi (As := [.int x1, .int x3]) (rest := []) (c_X0_roundOf (d := d) (Nat.le_trans (Nat.le_of_ble_eq_true rfl) hd) e_2 t_k0) ML_X0_62 MV_X0_roundOf rfl t_k0 rfl rfl (Nat.le_of_ble_eq_true rfl) dX0_isTold_13 ?_
      refine V_iload_n 2 dX0_isTold_16 rfl rfl ?_
      refine V_ic_le (tgt := 22) dX0_isTold_17 (by decide) (fun c_5 => ?_) (fun c_5 => ?_)
      · have hf := it_s c_5 hf
        obtain ⟨x3_6, e_7, hf⟩ := nm_s hf
        refine V_iinc (a := 1) (L' := [(3, .int x3_6), (0, .ref k0), (1, .int x1), (2, .int x2)]) 3 dX0_isTold_22 rfl (by decide) (Nat.le_of_ble_eq_true rfl) e_7 rfl ?_
        refine V_goto (tgt := 2) dX0_isTold_25 (by decide) ?_
        refine V_sub [1, 2, 3, 0] rfl ?_
        exact ih _ _ _ _ _ hf t_k0
      · have hf := if_s c_5 hf
        refine V_iconst (v := 0) dX0_isTold_20 (by decide) ?_
        exact V_zret rfl (by decide) (so_s hf) dX0_isTold_21
set_option maxHeartbeats 4000000 in
set_option maxRecDepth 100000 in
theorem c_X0_isTold {E : EV} {d : Nat} (hd : 2 + 1 ≤ d) {k0 : Nat} {x1 : Int32} {x2 : Int32} {h : AH} {r0 : Int32} {h0 : AH} (hf : f_X0_isTold k0 x1 x2 h = some (r0, h0)) (t_k0 : kd k0 = (0, 0)) : Con E d K_X0_isTold (ZI E r0 h0) [.ref k0, .int x1, .int x2] h := by
  obtain ⟨d, rfl⟩ : ∃ d', d = d' + 1 := ⟨d - 1, by omega⟩
  have hd := Nat.le_of_succ_le_succ hd
  refine Con.ofV rfl (Nat.le_of_ble_eq_true rfl) ?_
  unfold f_X0_isTold at hf
  show V E (d + 1) K_X0_isTold (ZI E r0 h0) h [(0, .ref k0), (1, .int x1), (2, .int x2)] [] 0
  refine V_iconst (v := 0) dX0_isTold_0 (by decide) ?_
  refine V_istore_n (L' := [(3, .int 0), (0, .ref k0), (1, .int x1), (2, .int x2)]) dX0_isTold_1 rfl (Nat.le_of_ble_eq_true rfl) rfl rfl ?_
  refine V_sub [1, 2, 3, 0] rfl ?_
  exact v_X0_isTold_2 hd FU _ _ _ _ _ hf t_k0
theorem dX0_rise_0 : decode cX0_rise 0 = .ok (.aload_n 0, 1) := by decide +kernel
theorem dX0_rise_1 : decode cX0_rise 1 = .ok (.getfield 30, 3) := by decide +kernel
theorem dX0_rise_4 : decode cX0_rise 4 = .ok (.iconst 0, 1) := by decide +kernel
theorem dX0_rise_5 : decode cX0_rise 5 = .ok (.invokevirtual 65, 3) := by decide +kernel
theorem dX0_rise_8 : decode cX0_rise 8 = .ok (.iconst 0, 1) := by decide +kernel
theorem dX0_rise_9 : decode cX0_rise 9 = .ok (.istore 4, 2) := by decide +kernel
theorem dX0_rise_11 : decode cX0_rise 11 = .ok (.iload 4, 2) := by decide +kernel
theorem dX0_rise_13 : decode cX0_rise 13 = .ok (.iload_n 3, 1) := by decide +kernel
theorem dX0_rise_14 : decode cX0_rise 14 = .ok (.if_icmp .gt 53, 3) := by decide +kernel
theorem dX0_rise_17 : decode cX0_rise 17 = .ok (.iconst 0, 1) := by decide +kernel
theorem dX0_rise_18 : decode cX0_rise 18 = .ok (.istore 5, 2) := by decide +kernel
theorem dX0_rise_20 : decode cX0_rise 20 = .ok (.iload 5, 2) := by decide +kernel
theorem dX0_rise_22 : decode cX0_rise 22 = .ok (.aload_n 0, 1) := by decide +kernel
theorem dX0_rise_23 : decode cX0_rise 23 = .ok (.getfield 34, 3) := by decide +kernel
theorem dX0_rise_26 : decode cX0_rise 26 = .ok (.if_icmp .ge 35, 3) := by decide +kernel
theorem dX0_rise_29 : decode cX0_rise 29 = .ok (.aload_n 0, 1) := by decide +kernel
theorem dX0_rise_30 : decode cX0_rise 30 = .ok (.iload_n 1, 1) := by decide +kernel
theorem dX0_rise_31 : decode cX0_rise 31 = .ok (.iload 5, 2) := by decide +kernel
theorem dX0_rise_33 : decode cX0_rise 33 = .ok (.invokevirtual 62, 3) := by decide +kernel
theorem dX0_rise_36 : decode cX0_rise 36 = .ok (.iload 4, 2) := by decide +kernel
theorem dX0_rise_38 : decode cX0_rise 38 = .ok (.if_icmp .ne 17, 3) := by decide +kernel
theorem dX0_rise_41 : decode cX0_rise 41 = .ok (.aload_n 0, 1) := by decide +kernel
theorem dX0_rise_42 : decode cX0_rise 42 = .ok (.getfield 30, 3) := by decide +kernel
theorem dX0_rise_45 : decode cX0_rise 45 = .ok (.aload_n 0, 1) := by decide +kernel
theorem dX0_rise_46 : decode cX0_rise 46 = .ok (.getfield 9, 3) := by decide +kernel
theorem dX0_rise_49 : decode cX0_rise 49 = .ok (.iload 5, 2) := by decide +kernel
theorem dX0_rise_51 : decode cX0_rise 51 = .ok (.iaload, 1) := by decide +kernel
theorem dX0_rise_52 : decode cX0_rise 52 = .ok (.invokevirtual 71, 3) := by decide +kernel
theorem dX0_rise_55 : decode cX0_rise 55 = .ok (.iinc 5 1, 3) := by decide +kernel
theorem dX0_rise_58 : decode cX0_rise 58 = .ok (.goto (-38), 3) := by decide +kernel
theorem dX0_rise_61 : decode cX0_rise 61 = .ok (.iinc 4 1, 3) := by decide +kernel
theorem dX0_rise_64 : decode cX0_rise 64 = .ok (.goto (-53), 3) := by decide +kernel
theorem dX0_rise_67 : decode cX0_rise 67 = .ok (.aload_n 0, 1) := by decide +kernel
theorem dX0_rise_68 : decode cX0_rise 68 = .ok (.getfield 30, 3) := by decide +kernel
theorem dX0_rise_71 : decode cX0_rise 71 = .ok (.iload_n 2, 1) := by decide +kernel
theorem dX0_rise_72 : decode cX0_rise 72 = .ok (.invokevirtual 74, 3) := by decide +kernel
theorem dX0_rise_75 : decode cX0_rise 75 = .ok (.aload_n 0, 1) := by decide +kernel
theorem dX0_rise_76 : decode cX0_rise 76 = .ok (.getfield 30, 3) := by decide +kernel
theorem dX0_rise_79 : decode cX0_rise 79 = .ok (.iconst 0, 1) := by decide +kernel
theorem dX0_rise_80 : decode cX0_rise 80 = .ok (.invokevirtual 77, 3) := by decide +kernel
theorem dX0_rise_83 : decode cX0_rise 83 = .ok (.iconst 0, 1) := by decide +kernel
theorem dX0_rise_84 : decode cX0_rise 84 = .ok (.istore 4, 2) := by decide +kernel
theorem dX0_rise_86 : decode cX0_rise 86 = .ok (.iload 4, 2) := by decide +kernel
theorem dX0_rise_88 : decode cX0_rise 88 = .ok (.aload_n 0, 1) := by decide +kernel
theorem dX0_rise_89 : decode cX0_rise 89 = .ok (.getfield 34, 3) := by decide +kernel
theorem dX0_rise_92 : decode cX0_rise 92 = .ok (.if_icmp .ge 63, 3) := by decide +kernel
theorem dX0_rise_95 : decode cX0_rise 95 = .ok (.aload_n 0, 1) := by decide +kernel
theorem dX0_rise_96 : decode cX0_rise 96 = .ok (.getfield 18, 3) := by decide +kernel
theorem dX0_rise_99 : decode cX0_rise 99 = .ok (.aload_n 0, 1) := by decide +kernel
theorem dX0_rise_100 : decode cX0_rise 100 = .ok (.getfield 9, 3) := by decide +kernel
theorem dX0_rise_103 : decode cX0_rise 103 = .ok (.iload 4, 2) := by decide +kernel
theorem dX0_rise_105 : decode cX0_rise 105 = .ok (.iaload, 1) := by decide +kernel
theorem dX0_rise_106 : decode cX0_rise 106 = .ok (.bipush 6, 2) := by decide +kernel
theorem dX0_rise_108 : decode cX0_rise 108 = .ok (.invokevirtual 80, 3) := by decide +kernel
theorem dX0_rise_111 : decode cX0_rise 111 = .ok (.aload_n 0, 1) := by decide +kernel
theorem dX0_rise_112 : decode cX0_rise 112 = .ok (.iload_n 1, 1) := by decide +kernel
theorem dX0_rise_113 : decode cX0_rise 113 = .ok (.iload 4, 2) := by decide +kernel
theorem dX0_rise_115 : decode cX0_rise 115 = .ok (.invokevirtual 62, 3) := by decide +kernel
theorem dX0_rise_118 : decode cX0_rise 118 = .ok (.imul, 1) := by decide +kernel
theorem dX0_rise_119 : decode cX0_rise 119 = .ok (.istore 5, 2) := by decide +kernel
theorem dX0_rise_121 : decode cX0_rise 121 = .ok (.aload_n 0, 1) := by decide +kernel
theorem dX0_rise_122 : decode cX0_rise 122 = .ok (.getfield 15, 3) := by decide +kernel
theorem dX0_rise_125 : decode cX0_rise 125 = .ok (.iload_n 1, 1) := by decide +kernel
theorem dX0_rise_126 : decode cX0_rise 126 = .ok (.iconst 4, 1) := by decide +kernel
theorem dX0_rise_127 : decode cX0_rise 127 = .ok (.imul, 1) := by decide +kernel
theorem dX0_rise_128 : decode cX0_rise 128 = .ok (.iload 4, 2) := by decide +kernel
theorem dX0_rise_130 : decode cX0_rise 130 = .ok (.iadd, 1) := by decide +kernel
theorem dX0_rise_131 : decode cX0_rise 131 = .ok (.iload 5, 2) := by decide +kernel
theorem dX0_rise_133 : decode cX0_rise 133 = .ok (.aload_n 0, 1) := by decide +kernel
theorem dX0_rise_134 : decode cX0_rise 134 = .ok (.getfield 30, 3) := by decide +kernel
theorem dX0_rise_137 : decode cX0_rise 137 = .ok (.aload_n 0, 1) := by decide +kernel
theorem dX0_rise_138 : decode cX0_rise 138 = .ok (.getfield 9, 3) := by decide +kernel
theorem dX0_rise_141 : decode cX0_rise 141 = .ok (.iload 4, 2) := by decide +kernel
theorem dX0_rise_143 : decode cX0_rise 143 = .ok (.iaload, 1) := by decide +kernel
theorem dX0_rise_144 : decode cX0_rise 144 = .ok (.invokevirtual 85, 3) := by decide +kernel
theorem dX0_rise_147 : decode cX0_rise 147 = .ok (.iadd, 1) := by decide +kernel
theorem dX0_rise_148 : decode cX0_rise 148 = .ok (.iastore, 1) := by decide +kernel
theorem dX0_rise_149 : decode cX0_rise 149 = .ok (.iinc 4 1, 3) := by decide +kernel
theorem dX0_rise_152 : decode cX0_rise 152 = .ok (.goto (-66), 3) := by decide +kernel
theorem dX0_rise_155 : decode cX0_rise 155 = .ok (.return_, 1) := by decide +kernel
theorem F_X0_9 : FLk RX0 9 0 4 := ⟨RX0, TX0, 7, rfl, rfl, iw_X0, by decide, Or.inl fl_X0_9⟩
theorem ML_X0_71 : MLk RX0 71 yX5_add := Or.inl ml_X0_71
def f_X0_rise_55 (q20 : Nat → Int32 → Int32 → Int32 → Int32 → Int32 → AH → Option AH) (k0 : Nat) (x1 : Int32) (x2 : Int32) (x3 : Int32) (x4 : Int32) (x5 : Int32) (h : AH) : Option AH :=
  nm (x5 + 1) fun x5_1 =>
  q20 k0 x1 x2 x3 x4 x5_1 h
def f_X0_rise_20 (q11 : Nat → Int32 → Int32 → Int32 → Int32 → AH → Option AH) : Nat → Nat → Int32 → Int32 → Int32 → Int32 → Int32 → AH → Option AH
  | 0, _, _, _, _, _, _, _ => none
  | n + 1, k0, x1, x2, x3, x4, x5, h =>
    if (h.1 k0 5) ≤ x5 then (
      nm (x4 + 1) fun x4_2 =>
      q11 k0 x1 x2 x3 x4_2 h
    ) else (
      ob (f_X0_roundOf k0 x1 x5 h) fun r_6 h_5 =>
      if r_6 = x4 then (
        og (ix x5 (an (rf k0 4))) <|
        ov (f_X5_add (rf k0 3) (h_5.1 (rf k0 4) x5.toNatClampNeg) h_5) fun h_10 =>
        f_X0_rise_55 (f_X0_rise_20 q11 n) k0 x1 x2 x3 x4 x5 h_10
      ) else (
        f_X0_rise_55 (f_X0_rise_20 q11 n) k0 x1 x2 x3 x4 x5 h_5
      )
    )
def f_X0_rise_86 : Nat → Nat → Int32 → Int32 → AH → Option AH
  | 0, _, _, _, _ => none
  | n + 1, k0, x1, x4, h =>
    if (h.1 k0 5) ≤ x4 then (
      some h
    ) else (
      og (ix x4 (an (rf k0 4))) <|
      ob (f_X6_item (rf k0 0) (h.1 (rf k0 4) x4.toNatClampNeg) 6 h) fun r_5 h_4 =>
      ob (f_X0_roundOf k0 x1 x4 h_4) fun r_8 h_7 =>
      nm ((r_5 * r_8)) fun x5_9 =>
      og (ix x4 (an (rf k0 4))) <|
      ob (f_X5_worthOf (rf k0 3) (h_7.1 (rf k0 4) x4.toNatClampNeg) h_7) fun r_14 h_13 =>
      og (ix ((x1 * 4) + x4) (an (rf k0 6))) <|
      nm (sI h_13 (rf k0 6) ((x1 * 4) + x4).toNatClampNeg (x5_9 + r_14)) fun h_16 =>
      nm (x4 + 1) fun x4_18 =>
      f_X0_rise_86 n k0 x1 x4_18 h_16
    )
def f_X0_rise_11 : Nat → Nat → Int32 → Int32 → Int32 → Int32 → AH → Option AH
  | 0, _, _, _, _, _, _ => none
  | n + 1, k0, x1, x2, x3, x4, h =>
    if x3 < x4 then (
      ov (f_X5_begin (rf k0 3) x2 h) fun h_3 =>
      ov (f_X5_go (rf k0 3) 0 h_3) fun h_5 =>
      f_X0_rise_86 FU k0 x1 0 h_5
    ) else (
      f_X0_rise_20 (f_X0_rise_11 n) FU k0 x1 x2 x3 x4 0 h
    )
def f_X0_rise (k0 : Nat) (x1 : Int32) (x2 : Int32) (x3 : Int32) (h : AH) : Option AH :=
  ov (f_X5_lowest (rf k0 3) 0 h) fun h_2 =>
  f_X0_rise_11 FU k0 x1 x2 x3 0 h_2
set_option maxHeartbeats 4000000 in
set_option maxRecDepth 100000 in
theorem v_X0_rise_55 {E : EV} {d : Nat} (hd : 5 ≤ d) {h0 : AH} {q20 : Nat → Int32 → Int32 → Int32 → Int32 → Int32 → AH → Option AH} (cq20 : ∀ (k0 : Nat) (x1 : Int32) (x2 : Int32) (x3 : Int32) (x4 : Int32) (x5 : Int32) (h : AH), q20 k0 x1 x2 x3 x4 x5 h = some h0 → kd k0 = (0, 0) → V E (d + 1) K_X0_rise (ZV E h0) h [(0, .ref k0), (1, .int x1), (2, .int x2), (3, .int x3), (4, .int x4), (5, .int x5)] [] 20) {k0 : Nat} {x1 : Int32} {x2 : Int32} {x3 : Int32} {x4 : Int32} {x5 : Int32} {h : AH} (hf : f_X0_rise_55 q20 k0 x1 x2 x3 x4 x5 h = some h0) (t_k0 : kd k0 = (0, 0)) : V E (d + 1) K_X0_rise (ZV E h0) h [(0, .ref k0), (1, .int x1), (2, .int x2), (3, .int x3), (4, .int x4), (5, .int x5)] [] 55 := by
  unfold f_X0_rise_55 at hf
  obtain ⟨x5_1, e_2, hf⟩ := nm_s hf
  refine V_iinc (a := 1) (L' := [(5, .int x5_1), (0, .ref k0), (1, .int x1), (2, .int x2), (3, .int x3), (4, .int x4)]) 5 dX0_rise_55 rfl (by decide) (Nat.le_of_ble_eq_true rfl) e_2 rfl ?_
  refine V_goto (tgt := 20) dX0_rise_58 (by decide) ?_
  refine V_sub [1, 2, 3, 4, 5, 0] rfl ?_
  exact cq20 _ _ _ _ _ _ _ hf t_k0
set_option maxHeartbeats 4000000 in
set_option maxRecDepth 100000 in
theorem v_X0_rise_20 {E : EV} {d : Nat} (hd : 5 ≤ d) {h0 : AH} {q11 : Nat → Int32 → Int32 → Int32 → Int32 → AH → Option AH} (cq11 : ∀ (k0 : Nat) (x1 : Int32) (x2 : Int32) (x3 : Int32) (x4 : Int32) (h : AH), q11 k0 x1 x2 x3 x4 h = some h0 → kd k0 = (0, 0) → V E (d + 1) K_X0_rise (ZV E h0) h [(0, .ref k0), (1, .int x1), (2, .int x2), (3, .int x3), (4, .int x4)] [] 11) : ∀ (n : Nat) (k0 : Nat) (x1 : Int32) (x2 : Int32) (x3 : Int32) (x4 : Int32) (x5 : Int32) (h : AH), f_X0_rise_20 q11 n k0 x1 x2 x3 x4 x5 h = some h0 → kd k0 = (0, 0) → V E (d + 1) K_X0_rise (ZV E h0) h [(0, .ref k0), (1, .int x1), (2, .int x2), (3, .int x3), (4, .int x4), (5, .int x5)] [] 20 := by
  intro n
  induction n with
  | zero =>
    intro k0 x1 x2 x3 x4 x5 h hf
    rw [f_X0_rise_20] at hf
    cases hf
  | succ n ih =>
    intro k0 x1 x2 x3 x4 x5 h hf t_k0
    rw [f_X0_rise_20] at hf
    refine V_iload 5 dX0_rise_20 rfl ?_
    refine V_aload_n 0 dX0_rise_22 rfl rfl ?_
    refine V_getI F_X0_34 rfl t_k0 rfl dX0_rise_23 ?_
    refine V_ic_ge (tgt := 61) dX0_rise_26 (by decide) (fun c_1 => ?_) (fun c_1 => ?_)
    · have hf := it_s c_1 hf
      obtain ⟨x4_2, e_3, hf⟩ := nm_s hf
      refine V_iinc (a := 1) (L' := [(4, .int x4_2), (0, .ref k0), (1, .int x1), (2, .int x2), (3, .int x3), (5, .int x5)]) 4 dX0_rise_61 rfl (by decide) (Nat.le_of_ble_eq_true rfl) e_3 rfl ?_
      refine V_goto (tgt := 11) dX0_rise_64 (by decide) ?_
      refine V_sub [1, 2, 3, 4, 0] rfl ?_
      exact cq11 _ _ _ _ _ _ hf t_k0
    · have hf := if_s c_1 hf
      refine V_aload_n 0 dX0_rise_29 rfl rfl ?_
      refine V_iload_n 1 dX0_rise_30 rfl rfl ?_
      refine V_iload 5 dX0_rise_31 rfl ?_
      obtain ⟨r_6, h_5, e_4, hf⟩ := ob_s hf
      refine V_cvi (As := [.int x1, .int x5]) (rest := []) (c_X0_roundOf (d := d) (Nat.le_trans (Nat.le_of_ble_eq_true rfl) hd) e_4 t_k0) ML_X0_62 MV_X0_roundOf rfl t_k0 rfl rfl (Nat.le_of_ble_eq_true rfl) dX0_rise_33 ?_
      refine V_iload 4 dX0_rise_36 rfl ?_
      refine V_ic_ne (tgt := 55) dX0_rise_38 (by decide) (fun c_7 => ?_) (fun c_7 => ?_)
      · have hf := if_s c_7 hf
        exact v_X0_rise_55 hd ih hf t_k0
      · have hf := it_s c_7 hf
        refine V_aload_n 0 dX0_rise_41 rfl rfl ?_
        refine V_getR F_X0_30 rfl t_k0 rfl dX0_rise_42 ?_
        refine V_aload_n 0 dX0_rise_45 rfl rfl ?_
        refine V_getR F_X0_9 rfl t_k0 rfl dX0_rise_46 ?_
        refine V_iload 5 dX0_rise_49 rfl ?_
        obtain ⟨b_8, hf⟩ := og_s hf
        refine V_iald (rfA t_k0 (Nat.le_of_ble_eq_true rfl) rfl rfl (by decide)) b_8 dX0_rise_51 ?_
        obtain ⟨h_10, e_9, hf⟩ := ov_s hf
        refine V_cvv (As := [.int (h_5.1 (rf k0 4) x5.toNatClampNeg)]) (rest := []) (c_X5_add (d := d) (Nat.le_trans (Nat.le_of_ble_eq_true rfl) hd) e_9 (rfO t_k0 (Nat.le_of_ble_eq_true rfl) rfl rfl)) ML_X0_71 MV_X5_add rfl (rfO t_k0 (Nat.le_of_ble_eq_true rfl) rfl rfl) rfl rfl (Nat.le_of_ble_eq_true rfl) dX0_rise_52 ?_
        exact v_X0_rise_55 hd ih hf t_k0
set_option maxHeartbeats 4000000 in
set_option maxRecDepth 100000 in
theorem v_X0_rise_86 {E : EV} {d : Nat} (hd : 5 ≤ d) {h0 : AH} : ∀ (n : Nat) (k0 : Nat) (x1 : Int32) (x4 : Int32) (h : AH), f_X0_rise_86 n k0 x1 x4 h = some h0 → kd k0 = (0, 0) → V E (d + 1) K_X0_rise (ZV E h0) h [(0, .ref k0), (1, .int x1), (4, .int x4)] [] 86 := by
  intro n
  induction n with
  | zero =>
    intro k0 x1 x4 h hf
    rw [f_X0_rise_86] at hf
    cases hf
  | succ n ih =>
    intro k0 x1 x4 h hf t_k0
    rw [f_X0_rise_86] at hf
    refine V_iload 2 dX0_rise_86 rfl ?_
    refine V_aload_n 0 dX0_rise_88 rfl rfl ?_
    refine V_getI F_X0_34 rfl t_k0 rfl dX0_rise_89 ?_
    refine V_ic_ge (tgt := 155) dX0_rise_92 (by decide) (fun c_1 => ?_) (fun c_1 => ?_)
    · have hf := it_s c_1 hf
      exact V_vret rfl (so_s hf) dX0_rise_155
    · have hf := if_s c_1 hf
      refine V_aload_n 0 dX0_rise_95 rfl rfl ?_
      refine V_getR F_X0_18 rfl t_k0 rfl dX0_rise_96 ?_
      refine V_aload_n 0 dX0_rise_99 rfl rfl ?_
      refine V_getR F_X0_9 rfl t_k0 rfl dX0_rise_100 ?_
      refine V_iload 2 dX0_rise_103 rfl ?_
      obtain ⟨b_2, hf⟩ := og_s hf
      refine V_iald (rfA t_k0 (Nat.le_of_ble_eq_true rfl) rfl rfl (by decide)) b_2 dX0_rise_105 ?_
      refine V_bipush (v := 6) dX0_rise_106 (by decide) ?_
      obtain ⟨r_5, h_4, e_3, hf⟩ := ob_s hf
      refine V_cvi (As := [.int (h.1 (rf k0 4) x4.toNatClampNeg), .int 6]) (rest := []) (c_X6_item (d := d) (Nat.le_trans (Nat.le_of_ble_eq_true rfl) hd) e_3 (rfO t_k0 (Nat.le_of_ble_eq_true rfl) rfl rfl)) ML_X0_80 MV_X6_item rfl (rfO t_k0 (Nat.le_of_ble_eq_true rfl) rfl rfl) rfl rfl (Nat.le_of_ble_eq_true rfl) dX0_rise_108 ?_
      refine V_aload_n 0 dX0_rise_111 rfl rfl ?_
      refine V_iload_n 1 dX0_rise_112 rfl rfl ?_
      refine V_iload 2 dX0_rise_113 rfl ?_
      obtain ⟨r_8, h_7, e_6, hf⟩ := ob_s hf
      refine V_cvi (As := [.int x1, .int x4]) (rest := [.int r_5]) (c_X0_roundOf (d := d) (Nat.le_trans (Nat.le_of_ble_eq_true rfl) hd) e_6 t_k0) ML_X0_62 MV_X0_roundOf rfl t_k0 rfl rfl (Nat.le_of_ble_eq_true rfl) dX0_rise_115 ?_
      refine V_imul dX0_rise_118 ?_
      obtain ⟨x5_9, e_10, hf⟩ := nm_s hf
      refine V_istore (L' := [(5, .int x5_9), (0, .ref k0), (1, .int x1), (4, .int x4)]) dX0_rise_119 (Nat.le_of_ble_eq_true rfl) e_10 rfl ?_
      refine V_aload_n 1 dX0_rise_121 rfl rfl ?_
      refine V_getR F_X0_15 rfl t_k0 rfl dX0_rise_122 ?_
      refine V_iload_n 2 dX0_rise_125 rfl rfl ?_
      refine V_iconst (v := 4) dX0_rise_126 (by decide) ?_
      refine V_imul dX0_rise_127 ?_
      refine V_iload 3 dX0_rise_128 rfl ?_
      refine V_iadd dX0_rise_130 ?_
      refine V_iload 0 dX0_rise_131 rfl ?_
      refine V_aload_n 1 dX0_rise_133 rfl rfl ?_
      refine V_getR F_X0_30 rfl t_k0 rfl dX0_rise_134 ?_
      refine V_aload_n 1 dX0_rise_137 rfl rfl ?_
      refine V_getR F_X0_9 rfl t_k0 rfl dX0_rise_138 ?_
      refine V_iload 3 dX0_rise_141 rfl ?_
      obtain ⟨b_11, hf⟩ := og_s hf
      refine V_iald (rfA t_k0 (Nat.le_of_ble_eq_true rfl) rfl rfl (by decide)) b_11 dX0_rise_143 ?_
      obtain ⟨r_14, h_13, e_12, hf⟩ := ob_s hf
      refine V_cvi (As := [.int (h_7.1 (rf k0 4) x4.toNatClampNeg)]) (rest := [.int x5_9, .int ((x1 * 4) + x4), .ref (rf k0 6)]) (c_X5_worthOf (d := d) (Nat.le_trans (Nat.le_of_ble_eq_true rfl) hd) e_12 (rfO t_k0 (Nat.le_of_ble_eq_true rfl) rfl rfl)) ML_X0_85 MV_X5_worthOf rfl (rfO t_k0 (Nat.le_of_ble_eq_true rfl) rfl rfl) rfl rfl (Nat.le_of_ble_eq_true rfl) dX0_rise_144 ?_
      refine V_iadd dX0_rise_147 ?_
      obtain ⟨b_15, hf⟩ := og_s hf
      obtain ⟨h_16, e_17, hf⟩ := nm_s hf
      refine V_iast (rfA t_k0 (Nat.le_of_ble_eq_true rfl) rfl rfl (by decide)) b_15 e_17 dX0_rise_148 ?_
      obtain ⟨x4_18, e_19, hf⟩ := nm_s hf
      refine V_iinc (a := 1) (L' := [(4, .int x4_18), (5, .int x5_9), (0, .ref k0), (1, .int x1)]) 3 dX0_rise_149 rfl (by decide) (Nat.le_of_ble_eq_true rfl) e_19 rfl ?_
      refine V_goto (tgt := 86) dX0_rise_152 (by decide) ?_
      refine V_sub [2, 3, 0] rfl ?_
      exact ih _ _ _ _ hf t_k0
set_option maxHeartbeats 4000000 in
set_option maxRecDepth 100000 in
theorem v_X0_rise_11 {E : EV} {d : Nat} (hd : 5 ≤ d) {h0 : AH} : ∀ (n : Nat) (k0 : Nat) (x1 : Int32) (x2 : Int32) (x3 : Int32) (x4 : Int32) (h : AH), f_X0_rise_11 n k0 x1 x2 x3 x4 h = some h0 → kd k0 = (0, 0) → V E (d + 1) K_X0_rise (ZV E h0) h [(0, .ref k0), (1, .int x1), (2, .int x2), (3, .int x3), (4, .int x4)] [] 11 := by
  intro n
  induction n with
  | zero =>
    intro k0 x1 x2 x3 x4 h hf
    rw [f_X0_rise_11] at hf
    cases hf
  | succ n ih =>
    intro k0 x1 x2 x3 x4 h hf t_k0
    rw [f_X0_rise_11] at hf
    refine V_iload 4 dX0_rise_11 rfl ?_
    refine V_iload_n 3 dX0_rise_13 rfl rfl ?_
    refine V_ic_gt (tgt := 67) dX0_rise_14 (by decide) (fun c_1 => ?_) (fun c_1 => ?_)
    · have hf := it_s c_1 hf
      refine V_aload_n 0 dX0_rise_67 rfl rfl ?_
      refine V_getR F_X0_30 rfl t_k0 rfl dX0_rise_68 ?_
      refine V_iload_n 2 dX0_rise_71 rfl rfl ?_
      obtain ⟨h_3, e_2, hf⟩ := ov_s hf
      refine V_cvv (As := [.int x2]) (rest := []) (c_X5_begin (d := d) (Nat.le_trans (Nat.le_of_ble_eq_true rfl) hd) e_2 (rfO t_k0 (Nat.le_of_ble_eq_true rfl) rfl rfl)) ML_X0_74 MV_X5_begin rfl (rfO t_k0 (Nat.le_of_ble_eq_true rfl) rfl rfl) rfl rfl (Nat.le_of_ble_eq_true rfl) dX0_rise_72 ?_
      refine V_aload_n 0 dX0_rise_75 rfl rfl ?_
      refine V_getR F_X0_30 rfl t_k0 rfl dX0_rise_76 ?_
      refine V_iconst (v := 0) dX0_rise_79 (by decide) ?_
      obtain ⟨h_5, e_4, hf⟩ := ov_s hf
      refine V_cvv (As := [.int 0]) (rest := []) (c_X5_go (d := d) (Nat.le_trans (Nat.le_of_ble_eq_true rfl) hd) e_4 (rfO t_k0 (Nat.le_of_ble_eq_true rfl) rfl rfl)) ML_X0_77 MV_X5_go rfl (rfO t_k0 (Nat.le_of_ble_eq_true rfl) rfl rfl) rfl rfl (Nat.le_of_ble_eq_true rfl) dX0_rise_80 ?_
      refine V_iconst (v := 0) dX0_rise_83 (by decide) ?_
      refine V_istore (L' := [(4, .int 0), (0, .ref k0), (1, .int x1), (2, .int x2), (3, .int x3)]) dX0_rise_84 (Nat.le_of_ble_eq_true rfl) rfl rfl ?_
      refine V_sub [1, 2, 0] rfl ?_
      exact v_X0_rise_86 hd FU _ _ _ _ hf t_k0
    · have hf := if_s c_1 hf
      refine V_iconst (v := 0) dX0_rise_17 (by decide) ?_
      refine V_istore (L' := [(5, .int 0), (0, .ref k0), (1, .int x1), (2, .int x2), (3, .int x3), (4, .int x4)]) dX0_rise_18 (Nat.le_of_ble_eq_true rfl) rfl rfl ?_
      refine V_sub [1, 2, 3, 4, 5, 0] rfl ?_
      exact v_X0_rise_20 hd ih FU _ _ _ _ _ _ _ hf t_k0
set_option maxHeartbeats 4000000 in
set_option maxRecDepth 100000 in
theorem c_X0_rise {E : EV} {d : Nat} (hd : 5 + 1 ≤ d) {k0 : Nat} {x1 : Int32} {x2 : Int32} {x3 : Int32} {h : AH} {h0 : AH} (hf : f_X0_rise k0 x1 x2 x3 h = some h0) (t_k0 : kd k0 = (0, 0)) : Con E d K_X0_rise (ZV E h0) [.ref k0, .int x1, .int x2, .int x3] h := by
  obtain ⟨d, rfl⟩ : ∃ d', d = d' + 1 := ⟨d - 1, by omega⟩
  have hd := Nat.le_of_succ_le_succ hd
  refine Con.ofV rfl (Nat.le_of_ble_eq_true rfl) ?_
  unfold f_X0_rise at hf
  show V E (d + 1) K_X0_rise (ZV E h0) h [(0, .ref k0), (1, .int x1), (2, .int x2), (3, .int x3)] [] 0
  refine V_aload_n 0 dX0_rise_0 rfl rfl ?_
  refine V_getR F_X0_30 rfl t_k0 rfl dX0_rise_1 ?_
  refine V_iconst (v := 0) dX0_rise_4 (by decide) ?_
  obtain ⟨h_2, e_1, hf⟩ := ov_s hf
  refine V_cvv (As := [.int 0]) (rest := []) (c_X5_lowest (d := d) (Nat.le_trans (Nat.le_of_ble_eq_true rfl) hd) e_1 (rfO t_k0 (Nat.le_of_ble_eq_true rfl) rfl rfl)) ML_X0_65 MV_X5_lowest rfl (rfO t_k0 (Nat.le_of_ble_eq_true rfl) rfl rfl) rfl rfl (Nat.le_of_ble_eq_true rfl) dX0_rise_5 ?_
  refine V_iconst (v := 0) dX0_rise_8 (by decide) ?_
  refine V_istore (L' := [(4, .int 0), (0, .ref k0), (1, .int x1), (2, .int x2), (3, .int x3)]) dX0_rise_9 (Nat.le_of_ble_eq_true rfl) rfl rfl ?_
  refine V_sub [1, 2, 3, 4, 0] rfl ?_
  exact v_X0_rise_11 hd FU _ _ _ _ _ _ hf t_k0
theorem dX0_isRest_0 : decode cX0_isRest 0 = .ok (.iconst 0, 1) := by decide +kernel
theorem dX0_isRest_1 : decode cX0_isRest 1 = .ok (.istore_n 3, 1) := by decide +kernel
theorem dX0_isRest_2 : decode cX0_isRest 2 = .ok (.iload_n 3, 1) := by decide +kernel
theorem dX0_isRest_3 : decode cX0_isRest 3 = .ok (.aload_n 0, 1) := by decide +kernel
theorem dX0_isRest_4 : decode cX0_isRest 4 = .ok (.getfield 34, 3) := by decide +kernel
theorem dX0_isRest_7 : decode cX0_isRest 7 = .ok (.if_icmp .ge 76, 3) := by decide +kernel
theorem dX0_isRest_10 : decode cX0_isRest 10 = .ok (.iload_n 1, 1) := by decide +kernel
theorem dX0_isRest_11 : decode cX0_isRest 11 = .ok (.iconst 3, 1) := by decide +kernel
theorem dX0_isRest_12 : decode cX0_isRest 12 = .ok (.aload_n 0, 1) := by decide +kernel
theorem dX0_isRest_13 : decode cX0_isRest 13 = .ok (.iload_n 3, 1) := by decide +kernel
theorem dX0_isRest_14 : decode cX0_isRest 14 = .ok (.invokevirtual 58, 3) := by decide +kernel
theorem dX0_isRest_17 : decode cX0_isRest 17 = .ok (.ishl, 1) := by decide +kernel
theorem dX0_isRest_18 : decode cX0_isRest 18 = .ok (.iconst (-1), 1) := by decide +kernel
theorem dX0_isRest_19 : decode cX0_isRest 19 = .ok (.ixor, 1) := by decide +kernel
theorem dX0_isRest_20 : decode cX0_isRest 20 = .ok (.iand, 1) := by decide +kernel
theorem dX0_isRest_21 : decode cX0_isRest 21 = .ok (.istore 4, 2) := by decide +kernel
theorem dX0_isRest_23 : decode cX0_isRest 23 = .ok (.iconst 0, 1) := by decide +kernel
theorem dX0_isRest_24 : decode cX0_isRest 24 = .ok (.istore 5, 2) := by decide +kernel
theorem dX0_isRest_26 : decode cX0_isRest 26 = .ok (.iload 5, 2) := by decide +kernel
theorem dX0_isRest_28 : decode cX0_isRest 28 = .ok (.iload_n 2, 1) := by decide +kernel
theorem dX0_isRest_29 : decode cX0_isRest 29 = .ok (.if_icmp .gt 48, 3) := by decide +kernel
theorem dX0_isRest_32 : decode cX0_isRest 32 = .ok (.iload 4, 2) := by decide +kernel
theorem dX0_isRest_34 : decode cX0_isRest 34 = .ok (.iload 5, 2) := by decide +kernel
theorem dX0_isRest_36 : decode cX0_isRest 36 = .ok (.aload_n 0, 1) := by decide +kernel
theorem dX0_isRest_37 : decode cX0_isRest 37 = .ok (.iload_n 3, 1) := by decide +kernel
theorem dX0_isRest_38 : decode cX0_isRest 38 = .ok (.invokevirtual 58, 3) := by decide +kernel
theorem dX0_isRest_41 : decode cX0_isRest 41 = .ok (.ishl, 1) := by decide +kernel
theorem dX0_isRest_42 : decode cX0_isRest 42 = .ok (.ior, 1) := by decide +kernel
theorem dX0_isRest_43 : decode cX0_isRest 43 = .ok (.istore 6, 2) := by decide +kernel
theorem dX0_isRest_45 : decode cX0_isRest 45 = .ok (.aload_n 0, 1) := by decide +kernel
theorem dX0_isRest_46 : decode cX0_isRest 46 = .ok (.getfield 15, 3) := by decide +kernel
theorem dX0_isRest_49 : decode cX0_isRest 49 = .ok (.iload 6, 2) := by decide +kernel
theorem dX0_isRest_51 : decode cX0_isRest 51 = .ok (.iconst 4, 1) := by decide +kernel
theorem dX0_isRest_52 : decode cX0_isRest 52 = .ok (.imul, 1) := by decide +kernel
theorem dX0_isRest_53 : decode cX0_isRest 53 = .ok (.iload_n 3, 1) := by decide +kernel
theorem dX0_isRest_54 : decode cX0_isRest 54 = .ok (.iadd, 1) := by decide +kernel
theorem dX0_isRest_55 : decode cX0_isRest 55 = .ok (.iaload, 1) := by decide +kernel
theorem dX0_isRest_56 : decode cX0_isRest 56 = .ok (.aload_n 0, 1) := by decide +kernel
theorem dX0_isRest_57 : decode cX0_isRest 57 = .ok (.getfield 15, 3) := by decide +kernel
theorem dX0_isRest_60 : decode cX0_isRest 60 = .ok (.iload_n 1, 1) := by decide +kernel
theorem dX0_isRest_61 : decode cX0_isRest 61 = .ok (.iconst 4, 1) := by decide +kernel
theorem dX0_isRest_62 : decode cX0_isRest 62 = .ok (.imul, 1) := by decide +kernel
theorem dX0_isRest_63 : decode cX0_isRest 63 = .ok (.iload_n 3, 1) := by decide +kernel
theorem dX0_isRest_64 : decode cX0_isRest 64 = .ok (.iadd, 1) := by decide +kernel
theorem dX0_isRest_65 : decode cX0_isRest 65 = .ok (.iaload, 1) := by decide +kernel
theorem dX0_isRest_66 : decode cX0_isRest 66 = .ok (.if_icmp .le 5, 3) := by decide +kernel
theorem dX0_isRest_69 : decode cX0_isRest 69 = .ok (.iconst 0, 1) := by decide +kernel
theorem dX0_isRest_70 : decode cX0_isRest 70 = .ok (.ireturn, 1) := by decide +kernel
theorem dX0_isRest_71 : decode cX0_isRest 71 = .ok (.iinc 5 1, 3) := by decide +kernel
theorem dX0_isRest_74 : decode cX0_isRest 74 = .ok (.goto (-48), 3) := by decide +kernel
theorem dX0_isRest_77 : decode cX0_isRest 77 = .ok (.iinc 3 1, 3) := by decide +kernel
theorem dX0_isRest_80 : decode cX0_isRest 80 = .ok (.goto (-78), 3) := by decide +kernel
theorem dX0_isRest_83 : decode cX0_isRest 83 = .ok (.iconst 1, 1) := by decide +kernel
theorem dX0_isRest_84 : decode cX0_isRest 84 = .ok (.ireturn, 1) := by decide +kernel
def f_X0_isRest_26 (q2 : Nat → Int32 → Int32 → Int32 → AH → Option (Int32 × AH)) : Nat → Nat → Int32 → Int32 → Int32 → Int32 → Int32 → AH → Option (Int32 × AH)
  | 0, _, _, _, _, _, _, _ => none
  | n + 1, k0, x1, x2, x3, x4, x5, h =>
    if x2 < x5 then (
      nm (x3 + 1) fun x3_2 =>
      q2 k0 x1 x2 x3_2 h
    ) else (
      ob (f_X0_shiftOf k0 x3 h) fun r_6 h_5 =>
      nm ((x4 ||| (x5 <<< (r_6 &&& 31)))) fun x6_7 =>
      og (ix ((x6_7 * 4) + x3) (an (rf k0 6))) <|
      og (ix ((x1 * 4) + x3) (an (rf k0 6))) <|
      if (h_5.1 (rf k0 6) ((x6_7 * 4) + x3).toNatClampNeg) ≤ (h_5.1 (rf k0 6) ((x1 * 4) + x3).toNatClampNeg) then (
        nm (x5 + 1) fun x5_12 =>
        f_X0_isRest_26 q2 n k0 x1 x2 x3 x4 x5_12 h_5
      ) else (
        some (0, h_5)
      )
    )
def f_X0_isRest_2 : Nat → Nat → Int32 → Int32 → Int32 → AH → Option (Int32 × AH)
  | 0, _, _, _, _, _ => none
  | n + 1, k0, x1, x2, x3, h =>
    if (h.1 k0 5) ≤ x3 then (
      some (1, h)
    ) else (
      ob (f_X0_shiftOf k0 x3 h) fun r_4 h_3 =>
      nm ((x1 &&& (((3 : Int32) <<< (r_4 &&& 31)) ^^^ (-1)))) fun x4_5 =>
      f_X0_isRest_26 (f_X0_isRest_2 n) FU k0 x1 x2 x3 x4_5 0 h_3
    )
def f_X0_isRest (k0 : Nat) (x1 : Int32) (x2 : Int32) (h : AH) : Option (Int32 × AH) :=
  f_X0_isRest_2 FU k0 x1 x2 0 h
set_option maxHeartbeats 4000000 in
set_option maxRecDepth 100000 in
theorem v_X0_isRest_26 {E : EV} {d : Nat} (hd : 1 ≤ d) {r0 : Int32} {h0 : AH} {q2 : Nat → Int32 → Int32 → Int32 → AH → Option (Int32 × AH)} (cq2 : ∀ (k0 : Nat) (x1 : Int32) (x2 : Int32) (x3 : Int32) (h : AH), q2 k0 x1 x2 x3 h = some (r0, h0) → kd k0 = (0, 0) → V E (d + 1) K_X0_isRest (ZI E r0 h0) h [(0, .ref k0), (1, .int x1), (2, .int x2), (3, .int x3)] [] 2) : ∀ (n : Nat) (k0 : Nat) (x1 : Int32) (x2 : Int32) (x3 : Int32) (x4 : Int32) (x5 : Int32) (h : AH), f_X0_isRest_26 q2 n k0 x1 x2 x3 x4 x5 h = some (r0, h0) → kd k0 = (0, 0) → V E (d + 1) K_X0_isRest (ZI E r0 h0) h [(0, .ref k0), (1, .int x1), (2, .int x2), (3, .int x3), (4, .int x4), (5, .int x5)] [] 26 := by
  intro n
  induction n with
  | zero =>
    intro k0 x1 x2 x3 x4 x5 h hf
    rw [f_X0_isRest_26] at hf
    cases hf
  | succ n ih =>
    intro k0 x1 x2 x3 x4 x5 h hf t_k0
    rw [f_X0_isRest_26] at hf
    refine V_iload 5 dX0_isRest_26 rfl ?_
    refine V_iload_n 2 dX0_isRest_28 rfl rfl ?_
    refine V_ic_gt (tgt := 77) dX0_isRest_29 (by decide) (fun c_1 => ?_) (fun c_1 => ?_)
    · have hf := it_s c_1 hf
      obtain ⟨x3_2, e_3, hf⟩ := nm_s hf
      refine V_iinc (a := 1) (L' := [(3, .int x3_2), (0, .ref k0), (1, .int x1), (2, .int x2), (4, .int x4), (5, .int x5)]) 3 dX0_isRest_77 rfl (by decide) (Nat.le_of_ble_eq_true rfl) e_3 rfl ?_
      refine V_goto (tgt := 2) dX0_isRest_80 (by decide) ?_
      refine V_sub [1, 2, 3, 0] rfl ?_
      exact cq2 _ _ _ _ _ hf t_k0
    · have hf := if_s c_1 hf
      refine V_iload 4 dX0_isRest_32 rfl ?_
      refine V_iload 5 dX0_isRest_34 rfl ?_
      refine V_aload_n 0 dX0_isRest_36 rfl rfl ?_
      refine V_iload_n 3 dX0_isRest_37 rfl rfl ?_
      obtain ⟨r_6, h_5, e_4, hf⟩ := ob_s hf
      refine V_cvi (As := [.int x3]) (rest := [.int x5, .int x4]) (c_X0_shiftOf (d := d) (Nat.le_trans (Nat.le_of_ble_eq_true rfl) hd) e_4 t_k0) ML_X0_58 MV_X0_shiftOf rfl t_k0 rfl rfl (Nat.le_of_ble_eq_true rfl) dX0_isRest_38 ?_
      refine V_ishl dX0_isRest_41 ?_
      refine V_ior dX0_isRest_42 ?_
      obtain ⟨x6_7, e_8, hf⟩ := nm_s hf
      refine V_istore (L' := [(6, .int x6_7), (0, .ref k0), (1, .int x1), (2, .int x2), (3, .int x3), (4, .int x4), (5, .int x5)]) dX0_isRest_43 (Nat.le_of_ble_eq_true rfl) e_8 rfl ?_
      refine V_aload_n 1 dX0_isRest_45 rfl rfl ?_
      refine V_getR F_X0_15 rfl t_k0 rfl dX0_isRest_46 ?_
      refine V_iload 0 dX0_isRest_49 rfl ?_
      refine V_iconst (v := 4) dX0_isRest_51 (by decide) ?_
      refine V_imul dX0_isRest_52 ?_
      refine V_iload_n 4 dX0_isRest_53 rfl rfl ?_
      refine V_iadd dX0_isRest_54 ?_
      obtain ⟨b_9, hf⟩ := og_s hf
      refine V_iald (rfA t_k0 (Nat.le_of_ble_eq_true rfl) rfl rfl (by decide)) b_9 dX0_isRest_55 ?_
      refine V_aload_n 1 dX0_isRest_56 rfl rfl ?_
      refine V_getR F_X0_15 rfl t_k0 rfl dX0_isRest_57 ?_
      refine V_iload_n 2 dX0_isRest_60 rfl rfl ?_
      refine V_iconst (v := 4) dX0_isRest_61 (by decide) ?_
      refine V_imul dX0_isRest_62 ?_
      refine V_iload_n 4 dX0_isRest_63 rfl rfl ?_
      refine V_iadd dX0_isRest_64 ?_
      obtain ⟨b_10, hf⟩ := og_s hf
      refine V_iald (rfA t_k0 (Nat.le_of_ble_eq_true rfl) rfl rfl (by decide)) b_10 dX0_isRest_65 ?_
      refine V_ic_le (tgt := 71) dX0_isRest_66 (by decide) (fun c_11 => ?_) (fun c_11 => ?_)
      · have hf := it_s c_11 hf
        obtain ⟨x5_12, e_13, hf⟩ := nm_s hf
        refine V_iinc (a := 1) (L' := [(5, .int x5_12), (6, .int x6_7), (0, .ref k0), (1, .int x1), (2, .int x2), (3, .int x3), (4, .int x4)]) 6 dX0_isRest_71 rfl (by decide) (Nat.le_of_ble_eq_true rfl) e_13 rfl ?_
        refine V_goto (tgt := 26) dX0_isRest_74 (by decide) ?_
        refine V_sub [2, 3, 4, 5, 6, 0] rfl ?_
        exact ih _ _ _ _ _ _ _ hf t_k0
      · have hf := if_s c_11 hf
        refine V_iconst (v := 0) dX0_isRest_69 (by decide) ?_
        exact V_zret rfl (by decide) (so_s hf) dX0_isRest_70
set_option maxHeartbeats 4000000 in
set_option maxRecDepth 100000 in
theorem v_X0_isRest_2 {E : EV} {d : Nat} (hd : 1 ≤ d) {r0 : Int32} {h0 : AH} : ∀ (n : Nat) (k0 : Nat) (x1 : Int32) (x2 : Int32) (x3 : Int32) (h : AH), f_X0_isRest_2 n k0 x1 x2 x3 h = some (r0, h0) → kd k0 = (0, 0) → V E (d + 1) K_X0_isRest (ZI E r0 h0) h [(0, .ref k0), (1, .int x1), (2, .int x2), (3, .int x3)] [] 2 := by
  intro n
  induction n with
  | zero =>
    intro k0 x1 x2 x3 h hf
    rw [f_X0_isRest_2] at hf
    cases hf
  | succ n ih =>
    intro k0 x1 x2 x3 h hf t_k0
    rw [f_X0_isRest_2] at hf
    refine V_iload_n 3 dX0_isRest_2 rfl rfl ?_
    refine V_aload_n 0 dX0_isRest_3 rfl rfl ?_
    refine V_getI F_X0_34 rfl t_k0 rfl dX0_isRest_4 ?_
    refine V_ic_ge (tgt := 83) dX0_isRest_7 (by decide) (fun c_1 => ?_) (fun c_1 => ?_)
    · have hf := it_s c_1 hf
      refine V_iconst (v := 1) dX0_isRest_83 (by decide) ?_
      exact V_zret rfl (by decide) (so_s hf) dX0_isRest_84
    · have hf := if_s c_1 hf
      refine V_iload_n 1 dX0_isRest_10 rfl rfl ?_
      refine V_iconst (v := 3) dX0_isRest_11 (by decide) ?_
      refine V_aload_n 0 dX0_isRest_12 rfl rfl ?_
      refine V_iload_n 3 dX0_isRest_13 rfl rfl ?_
      obtain ⟨r_4, h_3, e_2, hf⟩ := ob_s hf
      refine V_cvi (As := [.int x3]) (rest := [.int 3, .int x1]) (c_X0_shiftOf (d := d) (Nat.le_trans (Nat.le_of_ble_eq_true rfl) hd) e_2 t_k0) ML_X0_58 MV_X0_shiftOf rfl t_k0 rfl rfl (Nat.le_of_ble_eq_true rfl) dX0_isRest_14 ?_
      refine V_ishl dX0_isRest_17 ?_
      refine V_iconst (v := (-1)) dX0_isRest_18 (by decide) ?_
      refine V_ixor dX0_isRest_19 ?_
      refine V_iand dX0_isRest_20 ?_
      obtain ⟨x4_5, e_6, hf⟩ := nm_s hf
      refine V_istore (L' := [(4, .int x4_5), (0, .ref k0), (1, .int x1), (2, .int x2), (3, .int x3)]) dX0_isRest_21 (Nat.le_of_ble_eq_true rfl) e_6 rfl ?_
      refine V_iconst (v := 0) dX0_isRest_23 (by decide) ?_
      refine V_istore (L' := [(5, .int 0), (4, .int x4_5), (0, .ref k0), (1, .int x1), (2, .int x2), (3, .int x3)]) dX0_isRest_24 (Nat.le_of_ble_eq_true rfl) rfl rfl ?_
      refine V_sub [2, 3, 4, 5, 1, 0] rfl ?_
      exact v_X0_isRest_26 hd ih FU _ _ _ _ _ _ _ hf t_k0
set_option maxHeartbeats 4000000 in
set_option maxRecDepth 100000 in
theorem c_X0_isRest {E : EV} {d : Nat} (hd : 1 + 1 ≤ d) {k0 : Nat} {x1 : Int32} {x2 : Int32} {h : AH} {r0 : Int32} {h0 : AH} (hf : f_X0_isRest k0 x1 x2 h = some (r0, h0)) (t_k0 : kd k0 = (0, 0)) : Con E d K_X0_isRest (ZI E r0 h0) [.ref k0, .int x1, .int x2] h := by
  obtain ⟨d, rfl⟩ : ∃ d', d = d' + 1 := ⟨d - 1, by omega⟩
  have hd := Nat.le_of_succ_le_succ hd
  refine Con.ofV rfl (Nat.le_of_ble_eq_true rfl) ?_
  unfold f_X0_isRest at hf
  show V E (d + 1) K_X0_isRest (ZI E r0 h0) h [(0, .ref k0), (1, .int x1), (2, .int x2)] [] 0
  refine V_iconst (v := 0) dX0_isRest_0 (by decide) ?_
  refine V_istore_n (L' := [(3, .int 0), (0, .ref k0), (1, .int x1), (2, .int x2)]) dX0_isRest_1 rfl (Nat.le_of_ble_eq_true rfl) rfl rfl ?_
  refine V_sub [1, 2, 3, 0] rfl ?_
  exact v_X0_isRest_2 hd FU _ _ _ _ _ hf t_k0
theorem dX0_findRest_0 : decode cX0_findRest 0 = .ok (.iconst 1, 1) := by decide +kernel
theorem dX0_findRest_1 : decode cX0_findRest 1 = .ok (.iconst 2, 1) := by decide +kernel
theorem dX0_findRest_2 : decode cX0_findRest 2 = .ok (.aload_n 0, 1) := by decide +kernel
theorem dX0_findRest_3 : decode cX0_findRest 3 = .ok (.getfield 34, 3) := by decide +kernel
theorem dX0_findRest_6 : decode cX0_findRest 6 = .ok (.iconst 4, 1) := by decide +kernel
theorem dX0_findRest_7 : decode cX0_findRest 7 = .ok (.invokestatic 42, 3) := by decide +kernel
theorem dX0_findRest_10 : decode cX0_findRest 10 = .ok (.imul, 1) := by decide +kernel
theorem dX0_findRest_11 : decode cX0_findRest 11 = .ok (.ishl, 1) := by decide +kernel
theorem dX0_findRest_12 : decode cX0_findRest 12 = .ok (.istore 4, 2) := by decide +kernel
theorem dX0_findRest_14 : decode cX0_findRest 14 = .ok (.iconst 0, 1) := by decide +kernel
theorem dX0_findRest_15 : decode cX0_findRest 15 = .ok (.istore 5, 2) := by decide +kernel
theorem dX0_findRest_17 : decode cX0_findRest 17 = .ok (.iload 5, 2) := by decide +kernel
theorem dX0_findRest_19 : decode cX0_findRest 19 = .ok (.iload 4, 2) := by decide +kernel
theorem dX0_findRest_21 : decode cX0_findRest 21 = .ok (.if_icmp .ge 27, 3) := by decide +kernel
theorem dX0_findRest_24 : decode cX0_findRest 24 = .ok (.aload_n 0, 1) := by decide +kernel
theorem dX0_findRest_25 : decode cX0_findRest 25 = .ok (.iload 5, 2) := by decide +kernel
theorem dX0_findRest_27 : decode cX0_findRest 27 = .ok (.iload_n 2, 1) := by decide +kernel
theorem dX0_findRest_28 : decode cX0_findRest 28 = .ok (.invokevirtual 48, 3) := by decide +kernel
theorem dX0_findRest_31 : decode cX0_findRest 31 = .ok (.ifCond .eq 11, 3) := by decide +kernel
theorem dX0_findRest_34 : decode cX0_findRest 34 = .ok (.aload_n 0, 1) := by decide +kernel
theorem dX0_findRest_35 : decode cX0_findRest 35 = .ok (.iload 5, 2) := by decide +kernel
theorem dX0_findRest_37 : decode cX0_findRest 37 = .ok (.iload_n 1, 1) := by decide +kernel
theorem dX0_findRest_38 : decode cX0_findRest 38 = .ok (.iload_n 2, 1) := by decide +kernel
theorem dX0_findRest_39 : decode cX0_findRest 39 = .ok (.invokevirtual 51, 3) := by decide +kernel
theorem dX0_findRest_42 : decode cX0_findRest 42 = .ok (.iinc 5 1, 3) := by decide +kernel
theorem dX0_findRest_45 : decode cX0_findRest 45 = .ok (.goto (-28), 3) := by decide +kernel
theorem dX0_findRest_48 : decode cX0_findRest 48 = .ok (.iconst 0, 1) := by decide +kernel
theorem dX0_findRest_49 : decode cX0_findRest 49 = .ok (.istore 5, 2) := by decide +kernel
theorem dX0_findRest_51 : decode cX0_findRest 51 = .ok (.iconst 0, 1) := by decide +kernel
theorem dX0_findRest_52 : decode cX0_findRest 52 = .ok (.istore 6, 2) := by decide +kernel
theorem dX0_findRest_54 : decode cX0_findRest 54 = .ok (.iload 6, 2) := by decide +kernel
theorem dX0_findRest_56 : decode cX0_findRest 56 = .ok (.iload 4, 2) := by decide +kernel
theorem dX0_findRest_58 : decode cX0_findRest 58 = .ok (.if_icmp .ge 41, 3) := by decide +kernel
theorem dX0_findRest_61 : decode cX0_findRest 61 = .ok (.aload_n 0, 1) := by decide +kernel
theorem dX0_findRest_62 : decode cX0_findRest 62 = .ok (.iload 6, 2) := by decide +kernel
theorem dX0_findRest_64 : decode cX0_findRest 64 = .ok (.iload_n 2, 1) := by decide +kernel
theorem dX0_findRest_65 : decode cX0_findRest 65 = .ok (.invokevirtual 48, 3) := by decide +kernel
theorem dX0_findRest_68 : decode cX0_findRest 68 = .ok (.ifCond .eq 25, 3) := by decide +kernel
theorem dX0_findRest_71 : decode cX0_findRest 71 = .ok (.aload_n 0, 1) := by decide +kernel
theorem dX0_findRest_72 : decode cX0_findRest 72 = .ok (.iload 6, 2) := by decide +kernel
theorem dX0_findRest_74 : decode cX0_findRest 74 = .ok (.iload_n 2, 1) := by decide +kernel
theorem dX0_findRest_75 : decode cX0_findRest 75 = .ok (.invokevirtual 55, 3) := by decide +kernel
theorem dX0_findRest_78 : decode cX0_findRest 78 = .ok (.ifCond .eq 15, 3) := by decide +kernel
theorem dX0_findRest_81 : decode cX0_findRest 81 = .ok (.iload 5, 2) := by decide +kernel
theorem dX0_findRest_83 : decode cX0_findRest 83 = .ok (.iload_n 3, 1) := by decide +kernel
theorem dX0_findRest_84 : decode cX0_findRest 84 = .ok (.if_icmp .ne 6, 3) := by decide +kernel
theorem dX0_findRest_87 : decode cX0_findRest 87 = .ok (.iload 6, 2) := by decide +kernel
theorem dX0_findRest_89 : decode cX0_findRest 89 = .ok (.ireturn, 1) := by decide +kernel
theorem dX0_findRest_90 : decode cX0_findRest 90 = .ok (.iinc 5 1, 3) := by decide +kernel
theorem dX0_findRest_93 : decode cX0_findRest 93 = .ok (.iinc 6 1, 3) := by decide +kernel
theorem dX0_findRest_96 : decode cX0_findRest 96 = .ok (.goto (-42), 3) := by decide +kernel
theorem dX0_findRest_99 : decode cX0_findRest 99 = .ok (.iload_n 3, 1) := by decide +kernel
theorem dX0_findRest_100 : decode cX0_findRest 100 = .ok (.iconst (-1), 1) := by decide +kernel
theorem dX0_findRest_101 : decode cX0_findRest 101 = .ok (.if_icmp .ne 8, 3) := by decide +kernel
theorem dX0_findRest_104 : decode cX0_findRest 104 = .ok (.iload 5, 2) := by decide +kernel
theorem dX0_findRest_106 : decode cX0_findRest 106 = .ok (.goto 4, 3) := by decide +kernel
theorem dX0_findRest_109 : decode cX0_findRest 109 = .ok (.iconst (-1), 1) := by decide +kernel
theorem dX0_findRest_110 : decode cX0_findRest 110 = .ok (.ireturn, 1) := by decide +kernel
theorem ML_X0_48 : MLk RX0 48 yX0_isTold := Or.inl ml_X0_48
theorem MV_X0_isTold : MVk K_X0_isTold 2 0 := ⟨⟨cd_X0_isTold, in_X0, ⟨by decide, by decide, by decide +kernel⟩, by decide⟩, im_X0_isTold, se_X0_isTold, _, _, rfl⟩
theorem ML_X0_55 : MLk RX0 55 yX0_isRest := Or.inl ml_X0_55
theorem MV_X0_isRest : MVk K_X0_isRest 2 0 := ⟨⟨cd_X0_isRest, in_X0, ⟨by decide, by decide, by decide +kernel⟩, by decide⟩, im_X0_isRest, se_X0_isRest, _, _, rfl⟩
theorem ML_X0_51 : MLk RX0 51 yX0_rise := Or.inl ml_X0_51
theorem MV_X0_rise : MVk K_X0_rise 3 0 := ⟨⟨cd_X0_rise, in_X0, ⟨by decide, by decide, by decide +kernel⟩, by decide⟩, im_X0_rise, se_X0_rise, _, _, rfl⟩
def f_X0_findRest_42 (q17 : Nat → Int32 → Int32 → Int32 → Int32 → Int32 → AH → Option (Int32 × AH)) (k0 : Nat) (x1 : Int32) (x2 : Int32) (x3 : Int32) (x4 : Int32) (x5 : Int32) (h : AH) : Option (Int32 × AH) :=
  nm (x5 + 1) fun x5_1 =>
  q17 k0 x1 x2 x3 x4 x5_1 h
def f_X0_findRest_93 (q54 : Nat → Int32 → Int32 → Int32 → Int32 → Int32 → AH → Option (Int32 × AH)) (k0 : Nat) (x2 : Int32) (x3 : Int32) (x4 : Int32) (x5 : Int32) (x6 : Int32) (h : AH) : Option (Int32 × AH) :=
  nm (x6 + 1) fun x6_1 =>
  q54 k0 x2 x3 x4 x5 x6_1 h
def f_X0_findRest_110 (s0 : Int32) (h : AH) : Option (Int32 × AH) :=
  some (s0, h)
def f_X0_findRest_54 : Nat → Nat → Int32 → Int32 → Int32 → Int32 → Int32 → AH → Option (Int32 × AH)
  | 0, _, _, _, _, _, _, _ => none
  | n + 1, k0, x2, x3, x4, x5, x6, h =>
    if x4 ≤ x6 then (
      if x3 = (-1) then (
        f_X0_findRest_110 x5 h
      ) else (
        f_X0_findRest_110 (-1) h
      )
    ) else (
      ob (f_X0_isTold k0 x6 x2 h) fun r_5 h_4 =>
      if r_5 = 0 then (
        f_X0_findRest_93 (f_X0_findRest_54 n) k0 x2 x3 x4 x5 x6 h_4
      ) else (
        ob (f_X0_isRest k0 x6 x2 h_4) fun r_9 h_8 =>
        if r_9 = 0 then (
          f_X0_findRest_93 (f_X0_findRest_54 n) k0 x2 x3 x4 x5 x6 h_8
        ) else (
          if x5 = x3 then (
            some (x6, h_8)
          ) else (
            nm (x5 + 1) fun x5_12 =>
            f_X0_findRest_93 (f_X0_findRest_54 n) k0 x2 x3 x4 x5_12 x6 h_8
          )
        )
      )
    )
def f_X0_findRest_17 : Nat → Nat → Int32 → Int32 → Int32 → Int32 → Int32 → AH → Option (Int32 × AH)
  | 0, _, _, _, _, _, _, _ => none
  | n + 1, k0, x1, x2, x3, x4, x5, h =>
    if x4 ≤ x5 then (
      f_X0_findRest_54 FU k0 x2 x3 x4 0 0 h
    ) else (
      ob (f_X0_isTold k0 x5 x2 h) fun r_4 h_3 =>
      if r_4 = 0 then (
        f_X0_findRest_42 (f_X0_findRest_17 n) k0 x1 x2 x3 x4 x5 h_3
      ) else (
        ov (f_X0_rise k0 x5 x1 x2 h_3) fun h_7 =>
        f_X0_findRest_42 (f_X0_findRest_17 n) k0 x1 x2 x3 x4 x5 h_7
      )
    )
def f_X0_findRest (k0 : Nat) (x1 : Int32) (x2 : Int32) (x3 : Int32) (h : AH) : Option (Int32 × AH) :=
  nm (((1 : Int32) <<< ((2 * (if 4 < (h.1 k0 5) then 4 else (h.1 k0 5))) &&& 31))) fun x4_1 =>
  f_X0_findRest_17 FU k0 x1 x2 x3 x4_1 0 h
set_option maxHeartbeats 4000000 in
set_option maxRecDepth 100000 in
theorem v_X0_findRest_42 {E : EV} {d : Nat} (hd : 6 ≤ d) {r0 : Int32} {h0 : AH} {q17 : Nat → Int32 → Int32 → Int32 → Int32 → Int32 → AH → Option (Int32 × AH)} (cq17 : ∀ (k0 : Nat) (x1 : Int32) (x2 : Int32) (x3 : Int32) (x4 : Int32) (x5 : Int32) (h : AH), q17 k0 x1 x2 x3 x4 x5 h = some (r0, h0) → kd k0 = (0, 0) → V E (d + 1) K_X0_findRest (ZI E r0 h0) h [(0, .ref k0), (1, .int x1), (2, .int x2), (3, .int x3), (4, .int x4), (5, .int x5)] [] 17) {k0 : Nat} {x1 : Int32} {x2 : Int32} {x3 : Int32} {x4 : Int32} {x5 : Int32} {h : AH} (hf : f_X0_findRest_42 q17 k0 x1 x2 x3 x4 x5 h = some (r0, h0)) (t_k0 : kd k0 = (0, 0)) : V E (d + 1) K_X0_findRest (ZI E r0 h0) h [(0, .ref k0), (1, .int x1), (2, .int x2), (3, .int x3), (4, .int x4), (5, .int x5)] [] 42 := by
  unfold f_X0_findRest_42 at hf
  obtain ⟨x5_1, e_2, hf⟩ := nm_s hf
  refine V_iinc (a := 1) (L' := [(5, .int x5_1), (0, .ref k0), (1, .int x1), (2, .int x2), (3, .int x3), (4, .int x4)]) 5 dX0_findRest_42 rfl (by decide) (Nat.le_of_ble_eq_true rfl) e_2 rfl ?_
  refine V_goto (tgt := 17) dX0_findRest_45 (by decide) ?_
  refine V_sub [1, 2, 3, 4, 5, 0] rfl ?_
  exact cq17 _ _ _ _ _ _ _ hf t_k0
set_option maxHeartbeats 4000000 in
set_option maxRecDepth 100000 in
theorem v_X0_findRest_93 {E : EV} {d : Nat} (hd : 6 ≤ d) {r0 : Int32} {h0 : AH} {q54 : Nat → Int32 → Int32 → Int32 → Int32 → Int32 → AH → Option (Int32 × AH)} (cq54 : ∀ (k0 : Nat) (x2 : Int32) (x3 : Int32) (x4 : Int32) (x5 : Int32) (x6 : Int32) (h : AH), q54 k0 x2 x3 x4 x5 x6 h = some (r0, h0) → kd k0 = (0, 0) → V E (d + 1) K_X0_findRest (ZI E r0 h0) h [(0, .ref k0), (2, .int x2), (3, .int x3), (4, .int x4), (5, .int x5), (6, .int x6)] [] 54) {k0 : Nat} {x2 : Int32} {x3 : Int32} {x4 : Int32} {x5 : Int32} {x6 : Int32} {h : AH} (hf : f_X0_findRest_93 q54 k0 x2 x3 x4 x5 x6 h = some (r0, h0)) (t_k0 : kd k0 = (0, 0)) : V E (d + 1) K_X0_findRest (ZI E r0 h0) h [(0, .ref k0), (2, .int x2), (3, .int x3), (4, .int x4), (5, .int x5), (6, .int x6)] [] 93 := by
  unfold f_X0_findRest_93 at hf
  obtain ⟨x6_1, e_2, hf⟩ := nm_s hf
  refine V_iinc (a := 1) (L' := [(6, .int x6_1), (0, .ref k0), (2, .int x2), (3, .int x3), (4, .int x4), (5, .int x5)]) 5 dX0_findRest_93 rfl (by decide) (Nat.le_of_ble_eq_true rfl) e_2 rfl ?_
  refine V_goto (tgt := 54) dX0_findRest_96 (by decide) ?_
  refine V_sub [1, 2, 3, 4, 5, 0] rfl ?_
  exact cq54 _ _ _ _ _ _ _ hf t_k0
set_option maxHeartbeats 4000000 in
set_option maxRecDepth 100000 in
theorem v_X0_findRest_110 {E : EV} {d : Nat} (hd : 6 ≤ d) {r0 : Int32} {h0 : AH} {s0 : Int32} {h : AH} (hf : f_X0_findRest_110 s0 h = some (r0, h0)) : V E (d + 1) K_X0_findRest (ZI E r0 h0) h [] [.int s0] 110 := by
  unfold f_X0_findRest_110 at hf
  exact V_iret rfl (so_s hf) dX0_findRest_110
set_option maxHeartbeats 4000000 in
set_option maxRecDepth 100000 in
theorem v_X0_findRest_54 {E : EV} {d : Nat} (hd : 6 ≤ d) {r0 : Int32} {h0 : AH} : ∀ (n : Nat) (k0 : Nat) (x2 : Int32) (x3 : Int32) (x4 : Int32) (x5 : Int32) (x6 : Int32) (h : AH), f_X0_findRest_54 n k0 x2 x3 x4 x5 x6 h = some (r0, h0) → kd k0 = (0, 0) → V E (d + 1) K_X0_findRest (ZI E r0 h0) h [(0, .ref k0), (2, .int x2), (3, .int x3), (4, .int x4), (5, .int x5), (6, .int x6)] [] 54 := by
  intro n
  induction n with
  | zero =>
    intro k0 x2 x3 x4 x5 x6 h hf
    rw [f_X0_findRest_54] at hf
    cases hf
  | succ n ih =>
    intro k0 x2 x3 x4 x5 x6 h hf t_k0
    rw [f_X0_findRest_54] at hf
    refine V_iload 5 dX0_findRest_54 rfl ?_
    refine V_iload 3 dX0_findRest_56 rfl ?_
    refine V_ic_ge (tgt := 99) dX0_findRest_58 (by decide) (fun c_1 => ?_) (fun c_1 => ?_)
    · have hf := it_s c_1 hf
      refine V_iload_n 2 dX0_findRest_99 rfl rfl ?_
      refine V_iconst (v := (-1)) dX0_findRest_100 (by decide) ?_
      refine V_ic_ne (tgt := 109) dX0_findRest_101 (by decide) (fun c_2 => ?_) (fun c_2 => ?_)
      · have hf := if_s c_2 hf
        refine V_iconst (v := (-1)) dX0_findRest_109 (by decide) ?_
        refine V_sub [] rfl ?_
        exact v_X0_findRest_110 hd hf
      · have hf := it_s c_2 hf
        refine V_iload 4 dX0_findRest_104 rfl ?_
        refine V_goto (tgt := 110) dX0_findRest_106 (by decide) ?_
        refine V_sub [] rfl ?_
        exact v_X0_findRest_110 hd hf
    · have hf := if_s c_1 hf
      refine V_aload_n 0 dX0_findRest_61 rfl rfl ?_
      refine V_iload 5 dX0_findRest_62 rfl ?_
      refine V_iload_n 1 dX0_findRest_64 rfl rfl ?_
      obtain ⟨r_5, h_4, e_3, hf⟩ := ob_s hf
      refine V_cvi (As := [.int x6, .int x2]) (rest := []) (c_X0_isTold (d := d) (Nat.le_trans (Nat.le_of_ble_eq_true rfl) hd) e_3 t_k0) ML_X0_48 MV_X0_isTold rfl t_k0 rfl rfl (Nat.le_of_ble_eq_true rfl) dX0_findRest_65 ?_
      refine V_if_eq (tgt := 93) dX0_findRest_68 (by decide) (fun c_6 => ?_) (fun c_6 => ?_)
      · have hf := it_s c_6 hf
        exact v_X0_findRest_93 hd ih hf t_k0
      · have hf := if_s c_6 hf
        refine V_aload_n 0 dX0_findRest_71 rfl rfl ?_
        refine V_iload 5 dX0_findRest_72 rfl ?_
        refine V_iload_n 1 dX0_findRest_74 rfl rfl ?_
        obtain ⟨r_9, h_8, e_7, hf⟩ := ob_s hf
        refine V_cvi (As := [.int x6, .int x2]) (rest := []) (c_X0_isRest (d := d) (Nat.le_trans (Nat.le_of_ble_eq_true rfl) hd) e_7 t_k0) ML_X0_55 MV_X0_isRest rfl t_k0 rfl rfl (Nat.le_of_ble_eq_true rfl) dX0_findRest_75 ?_
        refine V_if_eq (tgt := 93) dX0_findRest_78 (by decide) (fun c_10 => ?_) (fun c_10 => ?_)
        · have hf := it_s c_10 hf
          exact v_X0_findRest_93 hd ih hf t_k0
        · have hf := if_s c_10 hf
          refine V_iload 4 dX0_findRest_81 rfl ?_
          refine V_iload_n 2 dX0_findRest_83 rfl rfl ?_
          refine V_ic_ne (tgt := 90) dX0_findRest_84 (by decide) (fun c_11 => ?_) (fun c_11 => ?_)
          · have hf := if_s c_11 hf
            obtain ⟨x5_12, e_13, hf⟩ := nm_s hf
            refine V_iinc (a := 1) (L' := [(5, .int x5_12), (0, .ref k0), (2, .int x2), (3, .int x3), (4, .int x4), (6, .int x6)]) 4 dX0_findRest_90 rfl (by decide) (Nat.le_of_ble_eq_true rfl) e_13 rfl ?_
            refine V_sub [1, 2, 3, 4, 0, 5] rfl ?_
            exact v_X0_findRest_93 hd ih hf t_k0
          · have hf := it_s c_11 hf
            refine V_iload 5 dX0_findRest_87 rfl ?_
            exact V_iret rfl (so_s hf) dX0_findRest_89
set_option maxHeartbeats 4000000 in
set_option maxRecDepth 100000 in
theorem v_X0_findRest_17 {E : EV} {d : Nat} (hd : 6 ≤ d) {r0 : Int32} {h0 : AH} : ∀ (n : Nat) (k0 : Nat) (x1 : Int32) (x2 : Int32) (x3 : Int32) (x4 : Int32) (x5 : Int32) (h : AH), f_X0_findRest_17 n k0 x1 x2 x3 x4 x5 h = some (r0, h0) → kd k0 = (0, 0) → V E (d + 1) K_X0_findRest (ZI E r0 h0) h [(0, .ref k0), (1, .int x1), (2, .int x2), (3, .int x3), (4, .int x4), (5, .int x5)] [] 17 := by
  intro n
  induction n with
  | zero =>
    intro k0 x1 x2 x3 x4 x5 h hf
    rw [f_X0_findRest_17] at hf
    cases hf
  | succ n ih =>
    intro k0 x1 x2 x3 x4 x5 h hf t_k0
    rw [f_X0_findRest_17] at hf
    refine V_iload 5 dX0_findRest_17 rfl ?_
    refine V_iload 4 dX0_findRest_19 rfl ?_
    refine V_ic_ge (tgt := 48) dX0_findRest_21 (by decide) (fun c_1 => ?_) (fun c_1 => ?_)
    · have hf := it_s c_1 hf
      refine V_iconst (v := 0) dX0_findRest_48 (by decide) ?_
      refine V_istore (L' := [(5, .int 0), (0, .ref k0), (1, .int x1), (2, .int x2), (3, .int x3), (4, .int x4)]) dX0_findRest_49 (Nat.le_of_ble_eq_true rfl) rfl rfl ?_
      refine V_iconst (v := 0) dX0_findRest_51 (by decide) ?_
      refine V_istore (L' := [(6, .int 0), (5, .int 0), (0, .ref k0), (1, .int x1), (2, .int x2), (3, .int x3), (4, .int x4)]) dX0_findRest_52 (Nat.le_of_ble_eq_true rfl) rfl rfl ?_
      refine V_sub [2, 4, 5, 6, 1, 0] rfl ?_
      exact v_X0_findRest_54 hd FU _ _ _ _ _ _ _ hf t_k0
    · have hf := if_s c_1 hf
      refine V_aload_n 0 dX0_findRest_24 rfl rfl ?_
      refine V_iload 5 dX0_findRest_25 rfl ?_
      refine V_iload_n 2 dX0_findRest_27 rfl rfl ?_
      obtain ⟨r_4, h_3, e_2, hf⟩ := ob_s hf
      refine V_cvi (As := [.int x5, .int x2]) (rest := []) (c_X0_isTold (d := d) (Nat.le_trans (Nat.le_of_ble_eq_true rfl) hd) e_2 t_k0) ML_X0_48 MV_X0_isTold rfl t_k0 rfl rfl (Nat.le_of_ble_eq_true rfl) dX0_findRest_28 ?_
      refine V_if_eq (tgt := 42) dX0_findRest_31 (by decide) (fun c_5 => ?_) (fun c_5 => ?_)
      · have hf := it_s c_5 hf
        exact v_X0_findRest_42 hd ih hf t_k0
      · have hf := if_s c_5 hf
        refine V_aload_n 0 dX0_findRest_34 rfl rfl ?_
        refine V_iload 5 dX0_findRest_35 rfl ?_
        refine V_iload_n 1 dX0_findRest_37 rfl rfl ?_
        refine V_iload_n 2 dX0_findRest_38 rfl rfl ?_
        obtain ⟨h_7, e_6, hf⟩ := ov_s hf
        refine V_cvv (As := [.int x5, .int x1, .int x2]) (rest := []) (c_X0_rise (d := d) (Nat.le_trans (Nat.le_of_ble_eq_true rfl) hd) e_6 t_k0) ML_X0_51 MV_X0_rise rfl t_k0 rfl rfl (Nat.le_of_ble_eq_true rfl) dX0_findRest_39 ?_
        exact v_X0_findRest_42 hd ih hf t_k0
set_option maxHeartbeats 4000000 in
set_option maxRecDepth 100000 in
theorem c_X0_findRest {E : EV} {d : Nat} (hd : 6 + 1 ≤ d) {k0 : Nat} {x1 : Int32} {x2 : Int32} {x3 : Int32} {h : AH} {r0 : Int32} {h0 : AH} (hf : f_X0_findRest k0 x1 x2 x3 h = some (r0, h0)) (t_k0 : kd k0 = (0, 0)) : Con E d K_X0_findRest (ZI E r0 h0) [.ref k0, .int x1, .int x2, .int x3] h := by
  obtain ⟨d, rfl⟩ : ∃ d', d = d' + 1 := ⟨d - 1, by omega⟩
  have hd := Nat.le_of_succ_le_succ hd
  refine Con.ofV rfl (Nat.le_of_ble_eq_true rfl) ?_
  unfold f_X0_findRest at hf
  show V E (d + 1) K_X0_findRest (ZI E r0 h0) h [(0, .ref k0), (1, .int x1), (2, .int x2), (3, .int x3)] [] 0
  refine V_iconst (v := 1) dX0_findRest_0 (by decide) ?_
  refine V_iconst (v := 2) dX0_findRest_1 (by decide) ?_
  refine V_aload_n 0 dX0_findRest_2 rfl rfl ?_
  refine V_getI F_X0_34 rfl t_k0 rfl dX0_findRest_3 ?_
  refine V_iconst (v := 4) dX0_findRest_6 (by decide) ?_
  refine V_mmin ml_X0_42 rfl (Nat.le_of_ble_eq_true rfl) dX0_findRest_7 ?_
  refine V_imul dX0_findRest_10 ?_
  refine V_ishl dX0_findRest_11 ?_
  obtain ⟨x4_1, e_2, hf⟩ := nm_s hf
  refine V_istore (L' := [(4, .int x4_1), (0, .ref k0), (1, .int x1), (2, .int x2), (3, .int x3)]) dX0_findRest_12 (Nat.le_of_ble_eq_true rfl) e_2 rfl ?_
  refine V_iconst (v := 0) dX0_findRest_14 (by decide) ?_
  refine V_istore (L' := [(5, .int 0), (4, .int x4_1), (0, .ref k0), (1, .int x1), (2, .int x2), (3, .int x3)]) dX0_findRest_15 (Nat.le_of_ble_eq_true rfl) rfl rfl ?_
  refine V_sub [2, 3, 4, 5, 1, 0] rfl ?_
  exact v_X0_findRest_17 hd FU _ _ _ _ _ _ _ hf t_k0
theorem dX0_seat_0 : decode cX0_seat 0 = .ok (.aload_n 0, 1) := by decide +kernel
theorem dX0_seat_1 : decode cX0_seat 1 = .ok (.iconst 0, 1) := by decide +kernel
theorem dX0_seat_2 : decode cX0_seat 2 = .ok (.putfield 34, 3) := by decide +kernel
theorem dX0_seat_5 : decode cX0_seat 5 = .ok (.iconst 0, 1) := by decide +kernel
theorem dX0_seat_6 : decode cX0_seat 6 = .ok (.istore_n 2, 1) := by decide +kernel
theorem dX0_seat_7 : decode cX0_seat 7 = .ok (.iload_n 2, 1) := by decide +kernel
theorem dX0_seat_8 : decode cX0_seat 8 = .ok (.bipush 6, 2) := by decide +kernel
theorem dX0_seat_10 : decode cX0_seat 10 = .ok (.if_icmp .ge 37, 3) := by decide +kernel
theorem dX0_seat_13 : decode cX0_seat 13 = .ok (.iload_n 1, 1) := by decide +kernel
theorem dX0_seat_14 : decode cX0_seat 14 = .ok (.iload_n 2, 1) := by decide +kernel
theorem dX0_seat_15 : decode cX0_seat 15 = .ok (.invokestatic 38, 3) := by decide +kernel
theorem dX0_seat_18 : decode cX0_seat 18 = .ok (.ifCond .eq 23, 3) := by decide +kernel
theorem dX0_seat_21 : decode cX0_seat 21 = .ok (.aload_n 0, 1) := by decide +kernel
theorem dX0_seat_22 : decode cX0_seat 22 = .ok (.getfield 9, 3) := by decide +kernel
theorem dX0_seat_25 : decode cX0_seat 25 = .ok (.aload_n 0, 1) := by decide +kernel
theorem dX0_seat_26 : decode cX0_seat 26 = .ok (.getfield 34, 3) := by decide +kernel
theorem dX0_seat_29 : decode cX0_seat 29 = .ok (.iload_n 2, 1) := by decide +kernel
theorem dX0_seat_30 : decode cX0_seat 30 = .ok (.iastore, 1) := by decide +kernel
theorem dX0_seat_31 : decode cX0_seat 31 = .ok (.aload_n 0, 1) := by decide +kernel
theorem dX0_seat_32 : decode cX0_seat 32 = .ok (.dup, 1) := by decide +kernel
theorem dX0_seat_33 : decode cX0_seat 33 = .ok (.getfield 34, 3) := by decide +kernel
theorem dX0_seat_36 : decode cX0_seat 36 = .ok (.iconst 1, 1) := by decide +kernel
theorem dX0_seat_37 : decode cX0_seat 37 = .ok (.iadd, 1) := by decide +kernel
theorem dX0_seat_38 : decode cX0_seat 38 = .ok (.putfield 34, 3) := by decide +kernel
theorem dX0_seat_41 : decode cX0_seat 41 = .ok (.iinc 2 1, 3) := by decide +kernel
theorem dX0_seat_44 : decode cX0_seat 44 = .ok (.goto (-37), 3) := by decide +kernel
theorem dX0_seat_47 : decode cX0_seat 47 = .ok (.return_, 1) := by decide +kernel
theorem P_X0_34 : FPk RX0 34 0 5 .int := ⟨RX0, TX0, 7, tyX0, rfl, rfl, iw_X0, by decide, Or.inl fl_X0_34, tyX0_ok, nmX0, rfl, by decide +kernel⟩
def f_X0_seat_41 (q7 : Nat → Int32 → Int32 → AH → Option AH) (k0 : Nat) (x1 : Int32) (x2 : Int32) (h : AH) : Option AH :=
  nm (x2 + 1) fun x2_1 =>
  q7 k0 x1 x2_1 h
def f_X0_seat_7 : Nat → Nat → Int32 → Int32 → AH → Option AH
  | 0, _, _, _, _ => none
  | n + 1, k0, x1, x2, h =>
    if 6 ≤ x2 then (
      some h
    ) else (
      ob (f_X11_isIn x1 x2 h) fun r_4 h_3 =>
      if r_4 = 0 then (
        f_X0_seat_41 (f_X0_seat_7 n) k0 x1 x2 h_3
      ) else (
        og (ix (h_3.1 k0 5) (an (rf k0 4))) <|
        nm (sI h_3 (rf k0 4) (h_3.1 k0 5).toNatClampNeg x2) fun h_7 =>
        nm (sI h_7 k0 5 ((h_7.1 k0 5) + 1)) fun h_9 =>
        f_X0_seat_41 (f_X0_seat_7 n) k0 x1 x2 h_9
      )
    )
def f_X0_seat (k0 : Nat) (x1 : Int32) (h : AH) : Option AH :=
  nm (sI h k0 5 0) fun h_1 =>
  f_X0_seat_7 FU k0 x1 0 h_1
set_option maxHeartbeats 4000000 in
set_option maxRecDepth 100000 in
theorem v_X0_seat_41 {E : EV} {d : Nat} (hd : 1 ≤ d) {h0 : AH} {q7 : Nat → Int32 → Int32 → AH → Option AH} (cq7 : ∀ (k0 : Nat) (x1 : Int32) (x2 : Int32) (h : AH), q7 k0 x1 x2 h = some h0 → kd k0 = (0, 0) → V E (d + 1) K_X0_seat (ZV E h0) h [(0, .ref k0), (1, .int x1), (2, .int x2)] [] 7) {k0 : Nat} {x1 : Int32} {x2 : Int32} {h : AH} (hf : f_X0_seat_41 q7 k0 x1 x2 h = some h0) (t_k0 : kd k0 = (0, 0)) : V E (d + 1) K_X0_seat (ZV E h0) h [(0, .ref k0), (1, .int x1), (2, .int x2)] [] 41 := by
  unfold f_X0_seat_41 at hf
  obtain ⟨x2_1, e_2, hf⟩ := nm_s hf
  refine V_iinc (a := 1) (L' := [(2, .int x2_1), (0, .ref k0), (1, .int x1)]) 2 dX0_seat_41 rfl (by decide) (Nat.le_of_ble_eq_true rfl) e_2 rfl ?_
  refine V_goto (tgt := 7) dX0_seat_44 (by decide) ?_
  refine V_sub [1, 2, 0] rfl ?_
  exact cq7 _ _ _ _ hf t_k0
set_option maxHeartbeats 4000000 in
set_option maxRecDepth 100000 in
theorem v_X0_seat_7 {E : EV} {d : Nat} (hd : 1 ≤ d) {h0 : AH} : ∀ (n : Nat) (k0 : Nat) (x1 : Int32) (x2 : Int32) (h : AH), f_X0_seat_7 n k0 x1 x2 h = some h0 → kd k0 = (0, 0) → V E (d + 1) K_X0_seat (ZV E h0) h [(0, .ref k0), (1, .int x1), (2, .int x2)] [] 7 := by
  intro n
  induction n with
  | zero =>
    intro k0 x1 x2 h hf
    rw [f_X0_seat_7] at hf
    cases hf
  | succ n ih =>
    intro k0 x1 x2 h hf t_k0
    rw [f_X0_seat_7] at hf
    refine V_iload_n 2 dX0_seat_7 rfl rfl ?_
    refine V_bipush (v := 6) dX0_seat_8 (by decide) ?_
    refine V_ic_ge (tgt := 47) dX0_seat_10 (by decide) (fun c_1 => ?_) (fun c_1 => ?_)
    · have hf := it_s c_1 hf
      exact V_vret rfl (so_s hf) dX0_seat_47
    · have hf := if_s c_1 hf
      refine V_iload_n 1 dX0_seat_13 rfl rfl ?_
      refine V_iload_n 2 dX0_seat_14 rfl rfl ?_
      obtain ⟨r_4, h_3, e_2, hf⟩ := ob_s hf
      refine V_csi (As := [.int x1, .int x2]) (rest := []) (c_X11_isIn (d := d) (Nat.le_trans (Nat.le_of_ble_eq_true rfl) hd) e_2) ML_X0_38 MS_X11_isIn rfl rfl rfl (Nat.le_of_ble_eq_true rfl) dX0_seat_15 ?_
      refine V_if_eq (tgt := 41) dX0_seat_18 (by decide) (fun c_5 => ?_) (fun c_5 => ?_)
      · have hf := it_s c_5 hf
        exact v_X0_seat_41 hd ih hf t_k0
      · have hf := if_s c_5 hf
        refine V_aload_n 0 dX0_seat_21 rfl rfl ?_
        refine V_getR F_X0_9 rfl t_k0 rfl dX0_seat_22 ?_
        refine V_aload_n 0 dX0_seat_25 rfl rfl ?_
        refine V_getI F_X0_34 rfl t_k0 rfl dX0_seat_26 ?_
        refine V_iload_n 2 dX0_seat_29 rfl rfl ?_
        obtain ⟨b_6, hf⟩ := og_s hf
        obtain ⟨h_7, e_8, hf⟩ := nm_s hf
        refine V_iast (rfA t_k0 (Nat.le_of_ble_eq_true rfl) rfl rfl (by decide)) b_6 e_8 dX0_seat_30 ?_
        refine V_aload_n 0 dX0_seat_31 rfl rfl ?_
        refine V_dup dX0_seat_32 rfl ?_
        refine V_getI F_X0_34 rfl t_k0 rfl dX0_seat_33 ?_
        refine V_iconst (v := 1) dX0_seat_36 (by decide) ?_
        refine V_iadd dX0_seat_37 ?_
        obtain ⟨h_9, e_10, hf⟩ := nm_s hf
        refine V_putI P_X0_34 rfl t_k0 rfl e_10 dX0_seat_38 ?_
        exact v_X0_seat_41 hd ih hf t_k0
set_option maxHeartbeats 4000000 in
set_option maxRecDepth 100000 in
theorem c_X0_seat {E : EV} {d : Nat} (hd : 1 + 1 ≤ d) {k0 : Nat} {x1 : Int32} {h : AH} {h0 : AH} (hf : f_X0_seat k0 x1 h = some h0) (t_k0 : kd k0 = (0, 0)) : Con E d K_X0_seat (ZV E h0) [.ref k0, .int x1] h := by
  obtain ⟨d, rfl⟩ : ∃ d', d = d' + 1 := ⟨d - 1, by omega⟩
  have hd := Nat.le_of_succ_le_succ hd
  refine Con.ofV rfl (Nat.le_of_ble_eq_true rfl) ?_
  unfold f_X0_seat at hf
  show V E (d + 1) K_X0_seat (ZV E h0) h [(0, .ref k0), (1, .int x1)] [] 0
  refine V_aload_n 0 dX0_seat_0 rfl rfl ?_
  refine V_iconst (v := 0) dX0_seat_1 (by decide) ?_
  obtain ⟨h_1, e_2, hf⟩ := nm_s hf
  refine V_putI P_X0_34 rfl t_k0 rfl e_2 dX0_seat_2 ?_
  refine V_iconst (v := 0) dX0_seat_5 (by decide) ?_
  refine V_istore_n (L' := [(2, .int 0), (0, .ref k0), (1, .int x1)]) dX0_seat_6 rfl (Nat.le_of_ble_eq_true rfl) rfl rfl ?_
  refine V_sub [1, 2, 0] rfl ?_
  exact v_X0_seat_7 hd FU _ _ _ _ hf t_k0
theorem dX1_addSight_0 : decode cX1_addSight 0 = .ok (.aload_n 0, 1) := by decide +kernel
theorem dX1_addSight_1 : decode cX1_addSight 1 = .ok (.getfield 22, 3) := by decide +kernel
theorem dX1_addSight_4 : decode cX1_addSight 4 = .ok (.bipush 20, 2) := by decide +kernel
theorem dX1_addSight_6 : decode cX1_addSight 6 = .ok (.if_icmp .ge 53, 3) := by decide +kernel
theorem dX1_addSight_9 : decode cX1_addSight 9 = .ok (.aload_n 0, 1) := by decide +kernel
theorem dX1_addSight_10 : decode cX1_addSight 10 = .ok (.getfield 15, 3) := by decide +kernel
theorem dX1_addSight_13 : decode cX1_addSight 13 = .ok (.aload_n 0, 1) := by decide +kernel
theorem dX1_addSight_14 : decode cX1_addSight 14 = .ok (.getfield 22, 3) := by decide +kernel
theorem dX1_addSight_17 : decode cX1_addSight 17 = .ok (.iconst 3, 1) := by decide +kernel
theorem dX1_addSight_18 : decode cX1_addSight 18 = .ok (.imul, 1) := by decide +kernel
theorem dX1_addSight_19 : decode cX1_addSight 19 = .ok (.iload_n 1, 1) := by decide +kernel
theorem dX1_addSight_20 : decode cX1_addSight 20 = .ok (.iastore, 1) := by decide +kernel
theorem dX1_addSight_21 : decode cX1_addSight 21 = .ok (.aload_n 0, 1) := by decide +kernel
theorem dX1_addSight_22 : decode cX1_addSight 22 = .ok (.getfield 15, 3) := by decide +kernel
theorem dX1_addSight_25 : decode cX1_addSight 25 = .ok (.aload_n 0, 1) := by decide +kernel
theorem dX1_addSight_26 : decode cX1_addSight 26 = .ok (.getfield 22, 3) := by decide +kernel
theorem dX1_addSight_29 : decode cX1_addSight 29 = .ok (.iconst 3, 1) := by decide +kernel
theorem dX1_addSight_30 : decode cX1_addSight 30 = .ok (.imul, 1) := by decide +kernel
theorem dX1_addSight_31 : decode cX1_addSight 31 = .ok (.iconst 1, 1) := by decide +kernel
theorem dX1_addSight_32 : decode cX1_addSight 32 = .ok (.iadd, 1) := by decide +kernel
theorem dX1_addSight_33 : decode cX1_addSight 33 = .ok (.iload_n 2, 1) := by decide +kernel
theorem dX1_addSight_34 : decode cX1_addSight 34 = .ok (.iastore, 1) := by decide +kernel
theorem dX1_addSight_35 : decode cX1_addSight 35 = .ok (.aload_n 0, 1) := by decide +kernel
theorem dX1_addSight_36 : decode cX1_addSight 36 = .ok (.getfield 15, 3) := by decide +kernel
theorem dX1_addSight_39 : decode cX1_addSight 39 = .ok (.aload_n 0, 1) := by decide +kernel
theorem dX1_addSight_40 : decode cX1_addSight 40 = .ok (.getfield 22, 3) := by decide +kernel
theorem dX1_addSight_43 : decode cX1_addSight 43 = .ok (.iconst 3, 1) := by decide +kernel
theorem dX1_addSight_44 : decode cX1_addSight 44 = .ok (.imul, 1) := by decide +kernel
theorem dX1_addSight_45 : decode cX1_addSight 45 = .ok (.iconst 2, 1) := by decide +kernel
theorem dX1_addSight_46 : decode cX1_addSight 46 = .ok (.iadd, 1) := by decide +kernel
theorem dX1_addSight_47 : decode cX1_addSight 47 = .ok (.iload_n 3, 1) := by decide +kernel
theorem dX1_addSight_48 : decode cX1_addSight 48 = .ok (.iastore, 1) := by decide +kernel
theorem dX1_addSight_49 : decode cX1_addSight 49 = .ok (.aload_n 0, 1) := by decide +kernel
theorem dX1_addSight_50 : decode cX1_addSight 50 = .ok (.dup, 1) := by decide +kernel
theorem dX1_addSight_51 : decode cX1_addSight 51 = .ok (.getfield 22, 3) := by decide +kernel
theorem dX1_addSight_54 : decode cX1_addSight 54 = .ok (.iconst 1, 1) := by decide +kernel
theorem dX1_addSight_55 : decode cX1_addSight 55 = .ok (.iadd, 1) := by decide +kernel
theorem dX1_addSight_56 : decode cX1_addSight 56 = .ok (.putfield 22, 3) := by decide +kernel
theorem dX1_addSight_59 : decode cX1_addSight 59 = .ok (.return_, 1) := by decide +kernel
theorem F_X1_22 : FLk RX1 22 1 3 := ⟨RX1, TX1, 6, rfl, rfl, iw_X1, by decide, Or.inl fl_X1_22⟩
theorem F_X1_15 : FLk RX1 15 1 1 := ⟨RX1, TX1, 6, rfl, rfl, iw_X1, by decide, Or.inl fl_X1_15⟩
theorem P_X1_22 : FPk RX1 22 1 3 .int := ⟨RX1, TX1, 6, tyX1, rfl, rfl, iw_X1, by decide, Or.inl fl_X1_22, tyX1_ok, nmX1, rfl, by decide +kernel⟩
def f_X1_addSight_59  (h : AH) : Option AH :=
  some h
def f_X1_addSight (k0 : Nat) (x1 : Int32) (x2 : Int32) (x3 : Int32) (h : AH) : Option AH :=
  if 20 ≤ (h.1 k0 3) then (
    f_X1_addSight_59 h
  ) else (
    og (ix ((h.1 k0 3) * 3) (an (rf k0 1))) <|
    nm (sI h (rf k0 1) ((h.1 k0 3) * 3).toNatClampNeg x1) fun h_3 =>
    og (ix (((h_3.1 k0 3) * 3) + 1) (an (rf k0 1))) <|
    nm (sI h_3 (rf k0 1) (((h_3.1 k0 3) * 3) + 1).toNatClampNeg x2) fun h_6 =>
    og (ix (((h_6.1 k0 3) * 3) + 2) (an (rf k0 1))) <|
    nm (sI h_6 (rf k0 1) (((h_6.1 k0 3) * 3) + 2).toNatClampNeg x3) fun h_9 =>
    nm (sI h_9 k0 3 ((h_9.1 k0 3) + 1)) fun h_11 =>
    f_X1_addSight_59 h_11
  )
set_option maxHeartbeats 4000000 in
set_option maxRecDepth 100000 in
theorem v_X1_addSight_59 {E : EV} {d : Nat} (hd : 0 ≤ d) {h0 : AH}  {h : AH} (hf : f_X1_addSight_59 h = some h0) : V E (d + 1) K_X1_addSight (ZV E h0) h [] [] 59 := by
  unfold f_X1_addSight_59 at hf
  exact V_vret rfl (so_s hf) dX1_addSight_59
set_option maxHeartbeats 4000000 in
set_option maxRecDepth 100000 in
theorem c_X1_addSight {E : EV} {d : Nat} (hd : 0 + 1 ≤ d) {k0 : Nat} {x1 : Int32} {x2 : Int32} {x3 : Int32} {h : AH} {h0 : AH} (hf : f_X1_addSight k0 x1 x2 x3 h = some h0) (t_k0 : kd k0 = (0, 1)) : Con E d K_X1_addSight (ZV E h0) [.ref k0, .int x1, .int x2, .int x3] h := by
  obtain ⟨d, rfl⟩ : ∃ d', d = d' + 1 := ⟨d - 1, by omega⟩
  have hd := Nat.le_of_succ_le_succ hd
  refine Con.ofV rfl (Nat.le_of_ble_eq_true rfl) ?_
  unfold f_X1_addSight at hf
  show V E (d + 1) K_X1_addSight (ZV E h0) h [(0, .ref k0), (1, .int x1), (2, .int x2), (3, .int x3)] [] 0
  refine V_aload_n 0 dX1_addSight_0 rfl rfl ?_
  refine V_getI F_X1_22 rfl t_k0 rfl dX1_addSight_1 ?_
  refine V_bipush (v := 20) dX1_addSight_4 (by decide) ?_
  refine V_ic_ge (tgt := 59) dX1_addSight_6 (by decide) (fun c_1 => ?_) (fun c_1 => ?_)
  · have hf := it_s c_1 hf
    refine V_sub [] rfl ?_
    exact v_X1_addSight_59 hd hf
  · have hf := if_s c_1 hf
    refine V_aload_n 0 dX1_addSight_9 rfl rfl ?_
    refine V_getR F_X1_15 rfl t_k0 rfl dX1_addSight_10 ?_
    refine V_aload_n 0 dX1_addSight_13 rfl rfl ?_
    refine V_getI F_X1_22 rfl t_k0 rfl dX1_addSight_14 ?_
    refine V_iconst (v := 3) dX1_addSight_17 (by decide) ?_
    refine V_imul dX1_addSight_18 ?_
    refine V_iload_n 1 dX1_addSight_19 rfl rfl ?_
    obtain ⟨b_2, hf⟩ := og_s hf
    obtain ⟨h_3, e_4, hf⟩ := nm_s hf
    refine V_iast (rfA t_k0 (Nat.le_of_ble_eq_true rfl) rfl rfl (by decide)) b_2 e_4 dX1_addSight_20 ?_
    refine V_aload_n 0 dX1_addSight_21 rfl rfl ?_
    refine V_getR F_X1_15 rfl t_k0 rfl dX1_addSight_22 ?_
    refine V_aload_n 0 dX1_addSight_25 rfl rfl ?_
    refine V_getI F_X1_22 rfl t_k0 rfl dX1_addSight_26 ?_
    refine V_iconst (v := 3) dX1_addSight_29 (by decide) ?_
    refine V_imul dX1_addSight_30 ?_
    refine V_iconst (v := 1) dX1_addSight_31 (by decide) ?_
    refine V_iadd dX1_addSight_32 ?_
    refine V_iload_n 2 dX1_addSight_33 rfl rfl ?_
    obtain ⟨b_5, hf⟩ := og_s hf
    obtain ⟨h_6, e_7, hf⟩ := nm_s hf
    refine V_iast (rfA t_k0 (Nat.le_of_ble_eq_true rfl) rfl rfl (by decide)) b_5 e_7 dX1_addSight_34 ?_
    refine V_aload_n 0 dX1_addSight_35 rfl rfl ?_
    refine V_getR F_X1_15 rfl t_k0 rfl dX1_addSight_36 ?_
    refine V_aload_n 0 dX1_addSight_39 rfl rfl ?_
    refine V_getI F_X1_22 rfl t_k0 rfl dX1_addSight_40 ?_
    refine V_iconst (v := 3) dX1_addSight_43 (by decide) ?_
    refine V_imul dX1_addSight_44 ?_
    refine V_iconst (v := 2) dX1_addSight_45 (by decide) ?_
    refine V_iadd dX1_addSight_46 ?_
    refine V_iload_n 3 dX1_addSight_47 rfl rfl ?_
    obtain ⟨b_8, hf⟩ := og_s hf
    obtain ⟨h_9, e_10, hf⟩ := nm_s hf
    refine V_iast (rfA t_k0 (Nat.le_of_ble_eq_true rfl) rfl rfl (by decide)) b_8 e_10 dX1_addSight_48 ?_
    refine V_aload_n 0 dX1_addSight_49 rfl rfl ?_
    refine V_dup dX1_addSight_50 rfl ?_
    refine V_getI F_X1_22 rfl t_k0 rfl dX1_addSight_51 ?_
    refine V_iconst (v := 1) dX1_addSight_54 (by decide) ?_
    refine V_iadd dX1_addSight_55 ?_
    obtain ⟨h_11, e_12, hf⟩ := nm_s hf
    refine V_putI P_X1_22 rfl t_k0 rfl e_12 dX1_addSight_56 ?_
    refine V_sub [] rfl ?_
    exact v_X1_addSight_59 hd hf
theorem dX1_clear_0 : decode cX1_clear 0 = .ok (.aload_n 0, 1) := by decide +kernel
theorem dX1_clear_1 : decode cX1_clear 1 = .ok (.iconst 0, 1) := by decide +kernel
theorem dX1_clear_2 : decode cX1_clear 2 = .ok (.putfield 18, 3) := by decide +kernel
theorem dX1_clear_5 : decode cX1_clear 5 = .ok (.aload_n 0, 1) := by decide +kernel
theorem dX1_clear_6 : decode cX1_clear 6 = .ok (.iconst 0, 1) := by decide +kernel
theorem dX1_clear_7 : decode cX1_clear 7 = .ok (.putfield 22, 3) := by decide +kernel
theorem dX1_clear_10 : decode cX1_clear 10 = .ok (.return_, 1) := by decide +kernel
theorem F_X1_18 : FLk RX1 18 1 2 := ⟨RX1, TX1, 6, rfl, rfl, iw_X1, by decide, Or.inl fl_X1_18⟩
theorem P_X1_18 : FPk RX1 18 1 2 .int := ⟨RX1, TX1, 6, tyX1, rfl, rfl, iw_X1, by decide, Or.inl fl_X1_18, tyX1_ok, nmX1, rfl, by decide +kernel⟩
def f_X1_clear (k0 : Nat) (h : AH) : Option AH :=
  nm (sI h k0 2 0) fun h_1 =>
  nm (sI h_1 k0 3 0) fun h_3 =>
  some h_3
set_option maxHeartbeats 4000000 in
set_option maxRecDepth 100000 in
theorem c_X1_clear {E : EV} {d : Nat} (hd : 0 + 1 ≤ d) {k0 : Nat} {h : AH} {h0 : AH} (hf : f_X1_clear k0 h = some h0) (t_k0 : kd k0 = (0, 1)) : Con E d K_X1_clear (ZV E h0) [.ref k0] h := by
  obtain ⟨d, rfl⟩ : ∃ d', d = d' + 1 := ⟨d - 1, by omega⟩
  have hd := Nat.le_of_succ_le_succ hd
  refine Con.ofV rfl (Nat.le_of_ble_eq_true rfl) ?_
  unfold f_X1_clear at hf
  show V E (d + 1) K_X1_clear (ZV E h0) h [(0, .ref k0)] [] 0
  refine V_aload_n 0 dX1_clear_0 rfl rfl ?_
  refine V_iconst (v := 0) dX1_clear_1 (by decide) ?_
  obtain ⟨h_1, e_2, hf⟩ := nm_s hf
  refine V_putI P_X1_18 rfl t_k0 rfl e_2 dX1_clear_2 ?_
  refine V_aload_n 0 dX1_clear_5 rfl rfl ?_
  refine V_iconst (v := 0) dX1_clear_6 (by decide) ?_
  obtain ⟨h_3, e_4, hf⟩ := nm_s hf
  refine V_putI P_X1_22 rfl t_k0 rfl e_4 dX1_clear_7 ?_
  exact V_vret rfl (so_s hf) dX1_clear_10
theorem dX1_placeOf_0 : decode cX1_placeOf 0 = .ok (.aload_n 0, 1) := by decide +kernel
theorem dX1_placeOf_1 : decode cX1_placeOf 1 = .ok (.getfield 11, 3) := by decide +kernel
theorem dX1_placeOf_4 : decode cX1_placeOf 4 = .ok (.iload_n 1, 1) := by decide +kernel
theorem dX1_placeOf_5 : decode cX1_placeOf 5 = .ok (.bipush 6, 2) := by decide +kernel
theorem dX1_placeOf_7 : decode cX1_placeOf 7 = .ok (.imul, 1) := by decide +kernel
theorem dX1_placeOf_8 : decode cX1_placeOf 8 = .ok (.iload_n 2, 1) := by decide +kernel
theorem dX1_placeOf_9 : decode cX1_placeOf 9 = .ok (.iadd, 1) := by decide +kernel
theorem dX1_placeOf_10 : decode cX1_placeOf 10 = .ok (.iaload, 1) := by decide +kernel
theorem dX1_placeOf_11 : decode cX1_placeOf 11 = .ok (.ireturn, 1) := by decide +kernel
theorem F_X1_11 : FLk RX1 11 1 0 := ⟨RX1, TX1, 6, rfl, rfl, iw_X1, by decide, Or.inl fl_X1_11⟩
def f_X1_placeOf (k0 : Nat) (x1 : Int32) (x2 : Int32) (h : AH) : Option (Int32 × AH) :=
  og (ix ((x1 * 6) + x2) (an (rf k0 0))) <|
  some ((h.1 (rf k0 0) ((x1 * 6) + x2).toNatClampNeg), h)
set_option maxHeartbeats 4000000 in
set_option maxRecDepth 100000 in
theorem c_X1_placeOf {E : EV} {d : Nat} (hd : 0 + 1 ≤ d) {k0 : Nat} {x1 : Int32} {x2 : Int32} {h : AH} {r0 : Int32} {h0 : AH} (hf : f_X1_placeOf k0 x1 x2 h = some (r0, h0)) (t_k0 : kd k0 = (0, 1)) : Con E d K_X1_placeOf (ZI E r0 h0) [.ref k0, .int x1, .int x2] h := by
  obtain ⟨d, rfl⟩ : ∃ d', d = d' + 1 := ⟨d - 1, by omega⟩
  have hd := Nat.le_of_succ_le_succ hd
  refine Con.ofV rfl (Nat.le_of_ble_eq_true rfl) ?_
  unfold f_X1_placeOf at hf
  show V E (d + 1) K_X1_placeOf (ZI E r0 h0) h [(0, .ref k0), (1, .int x1), (2, .int x2)] [] 0
  refine V_aload_n 0 dX1_placeOf_0 rfl rfl ?_
  refine V_getR F_X1_11 rfl t_k0 rfl dX1_placeOf_1 ?_
  refine V_iload_n 1 dX1_placeOf_4 rfl rfl ?_
  refine V_bipush (v := 6) dX1_placeOf_5 (by decide) ?_
  refine V_imul dX1_placeOf_7 ?_
  refine V_iload_n 2 dX1_placeOf_8 rfl rfl ?_
  refine V_iadd dX1_placeOf_9 ?_
  obtain ⟨b_1, hf⟩ := og_s hf
  refine V_iald (rfA t_k0 (Nat.le_of_ble_eq_true rfl) rfl rfl (by decide)) b_1 dX1_placeOf_10 ?_
  exact V_iret rfl (so_s hf) dX1_placeOf_11
theorem dX1_isSeenAlways_0 : decode cX1_isSeenAlways 0 = .ok (.iconst 0, 1) := by decide +kernel
theorem dX1_isSeenAlways_1 : decode cX1_isSeenAlways 1 = .ok (.istore_n 3, 1) := by decide +kernel
theorem dX1_isSeenAlways_2 : decode cX1_isSeenAlways 2 = .ok (.iload_n 3, 1) := by decide +kernel
theorem dX1_isSeenAlways_3 : decode cX1_isSeenAlways 3 = .ok (.aload_n 0, 1) := by decide +kernel
theorem dX1_isSeenAlways_4 : decode cX1_isSeenAlways 4 = .ok (.getfield 22, 3) := by decide +kernel
theorem dX1_isSeenAlways_7 : decode cX1_isSeenAlways 7 = .ok (.if_icmp .ge 51, 3) := by decide +kernel
theorem dX1_isSeenAlways_10 : decode cX1_isSeenAlways 10 = .ok (.aload_n 0, 1) := by decide +kernel
theorem dX1_isSeenAlways_11 : decode cX1_isSeenAlways 11 = .ok (.aload_n 0, 1) := by decide +kernel
theorem dX1_isSeenAlways_12 : decode cX1_isSeenAlways 12 = .ok (.getfield 15, 3) := by decide +kernel
theorem dX1_isSeenAlways_15 : decode cX1_isSeenAlways 15 = .ok (.iload_n 3, 1) := by decide +kernel
theorem dX1_isSeenAlways_16 : decode cX1_isSeenAlways 16 = .ok (.iconst 3, 1) := by decide +kernel
theorem dX1_isSeenAlways_17 : decode cX1_isSeenAlways 17 = .ok (.imul, 1) := by decide +kernel
theorem dX1_isSeenAlways_18 : decode cX1_isSeenAlways 18 = .ok (.iaload, 1) := by decide +kernel
theorem dX1_isSeenAlways_19 : decode cX1_isSeenAlways 19 = .ok (.iload_n 1, 1) := by decide +kernel
theorem dX1_isSeenAlways_20 : decode cX1_isSeenAlways 20 = .ok (.invokevirtual 42, 3) := by decide +kernel
theorem dX1_isSeenAlways_23 : decode cX1_isSeenAlways 23 = .ok (.aload_n 0, 1) := by decide +kernel
theorem dX1_isSeenAlways_24 : decode cX1_isSeenAlways 24 = .ok (.getfield 15, 3) := by decide +kernel
theorem dX1_isSeenAlways_27 : decode cX1_isSeenAlways 27 = .ok (.iload_n 3, 1) := by decide +kernel
theorem dX1_isSeenAlways_28 : decode cX1_isSeenAlways 28 = .ok (.iconst 3, 1) := by decide +kernel
theorem dX1_isSeenAlways_29 : decode cX1_isSeenAlways 29 = .ok (.imul, 1) := by decide +kernel
theorem dX1_isSeenAlways_30 : decode cX1_isSeenAlways 30 = .ok (.iconst 1, 1) := by decide +kernel
theorem dX1_isSeenAlways_31 : decode cX1_isSeenAlways 31 = .ok (.iadd, 1) := by decide +kernel
theorem dX1_isSeenAlways_32 : decode cX1_isSeenAlways 32 = .ok (.iaload, 1) := by decide +kernel
theorem dX1_isSeenAlways_33 : decode cX1_isSeenAlways 33 = .ok (.if_icmp .ne 17, 3) := by decide +kernel
theorem dX1_isSeenAlways_36 : decode cX1_isSeenAlways 36 = .ok (.iload_n 2, 1) := by decide +kernel
theorem dX1_isSeenAlways_37 : decode cX1_isSeenAlways 37 = .ok (.aload_n 0, 1) := by decide +kernel
theorem dX1_isSeenAlways_38 : decode cX1_isSeenAlways 38 = .ok (.getfield 15, 3) := by decide +kernel
theorem dX1_isSeenAlways_41 : decode cX1_isSeenAlways 41 = .ok (.iload_n 3, 1) := by decide +kernel
theorem dX1_isSeenAlways_42 : decode cX1_isSeenAlways 42 = .ok (.iconst 3, 1) := by decide +kernel
theorem dX1_isSeenAlways_43 : decode cX1_isSeenAlways 43 = .ok (.imul, 1) := by decide +kernel
theorem dX1_isSeenAlways_44 : decode cX1_isSeenAlways 44 = .ok (.iconst 2, 1) := by decide +kernel
theorem dX1_isSeenAlways_45 : decode cX1_isSeenAlways 45 = .ok (.iadd, 1) := by decide +kernel
theorem dX1_isSeenAlways_46 : decode cX1_isSeenAlways 46 = .ok (.iaload, 1) := by decide +kernel
theorem dX1_isSeenAlways_47 : decode cX1_isSeenAlways 47 = .ok (.if_icmp .eq 5, 3) := by decide +kernel
theorem dX1_isSeenAlways_50 : decode cX1_isSeenAlways 50 = .ok (.iconst 0, 1) := by decide +kernel
theorem dX1_isSeenAlways_51 : decode cX1_isSeenAlways 51 = .ok (.ireturn, 1) := by decide +kernel
theorem dX1_isSeenAlways_52 : decode cX1_isSeenAlways 52 = .ok (.iinc 3 1, 3) := by decide +kernel
theorem dX1_isSeenAlways_55 : decode cX1_isSeenAlways 55 = .ok (.goto (-53), 3) := by decide +kernel
theorem dX1_isSeenAlways_58 : decode cX1_isSeenAlways 58 = .ok (.iconst 1, 1) := by decide +kernel
theorem dX1_isSeenAlways_59 : decode cX1_isSeenAlways 59 = .ok (.ireturn, 1) := by decide +kernel
theorem ML_X1_42 : MLk RX1 42 yX1_placeOf := Or.inl ml_X1_42
theorem MV_X1_placeOf : MVk K_X1_placeOf 2 1 := ⟨⟨cd_X1_placeOf, in_X1, ⟨by decide, by decide, by decide +kernel⟩, by decide⟩, im_X1_placeOf, se_X1_placeOf, _, _, rfl⟩
def f_X1_isSeenAlways_50  (h : AH) : Option (Int32 × AH) :=
  some (0, h)
def f_X1_isSeenAlways_2 : Nat → Nat → Int32 → Int32 → Int32 → AH → Option (Int32 × AH)
  | 0, _, _, _, _, _ => none
  | n + 1, k0, x1, x2, x3, h =>
    if (h.1 k0 3) ≤ x3 then (
      some (1, h)
    ) else (
      og (ix (x3 * 3) (an (rf k0 1))) <|
      ob (f_X1_placeOf k0 (h.1 (rf k0 1) (x3 * 3).toNatClampNeg) x1 h) fun r_5 h_4 =>
      og (ix ((x3 * 3) + 1) (an (rf k0 1))) <|
      if r_5 = (h_4.1 (rf k0 1) ((x3 * 3) + 1).toNatClampNeg) then (
        og (ix ((x3 * 3) + 2) (an (rf k0 1))) <|
        if x2 = (h_4.1 (rf k0 1) ((x3 * 3) + 2).toNatClampNeg) then (
          nm (x3 + 1) fun x3_10 =>
          f_X1_isSeenAlways_2 n k0 x1 x2 x3_10 h_4
        ) else (
          f_X1_isSeenAlways_50 h_4
        )
      ) else (
        f_X1_isSeenAlways_50 h_4
      )
    )
def f_X1_isSeenAlways (k0 : Nat) (x1 : Int32) (x2 : Int32) (h : AH) : Option (Int32 × AH) :=
  f_X1_isSeenAlways_2 FU k0 x1 x2 0 h
set_option maxHeartbeats 4000000 in
set_option maxRecDepth 100000 in
theorem v_X1_isSeenAlways_50 {E : EV} {d : Nat} (hd : 1 ≤ d) {r0 : Int32} {h0 : AH}  {h : AH} (hf : f_X1_isSeenAlways_50 h = some (r0, h0)) : V E (d + 1) K_X1_isSeenAlways (ZI E r0 h0) h [] [] 50 := by
  unfold f_X1_isSeenAlways_50 at hf
  refine V_iconst (v := 0) dX1_isSeenAlways_50 (by decide) ?_
  exact V_zret rfl (by decide) (so_s hf) dX1_isSeenAlways_51
set_option maxHeartbeats 4000000 in
set_option maxRecDepth 100000 in
theorem v_X1_isSeenAlways_2 {E : EV} {d : Nat} (hd : 1 ≤ d) {r0 : Int32} {h0 : AH} : ∀ (n : Nat) (k0 : Nat) (x1 : Int32) (x2 : Int32) (x3 : Int32) (h : AH), f_X1_isSeenAlways_2 n k0 x1 x2 x3 h = some (r0, h0) → kd k0 = (0, 1) → V E (d + 1) K_X1_isSeenAlways (ZI E r0 h0) h [(0, .ref k0), (1, .int x1), (2, .int x2), (3, .int x3)] [] 2 := by
  intro n
  induction n with
  | zero =>
    intro k0 x1 x2 x3 h hf
    rw [f_X1_isSeenAlways_2] at hf
    cases hf
  | succ n ih =>
    intro k0 x1 x2 x3 h hf t_k0
    rw [f_X1_isSeenAlways_2] at hf
    refine V_iload_n 3 dX1_isSeenAlways_2 rfl rfl ?_
    refine V_aload_n 0 dX1_isSeenAlways_3 rfl rfl ?_
    refine V_getI F_X1_22 rfl t_k0 rfl dX1_isSeenAlways_4 ?_
    refine V_ic_ge (tgt := 58) dX1_isSeenAlways_7 (by decide) (fun c_1 => ?_) (fun c_1 => ?_)
    · have hf := it_s c_1 hf
      refine V_iconst (v := 1) dX1_isSeenAlways_58 (by decide) ?_
      exact V_zret rfl (by decide) (so_s hf) dX1_isSeenAlways_59
    · have hf := if_s c_1 hf
      refine V_aload_n 0 dX1_isSeenAlways_10 rfl rfl ?_
      refine V_aload_n 0 dX1_isSeenAlways_11 rfl rfl ?_
      refine V_getR F_X1_15 rfl t_k0 rfl dX1_isSeenAlways_12 ?_
      refine V_iload_n 3 dX1_isSeenAlways_15 rfl rfl ?_
      refine V_iconst (v := 3) dX1_isSeenAlways_16 (by decide) ?_
      refine V_imul dX1_isSeenAlways_17 ?_
      obtain ⟨b_2, hf⟩ := og_s hf
      refine V_iald (rfA t_k0 (Nat.le_of_ble_eq_true rfl) rfl rfl (by decide)) b_2 dX1_isSeenAlways_18 ?_
      refine V_iload_n 1 dX1_isSeenAlways_19 rfl rfl ?_
      obtain ⟨r_5, h_4, e_3, hf⟩ := ob_s hf
      refine V_cvi (As := [.int (h.1 (rf k0 1) (x3 * 3).toNatClampNeg), .int x1]) (rest := []) (c_X1_placeOf (d := d) (Nat.le_trans (Nat.le_of_ble_eq_true rfl) hd) e_3 t_k0) ML_X1_42 MV_X1_placeOf rfl t_k0 rfl rfl (Nat.le_of_ble_eq_true rfl) dX1_isSeenAlways_20 ?_
      refine V_aload_n 0 dX1_isSeenAlways_23 rfl rfl ?_
      refine V_getR F_X1_15 rfl t_k0 rfl dX1_isSeenAlways_24 ?_
      refine V_iload_n 3 dX1_isSeenAlways_27 rfl rfl ?_
      refine V_iconst (v := 3) dX1_isSeenAlways_28 (by decide) ?_
      refine V_imul dX1_isSeenAlways_29 ?_
      refine V_iconst (v := 1) dX1_isSeenAlways_30 (by decide) ?_
      refine V_iadd dX1_isSeenAlways_31 ?_
      obtain ⟨b_6, hf⟩ := og_s hf
      refine V_iald (rfA t_k0 (Nat.le_of_ble_eq_true rfl) rfl rfl (by decide)) b_6 dX1_isSeenAlways_32 ?_
      refine V_ic_ne (tgt := 50) dX1_isSeenAlways_33 (by decide) (fun c_7 => ?_) (fun c_7 => ?_)
      · have hf := if_s c_7 hf
        refine V_sub [] rfl ?_
        exact v_X1_isSeenAlways_50 hd hf
      · have hf := it_s c_7 hf
        refine V_iload_n 2 dX1_isSeenAlways_36 rfl rfl ?_
        refine V_aload_n 0 dX1_isSeenAlways_37 rfl rfl ?_
        refine V_getR F_X1_15 rfl t_k0 rfl dX1_isSeenAlways_38 ?_
        refine V_iload_n 3 dX1_isSeenAlways_41 rfl rfl ?_
        refine V_iconst (v := 3) dX1_isSeenAlways_42 (by decide) ?_
        refine V_imul dX1_isSeenAlways_43 ?_
        refine V_iconst (v := 2) dX1_isSeenAlways_44 (by decide) ?_
        refine V_iadd dX1_isSeenAlways_45 ?_
        obtain ⟨b_8, hf⟩ := og_s hf
        refine V_iald (rfA t_k0 (Nat.le_of_ble_eq_true rfl) rfl rfl (by decide)) b_8 dX1_isSeenAlways_46 ?_
        refine V_ic_eq (tgt := 52) dX1_isSeenAlways_47 (by decide) (fun c_9 => ?_) (fun c_9 => ?_)
        · have hf := it_s c_9 hf
          obtain ⟨x3_10, e_11, hf⟩ := nm_s hf
          refine V_iinc (a := 1) (L' := [(3, .int x3_10), (0, .ref k0), (1, .int x1), (2, .int x2)]) 3 dX1_isSeenAlways_52 rfl (by decide) (Nat.le_of_ble_eq_true rfl) e_11 rfl ?_
          refine V_goto (tgt := 2) dX1_isSeenAlways_55 (by decide) ?_
          refine V_sub [1, 2, 3, 0] rfl ?_
          exact ih _ _ _ _ _ hf t_k0
        · have hf := if_s c_9 hf
          refine V_sub [] rfl ?_
          exact v_X1_isSeenAlways_50 hd hf
set_option maxHeartbeats 4000000 in
set_option maxRecDepth 100000 in
theorem c_X1_isSeenAlways {E : EV} {d : Nat} (hd : 1 + 1 ≤ d) {k0 : Nat} {x1 : Int32} {x2 : Int32} {h : AH} {r0 : Int32} {h0 : AH} (hf : f_X1_isSeenAlways k0 x1 x2 h = some (r0, h0)) (t_k0 : kd k0 = (0, 1)) : Con E d K_X1_isSeenAlways (ZI E r0 h0) [.ref k0, .int x1, .int x2] h := by
  obtain ⟨d, rfl⟩ : ∃ d', d = d' + 1 := ⟨d - 1, by omega⟩
  have hd := Nat.le_of_succ_le_succ hd
  refine Con.ofV rfl (Nat.le_of_ble_eq_true rfl) ?_
  unfold f_X1_isSeenAlways at hf
  show V E (d + 1) K_X1_isSeenAlways (ZI E r0 h0) h [(0, .ref k0), (1, .int x1), (2, .int x2)] [] 0
  refine V_iconst (v := 0) dX1_isSeenAlways_0 (by decide) ?_
  refine V_istore_n (L' := [(3, .int 0), (0, .ref k0), (1, .int x1), (2, .int x2)]) dX1_isSeenAlways_1 rfl (Nat.le_of_ble_eq_true rfl) rfl rfl ?_
  refine V_sub [1, 2, 3, 0] rfl ?_
  exact v_X1_isSeenAlways_2 hd FU _ _ _ _ _ hf t_k0
theorem dX1_keep_0 : decode cX1_keep 0 = .ok (.aload_n 0, 1) := by decide +kernel
theorem dX1_keep_1 : decode cX1_keep 1 = .ok (.aload_n 0, 1) := by decide +kernel
theorem dX1_keep_2 : decode cX1_keep 2 = .ok (.getfield 18, 3) := by decide +kernel
theorem dX1_keep_5 : decode cX1_keep 5 = .ok (.putfield 25, 3) := by decide +kernel
theorem dX1_keep_8 : decode cX1_keep 8 = .ok (.aload_n 0, 1) := by decide +kernel
theorem dX1_keep_9 : decode cX1_keep 9 = .ok (.aload_n 0, 1) := by decide +kernel
theorem dX1_keep_10 : decode cX1_keep 10 = .ok (.getfield 22, 3) := by decide +kernel
theorem dX1_keep_13 : decode cX1_keep 13 = .ok (.putfield 28, 3) := by decide +kernel
theorem dX1_keep_16 : decode cX1_keep 16 = .ok (.return_, 1) := by decide +kernel
theorem F_X1_25 : FLk RX1 25 1 4 := ⟨RX1, TX1, 6, rfl, rfl, iw_X1, by decide, Or.inl fl_X1_25⟩
theorem P_X1_25 : FPk RX1 25 1 4 .int := ⟨RX1, TX1, 6, tyX1, rfl, rfl, iw_X1, by decide, Or.inl fl_X1_25, tyX1_ok, nmX1, rfl, by decide +kernel⟩
theorem F_X1_28 : FLk RX1 28 1 5 := ⟨RX1, TX1, 6, rfl, rfl, iw_X1, by decide, Or.inl fl_X1_28⟩
theorem P_X1_28 : FPk RX1 28 1 5 .int := ⟨RX1, TX1, 6, tyX1, rfl, rfl, iw_X1, by decide, Or.inl fl_X1_28, tyX1_ok, nmX1, rfl, by decide +kernel⟩
def f_X1_keep (k0 : Nat) (h : AH) : Option AH :=
  nm (sI h k0 4 (h.1 k0 2)) fun h_1 =>
  nm (sI h_1 k0 5 (h_1.1 k0 3)) fun h_3 =>
  some h_3
set_option maxHeartbeats 4000000 in
set_option maxRecDepth 100000 in
theorem c_X1_keep {E : EV} {d : Nat} (hd : 0 + 1 ≤ d) {k0 : Nat} {h : AH} {h0 : AH} (hf : f_X1_keep k0 h = some h0) (t_k0 : kd k0 = (0, 1)) : Con E d K_X1_keep (ZV E h0) [.ref k0] h := by
  obtain ⟨d, rfl⟩ : ∃ d', d = d' + 1 := ⟨d - 1, by omega⟩
  have hd := Nat.le_of_succ_le_succ hd
  refine Con.ofV rfl (Nat.le_of_ble_eq_true rfl) ?_
  unfold f_X1_keep at hf
  show V E (d + 1) K_X1_keep (ZV E h0) h [(0, .ref k0)] [] 0
  refine V_aload_n 0 dX1_keep_0 rfl rfl ?_
  refine V_aload_n 0 dX1_keep_1 rfl rfl ?_
  refine V_getI F_X1_18 rfl t_k0 rfl dX1_keep_2 ?_
  obtain ⟨h_1, e_2, hf⟩ := nm_s hf
  refine V_putI P_X1_25 rfl t_k0 rfl e_2 dX1_keep_5 ?_
  refine V_aload_n 0 dX1_keep_8 rfl rfl ?_
  refine V_aload_n 0 dX1_keep_9 rfl rfl ?_
  refine V_getI F_X1_22 rfl t_k0 rfl dX1_keep_10 ?_
  obtain ⟨h_3, e_4, hf⟩ := nm_s hf
  refine V_putI P_X1_28 rfl t_k0 rfl e_4 dX1_keep_13 ?_
  exact V_vret rfl (so_s hf) dX1_keep_16
theorem dX1_placesOf_0 : decode cX1_placesOf 0 = .ok (.iconst 0, 1) := by decide +kernel
theorem dX1_placesOf_1 : decode cX1_placesOf 1 = .ok (.istore_n 2, 1) := by decide +kernel
theorem dX1_placesOf_2 : decode cX1_placesOf 2 = .ok (.iconst 0, 1) := by decide +kernel
theorem dX1_placesOf_3 : decode cX1_placesOf 3 = .ok (.istore_n 3, 1) := by decide +kernel
theorem dX1_placesOf_4 : decode cX1_placesOf 4 = .ok (.iload_n 3, 1) := by decide +kernel
theorem dX1_placesOf_5 : decode cX1_placesOf 5 = .ok (.aload_n 0, 1) := by decide +kernel
theorem dX1_placesOf_6 : decode cX1_placesOf 6 = .ok (.getfield 18, 3) := by decide +kernel
theorem dX1_placesOf_9 : decode cX1_placesOf 9 = .ok (.if_icmp .ge 20, 3) := by decide +kernel
theorem dX1_placesOf_12 : decode cX1_placesOf 12 = .ok (.iload_n 2, 1) := by decide +kernel
theorem dX1_placesOf_13 : decode cX1_placesOf 13 = .ok (.iconst 1, 1) := by decide +kernel
theorem dX1_placesOf_14 : decode cX1_placesOf 14 = .ok (.aload_n 0, 1) := by decide +kernel
theorem dX1_placesOf_15 : decode cX1_placesOf 15 = .ok (.iload_n 3, 1) := by decide +kernel
theorem dX1_placesOf_16 : decode cX1_placesOf 16 = .ok (.iload_n 1, 1) := by decide +kernel
theorem dX1_placesOf_17 : decode cX1_placesOf 17 = .ok (.invokevirtual 42, 3) := by decide +kernel
theorem dX1_placesOf_20 : decode cX1_placesOf 20 = .ok (.ishl, 1) := by decide +kernel
theorem dX1_placesOf_21 : decode cX1_placesOf 21 = .ok (.ior, 1) := by decide +kernel
theorem dX1_placesOf_22 : decode cX1_placesOf 22 = .ok (.istore_n 2, 1) := by decide +kernel
theorem dX1_placesOf_23 : decode cX1_placesOf 23 = .ok (.iinc 3 1, 3) := by decide +kernel
theorem dX1_placesOf_26 : decode cX1_placesOf 26 = .ok (.goto (-22), 3) := by decide +kernel
theorem dX1_placesOf_29 : decode cX1_placesOf 29 = .ok (.iload_n 2, 1) := by decide +kernel
theorem dX1_placesOf_30 : decode cX1_placesOf 30 = .ok (.invokestatic 46, 3) := by decide +kernel
theorem dX1_placesOf_33 : decode cX1_placesOf 33 = .ok (.ireturn, 1) := by decide +kernel
theorem ML_X1_46 : MLk RX1 46 yJ6_bitCount_0f7a4 := Or.inl ml_X1_46
def f_X1_placesOf_4 : Nat → Nat → Int32 → Int32 → Int32 → AH → Option (Int32 × AH)
  | 0, _, _, _, _, _ => none
  | n + 1, k0, x1, x2, x3, h =>
    if (h.1 k0 2) ≤ x3 then (
      ob (f_J6_bitCount_0f7a4 x2 h) fun r_4 h_3 =>
      some (r_4, h_3)
    ) else (
      ob (f_X1_placeOf k0 x3 x1 h) fun r_7 h_6 =>
      nm ((x2 ||| ((1 : Int32) <<< (r_7 &&& 31)))) fun x2_8 =>
      nm (x3 + 1) fun x3_10 =>
      f_X1_placesOf_4 n k0 x1 x2_8 x3_10 h_6
    )
def f_X1_placesOf (k0 : Nat) (x1 : Int32) (h : AH) : Option (Int32 × AH) :=
  f_X1_placesOf_4 FU k0 x1 0 0 h
set_option maxHeartbeats 4000000 in
set_option maxRecDepth 100000 in
theorem v_X1_placesOf_4 {E : EV} {d : Nat} (hd : 1 ≤ d) {r0 : Int32} {h0 : AH} : ∀ (n : Nat) (k0 : Nat) (x1 : Int32) (x2 : Int32) (x3 : Int32) (h : AH), f_X1_placesOf_4 n k0 x1 x2 x3 h = some (r0, h0) → kd k0 = (0, 1) → V E (d + 1) K_X1_placesOf (ZI E r0 h0) h [(0, .ref k0), (1, .int x1), (2, .int x2), (3, .int x3)] [] 4 := by
  intro n
  induction n with
  | zero =>
    intro k0 x1 x2 x3 h hf
    rw [f_X1_placesOf_4] at hf
    cases hf
  | succ n ih =>
    intro k0 x1 x2 x3 h hf t_k0
    rw [f_X1_placesOf_4] at hf
    refine V_iload_n 3 dX1_placesOf_4 rfl rfl ?_
    refine V_aload_n 0 dX1_placesOf_5 rfl rfl ?_
    refine V_getI F_X1_18 rfl t_k0 rfl dX1_placesOf_6 ?_
    refine V_ic_ge (tgt := 29) dX1_placesOf_9 (by decide) (fun c_1 => ?_) (fun c_1 => ?_)
    · have hf := it_s c_1 hf
      refine V_iload_n 2 dX1_placesOf_29 rfl rfl ?_
      obtain ⟨r_4, h_3, e_2, hf⟩ := ob_s hf
      refine V_csi (As := [.int x2]) (rest := []) (c_J6_bitCount_0f7a4 (d := d) (Nat.le_trans (Nat.le_of_ble_eq_true rfl) hd) e_2) ML_X1_46 MS_J6_bitCount_0f7a4 rfl rfl rfl (Nat.le_of_ble_eq_true rfl) dX1_placesOf_30 ?_
      exact V_iret rfl (so_s hf) dX1_placesOf_33
    · have hf := if_s c_1 hf
      refine V_iload_n 2 dX1_placesOf_12 rfl rfl ?_
      refine V_iconst (v := 1) dX1_placesOf_13 (by decide) ?_
      refine V_aload_n 0 dX1_placesOf_14 rfl rfl ?_
      refine V_iload_n 3 dX1_placesOf_15 rfl rfl ?_
      refine V_iload_n 1 dX1_placesOf_16 rfl rfl ?_
      obtain ⟨r_7, h_6, e_5, hf⟩ := ob_s hf
      refine V_cvi (As := [.int x3, .int x1]) (rest := [.int 1, .int x2]) (c_X1_placeOf (d := d) (Nat.le_trans (Nat.le_of_ble_eq_true rfl) hd) e_5 t_k0) ML_X1_42 MV_X1_placeOf rfl t_k0 rfl rfl (Nat.le_of_ble_eq_true rfl) dX1_placesOf_17 ?_
      refine V_ishl dX1_placesOf_20 ?_
      refine V_ior dX1_placesOf_21 ?_
      obtain ⟨x2_8, e_9, hf⟩ := nm_s hf
      refine V_istore_n (L' := [(2, .int x2_8), (0, .ref k0), (1, .int x1), (3, .int x3)]) dX1_placesOf_22 rfl (Nat.le_of_ble_eq_true rfl) e_9 rfl ?_
      obtain ⟨x3_10, e_11, hf⟩ := nm_s hf
      refine V_iinc (a := 1) (L' := [(3, .int x3_10), (2, .int x2_8), (0, .ref k0), (1, .int x1)]) 3 dX1_placesOf_23 rfl (by decide) (Nat.le_of_ble_eq_true rfl) e_11 rfl ?_
      refine V_goto (tgt := 4) dX1_placesOf_26 (by decide) ?_
      refine V_sub [2, 3, 1, 0] rfl ?_
      exact ih _ _ _ _ _ hf t_k0
set_option maxHeartbeats 4000000 in
set_option maxRecDepth 100000 in
theorem c_X1_placesOf {E : EV} {d : Nat} (hd : 1 + 1 ≤ d) {k0 : Nat} {x1 : Int32} {h : AH} {r0 : Int32} {h0 : AH} (hf : f_X1_placesOf k0 x1 h = some (r0, h0)) (t_k0 : kd k0 = (0, 1)) : Con E d K_X1_placesOf (ZI E r0 h0) [.ref k0, .int x1] h := by
  obtain ⟨d, rfl⟩ : ∃ d', d = d' + 1 := ⟨d - 1, by omega⟩
  have hd := Nat.le_of_succ_le_succ hd
  refine Con.ofV rfl (Nat.le_of_ble_eq_true rfl) ?_
  unfold f_X1_placesOf at hf
  show V E (d + 1) K_X1_placesOf (ZI E r0 h0) h [(0, .ref k0), (1, .int x1)] [] 0
  refine V_iconst (v := 0) dX1_placesOf_0 (by decide) ?_
  refine V_istore_n (L' := [(2, .int 0), (0, .ref k0), (1, .int x1)]) dX1_placesOf_1 rfl (Nat.le_of_ble_eq_true rfl) rfl rfl ?_
  refine V_iconst (v := 0) dX1_placesOf_2 (by decide) ?_
  refine V_istore_n (L' := [(3, .int 0), (2, .int 0), (0, .ref k0), (1, .int x1)]) dX1_placesOf_3 rfl (Nat.le_of_ble_eq_true rfl) rfl rfl ?_
  refine V_sub [2, 3, 1, 0] rfl ?_
  exact v_X1_placesOf_4 hd FU _ _ _ _ _ hf t_k0
theorem dX1_restore_0 : decode cX1_restore 0 = .ok (.aload_n 0, 1) := by decide +kernel
theorem dX1_restore_1 : decode cX1_restore 1 = .ok (.aload_n 0, 1) := by decide +kernel
theorem dX1_restore_2 : decode cX1_restore 2 = .ok (.getfield 25, 3) := by decide +kernel
theorem dX1_restore_5 : decode cX1_restore 5 = .ok (.putfield 18, 3) := by decide +kernel
theorem dX1_restore_8 : decode cX1_restore 8 = .ok (.aload_n 0, 1) := by decide +kernel
theorem dX1_restore_9 : decode cX1_restore 9 = .ok (.aload_n 0, 1) := by decide +kernel
theorem dX1_restore_10 : decode cX1_restore 10 = .ok (.getfield 28, 3) := by decide +kernel
theorem dX1_restore_13 : decode cX1_restore 13 = .ok (.putfield 22, 3) := by decide +kernel
theorem dX1_restore_16 : decode cX1_restore 16 = .ok (.return_, 1) := by decide +kernel
def f_X1_restore (k0 : Nat) (h : AH) : Option AH :=
  nm (sI h k0 2 (h.1 k0 4)) fun h_1 =>
  nm (sI h_1 k0 3 (h_1.1 k0 5)) fun h_3 =>
  some h_3
set_option maxHeartbeats 4000000 in
set_option maxRecDepth 100000 in
theorem c_X1_restore {E : EV} {d : Nat} (hd : 0 + 1 ≤ d) {k0 : Nat} {h : AH} {h0 : AH} (hf : f_X1_restore k0 h = some h0) (t_k0 : kd k0 = (0, 1)) : Con E d K_X1_restore (ZV E h0) [.ref k0] h := by
  obtain ⟨d, rfl⟩ : ∃ d', d = d' + 1 := ⟨d - 1, by omega⟩
  have hd := Nat.le_of_succ_le_succ hd
  refine Con.ofV rfl (Nat.le_of_ble_eq_true rfl) ?_
  unfold f_X1_restore at hf
  show V E (d + 1) K_X1_restore (ZV E h0) h [(0, .ref k0)] [] 0
  refine V_aload_n 0 dX1_restore_0 rfl rfl ?_
  refine V_aload_n 0 dX1_restore_1 rfl rfl ?_
  refine V_getI F_X1_25 rfl t_k0 rfl dX1_restore_2 ?_
  obtain ⟨h_1, e_2, hf⟩ := nm_s hf
  refine V_putI P_X1_18 rfl t_k0 rfl e_2 dX1_restore_5 ?_
  refine V_aload_n 0 dX1_restore_8 rfl rfl ?_
  refine V_aload_n 0 dX1_restore_9 rfl rfl ?_
  refine V_getI F_X1_28 rfl t_k0 rfl dX1_restore_10 ?_
  obtain ⟨h_3, e_4, hf⟩ := nm_s hf
  refine V_putI P_X1_22 rfl t_k0 rfl e_4 dX1_restore_13 ?_
  exact V_vret rfl (so_s hf) dX1_restore_16
theorem dX1_write_0 : decode cX1_write 0 = .ok (.aload_n 0, 1) := by decide +kernel
theorem dX1_write_1 : decode cX1_write 1 = .ok (.getfield 18, 3) := by decide +kernel
theorem dX1_write_4 : decode cX1_write 4 = .ok (.bipush 30, 2) := by decide +kernel
theorem dX1_write_6 : decode cX1_write 6 = .ok (.if_icmp .ge 34, 3) := by decide +kernel
theorem dX1_write_9 : decode cX1_write 9 = .ok (.aload_n 1, 1) := by decide +kernel
theorem dX1_write_10 : decode cX1_write 10 = .ok (.getfield 31, 3) := by decide +kernel
theorem dX1_write_13 : decode cX1_write 13 = .ok (.iconst 0, 1) := by decide +kernel
theorem dX1_write_14 : decode cX1_write 14 = .ok (.aload_n 0, 1) := by decide +kernel
theorem dX1_write_15 : decode cX1_write 15 = .ok (.getfield 11, 3) := by decide +kernel
theorem dX1_write_18 : decode cX1_write 18 = .ok (.aload_n 0, 1) := by decide +kernel
theorem dX1_write_19 : decode cX1_write 19 = .ok (.getfield 18, 3) := by decide +kernel
theorem dX1_write_22 : decode cX1_write 22 = .ok (.bipush 6, 2) := by decide +kernel
theorem dX1_write_24 : decode cX1_write 24 = .ok (.imul, 1) := by decide +kernel
theorem dX1_write_25 : decode cX1_write 25 = .ok (.bipush 6, 2) := by decide +kernel
theorem dX1_write_27 : decode cX1_write 27 = .ok (.invokestatic 36, 3) := by decide +kernel
theorem dX1_write_30 : decode cX1_write 30 = .ok (.aload_n 0, 1) := by decide +kernel
theorem dX1_write_31 : decode cX1_write 31 = .ok (.dup, 1) := by decide +kernel
theorem dX1_write_32 : decode cX1_write 32 = .ok (.getfield 18, 3) := by decide +kernel
theorem dX1_write_35 : decode cX1_write 35 = .ok (.iconst 1, 1) := by decide +kernel
theorem dX1_write_36 : decode cX1_write 36 = .ok (.iadd, 1) := by decide +kernel
theorem dX1_write_37 : decode cX1_write 37 = .ok (.putfield 18, 3) := by decide +kernel
theorem dX1_write_40 : decode cX1_write 40 = .ok (.return_, 1) := by decide +kernel
theorem F_X1_31 : FLk RX1 31 9 1 := ⟨RX9, TX9, 3, rfl, rfl, iw_X9, by decide, Or.inr ⟨_, fn_X1_31⟩⟩
def f_X1_write_40  (h : AH) : Option AH :=
  some h
def f_X1_write (k0 : Nat) (k1 : Nat) (h : AH) : Option AH :=
  if 30 ≤ (h.1 k0 2) then (
    f_X1_write_40 h
  ) else (
    og (cok 0 ((h.1 k0 2) * 6) 6 (an (rf k1 1)) (an (rf k0 0))) <|
    nm (sCp h (rf k1 1) 0 (rf k0 0) ((h.1 k0 2) * 6) 6) fun h_3 =>
    nm (sI h_3 k0 2 ((h_3.1 k0 2) + 1)) fun h_5 =>
    f_X1_write_40 h_5
  )
set_option maxHeartbeats 4000000 in
set_option maxRecDepth 100000 in
theorem v_X1_write_40 {E : EV} {d : Nat} (hd : 0 ≤ d) {h0 : AH}  {h : AH} (hf : f_X1_write_40 h = some h0) : V E (d + 1) K_X1_write (ZV E h0) h [] [] 40 := by
  unfold f_X1_write_40 at hf
  exact V_vret rfl (so_s hf) dX1_write_40
set_option maxHeartbeats 4000000 in
set_option maxRecDepth 100000 in
theorem c_X1_write {E : EV} {d : Nat} (hd : 0 + 1 ≤ d) {k0 : Nat} {k1 : Nat} {h : AH} {h0 : AH} (hf : f_X1_write k0 k1 h = some h0) (t_k0 : kd k0 = (0, 1)) (t_k1 : kd k1 = (0, 9)) : Con E d K_X1_write (ZV E h0) [.ref k0, .ref k1] h := by
  obtain ⟨d, rfl⟩ : ∃ d', d = d' + 1 := ⟨d - 1, by omega⟩
  have hd := Nat.le_of_succ_le_succ hd
  refine Con.ofV rfl (Nat.le_of_ble_eq_true rfl) ?_
  unfold f_X1_write at hf
  show V E (d + 1) K_X1_write (ZV E h0) h [(0, .ref k0), (1, .ref k1)] [] 0
  refine V_aload_n 0 dX1_write_0 rfl rfl ?_
  refine V_getI F_X1_18 rfl t_k0 rfl dX1_write_1 ?_
  refine V_bipush (v := 30) dX1_write_4 (by decide) ?_
  refine V_ic_ge (tgt := 40) dX1_write_6 (by decide) (fun c_1 => ?_) (fun c_1 => ?_)
  · have hf := it_s c_1 hf
    refine V_sub [] rfl ?_
    exact v_X1_write_40 hd hf
  · have hf := if_s c_1 hf
    refine V_aload_n 1 dX1_write_9 rfl rfl ?_
    refine V_getR F_X1_31 rfl t_k1 rfl dX1_write_10 ?_
    refine V_iconst (v := 0) dX1_write_13 (by decide) ?_
    refine V_aload_n 0 dX1_write_14 rfl rfl ?_
    refine V_getR F_X1_11 rfl t_k0 rfl dX1_write_15 ?_
    refine V_aload_n 0 dX1_write_18 rfl rfl ?_
    refine V_getI F_X1_18 rfl t_k0 rfl dX1_write_19 ?_
    refine V_bipush (v := 6) dX1_write_22 (by decide) ?_
    refine V_imul dX1_write_24 ?_
    refine V_bipush (v := 6) dX1_write_25 (by decide) ?_
    obtain ⟨b_2, hf⟩ := og_s hf
    obtain ⟨h_3, e_4, hf⟩ := nm_s hf
    refine V_acopy ml_X1_36 rfl (rfA t_k1 (Nat.le_of_ble_eq_true rfl) rfl rfl (by decide)) (rfA t_k0 (Nat.le_of_ble_eq_true rfl) rfl rfl (by decide)) b_2 e_4 (Nat.le_of_ble_eq_true rfl) dX1_write_27 ?_
    refine V_aload_n 0 dX1_write_30 rfl rfl ?_
    refine V_dup dX1_write_31 rfl ?_
    refine V_getI F_X1_18 rfl t_k0 rfl dX1_write_32 ?_
    refine V_iconst (v := 1) dX1_write_35 (by decide) ?_
    refine V_iadd dX1_write_36 ?_
    obtain ⟨h_5, e_6, hf⟩ := nm_s hf
    refine V_putI P_X1_18 rfl t_k0 rfl e_6 dX1_write_37 ?_
    refine V_sub [] rfl ?_
    exact v_X1_write_40 hd hf
theorem dX10_bytesIn_0 : decode cX10_bytesIn 0 = .ok (.iconst 0, 1) := by decide +kernel
theorem dX10_bytesIn_1 : decode cX10_bytesIn 1 = .ok (.istore_n 1, 1) := by decide +kernel
theorem dX10_bytesIn_2 : decode cX10_bytesIn 2 = .ok (.bipush 24, 2) := by decide +kernel
theorem dX10_bytesIn_4 : decode cX10_bytesIn 4 = .ok (.istore_n 2, 1) := by decide +kernel
theorem dX10_bytesIn_5 : decode cX10_bytesIn 5 = .ok (.iload_n 2, 1) := by decide +kernel
theorem dX10_bytesIn_6 : decode cX10_bytesIn 6 = .ok (.ifCond .lt 27, 3) := by decide +kernel
theorem dX10_bytesIn_9 : decode cX10_bytesIn 9 = .ok (.iload_n 1, 1) := by decide +kernel
theorem dX10_bytesIn_10 : decode cX10_bytesIn 10 = .ok (.iload_n 0, 1) := by decide +kernel
theorem dX10_bytesIn_11 : decode cX10_bytesIn 11 = .ok (.iload_n 2, 1) := by decide +kernel
theorem dX10_bytesIn_12 : decode cX10_bytesIn 12 = .ok (.iushr, 1) := by decide +kernel
theorem dX10_bytesIn_13 : decode cX10_bytesIn 13 = .ok (.sipush 255, 3) := by decide +kernel
theorem dX10_bytesIn_16 : decode cX10_bytesIn 16 = .ok (.iand, 1) := by decide +kernel
theorem dX10_bytesIn_17 : decode cX10_bytesIn 17 = .ok (.ifCond .ne 7, 3) := by decide +kernel
theorem dX10_bytesIn_20 : decode cX10_bytesIn 20 = .ok (.iconst 0, 1) := by decide +kernel
theorem dX10_bytesIn_21 : decode cX10_bytesIn 21 = .ok (.goto 4, 3) := by decide +kernel
theorem dX10_bytesIn_24 : decode cX10_bytesIn 24 = .ok (.iconst 1, 1) := by decide +kernel
theorem dX10_bytesIn_25 : decode cX10_bytesIn 25 = .ok (.iadd, 1) := by decide +kernel
theorem dX10_bytesIn_26 : decode cX10_bytesIn 26 = .ok (.istore_n 1, 1) := by decide +kernel
theorem dX10_bytesIn_27 : decode cX10_bytesIn 27 = .ok (.iinc 2 (-8), 3) := by decide +kernel
theorem dX10_bytesIn_30 : decode cX10_bytesIn 30 = .ok (.goto (-25), 3) := by decide +kernel
theorem dX10_bytesIn_33 : decode cX10_bytesIn 33 = .ok (.iload_n 1, 1) := by decide +kernel
theorem dX10_bytesIn_34 : decode cX10_bytesIn 34 = .ok (.ireturn, 1) := by decide +kernel
def f_X10_bytesIn_25 (q5 : Int32 → Int32 → Int32 → AH → Option (Int32 × AH)) (x0 : Int32) (x2 : Int32) (s0 : Int32) (s1 : Int32) (h : AH) : Option (Int32 × AH) :=
  nm ((s1 + s0)) fun x1_1 =>
  nm (x2 + (-8)) fun x2_3 =>
  q5 x0 x1_1 x2_3 h
def f_X10_bytesIn_5 : Nat → Int32 → Int32 → Int32 → AH → Option (Int32 × AH)
  | 0, _, _, _, _ => none
  | n + 1, x0, x1, x2, h =>
    if x2 < 0 then (
      some (x1, h)
    ) else (
      if ((jiushr x0 x2) &&& 255) = 0 then (
        f_X10_bytesIn_25 (f_X10_bytesIn_5 n) x0 x2 0 x1 h
      ) else (
        f_X10_bytesIn_25 (f_X10_bytesIn_5 n) x0 x2 1 x1 h
      )
    )
def f_X10_bytesIn (x0 : Int32) (h : AH) : Option (Int32 × AH) :=
  f_X10_bytesIn_5 FU x0 0 24 h
set_option maxHeartbeats 4000000 in
set_option maxRecDepth 100000 in
theorem v_X10_bytesIn_25 {E : EV} {d : Nat} (hd : 0 ≤ d) {r0 : Int32} {h0 : AH} {q5 : Int32 → Int32 → Int32 → AH → Option (Int32 × AH)} (cq5 : ∀ (x0 : Int32) (x1 : Int32) (x2 : Int32) (h : AH), q5 x0 x1 x2 h = some (r0, h0) → V E (d + 1) K_X10_bytesIn (ZI E r0 h0) h [(0, .int x0), (1, .int x1), (2, .int x2)] [] 5) {x0 : Int32} {x2 : Int32} {s0 : Int32} {s1 : Int32} {h : AH} (hf : f_X10_bytesIn_25 q5 x0 x2 s0 s1 h = some (r0, h0)) : V E (d + 1) K_X10_bytesIn (ZI E r0 h0) h [(0, .int x0), (2, .int x2)] [.int s0, .int s1] 25 := by
  unfold f_X10_bytesIn_25 at hf
  refine V_iadd dX10_bytesIn_25 ?_
  obtain ⟨x1_1, e_2, hf⟩ := nm_s hf
  refine V_istore_n (L' := [(1, .int x1_1), (0, .int x0), (2, .int x2)]) dX10_bytesIn_26 rfl (Nat.le_of_ble_eq_true rfl) e_2 rfl ?_
  obtain ⟨x2_3, e_4, hf⟩ := nm_s hf
  refine V_iinc (a := (-8)) (L' := [(2, .int x2_3), (1, .int x1_1), (0, .int x0)]) 2 dX10_bytesIn_27 rfl (by decide) (Nat.le_of_ble_eq_true rfl) e_4 rfl ?_
  refine V_goto (tgt := 5) dX10_bytesIn_30 (by decide) ?_
  refine V_sub [2, 1, 0] rfl ?_
  exact cq5 _ _ _ _ hf
set_option maxHeartbeats 4000000 in
set_option maxRecDepth 100000 in
theorem v_X10_bytesIn_5 {E : EV} {d : Nat} (hd : 0 ≤ d) {r0 : Int32} {h0 : AH} : ∀ (n : Nat) (x0 : Int32) (x1 : Int32) (x2 : Int32) (h : AH), f_X10_bytesIn_5 n x0 x1 x2 h = some (r0, h0) → V E (d + 1) K_X10_bytesIn (ZI E r0 h0) h [(0, .int x0), (1, .int x1), (2, .int x2)] [] 5 := by
  intro n
  induction n with
  | zero =>
    intro x0 x1 x2 h hf
    rw [f_X10_bytesIn_5] at hf
    cases hf
  | succ n ih =>
    intro x0 x1 x2 h hf
    rw [f_X10_bytesIn_5] at hf
    refine V_iload_n 2 dX10_bytesIn_5 rfl rfl ?_
    refine V_if_lt (tgt := 33) dX10_bytesIn_6 (by decide) (fun c_1 => ?_) (fun c_1 => ?_)
    · have hf := it_s c_1 hf
      refine V_iload_n 1 dX10_bytesIn_33 rfl rfl ?_
      exact V_iret rfl (so_s hf) dX10_bytesIn_34
    · have hf := if_s c_1 hf
      refine V_iload_n 1 dX10_bytesIn_9 rfl rfl ?_
      refine V_iload_n 0 dX10_bytesIn_10 rfl rfl ?_
      refine V_iload_n 2 dX10_bytesIn_11 rfl rfl ?_
      refine V_iushr dX10_bytesIn_12 ?_
      refine V_sipush (v := 255) dX10_bytesIn_13 (by decide) ?_
      refine V_iand dX10_bytesIn_16 ?_
      refine V_if_ne (tgt := 24) dX10_bytesIn_17 (by decide) (fun c_2 => ?_) (fun c_2 => ?_)
      · have hf := if_s c_2 hf
        refine V_iconst (v := 1) dX10_bytesIn_24 (by decide) ?_
        refine V_sub [0, 2] rfl ?_
        exact v_X10_bytesIn_25 hd ih hf
      · have hf := it_s c_2 hf
        refine V_iconst (v := 0) dX10_bytesIn_20 (by decide) ?_
        refine V_goto (tgt := 25) dX10_bytesIn_21 (by decide) ?_
        refine V_sub [0, 2] rfl ?_
        exact v_X10_bytesIn_25 hd ih hf
set_option maxHeartbeats 4000000 in
set_option maxRecDepth 100000 in
theorem c_X10_bytesIn {E : EV} {d : Nat} (hd : 0 + 1 ≤ d) {x0 : Int32} {h : AH} {r0 : Int32} {h0 : AH} (hf : f_X10_bytesIn x0 h = some (r0, h0)) : Con E d K_X10_bytesIn (ZI E r0 h0) [.int x0] h := by
  obtain ⟨d, rfl⟩ : ∃ d', d = d' + 1 := ⟨d - 1, by omega⟩
  have hd := Nat.le_of_succ_le_succ hd
  refine Con.ofV rfl (Nat.le_of_ble_eq_true rfl) ?_
  unfold f_X10_bytesIn at hf
  show V E (d + 1) K_X10_bytesIn (ZI E r0 h0) h [(0, .int x0)] [] 0
  refine V_iconst (v := 0) dX10_bytesIn_0 (by decide) ?_
  refine V_istore_n (L' := [(1, .int 0), (0, .int x0)]) dX10_bytesIn_1 rfl (Nat.le_of_ble_eq_true rfl) rfl rfl ?_
  refine V_bipush (v := 24) dX10_bytesIn_2 (by decide) ?_
  refine V_istore_n (L' := [(2, .int 24), (1, .int 0), (0, .int x0)]) dX10_bytesIn_4 rfl (Nat.le_of_ble_eq_true rfl) rfl rfl ?_
  refine V_sub [2, 1, 0] rfl ?_
  exact v_X10_bytesIn_5 hd FU _ _ _ _ hf
theorem dX10_next_0 : decode cX10_next 0 = .ok (.aload_n 0, 1) := by decide +kernel
theorem dX10_next_1 : decode cX10_next 1 = .ok (.getfield 19, 3) := by decide +kernel
theorem dX10_next_4 : decode cX10_next 4 = .ok (.aload_n 0, 1) := by decide +kernel
theorem dX10_next_5 : decode cX10_next 5 = .ok (.getfield 15, 3) := by decide +kernel
theorem dX10_next_8 : decode cX10_next 8 = .ok (.if_icmp .ge 30, 3) := by decide +kernel
theorem dX10_next_11 : decode cX10_next 11 = .ok (.aload_n 0, 1) := by decide +kernel
theorem dX10_next_12 : decode cX10_next 12 = .ok (.getfield 9, 3) := by decide +kernel
theorem dX10_next_15 : decode cX10_next 15 = .ok (.aload_n 0, 1) := by decide +kernel
theorem dX10_next_16 : decode cX10_next 16 = .ok (.getfield 19, 3) := by decide +kernel
theorem dX10_next_19 : decode cX10_next 19 = .ok (.caload, 1) := by decide +kernel
theorem dX10_next_20 : decode cX10_next 20 = .ok (.bipush 32, 2) := by decide +kernel
theorem dX10_next_22 : decode cX10_next 22 = .ok (.if_icmp .ne 16, 3) := by decide +kernel
theorem dX10_next_25 : decode cX10_next 25 = .ok (.aload_n 0, 1) := by decide +kernel
theorem dX10_next_26 : decode cX10_next 26 = .ok (.dup, 1) := by decide +kernel
theorem dX10_next_27 : decode cX10_next 27 = .ok (.getfield 19, 3) := by decide +kernel
theorem dX10_next_30 : decode cX10_next 30 = .ok (.iconst 1, 1) := by decide +kernel
theorem dX10_next_31 : decode cX10_next 31 = .ok (.iadd, 1) := by decide +kernel
theorem dX10_next_32 : decode cX10_next 32 = .ok (.putfield 19, 3) := by decide +kernel
theorem dX10_next_35 : decode cX10_next 35 = .ok (.goto (-35), 3) := by decide +kernel
theorem dX10_next_38 : decode cX10_next 38 = .ok (.aload_n 0, 1) := by decide +kernel
theorem dX10_next_39 : decode cX10_next 39 = .ok (.getfield 19, 3) := by decide +kernel
theorem dX10_next_42 : decode cX10_next 42 = .ok (.aload_n 0, 1) := by decide +kernel
theorem dX10_next_43 : decode cX10_next 43 = .ok (.getfield 15, 3) := by decide +kernel
theorem dX10_next_46 : decode cX10_next 46 = .ok (.if_icmp .ge 15, 3) := by decide +kernel
theorem dX10_next_49 : decode cX10_next 49 = .ok (.aload_n 0, 1) := by decide +kernel
theorem dX10_next_50 : decode cX10_next 50 = .ok (.getfield 9, 3) := by decide +kernel
theorem dX10_next_53 : decode cX10_next 53 = .ok (.aload_n 0, 1) := by decide +kernel
theorem dX10_next_54 : decode cX10_next 54 = .ok (.getfield 19, 3) := by decide +kernel
theorem dX10_next_57 : decode cX10_next 57 = .ok (.caload, 1) := by decide +kernel
theorem dX10_next_58 : decode cX10_next 58 = .ok (.goto 4, 3) := by decide +kernel
theorem dX10_next_61 : decode cX10_next 61 = .ok (.iconst (-1), 1) := by decide +kernel
theorem dX10_next_62 : decode cX10_next 62 = .ok (.ireturn, 1) := by decide +kernel
theorem F_X10_19 : FLk RX10 19 10 2 := ⟨RX10, TX10, 3, rfl, rfl, iw_X10, by decide, Or.inl fl_X10_19⟩
theorem F_X10_15 : FLk RX10 15 10 1 := ⟨RX10, TX10, 3, rfl, rfl, iw_X10, by decide, Or.inl fl_X10_15⟩
theorem F_X10_9 : FLk RX10 9 10 0 := ⟨RX10, TX10, 3, rfl, rfl, iw_X10, by decide, Or.inl fl_X10_9⟩
theorem P_X10_19 : FPk RX10 19 10 2 .int := ⟨RX10, TX10, 3, tyX10, rfl, rfl, iw_X10, by decide, Or.inl fl_X10_19, tyX10_ok, nmX10, rfl, by decide +kernel⟩
def f_X10_next_62 (s0 : Int32) (h : AH) : Option (Int32 × AH) :=
  some (s0, h)
def f_X10_next_38 (k0 : Nat) (h : AH) : Option (Int32 × AH) :=
  if (h.1 k0 1) ≤ (h.1 k0 2) then (
    f_X10_next_62 (-1) h
  ) else (
    og (ix (h.1 k0 2) (an (rf k0 0))) <|
    f_X10_next_62 (h.1 (rf k0 0) (h.1 k0 2).toNatClampNeg) h
  )
def f_X10_next_0 : Nat → Nat → AH → Option (Int32 × AH)
  | 0, _, _ => none
  | n + 1, k0, h =>
    if (h.1 k0 1) ≤ (h.1 k0 2) then (
      f_X10_next_38 k0 h
    ) else (
      og (ix (h.1 k0 2) (an (rf k0 0))) <|
      if (h.1 (rf k0 0) (h.1 k0 2).toNatClampNeg) = 32 then (
        nm (sI h k0 2 ((h.1 k0 2) + 1)) fun h_4 =>
        f_X10_next_0 n k0 h_4
      ) else (
        f_X10_next_38 k0 h
      )
    )
def f_X10_next (k0 : Nat) (h : AH) : Option (Int32 × AH) :=
  f_X10_next_0 FU k0 h
set_option maxHeartbeats 4000000 in
set_option maxRecDepth 100000 in
theorem v_X10_next_62 {E : EV} {d : Nat} (hd : 0 ≤ d) {r0 : Int32} {h0 : AH} {s0 : Int32} {h : AH} (hf : f_X10_next_62 s0 h = some (r0, h0)) : V E (d + 1) K_X10_next (ZI E r0 h0) h [] [.int s0] 62 := by
  unfold f_X10_next_62 at hf
  exact V_iret rfl (so_s hf) dX10_next_62
set_option maxHeartbeats 4000000 in
set_option maxRecDepth 100000 in
theorem v_X10_next_38 {E : EV} {d : Nat} (hd : 0 ≤ d) {r0 : Int32} {h0 : AH} {k0 : Nat} {h : AH} (hf : f_X10_next_38 k0 h = some (r0, h0)) (t_k0 : kd k0 = (0, 10)) : V E (d + 1) K_X10_next (ZI E r0 h0) h [(0, .ref k0)] [] 38 := by
  unfold f_X10_next_38 at hf
  refine V_aload_n 0 dX10_next_38 rfl rfl ?_
  refine V_getI F_X10_19 rfl t_k0 rfl dX10_next_39 ?_
  refine V_aload_n 0 dX10_next_42 rfl rfl ?_
  refine V_getI F_X10_15 rfl t_k0 rfl dX10_next_43 ?_
  refine V_ic_ge (tgt := 61) dX10_next_46 (by decide) (fun c_1 => ?_) (fun c_1 => ?_)
  · have hf := it_s c_1 hf
    refine V_iconst (v := (-1)) dX10_next_61 (by decide) ?_
    refine V_sub [] rfl ?_
    exact v_X10_next_62 hd hf
  · have hf := if_s c_1 hf
    refine V_aload_n 0 dX10_next_49 rfl rfl ?_
    refine V_getR F_X10_9 rfl t_k0 rfl dX10_next_50 ?_
    refine V_aload_n 0 dX10_next_53 rfl rfl ?_
    refine V_getI F_X10_19 rfl t_k0 rfl dX10_next_54 ?_
    obtain ⟨b_2, hf⟩ := og_s hf
    refine V_cald (rfA t_k0 (Nat.le_of_ble_eq_true rfl) rfl rfl (by decide)) b_2 dX10_next_57 ?_
    refine V_goto (tgt := 62) dX10_next_58 (by decide) ?_
    refine V_sub [] rfl ?_
    exact v_X10_next_62 hd hf
set_option maxHeartbeats 4000000 in
set_option maxRecDepth 100000 in
theorem v_X10_next_0 {E : EV} {d : Nat} (hd : 0 ≤ d) {r0 : Int32} {h0 : AH} : ∀ (n : Nat) (k0 : Nat) (h : AH), f_X10_next_0 n k0 h = some (r0, h0) → kd k0 = (0, 10) → V E (d + 1) K_X10_next (ZI E r0 h0) h [(0, .ref k0)] [] 0 := by
  intro n
  induction n with
  | zero =>
    intro k0 h hf
    rw [f_X10_next_0] at hf
    cases hf
  | succ n ih =>
    intro k0 h hf t_k0
    rw [f_X10_next_0] at hf
    refine V_aload_n 0 dX10_next_0 rfl rfl ?_
    refine V_getI F_X10_19 rfl t_k0 rfl dX10_next_1 ?_
    refine V_aload_n 0 dX10_next_4 rfl rfl ?_
    refine V_getI F_X10_15 rfl t_k0 rfl dX10_next_5 ?_
    refine V_ic_ge (tgt := 38) dX10_next_8 (by decide) (fun c_1 => ?_) (fun c_1 => ?_)
    · have hf := it_s c_1 hf
      exact v_X10_next_38 hd hf t_k0
    · have hf := if_s c_1 hf
      refine V_aload_n 0 dX10_next_11 rfl rfl ?_
      refine V_getR F_X10_9 rfl t_k0 rfl dX10_next_12 ?_
      refine V_aload_n 0 dX10_next_15 rfl rfl ?_
      refine V_getI F_X10_19 rfl t_k0 rfl dX10_next_16 ?_
      obtain ⟨b_2, hf⟩ := og_s hf
      refine V_cald (rfA t_k0 (Nat.le_of_ble_eq_true rfl) rfl rfl (by decide)) b_2 dX10_next_19 ?_
      refine V_bipush (v := 32) dX10_next_20 (by decide) ?_
      refine V_ic_ne (tgt := 38) dX10_next_22 (by decide) (fun c_3 => ?_) (fun c_3 => ?_)
      · have hf := if_s c_3 hf
        exact v_X10_next_38 hd hf t_k0
      · have hf := it_s c_3 hf
        refine V_aload_n 0 dX10_next_25 rfl rfl ?_
        refine V_dup dX10_next_26 rfl ?_
        refine V_getI F_X10_19 rfl t_k0 rfl dX10_next_27 ?_
        refine V_iconst (v := 1) dX10_next_30 (by decide) ?_
        refine V_iadd dX10_next_31 ?_
        obtain ⟨h_4, e_5, hf⟩ := nm_s hf
        refine V_putI P_X10_19 rfl t_k0 rfl e_5 dX10_next_32 ?_
        refine V_goto (tgt := 0) dX10_next_35 (by decide) ?_
        exact ih _ _ hf t_k0
set_option maxHeartbeats 4000000 in
set_option maxRecDepth 100000 in
theorem c_X10_next {E : EV} {d : Nat} (hd : 0 + 1 ≤ d) {k0 : Nat} {h : AH} {r0 : Int32} {h0 : AH} (hf : f_X10_next k0 h = some (r0, h0)) (t_k0 : kd k0 = (0, 10)) : Con E d K_X10_next (ZI E r0 h0) [.ref k0] h := by
  obtain ⟨d, rfl⟩ : ∃ d', d = d' + 1 := ⟨d - 1, by omega⟩
  have hd := Nat.le_of_succ_le_succ hd
  refine Con.ofV rfl (Nat.le_of_ble_eq_true rfl) ?_
  unfold f_X10_next at hf
  show V E (d + 1) K_X10_next (ZI E r0 h0) h [(0, .ref k0)] [] 0
  exact v_X10_next_0 hd FU _ _ hf t_k0
theorem dX10_pass_0 : decode cX10_pass 0 = .ok (.aload_n 0, 1) := by decide +kernel
theorem dX10_pass_1 : decode cX10_pass 1 = .ok (.invokevirtual 22, 3) := by decide +kernel
theorem dX10_pass_4 : decode cX10_pass 4 = .ok (.iload_n 1, 1) := by decide +kernel
theorem dX10_pass_5 : decode cX10_pass 5 = .ok (.if_icmp .eq 5, 3) := by decide +kernel
theorem dX10_pass_8 : decode cX10_pass 8 = .ok (.iconst 0, 1) := by decide +kernel
theorem dX10_pass_9 : decode cX10_pass 9 = .ok (.ireturn, 1) := by decide +kernel
theorem dX10_pass_10 : decode cX10_pass 10 = .ok (.aload_n 0, 1) := by decide +kernel
theorem dX10_pass_11 : decode cX10_pass 11 = .ok (.dup, 1) := by decide +kernel
theorem dX10_pass_12 : decode cX10_pass 12 = .ok (.getfield 19, 3) := by decide +kernel
theorem dX10_pass_15 : decode cX10_pass 15 = .ok (.iconst 1, 1) := by decide +kernel
theorem dX10_pass_16 : decode cX10_pass 16 = .ok (.iadd, 1) := by decide +kernel
theorem dX10_pass_17 : decode cX10_pass 17 = .ok (.putfield 19, 3) := by decide +kernel
theorem dX10_pass_20 : decode cX10_pass 20 = .ok (.iconst 1, 1) := by decide +kernel
theorem dX10_pass_21 : decode cX10_pass 21 = .ok (.ireturn, 1) := by decide +kernel
theorem ML_X10_22 : MLk RX10 22 yX10_next := Or.inl ml_X10_22
theorem MV_X10_next : MVk K_X10_next 0 10 := ⟨⟨cd_X10_next, in_X10, ⟨by decide, by decide, by decide +kernel⟩, by decide⟩, im_X10_next, se_X10_next, _, _, rfl⟩
def f_X10_pass (k0 : Nat) (x1 : Int32) (h : AH) : Option (Int32 × AH) :=
  ob (f_X10_next k0 h) fun r_3 h_2 =>
  if r_3 = x1 then (
    nm (sI h_2 k0 2 ((h_2.1 k0 2) + 1)) fun h_5 =>
    some (1, h_5)
  ) else (
    some (0, h_2)
  )
set_option maxHeartbeats 4000000 in
set_option maxRecDepth 100000 in
theorem c_X10_pass {E : EV} {d : Nat} (hd : 1 + 1 ≤ d) {k0 : Nat} {x1 : Int32} {h : AH} {r0 : Int32} {h0 : AH} (hf : f_X10_pass k0 x1 h = some (r0, h0)) (t_k0 : kd k0 = (0, 10)) : Con E d K_X10_pass (ZI E r0 h0) [.ref k0, .int x1] h := by
  obtain ⟨d, rfl⟩ : ∃ d', d = d' + 1 := ⟨d - 1, by omega⟩
  have hd := Nat.le_of_succ_le_succ hd
  refine Con.ofV rfl (Nat.le_of_ble_eq_true rfl) ?_
  unfold f_X10_pass at hf
  show V E (d + 1) K_X10_pass (ZI E r0 h0) h [(0, .ref k0), (1, .int x1)] [] 0
  refine V_aload_n 0 dX10_pass_0 rfl rfl ?_
  obtain ⟨r_3, h_2, e_1, hf⟩ := ob_s hf
  refine V_cvi (As := []) (rest := []) (c_X10_next (d := d) (Nat.le_trans (Nat.le_of_ble_eq_true rfl) hd) e_1 t_k0) ML_X10_22 MV_X10_next rfl t_k0 rfl rfl (Nat.le_of_ble_eq_true rfl) dX10_pass_1 ?_
  refine V_iload_n 1 dX10_pass_4 rfl rfl ?_
  refine V_ic_eq (tgt := 10) dX10_pass_5 (by decide) (fun c_4 => ?_) (fun c_4 => ?_)
  · have hf := it_s c_4 hf
    refine V_aload_n 0 dX10_pass_10 rfl rfl ?_
    refine V_dup dX10_pass_11 rfl ?_
    refine V_getI F_X10_19 rfl t_k0 rfl dX10_pass_12 ?_
    refine V_iconst (v := 1) dX10_pass_15 (by decide) ?_
    refine V_iadd dX10_pass_16 ?_
    obtain ⟨h_5, e_6, hf⟩ := nm_s hf
    refine V_putI P_X10_19 rfl t_k0 rfl e_6 dX10_pass_17 ?_
    refine V_iconst (v := 1) dX10_pass_20 (by decide) ?_
    exact V_zret rfl (by decide) (so_s hf) dX10_pass_21
  · have hf := if_s c_4 hf
    refine V_iconst (v := 0) dX10_pass_8 (by decide) ?_
    exact V_zret rfl (by decide) (so_s hf) dX10_pass_9
theorem dX10_put_0 : decode cX10_put 0 = .ok (.bipush 24, 2) := by decide +kernel
theorem dX10_put_2 : decode cX10_put 2 = .ok (.istore_n 2, 1) := by decide +kernel
theorem dX10_put_3 : decode cX10_put 3 = .ok (.iload_n 2, 1) := by decide +kernel
theorem dX10_put_4 : decode cX10_put 4 = .ok (.ifCond .lt 52, 3) := by decide +kernel
theorem dX10_put_7 : decode cX10_put 7 = .ok (.iload_n 1, 1) := by decide +kernel
theorem dX10_put_8 : decode cX10_put 8 = .ok (.iload_n 2, 1) := by decide +kernel
theorem dX10_put_9 : decode cX10_put 9 = .ok (.iushr, 1) := by decide +kernel
theorem dX10_put_10 : decode cX10_put 10 = .ok (.sipush 255, 3) := by decide +kernel
theorem dX10_put_13 : decode cX10_put 13 = .ok (.iand, 1) := by decide +kernel
theorem dX10_put_14 : decode cX10_put 14 = .ok (.istore_n 3, 1) := by decide +kernel
theorem dX10_put_15 : decode cX10_put 15 = .ok (.iload_n 3, 1) := by decide +kernel
theorem dX10_put_16 : decode cX10_put 16 = .ok (.ifCond .eq 34, 3) := by decide +kernel
theorem dX10_put_19 : decode cX10_put 19 = .ok (.aload_n 0, 1) := by decide +kernel
theorem dX10_put_20 : decode cX10_put 20 = .ok (.getfield 15, 3) := by decide +kernel
theorem dX10_put_23 : decode cX10_put 23 = .ok (.sipush 160, 3) := by decide +kernel
theorem dX10_put_26 : decode cX10_put 26 = .ok (.if_icmp .ge 24, 3) := by decide +kernel
theorem dX10_put_29 : decode cX10_put 29 = .ok (.aload_n 0, 1) := by decide +kernel
theorem dX10_put_30 : decode cX10_put 30 = .ok (.getfield 9, 3) := by decide +kernel
theorem dX10_put_33 : decode cX10_put 33 = .ok (.aload_n 0, 1) := by decide +kernel
theorem dX10_put_34 : decode cX10_put 34 = .ok (.getfield 15, 3) := by decide +kernel
theorem dX10_put_37 : decode cX10_put 37 = .ok (.iload_n 3, 1) := by decide +kernel
theorem dX10_put_38 : decode cX10_put 38 = .ok (.i2c, 1) := by decide +kernel
theorem dX10_put_39 : decode cX10_put 39 = .ok (.castore, 1) := by decide +kernel
theorem dX10_put_40 : decode cX10_put 40 = .ok (.aload_n 0, 1) := by decide +kernel
theorem dX10_put_41 : decode cX10_put 41 = .ok (.dup, 1) := by decide +kernel
theorem dX10_put_42 : decode cX10_put 42 = .ok (.getfield 15, 3) := by decide +kernel
theorem dX10_put_45 : decode cX10_put 45 = .ok (.iconst 1, 1) := by decide +kernel
theorem dX10_put_46 : decode cX10_put 46 = .ok (.iadd, 1) := by decide +kernel
theorem dX10_put_47 : decode cX10_put 47 = .ok (.putfield 15, 3) := by decide +kernel
theorem dX10_put_50 : decode cX10_put 50 = .ok (.iinc 2 (-8), 3) := by decide +kernel
theorem dX10_put_53 : decode cX10_put 53 = .ok (.goto (-50), 3) := by decide +kernel
theorem dX10_put_56 : decode cX10_put 56 = .ok (.return_, 1) := by decide +kernel
theorem P_X10_15 : FPk RX10 15 10 1 .int := ⟨RX10, TX10, 3, tyX10, rfl, rfl, iw_X10, by decide, Or.inl fl_X10_15, tyX10_ok, nmX10, rfl, by decide +kernel⟩
def f_X10_put_50 (q3 : Nat → Int32 → Int32 → AH → Option AH) (k0 : Nat) (x1 : Int32) (x2 : Int32) (h : AH) : Option AH :=
  nm (x2 + (-8)) fun x2_1 =>
  q3 k0 x1 x2_1 h
def f_X10_put_3 : Nat → Nat → Int32 → Int32 → AH → Option AH
  | 0, _, _, _, _ => none
  | n + 1, k0, x1, x2, h =>
    if x2 < 0 then (
      some h
    ) else (
      nm (((jiushr x1 x2) &&& 255)) fun x3_2 =>
      if x3_2 = 0 then (
        f_X10_put_50 (f_X10_put_3 n) k0 x1 x2 h
      ) else (
        if 160 ≤ (h.1 k0 1) then (
          f_X10_put_50 (f_X10_put_3 n) k0 x1 x2 h
        ) else (
          og (ix (h.1 k0 1) (an (rf k0 0))) <|
          nm (sI h (rf k0 0) (h.1 k0 1).toNatClampNeg (vp_nar .char (((x3_2).toUInt32 % 65536).toInt32))) fun h_7 =>
          nm (sI h_7 k0 1 ((h_7.1 k0 1) + 1)) fun h_9 =>
          f_X10_put_50 (f_X10_put_3 n) k0 x1 x2 h_9
        )
      )
    )
def f_X10_put (k0 : Nat) (x1 : Int32) (h : AH) : Option AH :=
  f_X10_put_3 FU k0 x1 24 h
set_option maxHeartbeats 4000000 in
set_option maxRecDepth 100000 in
theorem v_X10_put_50 {E : EV} {d : Nat} (hd : 0 ≤ d) {h0 : AH} {q3 : Nat → Int32 → Int32 → AH → Option AH} (cq3 : ∀ (k0 : Nat) (x1 : Int32) (x2 : Int32) (h : AH), q3 k0 x1 x2 h = some h0 → kd k0 = (0, 10) → V E (d + 1) K_X10_put (ZV E h0) h [(0, .ref k0), (1, .int x1), (2, .int x2)] [] 3) {k0 : Nat} {x1 : Int32} {x2 : Int32} {h : AH} (hf : f_X10_put_50 q3 k0 x1 x2 h = some h0) (t_k0 : kd k0 = (0, 10)) : V E (d + 1) K_X10_put (ZV E h0) h [(0, .ref k0), (1, .int x1), (2, .int x2)] [] 50 := by
  unfold f_X10_put_50 at hf
  obtain ⟨x2_1, e_2, hf⟩ := nm_s hf
  refine V_iinc (a := (-8)) (L' := [(2, .int x2_1), (0, .ref k0), (1, .int x1)]) 2 dX10_put_50 rfl (by decide) (Nat.le_of_ble_eq_true rfl) e_2 rfl ?_
  refine V_goto (tgt := 3) dX10_put_53 (by decide) ?_
  refine V_sub [1, 2, 0] rfl ?_
  exact cq3 _ _ _ _ hf t_k0
set_option maxHeartbeats 4000000 in
set_option maxRecDepth 100000 in
theorem v_X10_put_3 {E : EV} {d : Nat} (hd : 0 ≤ d) {h0 : AH} : ∀ (n : Nat) (k0 : Nat) (x1 : Int32) (x2 : Int32) (h : AH), f_X10_put_3 n k0 x1 x2 h = some h0 → kd k0 = (0, 10) → V E (d + 1) K_X10_put (ZV E h0) h [(0, .ref k0), (1, .int x1), (2, .int x2)] [] 3 := by
  intro n
  induction n with
  | zero =>
    intro k0 x1 x2 h hf
    rw [f_X10_put_3] at hf
    cases hf
  | succ n ih =>
    intro k0 x1 x2 h hf t_k0
    rw [f_X10_put_3] at hf
    refine V_iload_n 2 dX10_put_3 rfl rfl ?_
    refine V_if_lt (tgt := 56) dX10_put_4 (by decide) (fun c_1 => ?_) (fun c_1 => ?_)
    · have hf := it_s c_1 hf
      exact V_vret rfl (so_s hf) dX10_put_56
    · have hf := if_s c_1 hf
      refine V_iload_n 1 dX10_put_7 rfl rfl ?_
      refine V_iload_n 2 dX10_put_8 rfl rfl ?_
      refine V_iushr dX10_put_9 ?_
      refine V_sipush (v := 255) dX10_put_10 (by decide) ?_
      refine V_iand dX10_put_13 ?_
      obtain ⟨x3_2, e_3, hf⟩ := nm_s hf
      refine V_istore_n (L' := [(3, .int x3_2), (0, .ref k0), (1, .int x1), (2, .int x2)]) dX10_put_14 rfl (Nat.le_of_ble_eq_true rfl) e_3 rfl ?_
      refine V_iload_n 0 dX10_put_15 rfl rfl ?_
      refine V_if_eq (tgt := 50) dX10_put_16 (by decide) (fun c_4 => ?_) (fun c_4 => ?_)
      · have hf := it_s c_4 hf
        refine V_sub [1, 2, 3] rfl ?_
        exact v_X10_put_50 hd ih hf t_k0
      · have hf := if_s c_4 hf
        refine V_aload_n 1 dX10_put_19 rfl rfl ?_
        refine V_getI F_X10_15 rfl t_k0 rfl dX10_put_20 ?_
        refine V_sipush (v := 160) dX10_put_23 (by decide) ?_
        refine V_ic_ge (tgt := 50) dX10_put_26 (by decide) (fun c_5 => ?_) (fun c_5 => ?_)
        · have hf := it_s c_5 hf
          refine V_sub [1, 2, 3] rfl ?_
          exact v_X10_put_50 hd ih hf t_k0
        · have hf := if_s c_5 hf
          refine V_aload_n 1 dX10_put_29 rfl rfl ?_
          refine V_getR F_X10_9 rfl t_k0 rfl dX10_put_30 ?_
          refine V_aload_n 1 dX10_put_33 rfl rfl ?_
          refine V_getI F_X10_15 rfl t_k0 rfl dX10_put_34 ?_
          refine V_iload_n 0 dX10_put_37 rfl rfl ?_
          refine V_i2c dX10_put_38 ?_
          obtain ⟨b_6, hf⟩ := og_s hf
          obtain ⟨h_7, e_8, hf⟩ := nm_s hf
          refine V_cast (rfA t_k0 (Nat.le_of_ble_eq_true rfl) rfl rfl (by decide)) b_6 e_8 dX10_put_39 ?_
          refine V_aload_n 1 dX10_put_40 rfl rfl ?_
          refine V_dup dX10_put_41 rfl ?_
          refine V_getI F_X10_15 rfl t_k0 rfl dX10_put_42 ?_
          refine V_iconst (v := 1) dX10_put_45 (by decide) ?_
          refine V_iadd dX10_put_46 ?_
          obtain ⟨h_9, e_10, hf⟩ := nm_s hf
          refine V_putI P_X10_15 rfl t_k0 rfl e_10 dX10_put_47 ?_
          refine V_sub [1, 2, 3] rfl ?_
          exact v_X10_put_50 hd ih hf t_k0
set_option maxHeartbeats 4000000 in
set_option maxRecDepth 100000 in
theorem c_X10_put {E : EV} {d : Nat} (hd : 0 + 1 ≤ d) {k0 : Nat} {x1 : Int32} {h : AH} {h0 : AH} (hf : f_X10_put k0 x1 h = some h0) (t_k0 : kd k0 = (0, 10)) : Con E d K_X10_put (ZV E h0) [.ref k0, .int x1] h := by
  obtain ⟨d, rfl⟩ : ∃ d', d = d' + 1 := ⟨d - 1, by omega⟩
  have hd := Nat.le_of_succ_le_succ hd
  refine Con.ofV rfl (Nat.le_of_ble_eq_true rfl) ?_
  unfold f_X10_put at hf
  show V E (d + 1) K_X10_put (ZV E h0) h [(0, .ref k0), (1, .int x1)] [] 0
  refine V_bipush (v := 24) dX10_put_0 (by decide) ?_
  refine V_istore_n (L' := [(2, .int 24), (0, .ref k0), (1, .int x1)]) dX10_put_2 rfl (Nat.le_of_ble_eq_true rfl) rfl rfl ?_
  refine V_sub [1, 2, 0] rfl ?_
  exact v_X10_put_3 hd FU _ _ _ _ hf t_k0
theorem dX11_isDigit_0 : decode cX11_isDigit 0 = .ok (.iload_n 0, 1) := by decide +kernel
theorem dX11_isDigit_1 : decode cX11_isDigit 1 = .ok (.bipush 48, 2) := by decide +kernel
theorem dX11_isDigit_3 : decode cX11_isDigit 3 = .ok (.if_icmp .lt 13, 3) := by decide +kernel
theorem dX11_isDigit_6 : decode cX11_isDigit 6 = .ok (.iload_n 0, 1) := by decide +kernel
theorem dX11_isDigit_7 : decode cX11_isDigit 7 = .ok (.bipush 57, 2) := by decide +kernel
theorem dX11_isDigit_9 : decode cX11_isDigit 9 = .ok (.if_icmp .gt 7, 3) := by decide +kernel
theorem dX11_isDigit_12 : decode cX11_isDigit 12 = .ok (.iconst 1, 1) := by decide +kernel
theorem dX11_isDigit_13 : decode cX11_isDigit 13 = .ok (.goto 4, 3) := by decide +kernel
theorem dX11_isDigit_16 : decode cX11_isDigit 16 = .ok (.iconst 0, 1) := by decide +kernel
theorem dX11_isDigit_17 : decode cX11_isDigit 17 = .ok (.ireturn, 1) := by decide +kernel
def f_X11_isDigit_17 (s0 : Int32) (h : AH) : Option (Int32 × AH) :=
  og (bz s0) <|
  some (s0, h)
def f_X11_isDigit_16  (h : AH) : Option (Int32 × AH) :=
  f_X11_isDigit_17 0 h
def f_X11_isDigit (x0 : Int32) (h : AH) : Option (Int32 × AH) :=
  if x0 < 48 then (
    f_X11_isDigit_16 h
  ) else (
    if 57 < x0 then (
      f_X11_isDigit_16 h
    ) else (
      f_X11_isDigit_17 1 h
    )
  )
set_option maxHeartbeats 4000000 in
set_option maxRecDepth 100000 in
theorem v_X11_isDigit_17 {E : EV} {d : Nat} (hd : 0 ≤ d) {r0 : Int32} {h0 : AH} {s0 : Int32} {h : AH} (hf : f_X11_isDigit_17 s0 h = some (r0, h0)) : V E (d + 1) K_X11_isDigit (ZI E r0 h0) h [] [.int s0] 17 := by
  unfold f_X11_isDigit_17 at hf
  obtain ⟨b_1, hf⟩ := og_s hf
  exact V_zret rfl b_1 (so_s hf) dX11_isDigit_17
set_option maxHeartbeats 4000000 in
set_option maxRecDepth 100000 in
theorem v_X11_isDigit_16 {E : EV} {d : Nat} (hd : 0 ≤ d) {r0 : Int32} {h0 : AH}  {h : AH} (hf : f_X11_isDigit_16 h = some (r0, h0)) : V E (d + 1) K_X11_isDigit (ZI E r0 h0) h [] [] 16 := by
  unfold f_X11_isDigit_16 at hf
  refine V_iconst (v := 0) dX11_isDigit_16 (by decide) ?_
  exact v_X11_isDigit_17 hd hf
set_option maxHeartbeats 4000000 in
set_option maxRecDepth 100000 in
theorem c_X11_isDigit {E : EV} {d : Nat} (hd : 0 + 1 ≤ d) {x0 : Int32} {h : AH} {r0 : Int32} {h0 : AH} (hf : f_X11_isDigit x0 h = some (r0, h0)) : Con E d K_X11_isDigit (ZI E r0 h0) [.int x0] h := by
  obtain ⟨d, rfl⟩ : ∃ d', d = d' + 1 := ⟨d - 1, by omega⟩
  have hd := Nat.le_of_succ_le_succ hd
  refine Con.ofV rfl (Nat.le_of_ble_eq_true rfl) ?_
  unfold f_X11_isDigit at hf
  show V E (d + 1) K_X11_isDigit (ZI E r0 h0) h [(0, .int x0)] [] 0
  refine V_iload_n 0 dX11_isDigit_0 rfl rfl ?_
  refine V_bipush (v := 48) dX11_isDigit_1 (by decide) ?_
  refine V_ic_lt (tgt := 16) dX11_isDigit_3 (by decide) (fun c_1 => ?_) (fun c_1 => ?_)
  · have hf := it_s c_1 hf
    refine V_sub [] rfl ?_
    exact v_X11_isDigit_16 hd hf
  · have hf := if_s c_1 hf
    refine V_iload_n 0 dX11_isDigit_6 rfl rfl ?_
    refine V_bipush (v := 57) dX11_isDigit_7 (by decide) ?_
    refine V_ic_gt (tgt := 16) dX11_isDigit_9 (by decide) (fun c_2 => ?_) (fun c_2 => ?_)
    · have hf := it_s c_2 hf
      refine V_sub [] rfl ?_
      exact v_X11_isDigit_16 hd hf
    · have hf := if_s c_2 hf
      refine V_iconst (v := 1) dX11_isDigit_12 (by decide) ?_
      refine V_goto (tgt := 17) dX11_isDigit_13 (by decide) ?_
      refine V_sub [] rfl ?_
      exact v_X11_isDigit_17 hd hf
