theorem dX5_readOrder_0 : decode cX5_readOrder 0 = .ok (.aload_n 0, 1) := by decide +kernel
theorem dX5_readOrder_1 : decode cX5_readOrder 1 = .ok (.iload_n 2, 1) := by decide +kernel
theorem dX5_readOrder_2 : decode cX5_readOrder 2 = .ok (.invokestatic 28, 3) := by decide +kernel
theorem dX5_readOrder_5 : decode cX5_readOrder 5 = .ok (.putfield 34, 3) := by decide +kernel
theorem dX5_readOrder_8 : decode cX5_readOrder 8 = .ok (.iload_n 1, 1) := by decide +kernel
theorem dX5_readOrder_9 : decode cX5_readOrder 9 = .ok (.istore_n 3, 1) := by decide +kernel
theorem dX5_readOrder_10 : decode cX5_readOrder 10 = .ok (.iconst 0, 1) := by decide +kernel
theorem dX5_readOrder_11 : decode cX5_readOrder 11 = .ok (.istore 4, 2) := by decide +kernel
theorem dX5_readOrder_13 : decode cX5_readOrder 13 = .ok (.aload_n 0, 1) := by decide +kernel
theorem dX5_readOrder_14 : decode cX5_readOrder 14 = .ok (.getfield 34, 3) := by decide +kernel
theorem dX5_readOrder_17 : decode cX5_readOrder 17 = .ok (.iconst 1, 1) := by decide +kernel
theorem dX5_readOrder_18 : decode cX5_readOrder 18 = .ok (.isub, 1) := by decide +kernel
theorem dX5_readOrder_19 : decode cX5_readOrder 19 = .ok (.istore 5, 2) := by decide +kernel
theorem dX5_readOrder_21 : decode cX5_readOrder 21 = .ok (.iload 5, 2) := by decide +kernel
theorem dX5_readOrder_23 : decode cX5_readOrder 23 = .ok (.ifCond .lt 52, 3) := by decide +kernel
theorem dX5_readOrder_26 : decode cX5_readOrder 26 = .ok (.iload_n 3, 1) := by decide +kernel
theorem dX5_readOrder_27 : decode cX5_readOrder 27 = .ok (.bipush 10, 2) := by decide +kernel
theorem dX5_readOrder_29 : decode cX5_readOrder 29 = .ok (.irem, 1) := by decide +kernel
theorem dX5_readOrder_30 : decode cX5_readOrder 30 = .ok (.istore 6, 2) := by decide +kernel
theorem dX5_readOrder_32 : decode cX5_readOrder 32 = .ok (.iload 6, 2) := by decide +kernel
theorem dX5_readOrder_34 : decode cX5_readOrder 34 = .ok (.ifCond .lt 10, 3) := by decide +kernel
theorem dX5_readOrder_37 : decode cX5_readOrder 37 = .ok (.iload 6, 2) := by decide +kernel
theorem dX5_readOrder_39 : decode cX5_readOrder 39 = .ok (.bipush 6, 2) := by decide +kernel
theorem dX5_readOrder_41 : decode cX5_readOrder 41 = .ok (.if_icmp .lt 5, 3) := by decide +kernel
theorem dX5_readOrder_44 : decode cX5_readOrder 44 = .ok (.iconst 0, 1) := by decide +kernel
theorem dX5_readOrder_45 : decode cX5_readOrder 45 = .ok (.ireturn, 1) := by decide +kernel
theorem dX5_readOrder_46 : decode cX5_readOrder 46 = .ok (.aload_n 0, 1) := by decide +kernel
theorem dX5_readOrder_47 : decode cX5_readOrder 47 = .ok (.getfield 9, 3) := by decide +kernel
theorem dX5_readOrder_50 : decode cX5_readOrder 50 = .ok (.iload 5, 2) := by decide +kernel
theorem dX5_readOrder_52 : decode cX5_readOrder 52 = .ok (.iload 6, 2) := by decide +kernel
theorem dX5_readOrder_54 : decode cX5_readOrder 54 = .ok (.iastore, 1) := by decide +kernel
theorem dX5_readOrder_55 : decode cX5_readOrder 55 = .ok (.iload 4, 2) := by decide +kernel
theorem dX5_readOrder_57 : decode cX5_readOrder 57 = .ok (.iconst 1, 1) := by decide +kernel
theorem dX5_readOrder_58 : decode cX5_readOrder 58 = .ok (.iload 6, 2) := by decide +kernel
theorem dX5_readOrder_60 : decode cX5_readOrder 60 = .ok (.ishl, 1) := by decide +kernel
theorem dX5_readOrder_61 : decode cX5_readOrder 61 = .ok (.ior, 1) := by decide +kernel
theorem dX5_readOrder_62 : decode cX5_readOrder 62 = .ok (.istore 4, 2) := by decide +kernel
theorem dX5_readOrder_64 : decode cX5_readOrder 64 = .ok (.iload_n 3, 1) := by decide +kernel
theorem dX5_readOrder_65 : decode cX5_readOrder 65 = .ok (.bipush 10, 2) := by decide +kernel
theorem dX5_readOrder_67 : decode cX5_readOrder 67 = .ok (.idiv, 1) := by decide +kernel
theorem dX5_readOrder_68 : decode cX5_readOrder 68 = .ok (.istore_n 3, 1) := by decide +kernel
theorem dX5_readOrder_69 : decode cX5_readOrder 69 = .ok (.iinc 5 (-1), 3) := by decide +kernel
theorem dX5_readOrder_72 : decode cX5_readOrder 72 = .ok (.goto (-51), 3) := by decide +kernel
theorem dX5_readOrder_75 : decode cX5_readOrder 75 = .ok (.iload_n 3, 1) := by decide +kernel
theorem dX5_readOrder_76 : decode cX5_readOrder 76 = .ok (.ifCond .ne 13, 3) := by decide +kernel
theorem dX5_readOrder_79 : decode cX5_readOrder 79 = .ok (.iload 4, 2) := by decide +kernel
theorem dX5_readOrder_81 : decode cX5_readOrder 81 = .ok (.iload_n 2, 1) := by decide +kernel
theorem dX5_readOrder_82 : decode cX5_readOrder 82 = .ok (.if_icmp .ne 7, 3) := by decide +kernel
theorem dX5_readOrder_85 : decode cX5_readOrder 85 = .ok (.iconst 1, 1) := by decide +kernel
theorem dX5_readOrder_86 : decode cX5_readOrder 86 = .ok (.goto 4, 3) := by decide +kernel
theorem dX5_readOrder_89 : decode cX5_readOrder 89 = .ok (.iconst 0, 1) := by decide +kernel
theorem dX5_readOrder_90 : decode cX5_readOrder 90 = .ok (.ireturn, 1) := by decide +kernel
theorem ML_X5_28 : MLk RX5 28 yJ6_bitCount_0f7a4 := Or.inl ml_X5_28
def f_X5_readOrder_44  (h : AH) : Option (Int32 × AH) :=
  some (0, h)
def f_X5_readOrder_90 (s0 : Int32) (h : AH) : Option (Int32 × AH) :=
  og (bz s0) <|
  some (s0, h)
def f_X5_readOrder_89  (h : AH) : Option (Int32 × AH) :=
  f_X5_readOrder_90 0 h
def f_X5_readOrder_21 : Nat → Nat → Int32 → Int32 → Int32 → Int32 → AH → Option (Int32 × AH)
  | 0, _, _, _, _, _, _ => none
  | n + 1, k0, x2, x3, x4, x5, h =>
    if x5 < 0 then (
      if x3 = 0 then (
        if x4 = x2 then (
          f_X5_readOrder_90 1 h
        ) else (
          f_X5_readOrder_89 h
        )
      ) else (
        f_X5_readOrder_89 h
      )
    ) else (
      nm ((jirem x3 10)) fun x6_4 =>
      if x6_4 < 0 then (
        f_X5_readOrder_44 h
      ) else (
        if x6_4 < 6 then (
          og (ix x5 (an (rf k0 1))) <|
          nm (sI h (rf k0 1) x5.toNatClampNeg x6_4) fun h_9 =>
          nm ((x4 ||| ((1 : Int32) <<< (x6_4 &&& 31)))) fun x4_11 =>
          nm ((x3 / 10)) fun x3_13 =>
          nm (x5 + (-1)) fun x5_15 =>
          f_X5_readOrder_21 n k0 x2 x3_13 x4_11 x5_15 h_9
        ) else (
          f_X5_readOrder_44 h
        )
      )
    )
def f_X5_readOrder (k0 : Nat) (x1 : Int32) (x2 : Int32) (h : AH) : Option (Int32 × AH) :=
  ob (f_J6_bitCount_0f7a4 x2 h) fun r_3 h_2 =>
  nm (sI h_2 k0 2 r_3) fun h_4 =>
  nm (((h_4.1 k0 2) - 1)) fun x5_6 =>
  f_X5_readOrder_21 FU k0 x2 x1 0 x5_6 h_4
set_option maxHeartbeats 4000000 in
set_option maxRecDepth 100000 in
theorem v_X5_readOrder_44 {E : EV} {d : Nat} (hd : 1 ≤ d) {r0 : Int32} {h0 : AH}  {h : AH} (hf : f_X5_readOrder_44 h = some (r0, h0)) : V E (d + 1) K_X5_readOrder (ZI E r0 h0) h [] [] 44 := by
  unfold f_X5_readOrder_44 at hf
  refine V_iconst (v := 0) dX5_readOrder_44 (by decide) ?_
  exact V_zret rfl (by decide) (so_s hf) dX5_readOrder_45
set_option maxHeartbeats 4000000 in
set_option maxRecDepth 100000 in
theorem v_X5_readOrder_90 {E : EV} {d : Nat} (hd : 1 ≤ d) {r0 : Int32} {h0 : AH} {s0 : Int32} {h : AH} (hf : f_X5_readOrder_90 s0 h = some (r0, h0)) : V E (d + 1) K_X5_readOrder (ZI E r0 h0) h [] [.int s0] 90 := by
  unfold f_X5_readOrder_90 at hf
  obtain ⟨b_1, hf⟩ := og_s hf
  exact V_zret rfl b_1 (so_s hf) dX5_readOrder_90
set_option maxHeartbeats 4000000 in
set_option maxRecDepth 100000 in
theorem v_X5_readOrder_89 {E : EV} {d : Nat} (hd : 1 ≤ d) {r0 : Int32} {h0 : AH}  {h : AH} (hf : f_X5_readOrder_89 h = some (r0, h0)) : V E (d + 1) K_X5_readOrder (ZI E r0 h0) h [] [] 89 := by
  unfold f_X5_readOrder_89 at hf
  refine V_iconst (v := 0) dX5_readOrder_89 (by decide) ?_
  exact v_X5_readOrder_90 hd hf
set_option maxHeartbeats 4000000 in
set_option maxRecDepth 100000 in
theorem v_X5_readOrder_21 {E : EV} {d : Nat} (hd : 1 ≤ d) {r0 : Int32} {h0 : AH} : ∀ (n : Nat) (k0 : Nat) (x2 : Int32) (x3 : Int32) (x4 : Int32) (x5 : Int32) (h : AH), f_X5_readOrder_21 n k0 x2 x3 x4 x5 h = some (r0, h0) → kd k0 = (0, 5) → V E (d + 1) K_X5_readOrder (ZI E r0 h0) h [(0, .ref k0), (2, .int x2), (3, .int x3), (4, .int x4), (5, .int x5)] [] 21 := by
  intro n
  induction n with
  | zero =>
    intro k0 x2 x3 x4 x5 h hf
    rw [f_X5_readOrder_21] at hf
    cases hf
  | succ n ih =>
    intro k0 x2 x3 x4 x5 h hf t_k0
    rw [f_X5_readOrder_21] at hf
    refine V_iload 4 dX5_readOrder_21 rfl ?_
    refine V_if_lt (tgt := 75) dX5_readOrder_23 (by decide) (fun c_1 => ?_) (fun c_1 => ?_)
    · have hf := it_s c_1 hf
      refine V_iload_n 2 dX5_readOrder_75 rfl rfl ?_
      refine V_if_ne (tgt := 89) dX5_readOrder_76 (by decide) (fun c_2 => ?_) (fun c_2 => ?_)
      · have hf := if_s c_2 hf
        refine V_sub [] rfl ?_
        exact v_X5_readOrder_89 hd hf
      · have hf := it_s c_2 hf
        refine V_iload 3 dX5_readOrder_79 rfl ?_
        refine V_iload_n 1 dX5_readOrder_81 rfl rfl ?_
        refine V_ic_ne (tgt := 89) dX5_readOrder_82 (by decide) (fun c_3 => ?_) (fun c_3 => ?_)
        · have hf := if_s c_3 hf
          refine V_sub [] rfl ?_
          exact v_X5_readOrder_89 hd hf
        · have hf := it_s c_3 hf
          refine V_iconst (v := 1) dX5_readOrder_85 (by decide) ?_
          refine V_goto (tgt := 90) dX5_readOrder_86 (by decide) ?_
          refine V_sub [] rfl ?_
          exact v_X5_readOrder_90 hd hf
    · have hf := if_s c_1 hf
      refine V_iload_n 2 dX5_readOrder_26 rfl rfl ?_
      refine V_bipush (v := 10) dX5_readOrder_27 (by decide) ?_
      refine V_irem dX5_readOrder_29 (by decide) ?_
      obtain ⟨x6_4, e_5, hf⟩ := nm_s hf
      refine V_istore (L' := [(6, .int x6_4), (0, .ref k0), (2, .int x2), (3, .int x3), (4, .int x4), (5, .int x5)]) dX5_readOrder_30 (Nat.le_of_ble_eq_true rfl) e_5 rfl ?_
      refine V_iload 0 dX5_readOrder_32 rfl ?_
      refine V_if_lt (tgt := 44) dX5_readOrder_34 (by decide) (fun c_6 => ?_) (fun c_6 => ?_)
      · have hf := it_s c_6 hf
        refine V_sub [] rfl ?_
        exact v_X5_readOrder_44 hd hf
      · have hf := if_s c_6 hf
        refine V_iload 0 dX5_readOrder_37 rfl ?_
        refine V_bipush (v := 6) dX5_readOrder_39 (by decide) ?_
        refine V_ic_lt (tgt := 46) dX5_readOrder_41 (by decide) (fun c_7 => ?_) (fun c_7 => ?_)
        · have hf := it_s c_7 hf
          refine V_aload_n 1 dX5_readOrder_46 rfl rfl ?_
          refine V_getR F_X5_9 rfl t_k0 rfl dX5_readOrder_47 ?_
          refine V_iload 5 dX5_readOrder_50 rfl ?_
          refine V_iload 0 dX5_readOrder_52 rfl ?_
          obtain ⟨b_8, hf⟩ := og_s hf
          obtain ⟨h_9, e_10, hf⟩ := nm_s hf
          refine V_iast (rfA t_k0 (Nat.le_of_ble_eq_true rfl) rfl rfl (by decide)) b_8 e_10 dX5_readOrder_54 ?_
          refine V_iload 4 dX5_readOrder_55 rfl ?_
          refine V_iconst (v := 1) dX5_readOrder_57 (by decide) ?_
          refine V_iload 0 dX5_readOrder_58 rfl ?_
          refine V_ishl dX5_readOrder_60 ?_
          refine V_ior dX5_readOrder_61 ?_
          obtain ⟨x4_11, e_12, hf⟩ := nm_s hf
          refine V_istore (L' := [(4, .int x4_11), (6, .int x6_4), (0, .ref k0), (2, .int x2), (3, .int x3), (5, .int x5)]) dX5_readOrder_62 (Nat.le_of_ble_eq_true rfl) e_12 rfl ?_
          refine V_iload_n 4 dX5_readOrder_64 rfl rfl ?_
          refine V_bipush (v := 10) dX5_readOrder_65 (by decide) ?_
          refine V_idiv dX5_readOrder_67 (by decide) ?_
          obtain ⟨x3_13, e_14, hf⟩ := nm_s hf
          refine V_istore_n (L' := [(3, .int x3_13), (4, .int x4_11), (6, .int x6_4), (0, .ref k0), (2, .int x2), (5, .int x5)]) dX5_readOrder_68 rfl (Nat.le_of_ble_eq_true rfl) e_14 rfl ?_
          obtain ⟨x5_15, e_16, hf⟩ := nm_s hf
          refine V_iinc (a := (-1)) (L' := [(5, .int x5_15), (3, .int x3_13), (4, .int x4_11), (6, .int x6_4), (0, .ref k0), (2, .int x2)]) 5 dX5_readOrder_69 rfl (by decide) (Nat.le_of_ble_eq_true rfl) e_16 rfl ?_
          refine V_goto (tgt := 21) dX5_readOrder_72 (by decide) ?_
          refine V_sub [4, 5, 1, 2, 0] rfl ?_
          exact ih _ _ _ _ _ _ hf t_k0
        · have hf := if_s c_7 hf
          refine V_sub [] rfl ?_
          exact v_X5_readOrder_44 hd hf
set_option maxHeartbeats 4000000 in
set_option maxRecDepth 100000 in
theorem c_X5_readOrder {E : EV} {d : Nat} (hd : 1 + 1 ≤ d) {k0 : Nat} {x1 : Int32} {x2 : Int32} {h : AH} {r0 : Int32} {h0 : AH} (hf : f_X5_readOrder k0 x1 x2 h = some (r0, h0)) (t_k0 : kd k0 = (0, 5)) : Con E d K_X5_readOrder (ZI E r0 h0) [.ref k0, .int x1, .int x2] h := by
  obtain ⟨d, rfl⟩ : ∃ d', d = d' + 1 := ⟨d - 1, by omega⟩
  have hd := Nat.le_of_succ_le_succ hd
  refine Con.ofV rfl (Nat.le_of_ble_eq_true rfl) ?_
  unfold f_X5_readOrder at hf
  show V E (d + 1) K_X5_readOrder (ZI E r0 h0) h [(0, .ref k0), (1, .int x1), (2, .int x2)] [] 0
  refine V_aload_n 0 dX5_readOrder_0 rfl rfl ?_
  refine V_iload_n 2 dX5_readOrder_1 rfl rfl ?_
  obtain ⟨r_3, h_2, e_1, hf⟩ := ob_s hf
  refine V_csi (As := [.int x2]) (rest := [.ref k0]) (c_J6_bitCount_0f7a4 (d := d) (Nat.le_trans (Nat.le_of_ble_eq_true rfl) hd) e_1) ML_X5_28 MS_J6_bitCount_0f7a4 rfl rfl rfl (Nat.le_of_ble_eq_true rfl) dX5_readOrder_2 ?_
  obtain ⟨h_4, e_5, hf⟩ := nm_s hf
  refine V_putI P_X5_34 rfl t_k0 rfl e_5 dX5_readOrder_5 ?_
  refine V_iload_n 1 dX5_readOrder_8 rfl rfl ?_
  refine V_istore_n (L' := [(3, .int x1), (0, .ref k0), (1, .int x1), (2, .int x2)]) dX5_readOrder_9 rfl (Nat.le_of_ble_eq_true rfl) rfl rfl ?_
  refine V_iconst (v := 0) dX5_readOrder_10 (by decide) ?_
  refine V_istore (L' := [(4, .int 0), (3, .int x1), (0, .ref k0), (1, .int x1), (2, .int x2)]) dX5_readOrder_11 (Nat.le_of_ble_eq_true rfl) rfl rfl ?_
  refine V_aload_n 2 dX5_readOrder_13 rfl rfl ?_
  refine V_getI F_X5_34 rfl t_k0 rfl dX5_readOrder_14 ?_
  refine V_iconst (v := 1) dX5_readOrder_17 (by decide) ?_
  refine V_isub dX5_readOrder_18 ?_
  obtain ⟨x5_6, e_7, hf⟩ := nm_s hf
  refine V_istore (L' := [(5, .int x5_6), (4, .int 0), (3, .int x1), (0, .ref k0), (1, .int x1), (2, .int x2)]) dX5_readOrder_19 (Nat.le_of_ble_eq_true rfl) e_7 rfl ?_
  refine V_sub [3, 5, 2, 1, 0] rfl ?_
  exact v_X5_readOrder_21 hd FU _ _ _ _ _ _ hf t_k0
theorem dX9_settle_0 : decode cX9_settle 0 = .ok (.iconst 0, 1) := by decide +kernel
theorem dX9_settle_1 : decode cX9_settle 1 = .ok (.istore 5, 2) := by decide +kernel
theorem dX9_settle_3 : decode cX9_settle 3 = .ok (.iload 5, 2) := by decide +kernel
theorem dX9_settle_5 : decode cX9_settle 5 = .ok (.bipush 6, 2) := by decide +kernel
theorem dX9_settle_7 : decode cX9_settle 7 = .ok (.if_icmp .ge 29, 3) := by decide +kernel
theorem dX9_settle_10 : decode cX9_settle 10 = .ok (.iload_n 2, 1) := by decide +kernel
theorem dX9_settle_11 : decode cX9_settle 11 = .ok (.iload 5, 2) := by decide +kernel
theorem dX9_settle_13 : decode cX9_settle 13 = .ok (.invokestatic 37, 3) := by decide +kernel
theorem dX9_settle_16 : decode cX9_settle 16 = .ok (.ifCond .eq 14, 3) := by decide +kernel
theorem dX9_settle_19 : decode cX9_settle 19 = .ok (.aload_n 0, 1) := by decide +kernel
theorem dX9_settle_20 : decode cX9_settle 20 = .ok (.getfield 15, 3) := by decide +kernel
theorem dX9_settle_23 : decode cX9_settle 23 = .ok (.iload 5, 2) := by decide +kernel
theorem dX9_settle_25 : decode cX9_settle 25 = .ok (.bipush 10, 2) := by decide +kernel
theorem dX9_settle_27 : decode cX9_settle 27 = .ok (.iload_n 1, 1) := by decide +kernel
theorem dX9_settle_28 : decode cX9_settle 28 = .ok (.iadd, 1) := by decide +kernel
theorem dX9_settle_29 : decode cX9_settle 29 = .ok (.iastore, 1) := by decide +kernel
theorem dX9_settle_30 : decode cX9_settle 30 = .ok (.iinc 5 1, 3) := by decide +kernel
theorem dX9_settle_33 : decode cX9_settle 33 = .ok (.goto (-30), 3) := by decide +kernel
theorem dX9_settle_36 : decode cX9_settle 36 = .ok (.iconst 0, 1) := by decide +kernel
theorem dX9_settle_37 : decode cX9_settle 37 = .ok (.istore 5, 2) := by decide +kernel
theorem dX9_settle_39 : decode cX9_settle 39 = .ok (.iload 5, 2) := by decide +kernel
theorem dX9_settle_41 : decode cX9_settle 41 = .ok (.aload_n 3, 1) := by decide +kernel
theorem dX9_settle_42 : decode cX9_settle 42 = .ok (.getfield 41, 3) := by decide +kernel
theorem dX9_settle_45 : decode cX9_settle 45 = .ok (.if_icmp .ge 78, 3) := by decide +kernel
theorem dX9_settle_48 : decode cX9_settle 48 = .ok (.aload_n 3, 1) := by decide +kernel
theorem dX9_settle_49 : decode cX9_settle 49 = .ok (.getfield 44, 3) := by decide +kernel
theorem dX9_settle_52 : decode cX9_settle 52 = .ok (.iload 5, 2) := by decide +kernel
theorem dX9_settle_54 : decode cX9_settle 54 = .ok (.iaload, 1) := by decide +kernel
theorem dX9_settle_55 : decode cX9_settle 55 = .ok (.istore 6, 2) := by decide +kernel
theorem dX9_settle_57 : decode cX9_settle 57 = .ok (.aload_n 3, 1) := by decide +kernel
theorem dX9_settle_58 : decode cX9_settle 58 = .ok (.getfield 47, 3) := by decide +kernel
theorem dX9_settle_61 : decode cX9_settle 61 = .ok (.iload 6, 2) := by decide +kernel
theorem dX9_settle_63 : decode cX9_settle 63 = .ok (.iaload, 1) := by decide +kernel
theorem dX9_settle_64 : decode cX9_settle 64 = .ok (.istore 7, 2) := by decide +kernel
theorem dX9_settle_66 : decode cX9_settle 66 = .ok (.aload_n 0, 1) := by decide +kernel
theorem dX9_settle_67 : decode cX9_settle 67 = .ok (.getfield 9, 3) := by decide +kernel
theorem dX9_settle_70 : decode cX9_settle 70 = .ok (.iload 6, 2) := by decide +kernel
theorem dX9_settle_72 : decode cX9_settle 72 = .ok (.iload 7, 2) := by decide +kernel
theorem dX9_settle_74 : decode cX9_settle 74 = .ok (.iastore, 1) := by decide +kernel
theorem dX9_settle_75 : decode cX9_settle 75 = .ok (.iload 7, 2) := by decide +kernel
theorem dX9_settle_77 : decode cX9_settle 77 = .ok (.iconst (-1), 1) := by decide +kernel
theorem dX9_settle_78 : decode cX9_settle 78 = .ok (.if_icmp .eq 39, 3) := by decide +kernel
theorem dX9_settle_81 : decode cX9_settle 81 = .ok (.aload_n 0, 1) := by decide +kernel
theorem dX9_settle_82 : decode cX9_settle 82 = .ok (.getfield 15, 3) := by decide +kernel
theorem dX9_settle_85 : decode cX9_settle 85 = .ok (.iload 7, 2) := by decide +kernel
theorem dX9_settle_87 : decode cX9_settle 87 = .ok (.iload 6, 2) := by decide +kernel
theorem dX9_settle_89 : decode cX9_settle 89 = .ok (.iastore, 1) := by decide +kernel
theorem dX9_settle_90 : decode cX9_settle 90 = .ok (.aload_n 0, 1) := by decide +kernel
theorem dX9_settle_91 : decode cX9_settle 91 = .ok (.getfield 18, 3) := by decide +kernel
theorem dX9_settle_94 : decode cX9_settle 94 = .ok (.iload 7, 2) := by decide +kernel
theorem dX9_settle_96 : decode cX9_settle 96 = .ok (.iconst 0, 1) := by decide +kernel
theorem dX9_settle_97 : decode cX9_settle 97 = .ok (.aload_n 0, 1) := by decide +kernel
theorem dX9_settle_98 : decode cX9_settle 98 = .ok (.getfield 18, 3) := by decide +kernel
theorem dX9_settle_101 : decode cX9_settle 101 = .ok (.iload 7, 2) := by decide +kernel
theorem dX9_settle_103 : decode cX9_settle 103 = .ok (.iaload, 1) := by decide +kernel
theorem dX9_settle_104 : decode cX9_settle 104 = .ok (.aload 4, 2) := by decide +kernel
theorem dX9_settle_106 : decode cX9_settle 106 = .ok (.iload 6, 2) := by decide +kernel
theorem dX9_settle_108 : decode cX9_settle 108 = .ok (.iconst 5, 1) := by decide +kernel
theorem dX9_settle_109 : decode cX9_settle 109 = .ok (.invokevirtual 27, 3) := by decide +kernel
theorem dX9_settle_112 : decode cX9_settle 112 = .ok (.isub, 1) := by decide +kernel
theorem dX9_settle_113 : decode cX9_settle 113 = .ok (.invokestatic 50, 3) := by decide +kernel
theorem dX9_settle_116 : decode cX9_settle 116 = .ok (.iastore, 1) := by decide +kernel
theorem dX9_settle_117 : decode cX9_settle 117 = .ok (.iinc 5 1, 3) := by decide +kernel
theorem dX9_settle_120 : decode cX9_settle 120 = .ok (.goto (-81), 3) := by decide +kernel
theorem dX9_settle_123 : decode cX9_settle 123 = .ok (.return_, 1) := by decide +kernel
theorem F_X9_41 : FLk RX9 41 5 2 := ⟨RX5, TX5, 6, rfl, rfl, iw_X5, by decide, Or.inr ⟨_, fn_X9_41⟩⟩
theorem F_X9_44 : FLk RX9 44 5 1 := ⟨RX5, TX5, 6, rfl, rfl, iw_X5, by decide, Or.inr ⟨_, fn_X9_44⟩⟩
theorem F_X9_47 : FLk RX9 47 5 3 := ⟨RX5, TX5, 6, rfl, rfl, iw_X5, by decide, Or.inr ⟨_, fn_X9_47⟩⟩
theorem ML_X9_27 : MLk RX9 27 yX6_item := Or.inl ml_X9_27
def f_X9_settle_30 (q3 : Nat → Int32 → Int32 → Nat → Nat → Int32 → AH → Option AH) (k0 : Nat) (x1 : Int32) (x2 : Int32) (k3 : Nat) (k4 : Nat) (x5 : Int32) (h : AH) : Option AH :=
  nm (x5 + 1) fun x5_1 =>
  q3 k0 x1 x2 k3 k4 x5_1 h
def f_X9_settle_117 (q39 : Nat → Nat → Nat → Int32 → AH → Option AH) (k0 : Nat) (k3 : Nat) (k4 : Nat) (x5 : Int32) (h : AH) : Option AH :=
  nm (x5 + 1) fun x5_1 =>
  q39 k0 k3 k4 x5_1 h
def f_X9_settle_39 : Nat → Nat → Nat → Nat → Int32 → AH → Option AH
  | 0, _, _, _, _, _ => none
  | n + 1, k0, k3, k4, x5, h =>
    if (h.1 k3 2) ≤ x5 then (
      some h
    ) else (
      og (ix x5 (an (rf k3 1))) <|
      nm ((h.1 (rf k3 1) x5.toNatClampNeg)) fun x6_3 =>
      og (ix x6_3 (an (rf k3 3))) <|
      nm ((h.1 (rf k3 3) x6_3.toNatClampNeg)) fun x7_6 =>
      og (ix x6_3 (an (rf k0 0))) <|
      nm (sI h (rf k0 0) x6_3.toNatClampNeg x7_6) fun h_9 =>
      if x7_6 = (-1) then (
        f_X9_settle_117 (f_X9_settle_39 n) k0 k3 k4 x5 h_9
      ) else (
        og (ix x7_6 (an (rf k0 1))) <|
        nm (sI h_9 (rf k0 1) x7_6.toNatClampNeg x6_3) fun h_13 =>
        og (ix x7_6 (an (rf k0 2))) <|
        ob (f_X6_item k4 x6_3 5 h_13) fun r_18 h_17 =>
        og (ix x7_6 (an (rf k0 2))) <|
        nm (sI h_17 (rf k0 2) x7_6.toNatClampNeg (if 0 < ((h_13.1 (rf k0 2) x7_6.toNatClampNeg) - r_18) then ((h_13.1 (rf k0 2) x7_6.toNatClampNeg) - r_18) else 0)) fun h_20 =>
        f_X9_settle_117 (f_X9_settle_39 n) k0 k3 k4 x5 h_20
      )
    )
def f_X9_settle_3 : Nat → Nat → Int32 → Int32 → Nat → Nat → Int32 → AH → Option AH
  | 0, _, _, _, _, _, _, _ => none
  | n + 1, k0, x1, x2, k3, k4, x5, h =>
    if 6 ≤ x5 then (
      f_X9_settle_39 FU k0 k3 k4 0 h
    ) else (
      ob (f_X11_isIn x2 x5 h) fun r_4 h_3 =>
      if r_4 = 0 then (
        f_X9_settle_30 (f_X9_settle_3 n) k0 x1 x2 k3 k4 x5 h_3
      ) else (
        og (ix x5 (an (rf k0 1))) <|
        nm (sI h_3 (rf k0 1) x5.toNatClampNeg (10 + x1)) fun h_7 =>
        f_X9_settle_30 (f_X9_settle_3 n) k0 x1 x2 k3 k4 x5 h_7
      )
    )
def f_X9_settle (k0 : Nat) (x1 : Int32) (x2 : Int32) (k3 : Nat) (k4 : Nat) (h : AH) : Option AH :=
  f_X9_settle_3 FU k0 x1 x2 k3 k4 0 h
set_option maxHeartbeats 4000000 in
set_option maxRecDepth 100000 in
theorem v_X9_settle_30 {E : EV} {d : Nat} (hd : 1 ≤ d) {h0 : AH} {q3 : Nat → Int32 → Int32 → Nat → Nat → Int32 → AH → Option AH} (cq3 : ∀ (k0 : Nat) (x1 : Int32) (x2 : Int32) (k3 : Nat) (k4 : Nat) (x5 : Int32) (h : AH), q3 k0 x1 x2 k3 k4 x5 h = some h0 → kd k0 = (0, 9) → kd k3 = (0, 5) → kd k4 = (0, 6) → V E (d + 1) K_X9_settle (ZV E h0) h [(0, .ref k0), (1, .int x1), (2, .int x2), (3, .ref k3), (4, .ref k4), (5, .int x5)] [] 3) {k0 : Nat} {x1 : Int32} {x2 : Int32} {k3 : Nat} {k4 : Nat} {x5 : Int32} {h : AH} (hf : f_X9_settle_30 q3 k0 x1 x2 k3 k4 x5 h = some h0) (t_k0 : kd k0 = (0, 9)) (t_k3 : kd k3 = (0, 5)) (t_k4 : kd k4 = (0, 6)) : V E (d + 1) K_X9_settle (ZV E h0) h [(0, .ref k0), (1, .int x1), (2, .int x2), (3, .ref k3), (4, .ref k4), (5, .int x5)] [] 30 := by
  unfold f_X9_settle_30 at hf
  obtain ⟨x5_1, e_2, hf⟩ := nm_s hf
  refine V_iinc (a := 1) (L' := [(5, .int x5_1), (0, .ref k0), (1, .int x1), (2, .int x2), (3, .ref k3), (4, .ref k4)]) 5 dX9_settle_30 rfl (by decide) (Nat.le_of_ble_eq_true rfl) e_2 rfl ?_
  refine V_goto (tgt := 3) dX9_settle_33 (by decide) ?_
  refine V_sub [1, 2, 3, 4, 5, 0] rfl ?_
  exact cq3 _ _ _ _ _ _ _ hf t_k0 t_k3 t_k4
set_option maxHeartbeats 4000000 in
set_option maxRecDepth 100000 in
theorem v_X9_settle_117 {E : EV} {d : Nat} (hd : 1 ≤ d) {h0 : AH} {q39 : Nat → Nat → Nat → Int32 → AH → Option AH} (cq39 : ∀ (k0 : Nat) (k3 : Nat) (k4 : Nat) (x5 : Int32) (h : AH), q39 k0 k3 k4 x5 h = some h0 → kd k0 = (0, 9) → kd k3 = (0, 5) → kd k4 = (0, 6) → V E (d + 1) K_X9_settle (ZV E h0) h [(0, .ref k0), (3, .ref k3), (4, .ref k4), (5, .int x5)] [] 39) {k0 : Nat} {k3 : Nat} {k4 : Nat} {x5 : Int32} {h : AH} (hf : f_X9_settle_117 q39 k0 k3 k4 x5 h = some h0) (t_k0 : kd k0 = (0, 9)) (t_k3 : kd k3 = (0, 5)) (t_k4 : kd k4 = (0, 6)) : V E (d + 1) K_X9_settle (ZV E h0) h [(0, .ref k0), (3, .ref k3), (4, .ref k4), (5, .int x5)] [] 117 := by
  unfold f_X9_settle_117 at hf
  obtain ⟨x5_1, e_2, hf⟩ := nm_s hf
  refine V_iinc (a := 1) (L' := [(5, .int x5_1), (0, .ref k0), (3, .ref k3), (4, .ref k4)]) 3 dX9_settle_117 rfl (by decide) (Nat.le_of_ble_eq_true rfl) e_2 rfl ?_
  refine V_goto (tgt := 39) dX9_settle_120 (by decide) ?_
  refine V_sub [1, 2, 3, 0] rfl ?_
  exact cq39 _ _ _ _ _ hf t_k0 t_k3 t_k4
set_option maxHeartbeats 4000000 in
set_option maxRecDepth 100000 in
theorem v_X9_settle_39 {E : EV} {d : Nat} (hd : 1 ≤ d) {h0 : AH} : ∀ (n : Nat) (k0 : Nat) (k3 : Nat) (k4 : Nat) (x5 : Int32) (h : AH), f_X9_settle_39 n k0 k3 k4 x5 h = some h0 → kd k0 = (0, 9) → kd k3 = (0, 5) → kd k4 = (0, 6) → V E (d + 1) K_X9_settle (ZV E h0) h [(0, .ref k0), (3, .ref k3), (4, .ref k4), (5, .int x5)] [] 39 := by
  intro n
  induction n with
  | zero =>
    intro k0 k3 k4 x5 h hf
    rw [f_X9_settle_39] at hf
    cases hf
  | succ n ih =>
    intro k0 k3 k4 x5 h hf t_k0 t_k3 t_k4
    rw [f_X9_settle_39] at hf
    refine V_iload 3 dX9_settle_39 rfl ?_
    refine V_aload_n 1 dX9_settle_41 rfl rfl ?_
    refine V_getI F_X9_41 rfl t_k3 rfl dX9_settle_42 ?_
    refine V_ic_ge (tgt := 123) dX9_settle_45 (by decide) (fun c_1 => ?_) (fun c_1 => ?_)
    · have hf := it_s c_1 hf
      exact V_vret rfl (so_s hf) dX9_settle_123
    · have hf := if_s c_1 hf
      refine V_aload_n 1 dX9_settle_48 rfl rfl ?_
      refine V_getR F_X9_44 rfl t_k3 rfl dX9_settle_49 ?_
      refine V_iload 3 dX9_settle_52 rfl ?_
      obtain ⟨b_2, hf⟩ := og_s hf
      refine V_iald (rfA t_k3 (Nat.le_of_ble_eq_true rfl) rfl rfl (by decide)) b_2 dX9_settle_54 ?_
      obtain ⟨x6_3, e_4, hf⟩ := nm_s hf
      refine V_istore (L' := [(6, .int x6_3), (0, .ref k0), (3, .ref k3), (4, .ref k4), (5, .int x5)]) dX9_settle_55 (Nat.le_of_ble_eq_true rfl) e_4 rfl ?_
      refine V_aload_n 2 dX9_settle_57 rfl rfl ?_
      refine V_getR F_X9_47 rfl t_k3 rfl dX9_settle_58 ?_
      refine V_iload 0 dX9_settle_61 rfl ?_
      obtain ⟨b_5, hf⟩ := og_s hf
      refine V_iald (rfA t_k3 (Nat.le_of_ble_eq_true rfl) rfl rfl (by decide)) b_5 dX9_settle_63 ?_
      obtain ⟨x7_6, e_7, hf⟩ := nm_s hf
      refine V_istore (L' := [(7, .int x7_6), (6, .int x6_3), (0, .ref k0), (3, .ref k3), (4, .ref k4), (5, .int x5)]) dX9_settle_64 (Nat.le_of_ble_eq_true rfl) e_7 rfl ?_
      refine V_aload_n 2 dX9_settle_66 rfl rfl ?_
      refine V_getR F_X9_9 rfl t_k0 rfl dX9_settle_67 ?_
      refine V_iload 1 dX9_settle_70 rfl ?_
      refine V_iload 0 dX9_settle_72 rfl ?_
      obtain ⟨b_8, hf⟩ := og_s hf
      obtain ⟨h_9, e_10, hf⟩ := nm_s hf
      refine V_iast (rfA t_k0 (Nat.le_of_ble_eq_true rfl) rfl rfl (by decide)) b_8 e_10 dX9_settle_74 ?_
      refine V_iload 0 dX9_settle_75 rfl ?_
      refine V_iconst (v := (-1)) dX9_settle_77 (by decide) ?_
      refine V_ic_eq (tgt := 117) dX9_settle_78 (by decide) (fun c_11 => ?_) (fun c_11 => ?_)
      · have hf := it_s c_11 hf
        refine V_sub [2, 3, 4, 5] rfl ?_
        exact v_X9_settle_117 hd ih hf t_k0 t_k3 t_k4
      · have hf := if_s c_11 hf
        refine V_aload_n 2 dX9_settle_81 rfl rfl ?_
        refine V_getR F_X9_15 rfl t_k0 rfl dX9_settle_82 ?_
        refine V_iload 0 dX9_settle_85 rfl ?_
        refine V_iload 1 dX9_settle_87 rfl ?_
        obtain ⟨b_12, hf⟩ := og_s hf
        obtain ⟨h_13, e_14, hf⟩ := nm_s hf
        refine V_iast (rfA t_k0 (Nat.le_of_ble_eq_true rfl) rfl rfl (by decide)) b_12 e_14 dX9_settle_89 ?_
        refine V_aload_n 2 dX9_settle_90 rfl rfl ?_
        refine V_getR F_X9_18 rfl t_k0 rfl dX9_settle_91 ?_
        refine V_iload 0 dX9_settle_94 rfl ?_
        refine V_iconst (v := 0) dX9_settle_96 (by decide) ?_
        refine V_aload_n 2 dX9_settle_97 rfl rfl ?_
        refine V_getR F_X9_18 rfl t_k0 rfl dX9_settle_98 ?_
        refine V_iload 0 dX9_settle_101 rfl ?_
        obtain ⟨b_15, hf⟩ := og_s hf
        refine V_iald (rfA t_k0 (Nat.le_of_ble_eq_true rfl) rfl rfl (by decide)) b_15 dX9_settle_103 ?_
        refine V_aload 4 dX9_settle_104 rfl ?_
        refine V_iload 1 dX9_settle_106 rfl ?_
        refine V_iconst (v := 5) dX9_settle_108 (by decide) ?_
        obtain ⟨r_18, h_17, e_16, hf⟩ := ob_s hf
        refine V_cvi (As := [.int x6_3, .int 5]) (rest := [.int (h_13.1 (rf k0 2) x7_6.toNatClampNeg), .int 0, .int x7_6, .ref (rf k0 2)]) (c_X6_item (d := d) (Nat.le_trans (Nat.le_of_ble_eq_true rfl) hd) e_16 t_k4) ML_X9_27 MV_X6_item rfl t_k4 rfl rfl (Nat.le_of_ble_eq_true rfl) dX9_settle_109 ?_
        refine V_isub dX9_settle_112 ?_
        refine V_mmax ml_X9_50 rfl (Nat.le_of_ble_eq_true rfl) dX9_settle_113 ?_
        obtain ⟨b_19, hf⟩ := og_s hf
        obtain ⟨h_20, e_21, hf⟩ := nm_s hf
        refine V_iast (rfA t_k0 (Nat.le_of_ble_eq_true rfl) rfl rfl (by decide)) b_19 e_21 dX9_settle_116 ?_
        refine V_sub [2, 3, 4, 5] rfl ?_
        exact v_X9_settle_117 hd ih hf t_k0 t_k3 t_k4
set_option maxHeartbeats 4000000 in
set_option maxRecDepth 100000 in
theorem v_X9_settle_3 {E : EV} {d : Nat} (hd : 1 ≤ d) {h0 : AH} : ∀ (n : Nat) (k0 : Nat) (x1 : Int32) (x2 : Int32) (k3 : Nat) (k4 : Nat) (x5 : Int32) (h : AH), f_X9_settle_3 n k0 x1 x2 k3 k4 x5 h = some h0 → kd k0 = (0, 9) → kd k3 = (0, 5) → kd k4 = (0, 6) → V E (d + 1) K_X9_settle (ZV E h0) h [(0, .ref k0), (1, .int x1), (2, .int x2), (3, .ref k3), (4, .ref k4), (5, .int x5)] [] 3 := by
  intro n
  induction n with
  | zero =>
    intro k0 x1 x2 k3 k4 x5 h hf
    rw [f_X9_settle_3] at hf
    cases hf
  | succ n ih =>
    intro k0 x1 x2 k3 k4 x5 h hf t_k0 t_k3 t_k4
    rw [f_X9_settle_3] at hf
    refine V_iload 5 dX9_settle_3 rfl ?_
    refine V_bipush (v := 6) dX9_settle_5 (by decide) ?_
    refine V_ic_ge (tgt := 36) dX9_settle_7 (by decide) (fun c_1 => ?_) (fun c_1 => ?_)
    · have hf := it_s c_1 hf
      refine V_iconst (v := 0) dX9_settle_36 (by decide) ?_
      refine V_istore (L' := [(5, .int 0), (0, .ref k0), (1, .int x1), (2, .int x2), (3, .ref k3), (4, .ref k4)]) dX9_settle_37 (Nat.le_of_ble_eq_true rfl) rfl rfl ?_
      refine V_sub [1, 4, 5, 0] rfl ?_
      exact v_X9_settle_39 hd FU _ _ _ _ _ hf t_k0 t_k3 t_k4
    · have hf := if_s c_1 hf
      refine V_iload_n 2 dX9_settle_10 rfl rfl ?_
      refine V_iload 5 dX9_settle_11 rfl ?_
      obtain ⟨r_4, h_3, e_2, hf⟩ := ob_s hf
      refine V_csi (As := [.int x2, .int x5]) (rest := []) (c_X11_isIn (d := d) (Nat.le_trans (Nat.le_of_ble_eq_true rfl) hd) e_2) ML_X9_37 MS_X11_isIn rfl rfl rfl (Nat.le_of_ble_eq_true rfl) dX9_settle_13 ?_
      refine V_if_eq (tgt := 30) dX9_settle_16 (by decide) (fun c_5 => ?_) (fun c_5 => ?_)
      · have hf := it_s c_5 hf
        exact v_X9_settle_30 hd ih hf t_k0 t_k3 t_k4
      · have hf := if_s c_5 hf
        refine V_aload_n 0 dX9_settle_19 rfl rfl ?_
        refine V_getR F_X9_15 rfl t_k0 rfl dX9_settle_20 ?_
        refine V_iload 5 dX9_settle_23 rfl ?_
        refine V_bipush (v := 10) dX9_settle_25 (by decide) ?_
        refine V_iload_n 1 dX9_settle_27 rfl rfl ?_
        refine V_iadd dX9_settle_28 ?_
        obtain ⟨b_6, hf⟩ := og_s hf
        obtain ⟨h_7, e_8, hf⟩ := nm_s hf
        refine V_iast (rfA t_k0 (Nat.le_of_ble_eq_true rfl) rfl rfl (by decide)) b_6 e_8 dX9_settle_29 ?_
        exact v_X9_settle_30 hd ih hf t_k0 t_k3 t_k4
set_option maxHeartbeats 4000000 in
set_option maxRecDepth 100000 in
theorem c_X9_settle {E : EV} {d : Nat} (hd : 1 + 1 ≤ d) {k0 : Nat} {x1 : Int32} {x2 : Int32} {k3 : Nat} {k4 : Nat} {h : AH} {h0 : AH} (hf : f_X9_settle k0 x1 x2 k3 k4 h = some h0) (t_k0 : kd k0 = (0, 9)) (t_k3 : kd k3 = (0, 5)) (t_k4 : kd k4 = (0, 6)) : Con E d K_X9_settle (ZV E h0) [.ref k0, .int x1, .int x2, .ref k3, .ref k4] h := by
  obtain ⟨d, rfl⟩ : ∃ d', d = d' + 1 := ⟨d - 1, by omega⟩
  have hd := Nat.le_of_succ_le_succ hd
  refine Con.ofV rfl (Nat.le_of_ble_eq_true rfl) ?_
  unfold f_X9_settle at hf
  show V E (d + 1) K_X9_settle (ZV E h0) h [(0, .ref k0), (1, .int x1), (2, .int x2), (3, .ref k3), (4, .ref k4)] [] 0
  refine V_iconst (v := 0) dX9_settle_0 (by decide) ?_
  refine V_istore (L' := [(5, .int 0), (0, .ref k0), (1, .int x1), (2, .int x2), (3, .ref k3), (4, .ref k4)]) dX9_settle_1 (Nat.le_of_ble_eq_true rfl) rfl rfl ?_
  refine V_sub [1, 2, 3, 4, 5, 0] rfl ?_
  exact v_X9_settle_3 hd FU _ _ _ _ _ _ _ hf t_k0 t_k3 t_k4
theorem dX11_holdEvening_0 : decode cX11_holdEvening 0 = .ok (.aload_n 0, 1) := by decide +kernel
theorem dX11_holdEvening_1 : decode cX11_holdEvening 1 = .ok (.iload_n 1, 1) := by decide +kernel
theorem dX11_holdEvening_2 : decode cX11_holdEvening 2 = .ok (.iload_n 2, 1) := by decide +kernel
theorem dX11_holdEvening_3 : decode cX11_holdEvening 3 = .ok (.invokevirtual 195, 3) := by decide +kernel
theorem dX11_holdEvening_6 : decode cX11_holdEvening 6 = .ok (.istore_n 3, 1) := by decide +kernel
theorem dX11_holdEvening_7 : decode cX11_holdEvening 7 = .ok (.aload_n 0, 1) := by decide +kernel
theorem dX11_holdEvening_8 : decode cX11_holdEvening 8 = .ok (.getfield 73, 3) := by decide +kernel
theorem dX11_holdEvening_11 : decode cX11_holdEvening 11 = .ok (.iload_n 3, 1) := by decide +kernel
theorem dX11_holdEvening_12 : decode cX11_holdEvening 12 = .ok (.invokevirtual 198, 3) := by decide +kernel
theorem dX11_holdEvening_15 : decode cX11_holdEvening 15 = .ok (.aload_n 0, 1) := by decide +kernel
theorem dX11_holdEvening_16 : decode cX11_holdEvening 16 = .ok (.getfield 73, 3) := by decide +kernel
theorem dX11_holdEvening_19 : decode cX11_holdEvening 19 = .ok (.iconst 0, 1) := by decide +kernel
theorem dX11_holdEvening_20 : decode cX11_holdEvening 20 = .ok (.invokevirtual 200, 3) := by decide +kernel
theorem dX11_holdEvening_23 : decode cX11_holdEvening 23 = .ok (.aload_n 0, 1) := by decide +kernel
theorem dX11_holdEvening_24 : decode cX11_holdEvening 24 = .ok (.getfield 45, 3) := by decide +kernel
theorem dX11_holdEvening_27 : decode cX11_holdEvening 27 = .ok (.iload_n 1, 1) := by decide +kernel
theorem dX11_holdEvening_28 : decode cX11_holdEvening 28 = .ok (.iload_n 3, 1) := by decide +kernel
theorem dX11_holdEvening_29 : decode cX11_holdEvening 29 = .ok (.aload_n 0, 1) := by decide +kernel
theorem dX11_holdEvening_30 : decode cX11_holdEvening 30 = .ok (.getfield 73, 3) := by decide +kernel
theorem dX11_holdEvening_33 : decode cX11_holdEvening 33 = .ok (.aload_n 0, 1) := by decide +kernel
theorem dX11_holdEvening_34 : decode cX11_holdEvening 34 = .ok (.getfield 19, 3) := by decide +kernel
theorem dX11_holdEvening_37 : decode cX11_holdEvening 37 = .ok (.invokevirtual 203, 3) := by decide +kernel
theorem dX11_holdEvening_40 : decode cX11_holdEvening 40 = .ok (.aload_n 0, 1) := by decide +kernel
theorem dX11_holdEvening_41 : decode cX11_holdEvening 41 = .ok (.getfield 55, 3) := by decide +kernel
theorem dX11_holdEvening_44 : decode cX11_holdEvening 44 = .ok (.aload_n 0, 1) := by decide +kernel
theorem dX11_holdEvening_45 : decode cX11_holdEvening 45 = .ok (.getfield 45, 3) := by decide +kernel
theorem dX11_holdEvening_48 : decode cX11_holdEvening 48 = .ok (.invokevirtual 207, 3) := by decide +kernel
theorem dX11_holdEvening_51 : decode cX11_holdEvening 51 = .ok (.return_, 1) := by decide +kernel
theorem ML_X11_198 : MLk RX11 198 yX5_begin := Or.inl ml_X11_198
theorem ML_X11_200 : MLk RX11 200 yX5_go := Or.inl ml_X11_200
theorem ML_X11_203 : MLk RX11 203 yX9_settle := Or.inl ml_X11_203
theorem MV_X9_settle : MVk K_X9_settle 4 9 := ⟨⟨cd_X9_settle, in_X9, ⟨by decide, by decide, by decide +kernel⟩, by decide⟩, im_X9_settle, se_X9_settle, _, _, rfl⟩
theorem ML_X11_207 : MLk RX11 207 yX1_write := Or.inl ml_X11_207
theorem MV_X1_write : MVk K_X1_write 1 1 := ⟨⟨cd_X1_write, in_X1, ⟨by decide, by decide, by decide +kernel⟩, by decide⟩, im_X1_write, se_X1_write, _, _, rfl⟩
def f_X11_holdEvening (k0 : Nat) (x1 : Int32) (x2 : Int32) (h : AH) : Option AH :=
  ob (f_X11_openDoor k0 x1 x2 h) fun r_3 h_2 =>
  ov (f_X5_begin (rf k0 11) r_3 h_2) fun h_5 =>
  ov (f_X5_go (rf k0 11) 0 h_5) fun h_7 =>
  ov (f_X9_settle (rf k0 6) x1 r_3 (rf k0 11) (rf k0 1) h_7) fun h_9 =>
  ov (f_X1_write (rf k0 9) (rf k0 6) h_9) fun h_11 =>
  some h_11
set_option maxHeartbeats 4000000 in
set_option maxRecDepth 100000 in
theorem c_X11_holdEvening {E : EV} {d : Nat} (hd : 5 + 1 ≤ d) {k0 : Nat} {x1 : Int32} {x2 : Int32} {h : AH} {h0 : AH} (hf : f_X11_holdEvening k0 x1 x2 h = some h0) (t_k0 : kd k0 = (0, 11)) : Con E d K_X11_holdEvening (ZV E h0) [.ref k0, .int x1, .int x2] h := by
  obtain ⟨d, rfl⟩ : ∃ d', d = d' + 1 := ⟨d - 1, by omega⟩
  have hd := Nat.le_of_succ_le_succ hd
  refine Con.ofV rfl (Nat.le_of_ble_eq_true rfl) ?_
  unfold f_X11_holdEvening at hf
  show V E (d + 1) K_X11_holdEvening (ZV E h0) h [(0, .ref k0), (1, .int x1), (2, .int x2)] [] 0
  refine V_aload_n 0 dX11_holdEvening_0 rfl rfl ?_
  refine V_iload_n 1 dX11_holdEvening_1 rfl rfl ?_
  refine V_iload_n 2 dX11_holdEvening_2 rfl rfl ?_
  obtain ⟨r_3, h_2, e_1, hf⟩ := ob_s hf
  refine V_cvi (As := [.int x1, .int x2]) (rest := []) (c_X11_openDoor (d := d) (Nat.le_trans (Nat.le_of_ble_eq_true rfl) hd) e_1 t_k0) ML_X11_195 MV_X11_openDoor rfl t_k0 rfl rfl (Nat.le_of_ble_eq_true rfl) dX11_holdEvening_3 ?_
  refine V_istore_n (L' := [(3, .int r_3), (0, .ref k0), (1, .int x1), (2, .int x2)]) dX11_holdEvening_6 rfl (Nat.le_of_ble_eq_true rfl) rfl rfl ?_
  refine V_aload_n 1 dX11_holdEvening_7 rfl rfl ?_
  refine V_getR F_X11_73 rfl t_k0 rfl dX11_holdEvening_8 ?_
  refine V_iload_n 0 dX11_holdEvening_11 rfl rfl ?_
  obtain ⟨h_5, e_4, hf⟩ := ov_s hf
  refine V_cvv (As := [.int r_3]) (rest := []) (c_X5_begin (d := d) (Nat.le_trans (Nat.le_of_ble_eq_true rfl) hd) e_4 (rfO t_k0 (Nat.le_of_ble_eq_true rfl) rfl rfl)) ML_X11_198 MV_X5_begin rfl (rfO t_k0 (Nat.le_of_ble_eq_true rfl) rfl rfl) rfl rfl (Nat.le_of_ble_eq_true rfl) dX11_holdEvening_12 ?_
  refine V_aload_n 1 dX11_holdEvening_15 rfl rfl ?_
  refine V_getR F_X11_73 rfl t_k0 rfl dX11_holdEvening_16 ?_
  refine V_iconst (v := 0) dX11_holdEvening_19 (by decide) ?_
  obtain ⟨h_7, e_6, hf⟩ := ov_s hf
  refine V_cvv (As := [.int 0]) (rest := []) (c_X5_go (d := d) (Nat.le_trans (Nat.le_of_ble_eq_true rfl) hd) e_6 (rfO t_k0 (Nat.le_of_ble_eq_true rfl) rfl rfl)) ML_X11_200 MV_X5_go rfl (rfO t_k0 (Nat.le_of_ble_eq_true rfl) rfl rfl) rfl rfl (Nat.le_of_ble_eq_true rfl) dX11_holdEvening_20 ?_
  refine V_aload_n 1 dX11_holdEvening_23 rfl rfl ?_
  refine V_getR F_X11_45 rfl t_k0 rfl dX11_holdEvening_24 ?_
  refine V_iload_n 2 dX11_holdEvening_27 rfl rfl ?_
  refine V_iload_n 0 dX11_holdEvening_28 rfl rfl ?_
  refine V_aload_n 1 dX11_holdEvening_29 rfl rfl ?_
  refine V_getR F_X11_73 rfl t_k0 rfl dX11_holdEvening_30 ?_
  refine V_aload_n 1 dX11_holdEvening_33 rfl rfl ?_
  refine V_getR F_X11_19 rfl t_k0 rfl dX11_holdEvening_34 ?_
  obtain ⟨h_9, e_8, hf⟩ := ov_s hf
  refine V_cvv (As := [.int x1, .int r_3, .ref (rf k0 11), .ref (rf k0 1)]) (rest := []) (c_X9_settle (d := d) (Nat.le_trans (Nat.le_of_ble_eq_true rfl) hd) e_8 (rfO t_k0 (Nat.le_of_ble_eq_true rfl) rfl rfl) (rfO t_k0 (Nat.le_of_ble_eq_true rfl) rfl rfl) (rfO t_k0 (Nat.le_of_ble_eq_true rfl) rfl rfl)) ML_X11_203 MV_X9_settle rfl (rfO t_k0 (Nat.le_of_ble_eq_true rfl) rfl rfl) rfl rfl (Nat.le_of_ble_eq_true rfl) dX11_holdEvening_37 ?_
  refine V_aload_n 1 dX11_holdEvening_40 rfl rfl ?_
  refine V_getR F_X11_55 rfl t_k0 rfl dX11_holdEvening_41 ?_
  refine V_aload_n 1 dX11_holdEvening_44 rfl rfl ?_
  refine V_getR F_X11_45 rfl t_k0 rfl dX11_holdEvening_45 ?_
  obtain ⟨h_11, e_10, hf⟩ := ov_s hf
  refine V_cvv (As := [.ref (rf k0 6)]) (rest := []) (c_X1_write (d := d) (Nat.le_trans (Nat.le_of_ble_eq_true rfl) hd) e_10 (rfO t_k0 (Nat.le_of_ble_eq_true rfl) rfl rfl) (rfO t_k0 (Nat.le_of_ble_eq_true rfl) rfl rfl)) ML_X11_207 MV_X1_write rfl (rfO t_k0 (Nat.le_of_ble_eq_true rfl) rfl rfl) rfl rfl (Nat.le_of_ble_eq_true rfl) dX11_holdEvening_48 ?_
  exact V_vret rfl (so_s hf) dX11_holdEvening_51
theorem dX11_evening_0 : decode cX11_evening 0 = .ok (.aload_n 0, 1) := by decide +kernel
theorem dX11_evening_1 : decode cX11_evening 1 = .ok (.iload_n 1, 1) := by decide +kernel
theorem dX11_evening_2 : decode cX11_evening 2 = .ok (.iload_n 2, 1) := by decide +kernel
theorem dX11_evening_3 : decode cX11_evening 3 = .ok (.invokevirtual 182, 3) := by decide +kernel
theorem dX11_evening_6 : decode cX11_evening 6 = .ok (.ifCond .eq 15, 3) := by decide +kernel
theorem dX11_evening_9 : decode cX11_evening 9 = .ok (.aload_n 0, 1) := by decide +kernel
theorem dX11_evening_10 : decode cX11_evening 10 = .ok (.getfield 73, 3) := by decide +kernel
theorem dX11_evening_13 : decode cX11_evening 13 = .ok (.iload_n 3, 1) := by decide +kernel
theorem dX11_evening_14 : decode cX11_evening 14 = .ok (.iload_n 2, 1) := by decide +kernel
theorem dX11_evening_15 : decode cX11_evening 15 = .ok (.invokevirtual 185, 3) := by decide +kernel
theorem dX11_evening_18 : decode cX11_evening 18 = .ok (.ifCond .ne 5, 3) := by decide +kernel
theorem dX11_evening_21 : decode cX11_evening 21 = .ok (.iconst (-1), 1) := by decide +kernel
theorem dX11_evening_22 : decode cX11_evening 22 = .ok (.ireturn, 1) := by decide +kernel
theorem dX11_evening_23 : decode cX11_evening 23 = .ok (.aload_n 0, 1) := by decide +kernel
theorem dX11_evening_24 : decode cX11_evening 24 = .ok (.iload_n 1, 1) := by decide +kernel
theorem dX11_evening_25 : decode cX11_evening 25 = .ok (.iload_n 2, 1) := by decide +kernel
theorem dX11_evening_26 : decode cX11_evening 26 = .ok (.invokevirtual 188, 3) := by decide +kernel
theorem dX11_evening_29 : decode cX11_evening 29 = .ok (.aload_n 0, 1) := by decide +kernel
theorem dX11_evening_30 : decode cX11_evening 30 = .ok (.getfield 55, 3) := by decide +kernel
theorem dX11_evening_33 : decode cX11_evening 33 = .ok (.getfield 192, 3) := by decide +kernel
theorem dX11_evening_36 : decode cX11_evening 36 = .ok (.ireturn, 1) := by decide +kernel
theorem ML_X11_185 : MLk RX11 185 yX5_readOrder := Or.inl ml_X11_185
theorem MV_X5_readOrder : MVk K_X5_readOrder 2 5 := ⟨⟨cd_X5_readOrder, in_X5, ⟨by decide, by decide, by decide +kernel⟩, by decide⟩, im_X5_readOrder, se_X5_readOrder, _, _, rfl⟩
theorem ML_X11_188 : MLk RX11 188 yX11_holdEvening := Or.inl ml_X11_188
theorem MV_X11_holdEvening : MVk K_X11_holdEvening 2 11 := ⟨⟨cd_X11_holdEvening, in_X11, ⟨by decide, by decide, by decide +kernel⟩, by decide⟩, im_X11_holdEvening, se_X11_holdEvening, _, _, rfl⟩
def f_X11_evening_21  (h : AH) : Option (Int32 × AH) :=
  some ((-1), h)
def f_X11_evening (k0 : Nat) (x1 : Int32) (x2 : Int32) (x3 : Int32) (h : AH) : Option (Int32 × AH) :=
  ob (f_X11_isParty k0 x1 x2 h) fun r_3 h_2 =>
  if r_3 = 0 then (
    f_X11_evening_21 h_2
  ) else (
    ob (f_X5_readOrder (rf k0 11) x3 x2 h_2) fun r_7 h_6 =>
    if r_7 = 0 then (
      f_X11_evening_21 h_6
    ) else (
      ov (f_X11_holdEvening k0 x1 x2 h_6) fun h_10 =>
      some ((h_10.1 (rf k0 9) 2), h_10)
    )
  )
set_option maxHeartbeats 4000000 in
set_option maxRecDepth 100000 in
theorem v_X11_evening_21 {E : EV} {d : Nat} (hd : 6 ≤ d) {r0 : Int32} {h0 : AH}  {h : AH} (hf : f_X11_evening_21 h = some (r0, h0)) : V E (d + 1) K_X11_evening (ZI E r0 h0) h [] [] 21 := by
  unfold f_X11_evening_21 at hf
  refine V_iconst (v := (-1)) dX11_evening_21 (by decide) ?_
  exact V_iret rfl (so_s hf) dX11_evening_22
set_option maxHeartbeats 4000000 in
set_option maxRecDepth 100000 in
theorem c_X11_evening {E : EV} {d : Nat} (hd : 6 + 1 ≤ d) {k0 : Nat} {x1 : Int32} {x2 : Int32} {x3 : Int32} {h : AH} {r0 : Int32} {h0 : AH} (hf : f_X11_evening k0 x1 x2 x3 h = some (r0, h0)) (t_k0 : kd k0 = (0, 11)) : Con E d K_X11_evening (ZI E r0 h0) [.ref k0, .int x1, .int x2, .int x3] h := by
  obtain ⟨d, rfl⟩ : ∃ d', d = d' + 1 := ⟨d - 1, by omega⟩
  have hd := Nat.le_of_succ_le_succ hd
  refine Con.ofV rfl (Nat.le_of_ble_eq_true rfl) ?_
  unfold f_X11_evening at hf
  show V E (d + 1) K_X11_evening (ZI E r0 h0) h [(0, .ref k0), (1, .int x1), (2, .int x2), (3, .int x3)] [] 0
  refine V_aload_n 0 dX11_evening_0 rfl rfl ?_
  refine V_iload_n 1 dX11_evening_1 rfl rfl ?_
  refine V_iload_n 2 dX11_evening_2 rfl rfl ?_
  obtain ⟨r_3, h_2, e_1, hf⟩ := ob_s hf
  refine V_cvi (As := [.int x1, .int x2]) (rest := []) (c_X11_isParty (d := d) (Nat.le_trans (Nat.le_of_ble_eq_true rfl) hd) e_1 t_k0) ML_X11_182 MV_X11_isParty rfl t_k0 rfl rfl (Nat.le_of_ble_eq_true rfl) dX11_evening_3 ?_
  refine V_if_eq (tgt := 21) dX11_evening_6 (by decide) (fun c_4 => ?_) (fun c_4 => ?_)
  · have hf := it_s c_4 hf
    refine V_sub [] rfl ?_
    exact v_X11_evening_21 hd hf
  · have hf := if_s c_4 hf
    refine V_aload_n 0 dX11_evening_9 rfl rfl ?_
    refine V_getR F_X11_73 rfl t_k0 rfl dX11_evening_10 ?_
    refine V_iload_n 3 dX11_evening_13 rfl rfl ?_
    refine V_iload_n 2 dX11_evening_14 rfl rfl ?_
    obtain ⟨r_7, h_6, e_5, hf⟩ := ob_s hf
    refine V_cvi (As := [.int x3, .int x2]) (rest := []) (c_X5_readOrder (d := d) (Nat.le_trans (Nat.le_of_ble_eq_true rfl) hd) e_5 (rfO t_k0 (Nat.le_of_ble_eq_true rfl) rfl rfl)) ML_X11_185 MV_X5_readOrder rfl (rfO t_k0 (Nat.le_of_ble_eq_true rfl) rfl rfl) rfl rfl (Nat.le_of_ble_eq_true rfl) dX11_evening_15 ?_
    refine V_if_ne (tgt := 23) dX11_evening_18 (by decide) (fun c_8 => ?_) (fun c_8 => ?_)
    · have hf := if_s c_8 hf
      refine V_aload_n 0 dX11_evening_23 rfl rfl ?_
      refine V_iload_n 1 dX11_evening_24 rfl rfl ?_
      refine V_iload_n 2 dX11_evening_25 rfl rfl ?_
      obtain ⟨h_10, e_9, hf⟩ := ov_s hf
      refine V_cvv (As := [.int x1, .int x2]) (rest := []) (c_X11_holdEvening (d := d) (Nat.le_trans (Nat.le_of_ble_eq_true rfl) hd) e_9 t_k0) ML_X11_188 MV_X11_holdEvening rfl t_k0 rfl rfl (Nat.le_of_ble_eq_true rfl) dX11_evening_26 ?_
      refine V_aload_n 0 dX11_evening_29 rfl rfl ?_
      refine V_getR F_X11_55 rfl t_k0 rfl dX11_evening_30 ?_
      refine V_getI F_X11_192 rfl (rfO t_k0 (Nat.le_of_ble_eq_true rfl) rfl rfl) rfl dX11_evening_33 ?_
      exact V_iret rfl (so_s hf) dX11_evening_36
    · have hf := it_s c_8 hf
      refine V_sub [] rfl ?_
      exact v_X11_evening_21 hd hf
theorem dX11_indexIn_0 : decode cX11_indexIn 0 = .ok (.iconst 0, 1) := by decide +kernel
theorem dX11_indexIn_1 : decode cX11_indexIn 1 = .ok (.istore_n 2, 1) := by decide +kernel
theorem dX11_indexIn_2 : decode cX11_indexIn 2 = .ok (.iload_n 2, 1) := by decide +kernel
theorem dX11_indexIn_3 : decode cX11_indexIn 3 = .ok (.aload_n 0, 1) := by decide +kernel
theorem dX11_indexIn_4 : decode cX11_indexIn 4 = .ok (.invokevirtual 362, 3) := by decide +kernel
theorem dX11_indexIn_7 : decode cX11_indexIn 7 = .ok (.if_icmp .ge 20, 3) := by decide +kernel
theorem dX11_indexIn_10 : decode cX11_indexIn 10 = .ok (.aload_n 0, 1) := by decide +kernel
theorem dX11_indexIn_11 : decode cX11_indexIn 11 = .ok (.iload_n 2, 1) := by decide +kernel
theorem dX11_indexIn_12 : decode cX11_indexIn 12 = .ok (.invokevirtual 366, 3) := by decide +kernel
theorem dX11_indexIn_15 : decode cX11_indexIn 15 = .ok (.iload_n 1, 1) := by decide +kernel
theorem dX11_indexIn_16 : decode cX11_indexIn 16 = .ok (.if_icmp .ne 5, 3) := by decide +kernel
theorem dX11_indexIn_19 : decode cX11_indexIn 19 = .ok (.iload_n 2, 1) := by decide +kernel
theorem dX11_indexIn_20 : decode cX11_indexIn 20 = .ok (.ireturn, 1) := by decide +kernel
theorem dX11_indexIn_21 : decode cX11_indexIn 21 = .ok (.iinc 2 1, 3) := by decide +kernel
theorem dX11_indexIn_24 : decode cX11_indexIn 24 = .ok (.goto (-22), 3) := by decide +kernel
theorem dX11_indexIn_27 : decode cX11_indexIn 27 = .ok (.iconst (-1), 1) := by decide +kernel
theorem dX11_indexIn_28 : decode cX11_indexIn 28 = .ok (.ireturn, 1) := by decide +kernel
def f_X11_indexIn_2 : Nat → Nat → Int32 → Int32 → AH → Option (Int32 × AH)
  | 0, _, _, _, _ => none
  | n + 1, k0, x1, x2, h =>
    ob (f_J0_length_8abf5 k0 h) fun r_3 h_2 =>
    if r_3 ≤ x2 then (
      some ((-1), h_2)
    ) else (
      ob (f_J0_charAt_5068e k0 x2 h_2) fun r_7 h_6 =>
      if r_7 = x1 then (
        some (x2, h_6)
      ) else (
        nm (x2 + 1) fun x2_9 =>
        f_X11_indexIn_2 n k0 x1 x2_9 h_6
      )
    )
def f_X11_indexIn (k0 : Nat) (x1 : Int32) (h : AH) : Option (Int32 × AH) :=
  f_X11_indexIn_2 FU k0 x1 0 h
set_option maxHeartbeats 4000000 in
set_option maxRecDepth 100000 in
theorem v_X11_indexIn_2 {E : EV} {d : Nat} (hd : 5 ≤ d) {r0 : Int32} {h0 : AH} : ∀ (n : Nat) (k0 : Nat) (x1 : Int32) (x2 : Int32) (h : AH), f_X11_indexIn_2 n k0 x1 x2 h = some (r0, h0) → V E (d + 1) K_X11_indexIn (ZI E r0 h0) h [(0, .ref k0), (1, .int x1), (2, .int x2)] [] 2 := by
  intro n
  induction n with
  | zero =>
    intro k0 x1 x2 h hf
    rw [f_X11_indexIn_2] at hf
    cases hf
  | succ n ih =>
    intro k0 x1 x2 h hf
    rw [f_X11_indexIn_2] at hf
    refine V_iload_n 2 dX11_indexIn_2 rfl rfl ?_
    refine V_aload_n 0 dX11_indexIn_3 rfl rfl ?_
    obtain ⟨r_3, h_2, e_1, hf⟩ := ob_s hf
    refine V_slen (rest := [.int x2]) (Nat.le_trans (Nat.le_of_ble_eq_true rfl) hd) e_1 ml_X11_362 rfl (Nat.le_of_ble_eq_true rfl) dX11_indexIn_4 ?_
    refine V_ic_ge (tgt := 27) dX11_indexIn_7 (by decide) (fun c_4 => ?_) (fun c_4 => ?_)
    · have hf := it_s c_4 hf
      refine V_iconst (v := (-1)) dX11_indexIn_27 (by decide) ?_
      exact V_iret rfl (so_s hf) dX11_indexIn_28
    · have hf := if_s c_4 hf
      refine V_aload_n 0 dX11_indexIn_10 rfl rfl ?_
      refine V_iload_n 2 dX11_indexIn_11 rfl rfl ?_
      obtain ⟨r_7, h_6, e_5, hf⟩ := ob_s hf
      refine V_scha (rest := []) (Nat.le_trans (Nat.le_of_ble_eq_true rfl) hd) e_5 ml_X11_366 rfl (Nat.le_of_ble_eq_true rfl) dX11_indexIn_12 ?_
      refine V_iload_n 1 dX11_indexIn_15 rfl rfl ?_
      refine V_ic_ne (tgt := 21) dX11_indexIn_16 (by decide) (fun c_8 => ?_) (fun c_8 => ?_)
      · have hf := if_s c_8 hf
        obtain ⟨x2_9, e_10, hf⟩ := nm_s hf
        refine V_iinc (a := 1) (L' := [(2, .int x2_9), (0, .ref k0), (1, .int x1)]) 2 dX11_indexIn_21 rfl (by decide) (Nat.le_of_ble_eq_true rfl) e_10 rfl ?_
        refine V_goto (tgt := 2) dX11_indexIn_24 (by decide) ?_
        refine V_sub [1, 2, 0] rfl ?_
        exact ih _ _ _ _ hf
      · have hf := it_s c_8 hf
        refine V_iload_n 2 dX11_indexIn_19 rfl rfl ?_
        exact V_iret rfl (so_s hf) dX11_indexIn_20
set_option maxHeartbeats 4000000 in
set_option maxRecDepth 100000 in
theorem c_X11_indexIn {E : EV} {d : Nat} (hd : 5 + 1 ≤ d) {k0 : Nat} {x1 : Int32} {h : AH} {r0 : Int32} {h0 : AH} (hf : f_X11_indexIn k0 x1 h = some (r0, h0)) : Con E d K_X11_indexIn (ZI E r0 h0) [.ref k0, .int x1] h := by
  obtain ⟨d, rfl⟩ : ∃ d', d = d' + 1 := ⟨d - 1, by omega⟩
  have hd := Nat.le_of_succ_le_succ hd
  refine Con.ofV rfl (Nat.le_of_ble_eq_true rfl) ?_
  unfold f_X11_indexIn at hf
  show V E (d + 1) K_X11_indexIn (ZI E r0 h0) h [(0, .ref k0), (1, .int x1)] [] 0
  refine V_iconst (v := 0) dX11_indexIn_0 (by decide) ?_
  refine V_istore_n (L' := [(2, .int 0), (0, .ref k0), (1, .int x1)]) dX11_indexIn_1 rfl (Nat.le_of_ble_eq_true rfl) rfl rfl ?_
  refine V_sub [1, 2, 0] rfl ?_
  exact v_X11_indexIn_2 hd FU _ _ _ _ hf
theorem dX6_readItem_0 : decode cX6_readItem 0 = .ok (.aload_n 1, 1) := by decide +kernel
theorem dX6_readItem_1 : decode cX6_readItem 1 = .ok (.iconst 2, 1) := by decide +kernel
theorem dX6_readItem_2 : decode cX6_readItem 2 = .ok (.invokevirtual 72, 3) := by decide +kernel
theorem dX6_readItem_5 : decode cX6_readItem 5 = .ok (.istore_n 3, 1) := by decide +kernel
theorem dX6_readItem_6 : decode cX6_readItem 6 = .ok (.iload_n 3, 1) := by decide +kernel
theorem dX6_readItem_7 : decode cX6_readItem 7 = .ok (.iconst (-1), 1) := by decide +kernel
theorem dX6_readItem_8 : decode cX6_readItem 8 = .ok (.if_icmp .ne 5, 3) := by decide +kernel
theorem dX6_readItem_11 : decode cX6_readItem 11 = .ok (.iconst 0, 1) := by decide +kernel
theorem dX6_readItem_12 : decode cX6_readItem 12 = .ok (.ireturn, 1) := by decide +kernel
theorem dX6_readItem_13 : decode cX6_readItem 13 = .ok (.iload_n 3, 1) := by decide +kernel
theorem dX6_readItem_14 : decode cX6_readItem 14 = .ok (.getstatic 76, 3) := by decide +kernel
theorem dX6_readItem_17 : decode cX6_readItem 17 = .ok (.iload_n 2, 1) := by decide +kernel
theorem dX6_readItem_18 : decode cX6_readItem 18 = .ok (.iaload, 1) := by decide +kernel
theorem dX6_readItem_19 : decode cX6_readItem 19 = .ok (.if_icmp .lt 12, 3) := by decide +kernel
theorem dX6_readItem_22 : decode cX6_readItem 22 = .ok (.iload_n 3, 1) := by decide +kernel
theorem dX6_readItem_23 : decode cX6_readItem 23 = .ok (.getstatic 79, 3) := by decide +kernel
theorem dX6_readItem_26 : decode cX6_readItem 26 = .ok (.iload_n 2, 1) := by decide +kernel
theorem dX6_readItem_27 : decode cX6_readItem 27 = .ok (.iaload, 1) := by decide +kernel
theorem dX6_readItem_28 : decode cX6_readItem 28 = .ok (.if_icmp .le 15, 3) := by decide +kernel
theorem dX6_readItem_31 : decode cX6_readItem 31 = .ok (.aload_n 1, 1) := by decide +kernel
theorem dX6_readItem_32 : decode cX6_readItem 32 = .ok (.dup, 1) := by decide +kernel
theorem dX6_readItem_33 : decode cX6_readItem 33 = .ok (.getfield 38, 3) := by decide +kernel
theorem dX6_readItem_36 : decode cX6_readItem 36 = .ok (.iconst 1, 1) := by decide +kernel
theorem dX6_readItem_37 : decode cX6_readItem 37 = .ok (.isub, 1) := by decide +kernel
theorem dX6_readItem_38 : decode cX6_readItem 38 = .ok (.putfield 38, 3) := by decide +kernel
theorem dX6_readItem_41 : decode cX6_readItem 41 = .ok (.iconst 0, 1) := by decide +kernel
theorem dX6_readItem_42 : decode cX6_readItem 42 = .ok (.ireturn, 1) := by decide +kernel
theorem dX6_readItem_43 : decode cX6_readItem 43 = .ok (.aload_n 0, 1) := by decide +kernel
theorem dX6_readItem_44 : decode cX6_readItem 44 = .ok (.getfield 9, 3) := by decide +kernel
theorem dX6_readItem_47 : decode cX6_readItem 47 = .ok (.aload_n 0, 1) := by decide +kernel
theorem dX6_readItem_48 : decode cX6_readItem 48 = .ok (.getfield 34, 3) := by decide +kernel
theorem dX6_readItem_51 : decode cX6_readItem 51 = .ok (.bipush 7, 2) := by decide +kernel
theorem dX6_readItem_53 : decode cX6_readItem 53 = .ok (.imul, 1) := by decide +kernel
theorem dX6_readItem_54 : decode cX6_readItem 54 = .ok (.iload_n 2, 1) := by decide +kernel
theorem dX6_readItem_55 : decode cX6_readItem 55 = .ok (.iadd, 1) := by decide +kernel
theorem dX6_readItem_56 : decode cX6_readItem 56 = .ok (.iload_n 3, 1) := by decide +kernel
theorem dX6_readItem_57 : decode cX6_readItem 57 = .ok (.iastore, 1) := by decide +kernel
theorem dX6_readItem_58 : decode cX6_readItem 58 = .ok (.iconst 1, 1) := by decide +kernel
theorem dX6_readItem_59 : decode cX6_readItem 59 = .ok (.ireturn, 1) := by decide +kernel
theorem F_X6_38 : FLk RX6 38 10 2 := ⟨RX10, TX10, 3, rfl, rfl, iw_X10, by decide, Or.inr ⟨_, fn_X6_38⟩⟩
theorem P_X6_38 : FPk RX6 38 10 2 .int := ⟨RX10, TX10, 3, tyX10, rfl, rfl, iw_X10, by decide, Or.inr ⟨_, fn_X6_38⟩, tyX10_ok, nmX10, rfl, by decide +kernel⟩
theorem ML_X6_72 : MLk RX6 72 yX10_readNumber := Or.inl ml_X6_72
theorem MV_X10_readNumber : MVk K_X10_readNumber 1 10 := ⟨⟨cd_X10_readNumber, in_X10, ⟨by decide, by decide, by decide +kernel⟩, by decide⟩, im_X10_readNumber, se_X10_readNumber, _, _, rfl⟩
theorem S_X6_76 : SLk RX6 76 0 := ⟨by decide, Or.inr ⟨_, fn_X6_76⟩⟩
theorem S_X6_79 : SLk RX6 79 1 := ⟨by decide, Or.inr ⟨_, fn_X6_79⟩⟩
theorem F_X6_34 : FLk RX6 34 6 2 := ⟨RX6, TX6, 3, rfl, rfl, iw_X6, by decide, Or.inl fl_X6_34⟩
def f_X6_readItem_31 (k1 : Nat) (h : AH) : Option (Int32 × AH) :=
  nm (sI h k1 2 ((h.1 k1 2) - 1)) fun h_1 =>
  some (0, h_1)
def f_X6_readItem (k0 : Nat) (k1 : Nat) (x2 : Int32) (h : AH) : Option (Int32 × AH) :=
  ob (f_X10_readNumber k1 2 h) fun r_3 h_2 =>
  if r_3 = (-1) then (
    some (0, h_2)
  ) else (
    og (ix x2 (sN 0)) <|
    if r_3 < (sT 0 x2.toNatClampNeg) then (
      f_X6_readItem_31 k1 h_2
    ) else (
      og (ix x2 (sN 1)) <|
      if r_3 ≤ (sT 1 x2.toNatClampNeg) then (
        og (ix (((h_2.1 k0 2) * 7) + x2) (an (rf k0 0))) <|
        nm (sI h_2 (rf k0 0) (((h_2.1 k0 2) * 7) + x2).toNatClampNeg r_3) fun h_10 =>
        some (1, h_10)
      ) else (
        f_X6_readItem_31 k1 h_2
      )
    )
  )
set_option maxHeartbeats 4000000 in
set_option maxRecDepth 100000 in
theorem v_X6_readItem_31 {E : EV} {d : Nat} (hd : 2 ≤ d) {r0 : Int32} {h0 : AH} {k1 : Nat} {h : AH} (hf : f_X6_readItem_31 k1 h = some (r0, h0)) (t_k1 : kd k1 = (0, 10)) : V E (d + 1) K_X6_readItem (ZI E r0 h0) h [(1, .ref k1)] [] 31 := by
  unfold f_X6_readItem_31 at hf
  refine V_aload_n 0 dX6_readItem_31 rfl rfl ?_
  refine V_dup dX6_readItem_32 rfl ?_
  refine V_getI F_X6_38 rfl t_k1 rfl dX6_readItem_33 ?_
  refine V_iconst (v := 1) dX6_readItem_36 (by decide) ?_
  refine V_isub dX6_readItem_37 ?_
  obtain ⟨h_1, e_2, hf⟩ := nm_s hf
  refine V_putI P_X6_38 rfl t_k1 rfl e_2 dX6_readItem_38 ?_
  refine V_iconst (v := 0) dX6_readItem_41 (by decide) ?_
  exact V_zret rfl (by decide) (so_s hf) dX6_readItem_42
set_option maxHeartbeats 4000000 in
set_option maxRecDepth 100000 in
theorem c_X6_readItem {E : EV} {d : Nat} (hd : 2 + 1 ≤ d) {k0 : Nat} {k1 : Nat} {x2 : Int32} {h : AH} {r0 : Int32} {h0 : AH} (hf : f_X6_readItem k0 k1 x2 h = some (r0, h0)) (t_k0 : kd k0 = (0, 6)) (t_k1 : kd k1 = (0, 10)) : Con E d K_X6_readItem (ZI E r0 h0) [.ref k0, .ref k1, .int x2] h := by
  obtain ⟨d, rfl⟩ : ∃ d', d = d' + 1 := ⟨d - 1, by omega⟩
  have hd := Nat.le_of_succ_le_succ hd
  refine Con.ofV rfl (Nat.le_of_ble_eq_true rfl) ?_
  unfold f_X6_readItem at hf
  show V E (d + 1) K_X6_readItem (ZI E r0 h0) h [(0, .ref k0), (1, .ref k1), (2, .int x2)] [] 0
  refine V_aload_n 1 dX6_readItem_0 rfl rfl ?_
  refine V_iconst (v := 2) dX6_readItem_1 (by decide) ?_
  obtain ⟨r_3, h_2, e_1, hf⟩ := ob_s hf
  refine V_cvi (As := [.int 2]) (rest := []) (c_X10_readNumber (d := d) (Nat.le_trans (Nat.le_of_ble_eq_true rfl) hd) e_1 t_k1) ML_X6_72 MV_X10_readNumber rfl t_k1 rfl rfl (Nat.le_of_ble_eq_true rfl) dX6_readItem_2 ?_
  refine V_istore_n (L' := [(3, .int r_3), (0, .ref k0), (1, .ref k1), (2, .int x2)]) dX6_readItem_5 rfl (Nat.le_of_ble_eq_true rfl) rfl rfl ?_
  refine V_iload_n 0 dX6_readItem_6 rfl rfl ?_
  refine V_iconst (v := (-1)) dX6_readItem_7 (by decide) ?_
  refine V_ic_ne (tgt := 13) dX6_readItem_8 (by decide) (fun c_4 => ?_) (fun c_4 => ?_)
  · have hf := if_s c_4 hf
    refine V_iload_n 0 dX6_readItem_13 rfl rfl ?_
    refine V_gets S_X6_76 rfl rfl dX6_readItem_14 ?_
    refine V_iload_n 3 dX6_readItem_17 rfl rfl ?_
    obtain ⟨b_5, hf⟩ := og_s hf
    refine V_tald (i := 0) (by decide) rfl b_5 dX6_readItem_18 ?_
    refine V_ic_lt (tgt := 31) dX6_readItem_19 (by decide) (fun c_6 => ?_) (fun c_6 => ?_)
    · have hf := it_s c_6 hf
      refine V_sub [2] rfl ?_
      exact v_X6_readItem_31 hd hf t_k1
    · have hf := if_s c_6 hf
      refine V_iload_n 0 dX6_readItem_22 rfl rfl ?_
      refine V_gets S_X6_79 rfl rfl dX6_readItem_23 ?_
      refine V_iload_n 3 dX6_readItem_26 rfl rfl ?_
      obtain ⟨b_7, hf⟩ := og_s hf
      refine V_tald (i := 1) (by decide) rfl b_7 dX6_readItem_27 ?_
      refine V_ic_le (tgt := 43) dX6_readItem_28 (by decide) (fun c_8 => ?_) (fun c_8 => ?_)
      · have hf := it_s c_8 hf
        refine V_aload_n 1 dX6_readItem_43 rfl rfl ?_
        refine V_getR F_X6_9 rfl t_k0 rfl dX6_readItem_44 ?_
        refine V_aload_n 1 dX6_readItem_47 rfl rfl ?_
        refine V_getI F_X6_34 rfl t_k0 rfl dX6_readItem_48 ?_
        refine V_bipush (v := 7) dX6_readItem_51 (by decide) ?_
        refine V_imul dX6_readItem_53 ?_
        refine V_iload_n 3 dX6_readItem_54 rfl rfl ?_
        refine V_iadd dX6_readItem_55 ?_
        refine V_iload_n 0 dX6_readItem_56 rfl rfl ?_
        obtain ⟨b_9, hf⟩ := og_s hf
        obtain ⟨h_10, e_11, hf⟩ := nm_s hf
        refine V_iast (rfA t_k0 (Nat.le_of_ble_eq_true rfl) rfl rfl (by decide)) b_9 e_11 dX6_readItem_57 ?_
        refine V_iconst (v := 1) dX6_readItem_58 (by decide) ?_
        exact V_zret rfl (by decide) (so_s hf) dX6_readItem_59
      · have hf := if_s c_8 hf
        refine V_sub [2] rfl ?_
        exact v_X6_readItem_31 hd hf t_k1
  · have hf := it_s c_4 hf
    refine V_iconst (v := 0) dX6_readItem_11 (by decide) ?_
    exact V_zret rfl (by decide) (so_s hf) dX6_readItem_12
theorem dX6_readPerson_0 : decode cX6_readPerson 0 = .ok (.aload_n 1, 1) := by decide +kernel
theorem dX6_readPerson_1 : decode cX6_readPerson 1 = .ok (.bipush 112, 2) := by decide +kernel
theorem dX6_readPerson_3 : decode cX6_readPerson 3 = .ok (.invokevirtual 47, 3) := by decide +kernel
theorem dX6_readPerson_6 : decode cX6_readPerson 6 = .ok (.ifCond .ne 5, 3) := by decide +kernel
theorem dX6_readPerson_9 : decode cX6_readPerson 9 = .ok (.iconst 0, 1) := by decide +kernel
theorem dX6_readPerson_10 : decode cX6_readPerson 10 = .ok (.ireturn, 1) := by decide +kernel
theorem dX6_readPerson_11 : decode cX6_readPerson 11 = .ok (.getstatic 55, 3) := by decide +kernel
theorem dX6_readPerson_14 : decode cX6_readPerson 14 = .ok (.iconst 0, 1) := by decide +kernel
theorem dX6_readPerson_15 : decode cX6_readPerson 15 = .ok (.aload_n 0, 1) := by decide +kernel
theorem dX6_readPerson_16 : decode cX6_readPerson 16 = .ok (.getfield 9, 3) := by decide +kernel
theorem dX6_readPerson_19 : decode cX6_readPerson 19 = .ok (.aload_n 0, 1) := by decide +kernel
theorem dX6_readPerson_20 : decode cX6_readPerson 20 = .ok (.getfield 34, 3) := by decide +kernel
theorem dX6_readPerson_23 : decode cX6_readPerson 23 = .ok (.bipush 7, 2) := by decide +kernel
theorem dX6_readPerson_25 : decode cX6_readPerson 25 = .ok (.imul, 1) := by decide +kernel
theorem dX6_readPerson_26 : decode cX6_readPerson 26 = .ok (.bipush 7, 2) := by decide +kernel
theorem dX6_readPerson_28 : decode cX6_readPerson 28 = .ok (.invokestatic 22, 3) := by decide +kernel
theorem dX6_readPerson_31 : decode cX6_readPerson 31 = .ok (.iconst 0, 1) := by decide +kernel
theorem dX6_readPerson_32 : decode cX6_readPerson 32 = .ok (.istore_n 2, 1) := by decide +kernel
theorem dX6_readPerson_33 : decode cX6_readPerson 33 = .ok (.iconst 0, 1) := by decide +kernel
theorem dX6_readPerson_34 : decode cX6_readPerson 34 = .ok (.istore_n 3, 1) := by decide +kernel
theorem dX6_readPerson_35 : decode cX6_readPerson 35 = .ok (.iload_n 3, 1) := by decide +kernel
theorem dX6_readPerson_36 : decode cX6_readPerson 36 = .ok (.bipush 7, 2) := by decide +kernel
theorem dX6_readPerson_38 : decode cX6_readPerson 38 = .ok (.if_icmp .gt 68, 3) := by decide +kernel
theorem dX6_readPerson_41 : decode cX6_readPerson 41 = .ok (.ldc 58, 2) := by decide +kernel
theorem dX6_readPerson_43 : decode cX6_readPerson 43 = .ok (.aload_n 1, 1) := by decide +kernel
theorem dX6_readPerson_44 : decode cX6_readPerson 44 = .ok (.invokevirtual 51, 3) := by decide +kernel
theorem dX6_readPerson_47 : decode cX6_readPerson 47 = .ok (.invokestatic 60, 3) := by decide +kernel
theorem dX6_readPerson_50 : decode cX6_readPerson 50 = .ok (.istore 4, 2) := by decide +kernel
theorem dX6_readPerson_52 : decode cX6_readPerson 52 = .ok (.iload 4, 2) := by decide +kernel
theorem dX6_readPerson_54 : decode cX6_readPerson 54 = .ok (.iconst (-1), 1) := by decide +kernel
theorem dX6_readPerson_55 : decode cX6_readPerson 55 = .ok (.if_icmp .ne 5, 3) := by decide +kernel
theorem dX6_readPerson_58 : decode cX6_readPerson 58 = .ok (.iconst 1, 1) := by decide +kernel
theorem dX6_readPerson_59 : decode cX6_readPerson 59 = .ok (.ireturn, 1) := by decide +kernel
theorem dX6_readPerson_60 : decode cX6_readPerson 60 = .ok (.iload_n 2, 1) := by decide +kernel
theorem dX6_readPerson_61 : decode cX6_readPerson 61 = .ok (.iload 4, 2) := by decide +kernel
theorem dX6_readPerson_63 : decode cX6_readPerson 63 = .ok (.invokestatic 64, 3) := by decide +kernel
theorem dX6_readPerson_66 : decode cX6_readPerson 66 = .ok (.ifCond .eq 5, 3) := by decide +kernel
theorem dX6_readPerson_69 : decode cX6_readPerson 69 = .ok (.iconst 0, 1) := by decide +kernel
theorem dX6_readPerson_70 : decode cX6_readPerson 70 = .ok (.ireturn, 1) := by decide +kernel
theorem dX6_readPerson_71 : decode cX6_readPerson 71 = .ok (.iload_n 2, 1) := by decide +kernel
theorem dX6_readPerson_72 : decode cX6_readPerson 72 = .ok (.iconst 1, 1) := by decide +kernel
theorem dX6_readPerson_73 : decode cX6_readPerson 73 = .ok (.iload 4, 2) := by decide +kernel
theorem dX6_readPerson_75 : decode cX6_readPerson 75 = .ok (.ishl, 1) := by decide +kernel
theorem dX6_readPerson_76 : decode cX6_readPerson 76 = .ok (.ior, 1) := by decide +kernel
theorem dX6_readPerson_77 : decode cX6_readPerson 77 = .ok (.istore_n 2, 1) := by decide +kernel
theorem dX6_readPerson_78 : decode cX6_readPerson 78 = .ok (.aload_n 1, 1) := by decide +kernel
theorem dX6_readPerson_79 : decode cX6_readPerson 79 = .ok (.dup, 1) := by decide +kernel
theorem dX6_readPerson_80 : decode cX6_readPerson 80 = .ok (.getfield 38, 3) := by decide +kernel
theorem dX6_readPerson_83 : decode cX6_readPerson 83 = .ok (.iconst 1, 1) := by decide +kernel
theorem dX6_readPerson_84 : decode cX6_readPerson 84 = .ok (.iadd, 1) := by decide +kernel
theorem dX6_readPerson_85 : decode cX6_readPerson 85 = .ok (.putfield 38, 3) := by decide +kernel
theorem dX6_readPerson_88 : decode cX6_readPerson 88 = .ok (.aload_n 0, 1) := by decide +kernel
theorem dX6_readPerson_89 : decode cX6_readPerson 89 = .ok (.aload_n 1, 1) := by decide +kernel
theorem dX6_readPerson_90 : decode cX6_readPerson 90 = .ok (.iload 4, 2) := by decide +kernel
theorem dX6_readPerson_92 : decode cX6_readPerson 92 = .ok (.invokevirtual 68, 3) := by decide +kernel
theorem dX6_readPerson_95 : decode cX6_readPerson 95 = .ok (.ifCond .ne 5, 3) := by decide +kernel
theorem dX6_readPerson_98 : decode cX6_readPerson 98 = .ok (.iconst 0, 1) := by decide +kernel
theorem dX6_readPerson_99 : decode cX6_readPerson 99 = .ok (.ireturn, 1) := by decide +kernel
theorem dX6_readPerson_100 : decode cX6_readPerson 100 = .ok (.iinc 3 1, 3) := by decide +kernel
theorem dX6_readPerson_103 : decode cX6_readPerson 103 = .ok (.goto (-68), 3) := by decide +kernel
theorem dX6_readPerson_106 : decode cX6_readPerson 106 = .ok (.iconst 1, 1) := by decide +kernel
theorem dX6_readPerson_107 : decode cX6_readPerson 107 = .ok (.ireturn, 1) := by decide +kernel
theorem ML_X6_51 : MLk RX6 51 yX10_next := Or.inl ml_X6_51
theorem ML_X6_60 : MLk RX6 60 yX11_indexIn := Or.inr ⟨_, mn_X6_60⟩
theorem MS_X11_indexIn : MSk K_X11_indexIn 2 := ⟨⟨cd_X11_indexIn, in_X11, ⟨by decide, by decide, by decide +kernel⟩, by decide⟩, st_X11_indexIn⟩
theorem ML_X6_64 : MLk RX6 64 yX11_isIn := Or.inr ⟨_, mn_X6_64⟩
theorem ML_X6_68 : MLk RX6 68 yX6_readItem := Or.inl ml_X6_68
theorem MV_X6_readItem : MVk K_X6_readItem 2 6 := ⟨⟨cd_X6_readItem, in_X6, ⟨by decide, by decide, by decide +kernel⟩, by decide⟩, im_X6_readItem, se_X6_readItem, _, _, rfl⟩
theorem ML_X6_47 : MLk RX6 47 yX10_pass := Or.inl ml_X6_47
theorem MV_X10_pass : MVk K_X10_pass 1 10 := ⟨⟨cd_X10_pass, in_X10, ⟨by decide, by decide, by decide +kernel⟩, by decide⟩, im_X10_pass, se_X10_pass, _, _, rfl⟩
theorem S_X6_55 : SLk RX6 55 2 := ⟨by decide, Or.inr ⟨_, fn_X6_55⟩⟩
def f_X6_readPerson_35 : Nat → Nat → Nat → Int32 → Int32 → AH → Option (Int32 × AH)
  | 0, _, _, _, _, _ => none
  | n + 1, k0, k1, x2, x3, h =>
    if 7 < x3 then (
      some (1, h)
    ) else (
      ob (f_X10_next k1 h) fun r_4 h_3 =>
      ob (f_X11_indexIn 1000 r_4 h_3) fun r_7 h_6 =>
      if r_7 = (-1) then (
        some (1, h_6)
      ) else (
        ob (f_X11_isIn x2 r_7 h_6) fun r_11 h_10 =>
        if r_11 = 0 then (
          nm ((x2 ||| ((1 : Int32) <<< (r_7 &&& 31)))) fun x2_13 =>
          nm (sI h_10 k1 2 ((h_10.1 k1 2) + 1)) fun h_15 =>
          ob (f_X6_readItem k0 k1 r_7 h_15) fun r_19 h_18 =>
          if r_19 = 0 then (
            some (0, h_18)
          ) else (
            nm (x3 + 1) fun x3_21 =>
            f_X6_readPerson_35 n k0 k1 x2_13 x3_21 h_18
          )
        ) else (
          some (0, h_10)
        )
      )
    )
def f_X6_readPerson (k0 : Nat) (k1 : Nat) (h : AH) : Option (Int32 × AH) :=
  ob (f_X10_pass k1 112 h) fun r_3 h_2 =>
  if r_3 = 0 then (
    some (0, h_2)
  ) else (
    og (cok 0 ((h_2.1 k0 2) * 7) 7 (sN 2) (an (rf k0 0))) <|
    nm (sCt h_2 2 0 (rf k0 0) ((h_2.1 k0 2) * 7) 7) fun h_6 =>
    f_X6_readPerson_35 FU k0 k1 0 0 h_6
  )
set_option maxHeartbeats 4000000 in
set_option maxRecDepth 100000 in
theorem v_X6_readPerson_35 {E : EV} {d : Nat} (hd : 6 ≤ d) {r0 : Int32} {h0 : AH} : ∀ (n : Nat) (k0 : Nat) (k1 : Nat) (x2 : Int32) (x3 : Int32) (h : AH), f_X6_readPerson_35 n k0 k1 x2 x3 h = some (r0, h0) → kd k0 = (0, 6) → kd k1 = (0, 10) → V E (d + 1) K_X6_readPerson (ZI E r0 h0) h [(0, .ref k0), (1, .ref k1), (2, .int x2), (3, .int x3)] [] 35 := by
  intro n
  induction n with
  | zero =>
    intro k0 k1 x2 x3 h hf
    rw [f_X6_readPerson_35] at hf
    cases hf
  | succ n ih =>
    intro k0 k1 x2 x3 h hf t_k0 t_k1
    rw [f_X6_readPerson_35] at hf
    refine V_iload_n 3 dX6_readPerson_35 rfl rfl ?_
    refine V_bipush (v := 7) dX6_readPerson_36 (by decide) ?_
    refine V_ic_gt (tgt := 106) dX6_readPerson_38 (by decide) (fun c_1 => ?_) (fun c_1 => ?_)
    · have hf := it_s c_1 hf
      refine V_iconst (v := 1) dX6_readPerson_106 (by decide) ?_
      exact V_zret rfl (by decide) (so_s hf) dX6_readPerson_107
    · have hf := if_s c_1 hf
      refine V_ldcS (a := 1000) (List.mem_of_getElem? (i := 1) rfl) rfl dX6_readPerson_41 ?_
      refine V_aload_n 1 dX6_readPerson_43 rfl rfl ?_
      obtain ⟨r_4, h_3, e_2, hf⟩ := ob_s hf
      refine V_cvi (As := []) (rest := [.ref 1000]) (c_X10_next (d := d) (Nat.le_trans (Nat.le_of_ble_eq_true rfl) hd) e_2 t_k1) ML_X6_51 MV_X10_next rfl t_k1 rfl rfl (Nat.le_of_ble_eq_true rfl) dX6_readPerson_44 ?_
      obtain ⟨r_7, h_6, e_5, hf⟩ := ob_s hf
      refine V_csi (As := [.ref 1000, .int r_4]) (rest := []) (c_X11_indexIn (d := d) (Nat.le_trans (Nat.le_of_ble_eq_true rfl) hd) e_5) ML_X6_60 MS_X11_indexIn rfl rfl rfl (Nat.le_of_ble_eq_true rfl) dX6_readPerson_47 ?_
      refine V_istore (L' := [(4, .int r_7), (0, .ref k0), (1, .ref k1), (2, .int x2), (3, .int x3)]) dX6_readPerson_50 (Nat.le_of_ble_eq_true rfl) rfl rfl ?_
      refine V_iload 0 dX6_readPerson_52 rfl ?_
      refine V_iconst (v := (-1)) dX6_readPerson_54 (by decide) ?_
      refine V_ic_ne (tgt := 60) dX6_readPerson_55 (by decide) (fun c_8 => ?_) (fun c_8 => ?_)
      · have hf := if_s c_8 hf
        refine V_iload_n 3 dX6_readPerson_60 rfl rfl ?_
        refine V_iload 0 dX6_readPerson_61 rfl ?_
        obtain ⟨r_11, h_10, e_9, hf⟩ := ob_s hf
        refine V_csi (As := [.int x2, .int r_7]) (rest := []) (c_X11_isIn (d := d) (Nat.le_trans (Nat.le_of_ble_eq_true rfl) hd) e_9) ML_X6_64 MS_X11_isIn rfl rfl rfl (Nat.le_of_ble_eq_true rfl) dX6_readPerson_63 ?_
        refine V_if_eq (tgt := 71) dX6_readPerson_66 (by decide) (fun c_12 => ?_) (fun c_12 => ?_)
        · have hf := it_s c_12 hf
          refine V_iload_n 3 dX6_readPerson_71 rfl rfl ?_
          refine V_iconst (v := 1) dX6_readPerson_72 (by decide) ?_
          refine V_iload 0 dX6_readPerson_73 rfl ?_
          refine V_ishl dX6_readPerson_75 ?_
          refine V_ior dX6_readPerson_76 ?_
          obtain ⟨x2_13, e_14, hf⟩ := nm_s hf
          refine V_istore_n (L' := [(2, .int x2_13), (4, .int r_7), (0, .ref k0), (1, .ref k1), (3, .int x3)]) dX6_readPerson_77 rfl (Nat.le_of_ble_eq_true rfl) e_14 rfl ?_
          refine V_aload_n 3 dX6_readPerson_78 rfl rfl ?_
          refine V_dup dX6_readPerson_79 rfl ?_
          refine V_getI F_X6_38 rfl t_k1 rfl dX6_readPerson_80 ?_
          refine V_iconst (v := 1) dX6_readPerson_83 (by decide) ?_
          refine V_iadd dX6_readPerson_84 ?_
          obtain ⟨h_15, e_16, hf⟩ := nm_s hf
          refine V_putI P_X6_38 rfl t_k1 rfl e_16 dX6_readPerson_85 ?_
          refine V_aload_n 2 dX6_readPerson_88 rfl rfl ?_
          refine V_aload_n 3 dX6_readPerson_89 rfl rfl ?_
          refine V_iload 1 dX6_readPerson_90 rfl ?_
          obtain ⟨r_19, h_18, e_17, hf⟩ := ob_s hf
          refine V_cvi (As := [.ref k1, .int r_7]) (rest := []) (c_X6_readItem (d := d) (Nat.le_trans (Nat.le_of_ble_eq_true rfl) hd) e_17 t_k0 t_k1) ML_X6_68 MV_X6_readItem rfl t_k0 rfl rfl (Nat.le_of_ble_eq_true rfl) dX6_readPerson_92 ?_
          refine V_if_ne (tgt := 100) dX6_readPerson_95 (by decide) (fun c_20 => ?_) (fun c_20 => ?_)
          · have hf := if_s c_20 hf
            obtain ⟨x3_21, e_22, hf⟩ := nm_s hf
            refine V_iinc (a := 1) (L' := [(3, .int x3_21), (2, .int x2_13), (4, .int r_7), (0, .ref k0), (1, .ref k1)]) 4 dX6_readPerson_100 rfl (by decide) (Nat.le_of_ble_eq_true rfl) e_22 rfl ?_
            refine V_goto (tgt := 35) dX6_readPerson_103 (by decide) ?_
            refine V_sub [3, 4, 1, 0] rfl ?_
            exact ih _ _ _ _ _ hf t_k0 t_k1
          · have hf := it_s c_20 hf
            refine V_iconst (v := 0) dX6_readPerson_98 (by decide) ?_
            exact V_zret rfl (by decide) (so_s hf) dX6_readPerson_99
        · have hf := if_s c_12 hf
          refine V_iconst (v := 0) dX6_readPerson_69 (by decide) ?_
          exact V_zret rfl (by decide) (so_s hf) dX6_readPerson_70
      · have hf := it_s c_8 hf
        refine V_iconst (v := 1) dX6_readPerson_58 (by decide) ?_
        exact V_zret rfl (by decide) (so_s hf) dX6_readPerson_59
set_option maxHeartbeats 4000000 in
set_option maxRecDepth 100000 in
theorem c_X6_readPerson {E : EV} {d : Nat} (hd : 6 + 1 ≤ d) {k0 : Nat} {k1 : Nat} {h : AH} {r0 : Int32} {h0 : AH} (hf : f_X6_readPerson k0 k1 h = some (r0, h0)) (t_k0 : kd k0 = (0, 6)) (t_k1 : kd k1 = (0, 10)) : Con E d K_X6_readPerson (ZI E r0 h0) [.ref k0, .ref k1] h := by
  obtain ⟨d, rfl⟩ : ∃ d', d = d' + 1 := ⟨d - 1, by omega⟩
  have hd := Nat.le_of_succ_le_succ hd
  refine Con.ofV rfl (Nat.le_of_ble_eq_true rfl) ?_
  unfold f_X6_readPerson at hf
  show V E (d + 1) K_X6_readPerson (ZI E r0 h0) h [(0, .ref k0), (1, .ref k1)] [] 0
  refine V_aload_n 1 dX6_readPerson_0 rfl rfl ?_
  refine V_bipush (v := 112) dX6_readPerson_1 (by decide) ?_
  obtain ⟨r_3, h_2, e_1, hf⟩ := ob_s hf
  refine V_cvi (As := [.int 112]) (rest := []) (c_X10_pass (d := d) (Nat.le_trans (Nat.le_of_ble_eq_true rfl) hd) e_1 t_k1) ML_X6_47 MV_X10_pass rfl t_k1 rfl rfl (Nat.le_of_ble_eq_true rfl) dX6_readPerson_3 ?_
  refine V_if_ne (tgt := 11) dX6_readPerson_6 (by decide) (fun c_4 => ?_) (fun c_4 => ?_)
  · have hf := if_s c_4 hf
    refine V_gets S_X6_55 rfl rfl dX6_readPerson_11 ?_
    refine V_iconst (v := 0) dX6_readPerson_14 (by decide) ?_
    refine V_aload_n 0 dX6_readPerson_15 rfl rfl ?_
    refine V_getR F_X6_9 rfl t_k0 rfl dX6_readPerson_16 ?_
    refine V_aload_n 0 dX6_readPerson_19 rfl rfl ?_
    refine V_getI F_X6_34 rfl t_k0 rfl dX6_readPerson_20 ?_
    refine V_bipush (v := 7) dX6_readPerson_23 (by decide) ?_
    refine V_imul dX6_readPerson_25 ?_
    refine V_bipush (v := 7) dX6_readPerson_26 (by decide) ?_
    obtain ⟨b_5, hf⟩ := og_s hf
    obtain ⟨h_6, e_7, hf⟩ := nm_s hf
    refine V_acopyT (i := 2) ml_X6_22 rfl (by decide) rfl (rfA t_k0 (Nat.le_of_ble_eq_true rfl) rfl rfl (by decide)) b_5 e_7 (Nat.le_of_ble_eq_true rfl) dX6_readPerson_28 ?_
    refine V_iconst (v := 0) dX6_readPerson_31 (by decide) ?_
    refine V_istore_n (L' := [(2, .int 0), (0, .ref k0), (1, .ref k1)]) dX6_readPerson_32 rfl (Nat.le_of_ble_eq_true rfl) rfl rfl ?_
    refine V_iconst (v := 0) dX6_readPerson_33 (by decide) ?_
    refine V_istore_n (L' := [(3, .int 0), (2, .int 0), (0, .ref k0), (1, .ref k1)]) dX6_readPerson_34 rfl (Nat.le_of_ble_eq_true rfl) rfl rfl ?_
    refine V_sub [2, 3, 1, 0] rfl ?_
    exact v_X6_readPerson_35 hd FU _ _ _ _ _ hf t_k0 t_k1
  · have hf := it_s c_4 hf
    refine V_iconst (v := 0) dX6_readPerson_9 (by decide) ?_
    exact V_zret rfl (by decide) (so_s hf) dX6_readPerson_10
theorem dX6_read_0 : decode cX6_read 0 = .ok (.aload_n 1, 1) := by decide +kernel
theorem dX6_read_1 : decode cX6_read 1 = .ok (.iconst 0, 1) := by decide +kernel
theorem dX6_read_2 : decode cX6_read 2 = .ok (.putfield 38, 3) := by decide +kernel
theorem dX6_read_5 : decode cX6_read 5 = .ok (.aload_n 0, 1) := by decide +kernel
theorem dX6_read_6 : decode cX6_read 6 = .ok (.iconst 0, 1) := by decide +kernel
theorem dX6_read_7 : decode cX6_read 7 = .ok (.putfield 34, 3) := by decide +kernel
theorem dX6_read_10 : decode cX6_read 10 = .ok (.iconst 1, 1) := by decide +kernel
theorem dX6_read_11 : decode cX6_read 11 = .ok (.istore_n 2, 1) := by decide +kernel
theorem dX6_read_12 : decode cX6_read 12 = .ok (.iload_n 2, 1) := by decide +kernel
theorem dX6_read_13 : decode cX6_read 13 = .ok (.ifCond .eq 62, 3) := by decide +kernel
theorem dX6_read_16 : decode cX6_read 16 = .ok (.aload_n 0, 1) := by decide +kernel
theorem dX6_read_17 : decode cX6_read 17 = .ok (.getfield 34, 3) := by decide +kernel
theorem dX6_read_20 : decode cX6_read 20 = .ok (.bipush 6, 2) := by decide +kernel
theorem dX6_read_22 : decode cX6_read 22 = .ok (.if_icmp .ge 53, 3) := by decide +kernel
theorem dX6_read_25 : decode cX6_read 25 = .ok (.aload_n 0, 1) := by decide +kernel
theorem dX6_read_26 : decode cX6_read 26 = .ok (.aload_n 1, 1) := by decide +kernel
theorem dX6_read_27 : decode cX6_read 27 = .ok (.invokevirtual 43, 3) := by decide +kernel
theorem dX6_read_30 : decode cX6_read 30 = .ok (.ifCond .ne 8, 3) := by decide +kernel
theorem dX6_read_33 : decode cX6_read 33 = .ok (.aload_n 1, 1) := by decide +kernel
theorem dX6_read_34 : decode cX6_read 34 = .ok (.getfield 38, 3) := by decide +kernel
theorem dX6_read_37 : decode cX6_read 37 = .ok (.ireturn, 1) := by decide +kernel
theorem dX6_read_38 : decode cX6_read 38 = .ok (.aload_n 0, 1) := by decide +kernel
theorem dX6_read_39 : decode cX6_read 39 = .ok (.dup, 1) := by decide +kernel
theorem dX6_read_40 : decode cX6_read 40 = .ok (.getfield 34, 3) := by decide +kernel
theorem dX6_read_43 : decode cX6_read 43 = .ok (.iconst 1, 1) := by decide +kernel
theorem dX6_read_44 : decode cX6_read 44 = .ok (.iadd, 1) := by decide +kernel
theorem dX6_read_45 : decode cX6_read 45 = .ok (.putfield 34, 3) := by decide +kernel
theorem dX6_read_48 : decode cX6_read 48 = .ok (.aload_n 0, 1) := by decide +kernel
theorem dX6_read_49 : decode cX6_read 49 = .ok (.getfield 34, 3) := by decide +kernel
theorem dX6_read_52 : decode cX6_read 52 = .ok (.bipush 6, 2) := by decide +kernel
theorem dX6_read_54 : decode cX6_read 54 = .ok (.if_icmp .ge 16, 3) := by decide +kernel
theorem dX6_read_57 : decode cX6_read 57 = .ok (.aload_n 1, 1) := by decide +kernel
theorem dX6_read_58 : decode cX6_read 58 = .ok (.bipush 59, 2) := by decide +kernel
theorem dX6_read_60 : decode cX6_read 60 = .ok (.invokevirtual 47, 3) := by decide +kernel
theorem dX6_read_63 : decode cX6_read 63 = .ok (.ifCond .eq 7, 3) := by decide +kernel
theorem dX6_read_66 : decode cX6_read 66 = .ok (.iconst 1, 1) := by decide +kernel
theorem dX6_read_67 : decode cX6_read 67 = .ok (.goto 4, 3) := by decide +kernel
theorem dX6_read_70 : decode cX6_read 70 = .ok (.iconst 0, 1) := by decide +kernel
theorem dX6_read_71 : decode cX6_read 71 = .ok (.istore_n 2, 1) := by decide +kernel
theorem dX6_read_72 : decode cX6_read 72 = .ok (.goto (-60), 3) := by decide +kernel
theorem dX6_read_75 : decode cX6_read 75 = .ok (.aload_n 0, 1) := by decide +kernel
theorem dX6_read_76 : decode cX6_read 76 = .ok (.getfield 34, 3) := by decide +kernel
theorem dX6_read_79 : decode cX6_read 79 = .ok (.iconst 2, 1) := by decide +kernel
theorem dX6_read_80 : decode cX6_read 80 = .ok (.if_icmp .lt 15, 3) := by decide +kernel
theorem dX6_read_83 : decode cX6_read 83 = .ok (.aload_n 1, 1) := by decide +kernel
theorem dX6_read_84 : decode cX6_read 84 = .ok (.invokevirtual 51, 3) := by decide +kernel
theorem dX6_read_87 : decode cX6_read 87 = .ok (.iconst (-1), 1) := by decide +kernel
theorem dX6_read_88 : decode cX6_read 88 = .ok (.if_icmp .ne 7, 3) := by decide +kernel
theorem dX6_read_91 : decode cX6_read 91 = .ok (.iconst (-1), 1) := by decide +kernel
theorem dX6_read_92 : decode cX6_read 92 = .ok (.goto 7, 3) := by decide +kernel
theorem dX6_read_95 : decode cX6_read 95 = .ok (.aload_n 1, 1) := by decide +kernel
theorem dX6_read_96 : decode cX6_read 96 = .ok (.getfield 38, 3) := by decide +kernel
theorem dX6_read_99 : decode cX6_read 99 = .ok (.ireturn, 1) := by decide +kernel
theorem ML_X6_43 : MLk RX6 43 yX6_readPerson := Or.inl ml_X6_43
theorem MV_X6_readPerson : MVk K_X6_readPerson 1 6 := ⟨⟨cd_X6_readPerson, in_X6, ⟨by decide, by decide, by decide +kernel⟩, by decide⟩, im_X6_readPerson, se_X6_readPerson, _, _, rfl⟩
theorem P_X6_34 : FPk RX6 34 6 2 .int := ⟨RX6, TX6, 3, tyX6, rfl, rfl, iw_X6, by decide, Or.inl fl_X6_34, tyX6_ok, nmX6, rfl, by decide +kernel⟩
def f_X6_read_71 (q12 : Nat → Nat → Int32 → AH → Option (Int32 × AH)) (k0 : Nat) (k1 : Nat) (s0 : Int32) (h : AH) : Option (Int32 × AH) :=
  q12 k0 k1 s0 h
def f_X6_read_70 (q12 : Nat → Nat → Int32 → AH → Option (Int32 × AH)) (k0 : Nat) (k1 : Nat) (h : AH) : Option (Int32 × AH) :=
  f_X6_read_71 q12 k0 k1 0 h
def f_X6_read_99 (s0 : Int32) (h : AH) : Option (Int32 × AH) :=
  some (s0, h)
def f_X6_read_95 (k1 : Nat) (h : AH) : Option (Int32 × AH) :=
  f_X6_read_99 (h.1 k1 2) h
def f_X6_read_75 (k0 : Nat) (k1 : Nat) (h : AH) : Option (Int32 × AH) :=
  if (h.1 k0 2) < 2 then (
    f_X6_read_95 k1 h
  ) else (
    ob (f_X10_next k1 h) fun r_4 h_3 =>
    if r_4 = (-1) then (
      f_X6_read_99 (-1) h_3
    ) else (
      f_X6_read_95 k1 h_3
    )
  )
def f_X6_read_12 : Nat → Nat → Nat → Int32 → AH → Option (Int32 × AH)
  | 0, _, _, _, _ => none
  | n + 1, k0, k1, x2, h =>
    if x2 = 0 then (
      f_X6_read_75 k0 k1 h
    ) else (
      if 6 ≤ (h.1 k0 2) then (
        f_X6_read_75 k0 k1 h
      ) else (
        ob (f_X6_readPerson k0 k1 h) fun r_5 h_4 =>
        if r_5 = 0 then (
          some ((h_4.1 k1 2), h_4)
        ) else (
          nm (sI h_4 k0 2 ((h_4.1 k0 2) + 1)) fun h_7 =>
          if 6 ≤ (h_7.1 k0 2) then (
            f_X6_read_70 (f_X6_read_12 n) k0 k1 h_7
          ) else (
            ob (f_X10_pass k1 59 h_7) fun r_12 h_11 =>
            if r_12 = 0 then (
              f_X6_read_70 (f_X6_read_12 n) k0 k1 h_11
            ) else (
              f_X6_read_71 (f_X6_read_12 n) k0 k1 1 h_11
            )
          )
        )
      )
    )
def f_X6_read (k0 : Nat) (k1 : Nat) (h : AH) : Option (Int32 × AH) :=
  nm (sI h k1 2 0) fun h_1 =>
  nm (sI h_1 k0 2 0) fun h_3 =>
  f_X6_read_12 FU k0 k1 1 h_3
set_option maxHeartbeats 4000000 in
set_option maxRecDepth 100000 in
theorem v_X6_read_71 {E : EV} {d : Nat} (hd : 7 ≤ d) {r0 : Int32} {h0 : AH} {q12 : Nat → Nat → Int32 → AH → Option (Int32 × AH)} (cq12 : ∀ (k0 : Nat) (k1 : Nat) (x2 : Int32) (h : AH), q12 k0 k1 x2 h = some (r0, h0) → kd k0 = (0, 6) → kd k1 = (0, 10) → V E (d + 1) K_X6_read (ZI E r0 h0) h [(0, .ref k0), (1, .ref k1), (2, .int x2)] [] 12) {k0 : Nat} {k1 : Nat} {s0 : Int32} {h : AH} (hf : f_X6_read_71 q12 k0 k1 s0 h = some (r0, h0)) (t_k0 : kd k0 = (0, 6)) (t_k1 : kd k1 = (0, 10)) : V E (d + 1) K_X6_read (ZI E r0 h0) h [(0, .ref k0), (1, .ref k1)] [.int s0] 71 := by
  unfold f_X6_read_71 at hf
  refine V_istore_n (L' := [(2, .int s0), (0, .ref k0), (1, .ref k1)]) dX6_read_71 rfl (Nat.le_of_ble_eq_true rfl) rfl rfl ?_
  refine V_goto (tgt := 12) dX6_read_72 (by decide) ?_
  refine V_sub [1, 2, 0] rfl ?_
  exact cq12 _ _ _ _ hf t_k0 t_k1
set_option maxHeartbeats 4000000 in
set_option maxRecDepth 100000 in
theorem v_X6_read_70 {E : EV} {d : Nat} (hd : 7 ≤ d) {r0 : Int32} {h0 : AH} {q12 : Nat → Nat → Int32 → AH → Option (Int32 × AH)} (cq12 : ∀ (k0 : Nat) (k1 : Nat) (x2 : Int32) (h : AH), q12 k0 k1 x2 h = some (r0, h0) → kd k0 = (0, 6) → kd k1 = (0, 10) → V E (d + 1) K_X6_read (ZI E r0 h0) h [(0, .ref k0), (1, .ref k1), (2, .int x2)] [] 12) {k0 : Nat} {k1 : Nat} {h : AH} (hf : f_X6_read_70 q12 k0 k1 h = some (r0, h0)) (t_k0 : kd k0 = (0, 6)) (t_k1 : kd k1 = (0, 10)) : V E (d + 1) K_X6_read (ZI E r0 h0) h [(0, .ref k0), (1, .ref k1)] [] 70 := by
  unfold f_X6_read_70 at hf
  refine V_iconst (v := 0) dX6_read_70 (by decide) ?_
  exact v_X6_read_71 hd cq12 hf t_k0 t_k1
set_option maxHeartbeats 4000000 in
set_option maxRecDepth 100000 in
theorem v_X6_read_99 {E : EV} {d : Nat} (hd : 7 ≤ d) {r0 : Int32} {h0 : AH} {s0 : Int32} {h : AH} (hf : f_X6_read_99 s0 h = some (r0, h0)) : V E (d + 1) K_X6_read (ZI E r0 h0) h [] [.int s0] 99 := by
  unfold f_X6_read_99 at hf
  exact V_iret rfl (so_s hf) dX6_read_99
set_option maxHeartbeats 4000000 in
set_option maxRecDepth 100000 in
theorem v_X6_read_95 {E : EV} {d : Nat} (hd : 7 ≤ d) {r0 : Int32} {h0 : AH} {k1 : Nat} {h : AH} (hf : f_X6_read_95 k1 h = some (r0, h0)) (t_k1 : kd k1 = (0, 10)) : V E (d + 1) K_X6_read (ZI E r0 h0) h [(1, .ref k1)] [] 95 := by
  unfold f_X6_read_95 at hf
  refine V_aload_n 0 dX6_read_95 rfl rfl ?_
  refine V_getI F_X6_38 rfl t_k1 rfl dX6_read_96 ?_
  refine V_sub [] rfl ?_
  exact v_X6_read_99 hd hf
set_option maxHeartbeats 4000000 in
set_option maxRecDepth 100000 in
theorem v_X6_read_75 {E : EV} {d : Nat} (hd : 7 ≤ d) {r0 : Int32} {h0 : AH} {k0 : Nat} {k1 : Nat} {h : AH} (hf : f_X6_read_75 k0 k1 h = some (r0, h0)) (t_k0 : kd k0 = (0, 6)) (t_k1 : kd k1 = (0, 10)) : V E (d + 1) K_X6_read (ZI E r0 h0) h [(0, .ref k0), (1, .ref k1)] [] 75 := by
  unfold f_X6_read_75 at hf
  refine V_aload_n 0 dX6_read_75 rfl rfl ?_
  refine V_getI F_X6_34 rfl t_k0 rfl dX6_read_76 ?_
  refine V_iconst (v := 2) dX6_read_79 (by decide) ?_
  refine V_ic_lt (tgt := 95) dX6_read_80 (by decide) (fun c_1 => ?_) (fun c_1 => ?_)
  · have hf := it_s c_1 hf
    refine V_sub [1] rfl ?_
    exact v_X6_read_95 hd hf t_k1
  · have hf := if_s c_1 hf
    refine V_aload_n 1 dX6_read_83 rfl rfl ?_
    obtain ⟨r_4, h_3, e_2, hf⟩ := ob_s hf
    refine V_cvi (As := []) (rest := []) (c_X10_next (d := d) (Nat.le_trans (Nat.le_of_ble_eq_true rfl) hd) e_2 t_k1) ML_X6_51 MV_X10_next rfl t_k1 rfl rfl (Nat.le_of_ble_eq_true rfl) dX6_read_84 ?_
    refine V_iconst (v := (-1)) dX6_read_87 (by decide) ?_
    refine V_ic_ne (tgt := 95) dX6_read_88 (by decide) (fun c_5 => ?_) (fun c_5 => ?_)
    · have hf := if_s c_5 hf
      refine V_sub [1] rfl ?_
      exact v_X6_read_95 hd hf t_k1
    · have hf := it_s c_5 hf
      refine V_iconst (v := (-1)) dX6_read_91 (by decide) ?_
      refine V_goto (tgt := 99) dX6_read_92 (by decide) ?_
      refine V_sub [] rfl ?_
      exact v_X6_read_99 hd hf
set_option maxHeartbeats 4000000 in
set_option maxRecDepth 100000 in
theorem v_X6_read_12 {E : EV} {d : Nat} (hd : 7 ≤ d) {r0 : Int32} {h0 : AH} : ∀ (n : Nat) (k0 : Nat) (k1 : Nat) (x2 : Int32) (h : AH), f_X6_read_12 n k0 k1 x2 h = some (r0, h0) → kd k0 = (0, 6) → kd k1 = (0, 10) → V E (d + 1) K_X6_read (ZI E r0 h0) h [(0, .ref k0), (1, .ref k1), (2, .int x2)] [] 12 := by
  intro n
  induction n with
  | zero =>
    intro k0 k1 x2 h hf
    rw [f_X6_read_12] at hf
    cases hf
  | succ n ih =>
    intro k0 k1 x2 h hf t_k0 t_k1
    rw [f_X6_read_12] at hf
    refine V_iload_n 2 dX6_read_12 rfl rfl ?_
    refine V_if_eq (tgt := 75) dX6_read_13 (by decide) (fun c_1 => ?_) (fun c_1 => ?_)
    · have hf := it_s c_1 hf
      refine V_sub [0, 1] rfl ?_
      exact v_X6_read_75 hd hf t_k0 t_k1
    · have hf := if_s c_1 hf
      refine V_aload_n 0 dX6_read_16 rfl rfl ?_
      refine V_getI F_X6_34 rfl t_k0 rfl dX6_read_17 ?_
      refine V_bipush (v := 6) dX6_read_20 (by decide) ?_
      refine V_ic_ge (tgt := 75) dX6_read_22 (by decide) (fun c_2 => ?_) (fun c_2 => ?_)
      · have hf := it_s c_2 hf
        refine V_sub [0, 1] rfl ?_
        exact v_X6_read_75 hd hf t_k0 t_k1
      · have hf := if_s c_2 hf
        refine V_aload_n 0 dX6_read_25 rfl rfl ?_
        refine V_aload_n 1 dX6_read_26 rfl rfl ?_
        obtain ⟨r_5, h_4, e_3, hf⟩ := ob_s hf
        refine V_cvi (As := [.ref k1]) (rest := []) (c_X6_readPerson (d := d) (Nat.le_trans (Nat.le_of_ble_eq_true rfl) hd) e_3 t_k0 t_k1) ML_X6_43 MV_X6_readPerson rfl t_k0 rfl rfl (Nat.le_of_ble_eq_true rfl) dX6_read_27 ?_
        refine V_if_ne (tgt := 38) dX6_read_30 (by decide) (fun c_6 => ?_) (fun c_6 => ?_)
        · have hf := if_s c_6 hf
          refine V_aload_n 0 dX6_read_38 rfl rfl ?_
          refine V_dup dX6_read_39 rfl ?_
          refine V_getI F_X6_34 rfl t_k0 rfl dX6_read_40 ?_
          refine V_iconst (v := 1) dX6_read_43 (by decide) ?_
          refine V_iadd dX6_read_44 ?_
          obtain ⟨h_7, e_8, hf⟩ := nm_s hf
          refine V_putI P_X6_34 rfl t_k0 rfl e_8 dX6_read_45 ?_
          refine V_aload_n 0 dX6_read_48 rfl rfl ?_
          refine V_getI F_X6_34 rfl t_k0 rfl dX6_read_49 ?_
          refine V_bipush (v := 6) dX6_read_52 (by decide) ?_
          refine V_ic_ge (tgt := 70) dX6_read_54 (by decide) (fun c_9 => ?_) (fun c_9 => ?_)
          · have hf := it_s c_9 hf
            refine V_sub [0, 1] rfl ?_
            exact v_X6_read_70 hd ih hf t_k0 t_k1
          · have hf := if_s c_9 hf
            refine V_aload_n 1 dX6_read_57 rfl rfl ?_
            refine V_bipush (v := 59) dX6_read_58 (by decide) ?_
            obtain ⟨r_12, h_11, e_10, hf⟩ := ob_s hf
            refine V_cvi (As := [.int 59]) (rest := []) (c_X10_pass (d := d) (Nat.le_trans (Nat.le_of_ble_eq_true rfl) hd) e_10 t_k1) ML_X6_47 MV_X10_pass rfl t_k1 rfl rfl (Nat.le_of_ble_eq_true rfl) dX6_read_60 ?_
            refine V_if_eq (tgt := 70) dX6_read_63 (by decide) (fun c_13 => ?_) (fun c_13 => ?_)
            · have hf := it_s c_13 hf
              refine V_sub [0, 1] rfl ?_
              exact v_X6_read_70 hd ih hf t_k0 t_k1
            · have hf := if_s c_13 hf
              refine V_iconst (v := 1) dX6_read_66 (by decide) ?_
              refine V_goto (tgt := 71) dX6_read_67 (by decide) ?_
              refine V_sub [0, 1] rfl ?_
              exact v_X6_read_71 hd ih hf t_k0 t_k1
        · have hf := it_s c_6 hf
          refine V_aload_n 1 dX6_read_33 rfl rfl ?_
          refine V_getI F_X6_38 rfl t_k1 rfl dX6_read_34 ?_
          exact V_iret rfl (so_s hf) dX6_read_37
set_option maxHeartbeats 4000000 in
set_option maxRecDepth 100000 in
theorem c_X6_read {E : EV} {d : Nat} (hd : 7 + 1 ≤ d) {k0 : Nat} {k1 : Nat} {h : AH} {r0 : Int32} {h0 : AH} (hf : f_X6_read k0 k1 h = some (r0, h0)) (t_k0 : kd k0 = (0, 6)) (t_k1 : kd k1 = (0, 10)) : Con E d K_X6_read (ZI E r0 h0) [.ref k0, .ref k1] h := by
  obtain ⟨d, rfl⟩ : ∃ d', d = d' + 1 := ⟨d - 1, by omega⟩
  have hd := Nat.le_of_succ_le_succ hd
  refine Con.ofV rfl (Nat.le_of_ble_eq_true rfl) ?_
  unfold f_X6_read at hf
  show V E (d + 1) K_X6_read (ZI E r0 h0) h [(0, .ref k0), (1, .ref k1)] [] 0
  refine V_aload_n 1 dX6_read_0 rfl rfl ?_
  refine V_iconst (v := 0) dX6_read_1 (by decide) ?_
  obtain ⟨h_1, e_2, hf⟩ := nm_s hf
  refine V_putI P_X6_38 rfl t_k1 rfl e_2 dX6_read_2 ?_
  refine V_aload_n 0 dX6_read_5 rfl rfl ?_
  refine V_iconst (v := 0) dX6_read_6 (by decide) ?_
  obtain ⟨h_3, e_4, hf⟩ := nm_s hf
  refine V_putI P_X6_34 rfl t_k0 rfl e_4 dX6_read_7 ?_
  refine V_iconst (v := 1) dX6_read_10 (by decide) ?_
  refine V_istore_n (L' := [(2, .int 1), (0, .ref k0), (1, .ref k1)]) dX6_read_11 rfl (Nat.le_of_ble_eq_true rfl) rfl rfl ?_
  refine V_sub [1, 2, 0] rfl ?_
  exact v_X6_read_12 hd FU _ _ _ _ hf t_k0 t_k1
theorem dX8_write_0 : decode cX8_write 0 = .ok (.aload_n 0, 1) := by decide +kernel
theorem dX8_write_1 : decode cX8_write 1 = .ok (.getfield 25, 3) := by decide +kernel
theorem dX8_write_4 : decode cX8_write 4 = .ok (.sipush 161, 3) := by decide +kernel
theorem dX8_write_7 : decode cX8_write 7 = .ok (.if_icmp .ge 23, 3) := by decide +kernel
theorem dX8_write_10 : decode cX8_write 10 = .ok (.aload_n 0, 1) := by decide +kernel
theorem dX8_write_11 : decode cX8_write 11 = .ok (.getfield 9, 3) := by decide +kernel
theorem dX8_write_14 : decode cX8_write 14 = .ok (.aload_n 0, 1) := by decide +kernel
theorem dX8_write_15 : decode cX8_write 15 = .ok (.getfield 25, 3) := by decide +kernel
theorem dX8_write_18 : decode cX8_write 18 = .ok (.iload_n 1, 1) := by decide +kernel
theorem dX8_write_19 : decode cX8_write 19 = .ok (.iastore, 1) := by decide +kernel
theorem dX8_write_20 : decode cX8_write 20 = .ok (.aload_n 0, 1) := by decide +kernel
theorem dX8_write_21 : decode cX8_write 21 = .ok (.dup, 1) := by decide +kernel
theorem dX8_write_22 : decode cX8_write 22 = .ok (.getfield 25, 3) := by decide +kernel
theorem dX8_write_25 : decode cX8_write 25 = .ok (.iconst 1, 1) := by decide +kernel
theorem dX8_write_26 : decode cX8_write 26 = .ok (.iadd, 1) := by decide +kernel
theorem dX8_write_27 : decode cX8_write 27 = .ok (.putfield 25, 3) := by decide +kernel
theorem dX8_write_30 : decode cX8_write 30 = .ok (.return_, 1) := by decide +kernel
theorem F_X8_25 : FLk RX8 25 8 2 := ⟨RX8, TX8, 3, rfl, rfl, iw_X8, by decide, Or.inl fl_X8_25⟩
theorem F_X8_9 : FLk RX8 9 8 1 := ⟨RX8, TX8, 3, rfl, rfl, iw_X8, by decide, Or.inl fl_X8_9⟩
theorem P_X8_25 : FPk RX8 25 8 2 .int := ⟨RX8, TX8, 3, tyX8, rfl, rfl, iw_X8, by decide, Or.inl fl_X8_25, tyX8_ok, nmX8, rfl, by decide +kernel⟩
def f_X8_write_30  (h : AH) : Option AH :=
  some h
def f_X8_write (k0 : Nat) (x1 : Int32) (h : AH) : Option AH :=
  if 161 ≤ (h.1 k0 2) then (
    f_X8_write_30 h
  ) else (
    og (ix (h.1 k0 2) (an (rf k0 1))) <|
    nm (sI h (rf k0 1) (h.1 k0 2).toNatClampNeg x1) fun h_3 =>
    nm (sI h_3 k0 2 ((h_3.1 k0 2) + 1)) fun h_5 =>
    f_X8_write_30 h_5
  )
set_option maxHeartbeats 4000000 in
set_option maxRecDepth 100000 in
theorem v_X8_write_30 {E : EV} {d : Nat} (hd : 0 ≤ d) {h0 : AH}  {h : AH} (hf : f_X8_write_30 h = some h0) : V E (d + 1) K_X8_write (ZV E h0) h [] [] 30 := by
  unfold f_X8_write_30 at hf
  exact V_vret rfl (so_s hf) dX8_write_30
set_option maxHeartbeats 4000000 in
set_option maxRecDepth 100000 in
theorem c_X8_write {E : EV} {d : Nat} (hd : 0 + 1 ≤ d) {k0 : Nat} {x1 : Int32} {h : AH} {h0 : AH} (hf : f_X8_write k0 x1 h = some h0) (t_k0 : kd k0 = (0, 8)) : Con E d K_X8_write (ZV E h0) [.ref k0, .int x1] h := by
  obtain ⟨d, rfl⟩ : ∃ d', d = d' + 1 := ⟨d - 1, by omega⟩
  have hd := Nat.le_of_succ_le_succ hd
  refine Con.ofV rfl (Nat.le_of_ble_eq_true rfl) ?_
  unfold f_X8_write at hf
  show V E (d + 1) K_X8_write (ZV E h0) h [(0, .ref k0), (1, .int x1)] [] 0
  refine V_aload_n 0 dX8_write_0 rfl rfl ?_
  refine V_getI F_X8_25 rfl t_k0 rfl dX8_write_1 ?_
  refine V_sipush (v := 161) dX8_write_4 (by decide) ?_
  refine V_ic_ge (tgt := 30) dX8_write_7 (by decide) (fun c_1 => ?_) (fun c_1 => ?_)
  · have hf := it_s c_1 hf
    refine V_sub [] rfl ?_
    exact v_X8_write_30 hd hf
  · have hf := if_s c_1 hf
    refine V_aload_n 0 dX8_write_10 rfl rfl ?_
    refine V_getR F_X8_9 rfl t_k0 rfl dX8_write_11 ?_
    refine V_aload_n 0 dX8_write_14 rfl rfl ?_
    refine V_getI F_X8_25 rfl t_k0 rfl dX8_write_15 ?_
    refine V_iload_n 1 dX8_write_18 rfl rfl ?_
    obtain ⟨b_2, hf⟩ := og_s hf
    obtain ⟨h_3, e_4, hf⟩ := nm_s hf
    refine V_iast (rfA t_k0 (Nat.le_of_ble_eq_true rfl) rfl rfl (by decide)) b_2 e_4 dX8_write_19 ?_
    refine V_aload_n 0 dX8_write_20 rfl rfl ?_
    refine V_dup dX8_write_21 rfl ?_
    refine V_getI F_X8_25 rfl t_k0 rfl dX8_write_22 ?_
    refine V_iconst (v := 1) dX8_write_25 (by decide) ?_
    refine V_iadd dX8_write_26 ?_
    obtain ⟨h_5, e_6, hf⟩ := nm_s hf
    refine V_putI P_X8_25 rfl t_k0 rfl e_6 dX8_write_27 ?_
    refine V_sub [] rfl ?_
    exact v_X8_write_30 hd hf
theorem dX8_readAtom_0 : decode cX8_readAtom 0 = .ok (.aload_n 0, 1) := by decide +kernel
theorem dX8_readAtom_1 : decode cX8_readAtom 1 = .ok (.getfield 15, 3) := by decide +kernel
theorem dX8_readAtom_4 : decode cX8_readAtom 4 = .ok (.invokevirtual 40, 3) := by decide +kernel
theorem dX8_readAtom_7 : decode cX8_readAtom 7 = .ok (.istore_n 2, 1) := by decide +kernel
theorem dX8_readAtom_8 : decode cX8_readAtom 8 = .ok (.iload_n 2, 1) := by decide +kernel
theorem dX8_readAtom_9 : decode cX8_readAtom 9 = .ok (.invokestatic 77, 3) := by decide +kernel
theorem dX8_readAtom_12 : decode cX8_readAtom 12 = .ok (.ifCond .eq 33, 3) := by decide +kernel
theorem dX8_readAtom_15 : decode cX8_readAtom 15 = .ok (.aload_n 0, 1) := by decide +kernel
theorem dX8_readAtom_16 : decode cX8_readAtom 16 = .ok (.getfield 15, 3) := by decide +kernel
theorem dX8_readAtom_19 : decode cX8_readAtom 19 = .ok (.iconst 4, 1) := by decide +kernel
theorem dX8_readAtom_20 : decode cX8_readAtom 20 = .ok (.invokevirtual 80, 3) := by decide +kernel
theorem dX8_readAtom_23 : decode cX8_readAtom 23 = .ok (.istore_n 3, 1) := by decide +kernel
theorem dX8_readAtom_24 : decode cX8_readAtom 24 = .ok (.iload_n 3, 1) := by decide +kernel
theorem dX8_readAtom_25 : decode cX8_readAtom 25 = .ok (.iconst (-1), 1) := by decide +kernel
theorem dX8_readAtom_26 : decode cX8_readAtom 26 = .ok (.if_icmp .eq 8, 3) := by decide +kernel
theorem dX8_readAtom_29 : decode cX8_readAtom 29 = .ok (.aload_n 0, 1) := by decide +kernel
theorem dX8_readAtom_30 : decode cX8_readAtom 30 = .ok (.iload_n 3, 1) := by decide +kernel
theorem dX8_readAtom_31 : decode cX8_readAtom 31 = .ok (.invokevirtual 32, 3) := by decide +kernel
theorem dX8_readAtom_34 : decode cX8_readAtom 34 = .ok (.iload_n 3, 1) := by decide +kernel
theorem dX8_readAtom_35 : decode cX8_readAtom 35 = .ok (.iconst (-1), 1) := by decide +kernel
theorem dX8_readAtom_36 : decode cX8_readAtom 36 = .ok (.if_icmp .eq 7, 3) := by decide +kernel
theorem dX8_readAtom_39 : decode cX8_readAtom 39 = .ok (.iconst 1, 1) := by decide +kernel
theorem dX8_readAtom_40 : decode cX8_readAtom 40 = .ok (.goto 4, 3) := by decide +kernel
theorem dX8_readAtom_43 : decode cX8_readAtom 43 = .ok (.iconst 0, 1) := by decide +kernel
theorem dX8_readAtom_44 : decode cX8_readAtom 44 = .ok (.ireturn, 1) := by decide +kernel
theorem dX8_readAtom_45 : decode cX8_readAtom 45 = .ok (.ldc 84, 2) := by decide +kernel
theorem dX8_readAtom_47 : decode cX8_readAtom 47 = .ok (.iload_n 2, 1) := by decide +kernel
theorem dX8_readAtom_48 : decode cX8_readAtom 48 = .ok (.invokestatic 86, 3) := by decide +kernel
theorem dX8_readAtom_51 : decode cX8_readAtom 51 = .ok (.istore_n 3, 1) := by decide +kernel
theorem dX8_readAtom_52 : decode cX8_readAtom 52 = .ok (.iload_n 3, 1) := by decide +kernel
theorem dX8_readAtom_53 : decode cX8_readAtom 53 = .ok (.iconst (-1), 1) := by decide +kernel
theorem dX8_readAtom_54 : decode cX8_readAtom 54 = .ok (.if_icmp .eq 27, 3) := by decide +kernel
theorem dX8_readAtom_57 : decode cX8_readAtom 57 = .ok (.aload_n 0, 1) := by decide +kernel
theorem dX8_readAtom_58 : decode cX8_readAtom 58 = .ok (.getfield 15, 3) := by decide +kernel
theorem dX8_readAtom_61 : decode cX8_readAtom 61 = .ok (.dup, 1) := by decide +kernel
theorem dX8_readAtom_62 : decode cX8_readAtom 62 = .ok (.getfield 19, 3) := by decide +kernel
theorem dX8_readAtom_65 : decode cX8_readAtom 65 = .ok (.iconst 1, 1) := by decide +kernel
theorem dX8_readAtom_66 : decode cX8_readAtom 66 = .ok (.iadd, 1) := by decide +kernel
theorem dX8_readAtom_67 : decode cX8_readAtom 67 = .ok (.putfield 19, 3) := by decide +kernel
theorem dX8_readAtom_70 : decode cX8_readAtom 70 = .ok (.aload_n 0, 1) := by decide +kernel
theorem dX8_readAtom_71 : decode cX8_readAtom 71 = .ok (.sipush 10000, 3) := by decide +kernel
theorem dX8_readAtom_74 : decode cX8_readAtom 74 = .ok (.iload_n 3, 1) := by decide +kernel
theorem dX8_readAtom_75 : decode cX8_readAtom 75 = .ok (.iadd, 1) := by decide +kernel
theorem dX8_readAtom_76 : decode cX8_readAtom 76 = .ok (.invokevirtual 32, 3) := by decide +kernel
theorem dX8_readAtom_79 : decode cX8_readAtom 79 = .ok (.iconst 1, 1) := by decide +kernel
theorem dX8_readAtom_80 : decode cX8_readAtom 80 = .ok (.ireturn, 1) := by decide +kernel
theorem dX8_readAtom_81 : decode cX8_readAtom 81 = .ok (.iload_n 2, 1) := by decide +kernel
theorem dX8_readAtom_82 : decode cX8_readAtom 82 = .ok (.bipush 91, 2) := by decide +kernel
theorem dX8_readAtom_84 : decode cX8_readAtom 84 = .ok (.if_icmp .ne 9, 3) := by decide +kernel
theorem dX8_readAtom_87 : decode cX8_readAtom 87 = .ok (.iload_n 1, 1) := by decide +kernel
theorem dX8_readAtom_88 : decode cX8_readAtom 88 = .ok (.bipush 6, 2) := by decide +kernel
theorem dX8_readAtom_90 : decode cX8_readAtom 90 = .ok (.if_icmp .ne 5, 3) := by decide +kernel
theorem dX8_readAtom_93 : decode cX8_readAtom 93 = .ok (.iconst 0, 1) := by decide +kernel
theorem dX8_readAtom_94 : decode cX8_readAtom 94 = .ok (.ireturn, 1) := by decide +kernel
theorem dX8_readAtom_95 : decode cX8_readAtom 95 = .ok (.aload_n 0, 1) := by decide +kernel
theorem dX8_readAtom_96 : decode cX8_readAtom 96 = .ok (.getfield 15, 3) := by decide +kernel
theorem dX8_readAtom_99 : decode cX8_readAtom 99 = .ok (.dup, 1) := by decide +kernel
theorem dX8_readAtom_100 : decode cX8_readAtom 100 = .ok (.getfield 19, 3) := by decide +kernel
theorem dX8_readAtom_103 : decode cX8_readAtom 103 = .ok (.iconst 1, 1) := by decide +kernel
theorem dX8_readAtom_104 : decode cX8_readAtom 104 = .ok (.iadd, 1) := by decide +kernel
theorem dX8_readAtom_105 : decode cX8_readAtom 105 = .ok (.putfield 19, 3) := by decide +kernel
theorem dX8_readAtom_108 : decode cX8_readAtom 108 = .ok (.aload_n 0, 1) := by decide +kernel
theorem dX8_readAtom_109 : decode cX8_readAtom 109 = .ok (.iload_n 1, 1) := by decide +kernel
theorem dX8_readAtom_110 : decode cX8_readAtom 110 = .ok (.iconst 1, 1) := by decide +kernel
theorem dX8_readAtom_111 : decode cX8_readAtom 111 = .ok (.iadd, 1) := by decide +kernel
theorem dX8_readAtom_112 : decode cX8_readAtom 112 = .ok (.invokevirtual 50, 3) := by decide +kernel
theorem dX8_readAtom_115 : decode cX8_readAtom 115 = .ok (.ifCond .eq 19, 3) := by decide +kernel
theorem dX8_readAtom_118 : decode cX8_readAtom 118 = .ok (.aload_n 0, 1) := by decide +kernel
theorem dX8_readAtom_119 : decode cX8_readAtom 119 = .ok (.getfield 15, 3) := by decide +kernel
theorem dX8_readAtom_122 : decode cX8_readAtom 122 = .ok (.bipush 93, 2) := by decide +kernel
theorem dX8_readAtom_124 : decode cX8_readAtom 124 = .ok (.invokevirtual 36, 3) := by decide +kernel
theorem dX8_readAtom_127 : decode cX8_readAtom 127 = .ok (.ifCond .eq 7, 3) := by decide +kernel
theorem dX8_readAtom_130 : decode cX8_readAtom 130 = .ok (.iconst 1, 1) := by decide +kernel
theorem dX8_readAtom_131 : decode cX8_readAtom 131 = .ok (.goto 4, 3) := by decide +kernel
theorem dX8_readAtom_134 : decode cX8_readAtom 134 = .ok (.iconst 0, 1) := by decide +kernel
theorem dX8_readAtom_135 : decode cX8_readAtom 135 = .ok (.ireturn, 1) := by decide +kernel
theorem F_X8_15 : FLk RX8 15 8 0 := ⟨RX8, TX8, 3, rfl, rfl, iw_X8, by decide, Or.inl fl_X8_15⟩
theorem ML_X8_40 : MLk RX8 40 yX10_next := Or.inl ml_X8_40
theorem ML_X8_77 : MLk RX8 77 yX11_isDigit := Or.inr ⟨_, mn_X8_77⟩
theorem ML_X8_86 : MLk RX8 86 yX11_indexIn := Or.inr ⟨_, mn_X8_86⟩
theorem F_X8_19 : FLk RX8 19 10 2 := ⟨RX10, TX10, 3, rfl, rfl, iw_X10, by decide, Or.inr ⟨_, fn_X8_19⟩⟩
theorem P_X8_19 : FPk RX8 19 10 2 .int := ⟨RX10, TX10, 3, tyX10, rfl, rfl, iw_X10, by decide, Or.inr ⟨_, fn_X8_19⟩, tyX10_ok, nmX10, rfl, by decide +kernel⟩
theorem ML_X8_50 : MLk RX8 50 yX8_readSum := Or.inl ml_X8_50
theorem MV_X8_readSum : MVk K_X8_readSum 1 8 := ⟨⟨cd_X8_readSum, in_X8, ⟨by decide, by decide, by decide +kernel⟩, by decide⟩, im_X8_readSum, se_X8_readSum, _, _, rfl⟩
theorem ML_X8_36 : MLk RX8 36 yX10_pass := Or.inl ml_X8_36
theorem ML_X8_32 : MLk RX8 32 yX8_write := Or.inl ml_X8_32
theorem MV_X8_write : MVk K_X8_write 1 8 := ⟨⟨cd_X8_write, in_X8, ⟨by decide, by decide, by decide +kernel⟩, by decide⟩, im_X8_write, se_X8_write, _, _, rfl⟩
theorem ML_X8_80 : MLk RX8 80 yX10_readNumber := Or.inl ml_X8_80
def f_X8_readAtom_44 (cb : Nat → Int32 → AH → Option (Int32 × AH)) (s0 : Int32) (h : AH) : Option (Int32 × AH) :=
  og (bz s0) <|
  some (s0, h)
def f_X8_readAtom_34 (cb : Nat → Int32 → AH → Option (Int32 × AH)) (x3 : Int32) (h : AH) : Option (Int32 × AH) :=
  if x3 = (-1) then (
    f_X8_readAtom_44 cb 0 h
  ) else (
    f_X8_readAtom_44 cb 1 h
  )
def f_X8_readAtom_93 (cb : Nat → Int32 → AH → Option (Int32 × AH))  (h : AH) : Option (Int32 × AH) :=
  some (0, h)
def f_X8_readAtom_135 (cb : Nat → Int32 → AH → Option (Int32 × AH)) (s0 : Int32) (h : AH) : Option (Int32 × AH) :=
  og (bz s0) <|
  some (s0, h)
def f_X8_readAtom_134 (cb : Nat → Int32 → AH → Option (Int32 × AH))  (h : AH) : Option (Int32 × AH) :=
  f_X8_readAtom_135 cb 0 h
def f_X8_readAtom (cb : Nat → Int32 → AH → Option (Int32 × AH)) (k0 : Nat) (x1 : Int32) (h : AH) : Option (Int32 × AH) :=
  ob (f_X10_next (rf k0 0) h) fun r_3 h_2 =>
  ob (f_X11_isDigit r_3 h_2) fun r_6 h_5 =>
  if r_6 = 0 then (
    ob (f_X11_indexIn 1001 r_3 h_5) fun r_10 h_9 =>
    if r_10 = (-1) then (
      if r_3 = 91 then (
        if x1 = 6 then (
          f_X8_readAtom_93 cb h_9
        ) else (
          nm (sI h_9 (rf k0 0) 2 ((h_9.1 (rf k0 0) 2) + 1)) fun h_14 =>
          ob (cb k0 (x1 + 1) h_14) fun r_18 h_17 =>
          if r_18 = 0 then (
            f_X8_readAtom_134 cb h_17
          ) else (
            ob (f_X10_pass (rf k0 0) 93 h_17) fun r_22 h_21 =>
            if r_22 = 0 then (
              f_X8_readAtom_134 cb h_21
            ) else (
              f_X8_readAtom_135 cb 1 h_21
            )
          )
        )
      ) else (
        f_X8_readAtom_93 cb h_9
      )
    ) else (
      nm (sI h_9 (rf k0 0) 2 ((h_9.1 (rf k0 0) 2) + 1)) fun h_24 =>
      ov (f_X8_write k0 (10000 + r_10) h_24) fun h_27 =>
      some (1, h_27)
    )
  ) else (
    ob (f_X10_readNumber (rf k0 0) 4 h_5) fun r_30 h_29 =>
    if r_30 = (-1) then (
      f_X8_readAtom_34 cb r_30 h_29
    ) else (
      ov (f_X8_write k0 r_30 h_29) fun h_33 =>
      f_X8_readAtom_34 cb r_30 h_33
    )
  )
set_option maxHeartbeats 4000000 in
set_option maxRecDepth 100000 in
theorem v_X8_readAtom_44 {E : EV} {d : Nat} {cb : Nat → Int32 → AH → Option (Int32 × AH)} {dc : Nat} (hcb : ∀ {d : Nat}, dc ≤ d → ∀ {k0 : Nat} {x1 : Int32} {h : AH} {r0 : Int32} {h0 : AH}, cb k0 x1 h = some (r0, h0) → kd k0 = (0, 8) → Con E d K_X8_readSum (ZI E r0 h0) [.ref k0, .int x1] h) (hd : 6 + dc ≤ d) {r0 : Int32} {h0 : AH} {s0 : Int32} {h : AH} (hf : f_X8_readAtom_44 cb s0 h = some (r0, h0)) : V E (d + 1) K_X8_readAtom (ZI E r0 h0) h [] [.int s0] 44 := by
  unfold f_X8_readAtom_44 at hf
  obtain ⟨b_1, hf⟩ := og_s hf
  exact V_zret rfl b_1 (so_s hf) dX8_readAtom_44
set_option maxHeartbeats 4000000 in
set_option maxRecDepth 100000 in
theorem v_X8_readAtom_34 {E : EV} {d : Nat} {cb : Nat → Int32 → AH → Option (Int32 × AH)} {dc : Nat} (hcb : ∀ {d : Nat}, dc ≤ d → ∀ {k0 : Nat} {x1 : Int32} {h : AH} {r0 : Int32} {h0 : AH}, cb k0 x1 h = some (r0, h0) → kd k0 = (0, 8) → Con E d K_X8_readSum (ZI E r0 h0) [.ref k0, .int x1] h) (hd : 6 + dc ≤ d) {r0 : Int32} {h0 : AH} {x3 : Int32} {h : AH} (hf : f_X8_readAtom_34 cb x3 h = some (r0, h0)) : V E (d + 1) K_X8_readAtom (ZI E r0 h0) h [(3, .int x3)] [] 34 := by
  unfold f_X8_readAtom_34 at hf
  refine V_iload_n 0 dX8_readAtom_34 rfl rfl ?_
  refine V_iconst (v := (-1)) dX8_readAtom_35 (by decide) ?_
  refine V_ic_eq (tgt := 43) dX8_readAtom_36 (by decide) (fun c_1 => ?_) (fun c_1 => ?_)
  · have hf := it_s c_1 hf
    refine V_iconst (v := 0) dX8_readAtom_43 (by decide) ?_
    refine V_sub [] rfl ?_
    exact v_X8_readAtom_44 hcb hd hf
  · have hf := if_s c_1 hf
    refine V_iconst (v := 1) dX8_readAtom_39 (by decide) ?_
    refine V_goto (tgt := 44) dX8_readAtom_40 (by decide) ?_
    refine V_sub [] rfl ?_
    exact v_X8_readAtom_44 hcb hd hf
set_option maxHeartbeats 4000000 in
set_option maxRecDepth 100000 in
theorem v_X8_readAtom_93 {E : EV} {d : Nat} {cb : Nat → Int32 → AH → Option (Int32 × AH)} {dc : Nat} (hcb : ∀ {d : Nat}, dc ≤ d → ∀ {k0 : Nat} {x1 : Int32} {h : AH} {r0 : Int32} {h0 : AH}, cb k0 x1 h = some (r0, h0) → kd k0 = (0, 8) → Con E d K_X8_readSum (ZI E r0 h0) [.ref k0, .int x1] h) (hd : 6 + dc ≤ d) {r0 : Int32} {h0 : AH}  {h : AH} (hf : f_X8_readAtom_93 cb h = some (r0, h0)) : V E (d + 1) K_X8_readAtom (ZI E r0 h0) h [] [] 93 := by
  unfold f_X8_readAtom_93 at hf
  refine V_iconst (v := 0) dX8_readAtom_93 (by decide) ?_
  exact V_zret rfl (by decide) (so_s hf) dX8_readAtom_94
set_option maxHeartbeats 4000000 in
set_option maxRecDepth 100000 in
theorem v_X8_readAtom_135 {E : EV} {d : Nat} {cb : Nat → Int32 → AH → Option (Int32 × AH)} {dc : Nat} (hcb : ∀ {d : Nat}, dc ≤ d → ∀ {k0 : Nat} {x1 : Int32} {h : AH} {r0 : Int32} {h0 : AH}, cb k0 x1 h = some (r0, h0) → kd k0 = (0, 8) → Con E d K_X8_readSum (ZI E r0 h0) [.ref k0, .int x1] h) (hd : 6 + dc ≤ d) {r0 : Int32} {h0 : AH} {s0 : Int32} {h : AH} (hf : f_X8_readAtom_135 cb s0 h = some (r0, h0)) : V E (d + 1) K_X8_readAtom (ZI E r0 h0) h [] [.int s0] 135 := by
  unfold f_X8_readAtom_135 at hf
  obtain ⟨b_1, hf⟩ := og_s hf
  exact V_zret rfl b_1 (so_s hf) dX8_readAtom_135
set_option maxHeartbeats 4000000 in
set_option maxRecDepth 100000 in
theorem v_X8_readAtom_134 {E : EV} {d : Nat} {cb : Nat → Int32 → AH → Option (Int32 × AH)} {dc : Nat} (hcb : ∀ {d : Nat}, dc ≤ d → ∀ {k0 : Nat} {x1 : Int32} {h : AH} {r0 : Int32} {h0 : AH}, cb k0 x1 h = some (r0, h0) → kd k0 = (0, 8) → Con E d K_X8_readSum (ZI E r0 h0) [.ref k0, .int x1] h) (hd : 6 + dc ≤ d) {r0 : Int32} {h0 : AH}  {h : AH} (hf : f_X8_readAtom_134 cb h = some (r0, h0)) : V E (d + 1) K_X8_readAtom (ZI E r0 h0) h [] [] 134 := by
  unfold f_X8_readAtom_134 at hf
  refine V_iconst (v := 0) dX8_readAtom_134 (by decide) ?_
  exact v_X8_readAtom_135 hcb hd hf
set_option maxHeartbeats 4000000 in
set_option maxRecDepth 100000 in
theorem c_X8_readAtom {E : EV} {d : Nat} {cb : Nat → Int32 → AH → Option (Int32 × AH)} {dc : Nat} (hcb : ∀ {d : Nat}, dc ≤ d → ∀ {k0 : Nat} {x1 : Int32} {h : AH} {r0 : Int32} {h0 : AH}, cb k0 x1 h = some (r0, h0) → kd k0 = (0, 8) → Con E d K_X8_readSum (ZI E r0 h0) [.ref k0, .int x1] h) (hd : 6 + dc + 1 ≤ d) {k0 : Nat} {x1 : Int32} {h : AH} {r0 : Int32} {h0 : AH} (hf : f_X8_readAtom cb k0 x1 h = some (r0, h0)) (t_k0 : kd k0 = (0, 8)) : Con E d K_X8_readAtom (ZI E r0 h0) [.ref k0, .int x1] h := by
  obtain ⟨d, rfl⟩ : ∃ d', d = d' + 1 := ⟨d - 1, by omega⟩
  have hd := Nat.le_of_succ_le_succ hd
  refine Con.ofV rfl (Nat.le_of_ble_eq_true rfl) ?_
  unfold f_X8_readAtom at hf
  show V E (d + 1) K_X8_readAtom (ZI E r0 h0) h [(0, .ref k0), (1, .int x1)] [] 0
  refine V_aload_n 0 dX8_readAtom_0 rfl rfl ?_
  refine V_getR F_X8_15 rfl t_k0 rfl dX8_readAtom_1 ?_
  obtain ⟨r_3, h_2, e_1, hf⟩ := ob_s hf
  refine V_cvi (As := []) (rest := []) (c_X10_next (d := d) (by omega) e_1 (rfO t_k0 (Nat.le_of_ble_eq_true rfl) rfl rfl)) ML_X8_40 MV_X10_next rfl (rfO t_k0 (Nat.le_of_ble_eq_true rfl) rfl rfl) rfl rfl (Nat.le_of_ble_eq_true rfl) dX8_readAtom_4 ?_
  refine V_istore_n (L' := [(2, .int r_3), (0, .ref k0), (1, .int x1)]) dX8_readAtom_7 rfl (Nat.le_of_ble_eq_true rfl) rfl rfl ?_
  refine V_iload_n 0 dX8_readAtom_8 rfl rfl ?_
  obtain ⟨r_6, h_5, e_4, hf⟩ := ob_s hf
  refine V_csi (As := [.int r_3]) (rest := []) (c_X11_isDigit (d := d) (by omega) e_4) ML_X8_77 MS_X11_isDigit rfl rfl rfl (Nat.le_of_ble_eq_true rfl) dX8_readAtom_9 ?_
  refine V_if_eq (tgt := 45) dX8_readAtom_12 (by decide) (fun c_7 => ?_) (fun c_7 => ?_)
  · have hf := it_s c_7 hf
    refine V_ldcS (a := 1001) (List.mem_of_getElem? (i := 2) rfl) rfl dX8_readAtom_45 ?_
    refine V_iload_n 0 dX8_readAtom_47 rfl rfl ?_
    obtain ⟨r_10, h_9, e_8, hf⟩ := ob_s hf
    refine V_csi (As := [.ref 1001, .int r_3]) (rest := []) (c_X11_indexIn (d := d) (by omega) e_8) ML_X8_86 MS_X11_indexIn rfl rfl rfl (Nat.le_of_ble_eq_true rfl) dX8_readAtom_48 ?_
    refine V_istore_n (L' := [(3, .int r_10), (2, .int r_3), (0, .ref k0), (1, .int x1)]) dX8_readAtom_51 rfl (Nat.le_of_ble_eq_true rfl) rfl rfl ?_
    refine V_iload_n 0 dX8_readAtom_52 rfl rfl ?_
    refine V_iconst (v := (-1)) dX8_readAtom_53 (by decide) ?_
    refine V_ic_eq (tgt := 81) dX8_readAtom_54 (by decide) (fun c_11 => ?_) (fun c_11 => ?_)
    · have hf := it_s c_11 hf
      refine V_iload_n 1 dX8_readAtom_81 rfl rfl ?_
      refine V_bipush (v := 91) dX8_readAtom_82 (by decide) ?_
      refine V_ic_ne (tgt := 93) dX8_readAtom_84 (by decide) (fun c_12 => ?_) (fun c_12 => ?_)
      · have hf := if_s c_12 hf
        refine V_sub [] rfl ?_
        exact v_X8_readAtom_93 hcb hd hf
      · have hf := it_s c_12 hf
        refine V_iload_n 3 dX8_readAtom_87 rfl rfl ?_
        refine V_bipush (v := 6) dX8_readAtom_88 (by decide) ?_
        refine V_ic_ne (tgt := 95) dX8_readAtom_90 (by decide) (fun c_13 => ?_) (fun c_13 => ?_)
        · have hf := if_s c_13 hf
          refine V_aload_n 2 dX8_readAtom_95 rfl rfl ?_
          refine V_getR F_X8_15 rfl t_k0 rfl dX8_readAtom_96 ?_
          refine V_dup dX8_readAtom_99 rfl ?_
          refine V_getI F_X8_19 rfl (rfO t_k0 (Nat.le_of_ble_eq_true rfl) rfl rfl) rfl dX8_readAtom_100 ?_
          refine V_iconst (v := 1) dX8_readAtom_103 (by decide) ?_
          refine V_iadd dX8_readAtom_104 ?_
          obtain ⟨h_14, e_15, hf⟩ := nm_s hf
          refine V_putI P_X8_19 rfl (rfO t_k0 (Nat.le_of_ble_eq_true rfl) rfl rfl) rfl e_15 dX8_readAtom_105 ?_
          refine V_aload_n 2 dX8_readAtom_108 rfl rfl ?_
          refine V_iload_n 3 dX8_readAtom_109 rfl rfl ?_
          refine V_iconst (v := 1) dX8_readAtom_110 (by decide) ?_
          refine V_iadd dX8_readAtom_111 ?_
          obtain ⟨r_18, h_17, e_16, hf⟩ := ob_s hf
          refine V_cvi (As := [.int (x1 + 1)]) (rest := []) (hcb (d := d) (by omega) e_16 t_k0) ML_X8_50 MV_X8_readSum rfl t_k0 rfl rfl (Nat.le_of_ble_eq_true rfl) dX8_readAtom_112 ?_
          refine V_if_eq (tgt := 134) dX8_readAtom_115 (by decide) (fun c_19 => ?_) (fun c_19 => ?_)
          · have hf := it_s c_19 hf
            refine V_sub [] rfl ?_
            exact v_X8_readAtom_134 hcb hd hf
          · have hf := if_s c_19 hf
            refine V_aload_n 2 dX8_readAtom_118 rfl rfl ?_
            refine V_getR F_X8_15 rfl t_k0 rfl dX8_readAtom_119 ?_
            refine V_bipush (v := 93) dX8_readAtom_122 (by decide) ?_
            obtain ⟨r_22, h_21, e_20, hf⟩ := ob_s hf
            refine V_cvi (As := [.int 93]) (rest := []) (c_X10_pass (d := d) (by omega) e_20 (rfO t_k0 (Nat.le_of_ble_eq_true rfl) rfl rfl)) ML_X8_36 MV_X10_pass rfl (rfO t_k0 (Nat.le_of_ble_eq_true rfl) rfl rfl) rfl rfl (Nat.le_of_ble_eq_true rfl) dX8_readAtom_124 ?_
            refine V_if_eq (tgt := 134) dX8_readAtom_127 (by decide) (fun c_23 => ?_) (fun c_23 => ?_)
            · have hf := it_s c_23 hf
              refine V_sub [] rfl ?_
              exact v_X8_readAtom_134 hcb hd hf
            · have hf := if_s c_23 hf
              refine V_iconst (v := 1) dX8_readAtom_130 (by decide) ?_
              refine V_goto (tgt := 135) dX8_readAtom_131 (by decide) ?_
              refine V_sub [] rfl ?_
              exact v_X8_readAtom_135 hcb hd hf
        · have hf := it_s c_13 hf
          refine V_sub [] rfl ?_
          exact v_X8_readAtom_93 hcb hd hf
    · have hf := if_s c_11 hf
      refine V_aload_n 2 dX8_readAtom_57 rfl rfl ?_
      refine V_getR F_X8_15 rfl t_k0 rfl dX8_readAtom_58 ?_
      refine V_dup dX8_readAtom_61 rfl ?_
      refine V_getI F_X8_19 rfl (rfO t_k0 (Nat.le_of_ble_eq_true rfl) rfl rfl) rfl dX8_readAtom_62 ?_
      refine V_iconst (v := 1) dX8_readAtom_65 (by decide) ?_
      refine V_iadd dX8_readAtom_66 ?_
      obtain ⟨h_24, e_25, hf⟩ := nm_s hf
      refine V_putI P_X8_19 rfl (rfO t_k0 (Nat.le_of_ble_eq_true rfl) rfl rfl) rfl e_25 dX8_readAtom_67 ?_
      refine V_aload_n 2 dX8_readAtom_70 rfl rfl ?_
      refine V_sipush (v := 10000) dX8_readAtom_71 (by decide) ?_
      refine V_iload_n 0 dX8_readAtom_74 rfl rfl ?_
      refine V_iadd dX8_readAtom_75 ?_
      obtain ⟨h_27, e_26, hf⟩ := ov_s hf
      refine V_cvv (As := [.int (10000 + r_10)]) (rest := []) (c_X8_write (d := d) (by omega) e_26 t_k0) ML_X8_32 MV_X8_write rfl t_k0 rfl rfl (Nat.le_of_ble_eq_true rfl) dX8_readAtom_76 ?_
      refine V_iconst (v := 1) dX8_readAtom_79 (by decide) ?_
      exact V_zret rfl (by decide) (so_s hf) dX8_readAtom_80
  · have hf := if_s c_7 hf
    refine V_aload_n 1 dX8_readAtom_15 rfl rfl ?_
    refine V_getR F_X8_15 rfl t_k0 rfl dX8_readAtom_16 ?_
    refine V_iconst (v := 4) dX8_readAtom_19 (by decide) ?_
    obtain ⟨r_30, h_29, e_28, hf⟩ := ob_s hf
    refine V_cvi (As := [.int 4]) (rest := []) (c_X10_readNumber (d := d) (by omega) e_28 (rfO t_k0 (Nat.le_of_ble_eq_true rfl) rfl rfl)) ML_X8_80 MV_X10_readNumber rfl (rfO t_k0 (Nat.le_of_ble_eq_true rfl) rfl rfl) rfl rfl (Nat.le_of_ble_eq_true rfl) dX8_readAtom_20 ?_
    refine V_istore_n (L' := [(3, .int r_30), (2, .int r_3), (0, .ref k0), (1, .int x1)]) dX8_readAtom_23 rfl (Nat.le_of_ble_eq_true rfl) rfl rfl ?_
    refine V_iload_n 0 dX8_readAtom_24 rfl rfl ?_
    refine V_iconst (v := (-1)) dX8_readAtom_25 (by decide) ?_
    refine V_ic_eq (tgt := 34) dX8_readAtom_26 (by decide) (fun c_31 => ?_) (fun c_31 => ?_)
    · have hf := it_s c_31 hf
      refine V_sub [0] rfl ?_
      exact v_X8_readAtom_34 hcb hd hf
    · have hf := if_s c_31 hf
      refine V_aload_n 2 dX8_readAtom_29 rfl rfl ?_
      refine V_iload_n 0 dX8_readAtom_30 rfl rfl ?_
      obtain ⟨h_33, e_32, hf⟩ := ov_s hf
      refine V_cvv (As := [.int r_30]) (rest := []) (c_X8_write (d := d) (by omega) e_32 t_k0) ML_X8_32 MV_X8_write rfl t_k0 rfl rfl (Nat.le_of_ble_eq_true rfl) dX8_readAtom_31 ?_
      refine V_sub [0] rfl ?_
      exact v_X8_readAtom_34 hcb hd hf
theorem dX8_readTerm_0 : decode cX8_readTerm 0 = .ok (.aload_n 0, 1) := by decide +kernel
theorem dX8_readTerm_1 : decode cX8_readTerm 1 = .ok (.iload_n 1, 1) := by decide +kernel
theorem dX8_readTerm_2 : decode cX8_readTerm 2 = .ok (.invokevirtual 74, 3) := by decide +kernel
theorem dX8_readTerm_5 : decode cX8_readTerm 5 = .ok (.ifCond .ne 5, 3) := by decide +kernel
theorem dX8_readTerm_8 : decode cX8_readTerm 8 = .ok (.iconst 0, 1) := by decide +kernel
theorem dX8_readTerm_9 : decode cX8_readTerm 9 = .ok (.ireturn, 1) := by decide +kernel
theorem dX8_readTerm_10 : decode cX8_readTerm 10 = .ok (.aload_n 0, 1) := by decide +kernel
theorem dX8_readTerm_11 : decode cX8_readTerm 11 = .ok (.getfield 15, 3) := by decide +kernel
theorem dX8_readTerm_14 : decode cX8_readTerm 14 = .ok (.invokevirtual 40, 3) := by decide +kernel
theorem dX8_readTerm_17 : decode cX8_readTerm 17 = .ok (.istore_n 2, 1) := by decide +kernel
theorem dX8_readTerm_18 : decode cX8_readTerm 18 = .ok (.iconst 0, 1) := by decide +kernel
theorem dX8_readTerm_19 : decode cX8_readTerm 19 = .ok (.istore_n 3, 1) := by decide +kernel
theorem dX8_readTerm_20 : decode cX8_readTerm 20 = .ok (.iload_n 3, 1) := by decide +kernel
theorem dX8_readTerm_21 : decode cX8_readTerm 21 = .ok (.sipush 160, 3) := by decide +kernel
theorem dX8_readTerm_24 : decode cX8_readTerm 24 = .ok (.if_icmp .ge 58, 3) := by decide +kernel
theorem dX8_readTerm_27 : decode cX8_readTerm 27 = .ok (.iload_n 2, 1) := by decide +kernel
theorem dX8_readTerm_28 : decode cX8_readTerm 28 = .ok (.bipush 42, 2) := by decide +kernel
theorem dX8_readTerm_30 : decode cX8_readTerm 30 = .ok (.if_icmp .eq 9, 3) := by decide +kernel
theorem dX8_readTerm_33 : decode cX8_readTerm 33 = .ok (.iload_n 2, 1) := by decide +kernel
theorem dX8_readTerm_34 : decode cX8_readTerm 34 = .ok (.bipush 47, 2) := by decide +kernel
theorem dX8_readTerm_36 : decode cX8_readTerm 36 = .ok (.if_icmp .ne 46, 3) := by decide +kernel
theorem dX8_readTerm_39 : decode cX8_readTerm 39 = .ok (.aload_n 0, 1) := by decide +kernel
theorem dX8_readTerm_40 : decode cX8_readTerm 40 = .ok (.getfield 15, 3) := by decide +kernel
theorem dX8_readTerm_43 : decode cX8_readTerm 43 = .ok (.dup, 1) := by decide +kernel
theorem dX8_readTerm_44 : decode cX8_readTerm 44 = .ok (.getfield 19, 3) := by decide +kernel
theorem dX8_readTerm_47 : decode cX8_readTerm 47 = .ok (.iconst 1, 1) := by decide +kernel
theorem dX8_readTerm_48 : decode cX8_readTerm 48 = .ok (.iadd, 1) := by decide +kernel
theorem dX8_readTerm_49 : decode cX8_readTerm 49 = .ok (.putfield 19, 3) := by decide +kernel
theorem dX8_readTerm_52 : decode cX8_readTerm 52 = .ok (.aload_n 0, 1) := by decide +kernel
theorem dX8_readTerm_53 : decode cX8_readTerm 53 = .ok (.iload_n 1, 1) := by decide +kernel
theorem dX8_readTerm_54 : decode cX8_readTerm 54 = .ok (.invokevirtual 74, 3) := by decide +kernel
theorem dX8_readTerm_57 : decode cX8_readTerm 57 = .ok (.ifCond .ne 5, 3) := by decide +kernel
theorem dX8_readTerm_60 : decode cX8_readTerm 60 = .ok (.iconst 0, 1) := by decide +kernel
theorem dX8_readTerm_61 : decode cX8_readTerm 61 = .ok (.ireturn, 1) := by decide +kernel
theorem dX8_readTerm_62 : decode cX8_readTerm 62 = .ok (.aload_n 0, 1) := by decide +kernel
theorem dX8_readTerm_63 : decode cX8_readTerm 63 = .ok (.iload_n 2, 1) := by decide +kernel
theorem dX8_readTerm_64 : decode cX8_readTerm 64 = .ok (.ineg, 1) := by decide +kernel
theorem dX8_readTerm_65 : decode cX8_readTerm 65 = .ok (.invokevirtual 32, 3) := by decide +kernel
theorem dX8_readTerm_68 : decode cX8_readTerm 68 = .ok (.aload_n 0, 1) := by decide +kernel
theorem dX8_readTerm_69 : decode cX8_readTerm 69 = .ok (.getfield 15, 3) := by decide +kernel
theorem dX8_readTerm_72 : decode cX8_readTerm 72 = .ok (.invokevirtual 40, 3) := by decide +kernel
theorem dX8_readTerm_75 : decode cX8_readTerm 75 = .ok (.istore_n 2, 1) := by decide +kernel
theorem dX8_readTerm_76 : decode cX8_readTerm 76 = .ok (.iinc 3 1, 3) := by decide +kernel
theorem dX8_readTerm_79 : decode cX8_readTerm 79 = .ok (.goto (-59), 3) := by decide +kernel
theorem dX8_readTerm_82 : decode cX8_readTerm 82 = .ok (.iconst 1, 1) := by decide +kernel
theorem dX8_readTerm_83 : decode cX8_readTerm 83 = .ok (.ireturn, 1) := by decide +kernel
theorem ML_X8_74 : MLk RX8 74 yX8_readAtom := Or.inl ml_X8_74
theorem MV_X8_readAtom : MVk K_X8_readAtom 1 8 := ⟨⟨cd_X8_readAtom, in_X8, ⟨by decide, by decide, by decide +kernel⟩, by decide⟩, im_X8_readAtom, se_X8_readAtom, _, _, rfl⟩
def f_X8_readTerm_39 (cb : Nat → Int32 → AH → Option (Int32 × AH)) (q20 : Nat → Int32 → Int32 → Int32 → AH → Option (Int32 × AH)) (k0 : Nat) (x1 : Int32) (x2 : Int32) (x3 : Int32) (h : AH) : Option (Int32 × AH) :=
  nm (sI h (rf k0 0) 2 ((h.1 (rf k0 0) 2) + 1)) fun h_1 =>
  ob (f_X8_readAtom cb k0 x1 h_1) fun r_5 h_4 =>
  if r_5 = 0 then (
    some (0, h_4)
  ) else (
    ov (f_X8_write k0 (-x2) h_4) fun h_8 =>
    ob (f_X10_next (rf k0 0) h_8) fun r_11 h_10 =>
    nm (x3 + 1) fun x3_12 =>
    q20 k0 x1 r_11 x3_12 h_10
  )
def f_X8_readTerm_82 (cb : Nat → Int32 → AH → Option (Int32 × AH))  (h : AH) : Option (Int32 × AH) :=
  some (1, h)
def f_X8_readTerm_20 (cb : Nat → Int32 → AH → Option (Int32 × AH)) : Nat → Nat → Int32 → Int32 → Int32 → AH → Option (Int32 × AH)
  | 0, _, _, _, _, _ => none
  | n + 1, k0, x1, x2, x3, h =>
    if 160 ≤ x3 then (
      f_X8_readTerm_82 cb h
    ) else (
      if x2 = 42 then (
        f_X8_readTerm_39 cb (f_X8_readTerm_20 cb n) k0 x1 x2 x3 h
      ) else (
        if x2 = 47 then (
          f_X8_readTerm_39 cb (f_X8_readTerm_20 cb n) k0 x1 x2 x3 h
        ) else (
          f_X8_readTerm_82 cb h
        )
      )
    )
def f_X8_readTerm (cb : Nat → Int32 → AH → Option (Int32 × AH)) (k0 : Nat) (x1 : Int32) (h : AH) : Option (Int32 × AH) :=
  ob (f_X8_readAtom cb k0 x1 h) fun r_3 h_2 =>
  if r_3 = 0 then (
    some (0, h_2)
  ) else (
    ob (f_X10_next (rf k0 0) h_2) fun r_7 h_6 =>
    f_X8_readTerm_20 cb FU k0 x1 r_7 0 h_6
  )
set_option maxHeartbeats 4000000 in
set_option maxRecDepth 100000 in
theorem v_X8_readTerm_39 {E : EV} {d : Nat} {cb : Nat → Int32 → AH → Option (Int32 × AH)} {dc : Nat} (hcb : ∀ {d : Nat}, dc ≤ d → ∀ {k0 : Nat} {x1 : Int32} {h : AH} {r0 : Int32} {h0 : AH}, cb k0 x1 h = some (r0, h0) → kd k0 = (0, 8) → Con E d K_X8_readSum (ZI E r0 h0) [.ref k0, .int x1] h) (hd : 7 + dc ≤ d) {r0 : Int32} {h0 : AH} {q20 : Nat → Int32 → Int32 → Int32 → AH → Option (Int32 × AH)} (cq20 : ∀ (k0 : Nat) (x1 : Int32) (x2 : Int32) (x3 : Int32) (h : AH), q20 k0 x1 x2 x3 h = some (r0, h0) → kd k0 = (0, 8) → V E (d + 1) K_X8_readTerm (ZI E r0 h0) h [(0, .ref k0), (1, .int x1), (2, .int x2), (3, .int x3)] [] 20) {k0 : Nat} {x1 : Int32} {x2 : Int32} {x3 : Int32} {h : AH} (hf : f_X8_readTerm_39 cb q20 k0 x1 x2 x3 h = some (r0, h0)) (t_k0 : kd k0 = (0, 8)) : V E (d + 1) K_X8_readTerm (ZI E r0 h0) h [(0, .ref k0), (1, .int x1), (2, .int x2), (3, .int x3)] [] 39 := by
  unfold f_X8_readTerm_39 at hf
  refine V_aload_n 0 dX8_readTerm_39 rfl rfl ?_
  refine V_getR F_X8_15 rfl t_k0 rfl dX8_readTerm_40 ?_
  refine V_dup dX8_readTerm_43 rfl ?_
  refine V_getI F_X8_19 rfl (rfO t_k0 (Nat.le_of_ble_eq_true rfl) rfl rfl) rfl dX8_readTerm_44 ?_
  refine V_iconst (v := 1) dX8_readTerm_47 (by decide) ?_
  refine V_iadd dX8_readTerm_48 ?_
  obtain ⟨h_1, e_2, hf⟩ := nm_s hf
  refine V_putI P_X8_19 rfl (rfO t_k0 (Nat.le_of_ble_eq_true rfl) rfl rfl) rfl e_2 dX8_readTerm_49 ?_
  refine V_aload_n 0 dX8_readTerm_52 rfl rfl ?_
  refine V_iload_n 1 dX8_readTerm_53 rfl rfl ?_
  obtain ⟨r_5, h_4, e_3, hf⟩ := ob_s hf
  refine V_cvi (As := [.int x1]) (rest := []) (c_X8_readAtom (d := d) hcb (by omega) e_3 t_k0) ML_X8_74 MV_X8_readAtom rfl t_k0 rfl rfl (Nat.le_of_ble_eq_true rfl) dX8_readTerm_54 ?_
  refine V_if_ne (tgt := 62) dX8_readTerm_57 (by decide) (fun c_6 => ?_) (fun c_6 => ?_)
  · have hf := if_s c_6 hf
    refine V_aload_n 0 dX8_readTerm_62 rfl rfl ?_
    refine V_iload_n 2 dX8_readTerm_63 rfl rfl ?_
    refine V_ineg dX8_readTerm_64 ?_
    obtain ⟨h_8, e_7, hf⟩ := ov_s hf
    refine V_cvv (As := [.int (-x2)]) (rest := []) (c_X8_write (d := d) (by omega) e_7 t_k0) ML_X8_32 MV_X8_write rfl t_k0 rfl rfl (Nat.le_of_ble_eq_true rfl) dX8_readTerm_65 ?_
    refine V_aload_n 0 dX8_readTerm_68 rfl rfl ?_
    refine V_getR F_X8_15 rfl t_k0 rfl dX8_readTerm_69 ?_
    obtain ⟨r_11, h_10, e_9, hf⟩ := ob_s hf
    refine V_cvi (As := []) (rest := []) (c_X10_next (d := d) (by omega) e_9 (rfO t_k0 (Nat.le_of_ble_eq_true rfl) rfl rfl)) ML_X8_40 MV_X10_next rfl (rfO t_k0 (Nat.le_of_ble_eq_true rfl) rfl rfl) rfl rfl (Nat.le_of_ble_eq_true rfl) dX8_readTerm_72 ?_
    refine V_istore_n (L' := [(2, .int r_11), (0, .ref k0), (1, .int x1), (3, .int x3)]) dX8_readTerm_75 rfl (Nat.le_of_ble_eq_true rfl) rfl rfl ?_
    obtain ⟨x3_12, e_13, hf⟩ := nm_s hf
    refine V_iinc (a := 1) (L' := [(3, .int x3_12), (2, .int r_11), (0, .ref k0), (1, .int x1)]) 3 dX8_readTerm_76 rfl (by decide) (Nat.le_of_ble_eq_true rfl) e_13 rfl ?_
    refine V_goto (tgt := 20) dX8_readTerm_79 (by decide) ?_
    refine V_sub [2, 3, 1, 0] rfl ?_
    exact cq20 _ _ _ _ _ hf t_k0
  · have hf := it_s c_6 hf
    refine V_iconst (v := 0) dX8_readTerm_60 (by decide) ?_
    exact V_zret rfl (by decide) (so_s hf) dX8_readTerm_61
set_option maxHeartbeats 4000000 in
set_option maxRecDepth 100000 in
theorem v_X8_readTerm_82 {E : EV} {d : Nat} {cb : Nat → Int32 → AH → Option (Int32 × AH)} {dc : Nat} (hcb : ∀ {d : Nat}, dc ≤ d → ∀ {k0 : Nat} {x1 : Int32} {h : AH} {r0 : Int32} {h0 : AH}, cb k0 x1 h = some (r0, h0) → kd k0 = (0, 8) → Con E d K_X8_readSum (ZI E r0 h0) [.ref k0, .int x1] h) (hd : 7 + dc ≤ d) {r0 : Int32} {h0 : AH}  {h : AH} (hf : f_X8_readTerm_82 cb h = some (r0, h0)) : V E (d + 1) K_X8_readTerm (ZI E r0 h0) h [] [] 82 := by
  unfold f_X8_readTerm_82 at hf
  refine V_iconst (v := 1) dX8_readTerm_82 (by decide) ?_
  exact V_zret rfl (by decide) (so_s hf) dX8_readTerm_83
set_option maxHeartbeats 4000000 in
set_option maxRecDepth 100000 in
theorem v_X8_readTerm_20 {E : EV} {d : Nat} {cb : Nat → Int32 → AH → Option (Int32 × AH)} {dc : Nat} (hcb : ∀ {d : Nat}, dc ≤ d → ∀ {k0 : Nat} {x1 : Int32} {h : AH} {r0 : Int32} {h0 : AH}, cb k0 x1 h = some (r0, h0) → kd k0 = (0, 8) → Con E d K_X8_readSum (ZI E r0 h0) [.ref k0, .int x1] h) (hd : 7 + dc ≤ d) {r0 : Int32} {h0 : AH} : ∀ (n : Nat) (k0 : Nat) (x1 : Int32) (x2 : Int32) (x3 : Int32) (h : AH), f_X8_readTerm_20 cb n k0 x1 x2 x3 h = some (r0, h0) → kd k0 = (0, 8) → V E (d + 1) K_X8_readTerm (ZI E r0 h0) h [(0, .ref k0), (1, .int x1), (2, .int x2), (3, .int x3)] [] 20 := by
  intro n
  induction n with
  | zero =>
    intro k0 x1 x2 x3 h hf
    rw [f_X8_readTerm_20] at hf
    cases hf
  | succ n ih =>
    intro k0 x1 x2 x3 h hf t_k0
    rw [f_X8_readTerm_20] at hf
    refine V_iload_n 3 dX8_readTerm_20 rfl rfl ?_
    refine V_sipush (v := 160) dX8_readTerm_21 (by decide) ?_
    refine V_ic_ge (tgt := 82) dX8_readTerm_24 (by decide) (fun c_1 => ?_) (fun c_1 => ?_)
    · have hf := it_s c_1 hf
      refine V_sub [] rfl ?_
      exact v_X8_readTerm_82 hcb hd hf
    · have hf := if_s c_1 hf
      refine V_iload_n 2 dX8_readTerm_27 rfl rfl ?_
      refine V_bipush (v := 42) dX8_readTerm_28 (by decide) ?_
      refine V_ic_eq (tgt := 39) dX8_readTerm_30 (by decide) (fun c_2 => ?_) (fun c_2 => ?_)
      · have hf := it_s c_2 hf
        exact v_X8_readTerm_39 hcb hd ih hf t_k0
      · have hf := if_s c_2 hf
        refine V_iload_n 2 dX8_readTerm_33 rfl rfl ?_
        refine V_bipush (v := 47) dX8_readTerm_34 (by decide) ?_
        refine V_ic_ne (tgt := 82) dX8_readTerm_36 (by decide) (fun c_3 => ?_) (fun c_3 => ?_)
        · have hf := if_s c_3 hf
          refine V_sub [] rfl ?_
          exact v_X8_readTerm_82 hcb hd hf
        · have hf := it_s c_3 hf
          exact v_X8_readTerm_39 hcb hd ih hf t_k0
set_option maxHeartbeats 4000000 in
set_option maxRecDepth 100000 in
theorem c_X8_readTerm {E : EV} {d : Nat} {cb : Nat → Int32 → AH → Option (Int32 × AH)} {dc : Nat} (hcb : ∀ {d : Nat}, dc ≤ d → ∀ {k0 : Nat} {x1 : Int32} {h : AH} {r0 : Int32} {h0 : AH}, cb k0 x1 h = some (r0, h0) → kd k0 = (0, 8) → Con E d K_X8_readSum (ZI E r0 h0) [.ref k0, .int x1] h) (hd : 7 + dc + 1 ≤ d) {k0 : Nat} {x1 : Int32} {h : AH} {r0 : Int32} {h0 : AH} (hf : f_X8_readTerm cb k0 x1 h = some (r0, h0)) (t_k0 : kd k0 = (0, 8)) : Con E d K_X8_readTerm (ZI E r0 h0) [.ref k0, .int x1] h := by
  obtain ⟨d, rfl⟩ : ∃ d', d = d' + 1 := ⟨d - 1, by omega⟩
  have hd := Nat.le_of_succ_le_succ hd
  refine Con.ofV rfl (Nat.le_of_ble_eq_true rfl) ?_
  unfold f_X8_readTerm at hf
  show V E (d + 1) K_X8_readTerm (ZI E r0 h0) h [(0, .ref k0), (1, .int x1)] [] 0
  refine V_aload_n 0 dX8_readTerm_0 rfl rfl ?_
  refine V_iload_n 1 dX8_readTerm_1 rfl rfl ?_
  obtain ⟨r_3, h_2, e_1, hf⟩ := ob_s hf
  refine V_cvi (As := [.int x1]) (rest := []) (c_X8_readAtom (d := d) hcb (by omega) e_1 t_k0) ML_X8_74 MV_X8_readAtom rfl t_k0 rfl rfl (Nat.le_of_ble_eq_true rfl) dX8_readTerm_2 ?_
  refine V_if_ne (tgt := 10) dX8_readTerm_5 (by decide) (fun c_4 => ?_) (fun c_4 => ?_)
  · have hf := if_s c_4 hf
    refine V_aload_n 0 dX8_readTerm_10 rfl rfl ?_
    refine V_getR F_X8_15 rfl t_k0 rfl dX8_readTerm_11 ?_
    obtain ⟨r_7, h_6, e_5, hf⟩ := ob_s hf
    refine V_cvi (As := []) (rest := []) (c_X10_next (d := d) (by omega) e_5 (rfO t_k0 (Nat.le_of_ble_eq_true rfl) rfl rfl)) ML_X8_40 MV_X10_next rfl (rfO t_k0 (Nat.le_of_ble_eq_true rfl) rfl rfl) rfl rfl (Nat.le_of_ble_eq_true rfl) dX8_readTerm_14 ?_
    refine V_istore_n (L' := [(2, .int r_7), (0, .ref k0), (1, .int x1)]) dX8_readTerm_17 rfl (Nat.le_of_ble_eq_true rfl) rfl rfl ?_
    refine V_iconst (v := 0) dX8_readTerm_18 (by decide) ?_
    refine V_istore_n (L' := [(3, .int 0), (2, .int r_7), (0, .ref k0), (1, .int x1)]) dX8_readTerm_19 rfl (Nat.le_of_ble_eq_true rfl) rfl rfl ?_
    refine V_sub [2, 3, 1, 0] rfl ?_
    exact v_X8_readTerm_20 hcb hd FU _ _ _ _ _ hf t_k0
  · have hf := it_s c_4 hf
    refine V_iconst (v := 0) dX8_readTerm_8 (by decide) ?_
    exact V_zret rfl (by decide) (so_s hf) dX8_readTerm_9
theorem dX8_readSum_0 : decode cX8_readSum 0 = .ok (.aload_n 0, 1) := by decide +kernel
theorem dX8_readSum_1 : decode cX8_readSum 1 = .ok (.iload_n 1, 1) := by decide +kernel
theorem dX8_readSum_2 : decode cX8_readSum 2 = .ok (.invokevirtual 71, 3) := by decide +kernel
theorem dX8_readSum_5 : decode cX8_readSum 5 = .ok (.ifCond .ne 5, 3) := by decide +kernel
theorem dX8_readSum_8 : decode cX8_readSum 8 = .ok (.iconst 0, 1) := by decide +kernel
theorem dX8_readSum_9 : decode cX8_readSum 9 = .ok (.ireturn, 1) := by decide +kernel
theorem dX8_readSum_10 : decode cX8_readSum 10 = .ok (.aload_n 0, 1) := by decide +kernel
theorem dX8_readSum_11 : decode cX8_readSum 11 = .ok (.getfield 15, 3) := by decide +kernel
theorem dX8_readSum_14 : decode cX8_readSum 14 = .ok (.invokevirtual 40, 3) := by decide +kernel
theorem dX8_readSum_17 : decode cX8_readSum 17 = .ok (.istore_n 2, 1) := by decide +kernel
theorem dX8_readSum_18 : decode cX8_readSum 18 = .ok (.iconst 0, 1) := by decide +kernel
theorem dX8_readSum_19 : decode cX8_readSum 19 = .ok (.istore_n 3, 1) := by decide +kernel
theorem dX8_readSum_20 : decode cX8_readSum 20 = .ok (.iload_n 3, 1) := by decide +kernel
theorem dX8_readSum_21 : decode cX8_readSum 21 = .ok (.sipush 160, 3) := by decide +kernel
theorem dX8_readSum_24 : decode cX8_readSum 24 = .ok (.if_icmp .ge 58, 3) := by decide +kernel
theorem dX8_readSum_27 : decode cX8_readSum 27 = .ok (.iload_n 2, 1) := by decide +kernel
theorem dX8_readSum_28 : decode cX8_readSum 28 = .ok (.bipush 43, 2) := by decide +kernel
theorem dX8_readSum_30 : decode cX8_readSum 30 = .ok (.if_icmp .eq 9, 3) := by decide +kernel
theorem dX8_readSum_33 : decode cX8_readSum 33 = .ok (.iload_n 2, 1) := by decide +kernel
theorem dX8_readSum_34 : decode cX8_readSum 34 = .ok (.bipush 45, 2) := by decide +kernel
theorem dX8_readSum_36 : decode cX8_readSum 36 = .ok (.if_icmp .ne 46, 3) := by decide +kernel
theorem dX8_readSum_39 : decode cX8_readSum 39 = .ok (.aload_n 0, 1) := by decide +kernel
theorem dX8_readSum_40 : decode cX8_readSum 40 = .ok (.getfield 15, 3) := by decide +kernel
theorem dX8_readSum_43 : decode cX8_readSum 43 = .ok (.dup, 1) := by decide +kernel
theorem dX8_readSum_44 : decode cX8_readSum 44 = .ok (.getfield 19, 3) := by decide +kernel
theorem dX8_readSum_47 : decode cX8_readSum 47 = .ok (.iconst 1, 1) := by decide +kernel
theorem dX8_readSum_48 : decode cX8_readSum 48 = .ok (.iadd, 1) := by decide +kernel
theorem dX8_readSum_49 : decode cX8_readSum 49 = .ok (.putfield 19, 3) := by decide +kernel
theorem dX8_readSum_52 : decode cX8_readSum 52 = .ok (.aload_n 0, 1) := by decide +kernel
theorem dX8_readSum_53 : decode cX8_readSum 53 = .ok (.iload_n 1, 1) := by decide +kernel
theorem dX8_readSum_54 : decode cX8_readSum 54 = .ok (.invokevirtual 71, 3) := by decide +kernel
theorem dX8_readSum_57 : decode cX8_readSum 57 = .ok (.ifCond .ne 5, 3) := by decide +kernel
theorem dX8_readSum_60 : decode cX8_readSum 60 = .ok (.iconst 0, 1) := by decide +kernel
theorem dX8_readSum_61 : decode cX8_readSum 61 = .ok (.ireturn, 1) := by decide +kernel
theorem dX8_readSum_62 : decode cX8_readSum 62 = .ok (.aload_n 0, 1) := by decide +kernel
theorem dX8_readSum_63 : decode cX8_readSum 63 = .ok (.iload_n 2, 1) := by decide +kernel
theorem dX8_readSum_64 : decode cX8_readSum 64 = .ok (.ineg, 1) := by decide +kernel
theorem dX8_readSum_65 : decode cX8_readSum 65 = .ok (.invokevirtual 32, 3) := by decide +kernel
theorem dX8_readSum_68 : decode cX8_readSum 68 = .ok (.aload_n 0, 1) := by decide +kernel
theorem dX8_readSum_69 : decode cX8_readSum 69 = .ok (.getfield 15, 3) := by decide +kernel
theorem dX8_readSum_72 : decode cX8_readSum 72 = .ok (.invokevirtual 40, 3) := by decide +kernel
theorem dX8_readSum_75 : decode cX8_readSum 75 = .ok (.istore_n 2, 1) := by decide +kernel
theorem dX8_readSum_76 : decode cX8_readSum 76 = .ok (.iinc 3 1, 3) := by decide +kernel
theorem dX8_readSum_79 : decode cX8_readSum 79 = .ok (.goto (-59), 3) := by decide +kernel
theorem dX8_readSum_82 : decode cX8_readSum 82 = .ok (.iconst 1, 1) := by decide +kernel
theorem dX8_readSum_83 : decode cX8_readSum 83 = .ok (.ireturn, 1) := by decide +kernel
theorem ML_X8_71 : MLk RX8 71 yX8_readTerm := Or.inl ml_X8_71
theorem MV_X8_readTerm : MVk K_X8_readTerm 1 8 := ⟨⟨cd_X8_readTerm, in_X8, ⟨by decide, by decide, by decide +kernel⟩, by decide⟩, im_X8_readTerm, se_X8_readTerm, _, _, rfl⟩
def f_X8_readSum_39 (cb : Nat → Int32 → AH → Option (Int32 × AH)) (q20 : Nat → Int32 → Int32 → Int32 → AH → Option (Int32 × AH)) (k0 : Nat) (x1 : Int32) (x2 : Int32) (x3 : Int32) (h : AH) : Option (Int32 × AH) :=
  nm (sI h (rf k0 0) 2 ((h.1 (rf k0 0) 2) + 1)) fun h_1 =>
  ob (f_X8_readTerm cb k0 x1 h_1) fun r_5 h_4 =>
  if r_5 = 0 then (
    some (0, h_4)
  ) else (
    ov (f_X8_write k0 (-x2) h_4) fun h_8 =>
    ob (f_X10_next (rf k0 0) h_8) fun r_11 h_10 =>
    nm (x3 + 1) fun x3_12 =>
    q20 k0 x1 r_11 x3_12 h_10
  )
def f_X8_readSum_82 (cb : Nat → Int32 → AH → Option (Int32 × AH))  (h : AH) : Option (Int32 × AH) :=
  some (1, h)
def f_X8_readSum_20 (cb : Nat → Int32 → AH → Option (Int32 × AH)) : Nat → Nat → Int32 → Int32 → Int32 → AH → Option (Int32 × AH)
  | 0, _, _, _, _, _ => none
  | n + 1, k0, x1, x2, x3, h =>
    if 160 ≤ x3 then (
      f_X8_readSum_82 cb h
    ) else (
      if x2 = 43 then (
        f_X8_readSum_39 cb (f_X8_readSum_20 cb n) k0 x1 x2 x3 h
      ) else (
        if x2 = 45 then (
          f_X8_readSum_39 cb (f_X8_readSum_20 cb n) k0 x1 x2 x3 h
        ) else (
          f_X8_readSum_82 cb h
        )
      )
    )
def f_X8_readSum (cb : Nat → Int32 → AH → Option (Int32 × AH)) (k0 : Nat) (x1 : Int32) (h : AH) : Option (Int32 × AH) :=
  ob (f_X8_readTerm cb k0 x1 h) fun r_3 h_2 =>
  if r_3 = 0 then (
    some (0, h_2)
  ) else (
    ob (f_X10_next (rf k0 0) h_2) fun r_7 h_6 =>
    f_X8_readSum_20 cb FU k0 x1 r_7 0 h_6
  )
def r_X8_readSum : Nat → Nat → Int32 → AH → Option (Int32 × AH)
  | 0, _, _, _ => none
  | n + 1, k0, x1, h => f_X8_readSum (r_X8_readSum n) k0 x1 h
set_option maxHeartbeats 4000000 in
set_option maxRecDepth 100000 in
theorem v_X8_readSum_39 {E : EV} {d : Nat} {cb : Nat → Int32 → AH → Option (Int32 × AH)} {dc : Nat} (hcb : ∀ {d : Nat}, dc ≤ d → ∀ {k0 : Nat} {x1 : Int32} {h : AH} {r0 : Int32} {h0 : AH}, cb k0 x1 h = some (r0, h0) → kd k0 = (0, 8) → Con E d K_X8_readSum (ZI E r0 h0) [.ref k0, .int x1] h) (hd : 8 + dc ≤ d) {r0 : Int32} {h0 : AH} {q20 : Nat → Int32 → Int32 → Int32 → AH → Option (Int32 × AH)} (cq20 : ∀ (k0 : Nat) (x1 : Int32) (x2 : Int32) (x3 : Int32) (h : AH), q20 k0 x1 x2 x3 h = some (r0, h0) → kd k0 = (0, 8) → V E (d + 1) K_X8_readSum (ZI E r0 h0) h [(0, .ref k0), (1, .int x1), (2, .int x2), (3, .int x3)] [] 20) {k0 : Nat} {x1 : Int32} {x2 : Int32} {x3 : Int32} {h : AH} (hf : f_X8_readSum_39 cb q20 k0 x1 x2 x3 h = some (r0, h0)) (t_k0 : kd k0 = (0, 8)) : V E (d + 1) K_X8_readSum (ZI E r0 h0) h [(0, .ref k0), (1, .int x1), (2, .int x2), (3, .int x3)] [] 39 := by
  unfold f_X8_readSum_39 at hf
  refine V_aload_n 0 dX8_readSum_39 rfl rfl ?_
  refine V_getR F_X8_15 rfl t_k0 rfl dX8_readSum_40 ?_
  refine V_dup dX8_readSum_43 rfl ?_
  refine V_getI F_X8_19 rfl (rfO t_k0 (Nat.le_of_ble_eq_true rfl) rfl rfl) rfl dX8_readSum_44 ?_
  refine V_iconst (v := 1) dX8_readSum_47 (by decide) ?_
  refine V_iadd dX8_readSum_48 ?_
  obtain ⟨h_1, e_2, hf⟩ := nm_s hf
  refine V_putI P_X8_19 rfl (rfO t_k0 (Nat.le_of_ble_eq_true rfl) rfl rfl) rfl e_2 dX8_readSum_49 ?_
  refine V_aload_n 0 dX8_readSum_52 rfl rfl ?_
  refine V_iload_n 1 dX8_readSum_53 rfl rfl ?_
  obtain ⟨r_5, h_4, e_3, hf⟩ := ob_s hf
  refine V_cvi (As := [.int x1]) (rest := []) (c_X8_readTerm (d := d) hcb (by omega) e_3 t_k0) ML_X8_71 MV_X8_readTerm rfl t_k0 rfl rfl (Nat.le_of_ble_eq_true rfl) dX8_readSum_54 ?_
  refine V_if_ne (tgt := 62) dX8_readSum_57 (by decide) (fun c_6 => ?_) (fun c_6 => ?_)
  · have hf := if_s c_6 hf
    refine V_aload_n 0 dX8_readSum_62 rfl rfl ?_
    refine V_iload_n 2 dX8_readSum_63 rfl rfl ?_
    refine V_ineg dX8_readSum_64 ?_
    obtain ⟨h_8, e_7, hf⟩ := ov_s hf
    refine V_cvv (As := [.int (-x2)]) (rest := []) (c_X8_write (d := d) (by omega) e_7 t_k0) ML_X8_32 MV_X8_write rfl t_k0 rfl rfl (Nat.le_of_ble_eq_true rfl) dX8_readSum_65 ?_
    refine V_aload_n 0 dX8_readSum_68 rfl rfl ?_
    refine V_getR F_X8_15 rfl t_k0 rfl dX8_readSum_69 ?_
    obtain ⟨r_11, h_10, e_9, hf⟩ := ob_s hf
    refine V_cvi (As := []) (rest := []) (c_X10_next (d := d) (by omega) e_9 (rfO t_k0 (Nat.le_of_ble_eq_true rfl) rfl rfl)) ML_X8_40 MV_X10_next rfl (rfO t_k0 (Nat.le_of_ble_eq_true rfl) rfl rfl) rfl rfl (Nat.le_of_ble_eq_true rfl) dX8_readSum_72 ?_
    refine V_istore_n (L' := [(2, .int r_11), (0, .ref k0), (1, .int x1), (3, .int x3)]) dX8_readSum_75 rfl (Nat.le_of_ble_eq_true rfl) rfl rfl ?_
    obtain ⟨x3_12, e_13, hf⟩ := nm_s hf
    refine V_iinc (a := 1) (L' := [(3, .int x3_12), (2, .int r_11), (0, .ref k0), (1, .int x1)]) 3 dX8_readSum_76 rfl (by decide) (Nat.le_of_ble_eq_true rfl) e_13 rfl ?_
    refine V_goto (tgt := 20) dX8_readSum_79 (by decide) ?_
    refine V_sub [2, 3, 1, 0] rfl ?_
    exact cq20 _ _ _ _ _ hf t_k0
  · have hf := it_s c_6 hf
    refine V_iconst (v := 0) dX8_readSum_60 (by decide) ?_
    exact V_zret rfl (by decide) (so_s hf) dX8_readSum_61
set_option maxHeartbeats 4000000 in
set_option maxRecDepth 100000 in
theorem v_X8_readSum_82 {E : EV} {d : Nat} {cb : Nat → Int32 → AH → Option (Int32 × AH)} {dc : Nat} (hcb : ∀ {d : Nat}, dc ≤ d → ∀ {k0 : Nat} {x1 : Int32} {h : AH} {r0 : Int32} {h0 : AH}, cb k0 x1 h = some (r0, h0) → kd k0 = (0, 8) → Con E d K_X8_readSum (ZI E r0 h0) [.ref k0, .int x1] h) (hd : 8 + dc ≤ d) {r0 : Int32} {h0 : AH}  {h : AH} (hf : f_X8_readSum_82 cb h = some (r0, h0)) : V E (d + 1) K_X8_readSum (ZI E r0 h0) h [] [] 82 := by
  unfold f_X8_readSum_82 at hf
  refine V_iconst (v := 1) dX8_readSum_82 (by decide) ?_
  exact V_zret rfl (by decide) (so_s hf) dX8_readSum_83
set_option maxHeartbeats 4000000 in
set_option maxRecDepth 100000 in
theorem v_X8_readSum_20 {E : EV} {d : Nat} {cb : Nat → Int32 → AH → Option (Int32 × AH)} {dc : Nat} (hcb : ∀ {d : Nat}, dc ≤ d → ∀ {k0 : Nat} {x1 : Int32} {h : AH} {r0 : Int32} {h0 : AH}, cb k0 x1 h = some (r0, h0) → kd k0 = (0, 8) → Con E d K_X8_readSum (ZI E r0 h0) [.ref k0, .int x1] h) (hd : 8 + dc ≤ d) {r0 : Int32} {h0 : AH} : ∀ (n : Nat) (k0 : Nat) (x1 : Int32) (x2 : Int32) (x3 : Int32) (h : AH), f_X8_readSum_20 cb n k0 x1 x2 x3 h = some (r0, h0) → kd k0 = (0, 8) → V E (d + 1) K_X8_readSum (ZI E r0 h0) h [(0, .ref k0), (1, .int x1), (2, .int x2), (3, .int x3)] [] 20 := by
  intro n
  induction n with
  | zero =>
    intro k0 x1 x2 x3 h hf
    rw [f_X8_readSum_20] at hf
    cases hf
  | succ n ih =>
    intro k0 x1 x2 x3 h hf t_k0
    rw [f_X8_readSum_20] at hf
    refine V_iload_n 3 dX8_readSum_20 rfl rfl ?_
    refine V_sipush (v := 160) dX8_readSum_21 (by decide) ?_
    refine V_ic_ge (tgt := 82) dX8_readSum_24 (by decide) (fun c_1 => ?_) (fun c_1 => ?_)
    · have hf := it_s c_1 hf
      refine V_sub [] rfl ?_
      exact v_X8_readSum_82 hcb hd hf
    · have hf := if_s c_1 hf
      refine V_iload_n 2 dX8_readSum_27 rfl rfl ?_
      refine V_bipush (v := 43) dX8_readSum_28 (by decide) ?_
      refine V_ic_eq (tgt := 39) dX8_readSum_30 (by decide) (fun c_2 => ?_) (fun c_2 => ?_)
      · have hf := it_s c_2 hf
        exact v_X8_readSum_39 hcb hd ih hf t_k0
      · have hf := if_s c_2 hf
        refine V_iload_n 2 dX8_readSum_33 rfl rfl ?_
        refine V_bipush (v := 45) dX8_readSum_34 (by decide) ?_
        refine V_ic_ne (tgt := 82) dX8_readSum_36 (by decide) (fun c_3 => ?_) (fun c_3 => ?_)
        · have hf := if_s c_3 hf
          refine V_sub [] rfl ?_
          exact v_X8_readSum_82 hcb hd hf
        · have hf := it_s c_3 hf
          exact v_X8_readSum_39 hcb hd ih hf t_k0
set_option maxHeartbeats 4000000 in
set_option maxRecDepth 100000 in
theorem c_X8_readSum {E : EV} {d : Nat} {cb : Nat → Int32 → AH → Option (Int32 × AH)} {dc : Nat} (hcb : ∀ {d : Nat}, dc ≤ d → ∀ {k0 : Nat} {x1 : Int32} {h : AH} {r0 : Int32} {h0 : AH}, cb k0 x1 h = some (r0, h0) → kd k0 = (0, 8) → Con E d K_X8_readSum (ZI E r0 h0) [.ref k0, .int x1] h) (hd : 8 + dc + 1 ≤ d) {k0 : Nat} {x1 : Int32} {h : AH} {r0 : Int32} {h0 : AH} (hf : f_X8_readSum cb k0 x1 h = some (r0, h0)) (t_k0 : kd k0 = (0, 8)) : Con E d K_X8_readSum (ZI E r0 h0) [.ref k0, .int x1] h := by
  obtain ⟨d, rfl⟩ : ∃ d', d = d' + 1 := ⟨d - 1, by omega⟩
  have hd := Nat.le_of_succ_le_succ hd
  refine Con.ofV rfl (Nat.le_of_ble_eq_true rfl) ?_
  unfold f_X8_readSum at hf
  show V E (d + 1) K_X8_readSum (ZI E r0 h0) h [(0, .ref k0), (1, .int x1)] [] 0
  refine V_aload_n 0 dX8_readSum_0 rfl rfl ?_
  refine V_iload_n 1 dX8_readSum_1 rfl rfl ?_
  obtain ⟨r_3, h_2, e_1, hf⟩ := ob_s hf
  refine V_cvi (As := [.int x1]) (rest := []) (c_X8_readTerm (d := d) hcb (by omega) e_1 t_k0) ML_X8_71 MV_X8_readTerm rfl t_k0 rfl rfl (Nat.le_of_ble_eq_true rfl) dX8_readSum_2 ?_
  refine V_if_ne (tgt := 10) dX8_readSum_5 (by decide) (fun c_4 => ?_) (fun c_4 => ?_)
  · have hf := if_s c_4 hf
    refine V_aload_n 0 dX8_readSum_10 rfl rfl ?_
    refine V_getR F_X8_15 rfl t_k0 rfl dX8_readSum_11 ?_
    obtain ⟨r_7, h_6, e_5, hf⟩ := ob_s hf
    refine V_cvi (As := []) (rest := []) (c_X10_next (d := d) (by omega) e_5 (rfO t_k0 (Nat.le_of_ble_eq_true rfl) rfl rfl)) ML_X8_40 MV_X10_next rfl (rfO t_k0 (Nat.le_of_ble_eq_true rfl) rfl rfl) rfl rfl (Nat.le_of_ble_eq_true rfl) dX8_readSum_14 ?_
    refine V_istore_n (L' := [(2, .int r_7), (0, .ref k0), (1, .int x1)]) dX8_readSum_17 rfl (Nat.le_of_ble_eq_true rfl) rfl rfl ?_
    refine V_iconst (v := 0) dX8_readSum_18 (by decide) ?_
    refine V_istore_n (L' := [(3, .int 0), (2, .int r_7), (0, .ref k0), (1, .int x1)]) dX8_readSum_19 rfl (Nat.le_of_ble_eq_true rfl) rfl rfl ?_
    refine V_sub [2, 3, 1, 0] rfl ?_
    exact v_X8_readSum_20 hcb hd FU _ _ _ _ _ hf t_k0
  · have hf := it_s c_4 hf
    refine V_iconst (v := 0) dX8_readSum_8 (by decide) ?_
    exact V_zret rfl (by decide) (so_s hf) dX8_readSum_9
set_option maxHeartbeats 4000000 in
set_option maxRecDepth 100000 in
theorem cr_X8_readSum {E : EV} : ∀ (n : Nat) {d : Nat}, n * 9 ≤ d → ∀ {k0 : Nat} {x1 : Int32} {h : AH} {r0 : Int32} {h0 : AH}, r_X8_readSum n k0 x1 h = some (r0, h0) → kd k0 = (0, 8) → Con E d K_X8_readSum (ZI E r0 h0) [.ref k0, .int x1] h := by
  intro n
  induction n with
  | zero =>
    intro d hd k0 x1 h r0 h0 hf
    rw [r_X8_readSum] at hf
    cases hf
  | succ n ih =>
    intro d hd k0 x1 h r0 h0 hf t_k0
    rw [r_X8_readSum] at hf
    exact c_X8_readSum (dc := n * 9) ih (by omega) hf t_k0
theorem dX8_isRelation_0 : decode cX8_isRelation 0 = .ok (.iload_n 0, 1) := by decide +kernel
theorem dX8_isRelation_1 : decode cX8_isRelation 1 = .ok (.bipush 61, 2) := by decide +kernel
theorem dX8_isRelation_3 : decode cX8_isRelation 3 = .ok (.if_icmp .eq 15, 3) := by decide +kernel
theorem dX8_isRelation_6 : decode cX8_isRelation 6 = .ok (.iload_n 0, 1) := by decide +kernel
theorem dX8_isRelation_7 : decode cX8_isRelation 7 = .ok (.bipush 60, 2) := by decide +kernel
theorem dX8_isRelation_9 : decode cX8_isRelation 9 = .ok (.if_icmp .eq 9, 3) := by decide +kernel
theorem dX8_isRelation_12 : decode cX8_isRelation 12 = .ok (.iload_n 0, 1) := by decide +kernel
theorem dX8_isRelation_13 : decode cX8_isRelation 13 = .ok (.bipush 62, 2) := by decide +kernel
theorem dX8_isRelation_15 : decode cX8_isRelation 15 = .ok (.if_icmp .ne 7, 3) := by decide +kernel
theorem dX8_isRelation_18 : decode cX8_isRelation 18 = .ok (.iconst 1, 1) := by decide +kernel
theorem dX8_isRelation_19 : decode cX8_isRelation 19 = .ok (.goto 4, 3) := by decide +kernel
theorem dX8_isRelation_22 : decode cX8_isRelation 22 = .ok (.iconst 0, 1) := by decide +kernel
theorem dX8_isRelation_23 : decode cX8_isRelation 23 = .ok (.ireturn, 1) := by decide +kernel
def f_X8_isRelation_23 (s0 : Int32) (h : AH) : Option (Int32 × AH) :=
  og (bz s0) <|
  some (s0, h)
def f_X8_isRelation_18  (h : AH) : Option (Int32 × AH) :=
  f_X8_isRelation_23 1 h
def f_X8_isRelation (x0 : Int32) (h : AH) : Option (Int32 × AH) :=
  if x0 = 61 then (
    f_X8_isRelation_18 h
  ) else (
    if x0 = 60 then (
      f_X8_isRelation_18 h
    ) else (
      if x0 = 62 then (
        f_X8_isRelation_18 h
      ) else (
        f_X8_isRelation_23 0 h
      )
    )
  )
set_option maxHeartbeats 4000000 in
set_option maxRecDepth 100000 in
theorem v_X8_isRelation_23 {E : EV} {d : Nat} (hd : 0 ≤ d) {r0 : Int32} {h0 : AH} {s0 : Int32} {h : AH} (hf : f_X8_isRelation_23 s0 h = some (r0, h0)) : V E (d + 1) K_X8_isRelation (ZI E r0 h0) h [] [.int s0] 23 := by
  unfold f_X8_isRelation_23 at hf
  obtain ⟨b_1, hf⟩ := og_s hf
  exact V_zret rfl b_1 (so_s hf) dX8_isRelation_23
set_option maxHeartbeats 4000000 in
set_option maxRecDepth 100000 in
theorem v_X8_isRelation_18 {E : EV} {d : Nat} (hd : 0 ≤ d) {r0 : Int32} {h0 : AH}  {h : AH} (hf : f_X8_isRelation_18 h = some (r0, h0)) : V E (d + 1) K_X8_isRelation (ZI E r0 h0) h [] [] 18 := by
  unfold f_X8_isRelation_18 at hf
  refine V_iconst (v := 1) dX8_isRelation_18 (by decide) ?_
  refine V_goto (tgt := 23) dX8_isRelation_19 (by decide) ?_
  exact v_X8_isRelation_23 hd hf
set_option maxHeartbeats 4000000 in
set_option maxRecDepth 100000 in
theorem c_X8_isRelation {E : EV} {d : Nat} (hd : 0 + 1 ≤ d) {x0 : Int32} {h : AH} {r0 : Int32} {h0 : AH} (hf : f_X8_isRelation x0 h = some (r0, h0)) : Con E d K_X8_isRelation (ZI E r0 h0) [.int x0] h := by
  obtain ⟨d, rfl⟩ : ∃ d', d = d' + 1 := ⟨d - 1, by omega⟩
  have hd := Nat.le_of_succ_le_succ hd
  refine Con.ofV rfl (Nat.le_of_ble_eq_true rfl) ?_
  unfold f_X8_isRelation at hf
  show V E (d + 1) K_X8_isRelation (ZI E r0 h0) h [(0, .int x0)] [] 0
  refine V_iload_n 0 dX8_isRelation_0 rfl rfl ?_
  refine V_bipush (v := 61) dX8_isRelation_1 (by decide) ?_
  refine V_ic_eq (tgt := 18) dX8_isRelation_3 (by decide) (fun c_1 => ?_) (fun c_1 => ?_)
  · have hf := it_s c_1 hf
    refine V_sub [] rfl ?_
    exact v_X8_isRelation_18 hd hf
  · have hf := if_s c_1 hf
    refine V_iload_n 0 dX8_isRelation_6 rfl rfl ?_
    refine V_bipush (v := 60) dX8_isRelation_7 (by decide) ?_
    refine V_ic_eq (tgt := 18) dX8_isRelation_9 (by decide) (fun c_2 => ?_) (fun c_2 => ?_)
    · have hf := it_s c_2 hf
      refine V_sub [] rfl ?_
      exact v_X8_isRelation_18 hd hf
    · have hf := if_s c_2 hf
      refine V_iload_n 0 dX8_isRelation_12 rfl rfl ?_
      refine V_bipush (v := 62) dX8_isRelation_13 (by decide) ?_
      refine V_ic_ne (tgt := 22) dX8_isRelation_15 (by decide) (fun c_3 => ?_) (fun c_3 => ?_)
      · have hf := if_s c_3 hf
        refine V_iconst (v := 0) dX8_isRelation_22 (by decide) ?_
        refine V_sub [] rfl ?_
        exact v_X8_isRelation_23 hd hf
      · have hf := it_s c_3 hf
        refine V_sub [] rfl ?_
        exact v_X8_isRelation_18 hd hf
theorem dX8_readRelation_0 : decode cX8_readRelation 0 = .ok (.aload_n 0, 1) := by decide +kernel
theorem dX8_readRelation_1 : decode cX8_readRelation 1 = .ok (.getfield 15, 3) := by decide +kernel
theorem dX8_readRelation_4 : decode cX8_readRelation 4 = .ok (.invokevirtual 40, 3) := by decide +kernel
theorem dX8_readRelation_7 : decode cX8_readRelation 7 = .ok (.istore_n 2, 1) := by decide +kernel
theorem dX8_readRelation_8 : decode cX8_readRelation 8 = .ok (.iload_n 2, 1) := by decide +kernel
theorem dX8_readRelation_9 : decode cX8_readRelation 9 = .ok (.invokestatic 53, 3) := by decide +kernel
theorem dX8_readRelation_12 : decode cX8_readRelation 12 = .ok (.ifCond .ne 5, 3) := by decide +kernel
theorem dX8_readRelation_15 : decode cX8_readRelation 15 = .ok (.iconst 0, 1) := by decide +kernel
theorem dX8_readRelation_16 : decode cX8_readRelation 16 = .ok (.ireturn, 1) := by decide +kernel
theorem dX8_readRelation_17 : decode cX8_readRelation 17 = .ok (.aload_n 0, 1) := by decide +kernel
theorem dX8_readRelation_18 : decode cX8_readRelation 18 = .ok (.getfield 15, 3) := by decide +kernel
theorem dX8_readRelation_21 : decode cX8_readRelation 21 = .ok (.dup, 1) := by decide +kernel
theorem dX8_readRelation_22 : decode cX8_readRelation 22 = .ok (.getfield 19, 3) := by decide +kernel
theorem dX8_readRelation_25 : decode cX8_readRelation 25 = .ok (.iconst 1, 1) := by decide +kernel
theorem dX8_readRelation_26 : decode cX8_readRelation 26 = .ok (.iadd, 1) := by decide +kernel
theorem dX8_readRelation_27 : decode cX8_readRelation 27 = .ok (.putfield 19, 3) := by decide +kernel
theorem dX8_readRelation_30 : decode cX8_readRelation 30 = .ok (.aload_n 0, 1) := by decide +kernel
theorem dX8_readRelation_31 : decode cX8_readRelation 31 = .ok (.iload_n 1, 1) := by decide +kernel
theorem dX8_readRelation_32 : decode cX8_readRelation 32 = .ok (.invokevirtual 50, 3) := by decide +kernel
theorem dX8_readRelation_35 : decode cX8_readRelation 35 = .ok (.ifCond .ne 5, 3) := by decide +kernel
theorem dX8_readRelation_38 : decode cX8_readRelation 38 = .ok (.iconst 0, 1) := by decide +kernel
theorem dX8_readRelation_39 : decode cX8_readRelation 39 = .ok (.ireturn, 1) := by decide +kernel
theorem dX8_readRelation_40 : decode cX8_readRelation 40 = .ok (.aload_n 0, 1) := by decide +kernel
theorem dX8_readRelation_41 : decode cX8_readRelation 41 = .ok (.iload_n 2, 1) := by decide +kernel
theorem dX8_readRelation_42 : decode cX8_readRelation 42 = .ok (.ineg, 1) := by decide +kernel
theorem dX8_readRelation_43 : decode cX8_readRelation 43 = .ok (.invokevirtual 32, 3) := by decide +kernel
theorem dX8_readRelation_46 : decode cX8_readRelation 46 = .ok (.iconst 1, 1) := by decide +kernel
theorem dX8_readRelation_47 : decode cX8_readRelation 47 = .ok (.ireturn, 1) := by decide +kernel
theorem ML_X8_53 : MLk RX8 53 yX8_isRelation := Or.inl ml_X8_53
theorem MS_X8_isRelation : MSk K_X8_isRelation 1 := ⟨⟨cd_X8_isRelation, in_X8, ⟨by decide, by decide, by decide +kernel⟩, by decide⟩, st_X8_isRelation⟩
def f_X8_readRelation (k0 : Nat) (x1 : Int32) (h : AH) : Option (Int32 × AH) :=
  ob (f_X10_next (rf k0 0) h) fun r_3 h_2 =>
  ob (f_X8_isRelation r_3 h_2) fun r_6 h_5 =>
  if r_6 = 0 then (
    some (0, h_5)
  ) else (
    nm (sI h_5 (rf k0 0) 2 ((h_5.1 (rf k0 0) 2) + 1)) fun h_8 =>
    ob (r_X8_readSum 12 k0 x1 h_8) fun r_12 h_11 =>
    if r_12 = 0 then (
      some (0, h_11)
    ) else (
      ov (f_X8_write k0 (-r_3) h_11) fun h_15 =>
      some (1, h_15)
    )
  )
set_option maxHeartbeats 4000000 in
set_option maxRecDepth 100000 in
theorem c_X8_readRelation {E : EV} {d : Nat} (hd : 108 + 1 ≤ d) {k0 : Nat} {x1 : Int32} {h : AH} {r0 : Int32} {h0 : AH} (hf : f_X8_readRelation k0 x1 h = some (r0, h0)) (t_k0 : kd k0 = (0, 8)) : Con E d K_X8_readRelation (ZI E r0 h0) [.ref k0, .int x1] h := by
  obtain ⟨d, rfl⟩ : ∃ d', d = d' + 1 := ⟨d - 1, by omega⟩
  have hd := Nat.le_of_succ_le_succ hd
  refine Con.ofV rfl (Nat.le_of_ble_eq_true rfl) ?_
  unfold f_X8_readRelation at hf
  show V E (d + 1) K_X8_readRelation (ZI E r0 h0) h [(0, .ref k0), (1, .int x1)] [] 0
  refine V_aload_n 0 dX8_readRelation_0 rfl rfl ?_
  refine V_getR F_X8_15 rfl t_k0 rfl dX8_readRelation_1 ?_
  obtain ⟨r_3, h_2, e_1, hf⟩ := ob_s hf
  refine V_cvi (As := []) (rest := []) (c_X10_next (d := d) (Nat.le_trans (Nat.le_of_ble_eq_true rfl) hd) e_1 (rfO t_k0 (Nat.le_of_ble_eq_true rfl) rfl rfl)) ML_X8_40 MV_X10_next rfl (rfO t_k0 (Nat.le_of_ble_eq_true rfl) rfl rfl) rfl rfl (Nat.le_of_ble_eq_true rfl) dX8_readRelation_4 ?_
  refine V_istore_n (L' := [(2, .int r_3), (0, .ref k0), (1, .int x1)]) dX8_readRelation_7 rfl (Nat.le_of_ble_eq_true rfl) rfl rfl ?_
  refine V_iload_n 0 dX8_readRelation_8 rfl rfl ?_
  obtain ⟨r_6, h_5, e_4, hf⟩ := ob_s hf
  refine V_csi (As := [.int r_3]) (rest := []) (c_X8_isRelation (d := d) (Nat.le_trans (Nat.le_of_ble_eq_true rfl) hd) e_4) ML_X8_53 MS_X8_isRelation rfl rfl rfl (Nat.le_of_ble_eq_true rfl) dX8_readRelation_9 ?_
  refine V_if_ne (tgt := 17) dX8_readRelation_12 (by decide) (fun c_7 => ?_) (fun c_7 => ?_)
  · have hf := if_s c_7 hf
    refine V_aload_n 1 dX8_readRelation_17 rfl rfl ?_
    refine V_getR F_X8_15 rfl t_k0 rfl dX8_readRelation_18 ?_
    refine V_dup dX8_readRelation_21 rfl ?_
    refine V_getI F_X8_19 rfl (rfO t_k0 (Nat.le_of_ble_eq_true rfl) rfl rfl) rfl dX8_readRelation_22 ?_
    refine V_iconst (v := 1) dX8_readRelation_25 (by decide) ?_
    refine V_iadd dX8_readRelation_26 ?_
    obtain ⟨h_8, e_9, hf⟩ := nm_s hf
    refine V_putI P_X8_19 rfl (rfO t_k0 (Nat.le_of_ble_eq_true rfl) rfl rfl) rfl e_9 dX8_readRelation_27 ?_
    refine V_aload_n 1 dX8_readRelation_30 rfl rfl ?_
    refine V_iload_n 2 dX8_readRelation_31 rfl rfl ?_
    obtain ⟨r_12, h_11, e_10, hf⟩ := ob_s hf
    refine V_cvi (As := [.int x1]) (rest := []) (cr_X8_readSum 12 (d := d) (Nat.le_trans (Nat.le_of_ble_eq_true rfl) hd) e_10 t_k0) ML_X8_50 MV_X8_readSum rfl t_k0 rfl rfl (Nat.le_of_ble_eq_true rfl) dX8_readRelation_32 ?_
    refine V_if_ne (tgt := 40) dX8_readRelation_35 (by decide) (fun c_13 => ?_) (fun c_13 => ?_)
    · have hf := if_s c_13 hf
      refine V_aload_n 1 dX8_readRelation_40 rfl rfl ?_
      refine V_iload_n 0 dX8_readRelation_41 rfl rfl ?_
      refine V_ineg dX8_readRelation_42 ?_
      obtain ⟨h_15, e_14, hf⟩ := ov_s hf
      refine V_cvv (As := [.int (-r_3)]) (rest := []) (c_X8_write (d := d) (Nat.le_trans (Nat.le_of_ble_eq_true rfl) hd) e_14 t_k0) ML_X8_32 MV_X8_write rfl t_k0 rfl rfl (Nat.le_of_ble_eq_true rfl) dX8_readRelation_43 ?_
      refine V_iconst (v := 1) dX8_readRelation_46 (by decide) ?_
      exact V_zret rfl (by decide) (so_s hf) dX8_readRelation_47
    · have hf := it_s c_13 hf
      refine V_iconst (v := 0) dX8_readRelation_38 (by decide) ?_
      exact V_zret rfl (by decide) (so_s hf) dX8_readRelation_39
  · have hf := it_s c_7 hf
    refine V_iconst (v := 0) dX8_readRelation_15 (by decide) ?_
    exact V_zret rfl (by decide) (so_s hf) dX8_readRelation_16
theorem dX8_readMoreUnits_0 : decode cX8_readMoreUnits 0 = .ok (.iconst 0, 1) := by decide +kernel
theorem dX8_readMoreUnits_1 : decode cX8_readMoreUnits 1 = .ok (.istore_n 2, 1) := by decide +kernel
theorem dX8_readMoreUnits_2 : decode cX8_readMoreUnits 2 = .ok (.iload_n 2, 1) := by decide +kernel
theorem dX8_readMoreUnits_3 : decode cX8_readMoreUnits 3 = .ok (.sipush 160, 3) := by decide +kernel
theorem dX8_readMoreUnits_6 : decode cX8_readMoreUnits 6 = .ok (.if_icmp .ge 37, 3) := by decide +kernel
theorem dX8_readMoreUnits_9 : decode cX8_readMoreUnits 9 = .ok (.aload_n 0, 1) := by decide +kernel
theorem dX8_readMoreUnits_10 : decode cX8_readMoreUnits 10 = .ok (.getfield 15, 3) := by decide +kernel
theorem dX8_readMoreUnits_13 : decode cX8_readMoreUnits 13 = .ok (.bipush 38, 2) := by decide +kernel
theorem dX8_readMoreUnits_15 : decode cX8_readMoreUnits 15 = .ok (.invokevirtual 36, 3) := by decide +kernel
theorem dX8_readMoreUnits_18 : decode cX8_readMoreUnits 18 = .ok (.ifCond .eq 25, 3) := by decide +kernel
theorem dX8_readMoreUnits_21 : decode cX8_readMoreUnits 21 = .ok (.aload_n 0, 1) := by decide +kernel
theorem dX8_readMoreUnits_22 : decode cX8_readMoreUnits 22 = .ok (.iload_n 1, 1) := by decide +kernel
theorem dX8_readMoreUnits_23 : decode cX8_readMoreUnits 23 = .ok (.invokevirtual 68, 3) := by decide +kernel
theorem dX8_readMoreUnits_26 : decode cX8_readMoreUnits 26 = .ok (.ifCond .ne 5, 3) := by decide +kernel
theorem dX8_readMoreUnits_29 : decode cX8_readMoreUnits 29 = .ok (.iconst 0, 1) := by decide +kernel
theorem dX8_readMoreUnits_30 : decode cX8_readMoreUnits 30 = .ok (.ireturn, 1) := by decide +kernel
theorem dX8_readMoreUnits_31 : decode cX8_readMoreUnits 31 = .ok (.aload_n 0, 1) := by decide +kernel
theorem dX8_readMoreUnits_32 : decode cX8_readMoreUnits 32 = .ok (.bipush (-38), 2) := by decide +kernel
theorem dX8_readMoreUnits_34 : decode cX8_readMoreUnits 34 = .ok (.invokevirtual 32, 3) := by decide +kernel
theorem dX8_readMoreUnits_37 : decode cX8_readMoreUnits 37 = .ok (.iinc 2 1, 3) := by decide +kernel
theorem dX8_readMoreUnits_40 : decode cX8_readMoreUnits 40 = .ok (.goto (-38), 3) := by decide +kernel
theorem dX8_readMoreUnits_43 : decode cX8_readMoreUnits 43 = .ok (.iconst 1, 1) := by decide +kernel
theorem dX8_readMoreUnits_44 : decode cX8_readMoreUnits 44 = .ok (.ireturn, 1) := by decide +kernel
theorem ML_X8_68 : MLk RX8 68 yX8_readUnit := Or.inl ml_X8_68
theorem MV_X8_readUnit : MVk K_X8_readUnit 1 8 := ⟨⟨cd_X8_readUnit, in_X8, ⟨by decide, by decide, by decide +kernel⟩, by decide⟩, im_X8_readUnit, se_X8_readUnit, _, _, rfl⟩
def f_X8_readMoreUnits_43 (cb : Nat → Int32 → AH → Option (Int32 × AH))  (h : AH) : Option (Int32 × AH) :=
  some (1, h)
def f_X8_readMoreUnits_2 (cb : Nat → Int32 → AH → Option (Int32 × AH)) : Nat → Nat → Int32 → Int32 → AH → Option (Int32 × AH)
  | 0, _, _, _, _ => none
  | n + 1, k0, x1, x2, h =>
    if 160 ≤ x2 then (
      f_X8_readMoreUnits_43 cb h
    ) else (
      ob (f_X10_pass (rf k0 0) 38 h) fun r_4 h_3 =>
      if r_4 = 0 then (
        f_X8_readMoreUnits_43 cb h_3
      ) else (
        ob (cb k0 x1 h_3) fun r_8 h_7 =>
        if r_8 = 0 then (
          some (0, h_7)
        ) else (
          ov (f_X8_write k0 (-38) h_7) fun h_11 =>
          nm (x2 + 1) fun x2_12 =>
          f_X8_readMoreUnits_2 cb n k0 x1 x2_12 h_11
        )
      )
    )
def f_X8_readMoreUnits (cb : Nat → Int32 → AH → Option (Int32 × AH)) (k0 : Nat) (x1 : Int32) (h : AH) : Option (Int32 × AH) :=
  f_X8_readMoreUnits_2 cb FU k0 x1 0 h
set_option maxHeartbeats 4000000 in
set_option maxRecDepth 100000 in
theorem v_X8_readMoreUnits_43 {E : EV} {d : Nat} {cb : Nat → Int32 → AH → Option (Int32 × AH)} {dc : Nat} (hcb : ∀ {d : Nat}, dc ≤ d → ∀ {k0 : Nat} {x1 : Int32} {h : AH} {r0 : Int32} {h0 : AH}, cb k0 x1 h = some (r0, h0) → kd k0 = (0, 8) → Con E d K_X8_readUnit (ZI E r0 h0) [.ref k0, .int x1] h) (hd : 2 + dc ≤ d) {r0 : Int32} {h0 : AH}  {h : AH} (hf : f_X8_readMoreUnits_43 cb h = some (r0, h0)) : V E (d + 1) K_X8_readMoreUnits (ZI E r0 h0) h [] [] 43 := by
  unfold f_X8_readMoreUnits_43 at hf
  refine V_iconst (v := 1) dX8_readMoreUnits_43 (by decide) ?_
  exact V_zret rfl (by decide) (so_s hf) dX8_readMoreUnits_44
set_option maxHeartbeats 4000000 in
set_option maxRecDepth 100000 in
theorem v_X8_readMoreUnits_2 {E : EV} {d : Nat} {cb : Nat → Int32 → AH → Option (Int32 × AH)} {dc : Nat} (hcb : ∀ {d : Nat}, dc ≤ d → ∀ {k0 : Nat} {x1 : Int32} {h : AH} {r0 : Int32} {h0 : AH}, cb k0 x1 h = some (r0, h0) → kd k0 = (0, 8) → Con E d K_X8_readUnit (ZI E r0 h0) [.ref k0, .int x1] h) (hd : 2 + dc ≤ d) {r0 : Int32} {h0 : AH} : ∀ (n : Nat) (k0 : Nat) (x1 : Int32) (x2 : Int32) (h : AH), f_X8_readMoreUnits_2 cb n k0 x1 x2 h = some (r0, h0) → kd k0 = (0, 8) → V E (d + 1) K_X8_readMoreUnits (ZI E r0 h0) h [(0, .ref k0), (1, .int x1), (2, .int x2)] [] 2 := by
  intro n
  induction n with
  | zero =>
    intro k0 x1 x2 h hf
    rw [f_X8_readMoreUnits_2] at hf
    cases hf
  | succ n ih =>
    intro k0 x1 x2 h hf t_k0
    rw [f_X8_readMoreUnits_2] at hf
    refine V_iload_n 2 dX8_readMoreUnits_2 rfl rfl ?_
    refine V_sipush (v := 160) dX8_readMoreUnits_3 (by decide) ?_
    refine V_ic_ge (tgt := 43) dX8_readMoreUnits_6 (by decide) (fun c_1 => ?_) (fun c_1 => ?_)
    · have hf := it_s c_1 hf
      refine V_sub [] rfl ?_
      exact v_X8_readMoreUnits_43 hcb hd hf
    · have hf := if_s c_1 hf
      refine V_aload_n 0 dX8_readMoreUnits_9 rfl rfl ?_
      refine V_getR F_X8_15 rfl t_k0 rfl dX8_readMoreUnits_10 ?_
      refine V_bipush (v := 38) dX8_readMoreUnits_13 (by decide) ?_
      obtain ⟨r_4, h_3, e_2, hf⟩ := ob_s hf
      refine V_cvi (As := [.int 38]) (rest := []) (c_X10_pass (d := d) (by omega) e_2 (rfO t_k0 (Nat.le_of_ble_eq_true rfl) rfl rfl)) ML_X8_36 MV_X10_pass rfl (rfO t_k0 (Nat.le_of_ble_eq_true rfl) rfl rfl) rfl rfl (Nat.le_of_ble_eq_true rfl) dX8_readMoreUnits_15 ?_
      refine V_if_eq (tgt := 43) dX8_readMoreUnits_18 (by decide) (fun c_5 => ?_) (fun c_5 => ?_)
      · have hf := it_s c_5 hf
        refine V_sub [] rfl ?_
        exact v_X8_readMoreUnits_43 hcb hd hf
      · have hf := if_s c_5 hf
        refine V_aload_n 0 dX8_readMoreUnits_21 rfl rfl ?_
        refine V_iload_n 1 dX8_readMoreUnits_22 rfl rfl ?_
        obtain ⟨r_8, h_7, e_6, hf⟩ := ob_s hf
        refine V_cvi (As := [.int x1]) (rest := []) (hcb (d := d) (by omega) e_6 t_k0) ML_X8_68 MV_X8_readUnit rfl t_k0 rfl rfl (Nat.le_of_ble_eq_true rfl) dX8_readMoreUnits_23 ?_
        refine V_if_ne (tgt := 31) dX8_readMoreUnits_26 (by decide) (fun c_9 => ?_) (fun c_9 => ?_)
        · have hf := if_s c_9 hf
          refine V_aload_n 0 dX8_readMoreUnits_31 rfl rfl ?_
          refine V_bipush (v := (-38)) dX8_readMoreUnits_32 (by decide) ?_
          obtain ⟨h_11, e_10, hf⟩ := ov_s hf
          refine V_cvv (As := [.int (-38)]) (rest := []) (c_X8_write (d := d) (by omega) e_10 t_k0) ML_X8_32 MV_X8_write rfl t_k0 rfl rfl (Nat.le_of_ble_eq_true rfl) dX8_readMoreUnits_34 ?_
          obtain ⟨x2_12, e_13, hf⟩ := nm_s hf
          refine V_iinc (a := 1) (L' := [(2, .int x2_12), (0, .ref k0), (1, .int x1)]) 2 dX8_readMoreUnits_37 rfl (by decide) (Nat.le_of_ble_eq_true rfl) e_13 rfl ?_
          refine V_goto (tgt := 2) dX8_readMoreUnits_40 (by decide) ?_
          refine V_sub [1, 2, 0] rfl ?_
          exact ih _ _ _ _ hf t_k0
        · have hf := it_s c_9 hf
          refine V_iconst (v := 0) dX8_readMoreUnits_29 (by decide) ?_
          exact V_zret rfl (by decide) (so_s hf) dX8_readMoreUnits_30
set_option maxHeartbeats 4000000 in
set_option maxRecDepth 100000 in
theorem c_X8_readMoreUnits {E : EV} {d : Nat} {cb : Nat → Int32 → AH → Option (Int32 × AH)} {dc : Nat} (hcb : ∀ {d : Nat}, dc ≤ d → ∀ {k0 : Nat} {x1 : Int32} {h : AH} {r0 : Int32} {h0 : AH}, cb k0 x1 h = some (r0, h0) → kd k0 = (0, 8) → Con E d K_X8_readUnit (ZI E r0 h0) [.ref k0, .int x1] h) (hd : 2 + dc + 1 ≤ d) {k0 : Nat} {x1 : Int32} {h : AH} {r0 : Int32} {h0 : AH} (hf : f_X8_readMoreUnits cb k0 x1 h = some (r0, h0)) (t_k0 : kd k0 = (0, 8)) : Con E d K_X8_readMoreUnits (ZI E r0 h0) [.ref k0, .int x1] h := by
  obtain ⟨d, rfl⟩ : ∃ d', d = d' + 1 := ⟨d - 1, by omega⟩
  have hd := Nat.le_of_succ_le_succ hd
  refine Con.ofV rfl (Nat.le_of_ble_eq_true rfl) ?_
  unfold f_X8_readMoreUnits at hf
  show V E (d + 1) K_X8_readMoreUnits (ZI E r0 h0) h [(0, .ref k0), (1, .int x1)] [] 0
  refine V_iconst (v := 0) dX8_readMoreUnits_0 (by decide) ?_
  refine V_istore_n (L' := [(2, .int 0), (0, .ref k0), (1, .int x1)]) dX8_readMoreUnits_1 rfl (Nat.le_of_ble_eq_true rfl) rfl rfl ?_
  refine V_sub [1, 2, 0] rfl ?_
  exact v_X8_readMoreUnits_2 hcb hd FU _ _ _ _ hf t_k0
theorem dX8_readTruth_0 : decode cX8_readTruth 0 = .ok (.aload_n 0, 1) := by decide +kernel
theorem dX8_readTruth_1 : decode cX8_readTruth 1 = .ok (.iload_n 1, 1) := by decide +kernel
theorem dX8_readTruth_2 : decode cX8_readTruth 2 = .ok (.invokevirtual 68, 3) := by decide +kernel
theorem dX8_readTruth_5 : decode cX8_readTruth 5 = .ok (.ifCond .eq 15, 3) := by decide +kernel
theorem dX8_readTruth_8 : decode cX8_readTruth 8 = .ok (.aload_n 0, 1) := by decide +kernel
theorem dX8_readTruth_9 : decode cX8_readTruth 9 = .ok (.iload_n 1, 1) := by decide +kernel
theorem dX8_readTruth_10 : decode cX8_readTruth 10 = .ok (.invokevirtual 59, 3) := by decide +kernel
theorem dX8_readTruth_13 : decode cX8_readTruth 13 = .ok (.ifCond .eq 7, 3) := by decide +kernel
theorem dX8_readTruth_16 : decode cX8_readTruth 16 = .ok (.iconst 1, 1) := by decide +kernel
theorem dX8_readTruth_17 : decode cX8_readTruth 17 = .ok (.goto 4, 3) := by decide +kernel
theorem dX8_readTruth_20 : decode cX8_readTruth 20 = .ok (.iconst 0, 1) := by decide +kernel
theorem dX8_readTruth_21 : decode cX8_readTruth 21 = .ok (.ireturn, 1) := by decide +kernel
theorem ML_X8_59 : MLk RX8 59 yX8_readMoreUnits := Or.inl ml_X8_59
theorem MV_X8_readMoreUnits : MVk K_X8_readMoreUnits 1 8 := ⟨⟨cd_X8_readMoreUnits, in_X8, ⟨by decide, by decide, by decide +kernel⟩, by decide⟩, im_X8_readMoreUnits, se_X8_readMoreUnits, _, _, rfl⟩
def f_X8_readTruth_21 (cb : Nat → Int32 → AH → Option (Int32 × AH)) (s0 : Int32) (h : AH) : Option (Int32 × AH) :=
  og (bz s0) <|
  some (s0, h)
def f_X8_readTruth_20 (cb : Nat → Int32 → AH → Option (Int32 × AH))  (h : AH) : Option (Int32 × AH) :=
  f_X8_readTruth_21 cb 0 h
def f_X8_readTruth (cb : Nat → Int32 → AH → Option (Int32 × AH)) (k0 : Nat) (x1 : Int32) (h : AH) : Option (Int32 × AH) :=
  ob (cb k0 x1 h) fun r_3 h_2 =>
  if r_3 = 0 then (
    f_X8_readTruth_20 cb h_2
  ) else (
    ob (f_X8_readMoreUnits cb k0 x1 h_2) fun r_7 h_6 =>
    if r_7 = 0 then (
      f_X8_readTruth_20 cb h_6
    ) else (
      f_X8_readTruth_21 cb 1 h_6
    )
  )
set_option maxHeartbeats 4000000 in
set_option maxRecDepth 100000 in
theorem v_X8_readTruth_21 {E : EV} {d : Nat} {cb : Nat → Int32 → AH → Option (Int32 × AH)} {dc : Nat} (hcb : ∀ {d : Nat}, dc ≤ d → ∀ {k0 : Nat} {x1 : Int32} {h : AH} {r0 : Int32} {h0 : AH}, cb k0 x1 h = some (r0, h0) → kd k0 = (0, 8) → Con E d K_X8_readUnit (ZI E r0 h0) [.ref k0, .int x1] h) (hd : 3 + dc ≤ d) {r0 : Int32} {h0 : AH} {s0 : Int32} {h : AH} (hf : f_X8_readTruth_21 cb s0 h = some (r0, h0)) : V E (d + 1) K_X8_readTruth (ZI E r0 h0) h [] [.int s0] 21 := by
  unfold f_X8_readTruth_21 at hf
  obtain ⟨b_1, hf⟩ := og_s hf
  exact V_zret rfl b_1 (so_s hf) dX8_readTruth_21
set_option maxHeartbeats 4000000 in
set_option maxRecDepth 100000 in
theorem v_X8_readTruth_20 {E : EV} {d : Nat} {cb : Nat → Int32 → AH → Option (Int32 × AH)} {dc : Nat} (hcb : ∀ {d : Nat}, dc ≤ d → ∀ {k0 : Nat} {x1 : Int32} {h : AH} {r0 : Int32} {h0 : AH}, cb k0 x1 h = some (r0, h0) → kd k0 = (0, 8) → Con E d K_X8_readUnit (ZI E r0 h0) [.ref k0, .int x1] h) (hd : 3 + dc ≤ d) {r0 : Int32} {h0 : AH}  {h : AH} (hf : f_X8_readTruth_20 cb h = some (r0, h0)) : V E (d + 1) K_X8_readTruth (ZI E r0 h0) h [] [] 20 := by
  unfold f_X8_readTruth_20 at hf
  refine V_iconst (v := 0) dX8_readTruth_20 (by decide) ?_
  exact v_X8_readTruth_21 hcb hd hf
set_option maxHeartbeats 4000000 in
set_option maxRecDepth 100000 in
theorem c_X8_readTruth {E : EV} {d : Nat} {cb : Nat → Int32 → AH → Option (Int32 × AH)} {dc : Nat} (hcb : ∀ {d : Nat}, dc ≤ d → ∀ {k0 : Nat} {x1 : Int32} {h : AH} {r0 : Int32} {h0 : AH}, cb k0 x1 h = some (r0, h0) → kd k0 = (0, 8) → Con E d K_X8_readUnit (ZI E r0 h0) [.ref k0, .int x1] h) (hd : 3 + dc + 1 ≤ d) {k0 : Nat} {x1 : Int32} {h : AH} {r0 : Int32} {h0 : AH} (hf : f_X8_readTruth cb k0 x1 h = some (r0, h0)) (t_k0 : kd k0 = (0, 8)) : Con E d K_X8_readTruth (ZI E r0 h0) [.ref k0, .int x1] h := by
  obtain ⟨d, rfl⟩ : ∃ d', d = d' + 1 := ⟨d - 1, by omega⟩
  have hd := Nat.le_of_succ_le_succ hd
  refine Con.ofV rfl (Nat.le_of_ble_eq_true rfl) ?_
  unfold f_X8_readTruth at hf
  show V E (d + 1) K_X8_readTruth (ZI E r0 h0) h [(0, .ref k0), (1, .int x1)] [] 0
  refine V_aload_n 0 dX8_readTruth_0 rfl rfl ?_
  refine V_iload_n 1 dX8_readTruth_1 rfl rfl ?_
  obtain ⟨r_3, h_2, e_1, hf⟩ := ob_s hf
  refine V_cvi (As := [.int x1]) (rest := []) (hcb (d := d) (by omega) e_1 t_k0) ML_X8_68 MV_X8_readUnit rfl t_k0 rfl rfl (Nat.le_of_ble_eq_true rfl) dX8_readTruth_2 ?_
  refine V_if_eq (tgt := 20) dX8_readTruth_5 (by decide) (fun c_4 => ?_) (fun c_4 => ?_)
  · have hf := it_s c_4 hf
    refine V_sub [] rfl ?_
    exact v_X8_readTruth_20 hcb hd hf
  · have hf := if_s c_4 hf
    refine V_aload_n 0 dX8_readTruth_8 rfl rfl ?_
    refine V_iload_n 1 dX8_readTruth_9 rfl rfl ?_
    obtain ⟨r_7, h_6, e_5, hf⟩ := ob_s hf
    refine V_cvi (As := [.int x1]) (rest := []) (c_X8_readMoreUnits (d := d) hcb (by omega) e_5 t_k0) ML_X8_59 MV_X8_readMoreUnits rfl t_k0 rfl rfl (Nat.le_of_ble_eq_true rfl) dX8_readTruth_10 ?_
    refine V_if_eq (tgt := 20) dX8_readTruth_13 (by decide) (fun c_8 => ?_) (fun c_8 => ?_)
    · have hf := it_s c_8 hf
      refine V_sub [] rfl ?_
      exact v_X8_readTruth_20 hcb hd hf
    · have hf := if_s c_8 hf
      refine V_iconst (v := 1) dX8_readTruth_16 (by decide) ?_
      refine V_goto (tgt := 21) dX8_readTruth_17 (by decide) ?_
      refine V_sub [] rfl ?_
      exact v_X8_readTruth_21 hcb hd hf
theorem dX8_readMoreTruths_0 : decode cX8_readMoreTruths 0 = .ok (.iconst 0, 1) := by decide +kernel
theorem dX8_readMoreTruths_1 : decode cX8_readMoreTruths 1 = .ok (.istore_n 2, 1) := by decide +kernel
theorem dX8_readMoreTruths_2 : decode cX8_readMoreTruths 2 = .ok (.iload_n 2, 1) := by decide +kernel
theorem dX8_readMoreTruths_3 : decode cX8_readMoreTruths 3 = .ok (.sipush 160, 3) := by decide +kernel
theorem dX8_readMoreTruths_6 : decode cX8_readMoreTruths 6 = .ok (.if_icmp .ge 37, 3) := by decide +kernel
theorem dX8_readMoreTruths_9 : decode cX8_readMoreTruths 9 = .ok (.aload_n 0, 1) := by decide +kernel
theorem dX8_readMoreTruths_10 : decode cX8_readMoreTruths 10 = .ok (.getfield 15, 3) := by decide +kernel
theorem dX8_readMoreTruths_13 : decode cX8_readMoreTruths 13 = .ok (.bipush 124, 2) := by decide +kernel
theorem dX8_readMoreTruths_15 : decode cX8_readMoreTruths 15 = .ok (.invokevirtual 36, 3) := by decide +kernel
theorem dX8_readMoreTruths_18 : decode cX8_readMoreTruths 18 = .ok (.ifCond .eq 25, 3) := by decide +kernel
theorem dX8_readMoreTruths_21 : decode cX8_readMoreTruths 21 = .ok (.aload_n 0, 1) := by decide +kernel
theorem dX8_readMoreTruths_22 : decode cX8_readMoreTruths 22 = .ok (.iload_n 1, 1) := by decide +kernel
theorem dX8_readMoreTruths_23 : decode cX8_readMoreTruths 23 = .ok (.invokevirtual 65, 3) := by decide +kernel
theorem dX8_readMoreTruths_26 : decode cX8_readMoreTruths 26 = .ok (.ifCond .ne 5, 3) := by decide +kernel
theorem dX8_readMoreTruths_29 : decode cX8_readMoreTruths 29 = .ok (.iconst 0, 1) := by decide +kernel
theorem dX8_readMoreTruths_30 : decode cX8_readMoreTruths 30 = .ok (.ireturn, 1) := by decide +kernel
theorem dX8_readMoreTruths_31 : decode cX8_readMoreTruths 31 = .ok (.aload_n 0, 1) := by decide +kernel
theorem dX8_readMoreTruths_32 : decode cX8_readMoreTruths 32 = .ok (.bipush (-124), 2) := by decide +kernel
theorem dX8_readMoreTruths_34 : decode cX8_readMoreTruths 34 = .ok (.invokevirtual 32, 3) := by decide +kernel
theorem dX8_readMoreTruths_37 : decode cX8_readMoreTruths 37 = .ok (.iinc 2 1, 3) := by decide +kernel
theorem dX8_readMoreTruths_40 : decode cX8_readMoreTruths 40 = .ok (.goto (-38), 3) := by decide +kernel
theorem dX8_readMoreTruths_43 : decode cX8_readMoreTruths 43 = .ok (.iconst 1, 1) := by decide +kernel
theorem dX8_readMoreTruths_44 : decode cX8_readMoreTruths 44 = .ok (.ireturn, 1) := by decide +kernel
theorem ML_X8_65 : MLk RX8 65 yX8_readTruth := Or.inl ml_X8_65
theorem MV_X8_readTruth : MVk K_X8_readTruth 1 8 := ⟨⟨cd_X8_readTruth, in_X8, ⟨by decide, by decide, by decide +kernel⟩, by decide⟩, im_X8_readTruth, se_X8_readTruth, _, _, rfl⟩
def f_X8_readMoreTruths_43 (cb : Nat → Int32 → AH → Option (Int32 × AH))  (h : AH) : Option (Int32 × AH) :=
  some (1, h)
def f_X8_readMoreTruths_2 (cb : Nat → Int32 → AH → Option (Int32 × AH)) : Nat → Nat → Int32 → Int32 → AH → Option (Int32 × AH)
  | 0, _, _, _, _ => none
  | n + 1, k0, x1, x2, h =>
    if 160 ≤ x2 then (
      f_X8_readMoreTruths_43 cb h
    ) else (
      ob (f_X10_pass (rf k0 0) 124 h) fun r_4 h_3 =>
      if r_4 = 0 then (
        f_X8_readMoreTruths_43 cb h_3
      ) else (
        ob (f_X8_readTruth cb k0 x1 h_3) fun r_8 h_7 =>
        if r_8 = 0 then (
          some (0, h_7)
        ) else (
          ov (f_X8_write k0 (-124) h_7) fun h_11 =>
          nm (x2 + 1) fun x2_12 =>
          f_X8_readMoreTruths_2 cb n k0 x1 x2_12 h_11
        )
      )
    )
def f_X8_readMoreTruths (cb : Nat → Int32 → AH → Option (Int32 × AH)) (k0 : Nat) (x1 : Int32) (h : AH) : Option (Int32 × AH) :=
  f_X8_readMoreTruths_2 cb FU k0 x1 0 h
set_option maxHeartbeats 4000000 in
set_option maxRecDepth 100000 in
theorem v_X8_readMoreTruths_43 {E : EV} {d : Nat} {cb : Nat → Int32 → AH → Option (Int32 × AH)} {dc : Nat} (hcb : ∀ {d : Nat}, dc ≤ d → ∀ {k0 : Nat} {x1 : Int32} {h : AH} {r0 : Int32} {h0 : AH}, cb k0 x1 h = some (r0, h0) → kd k0 = (0, 8) → Con E d K_X8_readUnit (ZI E r0 h0) [.ref k0, .int x1] h) (hd : 4 + dc ≤ d) {r0 : Int32} {h0 : AH}  {h : AH} (hf : f_X8_readMoreTruths_43 cb h = some (r0, h0)) : V E (d + 1) K_X8_readMoreTruths (ZI E r0 h0) h [] [] 43 := by
  unfold f_X8_readMoreTruths_43 at hf
  refine V_iconst (v := 1) dX8_readMoreTruths_43 (by decide) ?_
  exact V_zret rfl (by decide) (so_s hf) dX8_readMoreTruths_44
set_option maxHeartbeats 4000000 in
set_option maxRecDepth 100000 in
theorem v_X8_readMoreTruths_2 {E : EV} {d : Nat} {cb : Nat → Int32 → AH → Option (Int32 × AH)} {dc : Nat} (hcb : ∀ {d : Nat}, dc ≤ d → ∀ {k0 : Nat} {x1 : Int32} {h : AH} {r0 : Int32} {h0 : AH}, cb k0 x1 h = some (r0, h0) → kd k0 = (0, 8) → Con E d K_X8_readUnit (ZI E r0 h0) [.ref k0, .int x1] h) (hd : 4 + dc ≤ d) {r0 : Int32} {h0 : AH} : ∀ (n : Nat) (k0 : Nat) (x1 : Int32) (x2 : Int32) (h : AH), f_X8_readMoreTruths_2 cb n k0 x1 x2 h = some (r0, h0) → kd k0 = (0, 8) → V E (d + 1) K_X8_readMoreTruths (ZI E r0 h0) h [(0, .ref k0), (1, .int x1), (2, .int x2)] [] 2 := by
  intro n
  induction n with
  | zero =>
    intro k0 x1 x2 h hf
    rw [f_X8_readMoreTruths_2] at hf
    cases hf
  | succ n ih =>
    intro k0 x1 x2 h hf t_k0
    rw [f_X8_readMoreTruths_2] at hf
    refine V_iload_n 2 dX8_readMoreTruths_2 rfl rfl ?_
    refine V_sipush (v := 160) dX8_readMoreTruths_3 (by decide) ?_
    refine V_ic_ge (tgt := 43) dX8_readMoreTruths_6 (by decide) (fun c_1 => ?_) (fun c_1 => ?_)
    · have hf := it_s c_1 hf
      refine V_sub [] rfl ?_
      exact v_X8_readMoreTruths_43 hcb hd hf
    · have hf := if_s c_1 hf
      refine V_aload_n 0 dX8_readMoreTruths_9 rfl rfl ?_
      refine V_getR F_X8_15 rfl t_k0 rfl dX8_readMoreTruths_10 ?_
      refine V_bipush (v := 124) dX8_readMoreTruths_13 (by decide) ?_
      obtain ⟨r_4, h_3, e_2, hf⟩ := ob_s hf
      refine V_cvi (As := [.int 124]) (rest := []) (c_X10_pass (d := d) (by omega) e_2 (rfO t_k0 (Nat.le_of_ble_eq_true rfl) rfl rfl)) ML_X8_36 MV_X10_pass rfl (rfO t_k0 (Nat.le_of_ble_eq_true rfl) rfl rfl) rfl rfl (Nat.le_of_ble_eq_true rfl) dX8_readMoreTruths_15 ?_
      refine V_if_eq (tgt := 43) dX8_readMoreTruths_18 (by decide) (fun c_5 => ?_) (fun c_5 => ?_)
      · have hf := it_s c_5 hf
        refine V_sub [] rfl ?_
        exact v_X8_readMoreTruths_43 hcb hd hf
      · have hf := if_s c_5 hf
        refine V_aload_n 0 dX8_readMoreTruths_21 rfl rfl ?_
        refine V_iload_n 1 dX8_readMoreTruths_22 rfl rfl ?_
        obtain ⟨r_8, h_7, e_6, hf⟩ := ob_s hf
        refine V_cvi (As := [.int x1]) (rest := []) (c_X8_readTruth (d := d) hcb (by omega) e_6 t_k0) ML_X8_65 MV_X8_readTruth rfl t_k0 rfl rfl (Nat.le_of_ble_eq_true rfl) dX8_readMoreTruths_23 ?_
        refine V_if_ne (tgt := 31) dX8_readMoreTruths_26 (by decide) (fun c_9 => ?_) (fun c_9 => ?_)
        · have hf := if_s c_9 hf
          refine V_aload_n 0 dX8_readMoreTruths_31 rfl rfl ?_
          refine V_bipush (v := (-124)) dX8_readMoreTruths_32 (by decide) ?_
          obtain ⟨h_11, e_10, hf⟩ := ov_s hf
          refine V_cvv (As := [.int (-124)]) (rest := []) (c_X8_write (d := d) (by omega) e_10 t_k0) ML_X8_32 MV_X8_write rfl t_k0 rfl rfl (Nat.le_of_ble_eq_true rfl) dX8_readMoreTruths_34 ?_
          obtain ⟨x2_12, e_13, hf⟩ := nm_s hf
          refine V_iinc (a := 1) (L' := [(2, .int x2_12), (0, .ref k0), (1, .int x1)]) 2 dX8_readMoreTruths_37 rfl (by decide) (Nat.le_of_ble_eq_true rfl) e_13 rfl ?_
          refine V_goto (tgt := 2) dX8_readMoreTruths_40 (by decide) ?_
          refine V_sub [1, 2, 0] rfl ?_
          exact ih _ _ _ _ hf t_k0
        · have hf := it_s c_9 hf
          refine V_iconst (v := 0) dX8_readMoreTruths_29 (by decide) ?_
          exact V_zret rfl (by decide) (so_s hf) dX8_readMoreTruths_30
set_option maxHeartbeats 4000000 in
set_option maxRecDepth 100000 in
theorem c_X8_readMoreTruths {E : EV} {d : Nat} {cb : Nat → Int32 → AH → Option (Int32 × AH)} {dc : Nat} (hcb : ∀ {d : Nat}, dc ≤ d → ∀ {k0 : Nat} {x1 : Int32} {h : AH} {r0 : Int32} {h0 : AH}, cb k0 x1 h = some (r0, h0) → kd k0 = (0, 8) → Con E d K_X8_readUnit (ZI E r0 h0) [.ref k0, .int x1] h) (hd : 4 + dc + 1 ≤ d) {k0 : Nat} {x1 : Int32} {h : AH} {r0 : Int32} {h0 : AH} (hf : f_X8_readMoreTruths cb k0 x1 h = some (r0, h0)) (t_k0 : kd k0 = (0, 8)) : Con E d K_X8_readMoreTruths (ZI E r0 h0) [.ref k0, .int x1] h := by
  obtain ⟨d, rfl⟩ : ∃ d', d = d' + 1 := ⟨d - 1, by omega⟩
  have hd := Nat.le_of_succ_le_succ hd
  refine Con.ofV rfl (Nat.le_of_ble_eq_true rfl) ?_
  unfold f_X8_readMoreTruths at hf
  show V E (d + 1) K_X8_readMoreTruths (ZI E r0 h0) h [(0, .ref k0), (1, .int x1)] [] 0
  refine V_iconst (v := 0) dX8_readMoreTruths_0 (by decide) ?_
  refine V_istore_n (L' := [(2, .int 0), (0, .ref k0), (1, .int x1)]) dX8_readMoreTruths_1 rfl (Nat.le_of_ble_eq_true rfl) rfl rfl ?_
  refine V_sub [1, 2, 0] rfl ?_
  exact v_X8_readMoreTruths_2 hcb hd FU _ _ _ _ hf t_k0
theorem dX8_readCondition_0 : decode cX8_readCondition 0 = .ok (.aload_n 0, 1) := by decide +kernel
theorem dX8_readCondition_1 : decode cX8_readCondition 1 = .ok (.iload_n 1, 1) := by decide +kernel
theorem dX8_readCondition_2 : decode cX8_readCondition 2 = .ok (.invokevirtual 65, 3) := by decide +kernel
theorem dX8_readCondition_5 : decode cX8_readCondition 5 = .ok (.ifCond .eq 15, 3) := by decide +kernel
theorem dX8_readCondition_8 : decode cX8_readCondition 8 = .ok (.aload_n 0, 1) := by decide +kernel
theorem dX8_readCondition_9 : decode cX8_readCondition 9 = .ok (.iload_n 1, 1) := by decide +kernel
theorem dX8_readCondition_10 : decode cX8_readCondition 10 = .ok (.invokevirtual 62, 3) := by decide +kernel
theorem dX8_readCondition_13 : decode cX8_readCondition 13 = .ok (.ifCond .eq 7, 3) := by decide +kernel
theorem dX8_readCondition_16 : decode cX8_readCondition 16 = .ok (.iconst 1, 1) := by decide +kernel
theorem dX8_readCondition_17 : decode cX8_readCondition 17 = .ok (.goto 4, 3) := by decide +kernel
theorem dX8_readCondition_20 : decode cX8_readCondition 20 = .ok (.iconst 0, 1) := by decide +kernel
theorem dX8_readCondition_21 : decode cX8_readCondition 21 = .ok (.ireturn, 1) := by decide +kernel
theorem ML_X8_62 : MLk RX8 62 yX8_readMoreTruths := Or.inl ml_X8_62
theorem MV_X8_readMoreTruths : MVk K_X8_readMoreTruths 1 8 := ⟨⟨cd_X8_readMoreTruths, in_X8, ⟨by decide, by decide, by decide +kernel⟩, by decide⟩, im_X8_readMoreTruths, se_X8_readMoreTruths, _, _, rfl⟩
def f_X8_readCondition_21 (cb : Nat → Int32 → AH → Option (Int32 × AH)) (s0 : Int32) (h : AH) : Option (Int32 × AH) :=
  og (bz s0) <|
  some (s0, h)
def f_X8_readCondition_20 (cb : Nat → Int32 → AH → Option (Int32 × AH))  (h : AH) : Option (Int32 × AH) :=
  f_X8_readCondition_21 cb 0 h
def f_X8_readCondition (cb : Nat → Int32 → AH → Option (Int32 × AH)) (k0 : Nat) (x1 : Int32) (h : AH) : Option (Int32 × AH) :=
  ob (f_X8_readTruth cb k0 x1 h) fun r_3 h_2 =>
  if r_3 = 0 then (
    f_X8_readCondition_20 cb h_2
  ) else (
    ob (f_X8_readMoreTruths cb k0 x1 h_2) fun r_7 h_6 =>
    if r_7 = 0 then (
      f_X8_readCondition_20 cb h_6
    ) else (
      f_X8_readCondition_21 cb 1 h_6
    )
  )
set_option maxHeartbeats 4000000 in
set_option maxRecDepth 100000 in
theorem v_X8_readCondition_21 {E : EV} {d : Nat} {cb : Nat → Int32 → AH → Option (Int32 × AH)} {dc : Nat} (hcb : ∀ {d : Nat}, dc ≤ d → ∀ {k0 : Nat} {x1 : Int32} {h : AH} {r0 : Int32} {h0 : AH}, cb k0 x1 h = some (r0, h0) → kd k0 = (0, 8) → Con E d K_X8_readUnit (ZI E r0 h0) [.ref k0, .int x1] h) (hd : 5 + dc ≤ d) {r0 : Int32} {h0 : AH} {s0 : Int32} {h : AH} (hf : f_X8_readCondition_21 cb s0 h = some (r0, h0)) : V E (d + 1) K_X8_readCondition (ZI E r0 h0) h [] [.int s0] 21 := by
  unfold f_X8_readCondition_21 at hf
  obtain ⟨b_1, hf⟩ := og_s hf
  exact V_zret rfl b_1 (so_s hf) dX8_readCondition_21
set_option maxHeartbeats 4000000 in
set_option maxRecDepth 100000 in
theorem v_X8_readCondition_20 {E : EV} {d : Nat} {cb : Nat → Int32 → AH → Option (Int32 × AH)} {dc : Nat} (hcb : ∀ {d : Nat}, dc ≤ d → ∀ {k0 : Nat} {x1 : Int32} {h : AH} {r0 : Int32} {h0 : AH}, cb k0 x1 h = some (r0, h0) → kd k0 = (0, 8) → Con E d K_X8_readUnit (ZI E r0 h0) [.ref k0, .int x1] h) (hd : 5 + dc ≤ d) {r0 : Int32} {h0 : AH}  {h : AH} (hf : f_X8_readCondition_20 cb h = some (r0, h0)) : V E (d + 1) K_X8_readCondition (ZI E r0 h0) h [] [] 20 := by
  unfold f_X8_readCondition_20 at hf
  refine V_iconst (v := 0) dX8_readCondition_20 (by decide) ?_
  exact v_X8_readCondition_21 hcb hd hf
set_option maxHeartbeats 4000000 in
set_option maxRecDepth 100000 in
theorem c_X8_readCondition {E : EV} {d : Nat} {cb : Nat → Int32 → AH → Option (Int32 × AH)} {dc : Nat} (hcb : ∀ {d : Nat}, dc ≤ d → ∀ {k0 : Nat} {x1 : Int32} {h : AH} {r0 : Int32} {h0 : AH}, cb k0 x1 h = some (r0, h0) → kd k0 = (0, 8) → Con E d K_X8_readUnit (ZI E r0 h0) [.ref k0, .int x1] h) (hd : 5 + dc + 1 ≤ d) {k0 : Nat} {x1 : Int32} {h : AH} {r0 : Int32} {h0 : AH} (hf : f_X8_readCondition cb k0 x1 h = some (r0, h0)) (t_k0 : kd k0 = (0, 8)) : Con E d K_X8_readCondition (ZI E r0 h0) [.ref k0, .int x1] h := by
  obtain ⟨d, rfl⟩ : ∃ d', d = d' + 1 := ⟨d - 1, by omega⟩
  have hd := Nat.le_of_succ_le_succ hd
  refine Con.ofV rfl (Nat.le_of_ble_eq_true rfl) ?_
  unfold f_X8_readCondition at hf
  show V E (d + 1) K_X8_readCondition (ZI E r0 h0) h [(0, .ref k0), (1, .int x1)] [] 0
  refine V_aload_n 0 dX8_readCondition_0 rfl rfl ?_
  refine V_iload_n 1 dX8_readCondition_1 rfl rfl ?_
  obtain ⟨r_3, h_2, e_1, hf⟩ := ob_s hf
  refine V_cvi (As := [.int x1]) (rest := []) (c_X8_readTruth (d := d) hcb (by omega) e_1 t_k0) ML_X8_65 MV_X8_readTruth rfl t_k0 rfl rfl (Nat.le_of_ble_eq_true rfl) dX8_readCondition_2 ?_
  refine V_if_eq (tgt := 20) dX8_readCondition_5 (by decide) (fun c_4 => ?_) (fun c_4 => ?_)
  · have hf := it_s c_4 hf
    refine V_sub [] rfl ?_
    exact v_X8_readCondition_20 hcb hd hf
  · have hf := if_s c_4 hf
    refine V_aload_n 0 dX8_readCondition_8 rfl rfl ?_
    refine V_iload_n 1 dX8_readCondition_9 rfl rfl ?_
    obtain ⟨r_7, h_6, e_5, hf⟩ := ob_s hf
    refine V_cvi (As := [.int x1]) (rest := []) (c_X8_readMoreTruths (d := d) hcb (by omega) e_5 t_k0) ML_X8_62 MV_X8_readMoreTruths rfl t_k0 rfl rfl (Nat.le_of_ble_eq_true rfl) dX8_readCondition_10 ?_
    refine V_if_eq (tgt := 20) dX8_readCondition_13 (by decide) (fun c_8 => ?_) (fun c_8 => ?_)
    · have hf := it_s c_8 hf
      refine V_sub [] rfl ?_
      exact v_X8_readCondition_20 hcb hd hf
    · have hf := if_s c_8 hf
      refine V_iconst (v := 1) dX8_readCondition_16 (by decide) ?_
      refine V_goto (tgt := 21) dX8_readCondition_17 (by decide) ?_
      refine V_sub [] rfl ?_
      exact v_X8_readCondition_21 hcb hd hf
theorem dX8_readUnit_0 : decode cX8_readUnit 0 = .ok (.aload_n 0, 1) := by decide +kernel
theorem dX8_readUnit_1 : decode cX8_readUnit 1 = .ok (.getfield 15, 3) := by decide +kernel
theorem dX8_readUnit_4 : decode cX8_readUnit 4 = .ok (.invokevirtual 40, 3) := by decide +kernel
theorem dX8_readUnit_7 : decode cX8_readUnit 7 = .ok (.istore_n 2, 1) := by decide +kernel
theorem dX8_readUnit_8 : decode cX8_readUnit 8 = .ok (.iload_n 2, 1) := by decide +kernel
theorem dX8_readUnit_9 : decode cX8_readUnit 9 = .ok (.bipush 33, 2) := by decide +kernel
theorem dX8_readUnit_11 : decode cX8_readUnit 11 = .ok (.if_icmp .eq 31, 3) := by decide +kernel
theorem dX8_readUnit_14 : decode cX8_readUnit 14 = .ok (.iload_n 2, 1) := by decide +kernel
theorem dX8_readUnit_15 : decode cX8_readUnit 15 = .ok (.bipush 40, 2) := by decide +kernel
theorem dX8_readUnit_17 : decode cX8_readUnit 17 = .ok (.if_icmp .eq 25, 3) := by decide +kernel
theorem dX8_readUnit_20 : decode cX8_readUnit 20 = .ok (.aload_n 0, 1) := by decide +kernel
theorem dX8_readUnit_21 : decode cX8_readUnit 21 = .ok (.iload_n 1, 1) := by decide +kernel
theorem dX8_readUnit_22 : decode cX8_readUnit 22 = .ok (.invokevirtual 50, 3) := by decide +kernel
theorem dX8_readUnit_25 : decode cX8_readUnit 25 = .ok (.ifCond .eq 15, 3) := by decide +kernel
theorem dX8_readUnit_28 : decode cX8_readUnit 28 = .ok (.aload_n 0, 1) := by decide +kernel
theorem dX8_readUnit_29 : decode cX8_readUnit 29 = .ok (.iload_n 1, 1) := by decide +kernel
theorem dX8_readUnit_30 : decode cX8_readUnit 30 = .ok (.invokevirtual 56, 3) := by decide +kernel
theorem dX8_readUnit_33 : decode cX8_readUnit 33 = .ok (.ifCond .eq 7, 3) := by decide +kernel
theorem dX8_readUnit_36 : decode cX8_readUnit 36 = .ok (.iconst 1, 1) := by decide +kernel
theorem dX8_readUnit_37 : decode cX8_readUnit 37 = .ok (.goto 4, 3) := by decide +kernel
theorem dX8_readUnit_40 : decode cX8_readUnit 40 = .ok (.iconst 0, 1) := by decide +kernel
theorem dX8_readUnit_41 : decode cX8_readUnit 41 = .ok (.ireturn, 1) := by decide +kernel
theorem dX8_readUnit_42 : decode cX8_readUnit 42 = .ok (.iload_n 1, 1) := by decide +kernel
theorem dX8_readUnit_43 : decode cX8_readUnit 43 = .ok (.bipush 6, 2) := by decide +kernel
theorem dX8_readUnit_45 : decode cX8_readUnit 45 = .ok (.if_icmp .ne 5, 3) := by decide +kernel
theorem dX8_readUnit_48 : decode cX8_readUnit 48 = .ok (.iconst 0, 1) := by decide +kernel
theorem dX8_readUnit_49 : decode cX8_readUnit 49 = .ok (.ireturn, 1) := by decide +kernel
theorem dX8_readUnit_50 : decode cX8_readUnit 50 = .ok (.aload_n 0, 1) := by decide +kernel
theorem dX8_readUnit_51 : decode cX8_readUnit 51 = .ok (.getfield 15, 3) := by decide +kernel
theorem dX8_readUnit_54 : decode cX8_readUnit 54 = .ok (.dup, 1) := by decide +kernel
theorem dX8_readUnit_55 : decode cX8_readUnit 55 = .ok (.getfield 19, 3) := by decide +kernel
theorem dX8_readUnit_58 : decode cX8_readUnit 58 = .ok (.iconst 1, 1) := by decide +kernel
theorem dX8_readUnit_59 : decode cX8_readUnit 59 = .ok (.iadd, 1) := by decide +kernel
theorem dX8_readUnit_60 : decode cX8_readUnit 60 = .ok (.putfield 19, 3) := by decide +kernel
theorem dX8_readUnit_63 : decode cX8_readUnit 63 = .ok (.iload_n 2, 1) := by decide +kernel
theorem dX8_readUnit_64 : decode cX8_readUnit 64 = .ok (.bipush 40, 2) := by decide +kernel
theorem dX8_readUnit_66 : decode cX8_readUnit 66 = .ok (.if_icmp .ne 31, 3) := by decide +kernel
theorem dX8_readUnit_69 : decode cX8_readUnit 69 = .ok (.aload_n 0, 1) := by decide +kernel
theorem dX8_readUnit_70 : decode cX8_readUnit 70 = .ok (.iload_n 1, 1) := by decide +kernel
theorem dX8_readUnit_71 : decode cX8_readUnit 71 = .ok (.iconst 1, 1) := by decide +kernel
theorem dX8_readUnit_72 : decode cX8_readUnit 72 = .ok (.iadd, 1) := by decide +kernel
theorem dX8_readUnit_73 : decode cX8_readUnit 73 = .ok (.invokevirtual 44, 3) := by decide +kernel
theorem dX8_readUnit_76 : decode cX8_readUnit 76 = .ok (.ifCond .eq 19, 3) := by decide +kernel
theorem dX8_readUnit_79 : decode cX8_readUnit 79 = .ok (.aload_n 0, 1) := by decide +kernel
theorem dX8_readUnit_80 : decode cX8_readUnit 80 = .ok (.getfield 15, 3) := by decide +kernel
theorem dX8_readUnit_83 : decode cX8_readUnit 83 = .ok (.bipush 41, 2) := by decide +kernel
theorem dX8_readUnit_85 : decode cX8_readUnit 85 = .ok (.invokevirtual 36, 3) := by decide +kernel
theorem dX8_readUnit_88 : decode cX8_readUnit 88 = .ok (.ifCond .eq 7, 3) := by decide +kernel
theorem dX8_readUnit_91 : decode cX8_readUnit 91 = .ok (.iconst 1, 1) := by decide +kernel
theorem dX8_readUnit_92 : decode cX8_readUnit 92 = .ok (.goto 4, 3) := by decide +kernel
theorem dX8_readUnit_95 : decode cX8_readUnit 95 = .ok (.iconst 0, 1) := by decide +kernel
theorem dX8_readUnit_96 : decode cX8_readUnit 96 = .ok (.ireturn, 1) := by decide +kernel
theorem dX8_readUnit_97 : decode cX8_readUnit 97 = .ok (.aload_n 0, 1) := by decide +kernel
theorem dX8_readUnit_98 : decode cX8_readUnit 98 = .ok (.iload_n 1, 1) := by decide +kernel
theorem dX8_readUnit_99 : decode cX8_readUnit 99 = .ok (.iconst 1, 1) := by decide +kernel
theorem dX8_readUnit_100 : decode cX8_readUnit 100 = .ok (.iadd, 1) := by decide +kernel
theorem dX8_readUnit_101 : decode cX8_readUnit 101 = .ok (.invokevirtual 68, 3) := by decide +kernel
theorem dX8_readUnit_104 : decode cX8_readUnit 104 = .ok (.ifCond .ne 5, 3) := by decide +kernel
theorem dX8_readUnit_107 : decode cX8_readUnit 107 = .ok (.iconst 0, 1) := by decide +kernel
theorem dX8_readUnit_108 : decode cX8_readUnit 108 = .ok (.ireturn, 1) := by decide +kernel
theorem dX8_readUnit_109 : decode cX8_readUnit 109 = .ok (.aload_n 0, 1) := by decide +kernel
theorem dX8_readUnit_110 : decode cX8_readUnit 110 = .ok (.bipush (-33), 2) := by decide +kernel
theorem dX8_readUnit_112 : decode cX8_readUnit 112 = .ok (.invokevirtual 32, 3) := by decide +kernel
theorem dX8_readUnit_115 : decode cX8_readUnit 115 = .ok (.iconst 1, 1) := by decide +kernel
theorem dX8_readUnit_116 : decode cX8_readUnit 116 = .ok (.ireturn, 1) := by decide +kernel
theorem ML_X8_44 : MLk RX8 44 yX8_readCondition := Or.inl ml_X8_44
theorem MV_X8_readCondition : MVk K_X8_readCondition 1 8 := ⟨⟨cd_X8_readCondition, in_X8, ⟨by decide, by decide, by decide +kernel⟩, by decide⟩, im_X8_readCondition, se_X8_readCondition, _, _, rfl⟩
theorem ML_X8_56 : MLk RX8 56 yX8_readRelation := Or.inl ml_X8_56
theorem MV_X8_readRelation : MVk K_X8_readRelation 1 8 := ⟨⟨cd_X8_readRelation, in_X8, ⟨by decide, by decide, by decide +kernel⟩, by decide⟩, im_X8_readRelation, se_X8_readRelation, _, _, rfl⟩
def f_X8_readUnit_41 (cb : Nat → Int32 → AH → Option (Int32 × AH)) (s0 : Int32) (h : AH) : Option (Int32 × AH) :=
  og (bz s0) <|
  some (s0, h)
def f_X8_readUnit_40 (cb : Nat → Int32 → AH → Option (Int32 × AH))  (h : AH) : Option (Int32 × AH) :=
  f_X8_readUnit_41 cb 0 h
def f_X8_readUnit_96 (cb : Nat → Int32 → AH → Option (Int32 × AH)) (s0 : Int32) (h : AH) : Option (Int32 × AH) :=
  og (bz s0) <|
  some (s0, h)
def f_X8_readUnit_95 (cb : Nat → Int32 → AH → Option (Int32 × AH))  (h : AH) : Option (Int32 × AH) :=
  f_X8_readUnit_96 cb 0 h
def f_X8_readUnit_42 (cb : Nat → Int32 → AH → Option (Int32 × AH)) (k0 : Nat) (x1 : Int32) (x2 : Int32) (h : AH) : Option (Int32 × AH) :=
  if x1 = 6 then (
    some (0, h)
  ) else (
    nm (sI h (rf k0 0) 2 ((h.1 (rf k0 0) 2) + 1)) fun h_2 =>
    if x2 = 40 then (
      ob (f_X8_readCondition cb k0 (x1 + 1) h_2) fun r_13 h_12 =>
      if r_13 = 0 then (
        f_X8_readUnit_95 cb h_12
      ) else (
        ob (f_X10_pass (rf k0 0) 41 h_12) fun r_17 h_16 =>
        if r_17 = 0 then (
          f_X8_readUnit_95 cb h_16
        ) else (
          f_X8_readUnit_96 cb 1 h_16
        )
      )
    ) else (
      ob (cb k0 (x1 + 1) h_2) fun r_7 h_6 =>
      if r_7 = 0 then (
        some (0, h_6)
      ) else (
        ov (f_X8_write k0 (-33) h_6) fun h_10 =>
        some (1, h_10)
      )
    )
  )
def f_X8_readUnit (cb : Nat → Int32 → AH → Option (Int32 × AH)) (k0 : Nat) (x1 : Int32) (h : AH) : Option (Int32 × AH) :=
  ob (f_X10_next (rf k0 0) h) fun r_3 h_2 =>
  if r_3 = 33 then (
    f_X8_readUnit_42 cb k0 x1 r_3 h_2
  ) else (
    if r_3 = 40 then (
      f_X8_readUnit_42 cb k0 x1 r_3 h_2
    ) else (
      ob (r_X8_readSum 12 k0 x1 h_2) fun r_8 h_7 =>
      if r_8 = 0 then (
        f_X8_readUnit_40 cb h_7
      ) else (
        ob (f_X8_readRelation k0 x1 h_7) fun r_12 h_11 =>
        if r_12 = 0 then (
          f_X8_readUnit_40 cb h_11
        ) else (
          f_X8_readUnit_41 cb 1 h_11
        )
      )
    )
  )
def r_X8_readUnit : Nat → Nat → Int32 → AH → Option (Int32 × AH)
  | 0, _, _, _ => none
  | n + 1, k0, x1, h => f_X8_readUnit (r_X8_readUnit n) k0 x1 h
set_option maxHeartbeats 4000000 in
set_option maxRecDepth 100000 in
theorem v_X8_readUnit_41 {E : EV} {d : Nat} {cb : Nat → Int32 → AH → Option (Int32 × AH)} {dc : Nat} (hcb : ∀ {d : Nat}, dc ≤ d → ∀ {k0 : Nat} {x1 : Int32} {h : AH} {r0 : Int32} {h0 : AH}, cb k0 x1 h = some (r0, h0) → kd k0 = (0, 8) → Con E d K_X8_readUnit (ZI E r0 h0) [.ref k0, .int x1] h) (hd : 109 + dc ≤ d) {r0 : Int32} {h0 : AH} {s0 : Int32} {h : AH} (hf : f_X8_readUnit_41 cb s0 h = some (r0, h0)) : V E (d + 1) K_X8_readUnit (ZI E r0 h0) h [] [.int s0] 41 := by
  unfold f_X8_readUnit_41 at hf
  obtain ⟨b_1, hf⟩ := og_s hf
  exact V_zret rfl b_1 (so_s hf) dX8_readUnit_41
set_option maxHeartbeats 4000000 in
set_option maxRecDepth 100000 in
theorem v_X8_readUnit_40 {E : EV} {d : Nat} {cb : Nat → Int32 → AH → Option (Int32 × AH)} {dc : Nat} (hcb : ∀ {d : Nat}, dc ≤ d → ∀ {k0 : Nat} {x1 : Int32} {h : AH} {r0 : Int32} {h0 : AH}, cb k0 x1 h = some (r0, h0) → kd k0 = (0, 8) → Con E d K_X8_readUnit (ZI E r0 h0) [.ref k0, .int x1] h) (hd : 109 + dc ≤ d) {r0 : Int32} {h0 : AH}  {h : AH} (hf : f_X8_readUnit_40 cb h = some (r0, h0)) : V E (d + 1) K_X8_readUnit (ZI E r0 h0) h [] [] 40 := by
  unfold f_X8_readUnit_40 at hf
  refine V_iconst (v := 0) dX8_readUnit_40 (by decide) ?_
  exact v_X8_readUnit_41 hcb hd hf
set_option maxHeartbeats 4000000 in
set_option maxRecDepth 100000 in
theorem v_X8_readUnit_96 {E : EV} {d : Nat} {cb : Nat → Int32 → AH → Option (Int32 × AH)} {dc : Nat} (hcb : ∀ {d : Nat}, dc ≤ d → ∀ {k0 : Nat} {x1 : Int32} {h : AH} {r0 : Int32} {h0 : AH}, cb k0 x1 h = some (r0, h0) → kd k0 = (0, 8) → Con E d K_X8_readUnit (ZI E r0 h0) [.ref k0, .int x1] h) (hd : 109 + dc ≤ d) {r0 : Int32} {h0 : AH} {s0 : Int32} {h : AH} (hf : f_X8_readUnit_96 cb s0 h = some (r0, h0)) : V E (d + 1) K_X8_readUnit (ZI E r0 h0) h [] [.int s0] 96 := by
  unfold f_X8_readUnit_96 at hf
  obtain ⟨b_1, hf⟩ := og_s hf
  exact V_zret rfl b_1 (so_s hf) dX8_readUnit_96
set_option maxHeartbeats 4000000 in
set_option maxRecDepth 100000 in
theorem v_X8_readUnit_95 {E : EV} {d : Nat} {cb : Nat → Int32 → AH → Option (Int32 × AH)} {dc : Nat} (hcb : ∀ {d : Nat}, dc ≤ d → ∀ {k0 : Nat} {x1 : Int32} {h : AH} {r0 : Int32} {h0 : AH}, cb k0 x1 h = some (r0, h0) → kd k0 = (0, 8) → Con E d K_X8_readUnit (ZI E r0 h0) [.ref k0, .int x1] h) (hd : 109 + dc ≤ d) {r0 : Int32} {h0 : AH}  {h : AH} (hf : f_X8_readUnit_95 cb h = some (r0, h0)) : V E (d + 1) K_X8_readUnit (ZI E r0 h0) h [] [] 95 := by
  unfold f_X8_readUnit_95 at hf
  refine V_iconst (v := 0) dX8_readUnit_95 (by decide) ?_
  exact v_X8_readUnit_96 hcb hd hf
set_option maxHeartbeats 4000000 in
set_option maxRecDepth 100000 in
theorem v_X8_readUnit_42 {E : EV} {d : Nat} {cb : Nat → Int32 → AH → Option (Int32 × AH)} {dc : Nat} (hcb : ∀ {d : Nat}, dc ≤ d → ∀ {k0 : Nat} {x1 : Int32} {h : AH} {r0 : Int32} {h0 : AH}, cb k0 x1 h = some (r0, h0) → kd k0 = (0, 8) → Con E d K_X8_readUnit (ZI E r0 h0) [.ref k0, .int x1] h) (hd : 109 + dc ≤ d) {r0 : Int32} {h0 : AH} {k0 : Nat} {x1 : Int32} {x2 : Int32} {h : AH} (hf : f_X8_readUnit_42 cb k0 x1 x2 h = some (r0, h0)) (t_k0 : kd k0 = (0, 8)) : V E (d + 1) K_X8_readUnit (ZI E r0 h0) h [(0, .ref k0), (1, .int x1), (2, .int x2)] [] 42 := by
  unfold f_X8_readUnit_42 at hf
  refine V_iload_n 1 dX8_readUnit_42 rfl rfl ?_
  refine V_bipush (v := 6) dX8_readUnit_43 (by decide) ?_
  refine V_ic_ne (tgt := 50) dX8_readUnit_45 (by decide) (fun c_1 => ?_) (fun c_1 => ?_)
  · have hf := if_s c_1 hf
    refine V_aload_n 0 dX8_readUnit_50 rfl rfl ?_
    refine V_getR F_X8_15 rfl t_k0 rfl dX8_readUnit_51 ?_
    refine V_dup dX8_readUnit_54 rfl ?_
    refine V_getI F_X8_19 rfl (rfO t_k0 (Nat.le_of_ble_eq_true rfl) rfl rfl) rfl dX8_readUnit_55 ?_
    refine V_iconst (v := 1) dX8_readUnit_58 (by decide) ?_
    refine V_iadd dX8_readUnit_59 ?_
    obtain ⟨h_2, e_3, hf⟩ := nm_s hf
    refine V_putI P_X8_19 rfl (rfO t_k0 (Nat.le_of_ble_eq_true rfl) rfl rfl) rfl e_3 dX8_readUnit_60 ?_
    refine V_iload_n 2 dX8_readUnit_63 rfl rfl ?_
    refine V_bipush (v := 40) dX8_readUnit_64 (by decide) ?_
    refine V_ic_ne (tgt := 97) dX8_readUnit_66 (by decide) (fun c_4 => ?_) (fun c_4 => ?_)
    · have hf := if_s c_4 hf
      refine V_aload_n 0 dX8_readUnit_97 rfl rfl ?_
      refine V_iload_n 1 dX8_readUnit_98 rfl rfl ?_
      refine V_iconst (v := 1) dX8_readUnit_99 (by decide) ?_
      refine V_iadd dX8_readUnit_100 ?_
      obtain ⟨r_7, h_6, e_5, hf⟩ := ob_s hf
      refine V_cvi (As := [.int (x1 + 1)]) (rest := []) (hcb (d := d) (by omega) e_5 t_k0) ML_X8_68 MV_X8_readUnit rfl t_k0 rfl rfl (Nat.le_of_ble_eq_true rfl) dX8_readUnit_101 ?_
      refine V_if_ne (tgt := 109) dX8_readUnit_104 (by decide) (fun c_8 => ?_) (fun c_8 => ?_)
      · have hf := if_s c_8 hf
        refine V_aload_n 0 dX8_readUnit_109 rfl rfl ?_
        refine V_bipush (v := (-33)) dX8_readUnit_110 (by decide) ?_
        obtain ⟨h_10, e_9, hf⟩ := ov_s hf
        refine V_cvv (As := [.int (-33)]) (rest := []) (c_X8_write (d := d) (by omega) e_9 t_k0) ML_X8_32 MV_X8_write rfl t_k0 rfl rfl (Nat.le_of_ble_eq_true rfl) dX8_readUnit_112 ?_
        refine V_iconst (v := 1) dX8_readUnit_115 (by decide) ?_
        exact V_zret rfl (by decide) (so_s hf) dX8_readUnit_116
      · have hf := it_s c_8 hf
        refine V_iconst (v := 0) dX8_readUnit_107 (by decide) ?_
        exact V_zret rfl (by decide) (so_s hf) dX8_readUnit_108
    · have hf := it_s c_4 hf
      refine V_aload_n 0 dX8_readUnit_69 rfl rfl ?_
      refine V_iload_n 1 dX8_readUnit_70 rfl rfl ?_
      refine V_iconst (v := 1) dX8_readUnit_71 (by decide) ?_
      refine V_iadd dX8_readUnit_72 ?_
      obtain ⟨r_13, h_12, e_11, hf⟩ := ob_s hf
      refine V_cvi (As := [.int (x1 + 1)]) (rest := []) (c_X8_readCondition (d := d) hcb (by omega) e_11 t_k0) ML_X8_44 MV_X8_readCondition rfl t_k0 rfl rfl (Nat.le_of_ble_eq_true rfl) dX8_readUnit_73 ?_
      refine V_if_eq (tgt := 95) dX8_readUnit_76 (by decide) (fun c_14 => ?_) (fun c_14 => ?_)
      · have hf := it_s c_14 hf
        refine V_sub [] rfl ?_
        exact v_X8_readUnit_95 hcb hd hf
      · have hf := if_s c_14 hf
        refine V_aload_n 0 dX8_readUnit_79 rfl rfl ?_
        refine V_getR F_X8_15 rfl t_k0 rfl dX8_readUnit_80 ?_
        refine V_bipush (v := 41) dX8_readUnit_83 (by decide) ?_
        obtain ⟨r_17, h_16, e_15, hf⟩ := ob_s hf
        refine V_cvi (As := [.int 41]) (rest := []) (c_X10_pass (d := d) (by omega) e_15 (rfO t_k0 (Nat.le_of_ble_eq_true rfl) rfl rfl)) ML_X8_36 MV_X10_pass rfl (rfO t_k0 (Nat.le_of_ble_eq_true rfl) rfl rfl) rfl rfl (Nat.le_of_ble_eq_true rfl) dX8_readUnit_85 ?_
        refine V_if_eq (tgt := 95) dX8_readUnit_88 (by decide) (fun c_18 => ?_) (fun c_18 => ?_)
        · have hf := it_s c_18 hf
          refine V_sub [] rfl ?_
          exact v_X8_readUnit_95 hcb hd hf
        · have hf := if_s c_18 hf
          refine V_iconst (v := 1) dX8_readUnit_91 (by decide) ?_
          refine V_goto (tgt := 96) dX8_readUnit_92 (by decide) ?_
          refine V_sub [] rfl ?_
          exact v_X8_readUnit_96 hcb hd hf
  · have hf := it_s c_1 hf
    refine V_iconst (v := 0) dX8_readUnit_48 (by decide) ?_
    exact V_zret rfl (by decide) (so_s hf) dX8_readUnit_49
set_option maxHeartbeats 4000000 in
set_option maxRecDepth 100000 in
theorem c_X8_readUnit {E : EV} {d : Nat} {cb : Nat → Int32 → AH → Option (Int32 × AH)} {dc : Nat} (hcb : ∀ {d : Nat}, dc ≤ d → ∀ {k0 : Nat} {x1 : Int32} {h : AH} {r0 : Int32} {h0 : AH}, cb k0 x1 h = some (r0, h0) → kd k0 = (0, 8) → Con E d K_X8_readUnit (ZI E r0 h0) [.ref k0, .int x1] h) (hd : 109 + dc + 1 ≤ d) {k0 : Nat} {x1 : Int32} {h : AH} {r0 : Int32} {h0 : AH} (hf : f_X8_readUnit cb k0 x1 h = some (r0, h0)) (t_k0 : kd k0 = (0, 8)) : Con E d K_X8_readUnit (ZI E r0 h0) [.ref k0, .int x1] h := by
  obtain ⟨d, rfl⟩ : ∃ d', d = d' + 1 := ⟨d - 1, by omega⟩
  have hd := Nat.le_of_succ_le_succ hd
  refine Con.ofV rfl (Nat.le_of_ble_eq_true rfl) ?_
  unfold f_X8_readUnit at hf
  show V E (d + 1) K_X8_readUnit (ZI E r0 h0) h [(0, .ref k0), (1, .int x1)] [] 0
  refine V_aload_n 0 dX8_readUnit_0 rfl rfl ?_
  refine V_getR F_X8_15 rfl t_k0 rfl dX8_readUnit_1 ?_
  obtain ⟨r_3, h_2, e_1, hf⟩ := ob_s hf
  refine V_cvi (As := []) (rest := []) (c_X10_next (d := d) (by omega) e_1 (rfO t_k0 (Nat.le_of_ble_eq_true rfl) rfl rfl)) ML_X8_40 MV_X10_next rfl (rfO t_k0 (Nat.le_of_ble_eq_true rfl) rfl rfl) rfl rfl (Nat.le_of_ble_eq_true rfl) dX8_readUnit_4 ?_
  refine V_istore_n (L' := [(2, .int r_3), (0, .ref k0), (1, .int x1)]) dX8_readUnit_7 rfl (Nat.le_of_ble_eq_true rfl) rfl rfl ?_
  refine V_iload_n 0 dX8_readUnit_8 rfl rfl ?_
  refine V_bipush (v := 33) dX8_readUnit_9 (by decide) ?_
  refine V_ic_eq (tgt := 42) dX8_readUnit_11 (by decide) (fun c_4 => ?_) (fun c_4 => ?_)
  · have hf := it_s c_4 hf
    refine V_sub [1, 2, 0] rfl ?_
    exact v_X8_readUnit_42 hcb hd hf t_k0
  · have hf := if_s c_4 hf
    refine V_iload_n 0 dX8_readUnit_14 rfl rfl ?_
    refine V_bipush (v := 40) dX8_readUnit_15 (by decide) ?_
    refine V_ic_eq (tgt := 42) dX8_readUnit_17 (by decide) (fun c_5 => ?_) (fun c_5 => ?_)
    · have hf := it_s c_5 hf
      refine V_sub [1, 2, 0] rfl ?_
      exact v_X8_readUnit_42 hcb hd hf t_k0
    · have hf := if_s c_5 hf
      refine V_aload_n 1 dX8_readUnit_20 rfl rfl ?_
      refine V_iload_n 2 dX8_readUnit_21 rfl rfl ?_
      obtain ⟨r_8, h_7, e_6, hf⟩ := ob_s hf
      refine V_cvi (As := [.int x1]) (rest := []) (cr_X8_readSum 12 (d := d) (by omega) e_6 t_k0) ML_X8_50 MV_X8_readSum rfl t_k0 rfl rfl (Nat.le_of_ble_eq_true rfl) dX8_readUnit_22 ?_
      refine V_if_eq (tgt := 40) dX8_readUnit_25 (by decide) (fun c_9 => ?_) (fun c_9 => ?_)
      · have hf := it_s c_9 hf
        refine V_sub [] rfl ?_
        exact v_X8_readUnit_40 hcb hd hf
      · have hf := if_s c_9 hf
        refine V_aload_n 1 dX8_readUnit_28 rfl rfl ?_
        refine V_iload_n 2 dX8_readUnit_29 rfl rfl ?_
        obtain ⟨r_12, h_11, e_10, hf⟩ := ob_s hf
        refine V_cvi (As := [.int x1]) (rest := []) (c_X8_readRelation (d := d) (by omega) e_10 t_k0) ML_X8_56 MV_X8_readRelation rfl t_k0 rfl rfl (Nat.le_of_ble_eq_true rfl) dX8_readUnit_30 ?_
        refine V_if_eq (tgt := 40) dX8_readUnit_33 (by decide) (fun c_13 => ?_) (fun c_13 => ?_)
        · have hf := it_s c_13 hf
          refine V_sub [] rfl ?_
          exact v_X8_readUnit_40 hcb hd hf
        · have hf := if_s c_13 hf
          refine V_iconst (v := 1) dX8_readUnit_36 (by decide) ?_
          refine V_goto (tgt := 41) dX8_readUnit_37 (by decide) ?_
          refine V_sub [] rfl ?_
          exact v_X8_readUnit_41 hcb hd hf
set_option maxHeartbeats 4000000 in
set_option maxRecDepth 100000 in
theorem cr_X8_readUnit {E : EV} : ∀ (n : Nat) {d : Nat}, n * 110 ≤ d → ∀ {k0 : Nat} {x1 : Int32} {h : AH} {r0 : Int32} {h0 : AH}, r_X8_readUnit n k0 x1 h = some (r0, h0) → kd k0 = (0, 8) → Con E d K_X8_readUnit (ZI E r0 h0) [.ref k0, .int x1] h := by
  intro n
  induction n with
  | zero =>
    intro d hd k0 x1 h r0 h0 hf
    rw [r_X8_readUnit] at hf
    cases hf
  | succ n ih =>
    intro d hd k0 x1 h r0 h0 hf t_k0
    rw [r_X8_readUnit] at hf
    exact c_X8_readUnit (dc := n * 110) ih (by omega) hf t_k0
theorem dX8_readAnswer_0 : decode cX8_readAnswer 0 = .ok (.aload_n 0, 1) := by decide +kernel
theorem dX8_readAnswer_1 : decode cX8_readAnswer 1 = .ok (.getfield 15, 3) := by decide +kernel
theorem dX8_readAnswer_4 : decode cX8_readAnswer 4 = .ok (.bipush 63, 2) := by decide +kernel
theorem dX8_readAnswer_6 : decode cX8_readAnswer 6 = .ok (.invokevirtual 36, 3) := by decide +kernel
theorem dX8_readAnswer_9 : decode cX8_readAnswer 9 = .ok (.ifCond .ne 5, 3) := by decide +kernel
theorem dX8_readAnswer_12 : decode cX8_readAnswer 12 = .ok (.iconst 0, 1) := by decide +kernel
theorem dX8_readAnswer_13 : decode cX8_readAnswer 13 = .ok (.ireturn, 1) := by decide +kernel
theorem dX8_readAnswer_14 : decode cX8_readAnswer 14 = .ok (.aload_n 0, 1) := by decide +kernel
theorem dX8_readAnswer_15 : decode cX8_readAnswer 15 = .ok (.bipush (-63), 2) := by decide +kernel
theorem dX8_readAnswer_17 : decode cX8_readAnswer 17 = .ok (.invokevirtual 32, 3) := by decide +kernel
theorem dX8_readAnswer_20 : decode cX8_readAnswer 20 = .ok (.aload_n 0, 1) := by decide +kernel
theorem dX8_readAnswer_21 : decode cX8_readAnswer 21 = .ok (.iconst 0, 1) := by decide +kernel
theorem dX8_readAnswer_22 : decode cX8_readAnswer 22 = .ok (.invokevirtual 50, 3) := by decide +kernel
theorem dX8_readAnswer_25 : decode cX8_readAnswer 25 = .ok (.ireturn, 1) := by decide +kernel
def f_X8_readAnswer (k0 : Nat) (h : AH) : Option (Int32 × AH) :=
  ob (f_X10_pass (rf k0 0) 63 h) fun r_3 h_2 =>
  if r_3 = 0 then (
    some (0, h_2)
  ) else (
    ov (f_X8_write k0 (-63) h_2) fun h_6 =>
    ob (r_X8_readSum 12 k0 0 h_6) fun r_9 h_8 =>
    og (bz r_9) <|
    some (r_9, h_8)
  )
set_option maxHeartbeats 4000000 in
set_option maxRecDepth 100000 in
theorem c_X8_readAnswer {E : EV} {d : Nat} (hd : 108 + 1 ≤ d) {k0 : Nat} {h : AH} {r0 : Int32} {h0 : AH} (hf : f_X8_readAnswer k0 h = some (r0, h0)) (t_k0 : kd k0 = (0, 8)) : Con E d K_X8_readAnswer (ZI E r0 h0) [.ref k0] h := by
  obtain ⟨d, rfl⟩ : ∃ d', d = d' + 1 := ⟨d - 1, by omega⟩
  have hd := Nat.le_of_succ_le_succ hd
  refine Con.ofV rfl (Nat.le_of_ble_eq_true rfl) ?_
  unfold f_X8_readAnswer at hf
  show V E (d + 1) K_X8_readAnswer (ZI E r0 h0) h [(0, .ref k0)] [] 0
  refine V_aload_n 0 dX8_readAnswer_0 rfl rfl ?_
  refine V_getR F_X8_15 rfl t_k0 rfl dX8_readAnswer_1 ?_
  refine V_bipush (v := 63) dX8_readAnswer_4 (by decide) ?_
  obtain ⟨r_3, h_2, e_1, hf⟩ := ob_s hf
  refine V_cvi (As := [.int 63]) (rest := []) (c_X10_pass (d := d) (Nat.le_trans (Nat.le_of_ble_eq_true rfl) hd) e_1 (rfO t_k0 (Nat.le_of_ble_eq_true rfl) rfl rfl)) ML_X8_36 MV_X10_pass rfl (rfO t_k0 (Nat.le_of_ble_eq_true rfl) rfl rfl) rfl rfl (Nat.le_of_ble_eq_true rfl) dX8_readAnswer_6 ?_
  refine V_if_ne (tgt := 14) dX8_readAnswer_9 (by decide) (fun c_4 => ?_) (fun c_4 => ?_)
  · have hf := if_s c_4 hf
    refine V_aload_n 0 dX8_readAnswer_14 rfl rfl ?_
    refine V_bipush (v := (-63)) dX8_readAnswer_15 (by decide) ?_
    obtain ⟨h_6, e_5, hf⟩ := ov_s hf
    refine V_cvv (As := [.int (-63)]) (rest := []) (c_X8_write (d := d) (Nat.le_trans (Nat.le_of_ble_eq_true rfl) hd) e_5 t_k0) ML_X8_32 MV_X8_write rfl t_k0 rfl rfl (Nat.le_of_ble_eq_true rfl) dX8_readAnswer_17 ?_
    refine V_aload_n 0 dX8_readAnswer_20 rfl rfl ?_
    refine V_iconst (v := 0) dX8_readAnswer_21 (by decide) ?_
    obtain ⟨r_9, h_8, e_7, hf⟩ := ob_s hf
    refine V_cvi (As := [.int 0]) (rest := []) (cr_X8_readSum 12 (d := d) (Nat.le_trans (Nat.le_of_ble_eq_true rfl) hd) e_7 t_k0) ML_X8_50 MV_X8_readSum rfl t_k0 rfl rfl (Nat.le_of_ble_eq_true rfl) dX8_readAnswer_22 ?_
    obtain ⟨b_10, hf⟩ := og_s hf
    exact V_zret rfl b_10 (so_s hf) dX8_readAnswer_25
  · have hf := it_s c_4 hf
    refine V_iconst (v := 0) dX8_readAnswer_12 (by decide) ?_
    exact V_zret rfl (by decide) (so_s hf) dX8_readAnswer_13
theorem dX8_readClause_0 : decode cX8_readClause 0 = .ok (.aload_n 0, 1) := by decide +kernel
theorem dX8_readClause_1 : decode cX8_readClause 1 = .ok (.getfield 15, 3) := by decide +kernel
theorem dX8_readClause_4 : decode cX8_readClause 4 = .ok (.bipush 121, 2) := by decide +kernel
theorem dX8_readClause_6 : decode cX8_readClause 6 = .ok (.invokevirtual 36, 3) := by decide +kernel
theorem dX8_readClause_9 : decode cX8_readClause 9 = .ok (.ifCond .eq 15, 3) := by decide +kernel
theorem dX8_readClause_12 : decode cX8_readClause 12 = .ok (.aload_n 0, 1) := by decide +kernel
theorem dX8_readClause_13 : decode cX8_readClause 13 = .ok (.getfield 15, 3) := by decide +kernel
theorem dX8_readClause_16 : decode cX8_readClause 16 = .ok (.bipush 58, 2) := by decide +kernel
theorem dX8_readClause_18 : decode cX8_readClause 18 = .ok (.invokevirtual 36, 3) := by decide +kernel
theorem dX8_readClause_21 : decode cX8_readClause 21 = .ok (.ifCond .ne 5, 3) := by decide +kernel
theorem dX8_readClause_24 : decode cX8_readClause 24 = .ok (.iconst 0, 1) := by decide +kernel
theorem dX8_readClause_25 : decode cX8_readClause 25 = .ok (.ireturn, 1) := by decide +kernel
theorem dX8_readClause_26 : decode cX8_readClause 26 = .ok (.aload_n 0, 1) := by decide +kernel
theorem dX8_readClause_27 : decode cX8_readClause 27 = .ok (.getfield 15, 3) := by decide +kernel
theorem dX8_readClause_30 : decode cX8_readClause 30 = .ok (.invokevirtual 40, 3) := by decide +kernel
theorem dX8_readClause_33 : decode cX8_readClause 33 = .ok (.istore_n 1, 1) := by decide +kernel
theorem dX8_readClause_34 : decode cX8_readClause 34 = .ok (.iload_n 1, 1) := by decide +kernel
theorem dX8_readClause_35 : decode cX8_readClause 35 = .ok (.bipush 33, 2) := by decide +kernel
theorem dX8_readClause_37 : decode cX8_readClause 37 = .ok (.if_icmp .eq 9, 3) := by decide +kernel
theorem dX8_readClause_40 : decode cX8_readClause 40 = .ok (.iload_n 1, 1) := by decide +kernel
theorem dX8_readClause_41 : decode cX8_readClause 41 = .ok (.bipush 40, 2) := by decide +kernel
theorem dX8_readClause_43 : decode cX8_readClause 43 = .ok (.if_icmp .ne 24, 3) := by decide +kernel
theorem dX8_readClause_46 : decode cX8_readClause 46 = .ok (.aload_n 0, 1) := by decide +kernel
theorem dX8_readClause_47 : decode cX8_readClause 47 = .ok (.iconst 0, 1) := by decide +kernel
theorem dX8_readClause_48 : decode cX8_readClause 48 = .ok (.invokevirtual 44, 3) := by decide +kernel
theorem dX8_readClause_51 : decode cX8_readClause 51 = .ok (.ifCond .eq 14, 3) := by decide +kernel
theorem dX8_readClause_54 : decode cX8_readClause 54 = .ok (.aload_n 0, 1) := by decide +kernel
theorem dX8_readClause_55 : decode cX8_readClause 55 = .ok (.invokevirtual 47, 3) := by decide +kernel
theorem dX8_readClause_58 : decode cX8_readClause 58 = .ok (.ifCond .eq 7, 3) := by decide +kernel
theorem dX8_readClause_61 : decode cX8_readClause 61 = .ok (.iconst 1, 1) := by decide +kernel
theorem dX8_readClause_62 : decode cX8_readClause 62 = .ok (.goto 4, 3) := by decide +kernel
theorem dX8_readClause_65 : decode cX8_readClause 65 = .ok (.iconst 0, 1) := by decide +kernel
theorem dX8_readClause_66 : decode cX8_readClause 66 = .ok (.ireturn, 1) := by decide +kernel
theorem dX8_readClause_67 : decode cX8_readClause 67 = .ok (.aload_n 0, 1) := by decide +kernel
theorem dX8_readClause_68 : decode cX8_readClause 68 = .ok (.iconst 0, 1) := by decide +kernel
theorem dX8_readClause_69 : decode cX8_readClause 69 = .ok (.invokevirtual 50, 3) := by decide +kernel
theorem dX8_readClause_72 : decode cX8_readClause 72 = .ok (.ifCond .ne 5, 3) := by decide +kernel
theorem dX8_readClause_75 : decode cX8_readClause 75 = .ok (.iconst 0, 1) := by decide +kernel
theorem dX8_readClause_76 : decode cX8_readClause 76 = .ok (.ireturn, 1) := by decide +kernel
theorem dX8_readClause_77 : decode cX8_readClause 77 = .ok (.aload_n 0, 1) := by decide +kernel
theorem dX8_readClause_78 : decode cX8_readClause 78 = .ok (.getfield 15, 3) := by decide +kernel
theorem dX8_readClause_81 : decode cX8_readClause 81 = .ok (.invokevirtual 40, 3) := by decide +kernel
theorem dX8_readClause_84 : decode cX8_readClause 84 = .ok (.invokestatic 53, 3) := by decide +kernel
theorem dX8_readClause_87 : decode cX8_readClause 87 = .ok (.ifCond .ne 5, 3) := by decide +kernel
theorem dX8_readClause_90 : decode cX8_readClause 90 = .ok (.iconst 1, 1) := by decide +kernel
theorem dX8_readClause_91 : decode cX8_readClause 91 = .ok (.ireturn, 1) := by decide +kernel
theorem dX8_readClause_92 : decode cX8_readClause 92 = .ok (.aload_n 0, 1) := by decide +kernel
theorem dX8_readClause_93 : decode cX8_readClause 93 = .ok (.iconst 0, 1) := by decide +kernel
theorem dX8_readClause_94 : decode cX8_readClause 94 = .ok (.invokevirtual 56, 3) := by decide +kernel
theorem dX8_readClause_97 : decode cX8_readClause 97 = .ok (.ifCond .eq 30, 3) := by decide +kernel
theorem dX8_readClause_100 : decode cX8_readClause 100 = .ok (.aload_n 0, 1) := by decide +kernel
theorem dX8_readClause_101 : decode cX8_readClause 101 = .ok (.iconst 0, 1) := by decide +kernel
theorem dX8_readClause_102 : decode cX8_readClause 102 = .ok (.invokevirtual 59, 3) := by decide +kernel
theorem dX8_readClause_105 : decode cX8_readClause 105 = .ok (.ifCond .eq 22, 3) := by decide +kernel
theorem dX8_readClause_108 : decode cX8_readClause 108 = .ok (.aload_n 0, 1) := by decide +kernel
theorem dX8_readClause_109 : decode cX8_readClause 109 = .ok (.iconst 0, 1) := by decide +kernel
theorem dX8_readClause_110 : decode cX8_readClause 110 = .ok (.invokevirtual 62, 3) := by decide +kernel
theorem dX8_readClause_113 : decode cX8_readClause 113 = .ok (.ifCond .eq 14, 3) := by decide +kernel
theorem dX8_readClause_116 : decode cX8_readClause 116 = .ok (.aload_n 0, 1) := by decide +kernel
theorem dX8_readClause_117 : decode cX8_readClause 117 = .ok (.invokevirtual 47, 3) := by decide +kernel
theorem dX8_readClause_120 : decode cX8_readClause 120 = .ok (.ifCond .eq 7, 3) := by decide +kernel
theorem dX8_readClause_123 : decode cX8_readClause 123 = .ok (.iconst 1, 1) := by decide +kernel
theorem dX8_readClause_124 : decode cX8_readClause 124 = .ok (.goto 4, 3) := by decide +kernel
theorem dX8_readClause_127 : decode cX8_readClause 127 = .ok (.iconst 0, 1) := by decide +kernel
theorem dX8_readClause_128 : decode cX8_readClause 128 = .ok (.ireturn, 1) := by decide +kernel
theorem ML_X8_47 : MLk RX8 47 yX8_readAnswer := Or.inl ml_X8_47
theorem MV_X8_readAnswer : MVk K_X8_readAnswer 0 8 := ⟨⟨cd_X8_readAnswer, in_X8, ⟨by decide, by decide, by decide +kernel⟩, by decide⟩, im_X8_readAnswer, se_X8_readAnswer, _, _, rfl⟩
def f_X8_readClause_24  (h : AH) : Option (Int32 × AH) :=
  some (0, h)
def f_X8_readClause_66 (s0 : Int32) (h : AH) : Option (Int32 × AH) :=
  og (bz s0) <|
  some (s0, h)
def f_X8_readClause_65  (h : AH) : Option (Int32 × AH) :=
  f_X8_readClause_66 0 h
def f_X8_readClause_46 (k0 : Nat) (h : AH) : Option (Int32 × AH) :=
  ob (f_X8_readCondition (r_X8_readUnit 12) k0 0 h) fun r_3 h_2 =>
  if r_3 = 0 then (
    f_X8_readClause_65 h_2
  ) else (
    ob (f_X8_readAnswer k0 h_2) fun r_7 h_6 =>
    if r_7 = 0 then (
      f_X8_readClause_65 h_6
    ) else (
      f_X8_readClause_66 1 h_6
    )
  )
def f_X8_readClause_128 (s0 : Int32) (h : AH) : Option (Int32 × AH) :=
  og (bz s0) <|
  some (s0, h)
def f_X8_readClause_127  (h : AH) : Option (Int32 × AH) :=
  f_X8_readClause_128 0 h
def f_X8_readClause (k0 : Nat) (h : AH) : Option (Int32 × AH) :=
  ob (f_X10_pass (rf k0 0) 121 h) fun r_3 h_2 =>
  if r_3 = 0 then (
    f_X8_readClause_24 h_2
  ) else (
    ob (f_X10_pass (rf k0 0) 58 h_2) fun r_7 h_6 =>
    if r_7 = 0 then (
      f_X8_readClause_24 h_6
    ) else (
      ob (f_X10_next (rf k0 0) h_6) fun r_11 h_10 =>
      if r_11 = 33 then (
        f_X8_readClause_46 k0 h_10
      ) else (
        if r_11 = 40 then (
          f_X8_readClause_46 k0 h_10
        ) else (
          ob (r_X8_readSum 12 k0 0 h_10) fun r_16 h_15 =>
          if r_16 = 0 then (
            some (0, h_15)
          ) else (
            ob (f_X10_next (rf k0 0) h_15) fun r_20 h_19 =>
            ob (f_X8_isRelation r_20 h_19) fun r_23 h_22 =>
            if r_23 = 0 then (
              some (1, h_22)
            ) else (
              ob (f_X8_readRelation k0 0 h_22) fun r_27 h_26 =>
              if r_27 = 0 then (
                f_X8_readClause_127 h_26
              ) else (
                ob (f_X8_readMoreUnits (r_X8_readUnit 12) k0 0 h_26) fun r_31 h_30 =>
                if r_31 = 0 then (
                  f_X8_readClause_127 h_30
                ) else (
                  ob (f_X8_readMoreTruths (r_X8_readUnit 12) k0 0 h_30) fun r_35 h_34 =>
                  if r_35 = 0 then (
                    f_X8_readClause_127 h_34
                  ) else (
                    ob (f_X8_readAnswer k0 h_34) fun r_39 h_38 =>
                    if r_39 = 0 then (
                      f_X8_readClause_127 h_38
                    ) else (
                      f_X8_readClause_128 1 h_38
                    )
                  )
                )
              )
            )
          )
        )
      )
    )
  )
set_option maxHeartbeats 4000000 in
set_option maxRecDepth 100000 in
theorem v_X8_readClause_24 {E : EV} {d : Nat} (hd : 1326 ≤ d) {r0 : Int32} {h0 : AH}  {h : AH} (hf : f_X8_readClause_24 h = some (r0, h0)) : V E (d + 1) K_X8_readClause (ZI E r0 h0) h [] [] 24 := by
  unfold f_X8_readClause_24 at hf
  refine V_iconst (v := 0) dX8_readClause_24 (by decide) ?_
  exact V_zret rfl (by decide) (so_s hf) dX8_readClause_25
set_option maxHeartbeats 4000000 in
set_option maxRecDepth 100000 in
theorem v_X8_readClause_66 {E : EV} {d : Nat} (hd : 1326 ≤ d) {r0 : Int32} {h0 : AH} {s0 : Int32} {h : AH} (hf : f_X8_readClause_66 s0 h = some (r0, h0)) : V E (d + 1) K_X8_readClause (ZI E r0 h0) h [] [.int s0] 66 := by
  unfold f_X8_readClause_66 at hf
  obtain ⟨b_1, hf⟩ := og_s hf
  exact V_zret rfl b_1 (so_s hf) dX8_readClause_66
set_option maxHeartbeats 4000000 in
set_option maxRecDepth 100000 in
theorem v_X8_readClause_65 {E : EV} {d : Nat} (hd : 1326 ≤ d) {r0 : Int32} {h0 : AH}  {h : AH} (hf : f_X8_readClause_65 h = some (r0, h0)) : V E (d + 1) K_X8_readClause (ZI E r0 h0) h [] [] 65 := by
  unfold f_X8_readClause_65 at hf
  refine V_iconst (v := 0) dX8_readClause_65 (by decide) ?_
  exact v_X8_readClause_66 hd hf
set_option maxHeartbeats 4000000 in
set_option maxRecDepth 100000 in
theorem v_X8_readClause_46 {E : EV} {d : Nat} (hd : 1326 ≤ d) {r0 : Int32} {h0 : AH} {k0 : Nat} {h : AH} (hf : f_X8_readClause_46 k0 h = some (r0, h0)) (t_k0 : kd k0 = (0, 8)) : V E (d + 1) K_X8_readClause (ZI E r0 h0) h [(0, .ref k0)] [] 46 := by
  unfold f_X8_readClause_46 at hf
  refine V_aload_n 0 dX8_readClause_46 rfl rfl ?_
  refine V_iconst (v := 0) dX8_readClause_47 (by decide) ?_
  obtain ⟨r_3, h_2, e_1, hf⟩ := ob_s hf
  refine V_cvi (As := [.int 0]) (rest := []) (c_X8_readCondition (d := d) (dc := 12 * 110) (cr_X8_readUnit 12) (Nat.le_trans (Nat.le_of_ble_eq_true rfl) hd) e_1 t_k0) ML_X8_44 MV_X8_readCondition rfl t_k0 rfl rfl (Nat.le_of_ble_eq_true rfl) dX8_readClause_48 ?_
  refine V_if_eq (tgt := 65) dX8_readClause_51 (by decide) (fun c_4 => ?_) (fun c_4 => ?_)
  · have hf := it_s c_4 hf
    refine V_sub [] rfl ?_
    exact v_X8_readClause_65 hd hf
  · have hf := if_s c_4 hf
    refine V_aload_n 0 dX8_readClause_54 rfl rfl ?_
    obtain ⟨r_7, h_6, e_5, hf⟩ := ob_s hf
    refine V_cvi (As := []) (rest := []) (c_X8_readAnswer (d := d) (Nat.le_trans (Nat.le_of_ble_eq_true rfl) hd) e_5 t_k0) ML_X8_47 MV_X8_readAnswer rfl t_k0 rfl rfl (Nat.le_of_ble_eq_true rfl) dX8_readClause_55 ?_
    refine V_if_eq (tgt := 65) dX8_readClause_58 (by decide) (fun c_8 => ?_) (fun c_8 => ?_)
    · have hf := it_s c_8 hf
      refine V_sub [] rfl ?_
      exact v_X8_readClause_65 hd hf
    · have hf := if_s c_8 hf
      refine V_iconst (v := 1) dX8_readClause_61 (by decide) ?_
      refine V_goto (tgt := 66) dX8_readClause_62 (by decide) ?_
      refine V_sub [] rfl ?_
      exact v_X8_readClause_66 hd hf
set_option maxHeartbeats 4000000 in
set_option maxRecDepth 100000 in
theorem v_X8_readClause_128 {E : EV} {d : Nat} (hd : 1326 ≤ d) {r0 : Int32} {h0 : AH} {s0 : Int32} {h : AH} (hf : f_X8_readClause_128 s0 h = some (r0, h0)) : V E (d + 1) K_X8_readClause (ZI E r0 h0) h [] [.int s0] 128 := by
  unfold f_X8_readClause_128 at hf
  obtain ⟨b_1, hf⟩ := og_s hf
  exact V_zret rfl b_1 (so_s hf) dX8_readClause_128
set_option maxHeartbeats 4000000 in
set_option maxRecDepth 100000 in
theorem v_X8_readClause_127 {E : EV} {d : Nat} (hd : 1326 ≤ d) {r0 : Int32} {h0 : AH}  {h : AH} (hf : f_X8_readClause_127 h = some (r0, h0)) : V E (d + 1) K_X8_readClause (ZI E r0 h0) h [] [] 127 := by
  unfold f_X8_readClause_127 at hf
  refine V_iconst (v := 0) dX8_readClause_127 (by decide) ?_
  exact v_X8_readClause_128 hd hf
set_option maxHeartbeats 4000000 in
set_option maxRecDepth 100000 in
theorem c_X8_readClause {E : EV} {d : Nat} (hd : 1326 + 1 ≤ d) {k0 : Nat} {h : AH} {r0 : Int32} {h0 : AH} (hf : f_X8_readClause k0 h = some (r0, h0)) (t_k0 : kd k0 = (0, 8)) : Con E d K_X8_readClause (ZI E r0 h0) [.ref k0] h := by
  obtain ⟨d, rfl⟩ : ∃ d', d = d' + 1 := ⟨d - 1, by omega⟩
  have hd := Nat.le_of_succ_le_succ hd
  refine Con.ofV rfl (Nat.le_of_ble_eq_true rfl) ?_
  unfold f_X8_readClause at hf
  show V E (d + 1) K_X8_readClause (ZI E r0 h0) h [(0, .ref k0)] [] 0
  refine V_aload_n 0 dX8_readClause_0 rfl rfl ?_
  refine V_getR F_X8_15 rfl t_k0 rfl dX8_readClause_1 ?_
  refine V_bipush (v := 121) dX8_readClause_4 (by decide) ?_
  obtain ⟨r_3, h_2, e_1, hf⟩ := ob_s hf
  refine V_cvi (As := [.int 121]) (rest := []) (c_X10_pass (d := d) (Nat.le_trans (Nat.le_of_ble_eq_true rfl) hd) e_1 (rfO t_k0 (Nat.le_of_ble_eq_true rfl) rfl rfl)) ML_X8_36 MV_X10_pass rfl (rfO t_k0 (Nat.le_of_ble_eq_true rfl) rfl rfl) rfl rfl (Nat.le_of_ble_eq_true rfl) dX8_readClause_6 ?_
  refine V_if_eq (tgt := 24) dX8_readClause_9 (by decide) (fun c_4 => ?_) (fun c_4 => ?_)
  · have hf := it_s c_4 hf
    refine V_sub [] rfl ?_
    exact v_X8_readClause_24 hd hf
  · have hf := if_s c_4 hf
    refine V_aload_n 0 dX8_readClause_12 rfl rfl ?_
    refine V_getR F_X8_15 rfl t_k0 rfl dX8_readClause_13 ?_
    refine V_bipush (v := 58) dX8_readClause_16 (by decide) ?_
    obtain ⟨r_7, h_6, e_5, hf⟩ := ob_s hf
    refine V_cvi (As := [.int 58]) (rest := []) (c_X10_pass (d := d) (Nat.le_trans (Nat.le_of_ble_eq_true rfl) hd) e_5 (rfO t_k0 (Nat.le_of_ble_eq_true rfl) rfl rfl)) ML_X8_36 MV_X10_pass rfl (rfO t_k0 (Nat.le_of_ble_eq_true rfl) rfl rfl) rfl rfl (Nat.le_of_ble_eq_true rfl) dX8_readClause_18 ?_
    refine V_if_ne (tgt := 26) dX8_readClause_21 (by decide) (fun c_8 => ?_) (fun c_8 => ?_)
    · have hf := if_s c_8 hf
      refine V_aload_n 0 dX8_readClause_26 rfl rfl ?_
      refine V_getR F_X8_15 rfl t_k0 rfl dX8_readClause_27 ?_
      obtain ⟨r_11, h_10, e_9, hf⟩ := ob_s hf
      refine V_cvi (As := []) (rest := []) (c_X10_next (d := d) (Nat.le_trans (Nat.le_of_ble_eq_true rfl) hd) e_9 (rfO t_k0 (Nat.le_of_ble_eq_true rfl) rfl rfl)) ML_X8_40 MV_X10_next rfl (rfO t_k0 (Nat.le_of_ble_eq_true rfl) rfl rfl) rfl rfl (Nat.le_of_ble_eq_true rfl) dX8_readClause_30 ?_
      refine V_istore_n (L' := [(1, .int r_11), (0, .ref k0)]) dX8_readClause_33 rfl (Nat.le_of_ble_eq_true rfl) rfl rfl ?_
      refine V_iload_n 0 dX8_readClause_34 rfl rfl ?_
      refine V_bipush (v := 33) dX8_readClause_35 (by decide) ?_
      refine V_ic_eq (tgt := 46) dX8_readClause_37 (by decide) (fun c_12 => ?_) (fun c_12 => ?_)
      · have hf := it_s c_12 hf
        refine V_sub [1] rfl ?_
        exact v_X8_readClause_46 hd hf t_k0
      · have hf := if_s c_12 hf
        refine V_iload_n 0 dX8_readClause_40 rfl rfl ?_
        refine V_bipush (v := 40) dX8_readClause_41 (by decide) ?_
        refine V_ic_ne (tgt := 67) dX8_readClause_43 (by decide) (fun c_13 => ?_) (fun c_13 => ?_)
        · have hf := if_s c_13 hf
          refine V_aload_n 1 dX8_readClause_67 rfl rfl ?_
          refine V_iconst (v := 0) dX8_readClause_68 (by decide) ?_
          obtain ⟨r_16, h_15, e_14, hf⟩ := ob_s hf
          refine V_cvi (As := [.int 0]) (rest := []) (cr_X8_readSum 12 (d := d) (Nat.le_trans (Nat.le_of_ble_eq_true rfl) hd) e_14 t_k0) ML_X8_50 MV_X8_readSum rfl t_k0 rfl rfl (Nat.le_of_ble_eq_true rfl) dX8_readClause_69 ?_
          refine V_if_ne (tgt := 77) dX8_readClause_72 (by decide) (fun c_17 => ?_) (fun c_17 => ?_)
          · have hf := if_s c_17 hf
            refine V_aload_n 1 dX8_readClause_77 rfl rfl ?_
            refine V_getR F_X8_15 rfl t_k0 rfl dX8_readClause_78 ?_
            obtain ⟨r_20, h_19, e_18, hf⟩ := ob_s hf
            refine V_cvi (As := []) (rest := []) (c_X10_next (d := d) (Nat.le_trans (Nat.le_of_ble_eq_true rfl) hd) e_18 (rfO t_k0 (Nat.le_of_ble_eq_true rfl) rfl rfl)) ML_X8_40 MV_X10_next rfl (rfO t_k0 (Nat.le_of_ble_eq_true rfl) rfl rfl) rfl rfl (Nat.le_of_ble_eq_true rfl) dX8_readClause_81 ?_
            obtain ⟨r_23, h_22, e_21, hf⟩ := ob_s hf
            refine V_csi (As := [.int r_20]) (rest := []) (c_X8_isRelation (d := d) (Nat.le_trans (Nat.le_of_ble_eq_true rfl) hd) e_21) ML_X8_53 MS_X8_isRelation rfl rfl rfl (Nat.le_of_ble_eq_true rfl) dX8_readClause_84 ?_
            refine V_if_ne (tgt := 92) dX8_readClause_87 (by decide) (fun c_24 => ?_) (fun c_24 => ?_)
            · have hf := if_s c_24 hf
              refine V_aload_n 1 dX8_readClause_92 rfl rfl ?_
              refine V_iconst (v := 0) dX8_readClause_93 (by decide) ?_
              obtain ⟨r_27, h_26, e_25, hf⟩ := ob_s hf
              refine V_cvi (As := [.int 0]) (rest := []) (c_X8_readRelation (d := d) (Nat.le_trans (Nat.le_of_ble_eq_true rfl) hd) e_25 t_k0) ML_X8_56 MV_X8_readRelation rfl t_k0 rfl rfl (Nat.le_of_ble_eq_true rfl) dX8_readClause_94 ?_
              refine V_if_eq (tgt := 127) dX8_readClause_97 (by decide) (fun c_28 => ?_) (fun c_28 => ?_)
              · have hf := it_s c_28 hf
                refine V_sub [] rfl ?_
                exact v_X8_readClause_127 hd hf
              · have hf := if_s c_28 hf
                refine V_aload_n 1 dX8_readClause_100 rfl rfl ?_
                refine V_iconst (v := 0) dX8_readClause_101 (by decide) ?_
                obtain ⟨r_31, h_30, e_29, hf⟩ := ob_s hf
                refine V_cvi (As := [.int 0]) (rest := []) (c_X8_readMoreUnits (d := d) (dc := 12 * 110) (cr_X8_readUnit 12) (Nat.le_trans (Nat.le_of_ble_eq_true rfl) hd) e_29 t_k0) ML_X8_59 MV_X8_readMoreUnits rfl t_k0 rfl rfl (Nat.le_of_ble_eq_true rfl) dX8_readClause_102 ?_
                refine V_if_eq (tgt := 127) dX8_readClause_105 (by decide) (fun c_32 => ?_) (fun c_32 => ?_)
                · have hf := it_s c_32 hf
                  refine V_sub [] rfl ?_
                  exact v_X8_readClause_127 hd hf
                · have hf := if_s c_32 hf
                  refine V_aload_n 1 dX8_readClause_108 rfl rfl ?_
                  refine V_iconst (v := 0) dX8_readClause_109 (by decide) ?_
                  obtain ⟨r_35, h_34, e_33, hf⟩ := ob_s hf
                  refine V_cvi (As := [.int 0]) (rest := []) (c_X8_readMoreTruths (d := d) (dc := 12 * 110) (cr_X8_readUnit 12) (Nat.le_trans (Nat.le_of_ble_eq_true rfl) hd) e_33 t_k0) ML_X8_62 MV_X8_readMoreTruths rfl t_k0 rfl rfl (Nat.le_of_ble_eq_true rfl) dX8_readClause_110 ?_
                  refine V_if_eq (tgt := 127) dX8_readClause_113 (by decide) (fun c_36 => ?_) (fun c_36 => ?_)
                  · have hf := it_s c_36 hf
                    refine V_sub [] rfl ?_
                    exact v_X8_readClause_127 hd hf
                  · have hf := if_s c_36 hf
                    refine V_aload_n 1 dX8_readClause_116 rfl rfl ?_
                    obtain ⟨r_39, h_38, e_37, hf⟩ := ob_s hf
                    refine V_cvi (As := []) (rest := []) (c_X8_readAnswer (d := d) (Nat.le_trans (Nat.le_of_ble_eq_true rfl) hd) e_37 t_k0) ML_X8_47 MV_X8_readAnswer rfl t_k0 rfl rfl (Nat.le_of_ble_eq_true rfl) dX8_readClause_117 ?_
                    refine V_if_eq (tgt := 127) dX8_readClause_120 (by decide) (fun c_40 => ?_) (fun c_40 => ?_)
                    · have hf := it_s c_40 hf
                      refine V_sub [] rfl ?_
                      exact v_X8_readClause_127 hd hf
                    · have hf := if_s c_40 hf
                      refine V_iconst (v := 1) dX8_readClause_123 (by decide) ?_
                      refine V_goto (tgt := 128) dX8_readClause_124 (by decide) ?_
                      refine V_sub [] rfl ?_
                      exact v_X8_readClause_128 hd hf
            · have hf := it_s c_24 hf
              refine V_iconst (v := 1) dX8_readClause_90 (by decide) ?_
              exact V_zret rfl (by decide) (so_s hf) dX8_readClause_91
          · have hf := it_s c_17 hf
            refine V_iconst (v := 0) dX8_readClause_75 (by decide) ?_
            exact V_zret rfl (by decide) (so_s hf) dX8_readClause_76
        · have hf := it_s c_13 hf
          refine V_sub [1] rfl ?_
          exact v_X8_readClause_46 hd hf t_k0
    · have hf := it_s c_8 hf
      refine V_sub [] rfl ?_
      exact v_X8_readClause_24 hd hf
theorem dX8_read_0 : decode cX8_read 0 = .ok (.aload_n 0, 1) := by decide +kernel
theorem dX8_read_1 : decode cX8_read 1 = .ok (.getfield 15, 3) := by decide +kernel
theorem dX8_read_4 : decode cX8_read 4 = .ok (.iconst 0, 1) := by decide +kernel
theorem dX8_read_5 : decode cX8_read 5 = .ok (.putfield 19, 3) := by decide +kernel
theorem dX8_read_8 : decode cX8_read 8 = .ok (.aload_n 0, 1) := by decide +kernel
theorem dX8_read_9 : decode cX8_read 9 = .ok (.iconst 0, 1) := by decide +kernel
theorem dX8_read_10 : decode cX8_read 10 = .ok (.putfield 25, 3) := by decide +kernel
theorem dX8_read_13 : decode cX8_read 13 = .ok (.iconst 0, 1) := by decide +kernel
theorem dX8_read_14 : decode cX8_read 14 = .ok (.istore_n 1, 1) := by decide +kernel
theorem dX8_read_15 : decode cX8_read 15 = .ok (.iload_n 1, 1) := by decide +kernel
theorem dX8_read_16 : decode cX8_read 16 = .ok (.sipush 160, 3) := by decide +kernel
theorem dX8_read_19 : decode cX8_read 19 = .ok (.if_icmp .ge 65, 3) := by decide +kernel
theorem dX8_read_22 : decode cX8_read 22 = .ok (.aload_n 0, 1) := by decide +kernel
theorem dX8_read_23 : decode cX8_read 23 = .ok (.invokevirtual 28, 3) := by decide +kernel
theorem dX8_read_26 : decode cX8_read 26 = .ok (.ifCond .ne 11, 3) := by decide +kernel
theorem dX8_read_29 : decode cX8_read 29 = .ok (.aload_n 0, 1) := by decide +kernel
theorem dX8_read_30 : decode cX8_read 30 = .ok (.getfield 15, 3) := by decide +kernel
theorem dX8_read_33 : decode cX8_read 33 = .ok (.getfield 19, 3) := by decide +kernel
theorem dX8_read_36 : decode cX8_read 36 = .ok (.ireturn, 1) := by decide +kernel
theorem dX8_read_37 : decode cX8_read 37 = .ok (.aload_n 0, 1) := by decide +kernel
theorem dX8_read_38 : decode cX8_read 38 = .ok (.bipush (-59), 2) := by decide +kernel
theorem dX8_read_40 : decode cX8_read 40 = .ok (.invokevirtual 32, 3) := by decide +kernel
theorem dX8_read_43 : decode cX8_read 43 = .ok (.aload_n 0, 1) := by decide +kernel
theorem dX8_read_44 : decode cX8_read 44 = .ok (.getfield 15, 3) := by decide +kernel
theorem dX8_read_47 : decode cX8_read 47 = .ok (.bipush 59, 2) := by decide +kernel
theorem dX8_read_49 : decode cX8_read 49 = .ok (.invokevirtual 36, 3) := by decide +kernel
theorem dX8_read_52 : decode cX8_read 52 = .ok (.ifCond .ne 26, 3) := by decide +kernel
theorem dX8_read_55 : decode cX8_read 55 = .ok (.aload_n 0, 1) := by decide +kernel
theorem dX8_read_56 : decode cX8_read 56 = .ok (.getfield 15, 3) := by decide +kernel
theorem dX8_read_59 : decode cX8_read 59 = .ok (.invokevirtual 40, 3) := by decide +kernel
theorem dX8_read_62 : decode cX8_read 62 = .ok (.iconst (-1), 1) := by decide +kernel
theorem dX8_read_63 : decode cX8_read 63 = .ok (.if_icmp .ne 7, 3) := by decide +kernel
theorem dX8_read_66 : decode cX8_read 66 = .ok (.iconst (-1), 1) := by decide +kernel
theorem dX8_read_67 : decode cX8_read 67 = .ok (.goto 10, 3) := by decide +kernel
theorem dX8_read_70 : decode cX8_read 70 = .ok (.aload_n 0, 1) := by decide +kernel
theorem dX8_read_71 : decode cX8_read 71 = .ok (.getfield 15, 3) := by decide +kernel
theorem dX8_read_74 : decode cX8_read 74 = .ok (.getfield 19, 3) := by decide +kernel
theorem dX8_read_77 : decode cX8_read 77 = .ok (.ireturn, 1) := by decide +kernel
theorem dX8_read_78 : decode cX8_read 78 = .ok (.iinc 1 1, 3) := by decide +kernel
theorem dX8_read_81 : decode cX8_read 81 = .ok (.goto (-66), 3) := by decide +kernel
theorem dX8_read_84 : decode cX8_read 84 = .ok (.aload_n 0, 1) := by decide +kernel
theorem dX8_read_85 : decode cX8_read 85 = .ok (.getfield 15, 3) := by decide +kernel
theorem dX8_read_88 : decode cX8_read 88 = .ok (.getfield 19, 3) := by decide +kernel
theorem dX8_read_91 : decode cX8_read 91 = .ok (.ireturn, 1) := by decide +kernel
theorem ML_X8_28 : MLk RX8 28 yX8_readClause := Or.inl ml_X8_28
theorem MV_X8_readClause : MVk K_X8_readClause 0 8 := ⟨⟨cd_X8_readClause, in_X8, ⟨by decide, by decide, by decide +kernel⟩, by decide⟩, im_X8_readClause, se_X8_readClause, _, _, rfl⟩
def f_X8_read_77 (s0 : Int32) (h : AH) : Option (Int32 × AH) :=
  some (s0, h)
def f_X8_read_15 : Nat → Nat → Int32 → AH → Option (Int32 × AH)
  | 0, _, _, _ => none
  | n + 1, k0, x1, h =>
    if 160 ≤ x1 then (
      some ((h.1 (rf k0 0) 2), h)
    ) else (
      ob (f_X8_readClause k0 h) fun r_4 h_3 =>
      if r_4 = 0 then (
        some ((h_3.1 (rf k0 0) 2), h_3)
      ) else (
        ov (f_X8_write k0 (-59) h_3) fun h_7 =>
        ob (f_X10_pass (rf k0 0) 59 h_7) fun r_10 h_9 =>
        if r_10 = 0 then (
          ob (f_X10_next (rf k0 0) h_9) fun r_16 h_15 =>
          if r_16 = (-1) then (
            f_X8_read_77 (-1) h_15
          ) else (
            f_X8_read_77 (h_15.1 (rf k0 0) 2) h_15
          )
        ) else (
          nm (x1 + 1) fun x1_12 =>
          f_X8_read_15 n k0 x1_12 h_9
        )
      )
    )
def f_X8_read (k0 : Nat) (h : AH) : Option (Int32 × AH) :=
  nm (sI h (rf k0 0) 2 0) fun h_1 =>
  nm (sI h_1 k0 2 0) fun h_3 =>
  f_X8_read_15 FU k0 0 h_3
set_option maxHeartbeats 4000000 in
set_option maxRecDepth 100000 in
theorem v_X8_read_77 {E : EV} {d : Nat} (hd : 1327 ≤ d) {r0 : Int32} {h0 : AH} {s0 : Int32} {h : AH} (hf : f_X8_read_77 s0 h = some (r0, h0)) : V E (d + 1) K_X8_read (ZI E r0 h0) h [] [.int s0] 77 := by
  unfold f_X8_read_77 at hf
  exact V_iret rfl (so_s hf) dX8_read_77
set_option maxHeartbeats 4000000 in
set_option maxRecDepth 100000 in
theorem v_X8_read_15 {E : EV} {d : Nat} (hd : 1327 ≤ d) {r0 : Int32} {h0 : AH} : ∀ (n : Nat) (k0 : Nat) (x1 : Int32) (h : AH), f_X8_read_15 n k0 x1 h = some (r0, h0) → kd k0 = (0, 8) → V E (d + 1) K_X8_read (ZI E r0 h0) h [(0, .ref k0), (1, .int x1)] [] 15 := by
  intro n
  induction n with
  | zero =>
    intro k0 x1 h hf
    rw [f_X8_read_15] at hf
    cases hf
  | succ n ih =>
    intro k0 x1 h hf t_k0
    rw [f_X8_read_15] at hf
    refine V_iload_n 1 dX8_read_15 rfl rfl ?_
    refine V_sipush (v := 160) dX8_read_16 (by decide) ?_
    refine V_ic_ge (tgt := 84) dX8_read_19 (by decide) (fun c_1 => ?_) (fun c_1 => ?_)
    · have hf := it_s c_1 hf
      refine V_aload_n 0 dX8_read_84 rfl rfl ?_
      refine V_getR F_X8_15 rfl t_k0 rfl dX8_read_85 ?_
      refine V_getI F_X8_19 rfl (rfO t_k0 (Nat.le_of_ble_eq_true rfl) rfl rfl) rfl dX8_read_88 ?_
      exact V_iret rfl (so_s hf) dX8_read_91
    · have hf := if_s c_1 hf
      refine V_aload_n 0 dX8_read_22 rfl rfl ?_
      obtain ⟨r_4, h_3, e_2, hf⟩ := ob_s hf
      refine V_cvi (As := []) (rest := []) (c_X8_readClause (d := d) (Nat.le_trans (Nat.le_of_ble_eq_true rfl) hd) e_2 t_k0) ML_X8_28 MV_X8_readClause rfl t_k0 rfl rfl (Nat.le_of_ble_eq_true rfl) dX8_read_23 ?_
      refine V_if_ne (tgt := 37) dX8_read_26 (by decide) (fun c_5 => ?_) (fun c_5 => ?_)
      · have hf := if_s c_5 hf
        refine V_aload_n 0 dX8_read_37 rfl rfl ?_
        refine V_bipush (v := (-59)) dX8_read_38 (by decide) ?_
        obtain ⟨h_7, e_6, hf⟩ := ov_s hf
        refine V_cvv (As := [.int (-59)]) (rest := []) (c_X8_write (d := d) (Nat.le_trans (Nat.le_of_ble_eq_true rfl) hd) e_6 t_k0) ML_X8_32 MV_X8_write rfl t_k0 rfl rfl (Nat.le_of_ble_eq_true rfl) dX8_read_40 ?_
        refine V_aload_n 0 dX8_read_43 rfl rfl ?_
        refine V_getR F_X8_15 rfl t_k0 rfl dX8_read_44 ?_
        refine V_bipush (v := 59) dX8_read_47 (by decide) ?_
        obtain ⟨r_10, h_9, e_8, hf⟩ := ob_s hf
        refine V_cvi (As := [.int 59]) (rest := []) (c_X10_pass (d := d) (Nat.le_trans (Nat.le_of_ble_eq_true rfl) hd) e_8 (rfO t_k0 (Nat.le_of_ble_eq_true rfl) rfl rfl)) ML_X8_36 MV_X10_pass rfl (rfO t_k0 (Nat.le_of_ble_eq_true rfl) rfl rfl) rfl rfl (Nat.le_of_ble_eq_true rfl) dX8_read_49 ?_
        refine V_if_ne (tgt := 78) dX8_read_52 (by decide) (fun c_11 => ?_) (fun c_11 => ?_)
        · have hf := if_s c_11 hf
          obtain ⟨x1_12, e_13, hf⟩ := nm_s hf
          refine V_iinc (a := 1) (L' := [(1, .int x1_12), (0, .ref k0)]) 1 dX8_read_78 rfl (by decide) (Nat.le_of_ble_eq_true rfl) e_13 rfl ?_
          refine V_goto (tgt := 15) dX8_read_81 (by decide) ?_
          refine V_sub [1, 0] rfl ?_
          exact ih _ _ _ hf t_k0
        · have hf := it_s c_11 hf
          refine V_aload_n 0 dX8_read_55 rfl rfl ?_
          refine V_getR F_X8_15 rfl t_k0 rfl dX8_read_56 ?_
          obtain ⟨r_16, h_15, e_14, hf⟩ := ob_s hf
          refine V_cvi (As := []) (rest := []) (c_X10_next (d := d) (Nat.le_trans (Nat.le_of_ble_eq_true rfl) hd) e_14 (rfO t_k0 (Nat.le_of_ble_eq_true rfl) rfl rfl)) ML_X8_40 MV_X10_next rfl (rfO t_k0 (Nat.le_of_ble_eq_true rfl) rfl rfl) rfl rfl (Nat.le_of_ble_eq_true rfl) dX8_read_59 ?_
          refine V_iconst (v := (-1)) dX8_read_62 (by decide) ?_
          refine V_ic_ne (tgt := 70) dX8_read_63 (by decide) (fun c_17 => ?_) (fun c_17 => ?_)
          · have hf := if_s c_17 hf
            refine V_aload_n 0 dX8_read_70 rfl rfl ?_
            refine V_getR F_X8_15 rfl t_k0 rfl dX8_read_71 ?_
            refine V_getI F_X8_19 rfl (rfO t_k0 (Nat.le_of_ble_eq_true rfl) rfl rfl) rfl dX8_read_74 ?_
            refine V_sub [] rfl ?_
            exact v_X8_read_77 hd hf
          · have hf := it_s c_17 hf
            refine V_iconst (v := (-1)) dX8_read_66 (by decide) ?_
            refine V_goto (tgt := 77) dX8_read_67 (by decide) ?_
            refine V_sub [] rfl ?_
            exact v_X8_read_77 hd hf
      · have hf := it_s c_5 hf
        refine V_aload_n 0 dX8_read_29 rfl rfl ?_
        refine V_getR F_X8_15 rfl t_k0 rfl dX8_read_30 ?_
        refine V_getI F_X8_19 rfl (rfO t_k0 (Nat.le_of_ble_eq_true rfl) rfl rfl) rfl dX8_read_33 ?_
        exact V_iret rfl (so_s hf) dX8_read_36
set_option maxHeartbeats 4000000 in
set_option maxRecDepth 100000 in
theorem c_X8_read {E : EV} {d : Nat} (hd : 1327 + 1 ≤ d) {k0 : Nat} {h : AH} {r0 : Int32} {h0 : AH} (hf : f_X8_read k0 h = some (r0, h0)) (t_k0 : kd k0 = (0, 8)) : Con E d K_X8_read (ZI E r0 h0) [.ref k0] h := by
  obtain ⟨d, rfl⟩ : ∃ d', d = d' + 1 := ⟨d - 1, by omega⟩
  have hd := Nat.le_of_succ_le_succ hd
  refine Con.ofV rfl (Nat.le_of_ble_eq_true rfl) ?_
  unfold f_X8_read at hf
  show V E (d + 1) K_X8_read (ZI E r0 h0) h [(0, .ref k0)] [] 0
  refine V_aload_n 0 dX8_read_0 rfl rfl ?_
  refine V_getR F_X8_15 rfl t_k0 rfl dX8_read_1 ?_
  refine V_iconst (v := 0) dX8_read_4 (by decide) ?_
  obtain ⟨h_1, e_2, hf⟩ := nm_s hf
  refine V_putI P_X8_19 rfl (rfO t_k0 (Nat.le_of_ble_eq_true rfl) rfl rfl) rfl e_2 dX8_read_5 ?_
  refine V_aload_n 0 dX8_read_8 rfl rfl ?_
  refine V_iconst (v := 0) dX8_read_9 (by decide) ?_
  obtain ⟨h_3, e_4, hf⟩ := nm_s hf
  refine V_putI P_X8_25 rfl t_k0 rfl e_4 dX8_read_10 ?_
  refine V_iconst (v := 0) dX8_read_13 (by decide) ?_
  refine V_istore_n (L' := [(1, .int 0), (0, .ref k0)]) dX8_read_14 rfl (Nat.le_of_ble_eq_true rfl) rfl rfl ?_
  refine V_sub [1, 0] rfl ?_
  exact v_X8_read_15 hd FU _ _ _ hf t_k0
theorem dX11_fault_0 : decode cX11_fault 0 = .ok (.iload_n 1, 1) := by decide +kernel
theorem dX11_fault_1 : decode cX11_fault 1 = .ok (.ifCond .ne 15, 3) := by decide +kernel
theorem dX11_fault_4 : decode cX11_fault 4 = .ok (.aload_n 0, 1) := by decide +kernel
theorem dX11_fault_5 : decode cX11_fault 5 = .ok (.getfield 23, 3) := by decide +kernel
theorem dX11_fault_8 : decode cX11_fault 8 = .ok (.aload_n 0, 1) := by decide +kernel
theorem dX11_fault_9 : decode cX11_fault 9 = .ok (.getfield 12, 3) := by decide +kernel
theorem dX11_fault_12 : decode cX11_fault 12 = .ok (.invokevirtual 114, 3) := by decide +kernel
theorem dX11_fault_15 : decode cX11_fault 15 = .ok (.ireturn, 1) := by decide +kernel
theorem dX11_fault_16 : decode cX11_fault 16 = .ok (.iload_n 1, 1) := by decide +kernel
theorem dX11_fault_17 : decode cX11_fault 17 = .ok (.iconst 1, 1) := by decide +kernel
theorem dX11_fault_18 : decode cX11_fault 18 = .ok (.if_icmp .ne 13, 3) := by decide +kernel
theorem dX11_fault_21 : decode cX11_fault 21 = .ok (.aload_n 0, 1) := by decide +kernel
theorem dX11_fault_22 : decode cX11_fault 22 = .ok (.getfield 31, 3) := by decide +kernel
theorem dX11_fault_25 : decode cX11_fault 25 = .ok (.invokevirtual 118, 3) := by decide +kernel
theorem dX11_fault_28 : decode cX11_fault 28 = .ok (.goto 5, 3) := by decide +kernel
theorem dX11_fault_31 : decode cX11_fault 31 = .ok (.bipush (-2), 2) := by decide +kernel
theorem dX11_fault_33 : decode cX11_fault 33 = .ok (.ireturn, 1) := by decide +kernel
theorem F_X11_31 : FLk RX11 31 11 3 := ⟨RX11, TX11, 16, rfl, rfl, iw_X11, by decide, Or.inl fl_X11_31⟩
theorem ML_X11_118 : MLk RX11 118 yX8_read := Or.inl ml_X11_118
theorem MV_X8_read : MVk K_X8_read 0 8 := ⟨⟨cd_X8_read, in_X8, ⟨by decide, by decide, by decide +kernel⟩, by decide⟩, im_X8_read, se_X8_read, _, _, rfl⟩
theorem F_X11_23 : FLk RX11 23 11 2 := ⟨RX11, TX11, 16, rfl, rfl, iw_X11, by decide, Or.inl fl_X11_23⟩
theorem ML_X11_114 : MLk RX11 114 yX6_read := Or.inl ml_X11_114
theorem MV_X6_read : MVk K_X6_read 1 6 := ⟨⟨cd_X6_read, in_X6, ⟨by decide, by decide, by decide +kernel⟩, by decide⟩, im_X6_read, se_X6_read, _, _, rfl⟩
def f_X11_fault_33 (s0 : Int32) (h : AH) : Option (Int32 × AH) :=
  some (s0, h)
def f_X11_fault (k0 : Nat) (x1 : Int32) (h : AH) : Option (Int32 × AH) :=
  if x1 = 0 then (
    ob (f_X6_read (rf k0 2) (rf k0 0) h) fun r_8 h_7 =>
    some (r_8, h_7)
  ) else (
    if x1 = 1 then (
      ob (f_X8_read (rf k0 3) h) fun r_5 h_4 =>
      f_X11_fault_33 r_5 h_4
    ) else (
      f_X11_fault_33 (-2) h
    )
  )
set_option maxHeartbeats 4000000 in
set_option maxRecDepth 100000 in
theorem v_X11_fault_33 {E : EV} {d : Nat} (hd : 1328 ≤ d) {r0 : Int32} {h0 : AH} {s0 : Int32} {h : AH} (hf : f_X11_fault_33 s0 h = some (r0, h0)) : V E (d + 1) K_X11_fault (ZI E r0 h0) h [] [.int s0] 33 := by
  unfold f_X11_fault_33 at hf
  exact V_iret rfl (so_s hf) dX11_fault_33
set_option maxHeartbeats 4000000 in
set_option maxRecDepth 100000 in
theorem c_X11_fault {E : EV} {d : Nat} (hd : 1328 + 1 ≤ d) {k0 : Nat} {x1 : Int32} {h : AH} {r0 : Int32} {h0 : AH} (hf : f_X11_fault k0 x1 h = some (r0, h0)) (t_k0 : kd k0 = (0, 11)) : Con E d K_X11_fault (ZI E r0 h0) [.ref k0, .int x1] h := by
  obtain ⟨d, rfl⟩ : ∃ d', d = d' + 1 := ⟨d - 1, by omega⟩
  have hd := Nat.le_of_succ_le_succ hd
  refine Con.ofV rfl (Nat.le_of_ble_eq_true rfl) ?_
  unfold f_X11_fault at hf
  show V E (d + 1) K_X11_fault (ZI E r0 h0) h [(0, .ref k0), (1, .int x1)] [] 0
  refine V_iload_n 1 dX11_fault_0 rfl rfl ?_
  refine V_if_ne (tgt := 16) dX11_fault_1 (by decide) (fun c_1 => ?_) (fun c_1 => ?_)
  · have hf := if_s c_1 hf
    refine V_iload_n 1 dX11_fault_16 rfl rfl ?_
    refine V_iconst (v := 1) dX11_fault_17 (by decide) ?_
    refine V_ic_ne (tgt := 31) dX11_fault_18 (by decide) (fun c_2 => ?_) (fun c_2 => ?_)
    · have hf := if_s c_2 hf
      refine V_bipush (v := (-2)) dX11_fault_31 (by decide) ?_
      refine V_sub [] rfl ?_
      exact v_X11_fault_33 hd hf
    · have hf := it_s c_2 hf
      refine V_aload_n 0 dX11_fault_21 rfl rfl ?_
      refine V_getR F_X11_31 rfl t_k0 rfl dX11_fault_22 ?_
      obtain ⟨r_5, h_4, e_3, hf⟩ := ob_s hf
      refine V_cvi (As := []) (rest := []) (c_X8_read (d := d) (Nat.le_trans (Nat.le_of_ble_eq_true rfl) hd) e_3 (rfO t_k0 (Nat.le_of_ble_eq_true rfl) rfl rfl)) ML_X11_118 MV_X8_read rfl (rfO t_k0 (Nat.le_of_ble_eq_true rfl) rfl rfl) rfl rfl (Nat.le_of_ble_eq_true rfl) dX11_fault_25 ?_
      refine V_goto (tgt := 33) dX11_fault_28 (by decide) ?_
      refine V_sub [] rfl ?_
      exact v_X11_fault_33 hd hf
  · have hf := it_s c_1 hf
    refine V_aload_n 0 dX11_fault_4 rfl rfl ?_
    refine V_getR F_X11_23 rfl t_k0 rfl dX11_fault_5 ?_
    refine V_aload_n 0 dX11_fault_8 rfl rfl ?_
    refine V_getR F_X11_12 rfl t_k0 rfl dX11_fault_9 ?_
    obtain ⟨r_8, h_7, e_6, hf⟩ := ob_s hf
    refine V_cvi (As := [.ref (rf k0 0)]) (rest := []) (c_X6_read (d := d) (Nat.le_trans (Nat.le_of_ble_eq_true rfl) hd) e_6 (rfO t_k0 (Nat.le_of_ble_eq_true rfl) rfl rfl) (rfO t_k0 (Nat.le_of_ble_eq_true rfl) rfl rfl)) ML_X11_114 MV_X6_read rfl (rfO t_k0 (Nat.le_of_ble_eq_true rfl) rfl rfl) rfl rfl (Nat.le_of_ble_eq_true rfl) dX11_fault_12 ?_
    exact V_iret rfl (so_s hf) dX11_fault_15
theorem dX11_feed_0 : decode cX11_feed 0 = .ok (.iload_n 1, 1) := by decide +kernel
theorem dX11_feed_1 : decode cX11_feed 1 = .ok (.invokestatic 102, 3) := by decide +kernel
theorem dX11_feed_4 : decode cX11_feed 4 = .ok (.iload_n 2, 1) := by decide +kernel
theorem dX11_feed_5 : decode cX11_feed 5 = .ok (.invokestatic 102, 3) := by decide +kernel
theorem dX11_feed_8 : decode cX11_feed 8 = .ok (.iadd, 1) := by decide +kernel
theorem dX11_feed_9 : decode cX11_feed 9 = .ok (.iload_n 3, 1) := by decide +kernel
theorem dX11_feed_10 : decode cX11_feed 10 = .ok (.invokestatic 102, 3) := by decide +kernel
theorem dX11_feed_13 : decode cX11_feed 13 = .ok (.iadd, 1) := by decide +kernel
theorem dX11_feed_14 : decode cX11_feed 14 = .ok (.iload 4, 2) := by decide +kernel
theorem dX11_feed_16 : decode cX11_feed 16 = .ok (.invokestatic 102, 3) := by decide +kernel
theorem dX11_feed_19 : decode cX11_feed 19 = .ok (.iadd, 1) := by decide +kernel
theorem dX11_feed_20 : decode cX11_feed 20 = .ok (.iload 5, 2) := by decide +kernel
theorem dX11_feed_22 : decode cX11_feed 22 = .ok (.invokestatic 102, 3) := by decide +kernel
theorem dX11_feed_25 : decode cX11_feed 25 = .ok (.iadd, 1) := by decide +kernel
theorem dX11_feed_26 : decode cX11_feed 26 = .ok (.istore 6, 2) := by decide +kernel
theorem dX11_feed_28 : decode cX11_feed 28 = .ok (.aload_n 0, 1) := by decide +kernel
theorem dX11_feed_29 : decode cX11_feed 29 = .ok (.getfield 12, 3) := by decide +kernel
theorem dX11_feed_32 : decode cX11_feed 32 = .ok (.getfield 106, 3) := by decide +kernel
theorem dX11_feed_35 : decode cX11_feed 35 = .ok (.iload 6, 2) := by decide +kernel
theorem dX11_feed_37 : decode cX11_feed 37 = .ok (.iadd, 1) := by decide +kernel
theorem dX11_feed_38 : decode cX11_feed 38 = .ok (.sipush 160, 3) := by decide +kernel
theorem dX11_feed_41 : decode cX11_feed 41 = .ok (.if_icmp .le 5, 3) := by decide +kernel
theorem dX11_feed_44 : decode cX11_feed 44 = .ok (.iconst (-1), 1) := by decide +kernel
theorem dX11_feed_45 : decode cX11_feed 45 = .ok (.ireturn, 1) := by decide +kernel
theorem dX11_feed_46 : decode cX11_feed 46 = .ok (.aload_n 0, 1) := by decide +kernel
theorem dX11_feed_47 : decode cX11_feed 47 = .ok (.getfield 12, 3) := by decide +kernel
theorem dX11_feed_50 : decode cX11_feed 50 = .ok (.iload_n 1, 1) := by decide +kernel
theorem dX11_feed_51 : decode cX11_feed 51 = .ok (.invokevirtual 110, 3) := by decide +kernel
theorem dX11_feed_54 : decode cX11_feed 54 = .ok (.aload_n 0, 1) := by decide +kernel
theorem dX11_feed_55 : decode cX11_feed 55 = .ok (.getfield 12, 3) := by decide +kernel
theorem dX11_feed_58 : decode cX11_feed 58 = .ok (.iload_n 2, 1) := by decide +kernel
theorem dX11_feed_59 : decode cX11_feed 59 = .ok (.invokevirtual 110, 3) := by decide +kernel
theorem dX11_feed_62 : decode cX11_feed 62 = .ok (.aload_n 0, 1) := by decide +kernel
theorem dX11_feed_63 : decode cX11_feed 63 = .ok (.getfield 12, 3) := by decide +kernel
theorem dX11_feed_66 : decode cX11_feed 66 = .ok (.iload_n 3, 1) := by decide +kernel
theorem dX11_feed_67 : decode cX11_feed 67 = .ok (.invokevirtual 110, 3) := by decide +kernel
theorem dX11_feed_70 : decode cX11_feed 70 = .ok (.aload_n 0, 1) := by decide +kernel
theorem dX11_feed_71 : decode cX11_feed 71 = .ok (.getfield 12, 3) := by decide +kernel
theorem dX11_feed_74 : decode cX11_feed 74 = .ok (.iload 4, 2) := by decide +kernel
theorem dX11_feed_76 : decode cX11_feed 76 = .ok (.invokevirtual 110, 3) := by decide +kernel
theorem dX11_feed_79 : decode cX11_feed 79 = .ok (.aload_n 0, 1) := by decide +kernel
theorem dX11_feed_80 : decode cX11_feed 80 = .ok (.getfield 12, 3) := by decide +kernel
theorem dX11_feed_83 : decode cX11_feed 83 = .ok (.iload 5, 2) := by decide +kernel
theorem dX11_feed_85 : decode cX11_feed 85 = .ok (.invokevirtual 110, 3) := by decide +kernel
theorem dX11_feed_88 : decode cX11_feed 88 = .ok (.aload_n 0, 1) := by decide +kernel
theorem dX11_feed_89 : decode cX11_feed 89 = .ok (.getfield 12, 3) := by decide +kernel
theorem dX11_feed_92 : decode cX11_feed 92 = .ok (.getfield 106, 3) := by decide +kernel
theorem dX11_feed_95 : decode cX11_feed 95 = .ok (.ireturn, 1) := by decide +kernel
theorem ML_X11_102 : MLk RX11 102 yX10_bytesIn := Or.inl ml_X11_102
theorem MS_X10_bytesIn : MSk K_X10_bytesIn 1 := ⟨⟨cd_X10_bytesIn, in_X10, ⟨by decide, by decide, by decide +kernel⟩, by decide⟩, st_X10_bytesIn⟩
theorem ML_X11_110 : MLk RX11 110 yX10_put := Or.inl ml_X11_110
theorem MV_X10_put : MVk K_X10_put 1 10 := ⟨⟨cd_X10_put, in_X10, ⟨by decide, by decide, by decide +kernel⟩, by decide⟩, im_X10_put, se_X10_put, _, _, rfl⟩
def f_X11_feed (k0 : Nat) (x1 : Int32) (x2 : Int32) (x3 : Int32) (x4 : Int32) (x5 : Int32) (h : AH) : Option (Int32 × AH) :=
  ob (f_X10_bytesIn x1 h) fun r_3 h_2 =>
  ob (f_X10_bytesIn x2 h_2) fun r_6 h_5 =>
  ob (f_X10_bytesIn x3 h_5) fun r_9 h_8 =>
  ob (f_X10_bytesIn x4 h_8) fun r_12 h_11 =>
  ob (f_X10_bytesIn x5 h_11) fun r_15 h_14 =>
  nm (((((r_3 + r_6) + r_9) + r_12) + r_15)) fun x6_16 =>
  if ((h_14.1 (rf k0 0) 1) + x6_16) ≤ 160 then (
    ov (f_X10_put (rf k0 0) x1 h_14) fun h_20 =>
    ov (f_X10_put (rf k0 0) x2 h_20) fun h_22 =>
    ov (f_X10_put (rf k0 0) x3 h_22) fun h_24 =>
    ov (f_X10_put (rf k0 0) x4 h_24) fun h_26 =>
    ov (f_X10_put (rf k0 0) x5 h_26) fun h_28 =>
    some ((h_28.1 (rf k0 0) 1), h_28)
  ) else (
    some ((-1), h_14)
  )
set_option maxHeartbeats 4000000 in
set_option maxRecDepth 100000 in
theorem c_X11_feed {E : EV} {d : Nat} (hd : 1 + 1 ≤ d) {k0 : Nat} {x1 : Int32} {x2 : Int32} {x3 : Int32} {x4 : Int32} {x5 : Int32} {h : AH} {r0 : Int32} {h0 : AH} (hf : f_X11_feed k0 x1 x2 x3 x4 x5 h = some (r0, h0)) (t_k0 : kd k0 = (0, 11)) : Con E d K_X11_feed (ZI E r0 h0) [.ref k0, .int x1, .int x2, .int x3, .int x4, .int x5] h := by
  obtain ⟨d, rfl⟩ : ∃ d', d = d' + 1 := ⟨d - 1, by omega⟩
  have hd := Nat.le_of_succ_le_succ hd
  refine Con.ofV rfl (Nat.le_of_ble_eq_true rfl) ?_
  unfold f_X11_feed at hf
  show V E (d + 1) K_X11_feed (ZI E r0 h0) h [(0, .ref k0), (1, .int x1), (2, .int x2), (3, .int x3), (4, .int x4), (5, .int x5)] [] 0
  refine V_iload_n 1 dX11_feed_0 rfl rfl ?_
  obtain ⟨r_3, h_2, e_1, hf⟩ := ob_s hf
  refine V_csi (As := [.int x1]) (rest := []) (c_X10_bytesIn (d := d) (Nat.le_trans (Nat.le_of_ble_eq_true rfl) hd) e_1) ML_X11_102 MS_X10_bytesIn rfl rfl rfl (Nat.le_of_ble_eq_true rfl) dX11_feed_1 ?_
  refine V_iload_n 2 dX11_feed_4 rfl rfl ?_
  obtain ⟨r_6, h_5, e_4, hf⟩ := ob_s hf
  refine V_csi (As := [.int x2]) (rest := [.int r_3]) (c_X10_bytesIn (d := d) (Nat.le_trans (Nat.le_of_ble_eq_true rfl) hd) e_4) ML_X11_102 MS_X10_bytesIn rfl rfl rfl (Nat.le_of_ble_eq_true rfl) dX11_feed_5 ?_
  refine V_iadd dX11_feed_8 ?_
  refine V_iload_n 3 dX11_feed_9 rfl rfl ?_
  obtain ⟨r_9, h_8, e_7, hf⟩ := ob_s hf
  refine V_csi (As := [.int x3]) (rest := [.int (r_3 + r_6)]) (c_X10_bytesIn (d := d) (Nat.le_trans (Nat.le_of_ble_eq_true rfl) hd) e_7) ML_X11_102 MS_X10_bytesIn rfl rfl rfl (Nat.le_of_ble_eq_true rfl) dX11_feed_10 ?_
  refine V_iadd dX11_feed_13 ?_
  refine V_iload 4 dX11_feed_14 rfl ?_
  obtain ⟨r_12, h_11, e_10, hf⟩ := ob_s hf
  refine V_csi (As := [.int x4]) (rest := [.int ((r_3 + r_6) + r_9)]) (c_X10_bytesIn (d := d) (Nat.le_trans (Nat.le_of_ble_eq_true rfl) hd) e_10) ML_X11_102 MS_X10_bytesIn rfl rfl rfl (Nat.le_of_ble_eq_true rfl) dX11_feed_16 ?_
  refine V_iadd dX11_feed_19 ?_
  refine V_iload 5 dX11_feed_20 rfl ?_
  obtain ⟨r_15, h_14, e_13, hf⟩ := ob_s hf
  refine V_csi (As := [.int x5]) (rest := [.int (((r_3 + r_6) + r_9) + r_12)]) (c_X10_bytesIn (d := d) (Nat.le_trans (Nat.le_of_ble_eq_true rfl) hd) e_13) ML_X11_102 MS_X10_bytesIn rfl rfl rfl (Nat.le_of_ble_eq_true rfl) dX11_feed_22 ?_
  refine V_iadd dX11_feed_25 ?_
  obtain ⟨x6_16, e_17, hf⟩ := nm_s hf
  refine V_istore (L' := [(6, .int x6_16), (0, .ref k0), (1, .int x1), (2, .int x2), (3, .int x3), (4, .int x4), (5, .int x5)]) dX11_feed_26 (Nat.le_of_ble_eq_true rfl) e_17 rfl ?_
  refine V_aload_n 1 dX11_feed_28 rfl rfl ?_
  refine V_getR F_X11_12 rfl t_k0 rfl dX11_feed_29 ?_
  refine V_getI F_X11_106 rfl (rfO t_k0 (Nat.le_of_ble_eq_true rfl) rfl rfl) rfl dX11_feed_32 ?_
  refine V_iload 0 dX11_feed_35 rfl ?_
  refine V_iadd dX11_feed_37 ?_
  refine V_sipush (v := 160) dX11_feed_38 (by decide) ?_
  refine V_ic_le (tgt := 46) dX11_feed_41 (by decide) (fun c_18 => ?_) (fun c_18 => ?_)
  · have hf := it_s c_18 hf
    refine V_aload_n 1 dX11_feed_46 rfl rfl ?_
    refine V_getR F_X11_12 rfl t_k0 rfl dX11_feed_47 ?_
    refine V_iload_n 2 dX11_feed_50 rfl rfl ?_
    obtain ⟨h_20, e_19, hf⟩ := ov_s hf
    refine V_cvv (As := [.int x1]) (rest := []) (c_X10_put (d := d) (Nat.le_trans (Nat.le_of_ble_eq_true rfl) hd) e_19 (rfO t_k0 (Nat.le_of_ble_eq_true rfl) rfl rfl)) ML_X11_110 MV_X10_put rfl (rfO t_k0 (Nat.le_of_ble_eq_true rfl) rfl rfl) rfl rfl (Nat.le_of_ble_eq_true rfl) dX11_feed_51 ?_
    refine V_aload_n 1 dX11_feed_54 rfl rfl ?_
    refine V_getR F_X11_12 rfl t_k0 rfl dX11_feed_55 ?_
    refine V_iload_n 3 dX11_feed_58 rfl rfl ?_
    obtain ⟨h_22, e_21, hf⟩ := ov_s hf
    refine V_cvv (As := [.int x2]) (rest := []) (c_X10_put (d := d) (Nat.le_trans (Nat.le_of_ble_eq_true rfl) hd) e_21 (rfO t_k0 (Nat.le_of_ble_eq_true rfl) rfl rfl)) ML_X11_110 MV_X10_put rfl (rfO t_k0 (Nat.le_of_ble_eq_true rfl) rfl rfl) rfl rfl (Nat.le_of_ble_eq_true rfl) dX11_feed_59 ?_
    refine V_aload_n 1 dX11_feed_62 rfl rfl ?_
    refine V_getR F_X11_12 rfl t_k0 rfl dX11_feed_63 ?_
    refine V_iload_n 4 dX11_feed_66 rfl rfl ?_
    obtain ⟨h_24, e_23, hf⟩ := ov_s hf
    refine V_cvv (As := [.int x3]) (rest := []) (c_X10_put (d := d) (Nat.le_trans (Nat.le_of_ble_eq_true rfl) hd) e_23 (rfO t_k0 (Nat.le_of_ble_eq_true rfl) rfl rfl)) ML_X11_110 MV_X10_put rfl (rfO t_k0 (Nat.le_of_ble_eq_true rfl) rfl rfl) rfl rfl (Nat.le_of_ble_eq_true rfl) dX11_feed_67 ?_
    refine V_aload_n 1 dX11_feed_70 rfl rfl ?_
    refine V_getR F_X11_12 rfl t_k0 rfl dX11_feed_71 ?_
    refine V_iload 5 dX11_feed_74 rfl ?_
    obtain ⟨h_26, e_25, hf⟩ := ov_s hf
    refine V_cvv (As := [.int x4]) (rest := []) (c_X10_put (d := d) (Nat.le_trans (Nat.le_of_ble_eq_true rfl) hd) e_25 (rfO t_k0 (Nat.le_of_ble_eq_true rfl) rfl rfl)) ML_X11_110 MV_X10_put rfl (rfO t_k0 (Nat.le_of_ble_eq_true rfl) rfl rfl) rfl rfl (Nat.le_of_ble_eq_true rfl) dX11_feed_76 ?_
    refine V_aload_n 1 dX11_feed_79 rfl rfl ?_
    refine V_getR F_X11_12 rfl t_k0 rfl dX11_feed_80 ?_
    refine V_iload 6 dX11_feed_83 rfl ?_
    obtain ⟨h_28, e_27, hf⟩ := ov_s hf
    refine V_cvv (As := [.int x5]) (rest := []) (c_X10_put (d := d) (Nat.le_trans (Nat.le_of_ble_eq_true rfl) hd) e_27 (rfO t_k0 (Nat.le_of_ble_eq_true rfl) rfl rfl)) ML_X11_110 MV_X10_put rfl (rfO t_k0 (Nat.le_of_ble_eq_true rfl) rfl rfl) rfl rfl (Nat.le_of_ble_eq_true rfl) dX11_feed_85 ?_
    refine V_aload_n 1 dX11_feed_88 rfl rfl ?_
    refine V_getR F_X11_12 rfl t_k0 rfl dX11_feed_89 ?_
    refine V_getI F_X11_106 rfl (rfO t_k0 (Nat.le_of_ble_eq_true rfl) rfl rfl) rfl dX11_feed_92 ?_
    exact V_iret rfl (so_s hf) dX11_feed_95
  · have hf := if_s c_18 hf
    refine V_iconst (v := (-1)) dX11_feed_44 (by decide) ?_
    exact V_iret rfl (so_s hf) dX11_feed_45
theorem dX11_fits_0 : decode cX11_fits 0 = .ok (.aload_n 0, 1) := by decide +kernel
theorem dX11_fits_1 : decode cX11_fits 1 = .ok (.iload_n 1, 1) := by decide +kernel
theorem dX11_fits_2 : decode cX11_fits 2 = .ok (.invokevirtual 151, 3) := by decide +kernel
theorem dX11_fits_5 : decode cX11_fits 5 = .ok (.ifCond .eq 11, 3) := by decide +kernel
theorem dX11_fits_8 : decode cX11_fits 8 = .ok (.aload_n 0, 1) := by decide +kernel
theorem dX11_fits_9 : decode cX11_fits 9 = .ok (.iload_n 2, 1) := by decide +kernel
theorem dX11_fits_10 : decode cX11_fits 10 = .ok (.invokevirtual 151, 3) := by decide +kernel
theorem dX11_fits_13 : decode cX11_fits 13 = .ok (.ifCond .ne 5, 3) := by decide +kernel
theorem dX11_fits_16 : decode cX11_fits 16 = .ok (.iconst (-1), 1) := by decide +kernel
theorem dX11_fits_17 : decode cX11_fits 17 = .ok (.ireturn, 1) := by decide +kernel
theorem dX11_fits_18 : decode cX11_fits 18 = .ok (.aload_n 0, 1) := by decide +kernel
theorem dX11_fits_19 : decode cX11_fits 19 = .ok (.getfield 19, 3) := by decide +kernel
theorem dX11_fits_22 : decode cX11_fits 22 = .ok (.iload_n 1, 1) := by decide +kernel
theorem dX11_fits_23 : decode cX11_fits 23 = .ok (.aload_n 0, 1) := by decide +kernel
theorem dX11_fits_24 : decode cX11_fits 24 = .ok (.getfield 19, 3) := by decide +kernel
theorem dX11_fits_27 : decode cX11_fits 27 = .ok (.iload_n 2, 1) := by decide +kernel
theorem dX11_fits_28 : decode cX11_fits 28 = .ok (.iconst 3, 1) := by decide +kernel
theorem dX11_fits_29 : decode cX11_fits 29 = .ok (.invokevirtual 162, 3) := by decide +kernel
theorem dX11_fits_32 : decode cX11_fits 32 = .ok (.invokevirtual 178, 3) := by decide +kernel
theorem dX11_fits_35 : decode cX11_fits 35 = .ok (.ifCond .eq 7, 3) := by decide +kernel
theorem dX11_fits_38 : decode cX11_fits 38 = .ok (.iconst 1, 1) := by decide +kernel
theorem dX11_fits_39 : decode cX11_fits 39 = .ok (.goto 4, 3) := by decide +kernel
theorem dX11_fits_42 : decode cX11_fits 42 = .ok (.iconst 0, 1) := by decide +kernel
theorem dX11_fits_43 : decode cX11_fits 43 = .ok (.ireturn, 1) := by decide +kernel
def f_X11_fits_16  (h : AH) : Option (Int32 × AH) :=
  some ((-1), h)
def f_X11_fits_43 (s0 : Int32) (h : AH) : Option (Int32 × AH) :=
  some (s0, h)
def f_X11_fits (k0 : Nat) (x1 : Int32) (x2 : Int32) (h : AH) : Option (Int32 × AH) :=
  ob (f_X11_isKnown k0 x1 h) fun r_3 h_2 =>
  if r_3 = 0 then (
    f_X11_fits_16 h_2
  ) else (
    ob (f_X11_isKnown k0 x2 h_2) fun r_7 h_6 =>
    if r_7 = 0 then (
      f_X11_fits_16 h_6
    ) else (
      ob (f_X6_item (rf k0 1) x2 3 h_6) fun r_11 h_10 =>
      ob (f_X6_canWear (rf k0 1) x1 r_11 h_10) fun r_14 h_13 =>
      if r_14 = 0 then (
        f_X11_fits_43 0 h_13
      ) else (
        f_X11_fits_43 1 h_13
      )
    )
  )
set_option maxHeartbeats 4000000 in
set_option maxRecDepth 100000 in
theorem v_X11_fits_16 {E : EV} {d : Nat} (hd : 2 ≤ d) {r0 : Int32} {h0 : AH}  {h : AH} (hf : f_X11_fits_16 h = some (r0, h0)) : V E (d + 1) K_X11_fits (ZI E r0 h0) h [] [] 16 := by
  unfold f_X11_fits_16 at hf
  refine V_iconst (v := (-1)) dX11_fits_16 (by decide) ?_
  exact V_iret rfl (so_s hf) dX11_fits_17
set_option maxHeartbeats 4000000 in
set_option maxRecDepth 100000 in
theorem v_X11_fits_43 {E : EV} {d : Nat} (hd : 2 ≤ d) {r0 : Int32} {h0 : AH} {s0 : Int32} {h : AH} (hf : f_X11_fits_43 s0 h = some (r0, h0)) : V E (d + 1) K_X11_fits (ZI E r0 h0) h [] [.int s0] 43 := by
  unfold f_X11_fits_43 at hf
  exact V_iret rfl (so_s hf) dX11_fits_43
set_option maxHeartbeats 4000000 in
set_option maxRecDepth 100000 in
theorem c_X11_fits {E : EV} {d : Nat} (hd : 2 + 1 ≤ d) {k0 : Nat} {x1 : Int32} {x2 : Int32} {h : AH} {r0 : Int32} {h0 : AH} (hf : f_X11_fits k0 x1 x2 h = some (r0, h0)) (t_k0 : kd k0 = (0, 11)) : Con E d K_X11_fits (ZI E r0 h0) [.ref k0, .int x1, .int x2] h := by
  obtain ⟨d, rfl⟩ : ∃ d', d = d' + 1 := ⟨d - 1, by omega⟩
  have hd := Nat.le_of_succ_le_succ hd
  refine Con.ofV rfl (Nat.le_of_ble_eq_true rfl) ?_
  unfold f_X11_fits at hf
  show V E (d + 1) K_X11_fits (ZI E r0 h0) h [(0, .ref k0), (1, .int x1), (2, .int x2)] [] 0
  refine V_aload_n 0 dX11_fits_0 rfl rfl ?_
  refine V_iload_n 1 dX11_fits_1 rfl rfl ?_
  obtain ⟨r_3, h_2, e_1, hf⟩ := ob_s hf
  refine V_cvi (As := [.int x1]) (rest := []) (c_X11_isKnown (d := d) (Nat.le_trans (Nat.le_of_ble_eq_true rfl) hd) e_1 t_k0) ML_X11_151 MV_X11_isKnown rfl t_k0 rfl rfl (Nat.le_of_ble_eq_true rfl) dX11_fits_2 ?_
  refine V_if_eq (tgt := 16) dX11_fits_5 (by decide) (fun c_4 => ?_) (fun c_4 => ?_)
  · have hf := it_s c_4 hf
    refine V_sub [] rfl ?_
    exact v_X11_fits_16 hd hf
  · have hf := if_s c_4 hf
    refine V_aload_n 0 dX11_fits_8 rfl rfl ?_
    refine V_iload_n 2 dX11_fits_9 rfl rfl ?_
    obtain ⟨r_7, h_6, e_5, hf⟩ := ob_s hf
    refine V_cvi (As := [.int x2]) (rest := []) (c_X11_isKnown (d := d) (Nat.le_trans (Nat.le_of_ble_eq_true rfl) hd) e_5 t_k0) ML_X11_151 MV_X11_isKnown rfl t_k0 rfl rfl (Nat.le_of_ble_eq_true rfl) dX11_fits_10 ?_
    refine V_if_ne (tgt := 18) dX11_fits_13 (by decide) (fun c_8 => ?_) (fun c_8 => ?_)
    · have hf := if_s c_8 hf
      refine V_aload_n 0 dX11_fits_18 rfl rfl ?_
      refine V_getR F_X11_19 rfl t_k0 rfl dX11_fits_19 ?_
      refine V_iload_n 1 dX11_fits_22 rfl rfl ?_
      refine V_aload_n 0 dX11_fits_23 rfl rfl ?_
      refine V_getR F_X11_19 rfl t_k0 rfl dX11_fits_24 ?_
      refine V_iload_n 2 dX11_fits_27 rfl rfl ?_
      refine V_iconst (v := 3) dX11_fits_28 (by decide) ?_
      obtain ⟨r_11, h_10, e_9, hf⟩ := ob_s hf
      refine V_cvi (As := [.int x2, .int 3]) (rest := [.int x1, .ref (rf k0 1)]) (c_X6_item (d := d) (Nat.le_trans (Nat.le_of_ble_eq_true rfl) hd) e_9 (rfO t_k0 (Nat.le_of_ble_eq_true rfl) rfl rfl)) ML_X11_162 MV_X6_item rfl (rfO t_k0 (Nat.le_of_ble_eq_true rfl) rfl rfl) rfl rfl (Nat.le_of_ble_eq_true rfl) dX11_fits_29 ?_
      obtain ⟨r_14, h_13, e_12, hf⟩ := ob_s hf
      refine V_cvi (As := [.int x1, .int r_11]) (rest := []) (c_X6_canWear (d := d) (Nat.le_trans (Nat.le_of_ble_eq_true rfl) hd) e_12 (rfO t_k0 (Nat.le_of_ble_eq_true rfl) rfl rfl)) ML_X11_178 MV_X6_canWear rfl (rfO t_k0 (Nat.le_of_ble_eq_true rfl) rfl rfl) rfl rfl (Nat.le_of_ble_eq_true rfl) dX11_fits_32 ?_
      refine V_if_eq (tgt := 42) dX11_fits_35 (by decide) (fun c_15 => ?_) (fun c_15 => ?_)
      · have hf := it_s c_15 hf
        refine V_iconst (v := 0) dX11_fits_42 (by decide) ?_
        refine V_sub [] rfl ?_
        exact v_X11_fits_43 hd hf
      · have hf := if_s c_15 hf
        refine V_iconst (v := 1) dX11_fits_38 (by decide) ?_
        refine V_goto (tgt := 43) dX11_fits_39 (by decide) ?_
        refine V_sub [] rfl ?_
        exact v_X11_fits_43 hd hf
    · have hf := it_s c_8 hf
      refine V_sub [] rfl ?_
      exact v_X11_fits_16 hd hf
theorem dX11_isKnownOrNone_0 : decode cX11_isKnownOrNone 0 = .ok (.iload_n 1, 1) := by decide +kernel
theorem dX11_isKnownOrNone_1 : decode cX11_isKnownOrNone 1 = .ok (.iconst (-1), 1) := by decide +kernel
theorem dX11_isKnownOrNone_2 : decode cX11_isKnownOrNone 2 = .ok (.if_icmp .eq 11, 3) := by decide +kernel
theorem dX11_isKnownOrNone_5 : decode cX11_isKnownOrNone 5 = .ok (.aload_n 0, 1) := by decide +kernel
theorem dX11_isKnownOrNone_6 : decode cX11_isKnownOrNone 6 = .ok (.iload_n 1, 1) := by decide +kernel
theorem dX11_isKnownOrNone_7 : decode cX11_isKnownOrNone 7 = .ok (.invokevirtual 151, 3) := by decide +kernel
theorem dX11_isKnownOrNone_10 : decode cX11_isKnownOrNone 10 = .ok (.ifCond .eq 7, 3) := by decide +kernel
theorem dX11_isKnownOrNone_13 : decode cX11_isKnownOrNone 13 = .ok (.iconst 1, 1) := by decide +kernel
theorem dX11_isKnownOrNone_14 : decode cX11_isKnownOrNone 14 = .ok (.goto 4, 3) := by decide +kernel
theorem dX11_isKnownOrNone_17 : decode cX11_isKnownOrNone 17 = .ok (.iconst 0, 1) := by decide +kernel
theorem dX11_isKnownOrNone_18 : decode cX11_isKnownOrNone 18 = .ok (.ireturn, 1) := by decide +kernel
def f_X11_isKnownOrNone_18 (s0 : Int32) (h : AH) : Option (Int32 × AH) :=
  og (bz s0) <|
  some (s0, h)
def f_X11_isKnownOrNone_13  (h : AH) : Option (Int32 × AH) :=
  f_X11_isKnownOrNone_18 1 h
def f_X11_isKnownOrNone (k0 : Nat) (x1 : Int32) (h : AH) : Option (Int32 × AH) :=
  if x1 = (-1) then (
    f_X11_isKnownOrNone_13 h
  ) else (
    ob (f_X11_isKnown k0 x1 h) fun r_4 h_3 =>
    if r_4 = 0 then (
      f_X11_isKnownOrNone_18 0 h_3
    ) else (
      f_X11_isKnownOrNone_13 h_3
    )
  )
set_option maxHeartbeats 4000000 in
set_option maxRecDepth 100000 in
theorem v_X11_isKnownOrNone_18 {E : EV} {d : Nat} (hd : 1 ≤ d) {r0 : Int32} {h0 : AH} {s0 : Int32} {h : AH} (hf : f_X11_isKnownOrNone_18 s0 h = some (r0, h0)) : V E (d + 1) K_X11_isKnownOrNone (ZI E r0 h0) h [] [.int s0] 18 := by
  unfold f_X11_isKnownOrNone_18 at hf
  obtain ⟨b_1, hf⟩ := og_s hf
  exact V_zret rfl b_1 (so_s hf) dX11_isKnownOrNone_18
set_option maxHeartbeats 4000000 in
set_option maxRecDepth 100000 in
theorem v_X11_isKnownOrNone_13 {E : EV} {d : Nat} (hd : 1 ≤ d) {r0 : Int32} {h0 : AH}  {h : AH} (hf : f_X11_isKnownOrNone_13 h = some (r0, h0)) : V E (d + 1) K_X11_isKnownOrNone (ZI E r0 h0) h [] [] 13 := by
  unfold f_X11_isKnownOrNone_13 at hf
  refine V_iconst (v := 1) dX11_isKnownOrNone_13 (by decide) ?_
  refine V_goto (tgt := 18) dX11_isKnownOrNone_14 (by decide) ?_
  exact v_X11_isKnownOrNone_18 hd hf
set_option maxHeartbeats 4000000 in
set_option maxRecDepth 100000 in
theorem c_X11_isKnownOrNone {E : EV} {d : Nat} (hd : 1 + 1 ≤ d) {k0 : Nat} {x1 : Int32} {h : AH} {r0 : Int32} {h0 : AH} (hf : f_X11_isKnownOrNone k0 x1 h = some (r0, h0)) (t_k0 : kd k0 = (0, 11)) : Con E d K_X11_isKnownOrNone (ZI E r0 h0) [.ref k0, .int x1] h := by
  obtain ⟨d, rfl⟩ : ∃ d', d = d' + 1 := ⟨d - 1, by omega⟩
  have hd := Nat.le_of_succ_le_succ hd
  refine Con.ofV rfl (Nat.le_of_ble_eq_true rfl) ?_
  unfold f_X11_isKnownOrNone at hf
  show V E (d + 1) K_X11_isKnownOrNone (ZI E r0 h0) h [(0, .ref k0), (1, .int x1)] [] 0
  refine V_iload_n 1 dX11_isKnownOrNone_0 rfl rfl ?_
  refine V_iconst (v := (-1)) dX11_isKnownOrNone_1 (by decide) ?_
  refine V_ic_eq (tgt := 13) dX11_isKnownOrNone_2 (by decide) (fun c_1 => ?_) (fun c_1 => ?_)
  · have hf := it_s c_1 hf
    refine V_sub [] rfl ?_
    exact v_X11_isKnownOrNone_13 hd hf
  · have hf := if_s c_1 hf
    refine V_aload_n 0 dX11_isKnownOrNone_5 rfl rfl ?_
    refine V_iload_n 1 dX11_isKnownOrNone_6 rfl rfl ?_
    obtain ⟨r_4, h_3, e_2, hf⟩ := ob_s hf
    refine V_cvi (As := [.int x1]) (rest := []) (c_X11_isKnown (d := d) (Nat.le_trans (Nat.le_of_ble_eq_true rfl) hd) e_2 t_k0) ML_X11_151 MV_X11_isKnown rfl t_k0 rfl rfl (Nat.le_of_ble_eq_true rfl) dX11_isKnownOrNone_7 ?_
    refine V_if_eq (tgt := 17) dX11_isKnownOrNone_10 (by decide) (fun c_5 => ?_) (fun c_5 => ?_)
    · have hf := it_s c_5 hf
      refine V_iconst (v := 0) dX11_isKnownOrNone_17 (by decide) ?_
      refine V_sub [] rfl ?_
      exact v_X11_isKnownOrNone_18 hd hf
    · have hf := if_s c_5 hf
      refine V_sub [] rfl ?_
      exact v_X11_isKnownOrNone_13 hd hf
theorem dX11_hide_0 : decode cX11_hide 0 = .ok (.aload_n 0, 1) := by decide +kernel
theorem dX11_hide_1 : decode cX11_hide 1 = .ok (.iload_n 1, 1) := by decide +kernel
theorem dX11_hide_2 : decode cX11_hide 2 = .ok (.iload_n 2, 1) := by decide +kernel
theorem dX11_hide_3 : decode cX11_hide 3 = .ok (.invokevirtual 182, 3) := by decide +kernel
theorem dX11_hide_6 : decode cX11_hide 6 = .ok (.ifCond .eq 34, 3) := by decide +kernel
theorem dX11_hide_9 : decode cX11_hide 9 = .ok (.aload_n 0, 1) := by decide +kernel
theorem dX11_hide_10 : decode cX11_hide 10 = .ok (.iload_n 2, 1) := by decide +kernel
theorem dX11_hide_11 : decode cX11_hide 11 = .ok (.iload 4, 2) := by decide +kernel
theorem dX11_hide_13 : decode cX11_hide 13 = .ok (.invokevirtual 217, 3) := by decide +kernel
theorem dX11_hide_16 : decode cX11_hide 16 = .ok (.ifCond .eq 24, 3) := by decide +kernel
theorem dX11_hide_19 : decode cX11_hide 19 = .ok (.aload_n 0, 1) := by decide +kernel
theorem dX11_hide_20 : decode cX11_hide 20 = .ok (.iload 5, 2) := by decide +kernel
theorem dX11_hide_22 : decode cX11_hide 22 = .ok (.invokevirtual 224, 3) := by decide +kernel
theorem dX11_hide_25 : decode cX11_hide 25 = .ok (.ifCond .eq 15, 3) := by decide +kernel
theorem dX11_hide_28 : decode cX11_hide 28 = .ok (.aload_n 0, 1) := by decide +kernel
theorem dX11_hide_29 : decode cX11_hide 29 = .ok (.getfield 73, 3) := by decide +kernel
theorem dX11_hide_32 : decode cX11_hide 32 = .ok (.iload_n 3, 1) := by decide +kernel
theorem dX11_hide_33 : decode cX11_hide 33 = .ok (.iload_n 2, 1) := by decide +kernel
theorem dX11_hide_34 : decode cX11_hide 34 = .ok (.invokevirtual 185, 3) := by decide +kernel
theorem dX11_hide_37 : decode cX11_hide 37 = .ok (.ifCond .ne 5, 3) := by decide +kernel
theorem dX11_hide_40 : decode cX11_hide 40 = .ok (.iconst (-1), 1) := by decide +kernel
theorem dX11_hide_41 : decode cX11_hide 41 = .ok (.ireturn, 1) := by decide +kernel
theorem dX11_hide_42 : decode cX11_hide 42 = .ok (.aload_n 0, 1) := by decide +kernel
theorem dX11_hide_43 : decode cX11_hide 43 = .ok (.iload_n 1, 1) := by decide +kernel
theorem dX11_hide_44 : decode cX11_hide 44 = .ok (.iload_n 2, 1) := by decide +kernel
theorem dX11_hide_45 : decode cX11_hide 45 = .ok (.invokevirtual 195, 3) := by decide +kernel
theorem dX11_hide_48 : decode cX11_hide 48 = .ok (.istore 6, 2) := by decide +kernel
theorem dX11_hide_50 : decode cX11_hide 50 = .ok (.iconst 0, 1) := by decide +kernel
theorem dX11_hide_51 : decode cX11_hide 51 = .ok (.istore 7, 2) := by decide +kernel
theorem dX11_hide_53 : decode cX11_hide 53 = .ok (.iconst 0, 1) := by decide +kernel
theorem dX11_hide_54 : decode cX11_hide 54 = .ok (.istore 8, 2) := by decide +kernel
theorem dX11_hide_56 : decode cX11_hide 56 = .ok (.iload 8, 2) := by decide +kernel
theorem dX11_hide_58 : decode cX11_hide 58 = .ok (.bipush 6, 2) := by decide +kernel
theorem dX11_hide_60 : decode cX11_hide 60 = .ok (.if_icmp .ge 71, 3) := by decide +kernel
theorem dX11_hide_63 : decode cX11_hide 63 = .ok (.iload 6, 2) := by decide +kernel
theorem dX11_hide_65 : decode cX11_hide 65 = .ok (.iload 8, 2) := by decide +kernel
theorem dX11_hide_67 : decode cX11_hide 67 = .ok (.invokestatic 247, 3) := by decide +kernel
theorem dX11_hide_70 : decode cX11_hide 70 = .ok (.ifCond .eq 55, 3) := by decide +kernel
theorem dX11_hide_73 : decode cX11_hide 73 = .ok (.aload_n 0, 1) := by decide +kernel
theorem dX11_hide_74 : decode cX11_hide 74 = .ok (.getfield 73, 3) := by decide +kernel
theorem dX11_hide_77 : decode cX11_hide 77 = .ok (.iload 6, 2) := by decide +kernel
theorem dX11_hide_79 : decode cX11_hide 79 = .ok (.iconst 1, 1) := by decide +kernel
theorem dX11_hide_80 : decode cX11_hide 80 = .ok (.iload 8, 2) := by decide +kernel
theorem dX11_hide_82 : decode cX11_hide 82 = .ok (.ishl, 1) := by decide +kernel
theorem dX11_hide_83 : decode cX11_hide 83 = .ok (.iconst (-1), 1) := by decide +kernel
theorem dX11_hide_84 : decode cX11_hide 84 = .ok (.ixor, 1) := by decide +kernel
theorem dX11_hide_85 : decode cX11_hide 85 = .ok (.iand, 1) := by decide +kernel
theorem dX11_hide_86 : decode cX11_hide 86 = .ok (.invokevirtual 198, 3) := by decide +kernel
theorem dX11_hide_89 : decode cX11_hide 89 = .ok (.aload_n 0, 1) := by decide +kernel
theorem dX11_hide_90 : decode cX11_hide 90 = .ok (.getfield 73, 3) := by decide +kernel
theorem dX11_hide_93 : decode cX11_hide 93 = .ok (.iconst 0, 1) := by decide +kernel
theorem dX11_hide_94 : decode cX11_hide 94 = .ok (.invokevirtual 200, 3) := by decide +kernel
theorem dX11_hide_97 : decode cX11_hide 97 = .ok (.iload 7, 2) := by decide +kernel
theorem dX11_hide_99 : decode cX11_hide 99 = .ok (.aload_n 0, 1) := by decide +kernel
theorem dX11_hide_100 : decode cX11_hide 100 = .ok (.getfield 73, 3) := by decide +kernel
theorem dX11_hide_103 : decode cX11_hide 103 = .ok (.getfield 221, 3) := by decide +kernel
theorem dX11_hide_106 : decode cX11_hide 106 = .ok (.iload 4, 2) := by decide +kernel
theorem dX11_hide_108 : decode cX11_hide 108 = .ok (.iaload, 1) := by decide +kernel
theorem dX11_hide_109 : decode cX11_hide 109 = .ok (.iload 5, 2) := by decide +kernel
theorem dX11_hide_111 : decode cX11_hide 111 = .ok (.if_icmp .ne 10, 3) := by decide +kernel
theorem dX11_hide_114 : decode cX11_hide 114 = .ok (.iconst 1, 1) := by decide +kernel
theorem dX11_hide_115 : decode cX11_hide 115 = .ok (.iload 8, 2) := by decide +kernel
theorem dX11_hide_117 : decode cX11_hide 117 = .ok (.ishl, 1) := by decide +kernel
theorem dX11_hide_118 : decode cX11_hide 118 = .ok (.goto 4, 3) := by decide +kernel
theorem dX11_hide_121 : decode cX11_hide 121 = .ok (.iconst 0, 1) := by decide +kernel
theorem dX11_hide_122 : decode cX11_hide 122 = .ok (.ior, 1) := by decide +kernel
theorem dX11_hide_123 : decode cX11_hide 123 = .ok (.istore 7, 2) := by decide +kernel
theorem dX11_hide_125 : decode cX11_hide 125 = .ok (.iinc 8 1, 3) := by decide +kernel
theorem dX11_hide_128 : decode cX11_hide 128 = .ok (.goto (-72), 3) := by decide +kernel
theorem dX11_hide_131 : decode cX11_hide 131 = .ok (.iload 7, 2) := by decide +kernel
theorem dX11_hide_133 : decode cX11_hide 133 = .ok (.ireturn, 1) := by decide +kernel
theorem F_X11_221 : FLk RX11 221 5 3 := ⟨RX5, TX5, 6, rfl, rfl, iw_X5, by decide, Or.inr ⟨_, fn_X11_221⟩⟩
theorem ML_X11_224 : MLk RX11 224 yX11_isKnownOrNone := Or.inl ml_X11_224
theorem MV_X11_isKnownOrNone : MVk K_X11_isKnownOrNone 1 11 := ⟨⟨cd_X11_isKnownOrNone, in_X11, ⟨by decide, by decide, by decide +kernel⟩, by decide⟩, im_X11_isKnownOrNone, se_X11_isKnownOrNone, _, _, rfl⟩
def f_X11_hide_40  (h : AH) : Option (Int32 × AH) :=
  some ((-1), h)
def f_X11_hide_125 (q56 : Nat → Int32 → Int32 → Int32 → Int32 → Int32 → AH → Option (Int32 × AH)) (k0 : Nat) (x4 : Int32) (x5 : Int32) (x6 : Int32) (x7 : Int32) (x8 : Int32) (h : AH) : Option (Int32 × AH) :=
  nm (x8 + 1) fun x8_1 =>
  q56 k0 x4 x5 x6 x7 x8_1 h
def f_X11_hide_122 (q56 : Nat → Int32 → Int32 → Int32 → Int32 → Int32 → AH → Option (Int32 × AH)) (k0 : Nat) (x4 : Int32) (x5 : Int32) (x6 : Int32) (x8 : Int32) (s0 : Int32) (s1 : Int32) (h : AH) : Option (Int32 × AH) :=
  nm ((s1 ||| s0)) fun x7_1 =>
  f_X11_hide_125 q56 k0 x4 x5 x6 x7_1 x8 h
def f_X11_hide_56 : Nat → Nat → Int32 → Int32 → Int32 → Int32 → Int32 → AH → Option (Int32 × AH)
  | 0, _, _, _, _, _, _, _ => none
  | n + 1, k0, x4, x5, x6, x7, x8, h =>
    if 6 ≤ x8 then (
      some (x7, h)
    ) else (
      ob (f_X11_isIn x6 x8 h) fun r_4 h_3 =>
      if r_4 = 0 then (
        f_X11_hide_125 (f_X11_hide_56 n) k0 x4 x5 x6 x7 x8 h_3
      ) else (
        ov (f_X5_begin (rf k0 11) (x6 &&& (((1 : Int32) <<< (x8 &&& 31)) ^^^ (-1))) h_3) fun h_7 =>
        ov (f_X5_go (rf k0 11) 0 h_7) fun h_9 =>
        og (ix x4 (an (rf (rf k0 11) 3))) <|
        if (h_9.1 (rf (rf k0 11) 3) x4.toNatClampNeg) = x5 then (
          f_X11_hide_122 (f_X11_hide_56 n) k0 x4 x5 x6 x8 ((1 : Int32) <<< (x8 &&& 31)) x7 h_9
        ) else (
          f_X11_hide_122 (f_X11_hide_56 n) k0 x4 x5 x6 x8 0 x7 h_9
        )
      )
    )
def f_X11_hide (k0 : Nat) (x1 : Int32) (x2 : Int32) (x3 : Int32) (x4 : Int32) (x5 : Int32) (h : AH) : Option (Int32 × AH) :=
  ob (f_X11_isParty k0 x1 x2 h) fun r_3 h_2 =>
  if r_3 = 0 then (
    f_X11_hide_40 h_2
  ) else (
    ob (f_X11_isGuest k0 x2 x4 h_2) fun r_7 h_6 =>
    if r_7 = 0 then (
      f_X11_hide_40 h_6
    ) else (
      ob (f_X11_isKnownOrNone k0 x5 h_6) fun r_11 h_10 =>
      if r_11 = 0 then (
        f_X11_hide_40 h_10
      ) else (
        ob (f_X5_readOrder (rf k0 11) x3 x2 h_10) fun r_15 h_14 =>
        if r_15 = 0 then (
          f_X11_hide_40 h_14
        ) else (
          ob (f_X11_openDoor k0 x1 x2 h_14) fun r_19 h_18 =>
          f_X11_hide_56 FU k0 x4 x5 r_19 0 0 h_18
        )
      )
    )
  )
set_option maxHeartbeats 4000000 in
set_option maxRecDepth 100000 in
theorem v_X11_hide_40 {E : EV} {d : Nat} (hd : 5 ≤ d) {r0 : Int32} {h0 : AH}  {h : AH} (hf : f_X11_hide_40 h = some (r0, h0)) : V E (d + 1) K_X11_hide (ZI E r0 h0) h [] [] 40 := by
  unfold f_X11_hide_40 at hf
  refine V_iconst (v := (-1)) dX11_hide_40 (by decide) ?_
  exact V_iret rfl (so_s hf) dX11_hide_41
set_option maxHeartbeats 4000000 in
set_option maxRecDepth 100000 in
theorem v_X11_hide_125 {E : EV} {d : Nat} (hd : 5 ≤ d) {r0 : Int32} {h0 : AH} {q56 : Nat → Int32 → Int32 → Int32 → Int32 → Int32 → AH → Option (Int32 × AH)} (cq56 : ∀ (k0 : Nat) (x4 : Int32) (x5 : Int32) (x6 : Int32) (x7 : Int32) (x8 : Int32) (h : AH), q56 k0 x4 x5 x6 x7 x8 h = some (r0, h0) → kd k0 = (0, 11) → V E (d + 1) K_X11_hide (ZI E r0 h0) h [(0, .ref k0), (4, .int x4), (5, .int x5), (6, .int x6), (7, .int x7), (8, .int x8)] [] 56) {k0 : Nat} {x4 : Int32} {x5 : Int32} {x6 : Int32} {x7 : Int32} {x8 : Int32} {h : AH} (hf : f_X11_hide_125 q56 k0 x4 x5 x6 x7 x8 h = some (r0, h0)) (t_k0 : kd k0 = (0, 11)) : V E (d + 1) K_X11_hide (ZI E r0 h0) h [(0, .ref k0), (4, .int x4), (5, .int x5), (6, .int x6), (7, .int x7), (8, .int x8)] [] 125 := by
  unfold f_X11_hide_125 at hf
  obtain ⟨x8_1, e_2, hf⟩ := nm_s hf
  refine V_iinc (a := 1) (L' := [(8, .int x8_1), (0, .ref k0), (4, .int x4), (5, .int x5), (6, .int x6), (7, .int x7)]) 5 dX11_hide_125 rfl (by decide) (Nat.le_of_ble_eq_true rfl) e_2 rfl ?_
  refine V_goto (tgt := 56) dX11_hide_128 (by decide) ?_
  refine V_sub [1, 2, 3, 4, 5, 0] rfl ?_
  exact cq56 _ _ _ _ _ _ _ hf t_k0
set_option maxHeartbeats 4000000 in
set_option maxRecDepth 100000 in
theorem v_X11_hide_122 {E : EV} {d : Nat} (hd : 5 ≤ d) {r0 : Int32} {h0 : AH} {q56 : Nat → Int32 → Int32 → Int32 → Int32 → Int32 → AH → Option (Int32 × AH)} (cq56 : ∀ (k0 : Nat) (x4 : Int32) (x5 : Int32) (x6 : Int32) (x7 : Int32) (x8 : Int32) (h : AH), q56 k0 x4 x5 x6 x7 x8 h = some (r0, h0) → kd k0 = (0, 11) → V E (d + 1) K_X11_hide (ZI E r0 h0) h [(0, .ref k0), (4, .int x4), (5, .int x5), (6, .int x6), (7, .int x7), (8, .int x8)] [] 56) {k0 : Nat} {x4 : Int32} {x5 : Int32} {x6 : Int32} {x8 : Int32} {s0 : Int32} {s1 : Int32} {h : AH} (hf : f_X11_hide_122 q56 k0 x4 x5 x6 x8 s0 s1 h = some (r0, h0)) (t_k0 : kd k0 = (0, 11)) : V E (d + 1) K_X11_hide (ZI E r0 h0) h [(0, .ref k0), (4, .int x4), (5, .int x5), (6, .int x6), (8, .int x8)] [.int s0, .int s1] 122 := by
  unfold f_X11_hide_122 at hf
  refine V_ior dX11_hide_122 ?_
  obtain ⟨x7_1, e_2, hf⟩ := nm_s hf
  refine V_istore (L' := [(7, .int x7_1), (0, .ref k0), (4, .int x4), (5, .int x5), (6, .int x6), (8, .int x8)]) dX11_hide_123 (Nat.le_of_ble_eq_true rfl) e_2 rfl ?_
  refine V_sub [1, 2, 3, 4, 0, 5] rfl ?_
  exact v_X11_hide_125 hd cq56 hf t_k0
set_option maxHeartbeats 4000000 in
set_option maxRecDepth 100000 in
theorem v_X11_hide_56 {E : EV} {d : Nat} (hd : 5 ≤ d) {r0 : Int32} {h0 : AH} : ∀ (n : Nat) (k0 : Nat) (x4 : Int32) (x5 : Int32) (x6 : Int32) (x7 : Int32) (x8 : Int32) (h : AH), f_X11_hide_56 n k0 x4 x5 x6 x7 x8 h = some (r0, h0) → kd k0 = (0, 11) → V E (d + 1) K_X11_hide (ZI E r0 h0) h [(0, .ref k0), (4, .int x4), (5, .int x5), (6, .int x6), (7, .int x7), (8, .int x8)] [] 56 := by
  intro n
  induction n with
  | zero =>
    intro k0 x4 x5 x6 x7 x8 h hf
    rw [f_X11_hide_56] at hf
    cases hf
  | succ n ih =>
    intro k0 x4 x5 x6 x7 x8 h hf t_k0
    rw [f_X11_hide_56] at hf
    refine V_iload 5 dX11_hide_56 rfl ?_
    refine V_bipush (v := 6) dX11_hide_58 (by decide) ?_
    refine V_ic_ge (tgt := 131) dX11_hide_60 (by decide) (fun c_1 => ?_) (fun c_1 => ?_)
    · have hf := it_s c_1 hf
      refine V_iload 4 dX11_hide_131 rfl ?_
      exact V_iret rfl (so_s hf) dX11_hide_133
    · have hf := if_s c_1 hf
      refine V_iload 3 dX11_hide_63 rfl ?_
      refine V_iload 5 dX11_hide_65 rfl ?_
      obtain ⟨r_4, h_3, e_2, hf⟩ := ob_s hf
      refine V_csi (As := [.int x6, .int x8]) (rest := []) (c_X11_isIn (d := d) (Nat.le_trans (Nat.le_of_ble_eq_true rfl) hd) e_2) ML_X11_247 MS_X11_isIn rfl rfl rfl (Nat.le_of_ble_eq_true rfl) dX11_hide_67 ?_
      refine V_if_eq (tgt := 125) dX11_hide_70 (by decide) (fun c_5 => ?_) (fun c_5 => ?_)
      · have hf := it_s c_5 hf
        exact v_X11_hide_125 hd ih hf t_k0
      · have hf := if_s c_5 hf
        refine V_aload_n 0 dX11_hide_73 rfl rfl ?_
        refine V_getR F_X11_73 rfl t_k0 rfl dX11_hide_74 ?_
        refine V_iload 3 dX11_hide_77 rfl ?_
        refine V_iconst (v := 1) dX11_hide_79 (by decide) ?_
        refine V_iload 5 dX11_hide_80 rfl ?_
        refine V_ishl dX11_hide_82 ?_
        refine V_iconst (v := (-1)) dX11_hide_83 (by decide) ?_
        refine V_ixor dX11_hide_84 ?_
        refine V_iand dX11_hide_85 ?_
        obtain ⟨h_7, e_6, hf⟩ := ov_s hf
        refine V_cvv (As := [.int (x6 &&& (((1 : Int32) <<< (x8 &&& 31)) ^^^ (-1)))]) (rest := []) (c_X5_begin (d := d) (Nat.le_trans (Nat.le_of_ble_eq_true rfl) hd) e_6 (rfO t_k0 (Nat.le_of_ble_eq_true rfl) rfl rfl)) ML_X11_198 MV_X5_begin rfl (rfO t_k0 (Nat.le_of_ble_eq_true rfl) rfl rfl) rfl rfl (Nat.le_of_ble_eq_true rfl) dX11_hide_86 ?_
        refine V_aload_n 0 dX11_hide_89 rfl rfl ?_
        refine V_getR F_X11_73 rfl t_k0 rfl dX11_hide_90 ?_
        refine V_iconst (v := 0) dX11_hide_93 (by decide) ?_
        obtain ⟨h_9, e_8, hf⟩ := ov_s hf
        refine V_cvv (As := [.int 0]) (rest := []) (c_X5_go (d := d) (Nat.le_trans (Nat.le_of_ble_eq_true rfl) hd) e_8 (rfO t_k0 (Nat.le_of_ble_eq_true rfl) rfl rfl)) ML_X11_200 MV_X5_go rfl (rfO t_k0 (Nat.le_of_ble_eq_true rfl) rfl rfl) rfl rfl (Nat.le_of_ble_eq_true rfl) dX11_hide_94 ?_
        refine V_iload 4 dX11_hide_97 rfl ?_
        refine V_aload_n 0 dX11_hide_99 rfl rfl ?_
        refine V_getR F_X11_73 rfl t_k0 rfl dX11_hide_100 ?_
        refine V_getR F_X11_221 rfl (rfO t_k0 (Nat.le_of_ble_eq_true rfl) rfl rfl) rfl dX11_hide_103 ?_
        refine V_iload 1 dX11_hide_106 rfl ?_
        obtain ⟨b_10, hf⟩ := og_s hf
        refine V_iald (rfA (rfO t_k0 (Nat.le_of_ble_eq_true rfl) rfl rfl) (Nat.le_of_ble_eq_true rfl) rfl rfl (by decide)) b_10 dX11_hide_108 ?_
        refine V_iload 2 dX11_hide_109 rfl ?_
        refine V_ic_ne (tgt := 121) dX11_hide_111 (by decide) (fun c_11 => ?_) (fun c_11 => ?_)
        · have hf := if_s c_11 hf
          refine V_iconst (v := 0) dX11_hide_121 (by decide) ?_
          refine V_sub [0, 1, 2, 3, 5] rfl ?_
          exact v_X11_hide_122 hd ih hf t_k0
        · have hf := it_s c_11 hf
          refine V_iconst (v := 1) dX11_hide_114 (by decide) ?_
          refine V_iload 5 dX11_hide_115 rfl ?_
          refine V_ishl dX11_hide_117 ?_
          refine V_goto (tgt := 122) dX11_hide_118 (by decide) ?_
          refine V_sub [0, 1, 2, 3, 5] rfl ?_
          exact v_X11_hide_122 hd ih hf t_k0
set_option maxHeartbeats 4000000 in
set_option maxRecDepth 100000 in
theorem c_X11_hide {E : EV} {d : Nat} (hd : 5 + 1 ≤ d) {k0 : Nat} {x1 : Int32} {x2 : Int32} {x3 : Int32} {x4 : Int32} {x5 : Int32} {h : AH} {r0 : Int32} {h0 : AH} (hf : f_X11_hide k0 x1 x2 x3 x4 x5 h = some (r0, h0)) (t_k0 : kd k0 = (0, 11)) : Con E d K_X11_hide (ZI E r0 h0) [.ref k0, .int x1, .int x2, .int x3, .int x4, .int x5] h := by
  obtain ⟨d, rfl⟩ : ∃ d', d = d' + 1 := ⟨d - 1, by omega⟩
  have hd := Nat.le_of_succ_le_succ hd
  refine Con.ofV rfl (Nat.le_of_ble_eq_true rfl) ?_
  unfold f_X11_hide at hf
  show V E (d + 1) K_X11_hide (ZI E r0 h0) h [(0, .ref k0), (1, .int x1), (2, .int x2), (3, .int x3), (4, .int x4), (5, .int x5)] [] 0
  refine V_aload_n 0 dX11_hide_0 rfl rfl ?_
  refine V_iload_n 1 dX11_hide_1 rfl rfl ?_
  refine V_iload_n 2 dX11_hide_2 rfl rfl ?_
  obtain ⟨r_3, h_2, e_1, hf⟩ := ob_s hf
  refine V_cvi (As := [.int x1, .int x2]) (rest := []) (c_X11_isParty (d := d) (Nat.le_trans (Nat.le_of_ble_eq_true rfl) hd) e_1 t_k0) ML_X11_182 MV_X11_isParty rfl t_k0 rfl rfl (Nat.le_of_ble_eq_true rfl) dX11_hide_3 ?_
  refine V_if_eq (tgt := 40) dX11_hide_6 (by decide) (fun c_4 => ?_) (fun c_4 => ?_)
  · have hf := it_s c_4 hf
    refine V_sub [] rfl ?_
    exact v_X11_hide_40 hd hf
  · have hf := if_s c_4 hf
    refine V_aload_n 0 dX11_hide_9 rfl rfl ?_
    refine V_iload_n 2 dX11_hide_10 rfl rfl ?_
    refine V_iload 4 dX11_hide_11 rfl ?_
    obtain ⟨r_7, h_6, e_5, hf⟩ := ob_s hf
    refine V_cvi (As := [.int x2, .int x4]) (rest := []) (c_X11_isGuest (d := d) (Nat.le_trans (Nat.le_of_ble_eq_true rfl) hd) e_5 t_k0) ML_X11_217 MV_X11_isGuest rfl t_k0 rfl rfl (Nat.le_of_ble_eq_true rfl) dX11_hide_13 ?_
    refine V_if_eq (tgt := 40) dX11_hide_16 (by decide) (fun c_8 => ?_) (fun c_8 => ?_)
    · have hf := it_s c_8 hf
      refine V_sub [] rfl ?_
      exact v_X11_hide_40 hd hf
    · have hf := if_s c_8 hf
      refine V_aload_n 0 dX11_hide_19 rfl rfl ?_
      refine V_iload 5 dX11_hide_20 rfl ?_
      obtain ⟨r_11, h_10, e_9, hf⟩ := ob_s hf
      refine V_cvi (As := [.int x5]) (rest := []) (c_X11_isKnownOrNone (d := d) (Nat.le_trans (Nat.le_of_ble_eq_true rfl) hd) e_9 t_k0) ML_X11_224 MV_X11_isKnownOrNone rfl t_k0 rfl rfl (Nat.le_of_ble_eq_true rfl) dX11_hide_22 ?_
      refine V_if_eq (tgt := 40) dX11_hide_25 (by decide) (fun c_12 => ?_) (fun c_12 => ?_)
      · have hf := it_s c_12 hf
        refine V_sub [] rfl ?_
        exact v_X11_hide_40 hd hf
      · have hf := if_s c_12 hf
        refine V_aload_n 0 dX11_hide_28 rfl rfl ?_
        refine V_getR F_X11_73 rfl t_k0 rfl dX11_hide_29 ?_
        refine V_iload_n 3 dX11_hide_32 rfl rfl ?_
        refine V_iload_n 2 dX11_hide_33 rfl rfl ?_
        obtain ⟨r_15, h_14, e_13, hf⟩ := ob_s hf
        refine V_cvi (As := [.int x3, .int x2]) (rest := []) (c_X5_readOrder (d := d) (Nat.le_trans (Nat.le_of_ble_eq_true rfl) hd) e_13 (rfO t_k0 (Nat.le_of_ble_eq_true rfl) rfl rfl)) ML_X11_185 MV_X5_readOrder rfl (rfO t_k0 (Nat.le_of_ble_eq_true rfl) rfl rfl) rfl rfl (Nat.le_of_ble_eq_true rfl) dX11_hide_34 ?_
        refine V_if_ne (tgt := 42) dX11_hide_37 (by decide) (fun c_16 => ?_) (fun c_16 => ?_)
        · have hf := if_s c_16 hf
          refine V_aload_n 0 dX11_hide_42 rfl rfl ?_
          refine V_iload_n 1 dX11_hide_43 rfl rfl ?_
          refine V_iload_n 2 dX11_hide_44 rfl rfl ?_
          obtain ⟨r_19, h_18, e_17, hf⟩ := ob_s hf
          refine V_cvi (As := [.int x1, .int x2]) (rest := []) (c_X11_openDoor (d := d) (Nat.le_trans (Nat.le_of_ble_eq_true rfl) hd) e_17 t_k0) ML_X11_195 MV_X11_openDoor rfl t_k0 rfl rfl (Nat.le_of_ble_eq_true rfl) dX11_hide_45 ?_
          refine V_istore (L' := [(6, .int r_19), (0, .ref k0), (1, .int x1), (2, .int x2), (3, .int x3), (4, .int x4), (5, .int x5)]) dX11_hide_48 (Nat.le_of_ble_eq_true rfl) rfl rfl ?_
          refine V_iconst (v := 0) dX11_hide_50 (by decide) ?_
          refine V_istore (L' := [(7, .int 0), (6, .int r_19), (0, .ref k0), (1, .int x1), (2, .int x2), (3, .int x3), (4, .int x4), (5, .int x5)]) dX11_hide_51 (Nat.le_of_ble_eq_true rfl) rfl rfl ?_
          refine V_iconst (v := 0) dX11_hide_53 (by decide) ?_
          refine V_istore (L' := [(8, .int 0), (7, .int 0), (6, .int r_19), (0, .ref k0), (1, .int x1), (2, .int x2), (3, .int x3), (4, .int x4), (5, .int x5)]) dX11_hide_54 (Nat.le_of_ble_eq_true rfl) rfl rfl ?_
          refine V_sub [3, 7, 8, 2, 1, 0] rfl ?_
          exact v_X11_hide_56 hd FU _ _ _ _ _ _ _ hf t_k0
        · have hf := it_s c_16 hf
          refine V_sub [] rfl ?_
          exact v_X11_hide_40 hd hf
theorem dX5_much_0 : decode cX5_much 0 = .ok (.iconst 0, 1) := by decide +kernel
theorem dX5_much_1 : decode cX5_much 1 = .ok (.istore_n 2, 1) := by decide +kernel
theorem dX5_much_2 : decode cX5_much 2 = .ok (.iconst 0, 1) := by decide +kernel
theorem dX5_much_3 : decode cX5_much 3 = .ok (.istore_n 3, 1) := by decide +kernel
theorem dX5_much_4 : decode cX5_much 4 = .ok (.iconst 0, 1) := by decide +kernel
theorem dX5_much_5 : decode cX5_much 5 = .ok (.istore 4, 2) := by decide +kernel
theorem dX5_much_7 : decode cX5_much 7 = .ok (.bipush 99, 2) := by decide +kernel
theorem dX5_much_9 : decode cX5_much 9 = .ok (.istore 5, 2) := by decide +kernel
theorem dX5_much_11 : decode cX5_much 11 = .ok (.iconst 0, 1) := by decide +kernel
theorem dX5_much_12 : decode cX5_much 12 = .ok (.istore 6, 2) := by decide +kernel
theorem dX5_much_14 : decode cX5_much 14 = .ok (.iload 6, 2) := by decide +kernel
theorem dX5_much_16 : decode cX5_much 16 = .ok (.aload_n 0, 1) := by decide +kernel
theorem dX5_much_17 : decode cX5_much 17 = .ok (.getfield 34, 3) := by decide +kernel
theorem dX5_much_20 : decode cX5_much 20 = .ok (.if_icmp .ge 81, 3) := by decide +kernel
theorem dX5_much_23 : decode cX5_much 23 = .ok (.aload_n 0, 1) := by decide +kernel
theorem dX5_much_24 : decode cX5_much 24 = .ok (.getfield 9, 3) := by decide +kernel
theorem dX5_much_27 : decode cX5_much 27 = .ok (.iload 6, 2) := by decide +kernel
theorem dX5_much_29 : decode cX5_much 29 = .ok (.iaload, 1) := by decide +kernel
theorem dX5_much_30 : decode cX5_much 30 = .ok (.istore 7, 2) := by decide +kernel
theorem dX5_much_32 : decode cX5_much 32 = .ok (.aload_n 0, 1) := by decide +kernel
theorem dX5_much_33 : decode cX5_much 33 = .ok (.iload 7, 2) := by decide +kernel
theorem dX5_much_35 : decode cX5_much 35 = .ok (.invokevirtual 87, 3) := by decide +kernel
theorem dX5_much_38 : decode cX5_much 38 = .ok (.istore 8, 2) := by decide +kernel
theorem dX5_much_40 : decode cX5_much 40 = .ok (.iload_n 2, 1) := by decide +kernel
theorem dX5_much_41 : decode cX5_much 41 = .ok (.aload_n 0, 1) := by decide +kernel
theorem dX5_much_42 : decode cX5_much 42 = .ok (.getfield 15, 3) := by decide +kernel
theorem dX5_much_45 : decode cX5_much 45 = .ok (.iload 7, 2) := by decide +kernel
theorem dX5_much_47 : decode cX5_much 47 = .ok (.iaload, 1) := by decide +kernel
theorem dX5_much_48 : decode cX5_much 48 = .ok (.iconst (-1), 1) := by decide +kernel
theorem dX5_much_49 : decode cX5_much 49 = .ok (.if_icmp .ne 7, 3) := by decide +kernel
theorem dX5_much_52 : decode cX5_much 52 = .ok (.iconst 1, 1) := by decide +kernel
theorem dX5_much_53 : decode cX5_much 53 = .ok (.goto 4, 3) := by decide +kernel
theorem dX5_much_56 : decode cX5_much 56 = .ok (.iconst 0, 1) := by decide +kernel
theorem dX5_much_57 : decode cX5_much 57 = .ok (.iadd, 1) := by decide +kernel
theorem dX5_much_58 : decode cX5_much 58 = .ok (.istore_n 2, 1) := by decide +kernel
theorem dX5_much_59 : decode cX5_much 59 = .ok (.iload_n 3, 1) := by decide +kernel
theorem dX5_much_60 : decode cX5_much 60 = .ok (.iload 8, 2) := by decide +kernel
theorem dX5_much_62 : decode cX5_much 62 = .ok (.iadd, 1) := by decide +kernel
theorem dX5_much_63 : decode cX5_much 63 = .ok (.istore_n 3, 1) := by decide +kernel
theorem dX5_much_64 : decode cX5_much 64 = .ok (.iload 4, 2) := by decide +kernel
theorem dX5_much_66 : decode cX5_much 66 = .ok (.aload_n 0, 1) := by decide +kernel
theorem dX5_much_67 : decode cX5_much 67 = .ok (.getfield 15, 3) := by decide +kernel
theorem dX5_much_70 : decode cX5_much 70 = .ok (.iload 7, 2) := by decide +kernel
theorem dX5_much_72 : decode cX5_much 72 = .ok (.iaload, 1) := by decide +kernel
theorem dX5_much_73 : decode cX5_much 73 = .ok (.iload 7, 2) := by decide +kernel
theorem dX5_much_75 : decode cX5_much 75 = .ok (.if_icmp .ne 7, 3) := by decide +kernel
theorem dX5_much_78 : decode cX5_much 78 = .ok (.iconst 1, 1) := by decide +kernel
theorem dX5_much_79 : decode cX5_much 79 = .ok (.goto 4, 3) := by decide +kernel
theorem dX5_much_82 : decode cX5_much 82 = .ok (.iconst 0, 1) := by decide +kernel
theorem dX5_much_83 : decode cX5_much 83 = .ok (.iadd, 1) := by decide +kernel
theorem dX5_much_84 : decode cX5_much 84 = .ok (.istore 4, 2) := by decide +kernel
theorem dX5_much_86 : decode cX5_much 86 = .ok (.iload 5, 2) := by decide +kernel
theorem dX5_much_88 : decode cX5_much 88 = .ok (.iload 8, 2) := by decide +kernel
theorem dX5_much_90 : decode cX5_much 90 = .ok (.invokestatic 88, 3) := by decide +kernel
theorem dX5_much_93 : decode cX5_much 93 = .ok (.istore 5, 2) := by decide +kernel
theorem dX5_much_95 : decode cX5_much 95 = .ok (.iinc 6 1, 3) := by decide +kernel
theorem dX5_much_98 : decode cX5_much 98 = .ok (.goto (-84), 3) := by decide +kernel
theorem dX5_much_101 : decode cX5_much 101 = .ok (.iload_n 1, 1) := by decide +kernel
theorem dX5_much_102 : decode cX5_much 102 = .ok (.tableswitch 33 0 2 #[26, 28, 30], 26) := by decide +kernel
theorem dX5_much_128 : decode cX5_much 128 = .ok (.iload_n 2, 1) := by decide +kernel
theorem dX5_much_129 : decode cX5_much 129 = .ok (.ireturn, 1) := by decide +kernel
theorem dX5_much_130 : decode cX5_much 130 = .ok (.iload_n 3, 1) := by decide +kernel
theorem dX5_much_131 : decode cX5_much 131 = .ok (.ireturn, 1) := by decide +kernel
theorem dX5_much_132 : decode cX5_much 132 = .ok (.iload 4, 2) := by decide +kernel
theorem dX5_much_134 : decode cX5_much 134 = .ok (.ireturn, 1) := by decide +kernel
theorem dX5_much_135 : decode cX5_much 135 = .ok (.iload 5, 2) := by decide +kernel
theorem dX5_much_137 : decode cX5_much 137 = .ok (.ireturn, 1) := by decide +kernel
theorem ML_X5_87 : MLk RX5 87 yX5_worthOf := Or.inl ml_X5_87
def f_X5_much_83 (q14 : Nat → Int32 → Int32 → Int32 → Int32 → Int32 → Int32 → AH → Option (Int32 × AH)) (k0 : Nat) (x1 : Int32) (x2 : Int32) (x3 : Int32) (x5 : Int32) (x6 : Int32) (x8 : Int32) (s0 : Int32) (s1 : Int32) (h : AH) : Option (Int32 × AH) :=
  nm ((s1 + s0)) fun x4_1 =>
  nm ((if x8 < x5 then x8 else x5)) fun x5_3 =>
  nm (x6 + 1) fun x6_5 =>
  q14 k0 x1 x2 x3 x4_1 x5_3 x6_5 h
def f_X5_much_57 (q14 : Nat → Int32 → Int32 → Int32 → Int32 → Int32 → Int32 → AH → Option (Int32 × AH)) (k0 : Nat) (x1 : Int32) (x3 : Int32) (x4 : Int32) (x5 : Int32) (x6 : Int32) (x7 : Int32) (x8 : Int32) (s0 : Int32) (s1 : Int32) (h : AH) : Option (Int32 × AH) :=
  nm ((s1 + s0)) fun x2_1 =>
  nm ((x3 + x8)) fun x3_3 =>
  og (ix x7 (an (rf k0 3))) <|
  if (h.1 (rf k0 3) x7.toNatClampNeg) = x7 then (
    f_X5_much_83 q14 k0 x1 x2_1 x3_3 x5 x6 x8 1 x4 h
  ) else (
    f_X5_much_83 q14 k0 x1 x2_1 x3_3 x5 x6 x8 0 x4 h
  )
def f_X5_much_14 : Nat → Nat → Int32 → Int32 → Int32 → Int32 → Int32 → Int32 → AH → Option (Int32 × AH)
  | 0, _, _, _, _, _, _, _, _ => none
  | n + 1, k0, x1, x2, x3, x4, x5, x6, h =>
    if (h.1 k0 2) ≤ x6 then (
      if x1 = 0 then (
        some (x2, h)
      ) else (
        if x1 = 1 then (
          some (x3, h)
        ) else (
          if x1 = 2 then (
            some (x4, h)
          ) else (
            some (x5, h)
      )))
    ) else (
      og (ix x6 (an (rf k0 1))) <|
      nm ((h.1 (rf k0 1) x6.toNatClampNeg)) fun x7_6 =>
      ob (f_X5_worthOf k0 x7_6 h) fun r_10 h_9 =>
      og (ix x7_6 (an (rf k0 3))) <|
      if (h_9.1 (rf k0 3) x7_6.toNatClampNeg) = (-1) then (
        f_X5_much_57 (f_X5_much_14 n) k0 x1 x3 x4 x5 x6 x7_6 r_10 1 x2 h_9
      ) else (
        f_X5_much_57 (f_X5_much_14 n) k0 x1 x3 x4 x5 x6 x7_6 r_10 0 x2 h_9
      )
    )
def f_X5_much (k0 : Nat) (x1 : Int32) (h : AH) : Option (Int32 × AH) :=
  f_X5_much_14 FU k0 x1 0 0 0 99 0 h
set_option maxHeartbeats 4000000 in
set_option maxRecDepth 100000 in
theorem v_X5_much_83 {E : EV} {d : Nat} (hd : 2 ≤ d) {r0 : Int32} {h0 : AH} {q14 : Nat → Int32 → Int32 → Int32 → Int32 → Int32 → Int32 → AH → Option (Int32 × AH)} (cq14 : ∀ (k0 : Nat) (x1 : Int32) (x2 : Int32) (x3 : Int32) (x4 : Int32) (x5 : Int32) (x6 : Int32) (h : AH), q14 k0 x1 x2 x3 x4 x5 x6 h = some (r0, h0) → kd k0 = (0, 5) → V E (d + 1) K_X5_much (ZI E r0 h0) h [(0, .ref k0), (1, .int x1), (2, .int x2), (3, .int x3), (4, .int x4), (5, .int x5), (6, .int x6)] [] 14) {k0 : Nat} {x1 : Int32} {x2 : Int32} {x3 : Int32} {x5 : Int32} {x6 : Int32} {x8 : Int32} {s0 : Int32} {s1 : Int32} {h : AH} (hf : f_X5_much_83 q14 k0 x1 x2 x3 x5 x6 x8 s0 s1 h = some (r0, h0)) (t_k0 : kd k0 = (0, 5)) : V E (d + 1) K_X5_much (ZI E r0 h0) h [(0, .ref k0), (1, .int x1), (2, .int x2), (3, .int x3), (5, .int x5), (6, .int x6), (8, .int x8)] [.int s0, .int s1] 83 := by
  unfold f_X5_much_83 at hf
  refine V_iadd dX5_much_83 ?_
  obtain ⟨x4_1, e_2, hf⟩ := nm_s hf
  refine V_istore (L' := [(4, .int x4_1), (0, .ref k0), (1, .int x1), (2, .int x2), (3, .int x3), (5, .int x5), (6, .int x6), (8, .int x8)]) dX5_much_84 (Nat.le_of_ble_eq_true rfl) e_2 rfl ?_
  refine V_iload 5 dX5_much_86 rfl ?_
  refine V_iload 7 dX5_much_88 rfl ?_
  refine V_mmin ml_X5_88 rfl (Nat.le_of_ble_eq_true rfl) dX5_much_90 ?_
  obtain ⟨x5_3, e_4, hf⟩ := nm_s hf
  refine V_istore (L' := [(5, .int x5_3), (4, .int x4_1), (0, .ref k0), (1, .int x1), (2, .int x2), (3, .int x3), (6, .int x6), (8, .int x8)]) dX5_much_93 (Nat.le_of_ble_eq_true rfl) e_4 rfl ?_
  obtain ⟨x6_5, e_6, hf⟩ := nm_s hf
  refine V_iinc (a := 1) (L' := [(6, .int x6_5), (5, .int x5_3), (4, .int x4_1), (0, .ref k0), (1, .int x1), (2, .int x2), (3, .int x3), (8, .int x8)]) 6 dX5_much_95 rfl (by decide) (Nat.le_of_ble_eq_true rfl) e_6 rfl ?_
  refine V_goto (tgt := 14) dX5_much_98 (by decide) ?_
  refine V_sub [3, 4, 5, 6, 2, 1, 0] rfl ?_
  exact cq14 _ _ _ _ _ _ _ _ hf t_k0
set_option maxHeartbeats 4000000 in
set_option maxRecDepth 100000 in
theorem v_X5_much_57 {E : EV} {d : Nat} (hd : 2 ≤ d) {r0 : Int32} {h0 : AH} {q14 : Nat → Int32 → Int32 → Int32 → Int32 → Int32 → Int32 → AH → Option (Int32 × AH)} (cq14 : ∀ (k0 : Nat) (x1 : Int32) (x2 : Int32) (x3 : Int32) (x4 : Int32) (x5 : Int32) (x6 : Int32) (h : AH), q14 k0 x1 x2 x3 x4 x5 x6 h = some (r0, h0) → kd k0 = (0, 5) → V E (d + 1) K_X5_much (ZI E r0 h0) h [(0, .ref k0), (1, .int x1), (2, .int x2), (3, .int x3), (4, .int x4), (5, .int x5), (6, .int x6)] [] 14) {k0 : Nat} {x1 : Int32} {x3 : Int32} {x4 : Int32} {x5 : Int32} {x6 : Int32} {x7 : Int32} {x8 : Int32} {s0 : Int32} {s1 : Int32} {h : AH} (hf : f_X5_much_57 q14 k0 x1 x3 x4 x5 x6 x7 x8 s0 s1 h = some (r0, h0)) (t_k0 : kd k0 = (0, 5)) : V E (d + 1) K_X5_much (ZI E r0 h0) h [(0, .ref k0), (1, .int x1), (3, .int x3), (4, .int x4), (5, .int x5), (6, .int x6), (7, .int x7), (8, .int x8)] [.int s0, .int s1] 57 := by
  unfold f_X5_much_57 at hf
  refine V_iadd dX5_much_57 ?_
  obtain ⟨x2_1, e_2, hf⟩ := nm_s hf
  refine V_istore_n (L' := [(2, .int x2_1), (0, .ref k0), (1, .int x1), (3, .int x3), (4, .int x4), (5, .int x5), (6, .int x6), (7, .int x7), (8, .int x8)]) dX5_much_58 rfl (Nat.le_of_ble_eq_true rfl) e_2 rfl ?_
  refine V_iload_n 3 dX5_much_59 rfl rfl ?_
  refine V_iload 8 dX5_much_60 rfl ?_
  refine V_iadd dX5_much_62 ?_
  obtain ⟨x3_3, e_4, hf⟩ := nm_s hf
  refine V_istore_n (L' := [(3, .int x3_3), (2, .int x2_1), (0, .ref k0), (1, .int x1), (4, .int x4), (5, .int x5), (6, .int x6), (7, .int x7), (8, .int x8)]) dX5_much_63 rfl (Nat.le_of_ble_eq_true rfl) e_4 rfl ?_
  refine V_iload 4 dX5_much_64 rfl ?_
  refine V_aload_n 2 dX5_much_66 rfl rfl ?_
  refine V_getR F_X5_15 rfl t_k0 rfl dX5_much_67 ?_
  refine V_iload 7 dX5_much_70 rfl ?_
  obtain ⟨b_5, hf⟩ := og_s hf
  refine V_iald (rfA t_k0 (Nat.le_of_ble_eq_true rfl) rfl rfl (by decide)) b_5 dX5_much_72 ?_
  refine V_iload 7 dX5_much_73 rfl ?_
  refine V_ic_ne (tgt := 82) dX5_much_75 (by decide) (fun c_6 => ?_) (fun c_6 => ?_)
  · have hf := if_s c_6 hf
    refine V_iconst (v := 0) dX5_much_82 (by decide) ?_
    refine V_sub [2, 3, 1, 0, 5, 6, 8] rfl ?_
    exact v_X5_much_83 hd cq14 hf t_k0
  · have hf := it_s c_6 hf
    refine V_iconst (v := 1) dX5_much_78 (by decide) ?_
    refine V_goto (tgt := 83) dX5_much_79 (by decide) ?_
    refine V_sub [2, 3, 1, 0, 5, 6, 8] rfl ?_
    exact v_X5_much_83 hd cq14 hf t_k0
set_option maxHeartbeats 4000000 in
set_option maxRecDepth 100000 in
theorem v_X5_much_14 {E : EV} {d : Nat} (hd : 2 ≤ d) {r0 : Int32} {h0 : AH} : ∀ (n : Nat) (k0 : Nat) (x1 : Int32) (x2 : Int32) (x3 : Int32) (x4 : Int32) (x5 : Int32) (x6 : Int32) (h : AH), f_X5_much_14 n k0 x1 x2 x3 x4 x5 x6 h = some (r0, h0) → kd k0 = (0, 5) → V E (d + 1) K_X5_much (ZI E r0 h0) h [(0, .ref k0), (1, .int x1), (2, .int x2), (3, .int x3), (4, .int x4), (5, .int x5), (6, .int x6)] [] 14 := by
  intro n
  induction n with
  | zero =>
    intro k0 x1 x2 x3 x4 x5 x6 h hf
    rw [f_X5_much_14] at hf
    cases hf
  | succ n ih =>
    intro k0 x1 x2 x3 x4 x5 x6 h hf t_k0
    rw [f_X5_much_14] at hf
    refine V_iload 6 dX5_much_14 rfl ?_
    refine V_aload_n 0 dX5_much_16 rfl rfl ?_
    refine V_getI F_X5_34 rfl t_k0 rfl dX5_much_17 ?_
    refine V_ic_ge (tgt := 101) dX5_much_20 (by decide) (fun c_1 => ?_) (fun c_1 => ?_)
    · have hf := it_s c_1 hf
      refine V_iload_n 1 dX5_much_101 rfl rfl ?_
      by_cases c_2 : x1 = 0
      · have hf := it_s c_2 hf
        refine V_tin (off := 26) (tgt := 128) dX5_much_102 c_2 (by decide) (by decide) (by decide) (by decide) ?_
        refine V_iload_n 2 dX5_much_128 rfl rfl ?_
        exact V_iret rfl (so_s hf) dX5_much_129
      · have hf := if_s c_2 hf
        by_cases c_3 : x1 = 1
        · have hf := it_s c_3 hf
          refine V_tin (off := 28) (tgt := 130) dX5_much_102 c_3 (by decide) (by decide) (by decide) (by decide) ?_
          refine V_iload_n 3 dX5_much_130 rfl rfl ?_
          exact V_iret rfl (so_s hf) dX5_much_131
        · have hf := if_s c_3 hf
          by_cases c_4 : x1 = 2
          · have hf := it_s c_4 hf
            refine V_tin (off := 30) (tgt := 132) dX5_much_102 c_4 (by decide) (by decide) (by decide) (by decide) ?_
            refine V_iload 4 dX5_much_132 rfl ?_
            exact V_iret rfl (so_s hf) dX5_much_134
          · have hf := if_s c_4 hf
            have z0 := ne_ti (i := 0) c_2 (by decide)
            have z1 := ne_ti (i := 1) c_3 (by decide)
            have z2 := ne_ti (i := 2) c_4 (by decide)
            refine V_tout (tgt := 135) dX5_much_102 (by omega) (by decide) ?_
            refine V_iload 5 dX5_much_135 rfl ?_
            exact V_iret rfl (so_s hf) dX5_much_137
    · have hf := if_s c_1 hf
      refine V_aload_n 0 dX5_much_23 rfl rfl ?_
      refine V_getR F_X5_9 rfl t_k0 rfl dX5_much_24 ?_
      refine V_iload 6 dX5_much_27 rfl ?_
      obtain ⟨b_5, hf⟩ := og_s hf
      refine V_iald (rfA t_k0 (Nat.le_of_ble_eq_true rfl) rfl rfl (by decide)) b_5 dX5_much_29 ?_
      obtain ⟨x7_6, e_7, hf⟩ := nm_s hf
      refine V_istore (L' := [(7, .int x7_6), (0, .ref k0), (1, .int x1), (2, .int x2), (3, .int x3), (4, .int x4), (5, .int x5), (6, .int x6)]) dX5_much_30 (Nat.le_of_ble_eq_true rfl) e_7 rfl ?_
      refine V_aload_n 1 dX5_much_32 rfl rfl ?_
      refine V_iload 0 dX5_much_33 rfl ?_
      obtain ⟨r_10, h_9, e_8, hf⟩ := ob_s hf
      refine V_cvi (As := [.int x7_6]) (rest := []) (c_X5_worthOf (d := d) (Nat.le_trans (Nat.le_of_ble_eq_true rfl) hd) e_8 t_k0) ML_X5_87 MV_X5_worthOf rfl t_k0 rfl rfl (Nat.le_of_ble_eq_true rfl) dX5_much_35 ?_
      refine V_istore (L' := [(8, .int r_10), (7, .int x7_6), (0, .ref k0), (1, .int x1), (2, .int x2), (3, .int x3), (4, .int x4), (5, .int x5), (6, .int x6)]) dX5_much_38 (Nat.le_of_ble_eq_true rfl) rfl rfl ?_
      refine V_iload_n 4 dX5_much_40 rfl rfl ?_
      refine V_aload_n 2 dX5_much_41 rfl rfl ?_
      refine V_getR F_X5_15 rfl t_k0 rfl dX5_much_42 ?_
      refine V_iload 1 dX5_much_45 rfl ?_
      obtain ⟨b_11, hf⟩ := og_s hf
      refine V_iald (rfA t_k0 (Nat.le_of_ble_eq_true rfl) rfl rfl (by decide)) b_11 dX5_much_47 ?_
      refine V_iconst (v := (-1)) dX5_much_48 (by decide) ?_
      refine V_ic_ne (tgt := 56) dX5_much_49 (by decide) (fun c_12 => ?_) (fun c_12 => ?_)
      · have hf := if_s c_12 hf
        refine V_iconst (v := 0) dX5_much_56 (by decide) ?_
        refine V_sub [2, 3, 5, 6, 7, 8, 1, 0] rfl ?_
        exact v_X5_much_57 hd ih hf t_k0
      · have hf := it_s c_12 hf
        refine V_iconst (v := 1) dX5_much_52 (by decide) ?_
        refine V_goto (tgt := 57) dX5_much_53 (by decide) ?_
        refine V_sub [2, 3, 5, 6, 7, 8, 1, 0] rfl ?_
        exact v_X5_much_57 hd ih hf t_k0
set_option maxHeartbeats 4000000 in
set_option maxRecDepth 100000 in
theorem c_X5_much {E : EV} {d : Nat} (hd : 2 + 1 ≤ d) {k0 : Nat} {x1 : Int32} {h : AH} {r0 : Int32} {h0 : AH} (hf : f_X5_much k0 x1 h = some (r0, h0)) (t_k0 : kd k0 = (0, 5)) : Con E d K_X5_much (ZI E r0 h0) [.ref k0, .int x1] h := by
  obtain ⟨d, rfl⟩ : ∃ d', d = d' + 1 := ⟨d - 1, by omega⟩
  have hd := Nat.le_of_succ_le_succ hd
  refine Con.ofV rfl (Nat.le_of_ble_eq_true rfl) ?_
  unfold f_X5_much at hf
  show V E (d + 1) K_X5_much (ZI E r0 h0) h [(0, .ref k0), (1, .int x1)] [] 0
  refine V_iconst (v := 0) dX5_much_0 (by decide) ?_
  refine V_istore_n (L' := [(2, .int 0), (0, .ref k0), (1, .int x1)]) dX5_much_1 rfl (Nat.le_of_ble_eq_true rfl) rfl rfl ?_
  refine V_iconst (v := 0) dX5_much_2 (by decide) ?_
  refine V_istore_n (L' := [(3, .int 0), (2, .int 0), (0, .ref k0), (1, .int x1)]) dX5_much_3 rfl (Nat.le_of_ble_eq_true rfl) rfl rfl ?_
  refine V_iconst (v := 0) dX5_much_4 (by decide) ?_
  refine V_istore (L' := [(4, .int 0), (3, .int 0), (2, .int 0), (0, .ref k0), (1, .int x1)]) dX5_much_5 (Nat.le_of_ble_eq_true rfl) rfl rfl ?_
  refine V_bipush (v := 99) dX5_much_7 (by decide) ?_
  refine V_istore (L' := [(5, .int 99), (4, .int 0), (3, .int 0), (2, .int 0), (0, .ref k0), (1, .int x1)]) dX5_much_9 (Nat.le_of_ble_eq_true rfl) rfl rfl ?_
  refine V_iconst (v := 0) dX5_much_11 (by decide) ?_
  refine V_istore (L' := [(6, .int 0), (5, .int 99), (4, .int 0), (3, .int 0), (2, .int 0), (0, .ref k0), (1, .int x1)]) dX5_much_12 (Nat.le_of_ble_eq_true rfl) rfl rfl ?_
  refine V_sub [5, 6, 4, 3, 2, 1, 0] rfl ?_
  exact v_X5_much_14 hd FU _ _ _ _ _ _ _ _ hf t_k0
theorem dX5_number_0 : decode cX5_number 0 = .ok (.iconst 0, 1) := by decide +kernel
theorem dX5_number_1 : decode cX5_number 1 = .ok (.istore_n 1, 1) := by decide +kernel
theorem dX5_number_2 : decode cX5_number 2 = .ok (.iconst 0, 1) := by decide +kernel
theorem dX5_number_3 : decode cX5_number 3 = .ok (.istore_n 2, 1) := by decide +kernel
theorem dX5_number_4 : decode cX5_number 4 = .ok (.iload_n 2, 1) := by decide +kernel
theorem dX5_number_5 : decode cX5_number 5 = .ok (.aload_n 0, 1) := by decide +kernel
theorem dX5_number_6 : decode cX5_number 6 = .ok (.getfield 34, 3) := by decide +kernel
theorem dX5_number_9 : decode cX5_number 9 = .ok (.if_icmp .ge 21, 3) := by decide +kernel
theorem dX5_number_12 : decode cX5_number 12 = .ok (.iload_n 1, 1) := by decide +kernel
theorem dX5_number_13 : decode cX5_number 13 = .ok (.bipush 10, 2) := by decide +kernel
theorem dX5_number_15 : decode cX5_number 15 = .ok (.imul, 1) := by decide +kernel
theorem dX5_number_16 : decode cX5_number 16 = .ok (.aload_n 0, 1) := by decide +kernel
theorem dX5_number_17 : decode cX5_number 17 = .ok (.getfield 9, 3) := by decide +kernel
theorem dX5_number_20 : decode cX5_number 20 = .ok (.iload_n 2, 1) := by decide +kernel
theorem dX5_number_21 : decode cX5_number 21 = .ok (.iaload, 1) := by decide +kernel
theorem dX5_number_22 : decode cX5_number 22 = .ok (.iadd, 1) := by decide +kernel
theorem dX5_number_23 : decode cX5_number 23 = .ok (.istore_n 1, 1) := by decide +kernel
theorem dX5_number_24 : decode cX5_number 24 = .ok (.iinc 2 1, 3) := by decide +kernel
theorem dX5_number_27 : decode cX5_number 27 = .ok (.goto (-23), 3) := by decide +kernel
theorem dX5_number_30 : decode cX5_number 30 = .ok (.iload_n 1, 1) := by decide +kernel
theorem dX5_number_31 : decode cX5_number 31 = .ok (.ireturn, 1) := by decide +kernel
def f_X5_number_4 : Nat → Nat → Int32 → Int32 → AH → Option (Int32 × AH)
  | 0, _, _, _, _ => none
  | n + 1, k0, x1, x2, h =>
    if (h.1 k0 2) ≤ x2 then (
      some (x1, h)
    ) else (
      og (ix x2 (an (rf k0 1))) <|
      nm (((x1 * 10) + (h.1 (rf k0 1) x2.toNatClampNeg))) fun x1_3 =>
      nm (x2 + 1) fun x2_5 =>
      f_X5_number_4 n k0 x1_3 x2_5 h
    )
def f_X5_number (k0 : Nat) (h : AH) : Option (Int32 × AH) :=
  f_X5_number_4 FU k0 0 0 h
set_option maxHeartbeats 4000000 in
set_option maxRecDepth 100000 in
theorem v_X5_number_4 {E : EV} {d : Nat} (hd : 0 ≤ d) {r0 : Int32} {h0 : AH} : ∀ (n : Nat) (k0 : Nat) (x1 : Int32) (x2 : Int32) (h : AH), f_X5_number_4 n k0 x1 x2 h = some (r0, h0) → kd k0 = (0, 5) → V E (d + 1) K_X5_number (ZI E r0 h0) h [(0, .ref k0), (1, .int x1), (2, .int x2)] [] 4 := by
  intro n
  induction n with
  | zero =>
    intro k0 x1 x2 h hf
    rw [f_X5_number_4] at hf
    cases hf
  | succ n ih =>
    intro k0 x1 x2 h hf t_k0
    rw [f_X5_number_4] at hf
    refine V_iload_n 2 dX5_number_4 rfl rfl ?_
    refine V_aload_n 0 dX5_number_5 rfl rfl ?_
    refine V_getI F_X5_34 rfl t_k0 rfl dX5_number_6 ?_
    refine V_ic_ge (tgt := 30) dX5_number_9 (by decide) (fun c_1 => ?_) (fun c_1 => ?_)
    · have hf := it_s c_1 hf
      refine V_iload_n 1 dX5_number_30 rfl rfl ?_
      exact V_iret rfl (so_s hf) dX5_number_31
    · have hf := if_s c_1 hf
      refine V_iload_n 1 dX5_number_12 rfl rfl ?_
      refine V_bipush (v := 10) dX5_number_13 (by decide) ?_
      refine V_imul dX5_number_15 ?_
      refine V_aload_n 0 dX5_number_16 rfl rfl ?_
      refine V_getR F_X5_9 rfl t_k0 rfl dX5_number_17 ?_
      refine V_iload_n 2 dX5_number_20 rfl rfl ?_
      obtain ⟨b_2, hf⟩ := og_s hf
      refine V_iald (rfA t_k0 (Nat.le_of_ble_eq_true rfl) rfl rfl (by decide)) b_2 dX5_number_21 ?_
      refine V_iadd dX5_number_22 ?_
      obtain ⟨x1_3, e_4, hf⟩ := nm_s hf
      refine V_istore_n (L' := [(1, .int x1_3), (0, .ref k0), (2, .int x2)]) dX5_number_23 rfl (Nat.le_of_ble_eq_true rfl) e_4 rfl ?_
      obtain ⟨x2_5, e_6, hf⟩ := nm_s hf
      refine V_iinc (a := 1) (L' := [(2, .int x2_5), (1, .int x1_3), (0, .ref k0)]) 2 dX5_number_24 rfl (by decide) (Nat.le_of_ble_eq_true rfl) e_6 rfl ?_
      refine V_goto (tgt := 4) dX5_number_27 (by decide) ?_
      refine V_sub [2, 1, 0] rfl ?_
      exact ih _ _ _ _ hf t_k0
set_option maxHeartbeats 4000000 in
set_option maxRecDepth 100000 in
theorem c_X5_number {E : EV} {d : Nat} (hd : 0 + 1 ≤ d) {k0 : Nat} {h : AH} {r0 : Int32} {h0 : AH} (hf : f_X5_number k0 h = some (r0, h0)) (t_k0 : kd k0 = (0, 5)) : Con E d K_X5_number (ZI E r0 h0) [.ref k0] h := by
  obtain ⟨d, rfl⟩ : ∃ d', d = d' + 1 := ⟨d - 1, by omega⟩
  have hd := Nat.le_of_succ_le_succ hd
  refine Con.ofV rfl (Nat.le_of_ble_eq_true rfl) ?_
  unfold f_X5_number at hf
  show V E (d + 1) K_X5_number (ZI E r0 h0) h [(0, .ref k0)] [] 0
  refine V_iconst (v := 0) dX5_number_0 (by decide) ?_
  refine V_istore_n (L' := [(1, .int 0), (0, .ref k0)]) dX5_number_1 rfl (Nat.le_of_ble_eq_true rfl) rfl rfl ?_
  refine V_iconst (v := 0) dX5_number_2 (by decide) ?_
  refine V_istore_n (L' := [(2, .int 0), (1, .int 0), (0, .ref k0)]) dX5_number_3 rfl (Nat.le_of_ble_eq_true rfl) rfl rfl ?_
  refine V_sub [2, 1, 0] rfl ?_
  exact v_X5_number_4 hd FU _ _ _ _ hf t_k0
theorem dX11_host_0 : decode cX11_host 0 = .ok (.aload_n 0, 1) := by decide +kernel
theorem dX11_host_1 : decode cX11_host 1 = .ok (.iload_n 1, 1) := by decide +kernel
theorem dX11_host_2 : decode cX11_host 2 = .ok (.iload_n 2, 1) := by decide +kernel
theorem dX11_host_3 : decode cX11_host 3 = .ok (.invokevirtual 182, 3) := by decide +kernel
theorem dX11_host_6 : decode cX11_host 6 = .ok (.ifCond .eq 23, 3) := by decide +kernel
theorem dX11_host_9 : decode cX11_host 9 = .ok (.iload_n 3, 1) := by decide +kernel
theorem dX11_host_10 : decode cX11_host 10 = .ok (.ifCond .lt 19, 3) := by decide +kernel
theorem dX11_host_13 : decode cX11_host 13 = .ok (.iload_n 3, 1) := by decide +kernel
theorem dX11_host_14 : decode cX11_host 14 = .ok (.iconst 3, 1) := by decide +kernel
theorem dX11_host_15 : decode cX11_host 15 = .ok (.if_icmp .gt 14, 3) := by decide +kernel
theorem dX11_host_18 : decode cX11_host 18 = .ok (.iload 4, 2) := by decide +kernel
theorem dX11_host_20 : decode cX11_host 20 = .ok (.ifCond .lt 9, 3) := by decide +kernel
theorem dX11_host_23 : decode cX11_host 23 = .ok (.iload 4, 2) := by decide +kernel
theorem dX11_host_25 : decode cX11_host 25 = .ok (.iconst 1, 1) := by decide +kernel
theorem dX11_host_26 : decode cX11_host 26 = .ok (.if_icmp .le 5, 3) := by decide +kernel
theorem dX11_host_29 : decode cX11_host 29 = .ok (.iconst (-1), 1) := by decide +kernel
theorem dX11_host_30 : decode cX11_host 30 = .ok (.ireturn, 1) := by decide +kernel
theorem dX11_host_31 : decode cX11_host 31 = .ok (.aload_n 0, 1) := by decide +kernel
theorem dX11_host_32 : decode cX11_host 32 = .ok (.getfield 73, 3) := by decide +kernel
theorem dX11_host_35 : decode cX11_host 35 = .ok (.aload_n 0, 1) := by decide +kernel
theorem dX11_host_36 : decode cX11_host 36 = .ok (.iload_n 1, 1) := by decide +kernel
theorem dX11_host_37 : decode cX11_host 37 = .ok (.iload_n 2, 1) := by decide +kernel
theorem dX11_host_38 : decode cX11_host 38 = .ok (.invokevirtual 195, 3) := by decide +kernel
theorem dX11_host_41 : decode cX11_host 41 = .ok (.iload_n 2, 1) := by decide +kernel
theorem dX11_host_42 : decode cX11_host 42 = .ok (.invokevirtual 235, 3) := by decide +kernel
theorem dX11_host_45 : decode cX11_host 45 = .ok (.istore 5, 2) := by decide +kernel
theorem dX11_host_47 : decode cX11_host 47 = .ok (.iconst 0, 1) := by decide +kernel
theorem dX11_host_48 : decode cX11_host 48 = .ok (.istore 6, 2) := by decide +kernel
theorem dX11_host_50 : decode cX11_host 50 = .ok (.iconst 0, 1) := by decide +kernel
theorem dX11_host_51 : decode cX11_host 51 = .ok (.istore 7, 2) := by decide +kernel
theorem dX11_host_53 : decode cX11_host 53 = .ok (.iconst 0, 1) := by decide +kernel
theorem dX11_host_54 : decode cX11_host 54 = .ok (.istore 8, 2) := by decide +kernel
theorem dX11_host_56 : decode cX11_host 56 = .ok (.iconst 0, 1) := by decide +kernel
theorem dX11_host_57 : decode cX11_host 57 = .ok (.istore 9, 2) := by decide +kernel
theorem dX11_host_59 : decode cX11_host 59 = .ok (.iload 9, 2) := by decide +kernel
theorem dX11_host_61 : decode cX11_host 61 = .ok (.iload 5, 2) := by decide +kernel
theorem dX11_host_63 : decode cX11_host 63 = .ok (.if_icmp .ge 93, 3) := by decide +kernel
theorem dX11_host_66 : decode cX11_host 66 = .ok (.aload_n 0, 1) := by decide +kernel
theorem dX11_host_67 : decode cX11_host 67 = .ok (.getfield 73, 3) := by decide +kernel
theorem dX11_host_70 : decode cX11_host 70 = .ok (.iload 8, 2) := by decide +kernel
theorem dX11_host_72 : decode cX11_host 72 = .ok (.invokevirtual 200, 3) := by decide +kernel
theorem dX11_host_75 : decode cX11_host 75 = .ok (.aload_n 0, 1) := by decide +kernel
theorem dX11_host_76 : decode cX11_host 76 = .ok (.getfield 73, 3) := by decide +kernel
theorem dX11_host_79 : decode cX11_host 79 = .ok (.iload_n 3, 1) := by decide +kernel
theorem dX11_host_80 : decode cX11_host 80 = .ok (.invokevirtual 238, 3) := by decide +kernel
theorem dX11_host_83 : decode cX11_host 83 = .ok (.istore 10, 2) := by decide +kernel
theorem dX11_host_85 : decode cX11_host 85 = .ok (.iload_n 3, 1) := by decide +kernel
theorem dX11_host_86 : decode cX11_host 86 = .ok (.ifCond .ne 18, 3) := by decide +kernel
theorem dX11_host_89 : decode cX11_host 89 = .ok (.iload 10, 2) := by decide +kernel
theorem dX11_host_91 : decode cX11_host 91 = .ok (.iload 7, 2) := by decide +kernel
theorem dX11_host_93 : decode cX11_host 93 = .ok (.if_icmp .ge 7, 3) := by decide +kernel
theorem dX11_host_96 : decode cX11_host 96 = .ok (.iconst 1, 1) := by decide +kernel
theorem dX11_host_97 : decode cX11_host 97 = .ok (.goto 19, 3) := by decide +kernel
theorem dX11_host_100 : decode cX11_host 100 = .ok (.iconst 0, 1) := by decide +kernel
theorem dX11_host_101 : decode cX11_host 101 = .ok (.goto 15, 3) := by decide +kernel
theorem dX11_host_104 : decode cX11_host 104 = .ok (.iload 10, 2) := by decide +kernel
theorem dX11_host_106 : decode cX11_host 106 = .ok (.iload 7, 2) := by decide +kernel
theorem dX11_host_108 : decode cX11_host 108 = .ok (.if_icmp .le 7, 3) := by decide +kernel
theorem dX11_host_111 : decode cX11_host 111 = .ok (.iconst 1, 1) := by decide +kernel
theorem dX11_host_112 : decode cX11_host 112 = .ok (.goto 4, 3) := by decide +kernel
theorem dX11_host_115 : decode cX11_host 115 = .ok (.iconst 0, 1) := by decide +kernel
theorem dX11_host_116 : decode cX11_host 116 = .ok (.istore 11, 2) := by decide +kernel
theorem dX11_host_118 : decode cX11_host 118 = .ok (.iload 9, 2) := by decide +kernel
theorem dX11_host_120 : decode cX11_host 120 = .ok (.ifCond .eq 8, 3) := by decide +kernel
theorem dX11_host_123 : decode cX11_host 123 = .ok (.iload 11, 2) := by decide +kernel
theorem dX11_host_125 : decode cX11_host 125 = .ok (.ifCond .eq 16, 3) := by decide +kernel
theorem dX11_host_128 : decode cX11_host 128 = .ok (.iload 10, 2) := by decide +kernel
theorem dX11_host_130 : decode cX11_host 130 = .ok (.istore 7, 2) := by decide +kernel
theorem dX11_host_132 : decode cX11_host 132 = .ok (.aload_n 0, 1) := by decide +kernel
theorem dX11_host_133 : decode cX11_host 133 = .ok (.getfield 73, 3) := by decide +kernel
theorem dX11_host_136 : decode cX11_host 136 = .ok (.invokevirtual 241, 3) := by decide +kernel
theorem dX11_host_139 : decode cX11_host 139 = .ok (.istore 6, 2) := by decide +kernel
theorem dX11_host_141 : decode cX11_host 141 = .ok (.aload_n 0, 1) := by decide +kernel
theorem dX11_host_142 : decode cX11_host 142 = .ok (.getfield 73, 3) := by decide +kernel
theorem dX11_host_145 : decode cX11_host 145 = .ok (.invokevirtual 244, 3) := by decide +kernel
theorem dX11_host_148 : decode cX11_host 148 = .ok (.istore 8, 2) := by decide +kernel
theorem dX11_host_150 : decode cX11_host 150 = .ok (.iinc 9 1, 3) := by decide +kernel
theorem dX11_host_153 : decode cX11_host 153 = .ok (.goto (-94), 3) := by decide +kernel
theorem dX11_host_156 : decode cX11_host 156 = .ok (.iload 4, 2) := by decide +kernel
theorem dX11_host_158 : decode cX11_host 158 = .ok (.ifCond .ne 8, 3) := by decide +kernel
theorem dX11_host_161 : decode cX11_host 161 = .ok (.iload 6, 2) := by decide +kernel
theorem dX11_host_163 : decode cX11_host 163 = .ok (.goto 5, 3) := by decide +kernel
theorem dX11_host_166 : decode cX11_host 166 = .ok (.iload 7, 2) := by decide +kernel
theorem dX11_host_168 : decode cX11_host 168 = .ok (.ireturn, 1) := by decide +kernel
theorem ML_X11_244 : MLk RX11 244 yX5_advance := Or.inl ml_X11_244
theorem ML_X11_241 : MLk RX11 241 yX5_number := Or.inl ml_X11_241
theorem MV_X5_number : MVk K_X5_number 0 5 := ⟨⟨cd_X5_number, in_X5, ⟨by decide, by decide, by decide +kernel⟩, by decide⟩, im_X5_number, se_X5_number, _, _, rfl⟩
theorem ML_X11_238 : MLk RX11 238 yX5_much := Or.inl ml_X11_238
theorem MV_X5_much : MVk K_X5_much 1 5 := ⟨⟨cd_X5_much, in_X5, ⟨by decide, by decide, by decide +kernel⟩, by decide⟩, im_X5_much, se_X5_much, _, _, rfl⟩
theorem ML_X11_235 : MLk RX11 235 yX5_first := Or.inl ml_X11_235
def f_X11_host_29  (h : AH) : Option (Int32 × AH) :=
  some ((-1), h)
def f_X11_host_141 (q59 : Nat → Int32 → Int32 → Int32 → Int32 → Int32 → Int32 → Int32 → AH → Option (Int32 × AH)) (k0 : Nat) (x3 : Int32) (x4 : Int32) (x5 : Int32) (x6 : Int32) (x7 : Int32) (x9 : Int32) (h : AH) : Option (Int32 × AH) :=
  ob (f_X5_advance (rf k0 11) h) fun r_3 h_2 =>
  nm (x9 + 1) fun x9_4 =>
  q59 k0 x3 x4 x5 x6 x7 r_3 x9_4 h_2
def f_X11_host_128 (q59 : Nat → Int32 → Int32 → Int32 → Int32 → Int32 → Int32 → Int32 → AH → Option (Int32 × AH)) (k0 : Nat) (x3 : Int32) (x4 : Int32) (x5 : Int32) (x9 : Int32) (x10 : Int32) (h : AH) : Option (Int32 × AH) :=
  ob (f_X5_number (rf k0 11) h) fun r_3 h_2 =>
  f_X11_host_141 q59 k0 x3 x4 x5 r_3 x10 x9 h_2
def f_X11_host_116 (q59 : Nat → Int32 → Int32 → Int32 → Int32 → Int32 → Int32 → Int32 → AH → Option (Int32 × AH)) (k0 : Nat) (x3 : Int32) (x4 : Int32) (x5 : Int32) (x6 : Int32) (x7 : Int32) (x9 : Int32) (x10 : Int32) (s0 : Int32) (h : AH) : Option (Int32 × AH) :=
  if x9 = 0 then (
    f_X11_host_128 q59 k0 x3 x4 x5 x9 x10 h
  ) else (
    if s0 = 0 then (
      f_X11_host_141 q59 k0 x3 x4 x5 x6 x7 x9 h
    ) else (
      f_X11_host_128 q59 k0 x3 x4 x5 x9 x10 h
    )
  )
def f_X11_host_168 (s0 : Int32) (h : AH) : Option (Int32 × AH) :=
  some (s0, h)
def f_X11_host_59 : Nat → Nat → Int32 → Int32 → Int32 → Int32 → Int32 → Int32 → Int32 → AH → Option (Int32 × AH)
  | 0, _, _, _, _, _, _, _, _, _ => none
  | n + 1, k0, x3, x4, x5, x6, x7, x8, x9, h =>
    if x5 ≤ x9 then (
      if x4 = 0 then (
        f_X11_host_168 x6 h
      ) else (
        f_X11_host_168 x7 h
      )
    ) else (
      ov (f_X5_go (rf k0 11) x8 h) fun h_4 =>
      ob (f_X5_much (rf k0 11) x3 h_4) fun r_7 h_6 =>
      if x3 = 0 then (
        if x7 ≤ r_7 then (
          f_X11_host_116 (f_X11_host_59 n) k0 x3 x4 x5 x6 x7 x9 r_7 0 h_6
        ) else (
          f_X11_host_116 (f_X11_host_59 n) k0 x3 x4 x5 x6 x7 x9 r_7 1 h_6
        )
      ) else (
        if r_7 ≤ x7 then (
          f_X11_host_116 (f_X11_host_59 n) k0 x3 x4 x5 x6 x7 x9 r_7 0 h_6
        ) else (
          f_X11_host_116 (f_X11_host_59 n) k0 x3 x4 x5 x6 x7 x9 r_7 1 h_6
        )
      )
    )
def f_X11_host (k0 : Nat) (x1 : Int32) (x2 : Int32) (x3 : Int32) (x4 : Int32) (h : AH) : Option (Int32 × AH) :=
  ob (f_X11_isParty k0 x1 x2 h) fun r_3 h_2 =>
  if r_3 = 0 then (
    f_X11_host_29 h_2
  ) else (
    if x3 < 0 then (
      f_X11_host_29 h_2
    ) else (
      if 3 < x3 then (
        f_X11_host_29 h_2
      ) else (
        if x4 < 0 then (
          f_X11_host_29 h_2
        ) else (
          if x4 ≤ 1 then (
            ob (f_X11_openDoor k0 x1 x2 h_2) fun r_11 h_10 =>
            ob (f_X5_first (rf k0 11) r_11 x2 h_10) fun r_14 h_13 =>
            f_X11_host_59 FU k0 x3 x4 r_14 0 0 0 0 h_13
          ) else (
            f_X11_host_29 h_2
          )
        )
      )
    )
  )
set_option maxHeartbeats 4000000 in
set_option maxRecDepth 100000 in
theorem v_X11_host_29 {E : EV} {d : Nat} (hd : 5 ≤ d) {r0 : Int32} {h0 : AH}  {h : AH} (hf : f_X11_host_29 h = some (r0, h0)) : V E (d + 1) K_X11_host (ZI E r0 h0) h [] [] 29 := by
  unfold f_X11_host_29 at hf
  refine V_iconst (v := (-1)) dX11_host_29 (by decide) ?_
  exact V_iret rfl (so_s hf) dX11_host_30
set_option maxHeartbeats 4000000 in
set_option maxRecDepth 100000 in
theorem v_X11_host_141 {E : EV} {d : Nat} (hd : 5 ≤ d) {r0 : Int32} {h0 : AH} {q59 : Nat → Int32 → Int32 → Int32 → Int32 → Int32 → Int32 → Int32 → AH → Option (Int32 × AH)} (cq59 : ∀ (k0 : Nat) (x3 : Int32) (x4 : Int32) (x5 : Int32) (x6 : Int32) (x7 : Int32) (x8 : Int32) (x9 : Int32) (h : AH), q59 k0 x3 x4 x5 x6 x7 x8 x9 h = some (r0, h0) → kd k0 = (0, 11) → V E (d + 1) K_X11_host (ZI E r0 h0) h [(0, .ref k0), (3, .int x3), (4, .int x4), (5, .int x5), (6, .int x6), (7, .int x7), (8, .int x8), (9, .int x9)] [] 59) {k0 : Nat} {x3 : Int32} {x4 : Int32} {x5 : Int32} {x6 : Int32} {x7 : Int32} {x9 : Int32} {h : AH} (hf : f_X11_host_141 q59 k0 x3 x4 x5 x6 x7 x9 h = some (r0, h0)) (t_k0 : kd k0 = (0, 11)) : V E (d + 1) K_X11_host (ZI E r0 h0) h [(0, .ref k0), (3, .int x3), (4, .int x4), (5, .int x5), (6, .int x6), (7, .int x7), (9, .int x9)] [] 141 := by
  unfold f_X11_host_141 at hf
  refine V_aload_n 0 dX11_host_141 rfl rfl ?_
  refine V_getR F_X11_73 rfl t_k0 rfl dX11_host_142 ?_
  obtain ⟨r_3, h_2, e_1, hf⟩ := ob_s hf
  refine V_cvi (As := []) (rest := []) (c_X5_advance (d := d) (Nat.le_trans (Nat.le_of_ble_eq_true rfl) hd) e_1 (rfO t_k0 (Nat.le_of_ble_eq_true rfl) rfl rfl)) ML_X11_244 MV_X5_advance rfl (rfO t_k0 (Nat.le_of_ble_eq_true rfl) rfl rfl) rfl rfl (Nat.le_of_ble_eq_true rfl) dX11_host_145 ?_
  refine V_istore (L' := [(8, .int r_3), (0, .ref k0), (3, .int x3), (4, .int x4), (5, .int x5), (6, .int x6), (7, .int x7), (9, .int x9)]) dX11_host_148 (Nat.le_of_ble_eq_true rfl) rfl rfl ?_
  obtain ⟨x9_4, e_5, hf⟩ := nm_s hf
  refine V_iinc (a := 1) (L' := [(9, .int x9_4), (8, .int r_3), (0, .ref k0), (3, .int x3), (4, .int x4), (5, .int x5), (6, .int x6), (7, .int x7)]) 7 dX11_host_150 rfl (by decide) (Nat.le_of_ble_eq_true rfl) e_5 rfl ?_
  refine V_goto (tgt := 59) dX11_host_153 (by decide) ?_
  refine V_sub [2, 3, 4, 5, 6, 7, 1, 0] rfl ?_
  exact cq59 _ _ _ _ _ _ _ _ _ hf t_k0
set_option maxHeartbeats 4000000 in
set_option maxRecDepth 100000 in
theorem v_X11_host_128 {E : EV} {d : Nat} (hd : 5 ≤ d) {r0 : Int32} {h0 : AH} {q59 : Nat → Int32 → Int32 → Int32 → Int32 → Int32 → Int32 → Int32 → AH → Option (Int32 × AH)} (cq59 : ∀ (k0 : Nat) (x3 : Int32) (x4 : Int32) (x5 : Int32) (x6 : Int32) (x7 : Int32) (x8 : Int32) (x9 : Int32) (h : AH), q59 k0 x3 x4 x5 x6 x7 x8 x9 h = some (r0, h0) → kd k0 = (0, 11) → V E (d + 1) K_X11_host (ZI E r0 h0) h [(0, .ref k0), (3, .int x3), (4, .int x4), (5, .int x5), (6, .int x6), (7, .int x7), (8, .int x8), (9, .int x9)] [] 59) {k0 : Nat} {x3 : Int32} {x4 : Int32} {x5 : Int32} {x9 : Int32} {x10 : Int32} {h : AH} (hf : f_X11_host_128 q59 k0 x3 x4 x5 x9 x10 h = some (r0, h0)) (t_k0 : kd k0 = (0, 11)) : V E (d + 1) K_X11_host (ZI E r0 h0) h [(0, .ref k0), (3, .int x3), (4, .int x4), (5, .int x5), (9, .int x9), (10, .int x10)] [] 128 := by
  unfold f_X11_host_128 at hf
  refine V_iload 5 dX11_host_128 rfl ?_
  refine V_istore (L' := [(7, .int x10), (0, .ref k0), (3, .int x3), (4, .int x4), (5, .int x5), (9, .int x9), (10, .int x10)]) dX11_host_130 (Nat.le_of_ble_eq_true rfl) rfl rfl ?_
  refine V_aload_n 1 dX11_host_132 rfl rfl ?_
  refine V_getR F_X11_73 rfl t_k0 rfl dX11_host_133 ?_
  obtain ⟨r_3, h_2, e_1, hf⟩ := ob_s hf
  refine V_cvi (As := []) (rest := []) (c_X5_number (d := d) (Nat.le_trans (Nat.le_of_ble_eq_true rfl) hd) e_1 (rfO t_k0 (Nat.le_of_ble_eq_true rfl) rfl rfl)) ML_X11_241 MV_X5_number rfl (rfO t_k0 (Nat.le_of_ble_eq_true rfl) rfl rfl) rfl rfl (Nat.le_of_ble_eq_true rfl) dX11_host_136 ?_
  refine V_istore (L' := [(6, .int r_3), (7, .int x10), (0, .ref k0), (3, .int x3), (4, .int x4), (5, .int x5), (9, .int x9), (10, .int x10)]) dX11_host_139 (Nat.le_of_ble_eq_true rfl) rfl rfl ?_
  refine V_sub [2, 3, 4, 5, 0, 1, 6] rfl ?_
  exact v_X11_host_141 hd cq59 hf t_k0
set_option maxHeartbeats 4000000 in
set_option maxRecDepth 100000 in
theorem v_X11_host_116 {E : EV} {d : Nat} (hd : 5 ≤ d) {r0 : Int32} {h0 : AH} {q59 : Nat → Int32 → Int32 → Int32 → Int32 → Int32 → Int32 → Int32 → AH → Option (Int32 × AH)} (cq59 : ∀ (k0 : Nat) (x3 : Int32) (x4 : Int32) (x5 : Int32) (x6 : Int32) (x7 : Int32) (x8 : Int32) (x9 : Int32) (h : AH), q59 k0 x3 x4 x5 x6 x7 x8 x9 h = some (r0, h0) → kd k0 = (0, 11) → V E (d + 1) K_X11_host (ZI E r0 h0) h [(0, .ref k0), (3, .int x3), (4, .int x4), (5, .int x5), (6, .int x6), (7, .int x7), (8, .int x8), (9, .int x9)] [] 59) {k0 : Nat} {x3 : Int32} {x4 : Int32} {x5 : Int32} {x6 : Int32} {x7 : Int32} {x9 : Int32} {x10 : Int32} {s0 : Int32} {h : AH} (hf : f_X11_host_116 q59 k0 x3 x4 x5 x6 x7 x9 x10 s0 h = some (r0, h0)) (t_k0 : kd k0 = (0, 11)) : V E (d + 1) K_X11_host (ZI E r0 h0) h [(0, .ref k0), (3, .int x3), (4, .int x4), (5, .int x5), (6, .int x6), (7, .int x7), (9, .int x9), (10, .int x10)] [.int s0] 116 := by
  unfold f_X11_host_116 at hf
  refine V_istore (L' := [(11, .int s0), (0, .ref k0), (3, .int x3), (4, .int x4), (5, .int x5), (6, .int x6), (7, .int x7), (9, .int x9), (10, .int x10)]) dX11_host_116 (Nat.le_of_ble_eq_true rfl) rfl rfl ?_
  refine V_iload 7 dX11_host_118 rfl ?_
  refine V_if_eq (tgt := 128) dX11_host_120 (by decide) (fun c_1 => ?_) (fun c_1 => ?_)
  · have hf := it_s c_1 hf
    refine V_sub [1, 2, 3, 4, 7, 8] rfl ?_
    exact v_X11_host_128 hd cq59 hf t_k0
  · have hf := if_s c_1 hf
    refine V_iload 0 dX11_host_123 rfl ?_
    refine V_if_eq (tgt := 141) dX11_host_125 (by decide) (fun c_2 => ?_) (fun c_2 => ?_)
    · have hf := it_s c_2 hf
      refine V_sub [1, 2, 3, 4, 5, 6, 7] rfl ?_
      exact v_X11_host_141 hd cq59 hf t_k0
    · have hf := if_s c_2 hf
      refine V_sub [1, 2, 3, 4, 7, 8] rfl ?_
      exact v_X11_host_128 hd cq59 hf t_k0
set_option maxHeartbeats 4000000 in
set_option maxRecDepth 100000 in
theorem v_X11_host_168 {E : EV} {d : Nat} (hd : 5 ≤ d) {r0 : Int32} {h0 : AH} {s0 : Int32} {h : AH} (hf : f_X11_host_168 s0 h = some (r0, h0)) : V E (d + 1) K_X11_host (ZI E r0 h0) h [] [.int s0] 168 := by
  unfold f_X11_host_168 at hf
  exact V_iret rfl (so_s hf) dX11_host_168
set_option maxHeartbeats 4000000 in
set_option maxRecDepth 100000 in
theorem v_X11_host_59 {E : EV} {d : Nat} (hd : 5 ≤ d) {r0 : Int32} {h0 : AH} : ∀ (n : Nat) (k0 : Nat) (x3 : Int32) (x4 : Int32) (x5 : Int32) (x6 : Int32) (x7 : Int32) (x8 : Int32) (x9 : Int32) (h : AH), f_X11_host_59 n k0 x3 x4 x5 x6 x7 x8 x9 h = some (r0, h0) → kd k0 = (0, 11) → V E (d + 1) K_X11_host (ZI E r0 h0) h [(0, .ref k0), (3, .int x3), (4, .int x4), (5, .int x5), (6, .int x6), (7, .int x7), (8, .int x8), (9, .int x9)] [] 59 := by
  intro n
  induction n with
  | zero =>
    intro k0 x3 x4 x5 x6 x7 x8 x9 h hf
    rw [f_X11_host_59] at hf
    cases hf
  | succ n ih =>
    intro k0 x3 x4 x5 x6 x7 x8 x9 h hf t_k0
    rw [f_X11_host_59] at hf
    refine V_iload 7 dX11_host_59 rfl ?_
    refine V_iload 3 dX11_host_61 rfl ?_
    refine V_ic_ge (tgt := 156) dX11_host_63 (by decide) (fun c_1 => ?_) (fun c_1 => ?_)
    · have hf := it_s c_1 hf
      refine V_iload 2 dX11_host_156 rfl ?_
      refine V_if_ne (tgt := 166) dX11_host_158 (by decide) (fun c_2 => ?_) (fun c_2 => ?_)
      · have hf := if_s c_2 hf
        refine V_iload 5 dX11_host_166 rfl ?_
        refine V_sub [] rfl ?_
        exact v_X11_host_168 hd hf
      · have hf := it_s c_2 hf
        refine V_iload 4 dX11_host_161 rfl ?_
        refine V_goto (tgt := 168) dX11_host_163 (by decide) ?_
        refine V_sub [] rfl ?_
        exact v_X11_host_168 hd hf
    · have hf := if_s c_1 hf
      refine V_aload_n 0 dX11_host_66 rfl rfl ?_
      refine V_getR F_X11_73 rfl t_k0 rfl dX11_host_67 ?_
      refine V_iload 6 dX11_host_70 rfl ?_
      obtain ⟨h_4, e_3, hf⟩ := ov_s hf
      refine V_cvv (As := [.int x8]) (rest := []) (c_X5_go (d := d) (Nat.le_trans (Nat.le_of_ble_eq_true rfl) hd) e_3 (rfO t_k0 (Nat.le_of_ble_eq_true rfl) rfl rfl)) ML_X11_200 MV_X5_go rfl (rfO t_k0 (Nat.le_of_ble_eq_true rfl) rfl rfl) rfl rfl (Nat.le_of_ble_eq_true rfl) dX11_host_72 ?_
      refine V_aload_n 0 dX11_host_75 rfl rfl ?_
      refine V_getR F_X11_73 rfl t_k0 rfl dX11_host_76 ?_
      refine V_iload_n 1 dX11_host_79 rfl rfl ?_
      obtain ⟨r_7, h_6, e_5, hf⟩ := ob_s hf
      refine V_cvi (As := [.int x3]) (rest := []) (c_X5_much (d := d) (Nat.le_trans (Nat.le_of_ble_eq_true rfl) hd) e_5 (rfO t_k0 (Nat.le_of_ble_eq_true rfl) rfl rfl)) ML_X11_238 MV_X5_much rfl (rfO t_k0 (Nat.le_of_ble_eq_true rfl) rfl rfl) rfl rfl (Nat.le_of_ble_eq_true rfl) dX11_host_80 ?_
      refine V_istore (L' := [(10, .int r_7), (0, .ref k0), (3, .int x3), (4, .int x4), (5, .int x5), (6, .int x6), (7, .int x7), (8, .int x8), (9, .int x9)]) dX11_host_83 (Nat.le_of_ble_eq_true rfl) rfl rfl ?_
      refine V_iload_n 2 dX11_host_85 rfl rfl ?_
      refine V_if_ne (tgt := 104) dX11_host_86 (by decide) (fun c_8 => ?_) (fun c_8 => ?_)
      · have hf := if_s c_8 hf
        refine V_iload 0 dX11_host_104 rfl ?_
        refine V_iload 6 dX11_host_106 rfl ?_
        refine V_ic_le (tgt := 115) dX11_host_108 (by decide) (fun c_9 => ?_) (fun c_9 => ?_)
        · have hf := it_s c_9 hf
          refine V_iconst (v := 0) dX11_host_115 (by decide) ?_
          refine V_sub [1, 2, 3, 4, 5, 6, 8, 0] rfl ?_
          exact v_X11_host_116 hd ih hf t_k0
        · have hf := if_s c_9 hf
          refine V_iconst (v := 1) dX11_host_111 (by decide) ?_
          refine V_goto (tgt := 116) dX11_host_112 (by decide) ?_
          refine V_sub [1, 2, 3, 4, 5, 6, 8, 0] rfl ?_
          exact v_X11_host_116 hd ih hf t_k0
      · have hf := it_s c_8 hf
        refine V_iload 0 dX11_host_89 rfl ?_
        refine V_iload 6 dX11_host_91 rfl ?_
        refine V_ic_ge (tgt := 100) dX11_host_93 (by decide) (fun c_10 => ?_) (fun c_10 => ?_)
        · have hf := it_s c_10 hf
          refine V_iconst (v := 0) dX11_host_100 (by decide) ?_
          refine V_goto (tgt := 116) dX11_host_101 (by decide) ?_
          refine V_sub [1, 2, 3, 4, 5, 6, 8, 0] rfl ?_
          exact v_X11_host_116 hd ih hf t_k0
        · have hf := if_s c_10 hf
          refine V_iconst (v := 1) dX11_host_96 (by decide) ?_
          refine V_goto (tgt := 116) dX11_host_97 (by decide) ?_
          refine V_sub [1, 2, 3, 4, 5, 6, 8, 0] rfl ?_
          exact v_X11_host_116 hd ih hf t_k0
set_option maxHeartbeats 4000000 in
set_option maxRecDepth 100000 in
theorem c_X11_host {E : EV} {d : Nat} (hd : 5 + 1 ≤ d) {k0 : Nat} {x1 : Int32} {x2 : Int32} {x3 : Int32} {x4 : Int32} {h : AH} {r0 : Int32} {h0 : AH} (hf : f_X11_host k0 x1 x2 x3 x4 h = some (r0, h0)) (t_k0 : kd k0 = (0, 11)) : Con E d K_X11_host (ZI E r0 h0) [.ref k0, .int x1, .int x2, .int x3, .int x4] h := by
  obtain ⟨d, rfl⟩ : ∃ d', d = d' + 1 := ⟨d - 1, by omega⟩
  have hd := Nat.le_of_succ_le_succ hd
  refine Con.ofV rfl (Nat.le_of_ble_eq_true rfl) ?_
  unfold f_X11_host at hf
  show V E (d + 1) K_X11_host (ZI E r0 h0) h [(0, .ref k0), (1, .int x1), (2, .int x2), (3, .int x3), (4, .int x4)] [] 0
  refine V_aload_n 0 dX11_host_0 rfl rfl ?_
  refine V_iload_n 1 dX11_host_1 rfl rfl ?_
  refine V_iload_n 2 dX11_host_2 rfl rfl ?_
  obtain ⟨r_3, h_2, e_1, hf⟩ := ob_s hf
  refine V_cvi (As := [.int x1, .int x2]) (rest := []) (c_X11_isParty (d := d) (Nat.le_trans (Nat.le_of_ble_eq_true rfl) hd) e_1 t_k0) ML_X11_182 MV_X11_isParty rfl t_k0 rfl rfl (Nat.le_of_ble_eq_true rfl) dX11_host_3 ?_
  refine V_if_eq (tgt := 29) dX11_host_6 (by decide) (fun c_4 => ?_) (fun c_4 => ?_)
  · have hf := it_s c_4 hf
    refine V_sub [] rfl ?_
    exact v_X11_host_29 hd hf
  · have hf := if_s c_4 hf
    refine V_iload_n 3 dX11_host_9 rfl rfl ?_
    refine V_if_lt (tgt := 29) dX11_host_10 (by decide) (fun c_5 => ?_) (fun c_5 => ?_)
    · have hf := it_s c_5 hf
      refine V_sub [] rfl ?_
      exact v_X11_host_29 hd hf
    · have hf := if_s c_5 hf
      refine V_iload_n 3 dX11_host_13 rfl rfl ?_
      refine V_iconst (v := 3) dX11_host_14 (by decide) ?_
      refine V_ic_gt (tgt := 29) dX11_host_15 (by decide) (fun c_6 => ?_) (fun c_6 => ?_)
      · have hf := it_s c_6 hf
        refine V_sub [] rfl ?_
        exact v_X11_host_29 hd hf
      · have hf := if_s c_6 hf
        refine V_iload 4 dX11_host_18 rfl ?_
        refine V_if_lt (tgt := 29) dX11_host_20 (by decide) (fun c_7 => ?_) (fun c_7 => ?_)
        · have hf := it_s c_7 hf
          refine V_sub [] rfl ?_
          exact v_X11_host_29 hd hf
        · have hf := if_s c_7 hf
          refine V_iload 4 dX11_host_23 rfl ?_
          refine V_iconst (v := 1) dX11_host_25 (by decide) ?_
          refine V_ic_le (tgt := 31) dX11_host_26 (by decide) (fun c_8 => ?_) (fun c_8 => ?_)
          · have hf := it_s c_8 hf
            refine V_aload_n 0 dX11_host_31 rfl rfl ?_
            refine V_getR F_X11_73 rfl t_k0 rfl dX11_host_32 ?_
            refine V_aload_n 0 dX11_host_35 rfl rfl ?_
            refine V_iload_n 1 dX11_host_36 rfl rfl ?_
            refine V_iload_n 2 dX11_host_37 rfl rfl ?_
            obtain ⟨r_11, h_10, e_9, hf⟩ := ob_s hf
            refine V_cvi (As := [.int x1, .int x2]) (rest := [.ref (rf k0 11)]) (c_X11_openDoor (d := d) (Nat.le_trans (Nat.le_of_ble_eq_true rfl) hd) e_9 t_k0) ML_X11_195 MV_X11_openDoor rfl t_k0 rfl rfl (Nat.le_of_ble_eq_true rfl) dX11_host_38 ?_
            refine V_iload_n 2 dX11_host_41 rfl rfl ?_
            obtain ⟨r_14, h_13, e_12, hf⟩ := ob_s hf
            refine V_cvi (As := [.int r_11, .int x2]) (rest := []) (c_X5_first (d := d) (Nat.le_trans (Nat.le_of_ble_eq_true rfl) hd) e_12 (rfO t_k0 (Nat.le_of_ble_eq_true rfl) rfl rfl)) ML_X11_235 MV_X5_first rfl (rfO t_k0 (Nat.le_of_ble_eq_true rfl) rfl rfl) rfl rfl (Nat.le_of_ble_eq_true rfl) dX11_host_42 ?_
            refine V_istore (L' := [(5, .int r_14), (0, .ref k0), (1, .int x1), (2, .int x2), (3, .int x3), (4, .int x4)]) dX11_host_45 (Nat.le_of_ble_eq_true rfl) rfl rfl ?_
            refine V_iconst (v := 0) dX11_host_47 (by decide) ?_
            refine V_istore (L' := [(6, .int 0), (5, .int r_14), (0, .ref k0), (1, .int x1), (2, .int x2), (3, .int x3), (4, .int x4)]) dX11_host_48 (Nat.le_of_ble_eq_true rfl) rfl rfl ?_
            refine V_iconst (v := 0) dX11_host_50 (by decide) ?_
            refine V_istore (L' := [(7, .int 0), (6, .int 0), (5, .int r_14), (0, .ref k0), (1, .int x1), (2, .int x2), (3, .int x3), (4, .int x4)]) dX11_host_51 (Nat.le_of_ble_eq_true rfl) rfl rfl ?_
            refine V_iconst (v := 0) dX11_host_53 (by decide) ?_
            refine V_istore (L' := [(8, .int 0), (7, .int 0), (6, .int 0), (5, .int r_14), (0, .ref k0), (1, .int x1), (2, .int x2), (3, .int x3), (4, .int x4)]) dX11_host_54 (Nat.le_of_ble_eq_true rfl) rfl rfl ?_
            refine V_iconst (v := 0) dX11_host_56 (by decide) ?_
            refine V_istore (L' := [(9, .int 0), (8, .int 0), (7, .int 0), (6, .int 0), (5, .int r_14), (0, .ref k0), (1, .int x1), (2, .int x2), (3, .int x3), (4, .int x4)]) dX11_host_57 (Nat.le_of_ble_eq_true rfl) rfl rfl ?_
            refine V_sub [5, 8, 9, 4, 3, 2, 1, 0] rfl ?_
            exact v_X11_host_59 hd FU _ _ _ _ _ _ _ _ _ hf t_k0
          · have hf := if_s c_8 hf
            refine V_sub [] rfl ?_
            exact v_X11_host_29 hd hf
theorem dX11_image_0 : decode cX11_image 0 = .ok (.aload_n 0, 1) := by decide +kernel
theorem dX11_image_1 : decode cX11_image 1 = .ok (.getfield 19, 3) := by decide +kernel
theorem dX11_image_4 : decode cX11_image 4 = .ok (.getfield 144, 3) := by decide +kernel
theorem dX11_image_7 : decode cX11_image 7 = .ok (.ifCond .ne 5, 3) := by decide +kernel
theorem dX11_image_10 : decode cX11_image 10 = .ok (.iconst (-1), 1) := by decide +kernel
theorem dX11_image_11 : decode cX11_image 11 = .ok (.ireturn, 1) := by decide +kernel
theorem dX11_image_12 : decode cX11_image 12 = .ok (.aload_n 0, 1) := by decide +kernel
theorem dX11_image_13 : decode cX11_image 13 = .ok (.getfield 49, 3) := by decide +kernel
theorem dX11_image_16 : decode cX11_image 16 = .ok (.aload_n 0, 1) := by decide +kernel
theorem dX11_image_17 : decode cX11_image 17 = .ok (.getfield 45, 3) := by decide +kernel
theorem dX11_image_20 : decode cX11_image 20 = .ok (.invokevirtual 352, 3) := by decide +kernel
theorem dX11_image_23 : decode cX11_image 23 = .ok (.aload_n 0, 1) := by decide +kernel
theorem dX11_image_24 : decode cX11_image 24 = .ok (.getfield 55, 3) := by decide +kernel
theorem dX11_image_27 : decode cX11_image 27 = .ok (.invokevirtual 354, 3) := by decide +kernel
theorem dX11_image_30 : decode cX11_image 30 = .ok (.aload_n 0, 1) := by decide +kernel
theorem dX11_image_31 : decode cX11_image 31 = .ok (.iconst 1, 1) := by decide +kernel
theorem dX11_image_32 : decode cX11_image 32 = .ok (.putfield 140, 3) := by decide +kernel
theorem dX11_image_35 : decode cX11_image 35 = .ok (.aload_n 0, 1) := by decide +kernel
theorem dX11_image_36 : decode cX11_image 36 = .ok (.getfield 55, 3) := by decide +kernel
theorem dX11_image_39 : decode cX11_image 39 = .ok (.getfield 192, 3) := by decide +kernel
theorem dX11_image_42 : decode cX11_image 42 = .ok (.ireturn, 1) := by decide +kernel
theorem ML_X11_354 : MLk RX11 354 yX1_keep := Or.inl ml_X11_354
theorem MV_X1_keep : MVk K_X1_keep 0 1 := ⟨⟨cd_X1_keep, in_X1, ⟨by decide, by decide, by decide +kernel⟩, by decide⟩, im_X1_keep, se_X1_keep, _, _, rfl⟩
theorem P_X11_140 : FPk RX11 140 11 8 .boolean := ⟨RX11, TX11, 16, tyX11, rfl, rfl, iw_X11, by decide, Or.inl fl_X11_140, tyX11_ok, nmX11, rfl, by decide +kernel⟩
def f_X11_image (k0 : Nat) (h : AH) : Option (Int32 × AH) :=
  if (h.1 (rf k0 1) 2) = 0 then (
    some ((-1), h)
  ) else (
    ov (f_X9_copy (rf k0 7) (rf k0 6) h) fun h_3 =>
    ov (f_X1_keep (rf k0 9) h_3) fun h_5 =>
    nm (sI h_5 k0 8 1) fun h_6 =>
    some ((h_6.1 (rf k0 9) 2), h_6)
  )
set_option maxHeartbeats 4000000 in
set_option maxRecDepth 100000 in
theorem c_X11_image {E : EV} {d : Nat} (hd : 1 + 1 ≤ d) {k0 : Nat} {h : AH} {r0 : Int32} {h0 : AH} (hf : f_X11_image k0 h = some (r0, h0)) (t_k0 : kd k0 = (0, 11)) : Con E d K_X11_image (ZI E r0 h0) [.ref k0] h := by
  obtain ⟨d, rfl⟩ : ∃ d', d = d' + 1 := ⟨d - 1, by omega⟩
  have hd := Nat.le_of_succ_le_succ hd
  refine Con.ofV rfl (Nat.le_of_ble_eq_true rfl) ?_
  unfold f_X11_image at hf
  show V E (d + 1) K_X11_image (ZI E r0 h0) h [(0, .ref k0)] [] 0
  refine V_aload_n 0 dX11_image_0 rfl rfl ?_
  refine V_getR F_X11_19 rfl t_k0 rfl dX11_image_1 ?_
  refine V_getI F_X11_144 rfl (rfO t_k0 (Nat.le_of_ble_eq_true rfl) rfl rfl) rfl dX11_image_4 ?_
  refine V_if_ne (tgt := 12) dX11_image_7 (by decide) (fun c_1 => ?_) (fun c_1 => ?_)
  · have hf := if_s c_1 hf
    refine V_aload_n 0 dX11_image_12 rfl rfl ?_
    refine V_getR F_X11_49 rfl t_k0 rfl dX11_image_13 ?_
    refine V_aload_n 0 dX11_image_16 rfl rfl ?_
    refine V_getR F_X11_45 rfl t_k0 rfl dX11_image_17 ?_
    obtain ⟨h_3, e_2, hf⟩ := ov_s hf
    refine V_cvv (As := [.ref (rf k0 6)]) (rest := []) (c_X9_copy (d := d) (Nat.le_trans (Nat.le_of_ble_eq_true rfl) hd) e_2 (rfO t_k0 (Nat.le_of_ble_eq_true rfl) rfl rfl) (rfO t_k0 (Nat.le_of_ble_eq_true rfl) rfl rfl)) ML_X11_352 MV_X9_copy rfl (rfO t_k0 (Nat.le_of_ble_eq_true rfl) rfl rfl) rfl rfl (Nat.le_of_ble_eq_true rfl) dX11_image_20 ?_
    refine V_aload_n 0 dX11_image_23 rfl rfl ?_
    refine V_getR F_X11_55 rfl t_k0 rfl dX11_image_24 ?_
    obtain ⟨h_5, e_4, hf⟩ := ov_s hf
    refine V_cvv (As := []) (rest := []) (c_X1_keep (d := d) (Nat.le_trans (Nat.le_of_ble_eq_true rfl) hd) e_4 (rfO t_k0 (Nat.le_of_ble_eq_true rfl) rfl rfl)) ML_X11_354 MV_X1_keep rfl (rfO t_k0 (Nat.le_of_ble_eq_true rfl) rfl rfl) rfl rfl (Nat.le_of_ble_eq_true rfl) dX11_image_27 ?_
    refine V_aload_n 0 dX11_image_30 rfl rfl ?_
    refine V_iconst (v := 1) dX11_image_31 (by decide) ?_
    obtain ⟨h_6, e_7, hf⟩ := nm_s hf
    refine V_putZ P_X11_140 rfl t_k0 rfl (by decide) e_7 dX11_image_32 ?_
    refine V_aload_n 0 dX11_image_35 rfl rfl ?_
    refine V_getR F_X11_55 rfl t_k0 rfl dX11_image_36 ?_
    refine V_getI F_X11_192 rfl (rfO t_k0 (Nat.le_of_ble_eq_true rfl) rfl rfl) rfl dX11_image_39 ?_
    exact V_iret rfl (so_s hf) dX11_image_42
  · have hf := it_s c_1 hf
    refine V_iconst (v := (-1)) dX11_image_10 (by decide) ?_
    exact V_iret rfl (so_s hf) dX11_image_11
theorem dX11_rightOf_0 : decode cX11_rightOf 0 = .ok (.iload_n 1, 1) := by decide +kernel
theorem dX11_rightOf_1 : decode cX11_rightOf 1 = .ok (.getstatic 314, 3) := by decide +kernel
theorem dX11_rightOf_4 : decode cX11_rightOf 4 = .ok (.iload_n 0, 1) := by decide +kernel
theorem dX11_rightOf_5 : decode cX11_rightOf 5 = .ok (.iconst 1, 1) := by decide +kernel
theorem dX11_rightOf_6 : decode cX11_rightOf 6 = .ok (.isub, 1) := by decide +kernel
theorem dX11_rightOf_7 : decode cX11_rightOf 7 = .ok (.iload_n 2, 1) := by decide +kernel
theorem dX11_rightOf_8 : decode cX11_rightOf 8 = .ok (.isub, 1) := by decide +kernel
theorem dX11_rightOf_9 : decode cX11_rightOf 9 = .ok (.iaload, 1) := by decide +kernel
theorem dX11_rightOf_10 : decode cX11_rightOf 10 = .ok (.idiv, 1) := by decide +kernel
theorem dX11_rightOf_11 : decode cX11_rightOf 11 = .ok (.bipush 10, 2) := by decide +kernel
theorem dX11_rightOf_13 : decode cX11_rightOf 13 = .ok (.irem, 1) := by decide +kernel
theorem dX11_rightOf_14 : decode cX11_rightOf 14 = .ok (.ireturn, 1) := by decide +kernel
theorem S_X11_314 : SLk RX11 314 4 := ⟨by decide, Or.inl fl_X11_314⟩
def f_X11_rightOf (x0 : Int32) (x1 : Int32) (x2 : Int32) (h : AH) : Option (Int32 × AH) :=
  og (ix ((x0 - 1) - x2) (sN 4)) <|
  og (decide (¬ (sT 4 ((x0 - 1) - x2).toNatClampNeg) = 0)) <|
  some ((jirem (x1 / (sT 4 ((x0 - 1) - x2).toNatClampNeg)) 10), h)
set_option maxHeartbeats 4000000 in
set_option maxRecDepth 100000 in
theorem c_X11_rightOf {E : EV} {d : Nat} (hd : 0 + 1 ≤ d) {x0 : Int32} {x1 : Int32} {x2 : Int32} {h : AH} {r0 : Int32} {h0 : AH} (hf : f_X11_rightOf x0 x1 x2 h = some (r0, h0)) : Con E d K_X11_rightOf (ZI E r0 h0) [.int x0, .int x1, .int x2] h := by
  obtain ⟨d, rfl⟩ : ∃ d', d = d' + 1 := ⟨d - 1, by omega⟩
  have hd := Nat.le_of_succ_le_succ hd
  refine Con.ofV rfl (Nat.le_of_ble_eq_true rfl) ?_
  unfold f_X11_rightOf at hf
  show V E (d + 1) K_X11_rightOf (ZI E r0 h0) h [(0, .int x0), (1, .int x1), (2, .int x2)] [] 0
  refine V_iload_n 1 dX11_rightOf_0 rfl rfl ?_
  refine V_gets S_X11_314 rfl rfl dX11_rightOf_1 ?_
  refine V_iload_n 0 dX11_rightOf_4 rfl rfl ?_
  refine V_iconst (v := 1) dX11_rightOf_5 (by decide) ?_
  refine V_isub dX11_rightOf_6 ?_
  refine V_iload_n 2 dX11_rightOf_7 rfl rfl ?_
  refine V_isub dX11_rightOf_8 ?_
  obtain ⟨b_1, hf⟩ := og_s hf
  refine V_tald (i := 4) (by decide) rfl b_1 dX11_rightOf_9 ?_
  obtain ⟨b_2, hf⟩ := og_s hf
  refine V_idiv dX11_rightOf_10 (of_decide_eq_true b_2) ?_
  refine V_bipush (v := 10) dX11_rightOf_11 (by decide) ?_
  refine V_irem dX11_rightOf_13 (by decide) ?_
  exact V_iret rfl (so_s hf) dX11_rightOf_14
theorem dX11_isLowestOfRing_0 : decode cX11_isLowestOfRing 0 = .ok (.iload_n 0, 1) := by decide +kernel
theorem dX11_isLowestOfRing_1 : decode cX11_isLowestOfRing 1 = .ok (.iload_n 1, 1) := by decide +kernel
theorem dX11_isLowestOfRing_2 : decode cX11_isLowestOfRing 2 = .ok (.iload_n 2, 1) := by decide +kernel
theorem dX11_isLowestOfRing_3 : decode cX11_isLowestOfRing 3 = .ok (.invokestatic 307, 3) := by decide +kernel
theorem dX11_isLowestOfRing_6 : decode cX11_isLowestOfRing 6 = .ok (.istore_n 3, 1) := by decide +kernel
theorem dX11_isLowestOfRing_7 : decode cX11_isLowestOfRing 7 = .ok (.iconst 0, 1) := by decide +kernel
theorem dX11_isLowestOfRing_8 : decode cX11_isLowestOfRing 8 = .ok (.istore 4, 2) := by decide +kernel
theorem dX11_isLowestOfRing_10 : decode cX11_isLowestOfRing 10 = .ok (.iload 4, 2) := by decide +kernel
theorem dX11_isLowestOfRing_12 : decode cX11_isLowestOfRing 12 = .ok (.iload_n 0, 1) := by decide +kernel
theorem dX11_isLowestOfRing_13 : decode cX11_isLowestOfRing 13 = .ok (.if_icmp .ge 21, 3) := by decide +kernel
theorem dX11_isLowestOfRing_16 : decode cX11_isLowestOfRing 16 = .ok (.iload_n 3, 1) := by decide +kernel
theorem dX11_isLowestOfRing_17 : decode cX11_isLowestOfRing 17 = .ok (.iload_n 2, 1) := by decide +kernel
theorem dX11_isLowestOfRing_18 : decode cX11_isLowestOfRing 18 = .ok (.if_icmp .le 16, 3) := by decide +kernel
theorem dX11_isLowestOfRing_21 : decode cX11_isLowestOfRing 21 = .ok (.iload_n 0, 1) := by decide +kernel
theorem dX11_isLowestOfRing_22 : decode cX11_isLowestOfRing 22 = .ok (.iload_n 1, 1) := by decide +kernel
theorem dX11_isLowestOfRing_23 : decode cX11_isLowestOfRing 23 = .ok (.iload_n 3, 1) := by decide +kernel
theorem dX11_isLowestOfRing_24 : decode cX11_isLowestOfRing 24 = .ok (.invokestatic 307, 3) := by decide +kernel
theorem dX11_isLowestOfRing_27 : decode cX11_isLowestOfRing 27 = .ok (.istore_n 3, 1) := by decide +kernel
theorem dX11_isLowestOfRing_28 : decode cX11_isLowestOfRing 28 = .ok (.iinc 4 1, 3) := by decide +kernel
theorem dX11_isLowestOfRing_31 : decode cX11_isLowestOfRing 31 = .ok (.goto (-21), 3) := by decide +kernel
theorem dX11_isLowestOfRing_34 : decode cX11_isLowestOfRing 34 = .ok (.iload_n 3, 1) := by decide +kernel
theorem dX11_isLowestOfRing_35 : decode cX11_isLowestOfRing 35 = .ok (.iload_n 2, 1) := by decide +kernel
theorem dX11_isLowestOfRing_36 : decode cX11_isLowestOfRing 36 = .ok (.if_icmp .ne 7, 3) := by decide +kernel
theorem dX11_isLowestOfRing_39 : decode cX11_isLowestOfRing 39 = .ok (.iconst 1, 1) := by decide +kernel
theorem dX11_isLowestOfRing_40 : decode cX11_isLowestOfRing 40 = .ok (.goto 4, 3) := by decide +kernel
theorem dX11_isLowestOfRing_43 : decode cX11_isLowestOfRing 43 = .ok (.iconst 0, 1) := by decide +kernel
theorem dX11_isLowestOfRing_44 : decode cX11_isLowestOfRing 44 = .ok (.ireturn, 1) := by decide +kernel
theorem ML_X11_307 : MLk RX11 307 yX11_rightOf := Or.inl ml_X11_307
theorem MS_X11_rightOf : MSk K_X11_rightOf 3 := ⟨⟨cd_X11_rightOf, in_X11, ⟨by decide, by decide, by decide +kernel⟩, by decide⟩, st_X11_rightOf⟩
def f_X11_isLowestOfRing_44 (s0 : Int32) (h : AH) : Option (Int32 × AH) :=
  og (bz s0) <|
  some (s0, h)
def f_X11_isLowestOfRing_34 (x2 : Int32) (x3 : Int32) (h : AH) : Option (Int32 × AH) :=
  if x3 = x2 then (
    f_X11_isLowestOfRing_44 1 h
  ) else (
    f_X11_isLowestOfRing_44 0 h
  )
def f_X11_isLowestOfRing_10 : Nat → Int32 → Int32 → Int32 → Int32 → Int32 → AH → Option (Int32 × AH)
  | 0, _, _, _, _, _, _ => none
  | n + 1, x0, x1, x2, x3, x4, h =>
    if x0 ≤ x4 then (
      f_X11_isLowestOfRing_34 x2 x3 h
    ) else (
      if x3 ≤ x2 then (
        f_X11_isLowestOfRing_34 x2 x3 h
      ) else (
        ob (f_X11_rightOf x0 x1 x3 h) fun r_5 h_4 =>
        nm (x4 + 1) fun x4_6 =>
        f_X11_isLowestOfRing_10 n x0 x1 x2 r_5 x4_6 h_4
      )
    )
def f_X11_isLowestOfRing (x0 : Int32) (x1 : Int32) (x2 : Int32) (h : AH) : Option (Int32 × AH) :=
  ob (f_X11_rightOf x0 x1 x2 h) fun r_3 h_2 =>
  f_X11_isLowestOfRing_10 FU x0 x1 x2 r_3 0 h_2
set_option maxHeartbeats 4000000 in
set_option maxRecDepth 100000 in
theorem v_X11_isLowestOfRing_44 {E : EV} {d : Nat} (hd : 1 ≤ d) {r0 : Int32} {h0 : AH} {s0 : Int32} {h : AH} (hf : f_X11_isLowestOfRing_44 s0 h = some (r0, h0)) : V E (d + 1) K_X11_isLowestOfRing (ZI E r0 h0) h [] [.int s0] 44 := by
  unfold f_X11_isLowestOfRing_44 at hf
  obtain ⟨b_1, hf⟩ := og_s hf
  exact V_zret rfl b_1 (so_s hf) dX11_isLowestOfRing_44
set_option maxHeartbeats 4000000 in
set_option maxRecDepth 100000 in
theorem v_X11_isLowestOfRing_34 {E : EV} {d : Nat} (hd : 1 ≤ d) {r0 : Int32} {h0 : AH} {x2 : Int32} {x3 : Int32} {h : AH} (hf : f_X11_isLowestOfRing_34 x2 x3 h = some (r0, h0)) : V E (d + 1) K_X11_isLowestOfRing (ZI E r0 h0) h [(2, .int x2), (3, .int x3)] [] 34 := by
  unfold f_X11_isLowestOfRing_34 at hf
  refine V_iload_n 1 dX11_isLowestOfRing_34 rfl rfl ?_
  refine V_iload_n 0 dX11_isLowestOfRing_35 rfl rfl ?_
  refine V_ic_ne (tgt := 43) dX11_isLowestOfRing_36 (by decide) (fun c_1 => ?_) (fun c_1 => ?_)
  · have hf := if_s c_1 hf
    refine V_iconst (v := 0) dX11_isLowestOfRing_43 (by decide) ?_
    refine V_sub [] rfl ?_
    exact v_X11_isLowestOfRing_44 hd hf
  · have hf := it_s c_1 hf
    refine V_iconst (v := 1) dX11_isLowestOfRing_39 (by decide) ?_
    refine V_goto (tgt := 44) dX11_isLowestOfRing_40 (by decide) ?_
    refine V_sub [] rfl ?_
    exact v_X11_isLowestOfRing_44 hd hf
set_option maxHeartbeats 4000000 in
set_option maxRecDepth 100000 in
theorem v_X11_isLowestOfRing_10 {E : EV} {d : Nat} (hd : 1 ≤ d) {r0 : Int32} {h0 : AH} : ∀ (n : Nat) (x0 : Int32) (x1 : Int32) (x2 : Int32) (x3 : Int32) (x4 : Int32) (h : AH), f_X11_isLowestOfRing_10 n x0 x1 x2 x3 x4 h = some (r0, h0) → V E (d + 1) K_X11_isLowestOfRing (ZI E r0 h0) h [(0, .int x0), (1, .int x1), (2, .int x2), (3, .int x3), (4, .int x4)] [] 10 := by
  intro n
  induction n with
  | zero =>
    intro x0 x1 x2 x3 x4 h hf
    rw [f_X11_isLowestOfRing_10] at hf
    cases hf
  | succ n ih =>
    intro x0 x1 x2 x3 x4 h hf
    rw [f_X11_isLowestOfRing_10] at hf
    refine V_iload 4 dX11_isLowestOfRing_10 rfl ?_
    refine V_iload_n 0 dX11_isLowestOfRing_12 rfl rfl ?_
    refine V_ic_ge (tgt := 34) dX11_isLowestOfRing_13 (by decide) (fun c_1 => ?_) (fun c_1 => ?_)
    · have hf := it_s c_1 hf
      refine V_sub [2, 3] rfl ?_
      exact v_X11_isLowestOfRing_34 hd hf
    · have hf := if_s c_1 hf
      refine V_iload_n 3 dX11_isLowestOfRing_16 rfl rfl ?_
      refine V_iload_n 2 dX11_isLowestOfRing_17 rfl rfl ?_
      refine V_ic_le (tgt := 34) dX11_isLowestOfRing_18 (by decide) (fun c_2 => ?_) (fun c_2 => ?_)
      · have hf := it_s c_2 hf
        refine V_sub [2, 3] rfl ?_
        exact v_X11_isLowestOfRing_34 hd hf
      · have hf := if_s c_2 hf
        refine V_iload_n 0 dX11_isLowestOfRing_21 rfl rfl ?_
        refine V_iload_n 1 dX11_isLowestOfRing_22 rfl rfl ?_
        refine V_iload_n 3 dX11_isLowestOfRing_23 rfl rfl ?_
        obtain ⟨r_5, h_4, e_3, hf⟩ := ob_s hf
        refine V_csi (As := [.int x0, .int x1, .int x3]) (rest := []) (c_X11_rightOf (d := d) (Nat.le_trans (Nat.le_of_ble_eq_true rfl) hd) e_3) ML_X11_307 MS_X11_rightOf rfl rfl rfl (Nat.le_of_ble_eq_true rfl) dX11_isLowestOfRing_24 ?_
        refine V_istore_n (L' := [(3, .int r_5), (0, .int x0), (1, .int x1), (2, .int x2), (4, .int x4)]) dX11_isLowestOfRing_27 rfl (Nat.le_of_ble_eq_true rfl) rfl rfl ?_
        obtain ⟨x4_6, e_7, hf⟩ := nm_s hf
        refine V_iinc (a := 1) (L' := [(4, .int x4_6), (3, .int r_5), (0, .int x0), (1, .int x1), (2, .int x2)]) 4 dX11_isLowestOfRing_28 rfl (by decide) (Nat.le_of_ble_eq_true rfl) e_7 rfl ?_
        refine V_goto (tgt := 10) dX11_isLowestOfRing_31 (by decide) ?_
        refine V_sub [2, 3, 4, 1, 0] rfl ?_
        exact ih _ _ _ _ _ _ hf
set_option maxHeartbeats 4000000 in
set_option maxRecDepth 100000 in
theorem c_X11_isLowestOfRing {E : EV} {d : Nat} (hd : 1 + 1 ≤ d) {x0 : Int32} {x1 : Int32} {x2 : Int32} {h : AH} {r0 : Int32} {h0 : AH} (hf : f_X11_isLowestOfRing x0 x1 x2 h = some (r0, h0)) : Con E d K_X11_isLowestOfRing (ZI E r0 h0) [.int x0, .int x1, .int x2] h := by
  obtain ⟨d, rfl⟩ : ∃ d', d = d' + 1 := ⟨d - 1, by omega⟩
  have hd := Nat.le_of_succ_le_succ hd
  refine Con.ofV rfl (Nat.le_of_ble_eq_true rfl) ?_
  unfold f_X11_isLowestOfRing at hf
  show V E (d + 1) K_X11_isLowestOfRing (ZI E r0 h0) h [(0, .int x0), (1, .int x1), (2, .int x2)] [] 0
  refine V_iload_n 0 dX11_isLowestOfRing_0 rfl rfl ?_
  refine V_iload_n 1 dX11_isLowestOfRing_1 rfl rfl ?_
  refine V_iload_n 2 dX11_isLowestOfRing_2 rfl rfl ?_
  obtain ⟨r_3, h_2, e_1, hf⟩ := ob_s hf
  refine V_csi (As := [.int x0, .int x1, .int x2]) (rest := []) (c_X11_rightOf (d := d) (Nat.le_trans (Nat.le_of_ble_eq_true rfl) hd) e_1) ML_X11_307 MS_X11_rightOf rfl rfl rfl (Nat.le_of_ble_eq_true rfl) dX11_isLowestOfRing_3 ?_
  refine V_istore_n (L' := [(3, .int r_3), (0, .int x0), (1, .int x1), (2, .int x2)]) dX11_isLowestOfRing_6 rfl (Nat.le_of_ble_eq_true rfl) rfl rfl ?_
  refine V_iconst (v := 0) dX11_isLowestOfRing_7 (by decide) ?_
  refine V_istore (L' := [(4, .int 0), (3, .int r_3), (0, .int x0), (1, .int x1), (2, .int x2)]) dX11_isLowestOfRing_8 (Nat.le_of_ble_eq_true rfl) rfl rfl ?_
  refine V_sub [2, 3, 4, 1, 0] rfl ?_
  exact v_X11_isLowestOfRing_10 hd FU _ _ _ _ _ _ hf
theorem dX11_isMixedRow_0 : decode cX11_isMixedRow 0 = .ok (.iload_n 1, 1) := by decide +kernel
theorem dX11_isMixedRow_1 : decode cX11_isMixedRow 1 = .ok (.ifCond .lt 17, 3) := by decide +kernel
theorem dX11_isMixedRow_4 : decode cX11_isMixedRow 4 = .ok (.iload_n 1, 1) := by decide +kernel
theorem dX11_isMixedRow_5 : decode cX11_isMixedRow 5 = .ok (.getstatic 314, 3) := by decide +kernel
theorem dX11_isMixedRow_8 : decode cX11_isMixedRow 8 = .ok (.iload_n 0, 1) := by decide +kernel
theorem dX11_isMixedRow_9 : decode cX11_isMixedRow 9 = .ok (.iconst 1, 1) := by decide +kernel
theorem dX11_isMixedRow_10 : decode cX11_isMixedRow 10 = .ok (.isub, 1) := by decide +kernel
theorem dX11_isMixedRow_11 : decode cX11_isMixedRow 11 = .ok (.iaload, 1) := by decide +kernel
theorem dX11_isMixedRow_12 : decode cX11_isMixedRow 12 = .ok (.idiv, 1) := by decide +kernel
theorem dX11_isMixedRow_13 : decode cX11_isMixedRow 13 = .ok (.bipush 9, 2) := by decide +kernel
theorem dX11_isMixedRow_15 : decode cX11_isMixedRow 15 = .ok (.if_icmp .le 5, 3) := by decide +kernel
theorem dX11_isMixedRow_18 : decode cX11_isMixedRow 18 = .ok (.iconst 0, 1) := by decide +kernel
theorem dX11_isMixedRow_19 : decode cX11_isMixedRow 19 = .ok (.ireturn, 1) := by decide +kernel
theorem dX11_isMixedRow_20 : decode cX11_isMixedRow 20 = .ok (.iconst 0, 1) := by decide +kernel
theorem dX11_isMixedRow_21 : decode cX11_isMixedRow 21 = .ok (.istore_n 2, 1) := by decide +kernel
theorem dX11_isMixedRow_22 : decode cX11_isMixedRow 22 = .ok (.iconst 0, 1) := by decide +kernel
theorem dX11_isMixedRow_23 : decode cX11_isMixedRow 23 = .ok (.istore_n 3, 1) := by decide +kernel
theorem dX11_isMixedRow_24 : decode cX11_isMixedRow 24 = .ok (.iload_n 3, 1) := by decide +kernel
theorem dX11_isMixedRow_25 : decode cX11_isMixedRow 25 = .ok (.iload_n 0, 1) := by decide +kernel
theorem dX11_isMixedRow_26 : decode cX11_isMixedRow 26 = .ok (.if_icmp .ge 20, 3) := by decide +kernel
theorem dX11_isMixedRow_29 : decode cX11_isMixedRow 29 = .ok (.iload_n 2, 1) := by decide +kernel
theorem dX11_isMixedRow_30 : decode cX11_isMixedRow 30 = .ok (.iconst 1, 1) := by decide +kernel
theorem dX11_isMixedRow_31 : decode cX11_isMixedRow 31 = .ok (.iload_n 0, 1) := by decide +kernel
theorem dX11_isMixedRow_32 : decode cX11_isMixedRow 32 = .ok (.iload_n 1, 1) := by decide +kernel
theorem dX11_isMixedRow_33 : decode cX11_isMixedRow 33 = .ok (.iload_n 3, 1) := by decide +kernel
theorem dX11_isMixedRow_34 : decode cX11_isMixedRow 34 = .ok (.invokestatic 307, 3) := by decide +kernel
theorem dX11_isMixedRow_37 : decode cX11_isMixedRow 37 = .ok (.ishl, 1) := by decide +kernel
theorem dX11_isMixedRow_38 : decode cX11_isMixedRow 38 = .ok (.ior, 1) := by decide +kernel
theorem dX11_isMixedRow_39 : decode cX11_isMixedRow 39 = .ok (.istore_n 2, 1) := by decide +kernel
theorem dX11_isMixedRow_40 : decode cX11_isMixedRow 40 = .ok (.iinc 3 1, 3) := by decide +kernel
theorem dX11_isMixedRow_43 : decode cX11_isMixedRow 43 = .ok (.goto (-19), 3) := by decide +kernel
theorem dX11_isMixedRow_46 : decode cX11_isMixedRow 46 = .ok (.iload_n 2, 1) := by decide +kernel
theorem dX11_isMixedRow_47 : decode cX11_isMixedRow 47 = .ok (.iconst 1, 1) := by decide +kernel
theorem dX11_isMixedRow_48 : decode cX11_isMixedRow 48 = .ok (.iload_n 0, 1) := by decide +kernel
theorem dX11_isMixedRow_49 : decode cX11_isMixedRow 49 = .ok (.ishl, 1) := by decide +kernel
theorem dX11_isMixedRow_50 : decode cX11_isMixedRow 50 = .ok (.iconst 1, 1) := by decide +kernel
theorem dX11_isMixedRow_51 : decode cX11_isMixedRow 51 = .ok (.isub, 1) := by decide +kernel
theorem dX11_isMixedRow_52 : decode cX11_isMixedRow 52 = .ok (.if_icmp .ne 7, 3) := by decide +kernel
theorem dX11_isMixedRow_55 : decode cX11_isMixedRow 55 = .ok (.iconst 1, 1) := by decide +kernel
theorem dX11_isMixedRow_56 : decode cX11_isMixedRow 56 = .ok (.goto 4, 3) := by decide +kernel
theorem dX11_isMixedRow_59 : decode cX11_isMixedRow 59 = .ok (.iconst 0, 1) := by decide +kernel
theorem dX11_isMixedRow_60 : decode cX11_isMixedRow 60 = .ok (.ireturn, 1) := by decide +kernel
def f_X11_isMixedRow_18  (h : AH) : Option (Int32 × AH) :=
  some (0, h)
def f_X11_isMixedRow_60 (s0 : Int32) (h : AH) : Option (Int32 × AH) :=
  og (bz s0) <|
  some (s0, h)
def f_X11_isMixedRow_24 : Nat → Int32 → Int32 → Int32 → Int32 → AH → Option (Int32 × AH)
  | 0, _, _, _, _, _ => none
  | n + 1, x0, x1, x2, x3, h =>
    if x0 ≤ x3 then (
      if x2 = (((1 : Int32) <<< (x0 &&& 31)) - 1) then (
        f_X11_isMixedRow_60 1 h
      ) else (
        f_X11_isMixedRow_60 0 h
      )
    ) else (
      ob (f_X11_rightOf x0 x1 x3 h) fun r_5 h_4 =>
      nm ((x2 ||| ((1 : Int32) <<< (r_5 &&& 31)))) fun x2_6 =>
      nm (x3 + 1) fun x3_8 =>
      f_X11_isMixedRow_24 n x0 x1 x2_6 x3_8 h_4
    )
def f_X11_isMixedRow (x0 : Int32) (x1 : Int32) (h : AH) : Option (Int32 × AH) :=
  if x1 < 0 then (
    f_X11_isMixedRow_18 h
  ) else (
    og (ix (x0 - 1) (sN 4)) <|
    og (decide (¬ (sT 4 (x0 - 1).toNatClampNeg) = 0)) <|
    if (x1 / (sT 4 (x0 - 1).toNatClampNeg)) ≤ 9 then (
      f_X11_isMixedRow_24 FU x0 x1 0 0 h
    ) else (
      f_X11_isMixedRow_18 h
    )
  )
set_option maxHeartbeats 4000000 in
set_option maxRecDepth 100000 in
theorem v_X11_isMixedRow_18 {E : EV} {d : Nat} (hd : 1 ≤ d) {r0 : Int32} {h0 : AH}  {h : AH} (hf : f_X11_isMixedRow_18 h = some (r0, h0)) : V E (d + 1) K_X11_isMixedRow (ZI E r0 h0) h [] [] 18 := by
  unfold f_X11_isMixedRow_18 at hf
  refine V_iconst (v := 0) dX11_isMixedRow_18 (by decide) ?_
  exact V_zret rfl (by decide) (so_s hf) dX11_isMixedRow_19
set_option maxHeartbeats 4000000 in
set_option maxRecDepth 100000 in
theorem v_X11_isMixedRow_60 {E : EV} {d : Nat} (hd : 1 ≤ d) {r0 : Int32} {h0 : AH} {s0 : Int32} {h : AH} (hf : f_X11_isMixedRow_60 s0 h = some (r0, h0)) : V E (d + 1) K_X11_isMixedRow (ZI E r0 h0) h [] [.int s0] 60 := by
  unfold f_X11_isMixedRow_60 at hf
  obtain ⟨b_1, hf⟩ := og_s hf
  exact V_zret rfl b_1 (so_s hf) dX11_isMixedRow_60
set_option maxHeartbeats 4000000 in
set_option maxRecDepth 100000 in
theorem v_X11_isMixedRow_24 {E : EV} {d : Nat} (hd : 1 ≤ d) {r0 : Int32} {h0 : AH} : ∀ (n : Nat) (x0 : Int32) (x1 : Int32) (x2 : Int32) (x3 : Int32) (h : AH), f_X11_isMixedRow_24 n x0 x1 x2 x3 h = some (r0, h0) → V E (d + 1) K_X11_isMixedRow (ZI E r0 h0) h [(0, .int x0), (1, .int x1), (2, .int x2), (3, .int x3)] [] 24 := by
  intro n
  induction n with
  | zero =>
    intro x0 x1 x2 x3 h hf
    rw [f_X11_isMixedRow_24] at hf
    cases hf
  | succ n ih =>
    intro x0 x1 x2 x3 h hf
    rw [f_X11_isMixedRow_24] at hf
    refine V_iload_n 3 dX11_isMixedRow_24 rfl rfl ?_
    refine V_iload_n 0 dX11_isMixedRow_25 rfl rfl ?_
    refine V_ic_ge (tgt := 46) dX11_isMixedRow_26 (by decide) (fun c_1 => ?_) (fun c_1 => ?_)
    · have hf := it_s c_1 hf
      refine V_iload_n 2 dX11_isMixedRow_46 rfl rfl ?_
      refine V_iconst (v := 1) dX11_isMixedRow_47 (by decide) ?_
      refine V_iload_n 0 dX11_isMixedRow_48 rfl rfl ?_
      refine V_ishl dX11_isMixedRow_49 ?_
      refine V_iconst (v := 1) dX11_isMixedRow_50 (by decide) ?_
      refine V_isub dX11_isMixedRow_51 ?_
      refine V_ic_ne (tgt := 59) dX11_isMixedRow_52 (by decide) (fun c_2 => ?_) (fun c_2 => ?_)
      · have hf := if_s c_2 hf
        refine V_iconst (v := 0) dX11_isMixedRow_59 (by decide) ?_
        refine V_sub [] rfl ?_
        exact v_X11_isMixedRow_60 hd hf
      · have hf := it_s c_2 hf
        refine V_iconst (v := 1) dX11_isMixedRow_55 (by decide) ?_
        refine V_goto (tgt := 60) dX11_isMixedRow_56 (by decide) ?_
        refine V_sub [] rfl ?_
        exact v_X11_isMixedRow_60 hd hf
    · have hf := if_s c_1 hf
      refine V_iload_n 2 dX11_isMixedRow_29 rfl rfl ?_
      refine V_iconst (v := 1) dX11_isMixedRow_30 (by decide) ?_
      refine V_iload_n 0 dX11_isMixedRow_31 rfl rfl ?_
      refine V_iload_n 1 dX11_isMixedRow_32 rfl rfl ?_
      refine V_iload_n 3 dX11_isMixedRow_33 rfl rfl ?_
      obtain ⟨r_5, h_4, e_3, hf⟩ := ob_s hf
      refine V_csi (As := [.int x0, .int x1, .int x3]) (rest := [.int 1, .int x2]) (c_X11_rightOf (d := d) (Nat.le_trans (Nat.le_of_ble_eq_true rfl) hd) e_3) ML_X11_307 MS_X11_rightOf rfl rfl rfl (Nat.le_of_ble_eq_true rfl) dX11_isMixedRow_34 ?_
      refine V_ishl dX11_isMixedRow_37 ?_
      refine V_ior dX11_isMixedRow_38 ?_
      obtain ⟨x2_6, e_7, hf⟩ := nm_s hf
      refine V_istore_n (L' := [(2, .int x2_6), (0, .int x0), (1, .int x1), (3, .int x3)]) dX11_isMixedRow_39 rfl (Nat.le_of_ble_eq_true rfl) e_7 rfl ?_
      obtain ⟨x3_8, e_9, hf⟩ := nm_s hf
      refine V_iinc (a := 1) (L' := [(3, .int x3_8), (2, .int x2_6), (0, .int x0), (1, .int x1)]) 3 dX11_isMixedRow_40 rfl (by decide) (Nat.le_of_ble_eq_true rfl) e_9 rfl ?_
      refine V_goto (tgt := 24) dX11_isMixedRow_43 (by decide) ?_
      refine V_sub [2, 3, 1, 0] rfl ?_
      exact ih _ _ _ _ _ hf
set_option maxHeartbeats 4000000 in
set_option maxRecDepth 100000 in
theorem c_X11_isMixedRow {E : EV} {d : Nat} (hd : 1 + 1 ≤ d) {x0 : Int32} {x1 : Int32} {h : AH} {r0 : Int32} {h0 : AH} (hf : f_X11_isMixedRow x0 x1 h = some (r0, h0)) : Con E d K_X11_isMixedRow (ZI E r0 h0) [.int x0, .int x1] h := by
  obtain ⟨d, rfl⟩ : ∃ d', d = d' + 1 := ⟨d - 1, by omega⟩
  have hd := Nat.le_of_succ_le_succ hd
  refine Con.ofV rfl (Nat.le_of_ble_eq_true rfl) ?_
  unfold f_X11_isMixedRow at hf
  show V E (d + 1) K_X11_isMixedRow (ZI E r0 h0) h [(0, .int x0), (1, .int x1)] [] 0
  refine V_iload_n 1 dX11_isMixedRow_0 rfl rfl ?_
  refine V_if_lt (tgt := 18) dX11_isMixedRow_1 (by decide) (fun c_1 => ?_) (fun c_1 => ?_)
  · have hf := it_s c_1 hf
    refine V_sub [] rfl ?_
    exact v_X11_isMixedRow_18 hd hf
  · have hf := if_s c_1 hf
    refine V_iload_n 1 dX11_isMixedRow_4 rfl rfl ?_
    refine V_gets S_X11_314 rfl rfl dX11_isMixedRow_5 ?_
    refine V_iload_n 0 dX11_isMixedRow_8 rfl rfl ?_
    refine V_iconst (v := 1) dX11_isMixedRow_9 (by decide) ?_
    refine V_isub dX11_isMixedRow_10 ?_
    obtain ⟨b_2, hf⟩ := og_s hf
    refine V_tald (i := 4) (by decide) rfl b_2 dX11_isMixedRow_11 ?_
    obtain ⟨b_3, hf⟩ := og_s hf
    refine V_idiv dX11_isMixedRow_12 (of_decide_eq_true b_3) ?_
    refine V_bipush (v := 9) dX11_isMixedRow_13 (by decide) ?_
    refine V_ic_le (tgt := 20) dX11_isMixedRow_15 (by decide) (fun c_4 => ?_) (fun c_4 => ?_)
    · have hf := it_s c_4 hf
      refine V_iconst (v := 0) dX11_isMixedRow_20 (by decide) ?_
      refine V_istore_n (L' := [(2, .int 0), (0, .int x0), (1, .int x1)]) dX11_isMixedRow_21 rfl (Nat.le_of_ble_eq_true rfl) rfl rfl ?_
      refine V_iconst (v := 0) dX11_isMixedRow_22 (by decide) ?_
      refine V_istore_n (L' := [(3, .int 0), (2, .int 0), (0, .int x0), (1, .int x1)]) dX11_isMixedRow_23 rfl (Nat.le_of_ble_eq_true rfl) rfl rfl ?_
      refine V_sub [2, 3, 1, 0] rfl ?_
      exact v_X11_isMixedRow_24 hd FU _ _ _ _ _ hf
    · have hf := if_s c_4 hf
      refine V_sub [] rfl ?_
      exact v_X11_isMixedRow_18 hd hf
theorem dX5_rest_0 : decode cX5_rest 0 = .ok (.aload_n 0, 1) := by decide +kernel
theorem dX5_rest_1 : decode cX5_rest 1 = .ok (.getfield 18, 3) := by decide +kernel
theorem dX5_rest_4 : decode cX5_rest 4 = .ok (.aload_n 0, 1) := by decide +kernel
theorem dX5_rest_5 : decode cX5_rest 5 = .ok (.getfield 34, 3) := by decide +kernel
theorem dX5_rest_8 : decode cX5_rest 8 = .ok (.iaload, 1) := by decide +kernel
theorem dX5_rest_9 : decode cX5_rest 9 = .ok (.ireturn, 1) := by decide +kernel
def f_X5_rest (k0 : Nat) (h : AH) : Option (Int32 × AH) :=
  og (ix (h.1 k0 2) (an (rf k0 4))) <|
  some ((h.1 (rf k0 4) (h.1 k0 2).toNatClampNeg), h)
set_option maxHeartbeats 4000000 in
set_option maxRecDepth 100000 in
theorem c_X5_rest {E : EV} {d : Nat} (hd : 0 + 1 ≤ d) {k0 : Nat} {h : AH} {r0 : Int32} {h0 : AH} (hf : f_X5_rest k0 h = some (r0, h0)) (t_k0 : kd k0 = (0, 5)) : Con E d K_X5_rest (ZI E r0 h0) [.ref k0] h := by
  obtain ⟨d, rfl⟩ : ∃ d', d = d' + 1 := ⟨d - 1, by omega⟩
  have hd := Nat.le_of_succ_le_succ hd
  refine Con.ofV rfl (Nat.le_of_ble_eq_true rfl) ?_
  unfold f_X5_rest at hf
  show V E (d + 1) K_X5_rest (ZI E r0 h0) h [(0, .ref k0)] [] 0
  refine V_aload_n 0 dX5_rest_0 rfl rfl ?_
  refine V_getR F_X5_18 rfl t_k0 rfl dX5_rest_1 ?_
  refine V_aload_n 0 dX5_rest_4 rfl rfl ?_
  refine V_getI F_X5_34 rfl t_k0 rfl dX5_rest_5 ?_
  obtain ⟨b_1, hf⟩ := og_s hf
  refine V_iald (rfA t_k0 (Nat.le_of_ble_eq_true rfl) rfl rfl (by decide)) b_1 dX5_rest_8 ?_
  exact V_iret rfl (so_s hf) dX5_rest_9
theorem dX11_left_0 : decode cX11_left 0 = .ok (.aload_n 0, 1) := by decide +kernel
theorem dX11_left_1 : decode cX11_left 1 = .ok (.iload_n 1, 1) := by decide +kernel
theorem dX11_left_2 : decode cX11_left 2 = .ok (.iload_n 2, 1) := by decide +kernel
theorem dX11_left_3 : decode cX11_left 3 = .ok (.invokevirtual 182, 3) := by decide +kernel
theorem dX11_left_6 : decode cX11_left 6 = .ok (.ifCond .eq 12, 3) := by decide +kernel
theorem dX11_left_9 : decode cX11_left 9 = .ok (.iload_n 3, 1) := by decide +kernel
theorem dX11_left_10 : decode cX11_left 10 = .ok (.ifCond .lt 8, 3) := by decide +kernel
theorem dX11_left_13 : decode cX11_left 13 = .ok (.iload_n 3, 1) := by decide +kernel
theorem dX11_left_14 : decode cX11_left 14 = .ok (.iconst 1, 1) := by decide +kernel
theorem dX11_left_15 : decode cX11_left 15 = .ok (.if_icmp .le 5, 3) := by decide +kernel
theorem dX11_left_18 : decode cX11_left 18 = .ok (.iconst (-1), 1) := by decide +kernel
theorem dX11_left_19 : decode cX11_left 19 = .ok (.ireturn, 1) := by decide +kernel
theorem dX11_left_20 : decode cX11_left 20 = .ok (.aload_n 0, 1) := by decide +kernel
theorem dX11_left_21 : decode cX11_left 21 = .ok (.iload_n 1, 1) := by decide +kernel
theorem dX11_left_22 : decode cX11_left 22 = .ok (.iload_n 2, 1) := by decide +kernel
theorem dX11_left_23 : decode cX11_left 23 = .ok (.invokevirtual 195, 3) := by decide +kernel
theorem dX11_left_26 : decode cX11_left 26 = .ok (.istore 4, 2) := by decide +kernel
theorem dX11_left_28 : decode cX11_left 28 = .ok (.aload_n 0, 1) := by decide +kernel
theorem dX11_left_29 : decode cX11_left 29 = .ok (.getfield 73, 3) := by decide +kernel
theorem dX11_left_32 : decode cX11_left 32 = .ok (.iload 4, 2) := by decide +kernel
theorem dX11_left_34 : decode cX11_left 34 = .ok (.iload_n 2, 1) := by decide +kernel
theorem dX11_left_35 : decode cX11_left 35 = .ok (.invokevirtual 235, 3) := by decide +kernel
theorem dX11_left_38 : decode cX11_left 38 = .ok (.istore 5, 2) := by decide +kernel
theorem dX11_left_40 : decode cX11_left 40 = .ok (.iload 4, 2) := by decide +kernel
theorem dX11_left_42 : decode cX11_left 42 = .ok (.istore 6, 2) := by decide +kernel
theorem dX11_left_44 : decode cX11_left 44 = .ok (.iconst 0, 1) := by decide +kernel
theorem dX11_left_45 : decode cX11_left 45 = .ok (.istore 7, 2) := by decide +kernel
theorem dX11_left_47 : decode cX11_left 47 = .ok (.iconst 0, 1) := by decide +kernel
theorem dX11_left_48 : decode cX11_left 48 = .ok (.istore 8, 2) := by decide +kernel
theorem dX11_left_50 : decode cX11_left 50 = .ok (.iconst 0, 1) := by decide +kernel
theorem dX11_left_51 : decode cX11_left 51 = .ok (.istore 9, 2) := by decide +kernel
theorem dX11_left_53 : decode cX11_left 53 = .ok (.iload 9, 2) := by decide +kernel
theorem dX11_left_55 : decode cX11_left 55 = .ok (.iload 5, 2) := by decide +kernel
theorem dX11_left_57 : decode cX11_left 57 = .ok (.if_icmp .ge 51, 3) := by decide +kernel
theorem dX11_left_60 : decode cX11_left 60 = .ok (.aload_n 0, 1) := by decide +kernel
theorem dX11_left_61 : decode cX11_left 61 = .ok (.getfield 73, 3) := by decide +kernel
theorem dX11_left_64 : decode cX11_left 64 = .ok (.iload 8, 2) := by decide +kernel
theorem dX11_left_66 : decode cX11_left 66 = .ok (.invokevirtual 200, 3) := by decide +kernel
theorem dX11_left_69 : decode cX11_left 69 = .ok (.iload 6, 2) := by decide +kernel
theorem dX11_left_71 : decode cX11_left 71 = .ok (.aload_n 0, 1) := by decide +kernel
theorem dX11_left_72 : decode cX11_left 72 = .ok (.getfield 73, 3) := by decide +kernel
theorem dX11_left_75 : decode cX11_left 75 = .ok (.invokevirtual 332, 3) := by decide +kernel
theorem dX11_left_78 : decode cX11_left 78 = .ok (.iand, 1) := by decide +kernel
theorem dX11_left_79 : decode cX11_left 79 = .ok (.istore 6, 2) := by decide +kernel
theorem dX11_left_81 : decode cX11_left 81 = .ok (.iload 7, 2) := by decide +kernel
theorem dX11_left_83 : decode cX11_left 83 = .ok (.aload_n 0, 1) := by decide +kernel
theorem dX11_left_84 : decode cX11_left 84 = .ok (.getfield 73, 3) := by decide +kernel
theorem dX11_left_87 : decode cX11_left 87 = .ok (.invokevirtual 332, 3) := by decide +kernel
theorem dX11_left_90 : decode cX11_left 90 = .ok (.ior, 1) := by decide +kernel
theorem dX11_left_91 : decode cX11_left 91 = .ok (.istore 7, 2) := by decide +kernel
theorem dX11_left_93 : decode cX11_left 93 = .ok (.aload_n 0, 1) := by decide +kernel
theorem dX11_left_94 : decode cX11_left 94 = .ok (.getfield 73, 3) := by decide +kernel
theorem dX11_left_97 : decode cX11_left 97 = .ok (.invokevirtual 244, 3) := by decide +kernel
theorem dX11_left_100 : decode cX11_left 100 = .ok (.istore 8, 2) := by decide +kernel
theorem dX11_left_102 : decode cX11_left 102 = .ok (.iinc 9 1, 3) := by decide +kernel
theorem dX11_left_105 : decode cX11_left 105 = .ok (.goto (-52), 3) := by decide +kernel
theorem dX11_left_108 : decode cX11_left 108 = .ok (.iload_n 3, 1) := by decide +kernel
theorem dX11_left_109 : decode cX11_left 109 = .ok (.ifCond .ne 8, 3) := by decide +kernel
theorem dX11_left_112 : decode cX11_left 112 = .ok (.iload 6, 2) := by decide +kernel
theorem dX11_left_114 : decode cX11_left 114 = .ok (.goto 5, 3) := by decide +kernel
theorem dX11_left_117 : decode cX11_left 117 = .ok (.iload 7, 2) := by decide +kernel
theorem dX11_left_119 : decode cX11_left 119 = .ok (.ireturn, 1) := by decide +kernel
theorem ML_X11_332 : MLk RX11 332 yX5_rest := Or.inl ml_X11_332
theorem MV_X5_rest : MVk K_X5_rest 0 5 := ⟨⟨cd_X5_rest, in_X5, ⟨by decide, by decide, by decide +kernel⟩, by decide⟩, im_X5_rest, se_X5_rest, _, _, rfl⟩
def f_X11_left_18  (h : AH) : Option (Int32 × AH) :=
  some ((-1), h)
def f_X11_left_119 (s0 : Int32) (h : AH) : Option (Int32 × AH) :=
  some (s0, h)
def f_X11_left_53 : Nat → Nat → Int32 → Int32 → Int32 → Int32 → Int32 → Int32 → AH → Option (Int32 × AH)
  | 0, _, _, _, _, _, _, _, _ => none
  | n + 1, k0, x3, x5, x6, x7, x8, x9, h =>
    if x5 ≤ x9 then (
      if x3 = 0 then (
        f_X11_left_119 x6 h
      ) else (
        f_X11_left_119 x7 h
      )
    ) else (
      ov (f_X5_go (rf k0 11) x8 h) fun h_4 =>
      ob (f_X5_rest (rf k0 11) h_4) fun r_7 h_6 =>
      nm ((x6 &&& r_7)) fun x6_8 =>
      ob (f_X5_rest (rf k0 11) h_6) fun r_12 h_11 =>
      nm ((x7 ||| r_12)) fun x7_13 =>
      ob (f_X5_advance (rf k0 11) h_11) fun r_17 h_16 =>
      nm (x9 + 1) fun x9_18 =>
      f_X11_left_53 n k0 x3 x5 x6_8 x7_13 r_17 x9_18 h_16
    )
def f_X11_left (k0 : Nat) (x1 : Int32) (x2 : Int32) (x3 : Int32) (h : AH) : Option (Int32 × AH) :=
  ob (f_X11_isParty k0 x1 x2 h) fun r_3 h_2 =>
  if r_3 = 0 then (
    f_X11_left_18 h_2
  ) else (
    if x3 < 0 then (
      f_X11_left_18 h_2
    ) else (
      if x3 ≤ 1 then (
        ob (f_X11_openDoor k0 x1 x2 h_2) fun r_9 h_8 =>
        ob (f_X5_first (rf k0 11) r_9 x2 h_8) fun r_12 h_11 =>
        f_X11_left_53 FU k0 x3 r_12 r_9 0 0 0 h_11
      ) else (
        f_X11_left_18 h_2
      )
    )
  )
set_option maxHeartbeats 4000000 in
set_option maxRecDepth 100000 in
theorem v_X11_left_18 {E : EV} {d : Nat} (hd : 5 ≤ d) {r0 : Int32} {h0 : AH}  {h : AH} (hf : f_X11_left_18 h = some (r0, h0)) : V E (d + 1) K_X11_left (ZI E r0 h0) h [] [] 18 := by
  unfold f_X11_left_18 at hf
  refine V_iconst (v := (-1)) dX11_left_18 (by decide) ?_
  exact V_iret rfl (so_s hf) dX11_left_19
set_option maxHeartbeats 4000000 in
set_option maxRecDepth 100000 in
theorem v_X11_left_119 {E : EV} {d : Nat} (hd : 5 ≤ d) {r0 : Int32} {h0 : AH} {s0 : Int32} {h : AH} (hf : f_X11_left_119 s0 h = some (r0, h0)) : V E (d + 1) K_X11_left (ZI E r0 h0) h [] [.int s0] 119 := by
  unfold f_X11_left_119 at hf
  exact V_iret rfl (so_s hf) dX11_left_119
set_option maxHeartbeats 4000000 in
set_option maxRecDepth 100000 in
theorem v_X11_left_53 {E : EV} {d : Nat} (hd : 5 ≤ d) {r0 : Int32} {h0 : AH} : ∀ (n : Nat) (k0 : Nat) (x3 : Int32) (x5 : Int32) (x6 : Int32) (x7 : Int32) (x8 : Int32) (x9 : Int32) (h : AH), f_X11_left_53 n k0 x3 x5 x6 x7 x8 x9 h = some (r0, h0) → kd k0 = (0, 11) → V E (d + 1) K_X11_left (ZI E r0 h0) h [(0, .ref k0), (3, .int x3), (5, .int x5), (6, .int x6), (7, .int x7), (8, .int x8), (9, .int x9)] [] 53 := by
  intro n
  induction n with
  | zero =>
    intro k0 x3 x5 x6 x7 x8 x9 h hf
    rw [f_X11_left_53] at hf
    cases hf
  | succ n ih =>
    intro k0 x3 x5 x6 x7 x8 x9 h hf t_k0
    rw [f_X11_left_53] at hf
    refine V_iload 6 dX11_left_53 rfl ?_
    refine V_iload 2 dX11_left_55 rfl ?_
    refine V_ic_ge (tgt := 108) dX11_left_57 (by decide) (fun c_1 => ?_) (fun c_1 => ?_)
    · have hf := it_s c_1 hf
      refine V_iload_n 1 dX11_left_108 rfl rfl ?_
      refine V_if_ne (tgt := 117) dX11_left_109 (by decide) (fun c_2 => ?_) (fun c_2 => ?_)
      · have hf := if_s c_2 hf
        refine V_iload 4 dX11_left_117 rfl ?_
        refine V_sub [] rfl ?_
        exact v_X11_left_119 hd hf
      · have hf := it_s c_2 hf
        refine V_iload 3 dX11_left_112 rfl ?_
        refine V_goto (tgt := 119) dX11_left_114 (by decide) ?_
        refine V_sub [] rfl ?_
        exact v_X11_left_119 hd hf
    · have hf := if_s c_1 hf
      refine V_aload_n 0 dX11_left_60 rfl rfl ?_
      refine V_getR F_X11_73 rfl t_k0 rfl dX11_left_61 ?_
      refine V_iload 5 dX11_left_64 rfl ?_
      obtain ⟨h_4, e_3, hf⟩ := ov_s hf
      refine V_cvv (As := [.int x8]) (rest := []) (c_X5_go (d := d) (Nat.le_trans (Nat.le_of_ble_eq_true rfl) hd) e_3 (rfO t_k0 (Nat.le_of_ble_eq_true rfl) rfl rfl)) ML_X11_200 MV_X5_go rfl (rfO t_k0 (Nat.le_of_ble_eq_true rfl) rfl rfl) rfl rfl (Nat.le_of_ble_eq_true rfl) dX11_left_66 ?_
      refine V_iload 3 dX11_left_69 rfl ?_
      refine V_aload_n 0 dX11_left_71 rfl rfl ?_
      refine V_getR F_X11_73 rfl t_k0 rfl dX11_left_72 ?_
      obtain ⟨r_7, h_6, e_5, hf⟩ := ob_s hf
      refine V_cvi (As := []) (rest := [.int x6]) (c_X5_rest (d := d) (Nat.le_trans (Nat.le_of_ble_eq_true rfl) hd) e_5 (rfO t_k0 (Nat.le_of_ble_eq_true rfl) rfl rfl)) ML_X11_332 MV_X5_rest rfl (rfO t_k0 (Nat.le_of_ble_eq_true rfl) rfl rfl) rfl rfl (Nat.le_of_ble_eq_true rfl) dX11_left_75 ?_
      refine V_iand dX11_left_78 ?_
      obtain ⟨x6_8, e_9, hf⟩ := nm_s hf
      refine V_istore (L' := [(6, .int x6_8), (0, .ref k0), (3, .int x3), (5, .int x5), (7, .int x7), (8, .int x8), (9, .int x9)]) dX11_left_79 (Nat.le_of_ble_eq_true rfl) e_9 rfl ?_
      refine V_iload 4 dX11_left_81 rfl ?_
      refine V_aload_n 1 dX11_left_83 rfl rfl ?_
      refine V_getR F_X11_73 rfl t_k0 rfl dX11_left_84 ?_
      obtain ⟨r_12, h_11, e_10, hf⟩ := ob_s hf
      refine V_cvi (As := []) (rest := [.int x7]) (c_X5_rest (d := d) (Nat.le_trans (Nat.le_of_ble_eq_true rfl) hd) e_10 (rfO t_k0 (Nat.le_of_ble_eq_true rfl) rfl rfl)) ML_X11_332 MV_X5_rest rfl (rfO t_k0 (Nat.le_of_ble_eq_true rfl) rfl rfl) rfl rfl (Nat.le_of_ble_eq_true rfl) dX11_left_87 ?_
      refine V_ior dX11_left_90 ?_
      obtain ⟨x7_13, e_14, hf⟩ := nm_s hf
      refine V_istore (L' := [(7, .int x7_13), (6, .int x6_8), (0, .ref k0), (3, .int x3), (5, .int x5), (8, .int x8), (9, .int x9)]) dX11_left_91 (Nat.le_of_ble_eq_true rfl) e_14 rfl ?_
      refine V_aload_n 2 dX11_left_93 rfl rfl ?_
      refine V_getR F_X11_73 rfl t_k0 rfl dX11_left_94 ?_
      obtain ⟨r_17, h_16, e_15, hf⟩ := ob_s hf
      refine V_cvi (As := []) (rest := []) (c_X5_advance (d := d) (Nat.le_trans (Nat.le_of_ble_eq_true rfl) hd) e_15 (rfO t_k0 (Nat.le_of_ble_eq_true rfl) rfl rfl)) ML_X11_244 MV_X5_advance rfl (rfO t_k0 (Nat.le_of_ble_eq_true rfl) rfl rfl) rfl rfl (Nat.le_of_ble_eq_true rfl) dX11_left_97 ?_
      refine V_istore (L' := [(8, .int r_17), (7, .int x7_13), (6, .int x6_8), (0, .ref k0), (3, .int x3), (5, .int x5), (9, .int x9)]) dX11_left_100 (Nat.le_of_ble_eq_true rfl) rfl rfl ?_
      obtain ⟨x9_18, e_19, hf⟩ := nm_s hf
      refine V_iinc (a := 1) (L' := [(9, .int x9_18), (8, .int r_17), (7, .int x7_13), (6, .int x6_8), (0, .ref k0), (3, .int x3), (5, .int x5)]) 6 dX11_left_102 rfl (by decide) (Nat.le_of_ble_eq_true rfl) e_19 rfl ?_
      refine V_goto (tgt := 53) dX11_left_105 (by decide) ?_
      refine V_sub [4, 5, 6, 3, 2, 1, 0] rfl ?_
      exact ih _ _ _ _ _ _ _ _ hf t_k0
set_option maxHeartbeats 4000000 in
set_option maxRecDepth 100000 in
theorem c_X11_left {E : EV} {d : Nat} (hd : 5 + 1 ≤ d) {k0 : Nat} {x1 : Int32} {x2 : Int32} {x3 : Int32} {h : AH} {r0 : Int32} {h0 : AH} (hf : f_X11_left k0 x1 x2 x3 h = some (r0, h0)) (t_k0 : kd k0 = (0, 11)) : Con E d K_X11_left (ZI E r0 h0) [.ref k0, .int x1, .int x2, .int x3] h := by
  obtain ⟨d, rfl⟩ : ∃ d', d = d' + 1 := ⟨d - 1, by omega⟩
  have hd := Nat.le_of_succ_le_succ hd
  refine Con.ofV rfl (Nat.le_of_ble_eq_true rfl) ?_
  unfold f_X11_left at hf
  show V E (d + 1) K_X11_left (ZI E r0 h0) h [(0, .ref k0), (1, .int x1), (2, .int x2), (3, .int x3)] [] 0
  refine V_aload_n 0 dX11_left_0 rfl rfl ?_
  refine V_iload_n 1 dX11_left_1 rfl rfl ?_
  refine V_iload_n 2 dX11_left_2 rfl rfl ?_
  obtain ⟨r_3, h_2, e_1, hf⟩ := ob_s hf
  refine V_cvi (As := [.int x1, .int x2]) (rest := []) (c_X11_isParty (d := d) (Nat.le_trans (Nat.le_of_ble_eq_true rfl) hd) e_1 t_k0) ML_X11_182 MV_X11_isParty rfl t_k0 rfl rfl (Nat.le_of_ble_eq_true rfl) dX11_left_3 ?_
  refine V_if_eq (tgt := 18) dX11_left_6 (by decide) (fun c_4 => ?_) (fun c_4 => ?_)
  · have hf := it_s c_4 hf
    refine V_sub [] rfl ?_
    exact v_X11_left_18 hd hf
  · have hf := if_s c_4 hf
    refine V_iload_n 3 dX11_left_9 rfl rfl ?_
    refine V_if_lt (tgt := 18) dX11_left_10 (by decide) (fun c_5 => ?_) (fun c_5 => ?_)
    · have hf := it_s c_5 hf
      refine V_sub [] rfl ?_
      exact v_X11_left_18 hd hf
    · have hf := if_s c_5 hf
      refine V_iload_n 3 dX11_left_13 rfl rfl ?_
      refine V_iconst (v := 1) dX11_left_14 (by decide) ?_
      refine V_ic_le (tgt := 20) dX11_left_15 (by decide) (fun c_6 => ?_) (fun c_6 => ?_)
      · have hf := it_s c_6 hf
        refine V_aload_n 0 dX11_left_20 rfl rfl ?_
        refine V_iload_n 1 dX11_left_21 rfl rfl ?_
        refine V_iload_n 2 dX11_left_22 rfl rfl ?_
        obtain ⟨r_9, h_8, e_7, hf⟩ := ob_s hf
        refine V_cvi (As := [.int x1, .int x2]) (rest := []) (c_X11_openDoor (d := d) (Nat.le_trans (Nat.le_of_ble_eq_true rfl) hd) e_7 t_k0) ML_X11_195 MV_X11_openDoor rfl t_k0 rfl rfl (Nat.le_of_ble_eq_true rfl) dX11_left_23 ?_
        refine V_istore (L' := [(4, .int r_9), (0, .ref k0), (1, .int x1), (2, .int x2), (3, .int x3)]) dX11_left_26 (Nat.le_of_ble_eq_true rfl) rfl rfl ?_
        refine V_aload_n 1 dX11_left_28 rfl rfl ?_
        refine V_getR F_X11_73 rfl t_k0 rfl dX11_left_29 ?_
        refine V_iload 0 dX11_left_32 rfl ?_
        refine V_iload_n 3 dX11_left_34 rfl rfl ?_
        obtain ⟨r_12, h_11, e_10, hf⟩ := ob_s hf
        refine V_cvi (As := [.int r_9, .int x2]) (rest := []) (c_X5_first (d := d) (Nat.le_trans (Nat.le_of_ble_eq_true rfl) hd) e_10 (rfO t_k0 (Nat.le_of_ble_eq_true rfl) rfl rfl)) ML_X11_235 MV_X5_first rfl (rfO t_k0 (Nat.le_of_ble_eq_true rfl) rfl rfl) rfl rfl (Nat.le_of_ble_eq_true rfl) dX11_left_35 ?_
        refine V_istore (L' := [(5, .int r_12), (4, .int r_9), (0, .ref k0), (1, .int x1), (2, .int x2), (3, .int x3)]) dX11_left_38 (Nat.le_of_ble_eq_true rfl) rfl rfl ?_
        refine V_iload 1 dX11_left_40 rfl ?_
        refine V_istore (L' := [(6, .int r_9), (5, .int r_12), (4, .int r_9), (0, .ref k0), (1, .int x1), (2, .int x2), (3, .int x3)]) dX11_left_42 (Nat.le_of_ble_eq_true rfl) rfl rfl ?_
        refine V_iconst (v := 0) dX11_left_44 (by decide) ?_
        refine V_istore (L' := [(7, .int 0), (6, .int r_9), (5, .int r_12), (4, .int r_9), (0, .ref k0), (1, .int x1), (2, .int x2), (3, .int x3)]) dX11_left_45 (Nat.le_of_ble_eq_true rfl) rfl rfl ?_
        refine V_iconst (v := 0) dX11_left_47 (by decide) ?_
        refine V_istore (L' := [(8, .int 0), (7, .int 0), (6, .int r_9), (5, .int r_12), (4, .int r_9), (0, .ref k0), (1, .int x1), (2, .int x2), (3, .int x3)]) dX11_left_48 (Nat.le_of_ble_eq_true rfl) rfl rfl ?_
        refine V_iconst (v := 0) dX11_left_50 (by decide) ?_
        refine V_istore (L' := [(9, .int 0), (8, .int 0), (7, .int 0), (6, .int r_9), (5, .int r_12), (4, .int r_9), (0, .ref k0), (1, .int x1), (2, .int x2), (3, .int x3)]) dX11_left_51 (Nat.le_of_ble_eq_true rfl) rfl rfl ?_
        refine V_sub [6, 9, 4, 3, 2, 1, 0] rfl ?_
        exact v_X11_left_53 hd FU _ _ _ _ _ _ _ _ hf t_k0
      · have hf := if_s c_6 hf
        refine V_sub [] rfl ?_
        exact v_X11_left_18 hd hf
