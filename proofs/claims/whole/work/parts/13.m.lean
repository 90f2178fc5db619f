theorem dX4_addKind_0 : decode cX4_addKind 0 = .ok (.iconst 0, 1) := by decide +kernel
theorem dX4_addKind_1 : decode cX4_addKind 1 = .ok (.istore_n 2, 1) := by decide +kernel
theorem dX4_addKind_2 : decode cX4_addKind 2 = .ok (.iload_n 2, 1) := by decide +kernel
theorem dX4_addKind_3 : decode cX4_addKind 3 = .ok (.aload_n 0, 1) := by decide +kernel
theorem dX4_addKind_4 : decode cX4_addKind 4 = .ok (.getfield 64, 3) := by decide +kernel
theorem dX4_addKind_7 : decode cX4_addKind 7 = .ok (.if_icmp .ge 30, 3) := by decide +kernel
theorem dX4_addKind_10 : decode cX4_addKind 10 = .ok (.aload_n 0, 1) := by decide +kernel
theorem dX4_addKind_11 : decode cX4_addKind 11 = .ok (.getfield 11, 3) := by decide +kernel
theorem dX4_addKind_14 : decode cX4_addKind 14 = .ok (.iload_n 2, 1) := by decide +kernel
theorem dX4_addKind_15 : decode cX4_addKind 15 = .ok (.iaload, 1) := by decide +kernel
theorem dX4_addKind_16 : decode cX4_addKind 16 = .ok (.iload_n 1, 1) := by decide +kernel
theorem dX4_addKind_17 : decode cX4_addKind 17 = .ok (.if_icmp .ne 14, 3) := by decide +kernel
theorem dX4_addKind_20 : decode cX4_addKind 20 = .ok (.aload_n 0, 1) := by decide +kernel
theorem dX4_addKind_21 : decode cX4_addKind 21 = .ok (.getfield 15, 3) := by decide +kernel
theorem dX4_addKind_24 : decode cX4_addKind 24 = .ok (.iload_n 2, 1) := by decide +kernel
theorem dX4_addKind_25 : decode cX4_addKind 25 = .ok (.dup2, 1) := by decide +kernel
theorem dX4_addKind_26 : decode cX4_addKind 26 = .ok (.iaload, 1) := by decide +kernel
theorem dX4_addKind_27 : decode cX4_addKind 27 = .ok (.iconst 1, 1) := by decide +kernel
theorem dX4_addKind_28 : decode cX4_addKind 28 = .ok (.iadd, 1) := by decide +kernel
theorem dX4_addKind_29 : decode cX4_addKind 29 = .ok (.iastore, 1) := by decide +kernel
theorem dX4_addKind_30 : decode cX4_addKind 30 = .ok (.return_, 1) := by decide +kernel
theorem dX4_addKind_31 : decode cX4_addKind 31 = .ok (.iinc 2 1, 3) := by decide +kernel
theorem dX4_addKind_34 : decode cX4_addKind 34 = .ok (.goto (-32), 3) := by decide +kernel
theorem dX4_addKind_37 : decode cX4_addKind 37 = .ok (.aload_n 0, 1) := by decide +kernel
theorem dX4_addKind_38 : decode cX4_addKind 38 = .ok (.getfield 64, 3) := by decide +kernel
theorem dX4_addKind_41 : decode cX4_addKind 41 = .ok (.bipush 24, 2) := by decide +kernel
theorem dX4_addKind_43 : decode cX4_addKind 43 = .ok (.if_icmp .ge 33, 3) := by decide +kernel
theorem dX4_addKind_46 : decode cX4_addKind 46 = .ok (.aload_n 0, 1) := by decide +kernel
theorem dX4_addKind_47 : decode cX4_addKind 47 = .ok (.getfield 11, 3) := by decide +kernel
theorem dX4_addKind_50 : decode cX4_addKind 50 = .ok (.aload_n 0, 1) := by decide +kernel
theorem dX4_addKind_51 : decode cX4_addKind 51 = .ok (.getfield 64, 3) := by decide +kernel
theorem dX4_addKind_54 : decode cX4_addKind 54 = .ok (.iload_n 1, 1) := by decide +kernel
theorem dX4_addKind_55 : decode cX4_addKind 55 = .ok (.iastore, 1) := by decide +kernel
theorem dX4_addKind_56 : decode cX4_addKind 56 = .ok (.aload_n 0, 1) := by decide +kernel
theorem dX4_addKind_57 : decode cX4_addKind 57 = .ok (.getfield 15, 3) := by decide +kernel
theorem dX4_addKind_60 : decode cX4_addKind 60 = .ok (.aload_n 0, 1) := by decide +kernel
theorem dX4_addKind_61 : decode cX4_addKind 61 = .ok (.getfield 64, 3) := by decide +kernel
theorem dX4_addKind_64 : decode cX4_addKind 64 = .ok (.iconst 1, 1) := by decide +kernel
theorem dX4_addKind_65 : decode cX4_addKind 65 = .ok (.iastore, 1) := by decide +kernel
theorem dX4_addKind_66 : decode cX4_addKind 66 = .ok (.aload_n 0, 1) := by decide +kernel
theorem dX4_addKind_67 : decode cX4_addKind 67 = .ok (.dup, 1) := by decide +kernel
theorem dX4_addKind_68 : decode cX4_addKind 68 = .ok (.getfield 64, 3) := by decide +kernel
theorem dX4_addKind_71 : decode cX4_addKind 71 = .ok (.iconst 1, 1) := by decide +kernel
theorem dX4_addKind_72 : decode cX4_addKind 72 = .ok (.iadd, 1) := by decide +kernel
theorem dX4_addKind_73 : decode cX4_addKind 73 = .ok (.putfield 64, 3) := by decide +kernel
theorem dX4_addKind_76 : decode cX4_addKind 76 = .ok (.return_, 1) := by decide +kernel
theorem F_X4_64 : FLk RX4 64 4 5 := ⟨RX4, TX4, 9, rfl, rfl, iw_X4, by decide, Or.inl fl_X4_64⟩
theorem F_X4_11 : FLk RX4 11 4 3 := ⟨RX4, TX4, 9, rfl, rfl, iw_X4, by decide, Or.inl fl_X4_11⟩
theorem F_X4_15 : FLk RX4 15 4 4 := ⟨RX4, TX4, 9, rfl, rfl, iw_X4, by decide, Or.inl fl_X4_15⟩
theorem P_X4_64 : FPk RX4 64 4 5 .int := ⟨RX4, TX4, 9, tyX4, rfl, rfl, iw_X4, by decide, Or.inl fl_X4_64, tyX4_ok, nmX4, rfl, by decide +kernel⟩
def f_X4_addKind_76  (h : AH) : Option AH :=
  some h
def f_X4_addKind_2 : Nat → Nat → Int32 → Int32 → AH → Option AH
  | 0, _, _, _, _ => none
  | n + 1, k0, x1, x2, h =>
    if (h.1 k0 5) ≤ x2 then (
      if 24 ≤ (h.1 k0 5) then (
        f_X4_addKind_76 h
      ) else (
        og (ix (h.1 k0 5) (an (rf k0 3))) <|
        nm (sI h (rf k0 3) (h.1 k0 5).toNatClampNeg x1) fun h_4 =>
        og (ix (h_4.1 k0 5) (an (rf k0 4))) <|
        nm (sI h_4 (rf k0 4) (h_4.1 k0 5).toNatClampNeg 1) fun h_7 =>
        nm (sI h_7 k0 5 ((h_7.1 k0 5) + 1)) fun h_9 =>
        f_X4_addKind_76 h_9
      )
    ) else (
      og (ix x2 (an (rf k0 3))) <|
      if (h.1 (rf k0 3) x2.toNatClampNeg) = x1 then (
        og (ix x2 (an (rf k0 4))) <|
        og (ix x2 (an (rf k0 4))) <|
        nm (sI h (rf k0 4) x2.toNatClampNeg ((h.1 (rf k0 4) x2.toNatClampNeg) + 1)) fun h_17 =>
        some h_17
      ) else (
        nm (x2 + 1) fun x2_13 =>
        f_X4_addKind_2 n k0 x1 x2_13 h
      )
    )
def f_X4_addKind (k0 : Nat) (x1 : Int32) (h : AH) : Option AH :=
  f_X4_addKind_2 FU k0 x1 0 h
set_option maxHeartbeats 4000000 in
set_option maxRecDepth 100000 in
theorem v_X4_addKind_76 {E : EV} {d : Nat} (hd : 0 ≤ d) {h0 : AH}  {h : AH} (hf : f_X4_addKind_76 h = some h0) : V E (d + 1) K_X4_addKind (ZV E h0) h [] [] 76 := by
  unfold f_X4_addKind_76 at hf
  exact V_vret rfl (so_s hf) dX4_addKind_76
set_option maxHeartbeats 4000000 in
set_option maxRecDepth 100000 in
theorem v_X4_addKind_2 {E : EV} {d : Nat} (hd : 0 ≤ d) {h0 : AH} : ∀ (n : Nat) (k0 : Nat) (x1 : Int32) (x2 : Int32) (h : AH), f_X4_addKind_2 n k0 x1 x2 h = some h0 → kd k0 = (0, 4) → V E (d + 1) K_X4_addKind (ZV E h0) h [(0, .ref k0), (1, .int x1), (2, .int x2)] [] 2 := by
  intro n
  induction n with
  | zero =>
    intro k0 x1 x2 h hf
    rw [f_X4_addKind_2] at hf
    cases hf
  | succ n ih =>
    intro k0 x1 x2 h hf t_k0
    rw [f_X4_addKind_2] at hf
    refine V_iload_n 2 dX4_addKind_2 rfl rfl ?_
    refine V_aload_n 0 dX4_addKind_3 rfl rfl ?_
    refine V_getI F_X4_64 rfl t_k0 rfl dX4_addKind_4 ?_
    refine V_ic_ge (tgt := 37) dX4_addKind_7 (by decide) (fun c_1 => ?_) (fun c_1 => ?_)
    · have hf := it_s c_1 hf
      refine V_aload_n 0 dX4_addKind_37 rfl rfl ?_
      refine V_getI F_X4_64 rfl t_k0 rfl dX4_addKind_38 ?_
      refine V_bipush (v := 24) dX4_addKind_41 (by decide) ?_
      refine V_ic_ge (tgt := 76) dX4_addKind_43 (by decide) (fun c_2 => ?_) (fun c_2 => ?_)
      · have hf := it_s c_2 hf
        refine V_sub [] rfl ?_
        exact v_X4_addKind_76 hd hf
      · have hf := if_s c_2 hf
        refine V_aload_n 0 dX4_addKind_46 rfl rfl ?_
        refine V_getR F_X4_11 rfl t_k0 rfl dX4_addKind_47 ?_
        refine V_aload_n 0 dX4_addKind_50 rfl rfl ?_
        refine V_getI F_X4_64 rfl t_k0 rfl dX4_addKind_51 ?_
        refine V_iload_n 1 dX4_addKind_54 rfl rfl ?_
        obtain ⟨b_3, hf⟩ := og_s hf
        obtain ⟨h_4, e_5, hf⟩ := nm_s hf
        refine V_iast (rfA t_k0 (Nat.le_of_ble_eq_true rfl) rfl rfl (by decide)) b_3 e_5 dX4_addKind_55 ?_
        refine V_aload_n 0 dX4_addKind_56 rfl rfl ?_
        refine V_getR F_X4_15 rfl t_k0 rfl dX4_addKind_57 ?_
        refine V_aload_n 0 dX4_addKind_60 rfl rfl ?_
        refine V_getI F_X4_64 rfl t_k0 rfl dX4_addKind_61 ?_
        refine V_iconst (v := 1) dX4_addKind_64 (by decide) ?_
        obtain ⟨b_6, hf⟩ := og_s hf
        obtain ⟨h_7, e_8, hf⟩ := nm_s hf
        refine V_iast (rfA t_k0 (Nat.le_of_ble_eq_true rfl) rfl rfl (by decide)) b_6 e_8 dX4_addKind_65 ?_
        refine V_aload_n 0 dX4_addKind_66 rfl rfl ?_
        refine V_dup dX4_addKind_67 rfl ?_
        refine V_getI F_X4_64 rfl t_k0 rfl dX4_addKind_68 ?_
        refine V_iconst (v := 1) dX4_addKind_71 (by decide) ?_
        refine V_iadd dX4_addKind_72 ?_
        obtain ⟨h_9, e_10, hf⟩ := nm_s hf
        refine V_putI P_X4_64 rfl t_k0 rfl e_10 dX4_addKind_73 ?_
        refine V_sub [] rfl ?_
        exact v_X4_addKind_76 hd hf
    · have hf := if_s c_1 hf
      refine V_aload_n 0 dX4_addKind_10 rfl rfl ?_
      refine V_getR F_X4_11 rfl t_k0 rfl dX4_addKind_11 ?_
      refine V_iload_n 2 dX4_addKind_14 rfl rfl ?_
      obtain ⟨b_11, hf⟩ := og_s hf
      refine V_iald (rfA t_k0 (Nat.le_of_ble_eq_true rfl) rfl rfl (by decide)) b_11 dX4_addKind_15 ?_
      refine V_iload_n 1 dX4_addKind_16 rfl rfl ?_
      refine V_ic_ne (tgt := 31) dX4_addKind_17 (by decide) (fun c_12 => ?_) (fun c_12 => ?_)
      · have hf := if_s c_12 hf
        obtain ⟨x2_13, e_14, hf⟩ := nm_s hf
        refine V_iinc (a := 1) (L' := [(2, .int x2_13), (0, .ref k0), (1, .int x1)]) 2 dX4_addKind_31 rfl (by decide) (Nat.le_of_ble_eq_true rfl) e_14 rfl ?_
        refine V_goto (tgt := 2) dX4_addKind_34 (by decide) ?_
        refine V_sub [1, 2, 0] rfl ?_
        exact ih _ _ _ _ hf t_k0
      · have hf := it_s c_12 hf
        refine V_aload_n 0 dX4_addKind_20 rfl rfl ?_
        refine V_getR F_X4_15 rfl t_k0 rfl dX4_addKind_21 ?_
        refine V_iload_n 2 dX4_addKind_24 rfl rfl ?_
        refine V_dup2 dX4_addKind_25 rfl rfl ?_
        obtain ⟨b_15, hf⟩ := og_s hf
        refine V_iald (rfA t_k0 (Nat.le_of_ble_eq_true rfl) rfl rfl (by decide)) b_15 dX4_addKind_26 ?_
        refine V_iconst (v := 1) dX4_addKind_27 (by decide) ?_
        refine V_iadd dX4_addKind_28 ?_
        obtain ⟨b_16, hf⟩ := og_s hf
        obtain ⟨h_17, e_18, hf⟩ := nm_s hf
        refine V_iast (rfA t_k0 (Nat.le_of_ble_eq_true rfl) rfl rfl (by decide)) b_16 e_18 dX4_addKind_29 ?_
        exact V_vret rfl (so_s hf) dX4_addKind_30
set_option maxHeartbeats 4000000 in
set_option maxRecDepth 100000 in
theorem c_X4_addKind {E : EV} {d : Nat} (hd : 0 + 1 ≤ d) {k0 : Nat} {x1 : Int32} {h : AH} {h0 : AH} (hf : f_X4_addKind k0 x1 h = some h0) (t_k0 : kd k0 = (0, 4)) : Con E d K_X4_addKind (ZV E h0) [.ref k0, .int x1] h := by
  obtain ⟨d, rfl⟩ : ∃ d', d = d' + 1 := ⟨d - 1, by omega⟩
  have hd := Nat.le_of_succ_le_succ hd
  refine Con.ofV rfl (Nat.le_of_ble_eq_true rfl) ?_
  unfold f_X4_addKind at hf
  show V E (d + 1) K_X4_addKind (ZV E h0) h [(0, .ref k0), (1, .int x1)] [] 0
  refine V_iconst (v := 0) dX4_addKind_0 (by decide) ?_
  refine V_istore_n (L' := [(2, .int 0), (0, .ref k0), (1, .int x1)]) dX4_addKind_1 rfl (Nat.le_of_ble_eq_true rfl) rfl rfl ?_
  refine V_sub [1, 2, 0] rfl ?_
  exact v_X4_addKind_2 hd FU _ _ _ _ hf t_k0
theorem dX4_findKinds_0 : decode cX4_findKinds 0 = .ok (.aload_n 0, 1) := by decide +kernel
theorem dX4_findKinds_1 : decode cX4_findKinds 1 = .ok (.getfield 32, 3) := by decide +kernel
theorem dX4_findKinds_4 : decode cX4_findKinds 4 = .ok (.aload_n 0, 1) := by decide +kernel
theorem dX4_findKinds_5 : decode cX4_findKinds 5 = .ok (.invokevirtual 70, 3) := by decide +kernel
theorem dX4_findKinds_8 : decode cX4_findKinds 8 = .ok (.iconst 1, 1) := by decide +kernel
theorem dX4_findKinds_9 : decode cX4_findKinds 9 = .ok (.aload_n 0, 1) := by decide +kernel
theorem dX4_findKinds_10 : decode cX4_findKinds 10 = .ok (.getfield 24, 3) := by decide +kernel
theorem dX4_findKinds_13 : decode cX4_findKinds 13 = .ok (.getfield 39, 3) := by decide +kernel
theorem dX4_findKinds_16 : decode cX4_findKinds 16 = .ok (.ishl, 1) := by decide +kernel
theorem dX4_findKinds_17 : decode cX4_findKinds 17 = .ok (.iconst 1, 1) := by decide +kernel
theorem dX4_findKinds_18 : decode cX4_findKinds 18 = .ok (.isub, 1) := by decide +kernel
theorem dX4_findKinds_19 : decode cX4_findKinds 19 = .ok (.invokevirtual 73, 3) := by decide +kernel
theorem dX4_findKinds_22 : decode cX4_findKinds 22 = .ok (.istore_n 1, 1) := by decide +kernel
theorem dX4_findKinds_23 : decode cX4_findKinds 23 = .ok (.iconst 0, 1) := by decide +kernel
theorem dX4_findKinds_24 : decode cX4_findKinds 24 = .ok (.istore_n 2, 1) := by decide +kernel
theorem dX4_findKinds_25 : decode cX4_findKinds 25 = .ok (.aload_n 0, 1) := by decide +kernel
theorem dX4_findKinds_26 : decode cX4_findKinds 26 = .ok (.iconst 0, 1) := by decide +kernel
theorem dX4_findKinds_27 : decode cX4_findKinds 27 = .ok (.putfield 64, 3) := by decide +kernel
theorem dX4_findKinds_30 : decode cX4_findKinds 30 = .ok (.iconst 0, 1) := by decide +kernel
theorem dX4_findKinds_31 : decode cX4_findKinds 31 = .ok (.istore_n 3, 1) := by decide +kernel
theorem dX4_findKinds_32 : decode cX4_findKinds 32 = .ok (.iload_n 3, 1) := by decide +kernel
theorem dX4_findKinds_33 : decode cX4_findKinds 33 = .ok (.iload_n 1, 1) := by decide +kernel
theorem dX4_findKinds_34 : decode cX4_findKinds 34 = .ok (.if_icmp .ge 34, 3) := by decide +kernel
theorem dX4_findKinds_37 : decode cX4_findKinds 37 = .ok (.aload_n 0, 1) := by decide +kernel
theorem dX4_findKinds_38 : decode cX4_findKinds 38 = .ok (.getfield 32, 3) := by decide +kernel
theorem dX4_findKinds_41 : decode cX4_findKinds 41 = .ok (.iload_n 2, 1) := by decide +kernel
theorem dX4_findKinds_42 : decode cX4_findKinds 42 = .ok (.invokevirtual 78, 3) := by decide +kernel
theorem dX4_findKinds_45 : decode cX4_findKinds 45 = .ok (.aload_n 0, 1) := by decide +kernel
theorem dX4_findKinds_46 : decode cX4_findKinds 46 = .ok (.aload_n 0, 1) := by decide +kernel
theorem dX4_findKinds_47 : decode cX4_findKinds 47 = .ok (.iconst 0, 1) := by decide +kernel
theorem dX4_findKinds_48 : decode cX4_findKinds 48 = .ok (.invokevirtual 82, 3) := by decide +kernel
theorem dX4_findKinds_51 : decode cX4_findKinds 51 = .ok (.invokevirtual 86, 3) := by decide +kernel
theorem dX4_findKinds_54 : decode cX4_findKinds 54 = .ok (.aload_n 0, 1) := by decide +kernel
theorem dX4_findKinds_55 : decode cX4_findKinds 55 = .ok (.getfield 32, 3) := by decide +kernel
theorem dX4_findKinds_58 : decode cX4_findKinds 58 = .ok (.invokevirtual 89, 3) := by decide +kernel
theorem dX4_findKinds_61 : decode cX4_findKinds 61 = .ok (.istore_n 2, 1) := by decide +kernel
theorem dX4_findKinds_62 : decode cX4_findKinds 62 = .ok (.iinc 3 1, 3) := by decide +kernel
theorem dX4_findKinds_65 : decode cX4_findKinds 65 = .ok (.goto (-33), 3) := by decide +kernel
theorem dX4_findKinds_68 : decode cX4_findKinds 68 = .ok (.iload_n 1, 1) := by decide +kernel
theorem dX4_findKinds_69 : decode cX4_findKinds 69 = .ok (.ireturn, 1) := by decide +kernel
theorem ML_X4_86 : MLk RX4 86 yX4_addKind := Or.inl ml_X4_86
theorem MV_X4_addKind : MVk K_X4_addKind 1 4 := ⟨⟨cd_X4_addKind, in_X4, ⟨by decide, by decide, by decide +kernel⟩, by decide⟩, im_X4_addKind, se_X4_addKind, _, _, rfl⟩
def f_X4_findKinds_32 : Nat → Nat → Int32 → Int32 → Int32 → AH → Option (Int32 × AH)
  | 0, _, _, _, _, _ => none
  | n + 1, k0, x1, x2, x3, h =>
    if x1 ≤ x3 then (
      some (x1, h)
    ) else (
      ov (f_X5_go (rf k0 2) x2 h) fun h_3 =>
      ob (f_X4_stateBehind k0 0 h_3) fun r_6 h_5 =>
      ov (f_X4_addKind k0 r_6 h_5) fun h_8 =>
      ob (f_X5_advance (rf k0 2) h_8) fun r_11 h_10 =>
      nm (x3 + 1) fun x3_12 =>
      f_X4_findKinds_32 n k0 x1 r_11 x3_12 h_10
    )
def f_X4_findKinds (k0 : Nat) (h : AH) : Option (Int32 × AH) :=
  ob (f_X4_pairsAround k0 h) fun r_3 h_2 =>
  ob (f_X5_first (rf k0 2) r_3 (((1 : Int32) <<< ((h_2.1 (rf k0 0) 2) &&& 31)) - 1) h_2) fun r_6 h_5 =>
  nm (sI h_5 k0 5 0) fun h_7 =>
  f_X4_findKinds_32 FU k0 r_6 0 0 h_7
set_option maxHeartbeats 4000000 in
set_option maxRecDepth 100000 in
theorem v_X4_findKinds_32 {E : EV} {d : Nat} (hd : 5 ≤ d) {r0 : Int32} {h0 : AH} : ∀ (n : Nat) (k0 : Nat) (x1 : Int32) (x2 : Int32) (x3 : Int32) (h : AH), f_X4_findKinds_32 n k0 x1 x2 x3 h = some (r0, h0) → kd k0 = (0, 4) → V E (d + 1) K_X4_findKinds (ZI E r0 h0) h [(0, .ref k0), (1, .int x1), (2, .int x2), (3, .int x3)] [] 32 := by
  intro n
  induction n with
  | zero =>
    intro k0 x1 x2 x3 h hf
    rw [f_X4_findKinds_32] at hf
    cases hf
  | succ n ih =>
    intro k0 x1 x2 x3 h hf t_k0
    rw [f_X4_findKinds_32] at hf
    refine V_iload_n 3 dX4_findKinds_32 rfl rfl ?_
    refine V_iload_n 1 dX4_findKinds_33 rfl rfl ?_
    refine V_ic_ge (tgt := 68) dX4_findKinds_34 (by decide) (fun c_1 => ?_) (fun c_1 => ?_)
    · have hf := it_s c_1 hf
      refine V_iload_n 1 dX4_findKinds_68 rfl rfl ?_
      exact V_iret rfl (so_s hf) dX4_findKinds_69
    · have hf := if_s c_1 hf
      refine V_aload_n 0 dX4_findKinds_37 rfl rfl ?_
      refine V_getR F_X4_32 rfl t_k0 rfl dX4_findKinds_38 ?_
      refine V_iload_n 2 dX4_findKinds_41 rfl rfl ?_
      obtain ⟨h_3, e_2, hf⟩ := ov_s hf
      refine V_cvv (As := [.int x2]) (rest := []) (c_X5_go (d := d) (Nat.le_trans (Nat.le_of_ble_eq_true rfl) hd) e_2 (rfO t_k0 (Nat.le_of_ble_eq_true rfl) rfl rfl)) ML_X4_78 MV_X5_go rfl (rfO t_k0 (Nat.le_of_ble_eq_true rfl) rfl rfl) rfl rfl (Nat.le_of_ble_eq_true rfl) dX4_findKinds_42 ?_
      refine V_aload_n 0 dX4_findKinds_45 rfl rfl ?_
      refine V_aload_n 0 dX4_findKinds_46 rfl rfl ?_
      refine V_iconst (v := 0) dX4_findKinds_47 (by decide) ?_
      obtain ⟨r_6, h_5, e_4, hf⟩ := ob_s hf
      refine V_cvi (As := [.int 0]) (rest := [.ref k0]) (c_X4_stateBehind (d := d) (Nat.le_trans (Nat.le_of_ble_eq_true rfl) hd) e_4 t_k0) ML_X4_82 MV_X4_stateBehind rfl t_k0 rfl rfl (Nat.le_of_ble_eq_true rfl) dX4_findKinds_48 ?_
      obtain ⟨h_8, e_7, hf⟩ := ov_s hf
      refine V_cvv (As := [.int r_6]) (rest := []) (c_X4_addKind (d := d) (Nat.le_trans (Nat.le_of_ble_eq_true rfl) hd) e_7 t_k0) ML_X4_86 MV_X4_addKind rfl t_k0 rfl rfl (Nat.le_of_ble_eq_true rfl) dX4_findKinds_51 ?_
      refine V_aload_n 0 dX4_findKinds_54 rfl rfl ?_
      refine V_getR F_X4_32 rfl t_k0 rfl dX4_findKinds_55 ?_
      obtain ⟨r_11, h_10, e_9, hf⟩ := ob_s hf
      refine V_cvi (As := []) (rest := []) (c_X5_advance (d := d) (Nat.le_trans (Nat.le_of_ble_eq_true rfl) hd) e_9 (rfO t_k0 (Nat.le_of_ble_eq_true rfl) rfl rfl)) ML_X4_89 MV_X5_advance rfl (rfO t_k0 (Nat.le_of_ble_eq_true rfl) rfl rfl) rfl rfl (Nat.le_of_ble_eq_true rfl) dX4_findKinds_58 ?_
      refine V_istore_n (L' := [(2, .int r_11), (0, .ref k0), (1, .int x1), (3, .int x3)]) dX4_findKinds_61 rfl (Nat.le_of_ble_eq_true rfl) rfl rfl ?_
      obtain ⟨x3_12, e_13, hf⟩ := nm_s hf
      refine V_iinc (a := 1) (L' := [(3, .int x3_12), (2, .int r_11), (0, .ref k0), (1, .int x1)]) 3 dX4_findKinds_62 rfl (by decide) (Nat.le_of_ble_eq_true rfl) e_13 rfl ?_
      refine V_goto (tgt := 32) dX4_findKinds_65 (by decide) ?_
      refine V_sub [2, 3, 1, 0] rfl ?_
      exact ih _ _ _ _ _ hf t_k0
set_option maxHeartbeats 4000000 in
set_option maxRecDepth 100000 in
theorem c_X4_findKinds {E : EV} {d : Nat} (hd : 5 + 1 ≤ d) {k0 : Nat} {h : AH} {r0 : Int32} {h0 : AH} (hf : f_X4_findKinds k0 h = some (r0, h0)) (t_k0 : kd k0 = (0, 4)) : Con E d K_X4_findKinds (ZI E r0 h0) [.ref k0] h := by
  obtain ⟨d, rfl⟩ : ∃ d', d = d' + 1 := ⟨d - 1, by omega⟩
  have hd := Nat.le_of_succ_le_succ hd
  refine Con.ofV rfl (Nat.le_of_ble_eq_true rfl) ?_
  unfold f_X4_findKinds at hf
  show V E (d + 1) K_X4_findKinds (ZI E r0 h0) h [(0, .ref k0)] [] 0
  refine V_aload_n 0 dX4_findKinds_0 rfl rfl ?_
  refine V_getR F_X4_32 rfl t_k0 rfl dX4_findKinds_1 ?_
  refine V_aload_n 0 dX4_findKinds_4 rfl rfl ?_
  obtain ⟨r_3, h_2, e_1, hf⟩ := ob_s hf
  refine V_cvi (As := []) (rest := [.ref (rf k0 2)]) (c_X4_pairsAround (d := d) (Nat.le_trans (Nat.le_of_ble_eq_true rfl) hd) e_1 t_k0) ML_X4_70 MV_X4_pairsAround rfl t_k0 rfl rfl (Nat.le_of_ble_eq_true rfl) dX4_findKinds_5 ?_
  refine V_iconst (v := 1) dX4_findKinds_8 (by decide) ?_
  refine V_aload_n 0 dX4_findKinds_9 rfl rfl ?_
  refine V_getR F_X4_24 rfl t_k0 rfl dX4_findKinds_10 ?_
  refine V_getI F_X4_39 rfl (rfO t_k0 (Nat.le_of_ble_eq_true rfl) rfl rfl) rfl dX4_findKinds_13 ?_
  refine V_ishl dX4_findKinds_16 ?_
  refine V_iconst (v := 1) dX4_findKinds_17 (by decide) ?_
  refine V_isub dX4_findKinds_18 ?_
  obtain ⟨r_6, h_5, e_4, hf⟩ := ob_s hf
  refine V_cvi (As := [.int r_3, .int (((1 : Int32) <<< ((h_2.1 (rf k0 0) 2) &&& 31)) - 1)]) (rest := []) (c_X5_first (d := d) (Nat.le_trans (Nat.le_of_ble_eq_true rfl) hd) e_4 (rfO t_k0 (Nat.le_of_ble_eq_true rfl) rfl rfl)) ML_X4_73 MV_X5_first rfl (rfO t_k0 (Nat.le_of_ble_eq_true rfl) rfl rfl) rfl rfl (Nat.le_of_ble_eq_true rfl) dX4_findKinds_19 ?_
  refine V_istore_n (L' := [(1, .int r_6), (0, .ref k0)]) dX4_findKinds_22 rfl (Nat.le_of_ble_eq_true rfl) rfl rfl ?_
  refine V_iconst (v := 0) dX4_findKinds_23 (by decide) ?_
  refine V_istore_n (L' := [(2, .int 0), (1, .int r_6), (0, .ref k0)]) dX4_findKinds_24 rfl (Nat.le_of_ble_eq_true rfl) rfl rfl ?_
  refine V_aload_n 2 dX4_findKinds_25 rfl rfl ?_
  refine V_iconst (v := 0) dX4_findKinds_26 (by decide) ?_
  obtain ⟨h_7, e_8, hf⟩ := nm_s hf
  refine V_putI P_X4_64 rfl t_k0 rfl e_8 dX4_findKinds_27 ?_
  refine V_iconst (v := 0) dX4_findKinds_30 (by decide) ?_
  refine V_istore_n (L' := [(3, .int 0), (2, .int 0), (1, .int r_6), (0, .ref k0)]) dX4_findKinds_31 rfl (Nat.le_of_ble_eq_true rfl) rfl rfl ?_
  refine V_sub [3, 2, 1, 0] rfl ?_
  exact v_X4_findKinds_32 hd FU _ _ _ _ _ hf t_k0
theorem dX4_chance_0 : decode cX4_chance 0 = .ok (.iload_n 1, 1) := by decide +kernel
theorem dX4_chance_1 : decode cX4_chance 1 = .ok (.ifCond .ne 23, 3) := by decide +kernel
theorem dX4_chance_4 : decode cX4_chance 4 = .ok (.aload_n 0, 1) := by decide +kernel
theorem dX4_chance_5 : decode cX4_chance 5 = .ok (.getfield 28, 3) := by decide +kernel
theorem dX4_chance_8 : decode cX4_chance 8 = .ok (.getfield 45, 3) := by decide +kernel
theorem dX4_chance_11 : decode cX4_chance 11 = .ok (.iload_n 2, 1) := by decide +kernel
theorem dX4_chance_12 : decode cX4_chance 12 = .ok (.iaload, 1) := by decide +kernel
theorem dX4_chance_13 : decode cX4_chance 13 = .ok (.iload_n 3, 1) := by decide +kernel
theorem dX4_chance_14 : decode cX4_chance 14 = .ok (.if_icmp .ne 8, 3) := by decide +kernel
theorem dX4_chance_17 : decode cX4_chance 17 = .ok (.ldc 53, 2) := by decide +kernel
theorem dX4_chance_19 : decode cX4_chance 19 = .ok (.goto 4, 3) := by decide +kernel
theorem dX4_chance_22 : decode cX4_chance 22 = .ok (.iconst 0, 1) := by decide +kernel
theorem dX4_chance_23 : decode cX4_chance 23 = .ok (.ireturn, 1) := by decide +kernel
theorem dX4_chance_24 : decode cX4_chance 24 = .ok (.aload_n 0, 1) := by decide +kernel
theorem dX4_chance_25 : decode cX4_chance 25 = .ok (.invokevirtual 54, 3) := by decide +kernel
theorem dX4_chance_28 : decode cX4_chance 28 = .ok (.istore 4, 2) := by decide +kernel
theorem dX4_chance_30 : decode cX4_chance 30 = .ok (.ldc 53, 2) := by decide +kernel
theorem dX4_chance_32 : decode cX4_chance 32 = .ok (.iconst 1, 1) := by decide +kernel
theorem dX4_chance_33 : decode cX4_chance 33 = .ok (.iload 4, 2) := by decide +kernel
theorem dX4_chance_35 : decode cX4_chance 35 = .ok (.invokestatic 58, 3) := by decide +kernel
theorem dX4_chance_38 : decode cX4_chance 38 = .ok (.idiv, 1) := by decide +kernel
theorem dX4_chance_39 : decode cX4_chance 39 = .ok (.istore 5, 2) := by decide +kernel
theorem dX4_chance_41 : decode cX4_chance 41 = .ok (.iconst 1, 1) := by decide +kernel
theorem dX4_chance_42 : decode cX4_chance 42 = .ok (.istore 6, 2) := by decide +kernel
theorem dX4_chance_44 : decode cX4_chance 44 = .ok (.iload 6, 2) := by decide +kernel
theorem dX4_chance_46 : decode cX4_chance 46 = .ok (.iload_n 1, 1) := by decide +kernel
theorem dX4_chance_47 : decode cX4_chance 47 = .ok (.if_icmp .ge 56, 3) := by decide +kernel
theorem dX4_chance_50 : decode cX4_chance 50 = .ok (.iconst 0, 1) := by decide +kernel
theorem dX4_chance_51 : decode cX4_chance 51 = .ok (.istore 7, 2) := by decide +kernel
theorem dX4_chance_53 : decode cX4_chance 53 = .ok (.iconst 0, 1) := by decide +kernel
theorem dX4_chance_54 : decode cX4_chance 54 = .ok (.istore 8, 2) := by decide +kernel
theorem dX4_chance_56 : decode cX4_chance 56 = .ok (.iload 8, 2) := by decide +kernel
theorem dX4_chance_58 : decode cX4_chance 58 = .ok (.aload_n 0, 1) := by decide +kernel
theorem dX4_chance_59 : decode cX4_chance 59 = .ok (.getfield 64, 3) := by decide +kernel
theorem dX4_chance_62 : decode cX4_chance 62 = .ok (.if_icmp .ge 31, 3) := by decide +kernel
theorem dX4_chance_65 : decode cX4_chance 65 = .ok (.iload 7, 2) := by decide +kernel
theorem dX4_chance_67 : decode cX4_chance 67 = .ok (.aload_n 0, 1) := by decide +kernel
theorem dX4_chance_68 : decode cX4_chance 68 = .ok (.getfield 15, 3) := by decide +kernel
theorem dX4_chance_71 : decode cX4_chance 71 = .ok (.iload 8, 2) := by decide +kernel
theorem dX4_chance_73 : decode cX4_chance 73 = .ok (.iaload, 1) := by decide +kernel
theorem dX4_chance_74 : decode cX4_chance 74 = .ok (.iload 5, 2) := by decide +kernel
theorem dX4_chance_76 : decode cX4_chance 76 = .ok (.imul, 1) := by decide +kernel
theorem dX4_chance_77 : decode cX4_chance 77 = .ok (.iconst 1, 1) := by decide +kernel
theorem dX4_chance_78 : decode cX4_chance 78 = .ok (.iload 4, 2) := by decide +kernel
theorem dX4_chance_80 : decode cX4_chance 80 = .ok (.invokestatic 58, 3) := by decide +kernel
theorem dX4_chance_83 : decode cX4_chance 83 = .ok (.idiv, 1) := by decide +kernel
theorem dX4_chance_84 : decode cX4_chance 84 = .ok (.iadd, 1) := by decide +kernel
theorem dX4_chance_85 : decode cX4_chance 85 = .ok (.istore 7, 2) := by decide +kernel
theorem dX4_chance_87 : decode cX4_chance 87 = .ok (.iinc 8 1, 3) := by decide +kernel
theorem dX4_chance_90 : decode cX4_chance 90 = .ok (.goto (-34), 3) := by decide +kernel
theorem dX4_chance_93 : decode cX4_chance 93 = .ok (.iload 7, 2) := by decide +kernel
theorem dX4_chance_95 : decode cX4_chance 95 = .ok (.istore 5, 2) := by decide +kernel
theorem dX4_chance_97 : decode cX4_chance 97 = .ok (.iinc 6 1, 3) := by decide +kernel
theorem dX4_chance_100 : decode cX4_chance 100 = .ok (.goto (-56), 3) := by decide +kernel
theorem dX4_chance_103 : decode cX4_chance 103 = .ok (.iconst 0, 1) := by decide +kernel
theorem dX4_chance_104 : decode cX4_chance 104 = .ok (.istore 6, 2) := by decide +kernel
theorem dX4_chance_106 : decode cX4_chance 106 = .ok (.iconst 0, 1) := by decide +kernel
theorem dX4_chance_107 : decode cX4_chance 107 = .ok (.istore 7, 2) := by decide +kernel
theorem dX4_chance_109 : decode cX4_chance 109 = .ok (.iload 7, 2) := by decide +kernel
theorem dX4_chance_111 : decode cX4_chance 111 = .ok (.aload_n 0, 1) := by decide +kernel
theorem dX4_chance_112 : decode cX4_chance 112 = .ok (.getfield 64, 3) := by decide +kernel
theorem dX4_chance_115 : decode cX4_chance 115 = .ok (.if_icmp .ge 43, 3) := by decide +kernel
theorem dX4_chance_118 : decode cX4_chance 118 = .ok (.iload 6, 2) := by decide +kernel
theorem dX4_chance_120 : decode cX4_chance 120 = .ok (.aload_n 0, 1) := by decide +kernel
theorem dX4_chance_121 : decode cX4_chance 121 = .ok (.getfield 11, 3) := by decide +kernel
theorem dX4_chance_124 : decode cX4_chance 124 = .ok (.iload 7, 2) := by decide +kernel
theorem dX4_chance_126 : decode cX4_chance 126 = .ok (.iaload, 1) := by decide +kernel
theorem dX4_chance_127 : decode cX4_chance 127 = .ok (.iload_n 2, 1) := by decide +kernel
theorem dX4_chance_128 : decode cX4_chance 128 = .ok (.invokestatic 67, 3) := by decide +kernel
theorem dX4_chance_131 : decode cX4_chance 131 = .ok (.iload_n 3, 1) := by decide +kernel
theorem dX4_chance_132 : decode cX4_chance 132 = .ok (.if_icmp .ne 16, 3) := by decide +kernel
theorem dX4_chance_135 : decode cX4_chance 135 = .ok (.aload_n 0, 1) := by decide +kernel
theorem dX4_chance_136 : decode cX4_chance 136 = .ok (.getfield 15, 3) := by decide +kernel
theorem dX4_chance_139 : decode cX4_chance 139 = .ok (.iload 7, 2) := by decide +kernel
theorem dX4_chance_141 : decode cX4_chance 141 = .ok (.iaload, 1) := by decide +kernel
theorem dX4_chance_142 : decode cX4_chance 142 = .ok (.iload 5, 2) := by decide +kernel
theorem dX4_chance_144 : decode cX4_chance 144 = .ok (.imul, 1) := by decide +kernel
theorem dX4_chance_145 : decode cX4_chance 145 = .ok (.goto 4, 3) := by decide +kernel
theorem dX4_chance_148 : decode cX4_chance 148 = .ok (.iconst 0, 1) := by decide +kernel
theorem dX4_chance_149 : decode cX4_chance 149 = .ok (.iadd, 1) := by decide +kernel
theorem dX4_chance_150 : decode cX4_chance 150 = .ok (.istore 6, 2) := by decide +kernel
theorem dX4_chance_152 : decode cX4_chance 152 = .ok (.iinc 7 1, 3) := by decide +kernel
theorem dX4_chance_155 : decode cX4_chance 155 = .ok (.goto (-46), 3) := by decide +kernel
theorem dX4_chance_158 : decode cX4_chance 158 = .ok (.iload 6, 2) := by decide +kernel
theorem dX4_chance_160 : decode cX4_chance 160 = .ok (.ireturn, 1) := by decide +kernel
theorem ML_X4_54 : MLk RX4 54 yX4_findKinds := Or.inl ml_X4_54
theorem MV_X4_findKinds : MVk K_X4_findKinds 0 4 := ⟨⟨cd_X4_findKinds, in_X4, ⟨by decide, by decide, by decide +kernel⟩, by decide⟩, im_X4_findKinds, se_X4_findKinds, _, _, rfl⟩
def f_X4_chance_23 (s0 : Int32) (h : AH) : Option (Int32 × AH) :=
  some (s0, h)
def f_X4_chance_56 (q44 : Nat → Int32 → Int32 → Int32 → Int32 → Int32 → Int32 → AH → Option (Int32 × AH)) : Nat → Nat → Int32 → Int32 → Int32 → Int32 → Int32 → Int32 → Int32 → Int32 → AH → Option (Int32 × AH)
  | 0, _, _, _, _, _, _, _, _, _, _ => none
  | n + 1, k0, x1, x2, x3, x4, x5, x6, x7, x8, h =>
    if (h.1 k0 5) ≤ x8 then (
      nm (x6 + 1) fun x6_2 =>
      q44 k0 x1 x2 x3 x4 x7 x6_2 h
    ) else (
      og (ix x8 (an (rf k0 4))) <|
      og (decide (¬ (if 1 < x4 then x4 else 1) = 0)) <|
      nm ((x7 + (((h.1 (rf k0 4) x8.toNatClampNeg) * x5) / (if 1 < x4 then x4 else 1)))) fun x7_6 =>
      nm (x8 + 1) fun x8_8 =>
      f_X4_chance_56 q44 n k0 x1 x2 x3 x4 x5 x6 x7_6 x8_8 h
    )
def f_X4_chance_149 (q109 : Nat → Int32 → Int32 → Int32 → Int32 → Int32 → AH → Option (Int32 × AH)) (k0 : Nat) (x2 : Int32) (x3 : Int32) (x5 : Int32) (x7 : Int32) (s0 : Int32) (s1 : Int32) (h : AH) : Option (Int32 × AH) :=
  nm ((s1 + s0)) fun x6_1 =>
  nm (x7 + 1) fun x7_3 =>
  q109 k0 x2 x3 x5 x6_1 x7_3 h
def f_X4_chance_109 : Nat → Nat → Int32 → Int32 → Int32 → Int32 → Int32 → AH → Option (Int32 × AH)
  | 0, _, _, _, _, _, _, _ => none
  | n + 1, k0, x2, x3, x5, x6, x7, h =>
    if (h.1 k0 5) ≤ x7 then (
      some (x6, h)
    ) else (
      og (ix x7 (an (rf k0 3))) <|
      ob (f_X4_pairIn (h.1 (rf k0 3) x7.toNatClampNeg) x2 h) fun r_5 h_4 =>
      if r_5 = x3 then (
        og (ix x7 (an (rf k0 4))) <|
        f_X4_chance_149 (f_X4_chance_109 n) k0 x2 x3 x5 x7 ((h_4.1 (rf k0 4) x7.toNatClampNeg) * x5) x6 h_4
      ) else (
        f_X4_chance_149 (f_X4_chance_109 n) k0 x2 x3 x5 x7 0 x6 h_4
      )
    )
def f_X4_chance_44 : Nat → Nat → Int32 → Int32 → Int32 → Int32 → Int32 → Int32 → AH → Option (Int32 × AH)
  | 0, _, _, _, _, _, _, _, _ => none
  | n + 1, k0, x1, x2, x3, x4, x5, x6, h =>
    if x1 ≤ x6 then (
      f_X4_chance_109 FU k0 x2 x3 x5 0 0 h
    ) else (
      f_X4_chance_56 (f_X4_chance_44 n) FU k0 x1 x2 x3 x4 x5 x6 0 0 h
    )
def f_X4_chance (k0 : Nat) (x1 : Int32) (x2 : Int32) (x3 : Int32) (h : AH) : Option (Int32 × AH) :=
  if x1 = 0 then (
    og (ix x2 (an (rf (rf k0 1) 0))) <|
    if (h.1 (rf (rf k0 1) 0) x2.toNatClampNeg) = x3 then (
      f_X4_chance_23 1000000000 h
    ) else (
      f_X4_chance_23 0 h
    )
  ) else (
    ob (f_X4_findKinds k0 h) fun r_4 h_3 =>
    og (decide (¬ (if 1 < r_4 then r_4 else 1) = 0)) <|
    nm ((1000000000 / (if 1 < r_4 then r_4 else 1))) fun x5_6 =>
    f_X4_chance_44 FU k0 x1 x2 x3 r_4 x5_6 1 h_3
  )
set_option maxHeartbeats 4000000 in
set_option maxRecDepth 100000 in
theorem v_X4_chance_23 {E : EV} {d : Nat} (hd : 6 ≤ d) {r0 : Int32} {h0 : AH} {s0 : Int32} {h : AH} (hf : f_X4_chance_23 s0 h = some (r0, h0)) : V E (d + 1) K_X4_chance (ZI E r0 h0) h [] [.int s0] 23 := by
  unfold f_X4_chance_23 at hf
  exact V_iret rfl (so_s hf) dX4_chance_23
set_option maxHeartbeats 4000000 in
set_option maxRecDepth 100000 in
theorem v_X4_chance_56 {E : EV} {d : Nat} (hd : 6 ≤ d) {r0 : Int32} {h0 : AH} {q44 : Nat → Int32 → Int32 → Int32 → Int32 → Int32 → Int32 → AH → Option (Int32 × AH)} (cq44 : ∀ (k0 : Nat) (x1 : Int32) (x2 : Int32) (x3 : Int32) (x4 : Int32) (x5 : Int32) (x6 : Int32) (h : AH), q44 k0 x1 x2 x3 x4 x5 x6 h = some (r0, h0) → kd k0 = (0, 4) → V E (d + 1) K_X4_chance (ZI E r0 h0) h [(0, .ref k0), (1, .int x1), (2, .int x2), (3, .int x3), (4, .int x4), (5, .int x5), (6, .int x6)] [] 44) : ∀ (n : Nat) (k0 : Nat) (x1 : Int32) (x2 : Int32) (x3 : Int32) (x4 : Int32) (x5 : Int32) (x6 : Int32) (x7 : Int32) (x8 : Int32) (h : AH), f_X4_chance_56 q44 n k0 x1 x2 x3 x4 x5 x6 x7 x8 h = some (r0, h0) → kd k0 = (0, 4) → V E (d + 1) K_X4_chance (ZI E r0 h0) h [(0, .ref k0), (1, .int x1), (2, .int x2), (3, .int x3), (4, .int x4), (5, .int x5), (6, .int x6), (7, .int x7), (8, .int x8)] [] 56 := by
  intro n
  induction n with
  | zero =>
    intro k0 x1 x2 x3 x4 x5 x6 x7 x8 h hf
    rw [f_X4_chance_56] at hf
    cases hf
  | succ n ih =>
    intro k0 x1 x2 x3 x4 x5 x6 x7 x8 h hf t_k0
    rw [f_X4_chance_56] at hf
    refine V_iload 8 dX4_chance_56 rfl ?_
    refine V_aload_n 0 dX4_chance_58 rfl rfl ?_
    refine V_getI F_X4_64 rfl t_k0 rfl dX4_chance_59 ?_
    refine V_ic_ge (tgt := 93) dX4_chance_62 (by decide) (fun c_1 => ?_) (fun c_1 => ?_)
    · have hf := it_s c_1 hf
      refine V_iload 7 dX4_chance_93 rfl ?_
      refine V_istore (L' := [(5, .int x7), (0, .ref k0), (1, .int x1), (2, .int x2), (3, .int x3), (4, .int x4), (6, .int x6), (7, .int x7), (8, .int x8)]) dX4_chance_95 (Nat.le_of_ble_eq_true rfl) rfl rfl ?_
      obtain ⟨x6_2, e_3, hf⟩ := nm_s hf
      refine V_iinc (a := 1) (L' := [(6, .int x6_2), (5, .int x7), (0, .ref k0), (1, .int x1), (2, .int x2), (3, .int x3), (4, .int x4), (7, .int x7), (8, .int x8)]) 6 dX4_chance_97 rfl (by decide) (Nat.le_of_ble_eq_true rfl) e_3 rfl ?_
      refine V_goto (tgt := 44) dX4_chance_100 (by decide) ?_
      refine V_sub [2, 3, 4, 5, 6, 1, 0] rfl ?_
      exact cq44 _ _ _ _ _ _ _ _ hf t_k0
    · have hf := if_s c_1 hf
      refine V_iload 7 dX4_chance_65 rfl ?_
      refine V_aload_n 0 dX4_chance_67 rfl rfl ?_
      refine V_getR F_X4_15 rfl t_k0 rfl dX4_chance_68 ?_
      refine V_iload 8 dX4_chance_71 rfl ?_
      obtain ⟨b_4, hf⟩ := og_s hf
      refine V_iald (rfA t_k0 (Nat.le_of_ble_eq_true rfl) rfl rfl (by decide)) b_4 dX4_chance_73 ?_
      refine V_iload 5 dX4_chance_74 rfl ?_
      refine V_imul dX4_chance_76 ?_
      refine V_iconst (v := 1) dX4_chance_77 (by decide) ?_
      refine V_iload 4 dX4_chance_78 rfl ?_
      refine V_mmax ml_X4_58 rfl (Nat.le_of_ble_eq_true rfl) dX4_chance_80 ?_
      obtain ⟨b_5, hf⟩ := og_s hf
      refine V_idiv dX4_chance_83 (of_decide_eq_true b_5) ?_
      refine V_iadd dX4_chance_84 ?_
      obtain ⟨x7_6, e_7, hf⟩ := nm_s hf
      refine V_istore (L' := [(7, .int x7_6), (0, .ref k0), (1, .int x1), (2, .int x2), (3, .int x3), (4, .int x4), (5, .int x5), (6, .int x6), (8, .int x8)]) dX4_chance_85 (Nat.le_of_ble_eq_true rfl) e_7 rfl ?_
      obtain ⟨x8_8, e_9, hf⟩ := nm_s hf
      refine V_iinc (a := 1) (L' := [(8, .int x8_8), (7, .int x7_6), (0, .ref k0), (1, .int x1), (2, .int x2), (3, .int x3), (4, .int x4), (5, .int x5), (6, .int x6)]) 8 dX4_chance_87 rfl (by decide) (Nat.le_of_ble_eq_true rfl) e_9 rfl ?_
      refine V_goto (tgt := 56) dX4_chance_90 (by decide) ?_
      refine V_sub [2, 3, 4, 5, 6, 7, 8, 1, 0] rfl ?_
      exact ih _ _ _ _ _ _ _ _ _ _ hf t_k0
set_option maxHeartbeats 4000000 in
set_option maxRecDepth 100000 in
theorem v_X4_chance_149 {E : EV} {d : Nat} (hd : 6 ≤ d) {r0 : Int32} {h0 : AH} {q109 : Nat → Int32 → Int32 → Int32 → Int32 → Int32 → AH → Option (Int32 × AH)} (cq109 : ∀ (k0 : Nat) (x2 : Int32) (x3 : Int32) (x5 : Int32) (x6 : Int32) (x7 : Int32) (h : AH), q109 k0 x2 x3 x5 x6 x7 h = some (r0, h0) → kd k0 = (0, 4) → V E (d + 1) K_X4_chance (ZI E r0 h0) h [(0, .ref k0), (2, .int x2), (3, .int x3), (5, .int x5), (6, .int x6), (7, .int x7)] [] 109) {k0 : Nat} {x2 : Int32} {x3 : Int32} {x5 : Int32} {x7 : Int32} {s0 : Int32} {s1 : Int32} {h : AH} (hf : f_X4_chance_149 q109 k0 x2 x3 x5 x7 s0 s1 h = some (r0, h0)) (t_k0 : kd k0 = (0, 4)) : V E (d + 1) K_X4_chance (ZI E r0 h0) h [(0, .ref k0), (2, .int x2), (3, .int x3), (5, .int x5), (7, .int x7)] [.int s0, .int s1] 149 := by
  unfold f_X4_chance_149 at hf
  refine V_iadd dX4_chance_149 ?_
  obtain ⟨x6_1, e_2, hf⟩ := nm_s hf
  refine V_istore (L' := [(6, .int x6_1), (0, .ref k0), (2, .int x2), (3, .int x3), (5, .int x5), (7, .int x7)]) dX4_chance_150 (Nat.le_of_ble_eq_true rfl) e_2 rfl ?_
  obtain ⟨x7_3, e_4, hf⟩ := nm_s hf
  refine V_iinc (a := 1) (L' := [(7, .int x7_3), (6, .int x6_1), (0, .ref k0), (2, .int x2), (3, .int x3), (5, .int x5)]) 5 dX4_chance_152 rfl (by decide) (Nat.le_of_ble_eq_true rfl) e_4 rfl ?_
  refine V_goto (tgt := 109) dX4_chance_155 (by decide) ?_
  refine V_sub [2, 3, 4, 5, 1, 0] rfl ?_
  exact cq109 _ _ _ _ _ _ _ hf t_k0
set_option maxHeartbeats 4000000 in
set_option maxRecDepth 100000 in
theorem v_X4_chance_109 {E : EV} {d : Nat} (hd : 6 ≤ d) {r0 : Int32} {h0 : AH} : ∀ (n : Nat) (k0 : Nat) (x2 : Int32) (x3 : Int32) (x5 : Int32) (x6 : Int32) (x7 : Int32) (h : AH), f_X4_chance_109 n k0 x2 x3 x5 x6 x7 h = some (r0, h0) → kd k0 = (0, 4) → V E (d + 1) K_X4_chance (ZI E r0 h0) h [(0, .ref k0), (2, .int x2), (3, .int x3), (5, .int x5), (6, .int x6), (7, .int x7)] [] 109 := by
  intro n
  induction n with
  | zero =>
    intro k0 x2 x3 x5 x6 x7 h hf
    rw [f_X4_chance_109] at hf
    cases hf
  | succ n ih =>
    intro k0 x2 x3 x5 x6 x7 h hf t_k0
    rw [f_X4_chance_109] at hf
    refine V_iload 5 dX4_chance_109 rfl ?_
    refine V_aload_n 0 dX4_chance_111 rfl rfl ?_
    refine V_getI F_X4_64 rfl t_k0 rfl dX4_chance_112 ?_
    refine V_ic_ge (tgt := 158) dX4_chance_115 (by decide) (fun c_1 => ?_) (fun c_1 => ?_)
    · have hf := it_s c_1 hf
      refine V_iload 4 dX4_chance_158 rfl ?_
      exact V_iret rfl (so_s hf) dX4_chance_160
    · have hf := if_s c_1 hf
      refine V_iload 4 dX4_chance_118 rfl ?_
      refine V_aload_n 0 dX4_chance_120 rfl rfl ?_
      refine V_getR F_X4_11 rfl t_k0 rfl dX4_chance_121 ?_
      refine V_iload 5 dX4_chance_124 rfl ?_
      obtain ⟨b_2, hf⟩ := og_s hf
      refine V_iald (rfA t_k0 (Nat.le_of_ble_eq_true rfl) rfl rfl (by decide)) b_2 dX4_chance_126 ?_
      refine V_iload_n 1 dX4_chance_127 rfl rfl ?_
      obtain ⟨r_5, h_4, e_3, hf⟩ := ob_s hf
      refine V_csi (As := [.int (h.1 (rf k0 3) x7.toNatClampNeg), .int x2]) (rest := [.int x6]) (c_X4_pairIn (d := d) (Nat.le_trans (Nat.le_of_ble_eq_true rfl) hd) e_3) ML_X4_67 MS_X4_pairIn rfl rfl rfl (Nat.le_of_ble_eq_true rfl) dX4_chance_128 ?_
      refine V_iload_n 2 dX4_chance_131 rfl rfl ?_
      refine V_ic_ne (tgt := 148) dX4_chance_132 (by decide) (fun c_6 => ?_) (fun c_6 => ?_)
      · have hf := if_s c_6 hf
        refine V_iconst (v := 0) dX4_chance_148 (by decide) ?_
        refine V_sub [0, 1, 2, 3, 5] rfl ?_
        exact v_X4_chance_149 hd ih hf t_k0
      · have hf := it_s c_6 hf
        refine V_aload_n 0 dX4_chance_135 rfl rfl ?_
        refine V_getR F_X4_15 rfl t_k0 rfl dX4_chance_136 ?_
        refine V_iload 5 dX4_chance_139 rfl ?_
        obtain ⟨b_7, hf⟩ := og_s hf
        refine V_iald (rfA t_k0 (Nat.le_of_ble_eq_true rfl) rfl rfl (by decide)) b_7 dX4_chance_141 ?_
        refine V_iload 3 dX4_chance_142 rfl ?_
        refine V_imul dX4_chance_144 ?_
        refine V_goto (tgt := 149) dX4_chance_145 (by decide) ?_
        refine V_sub [0, 1, 2, 3, 5] rfl ?_
        exact v_X4_chance_149 hd ih hf t_k0
set_option maxHeartbeats 4000000 in
set_option maxRecDepth 100000 in
theorem v_X4_chance_44 {E : EV} {d : Nat} (hd : 6 ≤ d) {r0 : Int32} {h0 : AH} : ∀ (n : Nat) (k0 : Nat) (x1 : Int32) (x2 : Int32) (x3 : Int32) (x4 : Int32) (x5 : Int32) (x6 : Int32) (h : AH), f_X4_chance_44 n k0 x1 x2 x3 x4 x5 x6 h = some (r0, h0) → kd k0 = (0, 4) → V E (d + 1) K_X4_chance (ZI E r0 h0) h [(0, .ref k0), (1, .int x1), (2, .int x2), (3, .int x3), (4, .int x4), (5, .int x5), (6, .int x6)] [] 44 := by
  intro n
  induction n with
  | zero =>
    intro k0 x1 x2 x3 x4 x5 x6 h hf
    rw [f_X4_chance_44] at hf
    cases hf
  | succ n ih =>
    intro k0 x1 x2 x3 x4 x5 x6 h hf t_k0
    rw [f_X4_chance_44] at hf
    refine V_iload 6 dX4_chance_44 rfl ?_
    refine V_iload_n 1 dX4_chance_46 rfl rfl ?_
    refine V_ic_ge (tgt := 103) dX4_chance_47 (by decide) (fun c_1 => ?_) (fun c_1 => ?_)
    · have hf := it_s c_1 hf
      refine V_iconst (v := 0) dX4_chance_103 (by decide) ?_
      refine V_istore (L' := [(6, .int 0), (0, .ref k0), (1, .int x1), (2, .int x2), (3, .int x3), (4, .int x4), (5, .int x5)]) dX4_chance_104 (Nat.le_of_ble_eq_true rfl) rfl rfl ?_
      refine V_iconst (v := 0) dX4_chance_106 (by decide) ?_
      refine V_istore (L' := [(7, .int 0), (6, .int 0), (0, .ref k0), (1, .int x1), (2, .int x2), (3, .int x3), (4, .int x4), (5, .int x5)]) dX4_chance_107 (Nat.le_of_ble_eq_true rfl) rfl rfl ?_
      refine V_sub [2, 4, 5, 7, 1, 0] rfl ?_
      exact v_X4_chance_109 hd FU _ _ _ _ _ _ _ hf t_k0
    · have hf := if_s c_1 hf
      refine V_iconst (v := 0) dX4_chance_50 (by decide) ?_
      refine V_istore (L' := [(7, .int 0), (0, .ref k0), (1, .int x1), (2, .int x2), (3, .int x3), (4, .int x4), (5, .int x5), (6, .int x6)]) dX4_chance_51 (Nat.le_of_ble_eq_true rfl) rfl rfl ?_
      refine V_iconst (v := 0) dX4_chance_53 (by decide) ?_
      refine V_istore (L' := [(8, .int 0), (7, .int 0), (0, .ref k0), (1, .int x1), (2, .int x2), (3, .int x3), (4, .int x4), (5, .int x5), (6, .int x6)]) dX4_chance_54 (Nat.le_of_ble_eq_true rfl) rfl rfl ?_
      refine V_sub [2, 3, 4, 5, 6, 7, 8, 1, 0] rfl ?_
      exact v_X4_chance_56 hd ih FU _ _ _ _ _ _ _ _ _ _ hf t_k0
set_option maxHeartbeats 4000000 in
set_option maxRecDepth 100000 in
theorem c_X4_chance {E : EV} {d : Nat} (hd : 6 + 1 ≤ d) {k0 : Nat} {x1 : Int32} {x2 : Int32} {x3 : Int32} {h : AH} {r0 : Int32} {h0 : AH} (hf : f_X4_chance k0 x1 x2 x3 h = some (r0, h0)) (t_k0 : kd k0 = (0, 4)) : Con E d K_X4_chance (ZI E r0 h0) [.ref k0, .int x1, .int x2, .int x3] h := by
  obtain ⟨d, rfl⟩ : ∃ d', d = d' + 1 := ⟨d - 1, by omega⟩
  have hd := Nat.le_of_succ_le_succ hd
  refine Con.ofV rfl (Nat.le_of_ble_eq_true rfl) ?_
  unfold f_X4_chance at hf
  show V E (d + 1) K_X4_chance (ZI E r0 h0) h [(0, .ref k0), (1, .int x1), (2, .int x2), (3, .int x3)] [] 0
  refine V_iload_n 1 dX4_chance_0 rfl rfl ?_
  refine V_if_ne (tgt := 24) dX4_chance_1 (by decide) (fun c_1 => ?_) (fun c_1 => ?_)
  · have hf := if_s c_1 hf
    refine V_aload_n 0 dX4_chance_24 rfl rfl ?_
    obtain ⟨r_4, h_3, e_2, hf⟩ := ob_s hf
    refine V_cvi (As := []) (rest := []) (c_X4_findKinds (d := d) (Nat.le_trans (Nat.le_of_ble_eq_true rfl) hd) e_2 t_k0) ML_X4_54 MV_X4_findKinds rfl t_k0 rfl rfl (Nat.le_of_ble_eq_true rfl) dX4_chance_25 ?_
    refine V_istore (L' := [(4, .int r_4), (0, .ref k0), (1, .int x1), (2, .int x2), (3, .int x3)]) dX4_chance_28 (Nat.le_of_ble_eq_true rfl) rfl rfl ?_
    refine V_ldc (v := 1000000000) rfl kc_X4_53 dX4_chance_30 ?_
    refine V_iconst (v := 1) dX4_chance_32 (by decide) ?_
    refine V_iload 0 dX4_chance_33 rfl ?_
    refine V_mmax ml_X4_58 rfl (Nat.le_of_ble_eq_true rfl) dX4_chance_35 ?_
    obtain ⟨b_5, hf⟩ := og_s hf
    refine V_idiv dX4_chance_38 (of_decide_eq_true b_5) ?_
    obtain ⟨x5_6, e_7, hf⟩ := nm_s hf
    refine V_istore (L' := [(5, .int x5_6), (4, .int r_4), (0, .ref k0), (1, .int x1), (2, .int x2), (3, .int x3)]) dX4_chance_39 (Nat.le_of_ble_eq_true rfl) e_7 rfl ?_
    refine V_iconst (v := 1) dX4_chance_41 (by decide) ?_
    refine V_istore (L' := [(6, .int 1), (5, .int x5_6), (4, .int r_4), (0, .ref k0), (1, .int x1), (2, .int x2), (3, .int x3)]) dX4_chance_42 (Nat.le_of_ble_eq_true rfl) rfl rfl ?_
    refine V_sub [3, 4, 5, 6, 2, 1, 0] rfl ?_
    exact v_X4_chance_44 hd FU _ _ _ _ _ _ _ _ hf t_k0
  · have hf := it_s c_1 hf
    refine V_aload_n 0 dX4_chance_4 rfl rfl ?_
    refine V_getR F_X4_28 rfl t_k0 rfl dX4_chance_5 ?_
    refine V_getR F_X4_45 rfl (rfO t_k0 (Nat.le_of_ble_eq_true rfl) rfl rfl) rfl dX4_chance_8 ?_
    refine V_iload_n 2 dX4_chance_11 rfl rfl ?_
    obtain ⟨b_8, hf⟩ := og_s hf
    refine V_iald (rfA (rfO t_k0 (Nat.le_of_ble_eq_true rfl) rfl rfl) (Nat.le_of_ble_eq_true rfl) rfl rfl (by decide)) b_8 dX4_chance_12 ?_
    refine V_iload_n 3 dX4_chance_13 rfl rfl ?_
    refine V_ic_ne (tgt := 22) dX4_chance_14 (by decide) (fun c_9 => ?_) (fun c_9 => ?_)
    · have hf := if_s c_9 hf
      refine V_iconst (v := 0) dX4_chance_22 (by decide) ?_
      refine V_sub [] rfl ?_
      exact v_X4_chance_23 hd hf
    · have hf := it_s c_9 hf
      refine V_ldc (v := 1000000000) rfl kc_X4_53 dX4_chance_17 ?_
      refine V_goto (tgt := 23) dX4_chance_19 (by decide) ?_
      refine V_sub [] rfl ?_
      exact v_X4_chance_23 hd hf
theorem dX11_likely_0 : decode cX11_likely 0 = .ok (.iload_n 1, 1) := by decide +kernel
theorem dX11_likely_1 : decode cX11_likely 1 = .ok (.ifCond .lt 36, 3) := by decide +kernel
theorem dX11_likely_4 : decode cX11_likely 4 = .ok (.iload_n 1, 1) := by decide +kernel
theorem dX11_likely_5 : decode cX11_likely 5 = .ok (.bipush 20, 2) := by decide +kernel
theorem dX11_likely_7 : decode cX11_likely 7 = .ok (.if_icmp .gt 30, 3) := by decide +kernel
theorem dX11_likely_10 : decode cX11_likely 10 = .ok (.aload_n 0, 1) := by decide +kernel
theorem dX11_likely_11 : decode cX11_likely 11 = .ok (.iload_n 2, 1) := by decide +kernel
theorem dX11_likely_12 : decode cX11_likely 12 = .ok (.invokevirtual 151, 3) := by decide +kernel
theorem dX11_likely_15 : decode cX11_likely 15 = .ok (.ifCond .eq 22, 3) := by decide +kernel
theorem dX11_likely_18 : decode cX11_likely 18 = .ok (.aload_n 0, 1) := by decide +kernel
theorem dX11_likely_19 : decode cX11_likely 19 = .ok (.iload_n 3, 1) := by decide +kernel
theorem dX11_likely_20 : decode cX11_likely 20 = .ok (.invokevirtual 224, 3) := by decide +kernel
theorem dX11_likely_23 : decode cX11_likely 23 = .ok (.ifCond .eq 14, 3) := by decide +kernel
theorem dX11_likely_26 : decode cX11_likely 26 = .ok (.aload_n 0, 1) := by decide +kernel
theorem dX11_likely_27 : decode cX11_likely 27 = .ok (.getfield 19, 3) := by decide +kernel
theorem dX11_likely_30 : decode cX11_likely 30 = .ok (.getfield 144, 3) := by decide +kernel
theorem dX11_likely_33 : decode cX11_likely 33 = .ok (.iconst 4, 1) := by decide +kernel
theorem dX11_likely_34 : decode cX11_likely 34 = .ok (.if_icmp .le 5, 3) := by decide +kernel
theorem dX11_likely_37 : decode cX11_likely 37 = .ok (.iconst (-1), 1) := by decide +kernel
theorem dX11_likely_38 : decode cX11_likely 38 = .ok (.ireturn, 1) := by decide +kernel
theorem dX11_likely_39 : decode cX11_likely 39 = .ok (.aload_n 0, 1) := by decide +kernel
theorem dX11_likely_40 : decode cX11_likely 40 = .ok (.getfield 64, 3) := by decide +kernel
theorem dX11_likely_43 : decode cX11_likely 43 = .ok (.aload_n 0, 1) := by decide +kernel
theorem dX11_likely_44 : decode cX11_likely 44 = .ok (.getfield 45, 3) := by decide +kernel
theorem dX11_likely_47 : decode cX11_likely 47 = .ok (.invokevirtual 211, 3) := by decide +kernel
theorem dX11_likely_50 : decode cX11_likely 50 = .ok (.aload_n 0, 1) := by decide +kernel
theorem dX11_likely_51 : decode cX11_likely 51 = .ok (.getfield 98, 3) := by decide +kernel
theorem dX11_likely_54 : decode cX11_likely 54 = .ok (.iload_n 1, 1) := by decide +kernel
theorem dX11_likely_55 : decode cX11_likely 55 = .ok (.iload_n 2, 1) := by decide +kernel
theorem dX11_likely_56 : decode cX11_likely 56 = .ok (.iload_n 3, 1) := by decide +kernel
theorem dX11_likely_57 : decode cX11_likely 57 = .ok (.invokevirtual 294, 3) := by decide +kernel
theorem dX11_likely_60 : decode cX11_likely 60 = .ok (.ireturn, 1) := by decide +kernel
theorem ML_X11_294 : MLk RX11 294 yX4_chance := Or.inl ml_X11_294
theorem MV_X4_chance : MVk K_X4_chance 3 4 := ⟨⟨cd_X4_chance, in_X4, ⟨by decide, by decide, by decide +kernel⟩, by decide⟩, im_X4_chance, se_X4_chance, _, _, rfl⟩
def f_X11_likely_37  (h : AH) : Option (Int32 × AH) :=
  some ((-1), h)
def f_X11_likely (k0 : Nat) (x1 : Int32) (x2 : Int32) (x3 : Int32) (h : AH) : Option (Int32 × AH) :=
  if x1 < 0 then (
    f_X11_likely_37 h
  ) else (
    if 20 < x1 then (
      f_X11_likely_37 h
    ) else (
      ob (f_X11_isKnown k0 x2 h) fun r_5 h_4 =>
      if r_5 = 0 then (
        f_X11_likely_37 h_4
      ) else (
        ob (f_X11_isKnownOrNone k0 x3 h_4) fun r_9 h_8 =>
        if r_9 = 0 then (
          f_X11_likely_37 h_8
        ) else (
          if (h_8.1 (rf k0 1) 2) ≤ 4 then (
            ov (f_X2_open (rf k0 10) (rf k0 6) h_8) fun h_13 =>
            ob (f_X4_chance (rf k0 14) x1 x2 x3 h_13) fun r_16 h_15 =>
            some (r_16, h_15)
          ) else (
            f_X11_likely_37 h_8
          )
        )
      )
    )
  )
set_option maxHeartbeats 4000000 in
set_option maxRecDepth 100000 in
theorem v_X11_likely_37 {E : EV} {d : Nat} (hd : 7 ≤ d) {r0 : Int32} {h0 : AH}  {h : AH} (hf : f_X11_likely_37 h = some (r0, h0)) : V E (d + 1) K_X11_likely (ZI E r0 h0) h [] [] 37 := by
  unfold f_X11_likely_37 at hf
  refine V_iconst (v := (-1)) dX11_likely_37 (by decide) ?_
  exact V_iret rfl (so_s hf) dX11_likely_38
set_option maxHeartbeats 4000000 in
set_option maxRecDepth 100000 in
theorem c_X11_likely {E : EV} {d : Nat} (hd : 7 + 1 ≤ d) {k0 : Nat} {x1 : Int32} {x2 : Int32} {x3 : Int32} {h : AH} {r0 : Int32} {h0 : AH} (hf : f_X11_likely k0 x1 x2 x3 h = some (r0, h0)) (t_k0 : kd k0 = (0, 11)) : Con E d K_X11_likely (ZI E r0 h0) [.ref k0, .int x1, .int x2, .int x3] h := by
  obtain ⟨d, rfl⟩ : ∃ d', d = d' + 1 := ⟨d - 1, by omega⟩
  have hd := Nat.le_of_succ_le_succ hd
  refine Con.ofV rfl (Nat.le_of_ble_eq_true rfl) ?_
  unfold f_X11_likely at hf
  show V E (d + 1) K_X11_likely (ZI E r0 h0) h [(0, .ref k0), (1, .int x1), (2, .int x2), (3, .int x3)] [] 0
  refine V_iload_n 1 dX11_likely_0 rfl rfl ?_
  refine V_if_lt (tgt := 37) dX11_likely_1 (by decide) (fun c_1 => ?_) (fun c_1 => ?_)
  · have hf := it_s c_1 hf
    refine V_sub [] rfl ?_
    exact v_X11_likely_37 hd hf
  · have hf := if_s c_1 hf
    refine V_iload_n 1 dX11_likely_4 rfl rfl ?_
    refine V_bipush (v := 20) dX11_likely_5 (by decide) ?_
    refine V_ic_gt (tgt := 37) dX11_likely_7 (by decide) (fun c_2 => ?_) (fun c_2 => ?_)
    · have hf := it_s c_2 hf
      refine V_sub [] rfl ?_
      exact v_X11_likely_37 hd hf
    · have hf := if_s c_2 hf
      refine V_aload_n 0 dX11_likely_10 rfl rfl ?_
      refine V_iload_n 2 dX11_likely_11 rfl rfl ?_
      obtain ⟨r_5, h_4, e_3, hf⟩ := ob_s hf
      refine V_cvi (As := [.int x2]) (rest := []) (c_X11_isKnown (d := d) (Nat.le_trans (Nat.le_of_ble_eq_true rfl) hd) e_3 t_k0) ML_X11_151 MV_X11_isKnown rfl t_k0 rfl rfl (Nat.le_of_ble_eq_true rfl) dX11_likely_12 ?_
      refine V_if_eq (tgt := 37) dX11_likely_15 (by decide) (fun c_6 => ?_) (fun c_6 => ?_)
      · have hf := it_s c_6 hf
        refine V_sub [] rfl ?_
        exact v_X11_likely_37 hd hf
      · have hf := if_s c_6 hf
        refine V_aload_n 0 dX11_likely_18 rfl rfl ?_
        refine V_iload_n 3 dX11_likely_19 rfl rfl ?_
        obtain ⟨r_9, h_8, e_7, hf⟩ := ob_s hf
        refine V_cvi (As := [.int x3]) (rest := []) (c_X11_isKnownOrNone (d := d) (Nat.le_trans (Nat.le_of_ble_eq_true rfl) hd) e_7 t_k0) ML_X11_224 MV_X11_isKnownOrNone rfl t_k0 rfl rfl (Nat.le_of_ble_eq_true rfl) dX11_likely_20 ?_
        refine V_if_eq (tgt := 37) dX11_likely_23 (by decide) (fun c_10 => ?_) (fun c_10 => ?_)
        · have hf := it_s c_10 hf
          refine V_sub [] rfl ?_
          exact v_X11_likely_37 hd hf
        · have hf := if_s c_10 hf
          refine V_aload_n 0 dX11_likely_26 rfl rfl ?_
          refine V_getR F_X11_19 rfl t_k0 rfl dX11_likely_27 ?_
          refine V_getI F_X11_144 rfl (rfO t_k0 (Nat.le_of_ble_eq_true rfl) rfl rfl) rfl dX11_likely_30 ?_
          refine V_iconst (v := 4) dX11_likely_33 (by decide) ?_
          refine V_ic_le (tgt := 39) dX11_likely_34 (by decide) (fun c_11 => ?_) (fun c_11 => ?_)
          · have hf := it_s c_11 hf
            refine V_aload_n 0 dX11_likely_39 rfl rfl ?_
            refine V_getR F_X11_64 rfl t_k0 rfl dX11_likely_40 ?_
            refine V_aload_n 0 dX11_likely_43 rfl rfl ?_
            refine V_getR F_X11_45 rfl t_k0 rfl dX11_likely_44 ?_
            obtain ⟨h_13, e_12, hf⟩ := ov_s hf
            refine V_cvv (As := [.ref (rf k0 6)]) (rest := []) (c_X2_open (d := d) (Nat.le_trans (Nat.le_of_ble_eq_true rfl) hd) e_12 (rfO t_k0 (Nat.le_of_ble_eq_true rfl) rfl rfl) (rfO t_k0 (Nat.le_of_ble_eq_true rfl) rfl rfl)) ML_X11_211 MV_X2_open rfl (rfO t_k0 (Nat.le_of_ble_eq_true rfl) rfl rfl) rfl rfl (Nat.le_of_ble_eq_true rfl) dX11_likely_47 ?_
            refine V_aload_n 0 dX11_likely_50 rfl rfl ?_
            refine V_getR F_X11_98 rfl t_k0 rfl dX11_likely_51 ?_
            refine V_iload_n 1 dX11_likely_54 rfl rfl ?_
            refine V_iload_n 2 dX11_likely_55 rfl rfl ?_
            refine V_iload_n 3 dX11_likely_56 rfl rfl ?_
            obtain ⟨r_16, h_15, e_14, hf⟩ := ob_s hf
            refine V_cvi (As := [.int x1, .int x2, .int x3]) (rest := []) (c_X4_chance (d := d) (Nat.le_trans (Nat.le_of_ble_eq_true rfl) hd) e_14 (rfO t_k0 (Nat.le_of_ble_eq_true rfl) rfl rfl)) ML_X11_294 MV_X4_chance rfl (rfO t_k0 (Nat.le_of_ble_eq_true rfl) rfl rfl) rfl rfl (Nat.le_of_ble_eq_true rfl) dX11_likely_57 ?_
            exact V_iret rfl (so_s hf) dX11_likely_60
          · have hf := if_s c_11 hf
            refine V_sub [] rfl ?_
            exact v_X11_likely_37 hd hf
theorem dX11_lost_0 : decode cX11_lost 0 = .ok (.aload_n 0, 1) := by decide +kernel
theorem dX11_lost_1 : decode cX11_lost 1 = .ok (.getfield 19, 3) := by decide +kernel
theorem dX11_lost_4 : decode cX11_lost 4 = .ok (.getfield 144, 3) := by decide +kernel
theorem dX11_lost_7 : decode cX11_lost 7 = .ok (.ifCond .ne 5, 3) := by decide +kernel
theorem dX11_lost_10 : decode cX11_lost 10 = .ok (.iconst (-1), 1) := by decide +kernel
theorem dX11_lost_11 : decode cX11_lost 11 = .ok (.ireturn, 1) := by decide +kernel
theorem dX11_lost_12 : decode cX11_lost 12 = .ok (.iconst 0, 1) := by decide +kernel
theorem dX11_lost_13 : decode cX11_lost 13 = .ok (.istore_n 1, 1) := by decide +kernel
theorem dX11_lost_14 : decode cX11_lost 14 = .ok (.iconst 0, 1) := by decide +kernel
theorem dX11_lost_15 : decode cX11_lost 15 = .ok (.istore_n 2, 1) := by decide +kernel
theorem dX11_lost_16 : decode cX11_lost 16 = .ok (.iload_n 2, 1) := by decide +kernel
theorem dX11_lost_17 : decode cX11_lost 17 = .ok (.aload_n 0, 1) := by decide +kernel
theorem dX11_lost_18 : decode cX11_lost 18 = .ok (.getfield 19, 3) := by decide +kernel
theorem dX11_lost_21 : decode cX11_lost 21 = .ok (.getfield 144, 3) := by decide +kernel
theorem dX11_lost_24 : decode cX11_lost 24 = .ok (.if_icmp .ge 31, 3) := by decide +kernel
theorem dX11_lost_27 : decode cX11_lost 27 = .ok (.iload_n 1, 1) := by decide +kernel
theorem dX11_lost_28 : decode cX11_lost 28 = .ok (.aload_n 0, 1) := by decide +kernel
theorem dX11_lost_29 : decode cX11_lost 29 = .ok (.getfield 19, 3) := by decide +kernel
theorem dX11_lost_32 : decode cX11_lost 32 = .ok (.iload_n 2, 1) := by decide +kernel
theorem dX11_lost_33 : decode cX11_lost 33 = .ok (.iconst 2, 1) := by decide +kernel
theorem dX11_lost_34 : decode cX11_lost 34 = .ok (.invokevirtual 162, 3) := by decide +kernel
theorem dX11_lost_37 : decode cX11_lost 37 = .ok (.aload_n 0, 1) := by decide +kernel
theorem dX11_lost_38 : decode cX11_lost 38 = .ok (.getfield 45, 3) := by decide +kernel
theorem dX11_lost_41 : decode cX11_lost 41 = .ok (.getfield 172, 3) := by decide +kernel
theorem dX11_lost_44 : decode cX11_lost 44 = .ok (.iload_n 2, 1) := by decide +kernel
theorem dX11_lost_45 : decode cX11_lost 45 = .ok (.iaload, 1) := by decide +kernel
theorem dX11_lost_46 : decode cX11_lost 46 = .ok (.isub, 1) := by decide +kernel
theorem dX11_lost_47 : decode cX11_lost 47 = .ok (.iadd, 1) := by decide +kernel
theorem dX11_lost_48 : decode cX11_lost 48 = .ok (.istore_n 1, 1) := by decide +kernel
theorem dX11_lost_49 : decode cX11_lost 49 = .ok (.iinc 2 1, 3) := by decide +kernel
theorem dX11_lost_52 : decode cX11_lost 52 = .ok (.goto (-36), 3) := by decide +kernel
theorem dX11_lost_55 : decode cX11_lost 55 = .ok (.iload_n 1, 1) := by decide +kernel
theorem dX11_lost_56 : decode cX11_lost 56 = .ok (.ireturn, 1) := by decide +kernel
def f_X11_lost_16 : Nat → Nat → Int32 → Int32 → AH → Option (Int32 × AH)
  | 0, _, _, _, _ => none
  | n + 1, k0, x1, x2, h =>
    if (h.1 (rf k0 1) 2) ≤ x2 then (
      some (x1, h)
    ) else (
      ob (f_X6_item (rf k0 1) x2 2 h) fun r_4 h_3 =>
      og (ix x2 (an (rf (rf k0 6) 2))) <|
      nm ((x1 + (r_4 - (h_3.1 (rf (rf k0 6) 2) x2.toNatClampNeg)))) fun x1_6 =>
      nm (x2 + 1) fun x2_8 =>
      f_X11_lost_16 n k0 x1_6 x2_8 h_3
    )
def f_X11_lost (k0 : Nat) (h : AH) : Option (Int32 × AH) :=
  if (h.1 (rf k0 1) 2) = 0 then (
    some ((-1), h)
  ) else (
    f_X11_lost_16 FU k0 0 0 h
  )
set_option maxHeartbeats 4000000 in
set_option maxRecDepth 100000 in
theorem v_X11_lost_16 {E : EV} {d : Nat} (hd : 1 ≤ d) {r0 : Int32} {h0 : AH} : ∀ (n : Nat) (k0 : Nat) (x1 : Int32) (x2 : Int32) (h : AH), f_X11_lost_16 n k0 x1 x2 h = some (r0, h0) → kd k0 = (0, 11) → V E (d + 1) K_X11_lost (ZI E r0 h0) h [(0, .ref k0), (1, .int x1), (2, .int x2)] [] 16 := by
  intro n
  induction n with
  | zero =>
    intro k0 x1 x2 h hf
    rw [f_X11_lost_16] at hf
    cases hf
  | succ n ih =>
    intro k0 x1 x2 h hf t_k0
    rw [f_X11_lost_16] at hf
    refine V_iload_n 2 dX11_lost_16 rfl rfl ?_
    refine V_aload_n 0 dX11_lost_17 rfl rfl ?_
    refine V_getR F_X11_19 rfl t_k0 rfl dX11_lost_18 ?_
    refine V_getI F_X11_144 rfl (rfO t_k0 (Nat.le_of_ble_eq_true rfl) rfl rfl) rfl dX11_lost_21 ?_
    refine V_ic_ge (tgt := 55) dX11_lost_24 (by decide) (fun c_1 => ?_) (fun c_1 => ?_)
    · have hf := it_s c_1 hf
      refine V_iload_n 1 dX11_lost_55 rfl rfl ?_
      exact V_iret rfl (so_s hf) dX11_lost_56
    · have hf := if_s c_1 hf
      refine V_iload_n 1 dX11_lost_27 rfl rfl ?_
      refine V_aload_n 0 dX11_lost_28 rfl rfl ?_
      refine V_getR F_X11_19 rfl t_k0 rfl dX11_lost_29 ?_
      refine V_iload_n 2 dX11_lost_32 rfl rfl ?_
      refine V_iconst (v := 2) dX11_lost_33 (by decide) ?_
      obtain ⟨r_4, h_3, e_2, hf⟩ := ob_s hf
      refine V_cvi (As := [.int x2, .int 2]) (rest := [.int x1]) (c_X6_item (d := d) (Nat.le_trans (Nat.le_of_ble_eq_true rfl) hd) e_2 (rfO t_k0 (Nat.le_of_ble_eq_true rfl) rfl rfl)) ML_X11_162 MV_X6_item rfl (rfO t_k0 (Nat.le_of_ble_eq_true rfl) rfl rfl) rfl rfl (Nat.le_of_ble_eq_true rfl) dX11_lost_34 ?_
      refine V_aload_n 0 dX11_lost_37 rfl rfl ?_
      refine V_getR F_X11_45 rfl t_k0 rfl dX11_lost_38 ?_
      refine V_getR F_X11_172 rfl (rfO t_k0 (Nat.le_of_ble_eq_true rfl) rfl rfl) rfl dX11_lost_41 ?_
      refine V_iload_n 2 dX11_lost_44 rfl rfl ?_
      obtain ⟨b_5, hf⟩ := og_s hf
      refine V_iald (rfA (rfO t_k0 (Nat.le_of_ble_eq_true rfl) rfl rfl) (Nat.le_of_ble_eq_true rfl) rfl rfl (by decide)) b_5 dX11_lost_45 ?_
      refine V_isub dX11_lost_46 ?_
      refine V_iadd dX11_lost_47 ?_
      obtain ⟨x1_6, e_7, hf⟩ := nm_s hf
      refine V_istore_n (L' := [(1, .int x1_6), (0, .ref k0), (2, .int x2)]) dX11_lost_48 rfl (Nat.le_of_ble_eq_true rfl) e_7 rfl ?_
      obtain ⟨x2_8, e_9, hf⟩ := nm_s hf
      refine V_iinc (a := 1) (L' := [(2, .int x2_8), (1, .int x1_6), (0, .ref k0)]) 2 dX11_lost_49 rfl (by decide) (Nat.le_of_ble_eq_true rfl) e_9 rfl ?_
      refine V_goto (tgt := 16) dX11_lost_52 (by decide) ?_
      refine V_sub [2, 1, 0] rfl ?_
      exact ih _ _ _ _ hf t_k0
set_option maxHeartbeats 4000000 in
set_option maxRecDepth 100000 in
theorem c_X11_lost {E : EV} {d : Nat} (hd : 1 + 1 ≤ d) {k0 : Nat} {h : AH} {r0 : Int32} {h0 : AH} (hf : f_X11_lost k0 h = some (r0, h0)) (t_k0 : kd k0 = (0, 11)) : Con E d K_X11_lost (ZI E r0 h0) [.ref k0] h := by
  obtain ⟨d, rfl⟩ : ∃ d', d = d' + 1 := ⟨d - 1, by omega⟩
  have hd := Nat.le_of_succ_le_succ hd
  refine Con.ofV rfl (Nat.le_of_ble_eq_true rfl) ?_
  unfold f_X11_lost at hf
  show V E (d + 1) K_X11_lost (ZI E r0 h0) h [(0, .ref k0)] [] 0
  refine V_aload_n 0 dX11_lost_0 rfl rfl ?_
  refine V_getR F_X11_19 rfl t_k0 rfl dX11_lost_1 ?_
  refine V_getI F_X11_144 rfl (rfO t_k0 (Nat.le_of_ble_eq_true rfl) rfl rfl) rfl dX11_lost_4 ?_
  refine V_if_ne (tgt := 12) dX11_lost_7 (by decide) (fun c_1 => ?_) (fun c_1 => ?_)
  · have hf := if_s c_1 hf
    refine V_iconst (v := 0) dX11_lost_12 (by decide) ?_
    refine V_istore_n (L' := [(1, .int 0), (0, .ref k0)]) dX11_lost_13 rfl (Nat.le_of_ble_eq_true rfl) rfl rfl ?_
    refine V_iconst (v := 0) dX11_lost_14 (by decide) ?_
    refine V_istore_n (L' := [(2, .int 0), (1, .int 0), (0, .ref k0)]) dX11_lost_15 rfl (Nat.le_of_ble_eq_true rfl) rfl rfl ?_
    refine V_sub [2, 1, 0] rfl ?_
    exact v_X11_lost_16 hd FU _ _ _ _ hf t_k0
  · have hf := it_s c_1 hf
    refine V_iconst (v := (-1)) dX11_lost_10 (by decide) ?_
    exact V_iret rfl (so_s hf) dX11_lost_11
theorem dX11_odd_0 : decode cX11_odd 0 = .ok (.iload_n 1, 1) := by decide +kernel
theorem dX11_odd_1 : decode cX11_odd 1 = .ok (.iconst 2, 1) := by decide +kernel
theorem dX11_odd_2 : decode cX11_odd 2 = .ok (.if_icmp .lt 26, 3) := by decide +kernel
theorem dX11_odd_5 : decode cX11_odd 5 = .ok (.iload_n 1, 1) := by decide +kernel
theorem dX11_odd_6 : decode cX11_odd 6 = .ok (.iconst 5, 1) := by decide +kernel
theorem dX11_odd_7 : decode cX11_odd 7 = .ok (.if_icmp .gt 21, 3) := by decide +kernel
theorem dX11_odd_10 : decode cX11_odd 10 = .ok (.iload_n 3, 1) := by decide +kernel
theorem dX11_odd_11 : decode cX11_odd 11 = .ok (.iconst 2, 1) := by decide +kernel
theorem dX11_odd_12 : decode cX11_odd 12 = .ok (.if_icmp .lt 16, 3) := by decide +kernel
theorem dX11_odd_15 : decode cX11_odd 15 = .ok (.iload_n 3, 1) := by decide +kernel
theorem dX11_odd_16 : decode cX11_odd 16 = .ok (.iload_n 1, 1) := by decide +kernel
theorem dX11_odd_17 : decode cX11_odd 17 = .ok (.if_icmp .gt 11, 3) := by decide +kernel
theorem dX11_odd_20 : decode cX11_odd 20 = .ok (.iload_n 1, 1) := by decide +kernel
theorem dX11_odd_21 : decode cX11_odd 21 = .ok (.iload_n 2, 1) := by decide +kernel
theorem dX11_odd_22 : decode cX11_odd 22 = .ok (.invokestatic 304, 3) := by decide +kernel
theorem dX11_odd_25 : decode cX11_odd 25 = .ok (.ifCond .ne 5, 3) := by decide +kernel
theorem dX11_odd_28 : decode cX11_odd 28 = .ok (.iconst (-1), 1) := by decide +kernel
theorem dX11_odd_29 : decode cX11_odd 29 = .ok (.ireturn, 1) := by decide +kernel
theorem dX11_odd_30 : decode cX11_odd 30 = .ok (.iconst 0, 1) := by decide +kernel
theorem dX11_odd_31 : decode cX11_odd 31 = .ok (.istore 4, 2) := by decide +kernel
theorem dX11_odd_33 : decode cX11_odd 33 = .ok (.iconst 0, 1) := by decide +kernel
theorem dX11_odd_34 : decode cX11_odd 34 = .ok (.istore 5, 2) := by decide +kernel
theorem dX11_odd_36 : decode cX11_odd 36 = .ok (.iconst 0, 1) := by decide +kernel
theorem dX11_odd_37 : decode cX11_odd 37 = .ok (.istore 6, 2) := by decide +kernel
theorem dX11_odd_39 : decode cX11_odd 39 = .ok (.iload 6, 2) := by decide +kernel
theorem dX11_odd_41 : decode cX11_odd 41 = .ok (.iload_n 1, 1) := by decide +kernel
theorem dX11_odd_42 : decode cX11_odd 42 = .ok (.if_icmp .ge 51, 3) := by decide +kernel
theorem dX11_odd_45 : decode cX11_odd 45 = .ok (.iload 4, 2) := by decide +kernel
theorem dX11_odd_47 : decode cX11_odd 47 = .ok (.iload_n 1, 1) := by decide +kernel
theorem dX11_odd_48 : decode cX11_odd 48 = .ok (.iload_n 2, 1) := by decide +kernel
theorem dX11_odd_49 : decode cX11_odd 49 = .ok (.iload 6, 2) := by decide +kernel
theorem dX11_odd_51 : decode cX11_odd 51 = .ok (.invokestatic 307, 3) := by decide +kernel
theorem dX11_odd_54 : decode cX11_odd 54 = .ok (.iload 6, 2) := by decide +kernel
theorem dX11_odd_56 : decode cX11_odd 56 = .ok (.if_icmp .ne 7, 3) := by decide +kernel
theorem dX11_odd_59 : decode cX11_odd 59 = .ok (.iconst 0, 1) := by decide +kernel
theorem dX11_odd_60 : decode cX11_odd 60 = .ok (.goto 4, 3) := by decide +kernel
theorem dX11_odd_63 : decode cX11_odd 63 = .ok (.iconst 1, 1) := by decide +kernel
theorem dX11_odd_64 : decode cX11_odd 64 = .ok (.iadd, 1) := by decide +kernel
theorem dX11_odd_65 : decode cX11_odd 65 = .ok (.istore 4, 2) := by decide +kernel
theorem dX11_odd_67 : decode cX11_odd 67 = .ok (.iload 5, 2) := by decide +kernel
theorem dX11_odd_69 : decode cX11_odd 69 = .ok (.iload_n 1, 1) := by decide +kernel
theorem dX11_odd_70 : decode cX11_odd 70 = .ok (.iload_n 2, 1) := by decide +kernel
theorem dX11_odd_71 : decode cX11_odd 71 = .ok (.iload 6, 2) := by decide +kernel
theorem dX11_odd_73 : decode cX11_odd 73 = .ok (.invokestatic 310, 3) := by decide +kernel
theorem dX11_odd_76 : decode cX11_odd 76 = .ok (.ifCond .eq 7, 3) := by decide +kernel
theorem dX11_odd_79 : decode cX11_odd 79 = .ok (.iconst 1, 1) := by decide +kernel
theorem dX11_odd_80 : decode cX11_odd 80 = .ok (.goto 4, 3) := by decide +kernel
theorem dX11_odd_83 : decode cX11_odd 83 = .ok (.iconst 0, 1) := by decide +kernel
theorem dX11_odd_84 : decode cX11_odd 84 = .ok (.iadd, 1) := by decide +kernel
theorem dX11_odd_85 : decode cX11_odd 85 = .ok (.istore 5, 2) := by decide +kernel
theorem dX11_odd_87 : decode cX11_odd 87 = .ok (.iinc 6 1, 3) := by decide +kernel
theorem dX11_odd_90 : decode cX11_odd 90 = .ok (.goto (-51), 3) := by decide +kernel
theorem dX11_odd_93 : decode cX11_odd 93 = .ok (.iload_n 3, 1) := by decide +kernel
theorem dX11_odd_94 : decode cX11_odd 94 = .ok (.iconst 2, 1) := by decide +kernel
theorem dX11_odd_95 : decode cX11_odd 95 = .ok (.if_icmp .ne 8, 3) := by decide +kernel
theorem dX11_odd_98 : decode cX11_odd 98 = .ok (.iload_n 1, 1) := by decide +kernel
theorem dX11_odd_99 : decode cX11_odd 99 = .ok (.iload 5, 2) := by decide +kernel
theorem dX11_odd_101 : decode cX11_odd 101 = .ok (.isub, 1) := by decide +kernel
theorem dX11_odd_102 : decode cX11_odd 102 = .ok (.ireturn, 1) := by decide +kernel
theorem dX11_odd_103 : decode cX11_odd 103 = .ok (.iload 4, 2) := by decide +kernel
theorem dX11_odd_105 : decode cX11_odd 105 = .ok (.ifCond .ne 7, 3) := by decide +kernel
theorem dX11_odd_108 : decode cX11_odd 108 = .ok (.iconst 0, 1) := by decide +kernel
theorem dX11_odd_109 : decode cX11_odd 109 = .ok (.goto 14, 3) := by decide +kernel
theorem dX11_odd_112 : decode cX11_odd 112 = .ok (.iload 4, 2) := by decide +kernel
theorem dX11_odd_114 : decode cX11_odd 114 = .ok (.iload_n 3, 1) := by decide +kernel
theorem dX11_odd_115 : decode cX11_odd 115 = .ok (.if_icmp .gt 7, 3) := by decide +kernel
theorem dX11_odd_118 : decode cX11_odd 118 = .ok (.iconst 1, 1) := by decide +kernel
theorem dX11_odd_119 : decode cX11_odd 119 = .ok (.goto 4, 3) := by decide +kernel
theorem dX11_odd_122 : decode cX11_odd 122 = .ok (.iconst 2, 1) := by decide +kernel
theorem dX11_odd_123 : decode cX11_odd 123 = .ok (.ireturn, 1) := by decide +kernel
theorem ML_X11_310 : MLk RX11 310 yX11_isLowestOfRing := Or.inl ml_X11_310
theorem MS_X11_isLowestOfRing : MSk K_X11_isLowestOfRing 3 := ⟨⟨cd_X11_isLowestOfRing, in_X11, ⟨by decide, by decide, by decide +kernel⟩, by decide⟩, st_X11_isLowestOfRing⟩
theorem ML_X11_304 : MLk RX11 304 yX11_isMixedRow := Or.inl ml_X11_304
theorem MS_X11_isMixedRow : MSk K_X11_isMixedRow 2 := ⟨⟨cd_X11_isMixedRow, in_X11, ⟨by decide, by decide, by decide +kernel⟩, by decide⟩, st_X11_isMixedRow⟩
def f_X11_odd_28  (h : AH) : Option (Int32 × AH) :=
  some ((-1), h)
def f_X11_odd_84 (q39 : Int32 → Int32 → Int32 → Int32 → Int32 → Int32 → AH → Option (Int32 × AH)) (x1 : Int32) (x2 : Int32) (x3 : Int32) (x4 : Int32) (x6 : Int32) (s0 : Int32) (s1 : Int32) (h : AH) : Option (Int32 × AH) :=
  nm ((s1 + s0)) fun x5_1 =>
  nm (x6 + 1) fun x6_3 =>
  q39 x1 x2 x3 x4 x5_1 x6_3 h
def f_X11_odd_64 (q39 : Int32 → Int32 → Int32 → Int32 → Int32 → Int32 → AH → Option (Int32 × AH)) (x1 : Int32) (x2 : Int32) (x3 : Int32) (x5 : Int32) (x6 : Int32) (s0 : Int32) (s1 : Int32) (h : AH) : Option (Int32 × AH) :=
  nm ((s1 + s0)) fun x4_1 =>
  ob (f_X11_isLowestOfRing x1 x2 x6 h) fun r_5 h_4 =>
  if r_5 = 0 then (
    f_X11_odd_84 q39 x1 x2 x3 x4_1 x6 0 x5 h_4
  ) else (
    f_X11_odd_84 q39 x1 x2 x3 x4_1 x6 1 x5 h_4
  )
def f_X11_odd_123 (s0 : Int32) (h : AH) : Option (Int32 × AH) :=
  some (s0, h)
def f_X11_odd_39 : Nat → Int32 → Int32 → Int32 → Int32 → Int32 → Int32 → AH → Option (Int32 × AH)
  | 0, _, _, _, _, _, _, _ => none
  | n + 1, x1, x2, x3, x4, x5, x6, h =>
    if x1 ≤ x6 then (
      if x3 = 2 then (
        some ((x1 - x5), h)
      ) else (
        if x4 = 0 then (
          f_X11_odd_123 0 h
        ) else (
          if x3 < x4 then (
            f_X11_odd_123 2 h
          ) else (
            f_X11_odd_123 1 h
          )
        )
      )
    ) else (
      ob (f_X11_rightOf x1 x2 x6 h) fun r_7 h_6 =>
      if r_7 = x6 then (
        f_X11_odd_64 (f_X11_odd_39 n) x1 x2 x3 x5 x6 0 x4 h_6
      ) else (
        f_X11_odd_64 (f_X11_odd_39 n) x1 x2 x3 x5 x6 1 x4 h_6
      )
    )
def f_X11_odd (k0 : Nat) (x1 : Int32) (x2 : Int32) (x3 : Int32) (h : AH) : Option (Int32 × AH) :=
  if x1 < 2 then (
    f_X11_odd_28 h
  ) else (
    if 5 < x1 then (
      f_X11_odd_28 h
    ) else (
      if x3 < 2 then (
        f_X11_odd_28 h
      ) else (
        if x1 < x3 then (
          f_X11_odd_28 h
        ) else (
          ob (f_X11_isMixedRow x1 x2 h) fun r_7 h_6 =>
          if r_7 = 0 then (
            f_X11_odd_28 h_6
          ) else (
            f_X11_odd_39 FU x1 x2 x3 0 0 0 h_6
          )
        )
      )
    )
  )
set_option maxHeartbeats 4000000 in
set_option maxRecDepth 100000 in
theorem v_X11_odd_28 {E : EV} {d : Nat} (hd : 2 ≤ d) {r0 : Int32} {h0 : AH}  {h : AH} (hf : f_X11_odd_28 h = some (r0, h0)) : V E (d + 1) K_X11_odd (ZI E r0 h0) h [] [] 28 := by
  unfold f_X11_odd_28 at hf
  refine V_iconst (v := (-1)) dX11_odd_28 (by decide) ?_
  exact V_iret rfl (so_s hf) dX11_odd_29
set_option maxHeartbeats 4000000 in
set_option maxRecDepth 100000 in
theorem v_X11_odd_84 {E : EV} {d : Nat} (hd : 2 ≤ d) {r0 : Int32} {h0 : AH} {q39 : Int32 → Int32 → Int32 → Int32 → Int32 → Int32 → AH → Option (Int32 × AH)} (cq39 : ∀ (x1 : Int32) (x2 : Int32) (x3 : Int32) (x4 : Int32) (x5 : Int32) (x6 : Int32) (h : AH), q39 x1 x2 x3 x4 x5 x6 h = some (r0, h0) → V E (d + 1) K_X11_odd (ZI E r0 h0) h [(1, .int x1), (2, .int x2), (3, .int x3), (4, .int x4), (5, .int x5), (6, .int x6)] [] 39) {x1 : Int32} {x2 : Int32} {x3 : Int32} {x4 : Int32} {x6 : Int32} {s0 : Int32} {s1 : Int32} {h : AH} (hf : f_X11_odd_84 q39 x1 x2 x3 x4 x6 s0 s1 h = some (r0, h0)) : V E (d + 1) K_X11_odd (ZI E r0 h0) h [(1, .int x1), (2, .int x2), (3, .int x3), (4, .int x4), (6, .int x6)] [.int s0, .int s1] 84 := by
  unfold f_X11_odd_84 at hf
  refine V_iadd dX11_odd_84 ?_
  obtain ⟨x5_1, e_2, hf⟩ := nm_s hf
  refine V_istore (L' := [(5, .int x5_1), (1, .int x1), (2, .int x2), (3, .int x3), (4, .int x4), (6, .int x6)]) dX11_odd_85 (Nat.le_of_ble_eq_true rfl) e_2 rfl ?_
  obtain ⟨x6_3, e_4, hf⟩ := nm_s hf
  refine V_iinc (a := 1) (L' := [(6, .int x6_3), (5, .int x5_1), (1, .int x1), (2, .int x2), (3, .int x3), (4, .int x4)]) 5 dX11_odd_87 rfl (by decide) (Nat.le_of_ble_eq_true rfl) e_4 rfl ?_
  refine V_goto (tgt := 39) dX11_odd_90 (by decide) ?_
  refine V_sub [2, 3, 4, 5, 1, 0] rfl ?_
  exact cq39 _ _ _ _ _ _ _ hf
set_option maxHeartbeats 4000000 in
set_option maxRecDepth 100000 in
theorem v_X11_odd_64 {E : EV} {d : Nat} (hd : 2 ≤ d) {r0 : Int32} {h0 : AH} {q39 : Int32 → Int32 → Int32 → Int32 → Int32 → Int32 → AH → Option (Int32 × AH)} (cq39 : ∀ (x1 : Int32) (x2 : Int32) (x3 : Int32) (x4 : Int32) (x5 : Int32) (x6 : Int32) (h : AH), q39 x1 x2 x3 x4 x5 x6 h = some (r0, h0) → V E (d + 1) K_X11_odd (ZI E r0 h0) h [(1, .int x1), (2, .int x2), (3, .int x3), (4, .int x4), (5, .int x5), (6, .int x6)] [] 39) {x1 : Int32} {x2 : Int32} {x3 : Int32} {x5 : Int32} {x6 : Int32} {s0 : Int32} {s1 : Int32} {h : AH} (hf : f_X11_odd_64 q39 x1 x2 x3 x5 x6 s0 s1 h = some (r0, h0)) : V E (d + 1) K_X11_odd (ZI E r0 h0) h [(1, .int x1), (2, .int x2), (3, .int x3), (5, .int x5), (6, .int x6)] [.int s0, .int s1] 64 := by
  unfold f_X11_odd_64 at hf
  refine V_iadd dX11_odd_64 ?_
  obtain ⟨x4_1, e_2, hf⟩ := nm_s hf
  refine V_istore (L' := [(4, .int x4_1), (1, .int x1), (2, .int x2), (3, .int x3), (5, .int x5), (6, .int x6)]) dX11_odd_65 (Nat.le_of_ble_eq_true rfl) e_2 rfl ?_
  refine V_iload 4 dX11_odd_67 rfl ?_
  refine V_iload_n 1 dX11_odd_69 rfl rfl ?_
  refine V_iload_n 2 dX11_odd_70 rfl rfl ?_
  refine V_iload 5 dX11_odd_71 rfl ?_
  obtain ⟨r_5, h_4, e_3, hf⟩ := ob_s hf
  refine V_csi (As := [.int x1, .int x2, .int x6]) (rest := [.int x5]) (c_X11_isLowestOfRing (d := d) (Nat.le_trans (Nat.le_of_ble_eq_true rfl) hd) e_3) ML_X11_310 MS_X11_isLowestOfRing rfl rfl rfl (Nat.le_of_ble_eq_true rfl) dX11_odd_73 ?_
  refine V_if_eq (tgt := 83) dX11_odd_76 (by decide) (fun c_6 => ?_) (fun c_6 => ?_)
  · have hf := it_s c_6 hf
    refine V_iconst (v := 0) dX11_odd_83 (by decide) ?_
    refine V_sub [1, 2, 3, 0, 5] rfl ?_
    exact v_X11_odd_84 hd cq39 hf
  · have hf := if_s c_6 hf
    refine V_iconst (v := 1) dX11_odd_79 (by decide) ?_
    refine V_goto (tgt := 84) dX11_odd_80 (by decide) ?_
    refine V_sub [1, 2, 3, 0, 5] rfl ?_
    exact v_X11_odd_84 hd cq39 hf
set_option maxHeartbeats 4000000 in
set_option maxRecDepth 100000 in
theorem v_X11_odd_123 {E : EV} {d : Nat} (hd : 2 ≤ d) {r0 : Int32} {h0 : AH} {s0 : Int32} {h : AH} (hf : f_X11_odd_123 s0 h = some (r0, h0)) : V E (d + 1) K_X11_odd (ZI E r0 h0) h [] [.int s0] 123 := by
  unfold f_X11_odd_123 at hf
  exact V_iret rfl (so_s hf) dX11_odd_123
set_option maxHeartbeats 4000000 in
set_option maxRecDepth 100000 in
theorem v_X11_odd_39 {E : EV} {d : Nat} (hd : 2 ≤ d) {r0 : Int32} {h0 : AH} : ∀ (n : Nat) (x1 : Int32) (x2 : Int32) (x3 : Int32) (x4 : Int32) (x5 : Int32) (x6 : Int32) (h : AH), f_X11_odd_39 n x1 x2 x3 x4 x5 x6 h = some (r0, h0) → V E (d + 1) K_X11_odd (ZI E r0 h0) h [(1, .int x1), (2, .int x2), (3, .int x3), (4, .int x4), (5, .int x5), (6, .int x6)] [] 39 := by
  intro n
  induction n with
  | zero =>
    intro x1 x2 x3 x4 x5 x6 h hf
    rw [f_X11_odd_39] at hf
    cases hf
  | succ n ih =>
    intro x1 x2 x3 x4 x5 x6 h hf
    rw [f_X11_odd_39] at hf
    refine V_iload 5 dX11_odd_39 rfl ?_
    refine V_iload_n 0 dX11_odd_41 rfl rfl ?_
    refine V_ic_ge (tgt := 93) dX11_odd_42 (by decide) (fun c_1 => ?_) (fun c_1 => ?_)
    · have hf := it_s c_1 hf
      refine V_iload_n 2 dX11_odd_93 rfl rfl ?_
      refine V_iconst (v := 2) dX11_odd_94 (by decide) ?_
      refine V_ic_ne (tgt := 103) dX11_odd_95 (by decide) (fun c_2 => ?_) (fun c_2 => ?_)
      · have hf := if_s c_2 hf
        refine V_iload 3 dX11_odd_103 rfl ?_
        refine V_if_ne (tgt := 112) dX11_odd_105 (by decide) (fun c_3 => ?_) (fun c_3 => ?_)
        · have hf := if_s c_3 hf
          refine V_iload 3 dX11_odd_112 rfl ?_
          refine V_iload_n 2 dX11_odd_114 rfl rfl ?_
          refine V_ic_gt (tgt := 122) dX11_odd_115 (by decide) (fun c_4 => ?_) (fun c_4 => ?_)
          · have hf := it_s c_4 hf
            refine V_iconst (v := 2) dX11_odd_122 (by decide) ?_
            refine V_sub [] rfl ?_
            exact v_X11_odd_123 hd hf
          · have hf := if_s c_4 hf
            refine V_iconst (v := 1) dX11_odd_118 (by decide) ?_
            refine V_goto (tgt := 123) dX11_odd_119 (by decide) ?_
            refine V_sub [] rfl ?_
            exact v_X11_odd_123 hd hf
        · have hf := it_s c_3 hf
          refine V_iconst (v := 0) dX11_odd_108 (by decide) ?_
          refine V_goto (tgt := 123) dX11_odd_109 (by decide) ?_
          refine V_sub [] rfl ?_
          exact v_X11_odd_123 hd hf
      · have hf := it_s c_2 hf
        refine V_iload_n 0 dX11_odd_98 rfl rfl ?_
        refine V_iload 4 dX11_odd_99 rfl ?_
        refine V_isub dX11_odd_101 ?_
        exact V_iret rfl (so_s hf) dX11_odd_102
    · have hf := if_s c_1 hf
      refine V_iload 3 dX11_odd_45 rfl ?_
      refine V_iload_n 0 dX11_odd_47 rfl rfl ?_
      refine V_iload_n 1 dX11_odd_48 rfl rfl ?_
      refine V_iload 5 dX11_odd_49 rfl ?_
      obtain ⟨r_7, h_6, e_5, hf⟩ := ob_s hf
      refine V_csi (As := [.int x1, .int x2, .int x6]) (rest := [.int x4]) (c_X11_rightOf (d := d) (Nat.le_trans (Nat.le_of_ble_eq_true rfl) hd) e_5) ML_X11_307 MS_X11_rightOf rfl rfl rfl (Nat.le_of_ble_eq_true rfl) dX11_odd_51 ?_
      refine V_iload 5 dX11_odd_54 rfl ?_
      refine V_ic_ne (tgt := 63) dX11_odd_56 (by decide) (fun c_8 => ?_) (fun c_8 => ?_)
      · have hf := if_s c_8 hf
        refine V_iconst (v := 1) dX11_odd_63 (by decide) ?_
        refine V_sub [0, 1, 2, 4, 5] rfl ?_
        exact v_X11_odd_64 hd ih hf
      · have hf := it_s c_8 hf
        refine V_iconst (v := 0) dX11_odd_59 (by decide) ?_
        refine V_goto (tgt := 64) dX11_odd_60 (by decide) ?_
        refine V_sub [0, 1, 2, 4, 5] rfl ?_
        exact v_X11_odd_64 hd ih hf
set_option maxHeartbeats 4000000 in
set_option maxRecDepth 100000 in
theorem c_X11_odd {E : EV} {d : Nat} (hd : 2 + 1 ≤ d) {k0 : Nat} {x1 : Int32} {x2 : Int32} {x3 : Int32} {h : AH} {r0 : Int32} {h0 : AH} (hf : f_X11_odd k0 x1 x2 x3 h = some (r0, h0)) (t_k0 : kd k0 = (0, 11)) : Con E d K_X11_odd (ZI E r0 h0) [.ref k0, .int x1, .int x2, .int x3] h := by
  obtain ⟨d, rfl⟩ : ∃ d', d = d' + 1 := ⟨d - 1, by omega⟩
  have hd := Nat.le_of_succ_le_succ hd
  refine Con.ofV rfl (Nat.le_of_ble_eq_true rfl) ?_
  unfold f_X11_odd at hf
  show V E (d + 1) K_X11_odd (ZI E r0 h0) h [(0, .ref k0), (1, .int x1), (2, .int x2), (3, .int x3)] [] 0
  refine V_iload_n 1 dX11_odd_0 rfl rfl ?_
  refine V_iconst (v := 2) dX11_odd_1 (by decide) ?_
  refine V_ic_lt (tgt := 28) dX11_odd_2 (by decide) (fun c_1 => ?_) (fun c_1 => ?_)
  · have hf := it_s c_1 hf
    refine V_sub [] rfl ?_
    exact v_X11_odd_28 hd hf
  · have hf := if_s c_1 hf
    refine V_iload_n 1 dX11_odd_5 rfl rfl ?_
    refine V_iconst (v := 5) dX11_odd_6 (by decide) ?_
    refine V_ic_gt (tgt := 28) dX11_odd_7 (by decide) (fun c_2 => ?_) (fun c_2 => ?_)
    · have hf := it_s c_2 hf
      refine V_sub [] rfl ?_
      exact v_X11_odd_28 hd hf
    · have hf := if_s c_2 hf
      refine V_iload_n 3 dX11_odd_10 rfl rfl ?_
      refine V_iconst (v := 2) dX11_odd_11 (by decide) ?_
      refine V_ic_lt (tgt := 28) dX11_odd_12 (by decide) (fun c_3 => ?_) (fun c_3 => ?_)
      · have hf := it_s c_3 hf
        refine V_sub [] rfl ?_
        exact v_X11_odd_28 hd hf
      · have hf := if_s c_3 hf
        refine V_iload_n 3 dX11_odd_15 rfl rfl ?_
        refine V_iload_n 1 dX11_odd_16 rfl rfl ?_
        refine V_ic_gt (tgt := 28) dX11_odd_17 (by decide) (fun c_4 => ?_) (fun c_4 => ?_)
        · have hf := it_s c_4 hf
          refine V_sub [] rfl ?_
          exact v_X11_odd_28 hd hf
        · have hf := if_s c_4 hf
          refine V_iload_n 1 dX11_odd_20 rfl rfl ?_
          refine V_iload_n 2 dX11_odd_21 rfl rfl ?_
          obtain ⟨r_7, h_6, e_5, hf⟩ := ob_s hf
          refine V_csi (As := [.int x1, .int x2]) (rest := []) (c_X11_isMixedRow (d := d) (Nat.le_trans (Nat.le_of_ble_eq_true rfl) hd) e_5) ML_X11_304 MS_X11_isMixedRow rfl rfl rfl (Nat.le_of_ble_eq_true rfl) dX11_odd_22 ?_
          refine V_if_ne (tgt := 30) dX11_odd_25 (by decide) (fun c_8 => ?_) (fun c_8 => ?_)
          · have hf := if_s c_8 hf
            refine V_iconst (v := 0) dX11_odd_30 (by decide) ?_
            refine V_istore (L' := [(4, .int 0), (0, .ref k0), (1, .int x1), (2, .int x2), (3, .int x3)]) dX11_odd_31 (Nat.le_of_ble_eq_true rfl) rfl rfl ?_
            refine V_iconst (v := 0) dX11_odd_33 (by decide) ?_
            refine V_istore (L' := [(5, .int 0), (4, .int 0), (0, .ref k0), (1, .int x1), (2, .int x2), (3, .int x3)]) dX11_odd_34 (Nat.le_of_ble_eq_true rfl) rfl rfl ?_
            refine V_iconst (v := 0) dX11_odd_36 (by decide) ?_
            refine V_istore (L' := [(6, .int 0), (5, .int 0), (4, .int 0), (0, .ref k0), (1, .int x1), (2, .int x2), (3, .int x3)]) dX11_odd_37 (Nat.le_of_ble_eq_true rfl) rfl rfl ?_
            refine V_sub [4, 5, 6, 2, 1, 0] rfl ?_
            exact v_X11_odd_39 hd FU _ _ _ _ _ _ _ hf
          · have hf := it_s c_8 hf
            refine V_sub [] rfl ?_
            exact v_X11_odd_28 hd hf
theorem dX11_orders_0 : decode cX11_orders 0 = .ok (.aload_n 0, 1) := by decide +kernel
theorem dX11_orders_1 : decode cX11_orders 1 = .ok (.iload_n 1, 1) := by decide +kernel
theorem dX11_orders_2 : decode cX11_orders 2 = .ok (.iload_n 2, 1) := by decide +kernel
theorem dX11_orders_3 : decode cX11_orders 3 = .ok (.invokevirtual 182, 3) := by decide +kernel
theorem dX11_orders_6 : decode cX11_orders 6 = .ok (.ifCond .eq 21, 3) := by decide +kernel
theorem dX11_orders_9 : decode cX11_orders 9 = .ok (.aload_n 0, 1) := by decide +kernel
theorem dX11_orders_10 : decode cX11_orders 10 = .ok (.iload_n 2, 1) := by decide +kernel
theorem dX11_orders_11 : decode cX11_orders 11 = .ok (.iload_n 3, 1) := by decide +kernel
theorem dX11_orders_12 : decode cX11_orders 12 = .ok (.invokevirtual 217, 3) := by decide +kernel
theorem dX11_orders_15 : decode cX11_orders 15 = .ok (.ifCond .eq 12, 3) := by decide +kernel
theorem dX11_orders_18 : decode cX11_orders 18 = .ok (.aload_n 0, 1) := by decide +kernel
theorem dX11_orders_19 : decode cX11_orders 19 = .ok (.iload 4, 2) := by decide +kernel
theorem dX11_orders_21 : decode cX11_orders 21 = .ok (.invokevirtual 224, 3) := by decide +kernel
theorem dX11_orders_24 : decode cX11_orders 24 = .ok (.ifCond .ne 6, 3) := by decide +kernel
theorem dX11_orders_27 : decode cX11_orders 27 = .ok (.ldc 220, 2) := by decide +kernel
theorem dX11_orders_29 : decode cX11_orders 29 = .ok (.ireturn, 1) := by decide +kernel
theorem dX11_orders_30 : decode cX11_orders 30 = .ok (.aload_n 0, 1) := by decide +kernel
theorem dX11_orders_31 : decode cX11_orders 31 = .ok (.getfield 73, 3) := by decide +kernel
theorem dX11_orders_34 : decode cX11_orders 34 = .ok (.aload_n 0, 1) := by decide +kernel
theorem dX11_orders_35 : decode cX11_orders 35 = .ok (.iload_n 1, 1) := by decide +kernel
theorem dX11_orders_36 : decode cX11_orders 36 = .ok (.iload_n 2, 1) := by decide +kernel
theorem dX11_orders_37 : decode cX11_orders 37 = .ok (.invokevirtual 195, 3) := by decide +kernel
theorem dX11_orders_40 : decode cX11_orders 40 = .ok (.iload_n 2, 1) := by decide +kernel
theorem dX11_orders_41 : decode cX11_orders 41 = .ok (.iload_n 3, 1) := by decide +kernel
theorem dX11_orders_42 : decode cX11_orders 42 = .ok (.iload 4, 2) := by decide +kernel
theorem dX11_orders_44 : decode cX11_orders 44 = .ok (.invokevirtual 227, 3) := by decide +kernel
theorem dX11_orders_47 : decode cX11_orders 47 = .ok (.ireturn, 1) := by decide +kernel
def f_X11_orders_27  (h : AH) : Option (Int32 × AH) :=
  some ((-1000000), h)
def f_X11_orders (k0 : Nat) (x1 : Int32) (x2 : Int32) (x3 : Int32) (x4 : Int32) (h : AH) : Option (Int32 × AH) :=
  ob (f_X11_isParty k0 x1 x2 h) fun r_3 h_2 =>
  if r_3 = 0 then (
    f_X11_orders_27 h_2
  ) else (
    ob (f_X11_isGuest k0 x2 x3 h_2) fun r_7 h_6 =>
    if r_7 = 0 then (
      f_X11_orders_27 h_6
    ) else (
      ob (f_X11_isKnownOrNone k0 x4 h_6) fun r_11 h_10 =>
      if r_11 = 0 then (
        f_X11_orders_27 h_10
      ) else (
        ob (f_X11_openDoor k0 x1 x2 h_10) fun r_15 h_14 =>
        ob (f_X5_countOrders (rf k0 11) r_15 x2 x3 x4 h_14) fun r_18 h_17 =>
        some (r_18, h_17)
      )
    )
  )
set_option maxHeartbeats 4000000 in
set_option maxRecDepth 100000 in
theorem v_X11_orders_27 {E : EV} {d : Nat} (hd : 6 ≤ d) {r0 : Int32} {h0 : AH}  {h : AH} (hf : f_X11_orders_27 h = some (r0, h0)) : V E (d + 1) K_X11_orders (ZI E r0 h0) h [] [] 27 := by
  unfold f_X11_orders_27 at hf
  refine V_ldc (v := (-1000000)) rfl kc_X11_220 dX11_orders_27 ?_
  exact V_iret rfl (so_s hf) dX11_orders_29
set_option maxHeartbeats 4000000 in
set_option maxRecDepth 100000 in
theorem c_X11_orders {E : EV} {d : Nat} (hd : 6 + 1 ≤ d) {k0 : Nat} {x1 : Int32} {x2 : Int32} {x3 : Int32} {x4 : Int32} {h : AH} {r0 : Int32} {h0 : AH} (hf : f_X11_orders k0 x1 x2 x3 x4 h = some (r0, h0)) (t_k0 : kd k0 = (0, 11)) : Con E d K_X11_orders (ZI E r0 h0) [.ref k0, .int x1, .int x2, .int x3, .int x4] h := by
  obtain ⟨d, rfl⟩ : ∃ d', d = d' + 1 := ⟨d - 1, by omega⟩
  have hd := Nat.le_of_succ_le_succ hd
  refine Con.ofV rfl (Nat.le_of_ble_eq_true rfl) ?_
  unfold f_X11_orders at hf
  show V E (d + 1) K_X11_orders (ZI E r0 h0) h [(0, .ref k0), (1, .int x1), (2, .int x2), (3, .int x3), (4, .int x4)] [] 0
  refine V_aload_n 0 dX11_orders_0 rfl rfl ?_
  refine V_iload_n 1 dX11_orders_1 rfl rfl ?_
  refine V_iload_n 2 dX11_orders_2 rfl rfl ?_
  obtain ⟨r_3, h_2, e_1, hf⟩ := ob_s hf
  refine V_cvi (As := [.int x1, .int x2]) (rest := []) (c_X11_isParty (d := d) (Nat.le_trans (Nat.le_of_ble_eq_true rfl) hd) e_1 t_k0) ML_X11_182 MV_X11_isParty rfl t_k0 rfl rfl (Nat.le_of_ble_eq_true rfl) dX11_orders_3 ?_
  refine V_if_eq (tgt := 27) dX11_orders_6 (by decide) (fun c_4 => ?_) (fun c_4 => ?_)
  · have hf := it_s c_4 hf
    refine V_sub [] rfl ?_
    exact v_X11_orders_27 hd hf
  · have hf := if_s c_4 hf
    refine V_aload_n 0 dX11_orders_9 rfl rfl ?_
    refine V_iload_n 2 dX11_orders_10 rfl rfl ?_
    refine V_iload_n 3 dX11_orders_11 rfl rfl ?_
    obtain ⟨r_7, h_6, e_5, hf⟩ := ob_s hf
    refine V_cvi (As := [.int x2, .int x3]) (rest := []) (c_X11_isGuest (d := d) (Nat.le_trans (Nat.le_of_ble_eq_true rfl) hd) e_5 t_k0) ML_X11_217 MV_X11_isGuest rfl t_k0 rfl rfl (Nat.le_of_ble_eq_true rfl) dX11_orders_12 ?_
    refine V_if_eq (tgt := 27) dX11_orders_15 (by decide) (fun c_8 => ?_) (fun c_8 => ?_)
    · have hf := it_s c_8 hf
      refine V_sub [] rfl ?_
      exact v_X11_orders_27 hd hf
    · have hf := if_s c_8 hf
      refine V_aload_n 0 dX11_orders_18 rfl rfl ?_
      refine V_iload 4 dX11_orders_19 rfl ?_
      obtain ⟨r_11, h_10, e_9, hf⟩ := ob_s hf
      refine V_cvi (As := [.int x4]) (rest := []) (c_X11_isKnownOrNone (d := d) (Nat.le_trans (Nat.le_of_ble_eq_true rfl) hd) e_9 t_k0) ML_X11_224 MV_X11_isKnownOrNone rfl t_k0 rfl rfl (Nat.le_of_ble_eq_true rfl) dX11_orders_21 ?_
      refine V_if_ne (tgt := 30) dX11_orders_24 (by decide) (fun c_12 => ?_) (fun c_12 => ?_)
      · have hf := if_s c_12 hf
        refine V_aload_n 0 dX11_orders_30 rfl rfl ?_
        refine V_getR F_X11_73 rfl t_k0 rfl dX11_orders_31 ?_
        refine V_aload_n 0 dX11_orders_34 rfl rfl ?_
        refine V_iload_n 1 dX11_orders_35 rfl rfl ?_
        refine V_iload_n 2 dX11_orders_36 rfl rfl ?_
        obtain ⟨r_15, h_14, e_13, hf⟩ := ob_s hf
        refine V_cvi (As := [.int x1, .int x2]) (rest := [.ref (rf k0 11)]) (c_X11_openDoor (d := d) (Nat.le_trans (Nat.le_of_ble_eq_true rfl) hd) e_13 t_k0) ML_X11_195 MV_X11_openDoor rfl t_k0 rfl rfl (Nat.le_of_ble_eq_true rfl) dX11_orders_37 ?_
        refine V_iload_n 2 dX11_orders_40 rfl rfl ?_
        refine V_iload_n 3 dX11_orders_41 rfl rfl ?_
        refine V_iload 4 dX11_orders_42 rfl ?_
        obtain ⟨r_18, h_17, e_16, hf⟩ := ob_s hf
        refine V_cvi (As := [.int r_15, .int x2, .int x3, .int x4]) (rest := []) (c_X5_countOrders (d := d) (Nat.le_trans (Nat.le_of_ble_eq_true rfl) hd) e_16 (rfO t_k0 (Nat.le_of_ble_eq_true rfl) rfl rfl)) ML_X11_227 MV_X5_countOrders rfl (rfO t_k0 (Nat.le_of_ble_eq_true rfl) rfl rfl) rfl rfl (Nat.le_of_ble_eq_true rfl) dX11_orders_44 ?_
        exact V_iret rfl (so_s hf) dX11_orders_47
      · have hf := it_s c_12 hf
        refine V_sub [] rfl ?_
        exact v_X11_orders_27 hd hf
theorem dX11_pair_0 : decode cX11_pair 0 = .ok (.aload_n 0, 1) := by decide +kernel
theorem dX11_pair_1 : decode cX11_pair 1 = .ok (.iload_n 1, 1) := by decide +kernel
theorem dX11_pair_2 : decode cX11_pair 2 = .ok (.invokevirtual 151, 3) := by decide +kernel
theorem dX11_pair_5 : decode cX11_pair 5 = .ok (.ifCond .ne 5, 3) := by decide +kernel
theorem dX11_pair_8 : decode cX11_pair 8 = .ok (.iconst (-1), 1) := by decide +kernel
theorem dX11_pair_9 : decode cX11_pair 9 = .ok (.ireturn, 1) := by decide +kernel
theorem dX11_pair_10 : decode cX11_pair 10 = .ok (.iload_n 2, 1) := by decide +kernel
theorem dX11_pair_11 : decode cX11_pair 11 = .ok (.tableswitch 55 0 2 #[25, 35, 45], 25) := by decide +kernel
theorem dX11_pair_36 : decode cX11_pair 36 = .ok (.aload_n 0, 1) := by decide +kernel
theorem dX11_pair_37 : decode cX11_pair 37 = .ok (.getfield 19, 3) := by decide +kernel
theorem dX11_pair_40 : decode cX11_pair 40 = .ok (.iload_n 1, 1) := by decide +kernel
theorem dX11_pair_41 : decode cX11_pair 41 = .ok (.iconst 3, 1) := by decide +kernel
theorem dX11_pair_42 : decode cX11_pair 42 = .ok (.invokevirtual 162, 3) := by decide +kernel
theorem dX11_pair_45 : decode cX11_pair 45 = .ok (.ireturn, 1) := by decide +kernel
theorem dX11_pair_46 : decode cX11_pair 46 = .ok (.aload_n 0, 1) := by decide +kernel
theorem dX11_pair_47 : decode cX11_pair 47 = .ok (.getfield 45, 3) := by decide +kernel
theorem dX11_pair_50 : decode cX11_pair 50 = .ok (.getfield 172, 3) := by decide +kernel
theorem dX11_pair_53 : decode cX11_pair 53 = .ok (.iload_n 1, 1) := by decide +kernel
theorem dX11_pair_54 : decode cX11_pair 54 = .ok (.iaload, 1) := by decide +kernel
theorem dX11_pair_55 : decode cX11_pair 55 = .ok (.ireturn, 1) := by decide +kernel
theorem dX11_pair_56 : decode cX11_pair 56 = .ok (.aload_n 0, 1) := by decide +kernel
theorem dX11_pair_57 : decode cX11_pair 57 = .ok (.getfield 45, 3) := by decide +kernel
theorem dX11_pair_60 : decode cX11_pair 60 = .ok (.getfield 175, 3) := by decide +kernel
theorem dX11_pair_63 : decode cX11_pair 63 = .ok (.iload_n 1, 1) := by decide +kernel
theorem dX11_pair_64 : decode cX11_pair 64 = .ok (.iaload, 1) := by decide +kernel
theorem dX11_pair_65 : decode cX11_pair 65 = .ok (.ireturn, 1) := by decide +kernel
theorem dX11_pair_66 : decode cX11_pair 66 = .ok (.iconst (-1), 1) := by decide +kernel
theorem dX11_pair_67 : decode cX11_pair 67 = .ok (.ireturn, 1) := by decide +kernel
theorem F_X11_175 : FLk RX11 175 9 1 := ⟨RX9, TX9, 3, rfl, rfl, iw_X9, by decide, Or.inr ⟨_, fn_X11_175⟩⟩
def f_X11_pair (k0 : Nat) (x1 : Int32) (x2 : Int32) (h : AH) : Option (Int32 × AH) :=
  ob (f_X11_isKnown k0 x1 h) fun r_3 h_2 =>
  if r_3 = 0 then (
    some ((-1), h_2)
  ) else (
    if x2 = 0 then (
      ob (f_X6_item (rf k0 1) x1 3 h_2) fun r_8 h_7 =>
      some (r_8, h_7)
    ) else (
      if x2 = 1 then (
        og (ix x1 (an (rf (rf k0 6) 2))) <|
        some ((h_2.1 (rf (rf k0 6) 2) x1.toNatClampNeg), h_2)
      ) else (
        if x2 = 2 then (
          og (ix x1 (an (rf (rf k0 6) 1))) <|
          some ((h_2.1 (rf (rf k0 6) 1) x1.toNatClampNeg), h_2)
        ) else (
          some ((-1), h_2)
    )))
  )
set_option maxHeartbeats 4000000 in
set_option maxRecDepth 100000 in
theorem c_X11_pair {E : EV} {d : Nat} (hd : 1 + 1 ≤ d) {k0 : Nat} {x1 : Int32} {x2 : Int32} {h : AH} {r0 : Int32} {h0 : AH} (hf : f_X11_pair k0 x1 x2 h = some (r0, h0)) (t_k0 : kd k0 = (0, 11)) : Con E d K_X11_pair (ZI E r0 h0) [.ref k0, .int x1, .int x2] h := by
  obtain ⟨d, rfl⟩ : ∃ d', d = d' + 1 := ⟨d - 1, by omega⟩
  have hd := Nat.le_of_succ_le_succ hd
  refine Con.ofV rfl (Nat.le_of_ble_eq_true rfl) ?_
  unfold f_X11_pair at hf
  show V E (d + 1) K_X11_pair (ZI E r0 h0) h [(0, .ref k0), (1, .int x1), (2, .int x2)] [] 0
  refine V_aload_n 0 dX11_pair_0 rfl rfl ?_
  refine V_iload_n 1 dX11_pair_1 rfl rfl ?_
  obtain ⟨r_3, h_2, e_1, hf⟩ := ob_s hf
  refine V_cvi (As := [.int x1]) (rest := []) (c_X11_isKnown (d := d) (Nat.le_trans (Nat.le_of_ble_eq_true rfl) hd) e_1 t_k0) ML_X11_151 MV_X11_isKnown rfl t_k0 rfl rfl (Nat.le_of_ble_eq_true rfl) dX11_pair_2 ?_
  refine V_if_ne (tgt := 10) dX11_pair_5 (by decide) (fun c_4 => ?_) (fun c_4 => ?_)
  · have hf := if_s c_4 hf
    refine V_iload_n 2 dX11_pair_10 rfl rfl ?_
    by_cases c_5 : x2 = 0
    · have hf := it_s c_5 hf
      refine V_tin (off := 25) (tgt := 36) dX11_pair_11 c_5 (by decide) (by decide) (by decide) (by decide) ?_
      refine V_aload_n 0 dX11_pair_36 rfl rfl ?_
      refine V_getR F_X11_19 rfl t_k0 rfl dX11_pair_37 ?_
      refine V_iload_n 1 dX11_pair_40 rfl rfl ?_
      refine V_iconst (v := 3) dX11_pair_41 (by decide) ?_
      obtain ⟨r_8, h_7, e_6, hf⟩ := ob_s hf
      refine V_cvi (As := [.int x1, .int 3]) (rest := []) (c_X6_item (d := d) (Nat.le_trans (Nat.le_of_ble_eq_true rfl) hd) e_6 (rfO t_k0 (Nat.le_of_ble_eq_true rfl) rfl rfl)) ML_X11_162 MV_X6_item rfl (rfO t_k0 (Nat.le_of_ble_eq_true rfl) rfl rfl) rfl rfl (Nat.le_of_ble_eq_true rfl) dX11_pair_42 ?_
      exact V_iret rfl (so_s hf) dX11_pair_45
    · have hf := if_s c_5 hf
      by_cases c_9 : x2 = 1
      · have hf := it_s c_9 hf
        refine V_tin (off := 35) (tgt := 46) dX11_pair_11 c_9 (by decide) (by decide) (by decide) (by decide) ?_
        refine V_aload_n 0 dX11_pair_46 rfl rfl ?_
        refine V_getR F_X11_45 rfl t_k0 rfl dX11_pair_47 ?_
        refine V_getR F_X11_172 rfl (rfO t_k0 (Nat.le_of_ble_eq_true rfl) rfl rfl) rfl dX11_pair_50 ?_
        refine V_iload_n 1 dX11_pair_53 rfl rfl ?_
        obtain ⟨b_10, hf⟩ := og_s hf
        refine V_iald (rfA (rfO t_k0 (Nat.le_of_ble_eq_true rfl) rfl rfl) (Nat.le_of_ble_eq_true rfl) rfl rfl (by decide)) b_10 dX11_pair_54 ?_
        exact V_iret rfl (so_s hf) dX11_pair_55
      · have hf := if_s c_9 hf
        by_cases c_11 : x2 = 2
        · have hf := it_s c_11 hf
          refine V_tin (off := 45) (tgt := 56) dX11_pair_11 c_11 (by decide) (by decide) (by decide) (by decide) ?_
          refine V_aload_n 0 dX11_pair_56 rfl rfl ?_
          refine V_getR F_X11_45 rfl t_k0 rfl dX11_pair_57 ?_
          refine V_getR F_X11_175 rfl (rfO t_k0 (Nat.le_of_ble_eq_true rfl) rfl rfl) rfl dX11_pair_60 ?_
          refine V_iload_n 1 dX11_pair_63 rfl rfl ?_
          obtain ⟨b_12, hf⟩ := og_s hf
          refine V_iald (rfA (rfO t_k0 (Nat.le_of_ble_eq_true rfl) rfl rfl) (Nat.le_of_ble_eq_true rfl) rfl rfl (by decide)) b_12 dX11_pair_64 ?_
          exact V_iret rfl (so_s hf) dX11_pair_65
        · have hf := if_s c_11 hf
          have z0 := ne_ti (i := 0) c_5 (by decide)
          have z1 := ne_ti (i := 1) c_9 (by decide)
          have z2 := ne_ti (i := 2) c_11 (by decide)
          refine V_tout (tgt := 66) dX11_pair_11 (by omega) (by decide) ?_
          refine V_iconst (v := (-1)) dX11_pair_66 (by decide) ?_
          exact V_iret rfl (so_s hf) dX11_pair_67
  · have hf := it_s c_4 hf
    refine V_iconst (v := (-1)) dX11_pair_8 (by decide) ?_
    exact V_iret rfl (so_s hf) dX11_pair_9
theorem dX11_quiet_0 : decode cX11_quiet 0 = .ok (.aload_n 0, 1) := by decide +kernel
theorem dX11_quiet_1 : decode cX11_quiet 1 = .ok (.iconst 0, 1) := by decide +kernel
theorem dX11_quiet_2 : decode cX11_quiet 2 = .ok (.iload_n 1, 1) := by decide +kernel
theorem dX11_quiet_3 : decode cX11_quiet 3 = .ok (.invokevirtual 182, 3) := by decide +kernel
theorem dX11_quiet_6 : decode cX11_quiet 6 = .ok (.ifCond .eq 8, 3) := by decide +kernel
theorem dX11_quiet_9 : decode cX11_quiet 9 = .ok (.iload_n 2, 1) := by decide +kernel
theorem dX11_quiet_10 : decode cX11_quiet 10 = .ok (.iconst (-1), 1) := by decide +kernel
theorem dX11_quiet_11 : decode cX11_quiet 11 = .ok (.if_icmp .ge 5, 3) := by decide +kernel
theorem dX11_quiet_14 : decode cX11_quiet 14 = .ok (.iconst (-1), 1) := by decide +kernel
theorem dX11_quiet_15 : decode cX11_quiet 15 = .ok (.ireturn, 1) := by decide +kernel
theorem dX11_quiet_16 : decode cX11_quiet 16 = .ok (.aload_n 0, 1) := by decide +kernel
theorem dX11_quiet_17 : decode cX11_quiet 17 = .ok (.getfield 64, 3) := by decide +kernel
theorem dX11_quiet_20 : decode cX11_quiet 20 = .ok (.aload_n 0, 1) := by decide +kernel
theorem dX11_quiet_21 : decode cX11_quiet 21 = .ok (.getfield 45, 3) := by decide +kernel
theorem dX11_quiet_24 : decode cX11_quiet 24 = .ok (.invokevirtual 211, 3) := by decide +kernel
theorem dX11_quiet_27 : decode cX11_quiet 27 = .ok (.aload_n 0, 1) := by decide +kernel
theorem dX11_quiet_28 : decode cX11_quiet 28 = .ok (.getfield 82, 3) := by decide +kernel
theorem dX11_quiet_31 : decode cX11_quiet 31 = .ok (.iload_n 1, 1) := by decide +kernel
theorem dX11_quiet_32 : decode cX11_quiet 32 = .ok (.iload_n 2, 1) := by decide +kernel
theorem dX11_quiet_33 : decode cX11_quiet 33 = .ok (.invokevirtual 261, 3) := by decide +kernel
theorem dX11_quiet_36 : decode cX11_quiet 36 = .ok (.ireturn, 1) := by decide +kernel
theorem F_X11_82 : FLk RX11 82 11 12 := ⟨RX11, TX11, 16, rfl, rfl, iw_X11, by decide, Or.inl fl_X11_82⟩
theorem ML_X11_261 : MLk RX11 261 yX0_findQuiet := Or.inl ml_X11_261
theorem MV_X0_findQuiet : MVk K_X0_findQuiet 2 0 := ⟨⟨cd_X0_findQuiet, in_X0, ⟨by decide, by decide, by decide +kernel⟩, by decide⟩, im_X0_findQuiet, se_X0_findQuiet, _, _, rfl⟩
def f_X11_quiet_14  (h : AH) : Option (Int32 × AH) :=
  some ((-1), h)
def f_X11_quiet (k0 : Nat) (x1 : Int32) (x2 : Int32) (h : AH) : Option (Int32 × AH) :=
  ob (f_X11_isParty k0 0 x1 h) fun r_3 h_2 =>
  if r_3 = 0 then (
    f_X11_quiet_14 h_2
  ) else (
    if (-1) ≤ x2 then (
      ov (f_X2_open (rf k0 10) (rf k0 6) h_2) fun h_7 =>
      ob (f_X0_findQuiet (rf k0 12) x1 x2 h_7) fun r_10 h_9 =>
      some (r_10, h_9)
    ) else (
      f_X11_quiet_14 h_2
    )
  )
set_option maxHeartbeats 4000000 in
set_option maxRecDepth 100000 in
theorem v_X11_quiet_14 {E : EV} {d : Nat} (hd : 7 ≤ d) {r0 : Int32} {h0 : AH}  {h : AH} (hf : f_X11_quiet_14 h = some (r0, h0)) : V E (d + 1) K_X11_quiet (ZI E r0 h0) h [] [] 14 := by
  unfold f_X11_quiet_14 at hf
  refine V_iconst (v := (-1)) dX11_quiet_14 (by decide) ?_
  exact V_iret rfl (so_s hf) dX11_quiet_15
set_option maxHeartbeats 4000000 in
set_option maxRecDepth 100000 in
theorem c_X11_quiet {E : EV} {d : Nat} (hd : 7 + 1 ≤ d) {k0 : Nat} {x1 : Int32} {x2 : Int32} {h : AH} {r0 : Int32} {h0 : AH} (hf : f_X11_quiet k0 x1 x2 h = some (r0, h0)) (t_k0 : kd k0 = (0, 11)) : Con E d K_X11_quiet (ZI E r0 h0) [.ref k0, .int x1, .int x2] h := by
  obtain ⟨d, rfl⟩ : ∃ d', d = d' + 1 := ⟨d - 1, by omega⟩
  have hd := Nat.le_of_succ_le_succ hd
  refine Con.ofV rfl (Nat.le_of_ble_eq_true rfl) ?_
  unfold f_X11_quiet at hf
  show V E (d + 1) K_X11_quiet (ZI E r0 h0) h [(0, .ref k0), (1, .int x1), (2, .int x2)] [] 0
  refine V_aload_n 0 dX11_quiet_0 rfl rfl ?_
  refine V_iconst (v := 0) dX11_quiet_1 (by decide) ?_
  refine V_iload_n 1 dX11_quiet_2 rfl rfl ?_
  obtain ⟨r_3, h_2, e_1, hf⟩ := ob_s hf
  refine V_cvi (As := [.int 0, .int x1]) (rest := []) (c_X11_isParty (d := d) (Nat.le_trans (Nat.le_of_ble_eq_true rfl) hd) e_1 t_k0) ML_X11_182 MV_X11_isParty rfl t_k0 rfl rfl (Nat.le_of_ble_eq_true rfl) dX11_quiet_3 ?_
  refine V_if_eq (tgt := 14) dX11_quiet_6 (by decide) (fun c_4 => ?_) (fun c_4 => ?_)
  · have hf := it_s c_4 hf
    refine V_sub [] rfl ?_
    exact v_X11_quiet_14 hd hf
  · have hf := if_s c_4 hf
    refine V_iload_n 2 dX11_quiet_9 rfl rfl ?_
    refine V_iconst (v := (-1)) dX11_quiet_10 (by decide) ?_
    refine V_ic_ge (tgt := 16) dX11_quiet_11 (by decide) (fun c_5 => ?_) (fun c_5 => ?_)
    · have hf := it_s c_5 hf
      refine V_aload_n 0 dX11_quiet_16 rfl rfl ?_
      refine V_getR F_X11_64 rfl t_k0 rfl dX11_quiet_17 ?_
      refine V_aload_n 0 dX11_quiet_20 rfl rfl ?_
      refine V_getR F_X11_45 rfl t_k0 rfl dX11_quiet_21 ?_
      obtain ⟨h_7, e_6, hf⟩ := ov_s hf
      refine V_cvv (As := [.ref (rf k0 6)]) (rest := []) (c_X2_open (d := d) (Nat.le_trans (Nat.le_of_ble_eq_true rfl) hd) e_6 (rfO t_k0 (Nat.le_of_ble_eq_true rfl) rfl rfl) (rfO t_k0 (Nat.le_of_ble_eq_true rfl) rfl rfl)) ML_X11_211 MV_X2_open rfl (rfO t_k0 (Nat.le_of_ble_eq_true rfl) rfl rfl) rfl rfl (Nat.le_of_ble_eq_true rfl) dX11_quiet_24 ?_
      refine V_aload_n 0 dX11_quiet_27 rfl rfl ?_
      refine V_getR F_X11_82 rfl t_k0 rfl dX11_quiet_28 ?_
      refine V_iload_n 1 dX11_quiet_31 rfl rfl ?_
      refine V_iload_n 2 dX11_quiet_32 rfl rfl ?_
      obtain ⟨r_10, h_9, e_8, hf⟩ := ob_s hf
      refine V_cvi (As := [.int x1, .int x2]) (rest := []) (c_X0_findQuiet (d := d) (Nat.le_trans (Nat.le_of_ble_eq_true rfl) hd) e_8 (rfO t_k0 (Nat.le_of_ble_eq_true rfl) rfl rfl)) ML_X11_261 MV_X0_findQuiet rfl (rfO t_k0 (Nat.le_of_ble_eq_true rfl) rfl rfl) rfl rfl (Nat.le_of_ble_eq_true rfl) dX11_quiet_33 ?_
      exact V_iret rfl (so_s hf) dX11_quiet_36
    · have hf := if_s c_5 hf
      refine V_sub [] rfl ?_
      exact v_X11_quiet_14 hd hf
theorem dX11_rests_0 : decode cX11_rests 0 = .ok (.aload_n 0, 1) := by decide +kernel
theorem dX11_rests_1 : decode cX11_rests 1 = .ok (.iload_n 1, 1) := by decide +kernel
theorem dX11_rests_2 : decode cX11_rests 2 = .ok (.iload_n 2, 1) := by decide +kernel
theorem dX11_rests_3 : decode cX11_rests 3 = .ok (.invokevirtual 182, 3) := by decide +kernel
theorem dX11_rests_6 : decode cX11_rests 6 = .ok (.ifCond .eq 27, 3) := by decide +kernel
theorem dX11_rests_9 : decode cX11_rests 9 = .ok (.iload_n 2, 1) := by decide +kernel
theorem dX11_rests_10 : decode cX11_rests 10 = .ok (.invokestatic 250, 3) := by decide +kernel
theorem dX11_rests_13 : decode cX11_rests 13 = .ok (.iconst 4, 1) := by decide +kernel
theorem dX11_rests_14 : decode cX11_rests 14 = .ok (.if_icmp .gt 19, 3) := by decide +kernel
theorem dX11_rests_17 : decode cX11_rests 17 = .ok (.iload_n 3, 1) := by decide +kernel
theorem dX11_rests_18 : decode cX11_rests 18 = .ok (.iconst 1, 1) := by decide +kernel
theorem dX11_rests_19 : decode cX11_rests 19 = .ok (.if_icmp .lt 14, 3) := by decide +kernel
theorem dX11_rests_22 : decode cX11_rests 22 = .ok (.iload_n 3, 1) := by decide +kernel
theorem dX11_rests_23 : decode cX11_rests 23 = .ok (.iconst 3, 1) := by decide +kernel
theorem dX11_rests_24 : decode cX11_rests 24 = .ok (.if_icmp .gt 9, 3) := by decide +kernel
theorem dX11_rests_27 : decode cX11_rests 27 = .ok (.iload 4, 2) := by decide +kernel
theorem dX11_rests_29 : decode cX11_rests 29 = .ok (.iconst (-1), 1) := by decide +kernel
theorem dX11_rests_30 : decode cX11_rests 30 = .ok (.if_icmp .ge 5, 3) := by decide +kernel
theorem dX11_rests_33 : decode cX11_rests 33 = .ok (.iconst (-1), 1) := by decide +kernel
theorem dX11_rests_34 : decode cX11_rests 34 = .ok (.ireturn, 1) := by decide +kernel
theorem dX11_rests_35 : decode cX11_rests 35 = .ok (.aload_n 0, 1) := by decide +kernel
theorem dX11_rests_36 : decode cX11_rests 36 = .ok (.getfield 82, 3) := by decide +kernel
theorem dX11_rests_39 : decode cX11_rests 39 = .ok (.iload_n 2, 1) := by decide +kernel
theorem dX11_rests_40 : decode cX11_rests 40 = .ok (.invokevirtual 255, 3) := by decide +kernel
theorem dX11_rests_43 : decode cX11_rests 43 = .ok (.aload_n 0, 1) := by decide +kernel
theorem dX11_rests_44 : decode cX11_rests 44 = .ok (.getfield 82, 3) := by decide +kernel
theorem dX11_rests_47 : decode cX11_rests 47 = .ok (.aload_n 0, 1) := by decide +kernel
theorem dX11_rests_48 : decode cX11_rests 48 = .ok (.iload_n 1, 1) := by decide +kernel
theorem dX11_rests_49 : decode cX11_rests 49 = .ok (.iload_n 2, 1) := by decide +kernel
theorem dX11_rests_50 : decode cX11_rests 50 = .ok (.invokevirtual 195, 3) := by decide +kernel
theorem dX11_rests_53 : decode cX11_rests 53 = .ok (.iload_n 3, 1) := by decide +kernel
theorem dX11_rests_54 : decode cX11_rests 54 = .ok (.iload 4, 2) := by decide +kernel
theorem dX11_rests_56 : decode cX11_rests 56 = .ok (.invokevirtual 258, 3) := by decide +kernel
theorem dX11_rests_59 : decode cX11_rests 59 = .ok (.ireturn, 1) := by decide +kernel
theorem ML_X11_250 : MLk RX11 250 yJ6_bitCount_0f7a4 := Or.inl ml_X11_250
theorem ML_X11_255 : MLk RX11 255 yX0_seat := Or.inl ml_X11_255
theorem MV_X0_seat : MVk K_X0_seat 1 0 := ⟨⟨cd_X0_seat, in_X0, ⟨by decide, by decide, by decide +kernel⟩, by decide⟩, im_X0_seat, se_X0_seat, _, _, rfl⟩
theorem ML_X11_258 : MLk RX11 258 yX0_findRest := Or.inl ml_X11_258
theorem MV_X0_findRest : MVk K_X0_findRest 3 0 := ⟨⟨cd_X0_findRest, in_X0, ⟨by decide, by decide, by decide +kernel⟩, by decide⟩, im_X0_findRest, se_X0_findRest, _, _, rfl⟩
def f_X11_rests_33  (h : AH) : Option (Int32 × AH) :=
  some ((-1), h)
def f_X11_rests (k0 : Nat) (x1 : Int32) (x2 : Int32) (x3 : Int32) (x4 : Int32) (h : AH) : Option (Int32 × AH) :=
  ob (f_X11_isParty k0 x1 x2 h) fun r_3 h_2 =>
  if r_3 = 0 then (
    f_X11_rests_33 h_2
  ) else (
    ob (f_J6_bitCount_0f7a4 x2 h_2) fun r_7 h_6 =>
    if 4 < r_7 then (
      f_X11_rests_33 h_6
    ) else (
      if x3 < 1 then (
        f_X11_rests_33 h_6
      ) else (
        if 3 < x3 then (
          f_X11_rests_33 h_6
        ) else (
          if (-1) ≤ x4 then (
            ov (f_X0_seat (rf k0 12) x2 h_6) fun h_13 =>
            ob (f_X11_openDoor k0 x1 x2 h_13) fun r_16 h_15 =>
            ob (f_X0_findRest (rf k0 12) r_16 x3 x4 h_15) fun r_19 h_18 =>
            some (r_19, h_18)
          ) else (
            f_X11_rests_33 h_6
          )
        )
      )
    )
  )
set_option maxHeartbeats 4000000 in
set_option maxRecDepth 100000 in
theorem v_X11_rests_33 {E : EV} {d : Nat} (hd : 7 ≤ d) {r0 : Int32} {h0 : AH}  {h : AH} (hf : f_X11_rests_33 h = some (r0, h0)) : V E (d + 1) K_X11_rests (ZI E r0 h0) h [] [] 33 := by
  unfold f_X11_rests_33 at hf
  refine V_iconst (v := (-1)) dX11_rests_33 (by decide) ?_
  exact V_iret rfl (so_s hf) dX11_rests_34
set_option maxHeartbeats 4000000 in
set_option maxRecDepth 100000 in
theorem c_X11_rests {E : EV} {d : Nat} (hd : 7 + 1 ≤ d) {k0 : Nat} {x1 : Int32} {x2 : Int32} {x3 : Int32} {x4 : Int32} {h : AH} {r0 : Int32} {h0 : AH} (hf : f_X11_rests k0 x1 x2 x3 x4 h = some (r0, h0)) (t_k0 : kd k0 = (0, 11)) : Con E d K_X11_rests (ZI E r0 h0) [.ref k0, .int x1, .int x2, .int x3, .int x4] h := by
  obtain ⟨d, rfl⟩ : ∃ d', d = d' + 1 := ⟨d - 1, by omega⟩
  have hd := Nat.le_of_succ_le_succ hd
  refine Con.ofV rfl (Nat.le_of_ble_eq_true rfl) ?_
  unfold f_X11_rests at hf
  show V E (d + 1) K_X11_rests (ZI E r0 h0) h [(0, .ref k0), (1, .int x1), (2, .int x2), (3, .int x3), (4, .int x4)] [] 0
  refine V_aload_n 0 dX11_rests_0 rfl rfl ?_
  refine V_iload_n 1 dX11_rests_1 rfl rfl ?_
  refine V_iload_n 2 dX11_rests_2 rfl rfl ?_
  obtain ⟨r_3, h_2, e_1, hf⟩ := ob_s hf
  refine V_cvi (As := [.int x1, .int x2]) (rest := []) (c_X11_isParty (d := d) (Nat.le_trans (Nat.le_of_ble_eq_true rfl) hd) e_1 t_k0) ML_X11_182 MV_X11_isParty rfl t_k0 rfl rfl (Nat.le_of_ble_eq_true rfl) dX11_rests_3 ?_
  refine V_if_eq (tgt := 33) dX11_rests_6 (by decide) (fun c_4 => ?_) (fun c_4 => ?_)
  · have hf := it_s c_4 hf
    refine V_sub [] rfl ?_
    exact v_X11_rests_33 hd hf
  · have hf := if_s c_4 hf
    refine V_iload_n 2 dX11_rests_9 rfl rfl ?_
    obtain ⟨r_7, h_6, e_5, hf⟩ := ob_s hf
    refine V_csi (As := [.int x2]) (rest := []) (c_J6_bitCount_0f7a4 (d := d) (Nat.le_trans (Nat.le_of_ble_eq_true rfl) hd) e_5) ML_X11_250 MS_J6_bitCount_0f7a4 rfl rfl rfl (Nat.le_of_ble_eq_true rfl) dX11_rests_10 ?_
    refine V_iconst (v := 4) dX11_rests_13 (by decide) ?_
    refine V_ic_gt (tgt := 33) dX11_rests_14 (by decide) (fun c_8 => ?_) (fun c_8 => ?_)
    · have hf := it_s c_8 hf
      refine V_sub [] rfl ?_
      exact v_X11_rests_33 hd hf
    · have hf := if_s c_8 hf
      refine V_iload_n 3 dX11_rests_17 rfl rfl ?_
      refine V_iconst (v := 1) dX11_rests_18 (by decide) ?_
      refine V_ic_lt (tgt := 33) dX11_rests_19 (by decide) (fun c_9 => ?_) (fun c_9 => ?_)
      · have hf := it_s c_9 hf
        refine V_sub [] rfl ?_
        exact v_X11_rests_33 hd hf
      · have hf := if_s c_9 hf
        refine V_iload_n 3 dX11_rests_22 rfl rfl ?_
        refine V_iconst (v := 3) dX11_rests_23 (by decide) ?_
        refine V_ic_gt (tgt := 33) dX11_rests_24 (by decide) (fun c_10 => ?_) (fun c_10 => ?_)
        · have hf := it_s c_10 hf
          refine V_sub [] rfl ?_
          exact v_X11_rests_33 hd hf
        · have hf := if_s c_10 hf
          refine V_iload 4 dX11_rests_27 rfl ?_
          refine V_iconst (v := (-1)) dX11_rests_29 (by decide) ?_
          refine V_ic_ge (tgt := 35) dX11_rests_30 (by decide) (fun c_11 => ?_) (fun c_11 => ?_)
          · have hf := it_s c_11 hf
            refine V_aload_n 0 dX11_rests_35 rfl rfl ?_
            refine V_getR F_X11_82 rfl t_k0 rfl dX11_rests_36 ?_
            refine V_iload_n 2 dX11_rests_39 rfl rfl ?_
            obtain ⟨h_13, e_12, hf⟩ := ov_s hf
            refine V_cvv (As := [.int x2]) (rest := []) (c_X0_seat (d := d) (Nat.le_trans (Nat.le_of_ble_eq_true rfl) hd) e_12 (rfO t_k0 (Nat.le_of_ble_eq_true rfl) rfl rfl)) ML_X11_255 MV_X0_seat rfl (rfO t_k0 (Nat.le_of_ble_eq_true rfl) rfl rfl) rfl rfl (Nat.le_of_ble_eq_true rfl) dX11_rests_40 ?_
            refine V_aload_n 0 dX11_rests_43 rfl rfl ?_
            refine V_getR F_X11_82 rfl t_k0 rfl dX11_rests_44 ?_
            refine V_aload_n 0 dX11_rests_47 rfl rfl ?_
            refine V_iload_n 1 dX11_rests_48 rfl rfl ?_
            refine V_iload_n 2 dX11_rests_49 rfl rfl ?_
            obtain ⟨r_16, h_15, e_14, hf⟩ := ob_s hf
            refine V_cvi (As := [.int x1, .int x2]) (rest := [.ref (rf k0 12)]) (c_X11_openDoor (d := d) (Nat.le_trans (Nat.le_of_ble_eq_true rfl) hd) e_14 t_k0) ML_X11_195 MV_X11_openDoor rfl t_k0 rfl rfl (Nat.le_of_ble_eq_true rfl) dX11_rests_50 ?_
            refine V_iload_n 3 dX11_rests_53 rfl rfl ?_
            refine V_iload 4 dX11_rests_54 rfl ?_
            obtain ⟨r_19, h_18, e_17, hf⟩ := ob_s hf
            refine V_cvi (As := [.int r_16, .int x3, .int x4]) (rest := []) (c_X0_findRest (d := d) (Nat.le_trans (Nat.le_of_ble_eq_true rfl) hd) e_17 (rfO t_k0 (Nat.le_of_ble_eq_true rfl) rfl rfl)) ML_X11_258 MV_X0_findRest rfl (rfO t_k0 (Nat.le_of_ble_eq_true rfl) rfl rfl) rfl rfl (Nat.le_of_ble_eq_true rfl) dX11_rests_56 ?_
            exact V_iret rfl (so_s hf) dX11_rests_59
          · have hf := if_s c_11 hf
            refine V_sub [] rfl ?_
            exact v_X11_rests_33 hd hf
theorem dX11_rule_0 : decode cX11_rule 0 = .ok (.aload_n 0, 1) := by decide +kernel
theorem dX11_rule_1 : decode cX11_rule 1 = .ok (.iload_n 1, 1) := by decide +kernel
theorem dX11_rule_2 : decode cX11_rule 2 = .ok (.invokevirtual 151, 3) := by decide +kernel
theorem dX11_rule_5 : decode cX11_rule 5 = .ok (.ifCond .eq 16, 3) := by decide +kernel
theorem dX11_rule_8 : decode cX11_rule 8 = .ok (.iload_n 2, 1) := by decide +kernel
theorem dX11_rule_9 : decode cX11_rule 9 = .ok (.iconst (-1), 1) := by decide +kernel
theorem dX11_rule_10 : decode cX11_rule 10 = .ok (.if_icmp .lt 11, 3) := by decide +kernel
theorem dX11_rule_13 : decode cX11_rule 13 = .ok (.iload_n 2, 1) := by decide +kernel
theorem dX11_rule_14 : decode cX11_rule 14 = .ok (.aload_n 0, 1) := by decide +kernel
theorem dX11_rule_15 : decode cX11_rule 15 = .ok (.getfield 124, 3) := by decide +kernel
theorem dX11_rule_18 : decode cX11_rule 18 = .ok (.if_icmp .lt 5, 3) := by decide +kernel
theorem dX11_rule_21 : decode cX11_rule 21 = .ok (.iconst 0, 1) := by decide +kernel
theorem dX11_rule_22 : decode cX11_rule 22 = .ok (.ireturn, 1) := by decide +kernel
theorem dX11_rule_23 : decode cX11_rule 23 = .ok (.aload_n 0, 1) := by decide +kernel
theorem dX11_rule_24 : decode cX11_rule 24 = .ok (.getfield 19, 3) := by decide +kernel
theorem dX11_rule_27 : decode cX11_rule 27 = .ok (.getfield 169, 3) := by decide +kernel
theorem dX11_rule_30 : decode cX11_rule 30 = .ok (.iload_n 1, 1) := by decide +kernel
theorem dX11_rule_31 : decode cX11_rule 31 = .ok (.iload_n 2, 1) := by decide +kernel
theorem dX11_rule_32 : decode cX11_rule 32 = .ok (.iastore, 1) := by decide +kernel
theorem dX11_rule_33 : decode cX11_rule 33 = .ok (.iconst 1, 1) := by decide +kernel
theorem dX11_rule_34 : decode cX11_rule 34 = .ok (.ireturn, 1) := by decide +kernel
theorem F_X11_169 : FLk RX11 169 6 1 := ⟨RX6, TX6, 3, rfl, rfl, iw_X6, by decide, Or.inr ⟨_, fn_X11_169⟩⟩
def f_X11_rule_21  (h : AH) : Option (Int32 × AH) :=
  some (0, h)
def f_X11_rule (k0 : Nat) (x1 : Int32) (x2 : Int32) (h : AH) : Option (Int32 × AH) :=
  ob (f_X11_isKnown k0 x1 h) fun r_3 h_2 =>
  if r_3 = 0 then (
    f_X11_rule_21 h_2
  ) else (
    if x2 < (-1) then (
      f_X11_rule_21 h_2
    ) else (
      if x2 < (h_2.1 k0 5) then (
        og (ix x1 (an (rf (rf k0 1) 1))) <|
        nm (sI h_2 (rf (rf k0 1) 1) x1.toNatClampNeg x2) fun h_8 =>
        some (1, h_8)
      ) else (
        f_X11_rule_21 h_2
      )
    )
  )
set_option maxHeartbeats 4000000 in
set_option maxRecDepth 100000 in
theorem v_X11_rule_21 {E : EV} {d : Nat} (hd : 1 ≤ d) {r0 : Int32} {h0 : AH}  {h : AH} (hf : f_X11_rule_21 h = some (r0, h0)) : V E (d + 1) K_X11_rule (ZI E r0 h0) h [] [] 21 := by
  unfold f_X11_rule_21 at hf
  refine V_iconst (v := 0) dX11_rule_21 (by decide) ?_
  exact V_zret rfl (by decide) (so_s hf) dX11_rule_22
set_option maxHeartbeats 4000000 in
set_option maxRecDepth 100000 in
theorem c_X11_rule {E : EV} {d : Nat} (hd : 1 + 1 ≤ d) {k0 : Nat} {x1 : Int32} {x2 : Int32} {h : AH} {r0 : Int32} {h0 : AH} (hf : f_X11_rule k0 x1 x2 h = some (r0, h0)) (t_k0 : kd k0 = (0, 11)) : Con E d K_X11_rule (ZI E r0 h0) [.ref k0, .int x1, .int x2] h := by
  obtain ⟨d, rfl⟩ : ∃ d', d = d' + 1 := ⟨d - 1, by omega⟩
  have hd := Nat.le_of_succ_le_succ hd
  refine Con.ofV rfl (Nat.le_of_ble_eq_true rfl) ?_
  unfold f_X11_rule at hf
  show V E (d + 1) K_X11_rule (ZI E r0 h0) h [(0, .ref k0), (1, .int x1), (2, .int x2)] [] 0
  refine V_aload_n 0 dX11_rule_0 rfl rfl ?_
  refine V_iload_n 1 dX11_rule_1 rfl rfl ?_
  obtain ⟨r_3, h_2, e_1, hf⟩ := ob_s hf
  refine V_cvi (As := [.int x1]) (rest := []) (c_X11_isKnown (d := d) (Nat.le_trans (Nat.le_of_ble_eq_true rfl) hd) e_1 t_k0) ML_X11_151 MV_X11_isKnown rfl t_k0 rfl rfl (Nat.le_of_ble_eq_true rfl) dX11_rule_2 ?_
  refine V_if_eq (tgt := 21) dX11_rule_5 (by decide) (fun c_4 => ?_) (fun c_4 => ?_)
  · have hf := it_s c_4 hf
    refine V_sub [] rfl ?_
    exact v_X11_rule_21 hd hf
  · have hf := if_s c_4 hf
    refine V_iload_n 2 dX11_rule_8 rfl rfl ?_
    refine V_iconst (v := (-1)) dX11_rule_9 (by decide) ?_
    refine V_ic_lt (tgt := 21) dX11_rule_10 (by decide) (fun c_5 => ?_) (fun c_5 => ?_)
    · have hf := it_s c_5 hf
      refine V_sub [] rfl ?_
      exact v_X11_rule_21 hd hf
    · have hf := if_s c_5 hf
      refine V_iload_n 2 dX11_rule_13 rfl rfl ?_
      refine V_aload_n 0 dX11_rule_14 rfl rfl ?_
      refine V_getI F_X11_124 rfl t_k0 rfl dX11_rule_15 ?_
      refine V_ic_lt (tgt := 23) dX11_rule_18 (by decide) (fun c_6 => ?_) (fun c_6 => ?_)
      · have hf := it_s c_6 hf
        refine V_aload_n 0 dX11_rule_23 rfl rfl ?_
        refine V_getR F_X11_19 rfl t_k0 rfl dX11_rule_24 ?_
        refine V_getR F_X11_169 rfl (rfO t_k0 (Nat.le_of_ble_eq_true rfl) rfl rfl) rfl dX11_rule_27 ?_
        refine V_iload_n 1 dX11_rule_30 rfl rfl ?_
        refine V_iload_n 2 dX11_rule_31 rfl rfl ?_
        obtain ⟨b_7, hf⟩ := og_s hf
        obtain ⟨h_8, e_9, hf⟩ := nm_s hf
        refine V_iast (rfA (rfO t_k0 (Nat.le_of_ble_eq_true rfl) rfl rfl) (Nat.le_of_ble_eq_true rfl) rfl rfl (by decide)) b_7 e_9 dX11_rule_32 ?_
        refine V_iconst (v := 1) dX11_rule_33 (by decide) ?_
        exact V_zret rfl (by decide) (so_s hf) dX11_rule_34
      · have hf := if_s c_6 hf
        refine V_sub [] rfl ?_
        exact v_X11_rule_21 hd hf
theorem dX11_sight_0 : decode cX11_sight 0 = .ok (.iload_n 2, 1) := by decide +kernel
theorem dX11_sight_1 : decode cX11_sight 1 = .ok (.bipush 10, 2) := by decide +kernel
theorem dX11_sight_3 : decode cX11_sight 3 = .ok (.if_icmp .lt 13, 3) := by decide +kernel
theorem dX11_sight_6 : decode cX11_sight 6 = .ok (.iload_n 2, 1) := by decide +kernel
theorem dX11_sight_7 : decode cX11_sight 7 = .ok (.bipush 14, 2) := by decide +kernel
theorem dX11_sight_9 : decode cX11_sight 9 = .ok (.if_icmp .ge 7, 3) := by decide +kernel
theorem dX11_sight_12 : decode cX11_sight 12 = .ok (.iconst 1, 1) := by decide +kernel
theorem dX11_sight_13 : decode cX11_sight 13 = .ok (.goto 4, 3) := by decide +kernel
theorem dX11_sight_16 : decode cX11_sight 16 = .ok (.iconst 0, 1) := by decide +kernel
theorem dX11_sight_17 : decode cX11_sight 17 = .ok (.istore 4, 2) := by decide +kernel
theorem dX11_sight_19 : decode cX11_sight 19 = .ok (.iload_n 1, 1) := by decide +kernel
theorem dX11_sight_20 : decode cX11_sight 20 = .ok (.ifCond .lt 51, 3) := by decide +kernel
theorem dX11_sight_23 : decode cX11_sight 23 = .ok (.iload_n 1, 1) := by decide +kernel
theorem dX11_sight_24 : decode cX11_sight 24 = .ok (.aload_n 0, 1) := by decide +kernel
theorem dX11_sight_25 : decode cX11_sight 25 = .ok (.getfield 55, 3) := by decide +kernel
theorem dX11_sight_28 : decode cX11_sight 28 = .ok (.getfield 192, 3) := by decide +kernel
theorem dX11_sight_31 : decode cX11_sight 31 = .ok (.if_icmp .ge 40, 3) := by decide +kernel
theorem dX11_sight_34 : decode cX11_sight 34 = .ok (.aload_n 0, 1) := by decide +kernel
theorem dX11_sight_35 : decode cX11_sight 35 = .ok (.iload_n 2, 1) := by decide +kernel
theorem dX11_sight_36 : decode cX11_sight 36 = .ok (.invokevirtual 151, 3) := by decide +kernel
theorem dX11_sight_39 : decode cX11_sight 39 = .ok (.ifCond .ne 8, 3) := by decide +kernel
theorem dX11_sight_42 : decode cX11_sight 42 = .ok (.iload 4, 2) := by decide +kernel
theorem dX11_sight_44 : decode cX11_sight 44 = .ok (.ifCond .eq 27, 3) := by decide +kernel
theorem dX11_sight_47 : decode cX11_sight 47 = .ok (.iload_n 3, 1) := by decide +kernel
theorem dX11_sight_48 : decode cX11_sight 48 = .ok (.bipush 20, 2) := by decide +kernel
theorem dX11_sight_50 : decode cX11_sight 50 = .ok (.if_icmp .lt 21, 3) := by decide +kernel
theorem dX11_sight_53 : decode cX11_sight 53 = .ok (.iload_n 3, 1) := by decide +kernel
theorem dX11_sight_54 : decode cX11_sight 54 = .ok (.bipush 50, 2) := by decide +kernel
theorem dX11_sight_56 : decode cX11_sight 56 = .ok (.if_icmp .gt 15, 3) := by decide +kernel
theorem dX11_sight_59 : decode cX11_sight 59 = .ok (.aload_n 0, 1) := by decide +kernel
theorem dX11_sight_60 : decode cX11_sight 60 = .ok (.getfield 55, 3) := by decide +kernel
theorem dX11_sight_63 : decode cX11_sight 63 = .ok (.getfield 317, 3) := by decide +kernel
theorem dX11_sight_66 : decode cX11_sight 66 = .ok (.bipush 20, 2) := by decide +kernel
theorem dX11_sight_68 : decode cX11_sight 68 = .ok (.if_icmp .ne 5, 3) := by decide +kernel
theorem dX11_sight_71 : decode cX11_sight 71 = .ok (.iconst (-1), 1) := by decide +kernel
theorem dX11_sight_72 : decode cX11_sight 72 = .ok (.ireturn, 1) := by decide +kernel
theorem dX11_sight_73 : decode cX11_sight 73 = .ok (.aload_n 0, 1) := by decide +kernel
theorem dX11_sight_74 : decode cX11_sight 74 = .ok (.getfield 55, 3) := by decide +kernel
theorem dX11_sight_77 : decode cX11_sight 77 = .ok (.iload_n 1, 1) := by decide +kernel
theorem dX11_sight_78 : decode cX11_sight 78 = .ok (.iload_n 2, 1) := by decide +kernel
theorem dX11_sight_79 : decode cX11_sight 79 = .ok (.iload_n 3, 1) := by decide +kernel
theorem dX11_sight_80 : decode cX11_sight 80 = .ok (.invokevirtual 320, 3) := by decide +kernel
theorem dX11_sight_83 : decode cX11_sight 83 = .ok (.aload_n 0, 1) := by decide +kernel
theorem dX11_sight_84 : decode cX11_sight 84 = .ok (.getfield 55, 3) := by decide +kernel
theorem dX11_sight_87 : decode cX11_sight 87 = .ok (.getfield 317, 3) := by decide +kernel
theorem dX11_sight_90 : decode cX11_sight 90 = .ok (.ireturn, 1) := by decide +kernel
theorem ML_X11_320 : MLk RX11 320 yX1_addSight := Or.inl ml_X11_320
theorem MV_X1_addSight : MVk K_X1_addSight 3 1 := ⟨⟨cd_X1_addSight, in_X1, ⟨by decide, by decide, by decide +kernel⟩, by decide⟩, im_X1_addSight, se_X1_addSight, _, _, rfl⟩
def f_X11_sight_71  (h : AH) : Option (Int32 × AH) :=
  some ((-1), h)
def f_X11_sight_47 (k0 : Nat) (x1 : Int32) (x2 : Int32) (x3 : Int32) (h : AH) : Option (Int32 × AH) :=
  if x3 < 20 then (
    f_X11_sight_71 h
  ) else (
    if 50 < x3 then (
      f_X11_sight_71 h
    ) else (
      if (h.1 (rf k0 9) 3) = 20 then (
        f_X11_sight_71 h
      ) else (
        ov (f_X1_addSight (rf k0 9) x1 x2 x3 h) fun h_5 =>
        some ((h_5.1 (rf k0 9) 3), h_5)
      )
    )
  )
def f_X11_sight_17 (k0 : Nat) (x1 : Int32) (x2 : Int32) (x3 : Int32) (s0 : Int32) (h : AH) : Option (Int32 × AH) :=
  if x1 < 0 then (
    f_X11_sight_71 h
  ) else (
    if (h.1 (rf k0 9) 2) ≤ x1 then (
      f_X11_sight_71 h
    ) else (
      ob (f_X11_isKnown k0 x2 h) fun r_5 h_4 =>
      if r_5 = 0 then (
        if s0 = 0 then (
          f_X11_sight_71 h_4
        ) else (
          f_X11_sight_47 k0 x1 x2 x3 h_4
        )
      ) else (
        f_X11_sight_47 k0 x1 x2 x3 h_4
      )
    )
  )
def f_X11_sight_16 (k0 : Nat) (x1 : Int32) (x2 : Int32) (x3 : Int32) (h : AH) : Option (Int32 × AH) :=
  f_X11_sight_17 k0 x1 x2 x3 0 h
def f_X11_sight (k0 : Nat) (x1 : Int32) (x2 : Int32) (x3 : Int32) (h : AH) : Option (Int32 × AH) :=
  if x2 < 10 then (
    f_X11_sight_16 k0 x1 x2 x3 h
  ) else (
    if 14 ≤ x2 then (
      f_X11_sight_16 k0 x1 x2 x3 h
    ) else (
      f_X11_sight_17 k0 x1 x2 x3 1 h
    )
  )
set_option maxHeartbeats 4000000 in
set_option maxRecDepth 100000 in
theorem v_X11_sight_71 {E : EV} {d : Nat} (hd : 1 ≤ d) {r0 : Int32} {h0 : AH}  {h : AH} (hf : f_X11_sight_71 h = some (r0, h0)) : V E (d + 1) K_X11_sight (ZI E r0 h0) h [] [] 71 := by
  unfold f_X11_sight_71 at hf
  refine V_iconst (v := (-1)) dX11_sight_71 (by decide) ?_
  exact V_iret rfl (so_s hf) dX11_sight_72
set_option maxHeartbeats 4000000 in
set_option maxRecDepth 100000 in
theorem v_X11_sight_47 {E : EV} {d : Nat} (hd : 1 ≤ d) {r0 : Int32} {h0 : AH} {k0 : Nat} {x1 : Int32} {x2 : Int32} {x3 : Int32} {h : AH} (hf : f_X11_sight_47 k0 x1 x2 x3 h = some (r0, h0)) (t_k0 : kd k0 = (0, 11)) : V E (d + 1) K_X11_sight (ZI E r0 h0) h [(0, .ref k0), (1, .int x1), (2, .int x2), (3, .int x3)] [] 47 := by
  unfold f_X11_sight_47 at hf
  refine V_iload_n 3 dX11_sight_47 rfl rfl ?_
  refine V_bipush (v := 20) dX11_sight_48 (by decide) ?_
  refine V_ic_lt (tgt := 71) dX11_sight_50 (by decide) (fun c_1 => ?_) (fun c_1 => ?_)
  · have hf := it_s c_1 hf
    refine V_sub [] rfl ?_
    exact v_X11_sight_71 hd hf
  · have hf := if_s c_1 hf
    refine V_iload_n 3 dX11_sight_53 rfl rfl ?_
    refine V_bipush (v := 50) dX11_sight_54 (by decide) ?_
    refine V_ic_gt (tgt := 71) dX11_sight_56 (by decide) (fun c_2 => ?_) (fun c_2 => ?_)
    · have hf := it_s c_2 hf
      refine V_sub [] rfl ?_
      exact v_X11_sight_71 hd hf
    · have hf := if_s c_2 hf
      refine V_aload_n 0 dX11_sight_59 rfl rfl ?_
      refine V_getR F_X11_55 rfl t_k0 rfl dX11_sight_60 ?_
      refine V_getI F_X11_317 rfl (rfO t_k0 (Nat.le_of_ble_eq_true rfl) rfl rfl) rfl dX11_sight_63 ?_
      refine V_bipush (v := 20) dX11_sight_66 (by decide) ?_
      refine V_ic_ne (tgt := 73) dX11_sight_68 (by decide) (fun c_3 => ?_) (fun c_3 => ?_)
      · have hf := if_s c_3 hf
        refine V_aload_n 0 dX11_sight_73 rfl rfl ?_
        refine V_getR F_X11_55 rfl t_k0 rfl dX11_sight_74 ?_
        refine V_iload_n 1 dX11_sight_77 rfl rfl ?_
        refine V_iload_n 2 dX11_sight_78 rfl rfl ?_
        refine V_iload_n 3 dX11_sight_79 rfl rfl ?_
        obtain ⟨h_5, e_4, hf⟩ := ov_s hf
        refine V_cvv (As := [.int x1, .int x2, .int x3]) (rest := []) (c_X1_addSight (d := d) (Nat.le_trans (Nat.le_of_ble_eq_true rfl) hd) e_4 (rfO t_k0 (Nat.le_of_ble_eq_true rfl) rfl rfl)) ML_X11_320 MV_X1_addSight rfl (rfO t_k0 (Nat.le_of_ble_eq_true rfl) rfl rfl) rfl rfl (Nat.le_of_ble_eq_true rfl) dX11_sight_80 ?_
        refine V_aload_n 0 dX11_sight_83 rfl rfl ?_
        refine V_getR F_X11_55 rfl t_k0 rfl dX11_sight_84 ?_
        refine V_getI F_X11_317 rfl (rfO t_k0 (Nat.le_of_ble_eq_true rfl) rfl rfl) rfl dX11_sight_87 ?_
        exact V_iret rfl (so_s hf) dX11_sight_90
      · have hf := it_s c_3 hf
        refine V_sub [] rfl ?_
        exact v_X11_sight_71 hd hf
set_option maxHeartbeats 4000000 in
set_option maxRecDepth 100000 in
theorem v_X11_sight_17 {E : EV} {d : Nat} (hd : 1 ≤ d) {r0 : Int32} {h0 : AH} {k0 : Nat} {x1 : Int32} {x2 : Int32} {x3 : Int32} {s0 : Int32} {h : AH} (hf : f_X11_sight_17 k0 x1 x2 x3 s0 h = some (r0, h0)) (t_k0 : kd k0 = (0, 11)) : V E (d + 1) K_X11_sight (ZI E r0 h0) h [(0, .ref k0), (1, .int x1), (2, .int x2), (3, .int x3)] [.int s0] 17 := by
  unfold f_X11_sight_17 at hf
  refine V_istore (L' := [(4, .int s0), (0, .ref k0), (1, .int x1), (2, .int x2), (3, .int x3)]) dX11_sight_17 (Nat.le_of_ble_eq_true rfl) rfl rfl ?_
  refine V_iload_n 2 dX11_sight_19 rfl rfl ?_
  refine V_if_lt (tgt := 71) dX11_sight_20 (by decide) (fun c_1 => ?_) (fun c_1 => ?_)
  · have hf := it_s c_1 hf
    refine V_sub [] rfl ?_
    exact v_X11_sight_71 hd hf
  · have hf := if_s c_1 hf
    refine V_iload_n 2 dX11_sight_23 rfl rfl ?_
    refine V_aload_n 1 dX11_sight_24 rfl rfl ?_
    refine V_getR F_X11_55 rfl t_k0 rfl dX11_sight_25 ?_
    refine V_getI F_X11_192 rfl (rfO t_k0 (Nat.le_of_ble_eq_true rfl) rfl rfl) rfl dX11_sight_28 ?_
    refine V_ic_ge (tgt := 71) dX11_sight_31 (by decide) (fun c_2 => ?_) (fun c_2 => ?_)
    · have hf := it_s c_2 hf
      refine V_sub [] rfl ?_
      exact v_X11_sight_71 hd hf
    · have hf := if_s c_2 hf
      refine V_aload_n 1 dX11_sight_34 rfl rfl ?_
      refine V_iload_n 3 dX11_sight_35 rfl rfl ?_
      obtain ⟨r_5, h_4, e_3, hf⟩ := ob_s hf
      refine V_cvi (As := [.int x2]) (rest := []) (c_X11_isKnown (d := d) (Nat.le_trans (Nat.le_of_ble_eq_true rfl) hd) e_3 t_k0) ML_X11_151 MV_X11_isKnown rfl t_k0 rfl rfl (Nat.le_of_ble_eq_true rfl) dX11_sight_36 ?_
      refine V_if_ne (tgt := 47) dX11_sight_39 (by decide) (fun c_6 => ?_) (fun c_6 => ?_)
      · have hf := if_s c_6 hf
        refine V_sub [1, 2, 3, 4] rfl ?_
        exact v_X11_sight_47 hd hf t_k0
      · have hf := it_s c_6 hf
        refine V_iload 0 dX11_sight_42 rfl ?_
        refine V_if_eq (tgt := 71) dX11_sight_44 (by decide) (fun c_7 => ?_) (fun c_7 => ?_)
        · have hf := it_s c_7 hf
          refine V_sub [] rfl ?_
          exact v_X11_sight_71 hd hf
        · have hf := if_s c_7 hf
          refine V_sub [1, 2, 3, 4] rfl ?_
          exact v_X11_sight_47 hd hf t_k0
set_option maxHeartbeats 4000000 in
set_option maxRecDepth 100000 in
theorem v_X11_sight_16 {E : EV} {d : Nat} (hd : 1 ≤ d) {r0 : Int32} {h0 : AH} {k0 : Nat} {x1 : Int32} {x2 : Int32} {x3 : Int32} {h : AH} (hf : f_X11_sight_16 k0 x1 x2 x3 h = some (r0, h0)) (t_k0 : kd k0 = (0, 11)) : V E (d + 1) K_X11_sight (ZI E r0 h0) h [(0, .ref k0), (1, .int x1), (2, .int x2), (3, .int x3)] [] 16 := by
  unfold f_X11_sight_16 at hf
  refine V_iconst (v := 0) dX11_sight_16 (by decide) ?_
  exact v_X11_sight_17 hd hf t_k0
set_option maxHeartbeats 4000000 in
set_option maxRecDepth 100000 in
theorem c_X11_sight {E : EV} {d : Nat} (hd : 1 + 1 ≤ d) {k0 : Nat} {x1 : Int32} {x2 : Int32} {x3 : Int32} {h : AH} {r0 : Int32} {h0 : AH} (hf : f_X11_sight k0 x1 x2 x3 h = some (r0, h0)) (t_k0 : kd k0 = (0, 11)) : Con E d K_X11_sight (ZI E r0 h0) [.ref k0, .int x1, .int x2, .int x3] h := by
  obtain ⟨d, rfl⟩ : ∃ d', d = d' + 1 := ⟨d - 1, by omega⟩
  have hd := Nat.le_of_succ_le_succ hd
  refine Con.ofV rfl (Nat.le_of_ble_eq_true rfl) ?_
  unfold f_X11_sight at hf
  show V E (d + 1) K_X11_sight (ZI E r0 h0) h [(0, .ref k0), (1, .int x1), (2, .int x2), (3, .int x3)] [] 0
  refine V_iload_n 2 dX11_sight_0 rfl rfl ?_
  refine V_bipush (v := 10) dX11_sight_1 (by decide) ?_
  refine V_ic_lt (tgt := 16) dX11_sight_3 (by decide) (fun c_1 => ?_) (fun c_1 => ?_)
  · have hf := it_s c_1 hf
    exact v_X11_sight_16 hd hf t_k0
  · have hf := if_s c_1 hf
    refine V_iload_n 2 dX11_sight_6 rfl rfl ?_
    refine V_bipush (v := 14) dX11_sight_7 (by decide) ?_
    refine V_ic_ge (tgt := 16) dX11_sight_9 (by decide) (fun c_2 => ?_) (fun c_2 => ?_)
    · have hf := it_s c_2 hf
      exact v_X11_sight_16 hd hf t_k0
    · have hf := if_s c_2 hf
      refine V_iconst (v := 1) dX11_sight_12 (by decide) ?_
      refine V_goto (tgt := 17) dX11_sight_13 (by decide) ?_
      exact v_X11_sight_17 hd hf t_k0
theorem dX11_steady_0 : decode cX11_steady 0 = .ok (.aload_n 0, 1) := by decide +kernel
theorem dX11_steady_1 : decode cX11_steady 1 = .ok (.getfield 19, 3) := by decide +kernel
theorem dX11_steady_4 : decode cX11_steady 4 = .ok (.getfield 144, 3) := by decide +kernel
theorem dX11_steady_7 : decode cX11_steady 7 = .ok (.ifCond .eq 14, 3) := by decide +kernel
theorem dX11_steady_10 : decode cX11_steady 10 = .ok (.aload_n 0, 1) := by decide +kernel
theorem dX11_steady_11 : decode cX11_steady 11 = .ok (.getfield 19, 3) := by decide +kernel
theorem dX11_steady_14 : decode cX11_steady 14 = .ok (.getfield 144, 3) := by decide +kernel
theorem dX11_steady_17 : decode cX11_steady 17 = .ok (.iconst 4, 1) := by decide +kernel
theorem dX11_steady_18 : decode cX11_steady 18 = .ok (.if_icmp .le 5, 3) := by decide +kernel
theorem dX11_steady_21 : decode cX11_steady 21 = .ok (.iconst (-1), 1) := by decide +kernel
theorem dX11_steady_22 : decode cX11_steady 22 = .ok (.ireturn, 1) := by decide +kernel
theorem dX11_steady_23 : decode cX11_steady 23 = .ok (.aload_n 0, 1) := by decide +kernel
theorem dX11_steady_24 : decode cX11_steady 24 = .ok (.getfield 73, 3) := by decide +kernel
theorem dX11_steady_27 : decode cX11_steady 27 = .ok (.aload_n 0, 1) := by decide +kernel
theorem dX11_steady_28 : decode cX11_steady 28 = .ok (.iconst 0, 1) := by decide +kernel
theorem dX11_steady_29 : decode cX11_steady 29 = .ok (.aload_n 0, 1) := by decide +kernel
theorem dX11_steady_30 : decode cX11_steady 30 = .ok (.invokevirtual 280, 3) := by decide +kernel
theorem dX11_steady_33 : decode cX11_steady 33 = .ok (.invokevirtual 195, 3) := by decide +kernel
theorem dX11_steady_36 : decode cX11_steady 36 = .ok (.aload_n 0, 1) := by decide +kernel
theorem dX11_steady_37 : decode cX11_steady 37 = .ok (.invokevirtual 280, 3) := by decide +kernel
theorem dX11_steady_40 : decode cX11_steady 40 = .ok (.invokevirtual 235, 3) := by decide +kernel
theorem dX11_steady_43 : decode cX11_steady 43 = .ok (.istore_n 1, 1) := by decide +kernel
theorem dX11_steady_44 : decode cX11_steady 44 = .ok (.iconst 0, 1) := by decide +kernel
theorem dX11_steady_45 : decode cX11_steady 45 = .ok (.istore_n 2, 1) := by decide +kernel
theorem dX11_steady_46 : decode cX11_steady 46 = .ok (.iconst 0, 1) := by decide +kernel
theorem dX11_steady_47 : decode cX11_steady 47 = .ok (.istore_n 3, 1) := by decide +kernel
theorem dX11_steady_48 : decode cX11_steady 48 = .ok (.iload_n 3, 1) := by decide +kernel
theorem dX11_steady_49 : decode cX11_steady 49 = .ok (.iload_n 1, 1) := by decide +kernel
theorem dX11_steady_50 : decode cX11_steady 50 = .ok (.if_icmp .ge 71, 3) := by decide +kernel
theorem dX11_steady_53 : decode cX11_steady 53 = .ok (.aload_n 0, 1) := by decide +kernel
theorem dX11_steady_54 : decode cX11_steady 54 = .ok (.getfield 73, 3) := by decide +kernel
theorem dX11_steady_57 : decode cX11_steady 57 = .ok (.iload_n 2, 1) := by decide +kernel
theorem dX11_steady_58 : decode cX11_steady 58 = .ok (.invokevirtual 200, 3) := by decide +kernel
theorem dX11_steady_61 : decode cX11_steady 61 = .ok (.iconst 0, 1) := by decide +kernel
theorem dX11_steady_62 : decode cX11_steady 62 = .ok (.istore 4, 2) := by decide +kernel
theorem dX11_steady_64 : decode cX11_steady 64 = .ok (.iload 4, 2) := by decide +kernel
theorem dX11_steady_66 : decode cX11_steady 66 = .ok (.aload_n 0, 1) := by decide +kernel
theorem dX11_steady_67 : decode cX11_steady 67 = .ok (.getfield 19, 3) := by decide +kernel
theorem dX11_steady_70 : decode cX11_steady 70 = .ok (.getfield 144, 3) := by decide +kernel
theorem dX11_steady_73 : decode cX11_steady 73 = .ok (.if_icmp .ge 34, 3) := by decide +kernel
theorem dX11_steady_76 : decode cX11_steady 76 = .ok (.aload_n 0, 1) := by decide +kernel
theorem dX11_steady_77 : decode cX11_steady 77 = .ok (.getfield 73, 3) := by decide +kernel
theorem dX11_steady_80 : decode cX11_steady 80 = .ok (.getfield 221, 3) := by decide +kernel
theorem dX11_steady_83 : decode cX11_steady 83 = .ok (.iload 4, 2) := by decide +kernel
theorem dX11_steady_85 : decode cX11_steady 85 = .ok (.iaload, 1) := by decide +kernel
theorem dX11_steady_86 : decode cX11_steady 86 = .ok (.aload_n 0, 1) := by decide +kernel
theorem dX11_steady_87 : decode cX11_steady 87 = .ok (.getfield 45, 3) := by decide +kernel
theorem dX11_steady_90 : decode cX11_steady 90 = .ok (.getfield 166, 3) := by decide +kernel
theorem dX11_steady_93 : decode cX11_steady 93 = .ok (.iload 4, 2) := by decide +kernel
theorem dX11_steady_95 : decode cX11_steady 95 = .ok (.iaload, 1) := by decide +kernel
theorem dX11_steady_96 : decode cX11_steady 96 = .ok (.if_icmp .eq 5, 3) := by decide +kernel
theorem dX11_steady_99 : decode cX11_steady 99 = .ok (.iconst 0, 1) := by decide +kernel
theorem dX11_steady_100 : decode cX11_steady 100 = .ok (.ireturn, 1) := by decide +kernel
theorem dX11_steady_101 : decode cX11_steady 101 = .ok (.iinc 4 1, 3) := by decide +kernel
theorem dX11_steady_104 : decode cX11_steady 104 = .ok (.goto (-40), 3) := by decide +kernel
theorem dX11_steady_107 : decode cX11_steady 107 = .ok (.aload_n 0, 1) := by decide +kernel
theorem dX11_steady_108 : decode cX11_steady 108 = .ok (.getfield 73, 3) := by decide +kernel
theorem dX11_steady_111 : decode cX11_steady 111 = .ok (.invokevirtual 244, 3) := by decide +kernel
theorem dX11_steady_114 : decode cX11_steady 114 = .ok (.istore_n 2, 1) := by decide +kernel
theorem dX11_steady_115 : decode cX11_steady 115 = .ok (.iinc 3 1, 3) := by decide +kernel
theorem dX11_steady_118 : decode cX11_steady 118 = .ok (.goto (-70), 3) := by decide +kernel
theorem dX11_steady_121 : decode cX11_steady 121 = .ok (.iconst 1, 1) := by decide +kernel
theorem dX11_steady_122 : decode cX11_steady 122 = .ok (.ireturn, 1) := by decide +kernel
def f_X11_steady_21  (h : AH) : Option (Int32 × AH) :=
  some ((-1), h)
def f_X11_steady_64 (q48 : Nat → Int32 → Int32 → Int32 → AH → Option (Int32 × AH)) : Nat → Nat → Int32 → Int32 → Int32 → AH → Option (Int32 × AH)
  | 0, _, _, _, _, _ => none
  | n + 1, k0, x1, x3, x4, h =>
    if (h.1 (rf k0 1) 2) ≤ x4 then (
      ob (f_X5_advance (rf k0 11) h) fun r_4 h_3 =>
      nm (x3 + 1) fun x3_5 =>
      q48 k0 x1 r_4 x3_5 h_3
    ) else (
      og (ix x4 (an (rf (rf k0 11) 3))) <|
      og (ix x4 (an (rf (rf k0 6) 0))) <|
      if (h.1 (rf (rf k0 11) 3) x4.toNatClampNeg) = (h.1 (rf (rf k0 6) 0) x4.toNatClampNeg) then (
        nm (x4 + 1) fun x4_10 =>
        f_X11_steady_64 q48 n k0 x1 x3 x4_10 h
      ) else (
        some (0, h)
      )
    )
def f_X11_steady_48 : Nat → Nat → Int32 → Int32 → Int32 → AH → Option (Int32 × AH)
  | 0, _, _, _, _, _ => none
  | n + 1, k0, x1, x2, x3, h =>
    if x1 ≤ x3 then (
      some (1, h)
    ) else (
      ov (f_X5_go (rf k0 11) x2 h) fun h_3 =>
      f_X11_steady_64 (f_X11_steady_48 n) FU k0 x1 x3 0 h_3
    )
def f_X11_steady (k0 : Nat) (h : AH) : Option (Int32 × AH) :=
  if (h.1 (rf k0 1) 2) = 0 then (
    f_X11_steady_21 h
  ) else (
    if (h.1 (rf k0 1) 2) ≤ 4 then (
      ob (f_X11_everybody k0 h) fun r_5 h_4 =>
      ob (f_X11_openDoor k0 0 r_5 h_4) fun r_8 h_7 =>
      ob (f_X11_everybody k0 h_7) fun r_11 h_10 =>
      ob (f_X5_first (rf k0 11) r_8 r_11 h_10) fun r_14 h_13 =>
      f_X11_steady_48 FU k0 r_14 0 0 h_13
    ) else (
      f_X11_steady_21 h
    )
  )
set_option maxHeartbeats 4000000 in
set_option maxRecDepth 100000 in
theorem v_X11_steady_21 {E : EV} {d : Nat} (hd : 5 ≤ d) {r0 : Int32} {h0 : AH}  {h : AH} (hf : f_X11_steady_21 h = some (r0, h0)) : V E (d + 1) K_X11_steady (ZI E r0 h0) h [] [] 21 := by
  unfold f_X11_steady_21 at hf
  refine V_iconst (v := (-1)) dX11_steady_21 (by decide) ?_
  exact V_iret rfl (so_s hf) dX11_steady_22
set_option maxHeartbeats 4000000 in
set_option maxRecDepth 100000 in
theorem v_X11_steady_64 {E : EV} {d : Nat} (hd : 5 ≤ d) {r0 : Int32} {h0 : AH} {q48 : Nat → Int32 → Int32 → Int32 → AH → Option (Int32 × AH)} (cq48 : ∀ (k0 : Nat) (x1 : Int32) (x2 : Int32) (x3 : Int32) (h : AH), q48 k0 x1 x2 x3 h = some (r0, h0) → kd k0 = (0, 11) → V E (d + 1) K_X11_steady (ZI E r0 h0) h [(0, .ref k0), (1, .int x1), (2, .int x2), (3, .int x3)] [] 48) : ∀ (n : Nat) (k0 : Nat) (x1 : Int32) (x3 : Int32) (x4 : Int32) (h : AH), f_X11_steady_64 q48 n k0 x1 x3 x4 h = some (r0, h0) → kd k0 = (0, 11) → V E (d + 1) K_X11_steady (ZI E r0 h0) h [(0, .ref k0), (1, .int x1), (3, .int x3), (4, .int x4)] [] 64 := by
  intro n
  induction n with
  | zero =>
    intro k0 x1 x3 x4 h hf
    rw [f_X11_steady_64] at hf
    cases hf
  | succ n ih =>
    intro k0 x1 x3 x4 h hf t_k0
    rw [f_X11_steady_64] at hf
    refine V_iload 3 dX11_steady_64 rfl ?_
    refine V_aload_n 0 dX11_steady_66 rfl rfl ?_
    refine V_getR F_X11_19 rfl t_k0 rfl dX11_steady_67 ?_
    refine V_getI F_X11_144 rfl (rfO t_k0 (Nat.le_of_ble_eq_true rfl) rfl rfl) rfl dX11_steady_70 ?_
    refine V_ic_ge (tgt := 107) dX11_steady_73 (by decide) (fun c_1 => ?_) (fun c_1 => ?_)
    · have hf := it_s c_1 hf
      refine V_aload_n 0 dX11_steady_107 rfl rfl ?_
      refine V_getR F_X11_73 rfl t_k0 rfl dX11_steady_108 ?_
      obtain ⟨r_4, h_3, e_2, hf⟩ := ob_s hf
      refine V_cvi (As := []) (rest := []) (c_X5_advance (d := d) (Nat.le_trans (Nat.le_of_ble_eq_true rfl) hd) e_2 (rfO t_k0 (Nat.le_of_ble_eq_true rfl) rfl rfl)) ML_X11_244 MV_X5_advance rfl (rfO t_k0 (Nat.le_of_ble_eq_true rfl) rfl rfl) rfl rfl (Nat.le_of_ble_eq_true rfl) dX11_steady_111 ?_
      refine V_istore_n (L' := [(2, .int r_4), (0, .ref k0), (1, .int x1), (3, .int x3), (4, .int x4)]) dX11_steady_114 rfl (Nat.le_of_ble_eq_true rfl) rfl rfl ?_
      obtain ⟨x3_5, e_6, hf⟩ := nm_s hf
      refine V_iinc (a := 1) (L' := [(3, .int x3_5), (2, .int r_4), (0, .ref k0), (1, .int x1), (4, .int x4)]) 3 dX11_steady_115 rfl (by decide) (Nat.le_of_ble_eq_true rfl) e_6 rfl ?_
      refine V_goto (tgt := 48) dX11_steady_118 (by decide) ?_
      refine V_sub [2, 3, 1, 0] rfl ?_
      exact cq48 _ _ _ _ _ hf t_k0
    · have hf := if_s c_1 hf
      refine V_aload_n 0 dX11_steady_76 rfl rfl ?_
      refine V_getR F_X11_73 rfl t_k0 rfl dX11_steady_77 ?_
      refine V_getR F_X11_221 rfl (rfO t_k0 (Nat.le_of_ble_eq_true rfl) rfl rfl) rfl dX11_steady_80 ?_
      refine V_iload 3 dX11_steady_83 rfl ?_
      obtain ⟨b_7, hf⟩ := og_s hf
      refine V_iald (rfA (rfO t_k0 (Nat.le_of_ble_eq_true rfl) rfl rfl) (Nat.le_of_ble_eq_true rfl) rfl rfl (by decide)) b_7 dX11_steady_85 ?_
      refine V_aload_n 0 dX11_steady_86 rfl rfl ?_
      refine V_getR F_X11_45 rfl t_k0 rfl dX11_steady_87 ?_
      refine V_getR F_X11_166 rfl (rfO t_k0 (Nat.le_of_ble_eq_true rfl) rfl rfl) rfl dX11_steady_90 ?_
      refine V_iload 3 dX11_steady_93 rfl ?_
      obtain ⟨b_8, hf⟩ := og_s hf
      refine V_iald (rfA (rfO t_k0 (Nat.le_of_ble_eq_true rfl) rfl rfl) (Nat.le_of_ble_eq_true rfl) rfl rfl (by decide)) b_8 dX11_steady_95 ?_
      refine V_ic_eq (tgt := 101) dX11_steady_96 (by decide) (fun c_9 => ?_) (fun c_9 => ?_)
      · have hf := it_s c_9 hf
        obtain ⟨x4_10, e_11, hf⟩ := nm_s hf
        refine V_iinc (a := 1) (L' := [(4, .int x4_10), (0, .ref k0), (1, .int x1), (3, .int x3)]) 3 dX11_steady_101 rfl (by decide) (Nat.le_of_ble_eq_true rfl) e_11 rfl ?_
        refine V_goto (tgt := 64) dX11_steady_104 (by decide) ?_
        refine V_sub [1, 2, 3, 0] rfl ?_
        exact ih _ _ _ _ _ hf t_k0
      · have hf := if_s c_9 hf
        refine V_iconst (v := 0) dX11_steady_99 (by decide) ?_
        exact V_iret rfl (so_s hf) dX11_steady_100
set_option maxHeartbeats 4000000 in
set_option maxRecDepth 100000 in
theorem v_X11_steady_48 {E : EV} {d : Nat} (hd : 5 ≤ d) {r0 : Int32} {h0 : AH} : ∀ (n : Nat) (k0 : Nat) (x1 : Int32) (x2 : Int32) (x3 : Int32) (h : AH), f_X11_steady_48 n k0 x1 x2 x3 h = some (r0, h0) → kd k0 = (0, 11) → V E (d + 1) K_X11_steady (ZI E r0 h0) h [(0, .ref k0), (1, .int x1), (2, .int x2), (3, .int x3)] [] 48 := by
  intro n
  induction n with
  | zero =>
    intro k0 x1 x2 x3 h hf
    rw [f_X11_steady_48] at hf
    cases hf
  | succ n ih =>
    intro k0 x1 x2 x3 h hf t_k0
    rw [f_X11_steady_48] at hf
    refine V_iload_n 3 dX11_steady_48 rfl rfl ?_
    refine V_iload_n 1 dX11_steady_49 rfl rfl ?_
    refine V_ic_ge (tgt := 121) dX11_steady_50 (by decide) (fun c_1 => ?_) (fun c_1 => ?_)
    · have hf := it_s c_1 hf
      refine V_iconst (v := 1) dX11_steady_121 (by decide) ?_
      exact V_iret rfl (so_s hf) dX11_steady_122
    · have hf := if_s c_1 hf
      refine V_aload_n 0 dX11_steady_53 rfl rfl ?_
      refine V_getR F_X11_73 rfl t_k0 rfl dX11_steady_54 ?_
      refine V_iload_n 2 dX11_steady_57 rfl rfl ?_
      obtain ⟨h_3, e_2, hf⟩ := ov_s hf
      refine V_cvv (As := [.int x2]) (rest := []) (c_X5_go (d := d) (Nat.le_trans (Nat.le_of_ble_eq_true rfl) hd) e_2 (rfO t_k0 (Nat.le_of_ble_eq_true rfl) rfl rfl)) ML_X11_200 MV_X5_go rfl (rfO t_k0 (Nat.le_of_ble_eq_true rfl) rfl rfl) rfl rfl (Nat.le_of_ble_eq_true rfl) dX11_steady_58 ?_
      refine V_iconst (v := 0) dX11_steady_61 (by decide) ?_
      refine V_istore (L' := [(4, .int 0), (0, .ref k0), (1, .int x1), (2, .int x2), (3, .int x3)]) dX11_steady_62 (Nat.le_of_ble_eq_true rfl) rfl rfl ?_
      refine V_sub [1, 2, 4, 0] rfl ?_
      exact v_X11_steady_64 hd ih FU _ _ _ _ _ hf t_k0
set_option maxHeartbeats 4000000 in
set_option maxRecDepth 100000 in
theorem c_X11_steady {E : EV} {d : Nat} (hd : 5 + 1 ≤ d) {k0 : Nat} {h : AH} {r0 : Int32} {h0 : AH} (hf : f_X11_steady k0 h = some (r0, h0)) (t_k0 : kd k0 = (0, 11)) : Con E d K_X11_steady (ZI E r0 h0) [.ref k0] h := by
  obtain ⟨d, rfl⟩ : ∃ d', d = d' + 1 := ⟨d - 1, by omega⟩
  have hd := Nat.le_of_succ_le_succ hd
  refine Con.ofV rfl (Nat.le_of_ble_eq_true rfl) ?_
  unfold f_X11_steady at hf
  show V E (d + 1) K_X11_steady (ZI E r0 h0) h [(0, .ref k0)] [] 0
  refine V_aload_n 0 dX11_steady_0 rfl rfl ?_
  refine V_getR F_X11_19 rfl t_k0 rfl dX11_steady_1 ?_
  refine V_getI F_X11_144 rfl (rfO t_k0 (Nat.le_of_ble_eq_true rfl) rfl rfl) rfl dX11_steady_4 ?_
  refine V_if_eq (tgt := 21) dX11_steady_7 (by decide) (fun c_1 => ?_) (fun c_1 => ?_)
  · have hf := it_s c_1 hf
    refine V_sub [] rfl ?_
    exact v_X11_steady_21 hd hf
  · have hf := if_s c_1 hf
    refine V_aload_n 0 dX11_steady_10 rfl rfl ?_
    refine V_getR F_X11_19 rfl t_k0 rfl dX11_steady_11 ?_
    refine V_getI F_X11_144 rfl (rfO t_k0 (Nat.le_of_ble_eq_true rfl) rfl rfl) rfl dX11_steady_14 ?_
    refine V_iconst (v := 4) dX11_steady_17 (by decide) ?_
    refine V_ic_le (tgt := 23) dX11_steady_18 (by decide) (fun c_2 => ?_) (fun c_2 => ?_)
    · have hf := it_s c_2 hf
      refine V_aload_n 0 dX11_steady_23 rfl rfl ?_
      refine V_getR F_X11_73 rfl t_k0 rfl dX11_steady_24 ?_
      refine V_aload_n 0 dX11_steady_27 rfl rfl ?_
      refine V_iconst (v := 0) dX11_steady_28 (by decide) ?_
      refine V_aload_n 0 dX11_steady_29 rfl rfl ?_
      obtain ⟨r_5, h_4, e_3, hf⟩ := ob_s hf
      refine V_cvi (As := []) (rest := [.int 0, .ref k0, .ref (rf k0 11)]) (c_X11_everybody (d := d) (Nat.le_trans (Nat.le_of_ble_eq_true rfl) hd) e_3 t_k0) ML_X11_280 MV_X11_everybody rfl t_k0 rfl rfl (Nat.le_of_ble_eq_true rfl) dX11_steady_30 ?_
      obtain ⟨r_8, h_7, e_6, hf⟩ := ob_s hf
      refine V_cvi (As := [.int 0, .int r_5]) (rest := [.ref (rf k0 11)]) (c_X11_openDoor (d := d) (Nat.le_trans (Nat.le_of_ble_eq_true rfl) hd) e_6 t_k0) ML_X11_195 MV_X11_openDoor rfl t_k0 rfl rfl (Nat.le_of_ble_eq_true rfl) dX11_steady_33 ?_
      refine V_aload_n 0 dX11_steady_36 rfl rfl ?_
      obtain ⟨r_11, h_10, e_9, hf⟩ := ob_s hf
      refine V_cvi (As := []) (rest := [.int r_8, .ref (rf k0 11)]) (c_X11_everybody (d := d) (Nat.le_trans (Nat.le_of_ble_eq_true rfl) hd) e_9 t_k0) ML_X11_280 MV_X11_everybody rfl t_k0 rfl rfl (Nat.le_of_ble_eq_true rfl) dX11_steady_37 ?_
      obtain ⟨r_14, h_13, e_12, hf⟩ := ob_s hf
      refine V_cvi (As := [.int r_8, .int r_11]) (rest := []) (c_X5_first (d := d) (Nat.le_trans (Nat.le_of_ble_eq_true rfl) hd) e_12 (rfO t_k0 (Nat.le_of_ble_eq_true rfl) rfl rfl)) ML_X11_235 MV_X5_first rfl (rfO t_k0 (Nat.le_of_ble_eq_true rfl) rfl rfl) rfl rfl (Nat.le_of_ble_eq_true rfl) dX11_steady_40 ?_
      refine V_istore_n (L' := [(1, .int r_14), (0, .ref k0)]) dX11_steady_43 rfl (Nat.le_of_ble_eq_true rfl) rfl rfl ?_
      refine V_iconst (v := 0) dX11_steady_44 (by decide) ?_
      refine V_istore_n (L' := [(2, .int 0), (1, .int r_14), (0, .ref k0)]) dX11_steady_45 rfl (Nat.le_of_ble_eq_true rfl) rfl rfl ?_
      refine V_iconst (v := 0) dX11_steady_46 (by decide) ?_
      refine V_istore_n (L' := [(3, .int 0), (2, .int 0), (1, .int r_14), (0, .ref k0)]) dX11_steady_47 rfl (Nat.le_of_ble_eq_true rfl) rfl rfl ?_
      refine V_sub [3, 2, 1, 0] rfl ?_
      exact v_X11_steady_48 hd FU _ _ _ _ _ hf t_k0
    · have hf := if_s c_2 hf
      refine V_sub [] rfl ?_
      exact v_X11_steady_21 hd hf
theorem dX5_placeOf_0 : decode cX5_placeOf 0 = .ok (.iconst 0, 1) := by decide +kernel
theorem dX5_placeOf_1 : decode cX5_placeOf 1 = .ok (.istore_n 2, 1) := by decide +kernel
theorem dX5_placeOf_2 : decode cX5_placeOf 2 = .ok (.iload_n 2, 1) := by decide +kernel
theorem dX5_placeOf_3 : decode cX5_placeOf 3 = .ok (.aload_n 0, 1) := by decide +kernel
theorem dX5_placeOf_4 : decode cX5_placeOf 4 = .ok (.getfield 34, 3) := by decide +kernel
theorem dX5_placeOf_7 : decode cX5_placeOf 7 = .ok (.if_icmp .ge 21, 3) := by decide +kernel
theorem dX5_placeOf_10 : decode cX5_placeOf 10 = .ok (.aload_n 0, 1) := by decide +kernel
theorem dX5_placeOf_11 : decode cX5_placeOf 11 = .ok (.getfield 9, 3) := by decide +kernel
theorem dX5_placeOf_14 : decode cX5_placeOf 14 = .ok (.iload_n 2, 1) := by decide +kernel
theorem dX5_placeOf_15 : decode cX5_placeOf 15 = .ok (.iaload, 1) := by decide +kernel
theorem dX5_placeOf_16 : decode cX5_placeOf 16 = .ok (.iload_n 1, 1) := by decide +kernel
theorem dX5_placeOf_17 : decode cX5_placeOf 17 = .ok (.if_icmp .ne 5, 3) := by decide +kernel
theorem dX5_placeOf_20 : decode cX5_placeOf 20 = .ok (.iload_n 2, 1) := by decide +kernel
theorem dX5_placeOf_21 : decode cX5_placeOf 21 = .ok (.ireturn, 1) := by decide +kernel
theorem dX5_placeOf_22 : decode cX5_placeOf 22 = .ok (.iinc 2 1, 3) := by decide +kernel
theorem dX5_placeOf_25 : decode cX5_placeOf 25 = .ok (.goto (-23), 3) := by decide +kernel
theorem dX5_placeOf_28 : decode cX5_placeOf 28 = .ok (.iconst 0, 1) := by decide +kernel
theorem dX5_placeOf_29 : decode cX5_placeOf 29 = .ok (.ireturn, 1) := by decide +kernel
def f_X5_placeOf_2 : Nat → Nat → Int32 → Int32 → AH → Option (Int32 × AH)
  | 0, _, _, _, _ => none
  | n + 1, k0, x1, x2, h =>
    if (h.1 k0 2) ≤ x2 then (
      some (0, h)
    ) else (
      og (ix x2 (an (rf k0 1))) <|
      if (h.1 (rf k0 1) x2.toNatClampNeg) = x1 then (
        some (x2, h)
      ) else (
        nm (x2 + 1) fun x2_4 =>
        f_X5_placeOf_2 n k0 x1 x2_4 h
      )
    )
def f_X5_placeOf (k0 : Nat) (x1 : Int32) (h : AH) : Option (Int32 × AH) :=
  f_X5_placeOf_2 FU k0 x1 0 h
set_option maxHeartbeats 4000000 in
set_option maxRecDepth 100000 in
theorem v_X5_placeOf_2 {E : EV} {d : Nat} (hd : 0 ≤ d) {r0 : Int32} {h0 : AH} : ∀ (n : Nat) (k0 : Nat) (x1 : Int32) (x2 : Int32) (h : AH), f_X5_placeOf_2 n k0 x1 x2 h = some (r0, h0) → kd k0 = (0, 5) → V E (d + 1) K_X5_placeOf (ZI E r0 h0) h [(0, .ref k0), (1, .int x1), (2, .int x2)] [] 2 := by
  intro n
  induction n with
  | zero =>
    intro k0 x1 x2 h hf
    rw [f_X5_placeOf_2] at hf
    cases hf
  | succ n ih =>
    intro k0 x1 x2 h hf t_k0
    rw [f_X5_placeOf_2] at hf
    refine V_iload_n 2 dX5_placeOf_2 rfl rfl ?_
    refine V_aload_n 0 dX5_placeOf_3 rfl rfl ?_
    refine V_getI F_X5_34 rfl t_k0 rfl dX5_placeOf_4 ?_
    refine V_ic_ge (tgt := 28) dX5_placeOf_7 (by decide) (fun c_1 => ?_) (fun c_1 => ?_)
    · have hf := it_s c_1 hf
      refine V_iconst (v := 0) dX5_placeOf_28 (by decide) ?_
      exact V_iret rfl (so_s hf) dX5_placeOf_29
    · have hf := if_s c_1 hf
      refine V_aload_n 0 dX5_placeOf_10 rfl rfl ?_
      refine V_getR F_X5_9 rfl t_k0 rfl dX5_placeOf_11 ?_
      refine V_iload_n 2 dX5_placeOf_14 rfl rfl ?_
      obtain ⟨b_2, hf⟩ := og_s hf
      refine V_iald (rfA t_k0 (Nat.le_of_ble_eq_true rfl) rfl rfl (by decide)) b_2 dX5_placeOf_15 ?_
      refine V_iload_n 1 dX5_placeOf_16 rfl rfl ?_
      refine V_ic_ne (tgt := 22) dX5_placeOf_17 (by decide) (fun c_3 => ?_) (fun c_3 => ?_)
      · have hf := if_s c_3 hf
        obtain ⟨x2_4, e_5, hf⟩ := nm_s hf
        refine V_iinc (a := 1) (L' := [(2, .int x2_4), (0, .ref k0), (1, .int x1)]) 2 dX5_placeOf_22 rfl (by decide) (Nat.le_of_ble_eq_true rfl) e_5 rfl ?_
        refine V_goto (tgt := 2) dX5_placeOf_25 (by decide) ?_
        refine V_sub [1, 2, 0] rfl ?_
        exact ih _ _ _ _ hf t_k0
      · have hf := it_s c_3 hf
        refine V_iload_n 2 dX5_placeOf_20 rfl rfl ?_
        exact V_iret rfl (so_s hf) dX5_placeOf_21
set_option maxHeartbeats 4000000 in
set_option maxRecDepth 100000 in
theorem c_X5_placeOf {E : EV} {d : Nat} (hd : 0 + 1 ≤ d) {k0 : Nat} {x1 : Int32} {h : AH} {r0 : Int32} {h0 : AH} (hf : f_X5_placeOf k0 x1 h = some (r0, h0)) (t_k0 : kd k0 = (0, 5)) : Con E d K_X5_placeOf (ZI E r0 h0) [.ref k0, .int x1] h := by
  obtain ⟨d, rfl⟩ : ∃ d', d = d' + 1 := ⟨d - 1, by omega⟩
  have hd := Nat.le_of_succ_le_succ hd
  refine Con.ofV rfl (Nat.le_of_ble_eq_true rfl) ?_
  unfold f_X5_placeOf at hf
  show V E (d + 1) K_X5_placeOf (ZI E r0 h0) h [(0, .ref k0), (1, .int x1)] [] 0
  refine V_iconst (v := 0) dX5_placeOf_0 (by decide) ?_
  refine V_istore_n (L' := [(2, .int 0), (0, .ref k0), (1, .int x1)]) dX5_placeOf_1 rfl (Nat.le_of_ble_eq_true rfl) rfl rfl ?_
  refine V_sub [1, 2, 0] rfl ?_
  exact v_X5_placeOf_2 hd FU _ _ _ _ hf t_k0
theorem dX11_swap_0 : decode cX11_swap 0 = .ok (.aload_n 0, 1) := by decide +kernel
theorem dX11_swap_1 : decode cX11_swap 1 = .ok (.iload_n 1, 1) := by decide +kernel
theorem dX11_swap_2 : decode cX11_swap 2 = .ok (.iload_n 2, 1) := by decide +kernel
theorem dX11_swap_3 : decode cX11_swap 3 = .ok (.invokevirtual 182, 3) := by decide +kernel
theorem dX11_swap_6 : decode cX11_swap 6 = .ok (.ifCond .eq 42, 3) := by decide +kernel
theorem dX11_swap_9 : decode cX11_swap 9 = .ok (.aload_n 0, 1) := by decide +kernel
theorem dX11_swap_10 : decode cX11_swap 10 = .ok (.iload_n 2, 1) := by decide +kernel
theorem dX11_swap_11 : decode cX11_swap 11 = .ok (.iload 4, 2) := by decide +kernel
theorem dX11_swap_13 : decode cX11_swap 13 = .ok (.invokevirtual 217, 3) := by decide +kernel
theorem dX11_swap_16 : decode cX11_swap 16 = .ok (.ifCond .eq 32, 3) := by decide +kernel
theorem dX11_swap_19 : decode cX11_swap 19 = .ok (.aload_n 0, 1) := by decide +kernel
theorem dX11_swap_20 : decode cX11_swap 20 = .ok (.iload_n 2, 1) := by decide +kernel
theorem dX11_swap_21 : decode cX11_swap 21 = .ok (.iload 5, 2) := by decide +kernel
theorem dX11_swap_23 : decode cX11_swap 23 = .ok (.invokevirtual 217, 3) := by decide +kernel
theorem dX11_swap_26 : decode cX11_swap 26 = .ok (.ifCond .eq 22, 3) := by decide +kernel
theorem dX11_swap_29 : decode cX11_swap 29 = .ok (.iload 4, 2) := by decide +kernel
theorem dX11_swap_31 : decode cX11_swap 31 = .ok (.iload 5, 2) := by decide +kernel
theorem dX11_swap_33 : decode cX11_swap 33 = .ok (.if_icmp .eq 15, 3) := by decide +kernel
theorem dX11_swap_36 : decode cX11_swap 36 = .ok (.aload_n 0, 1) := by decide +kernel
theorem dX11_swap_37 : decode cX11_swap 37 = .ok (.getfield 73, 3) := by decide +kernel
theorem dX11_swap_40 : decode cX11_swap 40 = .ok (.iload_n 3, 1) := by decide +kernel
theorem dX11_swap_41 : decode cX11_swap 41 = .ok (.iload_n 2, 1) := by decide +kernel
theorem dX11_swap_42 : decode cX11_swap 42 = .ok (.invokevirtual 185, 3) := by decide +kernel
theorem dX11_swap_45 : decode cX11_swap 45 = .ok (.ifCond .ne 6, 3) := by decide +kernel
theorem dX11_swap_48 : decode cX11_swap 48 = .ok (.ldc 220, 2) := by decide +kernel
theorem dX11_swap_50 : decode cX11_swap 50 = .ok (.ireturn, 1) := by decide +kernel
theorem dX11_swap_51 : decode cX11_swap 51 = .ok (.aload_n 0, 1) := by decide +kernel
theorem dX11_swap_52 : decode cX11_swap 52 = .ok (.getfield 73, 3) := by decide +kernel
theorem dX11_swap_55 : decode cX11_swap 55 = .ok (.aload_n 0, 1) := by decide +kernel
theorem dX11_swap_56 : decode cX11_swap 56 = .ok (.iload_n 1, 1) := by decide +kernel
theorem dX11_swap_57 : decode cX11_swap 57 = .ok (.iload_n 2, 1) := by decide +kernel
theorem dX11_swap_58 : decode cX11_swap 58 = .ok (.invokevirtual 195, 3) := by decide +kernel
theorem dX11_swap_61 : decode cX11_swap 61 = .ok (.invokevirtual 198, 3) := by decide +kernel
theorem dX11_swap_64 : decode cX11_swap 64 = .ok (.aload_n 0, 1) := by decide +kernel
theorem dX11_swap_65 : decode cX11_swap 65 = .ok (.getfield 73, 3) := by decide +kernel
theorem dX11_swap_68 : decode cX11_swap 68 = .ok (.iconst 0, 1) := by decide +kernel
theorem dX11_swap_69 : decode cX11_swap 69 = .ok (.invokevirtual 200, 3) := by decide +kernel
theorem dX11_swap_72 : decode cX11_swap 72 = .ok (.aload_n 0, 1) := by decide +kernel
theorem dX11_swap_73 : decode cX11_swap 73 = .ok (.getfield 73, 3) := by decide +kernel
theorem dX11_swap_76 : decode cX11_swap 76 = .ok (.iload 4, 2) := by decide +kernel
theorem dX11_swap_78 : decode cX11_swap 78 = .ok (.invokevirtual 335, 3) := by decide +kernel
theorem dX11_swap_81 : decode cX11_swap 81 = .ok (.aload_n 0, 1) := by decide +kernel
theorem dX11_swap_82 : decode cX11_swap 82 = .ok (.getfield 73, 3) := by decide +kernel
theorem dX11_swap_85 : decode cX11_swap 85 = .ok (.iload 5, 2) := by decide +kernel
theorem dX11_swap_87 : decode cX11_swap 87 = .ok (.invokevirtual 335, 3) := by decide +kernel
theorem dX11_swap_90 : decode cX11_swap 90 = .ok (.iadd, 1) := by decide +kernel
theorem dX11_swap_91 : decode cX11_swap 91 = .ok (.istore 6, 2) := by decide +kernel
theorem dX11_swap_93 : decode cX11_swap 93 = .ok (.aload_n 0, 1) := by decide +kernel
theorem dX11_swap_94 : decode cX11_swap 94 = .ok (.getfield 73, 3) := by decide +kernel
theorem dX11_swap_97 : decode cX11_swap 97 = .ok (.aload_n 0, 1) := by decide +kernel
theorem dX11_swap_98 : decode cX11_swap 98 = .ok (.getfield 73, 3) := by decide +kernel
theorem dX11_swap_101 : decode cX11_swap 101 = .ok (.iload 4, 2) := by decide +kernel
theorem dX11_swap_103 : decode cX11_swap 103 = .ok (.invokevirtual 338, 3) := by decide +kernel
theorem dX11_swap_106 : decode cX11_swap 106 = .ok (.aload_n 0, 1) := by decide +kernel
theorem dX11_swap_107 : decode cX11_swap 107 = .ok (.getfield 73, 3) := by decide +kernel
theorem dX11_swap_110 : decode cX11_swap 110 = .ok (.iload 5, 2) := by decide +kernel
theorem dX11_swap_112 : decode cX11_swap 112 = .ok (.invokevirtual 338, 3) := by decide +kernel
theorem dX11_swap_115 : decode cX11_swap 115 = .ok (.invokevirtual 287, 3) := by decide +kernel
theorem dX11_swap_118 : decode cX11_swap 118 = .ok (.aload_n 0, 1) := by decide +kernel
theorem dX11_swap_119 : decode cX11_swap 119 = .ok (.getfield 73, 3) := by decide +kernel
theorem dX11_swap_122 : decode cX11_swap 122 = .ok (.iconst 0, 1) := by decide +kernel
theorem dX11_swap_123 : decode cX11_swap 123 = .ok (.invokevirtual 200, 3) := by decide +kernel
theorem dX11_swap_126 : decode cX11_swap 126 = .ok (.aload_n 0, 1) := by decide +kernel
theorem dX11_swap_127 : decode cX11_swap 127 = .ok (.getfield 73, 3) := by decide +kernel
theorem dX11_swap_130 : decode cX11_swap 130 = .ok (.iload 4, 2) := by decide +kernel
theorem dX11_swap_132 : decode cX11_swap 132 = .ok (.invokevirtual 335, 3) := by decide +kernel
theorem dX11_swap_135 : decode cX11_swap 135 = .ok (.aload_n 0, 1) := by decide +kernel
theorem dX11_swap_136 : decode cX11_swap 136 = .ok (.getfield 73, 3) := by decide +kernel
theorem dX11_swap_139 : decode cX11_swap 139 = .ok (.iload 5, 2) := by decide +kernel
theorem dX11_swap_141 : decode cX11_swap 141 = .ok (.invokevirtual 335, 3) := by decide +kernel
theorem dX11_swap_144 : decode cX11_swap 144 = .ok (.iadd, 1) := by decide +kernel
theorem dX11_swap_145 : decode cX11_swap 145 = .ok (.iload 6, 2) := by decide +kernel
theorem dX11_swap_147 : decode cX11_swap 147 = .ok (.isub, 1) := by decide +kernel
theorem dX11_swap_148 : decode cX11_swap 148 = .ok (.ireturn, 1) := by decide +kernel
theorem ML_X11_335 : MLk RX11 335 yX5_worthOf := Or.inl ml_X11_335
theorem ML_X11_338 : MLk RX11 338 yX5_placeOf := Or.inl ml_X11_338
theorem MV_X5_placeOf : MVk K_X5_placeOf 1 5 := ⟨⟨cd_X5_placeOf, in_X5, ⟨by decide, by decide, by decide +kernel⟩, by decide⟩, im_X5_placeOf, se_X5_placeOf, _, _, rfl⟩
def f_X11_swap_48  (h : AH) : Option (Int32 × AH) :=
  some ((-1000000), h)
def f_X11_swap (k0 : Nat) (x1 : Int32) (x2 : Int32) (x3 : Int32) (x4 : Int32) (x5 : Int32) (h : AH) : Option (Int32 × AH) :=
  ob (f_X11_isParty k0 x1 x2 h) fun r_3 h_2 =>
  if r_3 = 0 then (
    f_X11_swap_48 h_2
  ) else (
    ob (f_X11_isGuest k0 x2 x4 h_2) fun r_7 h_6 =>
    if r_7 = 0 then (
      f_X11_swap_48 h_6
    ) else (
      ob (f_X11_isGuest k0 x2 x5 h_6) fun r_11 h_10 =>
      if r_11 = 0 then (
        f_X11_swap_48 h_10
      ) else (
        if x4 = x5 then (
          f_X11_swap_48 h_10
        ) else (
          ob (f_X5_readOrder (rf k0 11) x3 x2 h_10) fun r_16 h_15 =>
          if r_16 = 0 then (
            f_X11_swap_48 h_15
          ) else (
            ob (f_X11_openDoor k0 x1 x2 h_15) fun r_20 h_19 =>
            ov (f_X5_begin (rf k0 11) r_20 h_19) fun h_22 =>
            ov (f_X5_go (rf k0 11) 0 h_22) fun h_24 =>
            ob (f_X5_worthOf (rf k0 11) x4 h_24) fun r_27 h_26 =>
            ob (f_X5_worthOf (rf k0 11) x5 h_26) fun r_30 h_29 =>
            nm ((r_27 + r_30)) fun x6_31 =>
            ob (f_X5_placeOf (rf k0 11) x4 h_29) fun r_35 h_34 =>
            ob (f_X5_placeOf (rf k0 11) x5 h_34) fun r_38 h_37 =>
            ov (f_X5_exchange (rf k0 11) r_35 r_38 h_37) fun h_40 =>
            ov (f_X5_go (rf k0 11) 0 h_40) fun h_42 =>
            ob (f_X5_worthOf (rf k0 11) x4 h_42) fun r_45 h_44 =>
            ob (f_X5_worthOf (rf k0 11) x5 h_44) fun r_48 h_47 =>
            some (((r_45 + r_48) - x6_31), h_47)
          )
        )
      )
    )
  )
set_option maxHeartbeats 4000000 in
set_option maxRecDepth 100000 in
theorem v_X11_swap_48 {E : EV} {d : Nat} (hd : 5 ≤ d) {r0 : Int32} {h0 : AH}  {h : AH} (hf : f_X11_swap_48 h = some (r0, h0)) : V E (d + 1) K_X11_swap (ZI E r0 h0) h [] [] 48 := by
  unfold f_X11_swap_48 at hf
  refine V_ldc (v := (-1000000)) rfl kc_X11_220 dX11_swap_48 ?_
  exact V_iret rfl (so_s hf) dX11_swap_50
set_option maxHeartbeats 4000000 in
set_option maxRecDepth 100000 in
theorem c_X11_swap {E : EV} {d : Nat} (hd : 5 + 1 ≤ d) {k0 : Nat} {x1 : Int32} {x2 : Int32} {x3 : Int32} {x4 : Int32} {x5 : Int32} {h : AH} {r0 : Int32} {h0 : AH} (hf : f_X11_swap k0 x1 x2 x3 x4 x5 h = some (r0, h0)) (t_k0 : kd k0 = (0, 11)) : Con E d K_X11_swap (ZI E r0 h0) [.ref k0, .int x1, .int x2, .int x3, .int x4, .int x5] h := by
  obtain ⟨d, rfl⟩ : ∃ d', d = d' + 1 := ⟨d - 1, by omega⟩
  have hd := Nat.le_of_succ_le_succ hd
  refine Con.ofV rfl (Nat.le_of_ble_eq_true rfl) ?_
  unfold f_X11_swap at hf
  show V E (d + 1) K_X11_swap (ZI E r0 h0) h [(0, .ref k0), (1, .int x1), (2, .int x2), (3, .int x3), (4, .int x4), (5, .int x5)] [] 0
  refine V_aload_n 0 dX11_swap_0 rfl rfl ?_
  refine V_iload_n 1 dX11_swap_1 rfl rfl ?_
  refine V_iload_n 2 dX11_swap_2 rfl rfl ?_
  obtain ⟨r_3, h_2, e_1, hf⟩ := ob_s hf
  refine V_cvi (As := [.int x1, .int x2]) (rest := []) (c_X11_isParty (d := d) (Nat.le_trans (Nat.le_of_ble_eq_true rfl) hd) e_1 t_k0) ML_X11_182 MV_X11_isParty rfl t_k0 rfl rfl (Nat.le_of_ble_eq_true rfl) dX11_swap_3 ?_
  refine V_if_eq (tgt := 48) dX11_swap_6 (by decide) (fun c_4 => ?_) (fun c_4 => ?_)
  · have hf := it_s c_4 hf
    refine V_sub [] rfl ?_
    exact v_X11_swap_48 hd hf
  · have hf := if_s c_4 hf
    refine V_aload_n 0 dX11_swap_9 rfl rfl ?_
    refine V_iload_n 2 dX11_swap_10 rfl rfl ?_
    refine V_iload 4 dX11_swap_11 rfl ?_
    obtain ⟨r_7, h_6, e_5, hf⟩ := ob_s hf
    refine V_cvi (As := [.int x2, .int x4]) (rest := []) (c_X11_isGuest (d := d) (Nat.le_trans (Nat.le_of_ble_eq_true rfl) hd) e_5 t_k0) ML_X11_217 MV_X11_isGuest rfl t_k0 rfl rfl (Nat.le_of_ble_eq_true rfl) dX11_swap_13 ?_
    refine V_if_eq (tgt := 48) dX11_swap_16 (by decide) (fun c_8 => ?_) (fun c_8 => ?_)
    · have hf := it_s c_8 hf
      refine V_sub [] rfl ?_
      exact v_X11_swap_48 hd hf
    · have hf := if_s c_8 hf
      refine V_aload_n 0 dX11_swap_19 rfl rfl ?_
      refine V_iload_n 2 dX11_swap_20 rfl rfl ?_
      refine V_iload 5 dX11_swap_21 rfl ?_
      obtain ⟨r_11, h_10, e_9, hf⟩ := ob_s hf
      refine V_cvi (As := [.int x2, .int x5]) (rest := []) (c_X11_isGuest (d := d) (Nat.le_trans (Nat.le_of_ble_eq_true rfl) hd) e_9 t_k0) ML_X11_217 MV_X11_isGuest rfl t_k0 rfl rfl (Nat.le_of_ble_eq_true rfl) dX11_swap_23 ?_
      refine V_if_eq (tgt := 48) dX11_swap_26 (by decide) (fun c_12 => ?_) (fun c_12 => ?_)
      · have hf := it_s c_12 hf
        refine V_sub [] rfl ?_
        exact v_X11_swap_48 hd hf
      · have hf := if_s c_12 hf
        refine V_iload 4 dX11_swap_29 rfl ?_
        refine V_iload 5 dX11_swap_31 rfl ?_
        refine V_ic_eq (tgt := 48) dX11_swap_33 (by decide) (fun c_13 => ?_) (fun c_13 => ?_)
        · have hf := it_s c_13 hf
          refine V_sub [] rfl ?_
          exact v_X11_swap_48 hd hf
        · have hf := if_s c_13 hf
          refine V_aload_n 0 dX11_swap_36 rfl rfl ?_
          refine V_getR F_X11_73 rfl t_k0 rfl dX11_swap_37 ?_
          refine V_iload_n 3 dX11_swap_40 rfl rfl ?_
          refine V_iload_n 2 dX11_swap_41 rfl rfl ?_
          obtain ⟨r_16, h_15, e_14, hf⟩ := ob_s hf
          refine V_cvi (As := [.int x3, .int x2]) (rest := []) (c_X5_readOrder (d := d) (Nat.le_trans (Nat.le_of_ble_eq_true rfl) hd) e_14 (rfO t_k0 (Nat.le_of_ble_eq_true rfl) rfl rfl)) ML_X11_185 MV_X5_readOrder rfl (rfO t_k0 (Nat.le_of_ble_eq_true rfl) rfl rfl) rfl rfl (Nat.le_of_ble_eq_true rfl) dX11_swap_42 ?_
          refine V_if_ne (tgt := 51) dX11_swap_45 (by decide) (fun c_17 => ?_) (fun c_17 => ?_)
          · have hf := if_s c_17 hf
            refine V_aload_n 0 dX11_swap_51 rfl rfl ?_
            refine V_getR F_X11_73 rfl t_k0 rfl dX11_swap_52 ?_
            refine V_aload_n 0 dX11_swap_55 rfl rfl ?_
            refine V_iload_n 1 dX11_swap_56 rfl rfl ?_
            refine V_iload_n 2 dX11_swap_57 rfl rfl ?_
            obtain ⟨r_20, h_19, e_18, hf⟩ := ob_s hf
            refine V_cvi (As := [.int x1, .int x2]) (rest := [.ref (rf k0 11)]) (c_X11_openDoor (d := d) (Nat.le_trans (Nat.le_of_ble_eq_true rfl) hd) e_18 t_k0) ML_X11_195 MV_X11_openDoor rfl t_k0 rfl rfl (Nat.le_of_ble_eq_true rfl) dX11_swap_58 ?_
            obtain ⟨h_22, e_21, hf⟩ := ov_s hf
            refine V_cvv (As := [.int r_20]) (rest := []) (c_X5_begin (d := d) (Nat.le_trans (Nat.le_of_ble_eq_true rfl) hd) e_21 (rfO t_k0 (Nat.le_of_ble_eq_true rfl) rfl rfl)) ML_X11_198 MV_X5_begin rfl (rfO t_k0 (Nat.le_of_ble_eq_true rfl) rfl rfl) rfl rfl (Nat.le_of_ble_eq_true rfl) dX11_swap_61 ?_
            refine V_aload_n 0 dX11_swap_64 rfl rfl ?_
            refine V_getR F_X11_73 rfl t_k0 rfl dX11_swap_65 ?_
            refine V_iconst (v := 0) dX11_swap_68 (by decide) ?_
            obtain ⟨h_24, e_23, hf⟩ := ov_s hf
            refine V_cvv (As := [.int 0]) (rest := []) (c_X5_go (d := d) (Nat.le_trans (Nat.le_of_ble_eq_true rfl) hd) e_23 (rfO t_k0 (Nat.le_of_ble_eq_true rfl) rfl rfl)) ML_X11_200 MV_X5_go rfl (rfO t_k0 (Nat.le_of_ble_eq_true rfl) rfl rfl) rfl rfl (Nat.le_of_ble_eq_true rfl) dX11_swap_69 ?_
            refine V_aload_n 0 dX11_swap_72 rfl rfl ?_
            refine V_getR F_X11_73 rfl t_k0 rfl dX11_swap_73 ?_
            refine V_iload 4 dX11_swap_76 rfl ?_
            obtain ⟨r_27, h_26, e_25, hf⟩ := ob_s hf
            refine V_cvi (As := [.int x4]) (rest := []) (c_X5_worthOf (d := d) (Nat.le_trans (Nat.le_of_ble_eq_true rfl) hd) e_25 (rfO t_k0 (Nat.le_of_ble_eq_true rfl) rfl rfl)) ML_X11_335 MV_X5_worthOf rfl (rfO t_k0 (Nat.le_of_ble_eq_true rfl) rfl rfl) rfl rfl (Nat.le_of_ble_eq_true rfl) dX11_swap_78 ?_
            refine V_aload_n 0 dX11_swap_81 rfl rfl ?_
            refine V_getR F_X11_73 rfl t_k0 rfl dX11_swap_82 ?_
            refine V_iload 5 dX11_swap_85 rfl ?_
            obtain ⟨r_30, h_29, e_28, hf⟩ := ob_s hf
            refine V_cvi (As := [.int x5]) (rest := [.int r_27]) (c_X5_worthOf (d := d) (Nat.le_trans (Nat.le_of_ble_eq_true rfl) hd) e_28 (rfO t_k0 (Nat.le_of_ble_eq_true rfl) rfl rfl)) ML_X11_335 MV_X5_worthOf rfl (rfO t_k0 (Nat.le_of_ble_eq_true rfl) rfl rfl) rfl rfl (Nat.le_of_ble_eq_true rfl) dX11_swap_87 ?_
            refine V_iadd dX11_swap_90 ?_
            obtain ⟨x6_31, e_32, hf⟩ := nm_s hf
            refine V_istore (L' := [(6, .int x6_31), (0, .ref k0), (1, .int x1), (2, .int x2), (3, .int x3), (4, .int x4), (5, .int x5)]) dX11_swap_91 (Nat.le_of_ble_eq_true rfl) e_32 rfl ?_
            refine V_aload_n 1 dX11_swap_93 rfl rfl ?_
            refine V_getR F_X11_73 rfl t_k0 rfl dX11_swap_94 ?_
            refine V_aload_n 1 dX11_swap_97 rfl rfl ?_
            refine V_getR F_X11_73 rfl t_k0 rfl dX11_swap_98 ?_
            refine V_iload 5 dX11_swap_101 rfl ?_
            obtain ⟨r_35, h_34, e_33, hf⟩ := ob_s hf
            refine V_cvi (As := [.int x4]) (rest := [.ref (rf k0 11)]) (c_X5_placeOf (d := d) (Nat.le_trans (Nat.le_of_ble_eq_true rfl) hd) e_33 (rfO t_k0 (Nat.le_of_ble_eq_true rfl) rfl rfl)) ML_X11_338 MV_X5_placeOf rfl (rfO t_k0 (Nat.le_of_ble_eq_true rfl) rfl rfl) rfl rfl (Nat.le_of_ble_eq_true rfl) dX11_swap_103 ?_
            refine V_aload_n 1 dX11_swap_106 rfl rfl ?_
            refine V_getR F_X11_73 rfl t_k0 rfl dX11_swap_107 ?_
            refine V_iload 6 dX11_swap_110 rfl ?_
            obtain ⟨r_38, h_37, e_36, hf⟩ := ob_s hf
            refine V_cvi (As := [.int x5]) (rest := [.int r_35, .ref (rf k0 11)]) (c_X5_placeOf (d := d) (Nat.le_trans (Nat.le_of_ble_eq_true rfl) hd) e_36 (rfO t_k0 (Nat.le_of_ble_eq_true rfl) rfl rfl)) ML_X11_338 MV_X5_placeOf rfl (rfO t_k0 (Nat.le_of_ble_eq_true rfl) rfl rfl) rfl rfl (Nat.le_of_ble_eq_true rfl) dX11_swap_112 ?_
            obtain ⟨h_40, e_39, hf⟩ := ov_s hf
            refine V_cvv (As := [.int r_35, .int r_38]) (rest := []) (c_X5_exchange (d := d) (Nat.le_trans (Nat.le_of_ble_eq_true rfl) hd) e_39 (rfO t_k0 (Nat.le_of_ble_eq_true rfl) rfl rfl)) ML_X11_287 MV_X5_exchange rfl (rfO t_k0 (Nat.le_of_ble_eq_true rfl) rfl rfl) rfl rfl (Nat.le_of_ble_eq_true rfl) dX11_swap_115 ?_
            refine V_aload_n 1 dX11_swap_118 rfl rfl ?_
            refine V_getR F_X11_73 rfl t_k0 rfl dX11_swap_119 ?_
            refine V_iconst (v := 0) dX11_swap_122 (by decide) ?_
            obtain ⟨h_42, e_41, hf⟩ := ov_s hf
            refine V_cvv (As := [.int 0]) (rest := []) (c_X5_go (d := d) (Nat.le_trans (Nat.le_of_ble_eq_true rfl) hd) e_41 (rfO t_k0 (Nat.le_of_ble_eq_true rfl) rfl rfl)) ML_X11_200 MV_X5_go rfl (rfO t_k0 (Nat.le_of_ble_eq_true rfl) rfl rfl) rfl rfl (Nat.le_of_ble_eq_true rfl) dX11_swap_123 ?_
            refine V_aload_n 1 dX11_swap_126 rfl rfl ?_
            refine V_getR F_X11_73 rfl t_k0 rfl dX11_swap_127 ?_
            refine V_iload 5 dX11_swap_130 rfl ?_
            obtain ⟨r_45, h_44, e_43, hf⟩ := ob_s hf
            refine V_cvi (As := [.int x4]) (rest := []) (c_X5_worthOf (d := d) (Nat.le_trans (Nat.le_of_ble_eq_true rfl) hd) e_43 (rfO t_k0 (Nat.le_of_ble_eq_true rfl) rfl rfl)) ML_X11_335 MV_X5_worthOf rfl (rfO t_k0 (Nat.le_of_ble_eq_true rfl) rfl rfl) rfl rfl (Nat.le_of_ble_eq_true rfl) dX11_swap_132 ?_
            refine V_aload_n 1 dX11_swap_135 rfl rfl ?_
            refine V_getR F_X11_73 rfl t_k0 rfl dX11_swap_136 ?_
            refine V_iload 6 dX11_swap_139 rfl ?_
            obtain ⟨r_48, h_47, e_46, hf⟩ := ob_s hf
            refine V_cvi (As := [.int x5]) (rest := [.int r_45]) (c_X5_worthOf (d := d) (Nat.le_trans (Nat.le_of_ble_eq_true rfl) hd) e_46 (rfO t_k0 (Nat.le_of_ble_eq_true rfl) rfl rfl)) ML_X11_335 MV_X5_worthOf rfl (rfO t_k0 (Nat.le_of_ble_eq_true rfl) rfl rfl) rfl rfl (Nat.le_of_ble_eq_true rfl) dX11_swap_141 ?_
            refine V_iadd dX11_swap_144 ?_
            refine V_iload 0 dX11_swap_145 rfl ?_
            refine V_isub dX11_swap_147 ?_
            exact V_iret rfl (so_s hf) dX11_swap_148
          · have hf := it_s c_17 hf
            refine V_sub [] rfl ?_
            exact v_X11_swap_48 hd hf
theorem dX6_copy_0 : decode cX6_copy 0 = .ok (.aload_n 1, 1) := by decide +kernel
theorem dX6_copy_1 : decode cX6_copy 1 = .ok (.getfield 9, 3) := by decide +kernel
theorem dX6_copy_4 : decode cX6_copy 4 = .ok (.iconst 0, 1) := by decide +kernel
theorem dX6_copy_5 : decode cX6_copy 5 = .ok (.aload_n 0, 1) := by decide +kernel
theorem dX6_copy_6 : decode cX6_copy 6 = .ok (.getfield 9, 3) := by decide +kernel
theorem dX6_copy_9 : decode cX6_copy 9 = .ok (.iconst 0, 1) := by decide +kernel
theorem dX6_copy_10 : decode cX6_copy 10 = .ok (.aload_n 0, 1) := by decide +kernel
theorem dX6_copy_11 : decode cX6_copy 11 = .ok (.getfield 9, 3) := by decide +kernel
theorem dX6_copy_14 : decode cX6_copy 14 = .ok (.arraylength, 1) := by decide +kernel
theorem dX6_copy_15 : decode cX6_copy 15 = .ok (.invokestatic 22, 3) := by decide +kernel
theorem dX6_copy_18 : decode cX6_copy 18 = .ok (.aload_n 0, 1) := by decide +kernel
theorem dX6_copy_19 : decode cX6_copy 19 = .ok (.getfield 15, 3) := by decide +kernel
theorem dX6_copy_22 : decode cX6_copy 22 = .ok (.iconst (-1), 1) := by decide +kernel
theorem dX6_copy_23 : decode cX6_copy 23 = .ok (.invokestatic 28, 3) := by decide +kernel
theorem dX6_copy_26 : decode cX6_copy 26 = .ok (.aload_n 0, 1) := by decide +kernel
theorem dX6_copy_27 : decode cX6_copy 27 = .ok (.aload_n 1, 1) := by decide +kernel
theorem dX6_copy_28 : decode cX6_copy 28 = .ok (.getfield 34, 3) := by decide +kernel
theorem dX6_copy_31 : decode cX6_copy 31 = .ok (.putfield 34, 3) := by decide +kernel
theorem dX6_copy_34 : decode cX6_copy 34 = .ok (.return_, 1) := by decide +kernel
theorem F_X6_15 : FLk RX6 15 6 1 := ⟨RX6, TX6, 3, rfl, rfl, iw_X6, by decide, Or.inl fl_X6_15⟩
theorem ML_X6_28 : MLk RX6 28 yJ7_fill_53178 := Or.inl ml_X6_28
def f_X6_copy (k0 : Nat) (k1 : Nat) (h : AH) : Option AH :=
  og (cok 0 0 (Int32.ofNat (an (rf k0 0))) (an (rf k1 0)) (an (rf k0 0))) <|
  nm (sCp h (rf k1 0) 0 (rf k0 0) 0 (Int32.ofNat (an (rf k0 0)))) fun h_2 =>
  ov (f_J7_fill_53178 (rf k0 1) (-1) h_2) fun h_5 =>
  nm (sI h_5 k0 2 (h_5.1 k1 2)) fun h_6 =>
  some h_6
set_option maxHeartbeats 4000000 in
set_option maxRecDepth 100000 in
theorem c_X6_copy {E : EV} {d : Nat} (hd : 1 + 1 ≤ d) {k0 : Nat} {k1 : Nat} {h : AH} {h0 : AH} (hf : f_X6_copy k0 k1 h = some h0) (t_k0 : kd k0 = (0, 6)) (t_k1 : kd k1 = (0, 6)) : Con E d K_X6_copy (ZV E h0) [.ref k0, .ref k1] h := by
  obtain ⟨d, rfl⟩ : ∃ d', d = d' + 1 := ⟨d - 1, by omega⟩
  have hd := Nat.le_of_succ_le_succ hd
  refine Con.ofV rfl (Nat.le_of_ble_eq_true rfl) ?_
  unfold f_X6_copy at hf
  show V E (d + 1) K_X6_copy (ZV E h0) h [(0, .ref k0), (1, .ref k1)] [] 0
  refine V_aload_n 1 dX6_copy_0 rfl rfl ?_
  refine V_getR F_X6_9 rfl t_k1 rfl dX6_copy_1 ?_
  refine V_iconst (v := 0) dX6_copy_4 (by decide) ?_
  refine V_aload_n 0 dX6_copy_5 rfl rfl ?_
  refine V_getR F_X6_9 rfl t_k0 rfl dX6_copy_6 ?_
  refine V_iconst (v := 0) dX6_copy_9 (by decide) ?_
  refine V_aload_n 0 dX6_copy_10 rfl rfl ?_
  refine V_getR F_X6_9 rfl t_k0 rfl dX6_copy_11 ?_
  refine V_alen (rfA t_k0 (Nat.le_of_ble_eq_true rfl) rfl rfl (by decide)) (by decide) dX6_copy_14 ?_
  obtain ⟨b_1, hf⟩ := og_s hf
  obtain ⟨h_2, e_3, hf⟩ := nm_s hf
  refine V_acopy ml_X6_22 rfl (rfA t_k1 (Nat.le_of_ble_eq_true rfl) rfl rfl (by decide)) (rfA t_k0 (Nat.le_of_ble_eq_true rfl) rfl rfl (by decide)) b_1 e_3 (Nat.le_of_ble_eq_true rfl) dX6_copy_15 ?_
  refine V_aload_n 0 dX6_copy_18 rfl rfl ?_
  refine V_getR F_X6_15 rfl t_k0 rfl dX6_copy_19 ?_
  refine V_iconst (v := (-1)) dX6_copy_22 (by decide) ?_
  obtain ⟨h_5, e_4, hf⟩ := ov_s hf
  refine V_csv (As := [.ref (rf k0 1), .int (-1)]) (rest := []) (c_J7_fill_53178 (d := d) (Nat.le_trans (Nat.le_of_ble_eq_true rfl) hd) e_4 (rfA t_k0 (Nat.le_of_ble_eq_true rfl) rfl rfl (by decide))) ML_X6_28 MS_J7_fill_53178 rfl rfl rfl (Nat.le_of_ble_eq_true rfl) dX6_copy_23 ?_
  refine V_aload_n 0 dX6_copy_26 rfl rfl ?_
  refine V_aload_n 1 dX6_copy_27 rfl rfl ?_
  refine V_getI F_X6_34 rfl t_k1 rfl dX6_copy_28 ?_
  obtain ⟨h_6, e_7, hf⟩ := nm_s hf
  refine V_putI P_X6_34 rfl t_k0 rfl e_7 dX6_copy_31 ?_
  exact V_vret rfl (so_s hf) dX6_copy_34
theorem dX9_begin_0 : decode cX9_begin 0 = .ok (.iconst 0, 1) := by decide +kernel
theorem dX9_begin_1 : decode cX9_begin 1 = .ok (.istore_n 2, 1) := by decide +kernel
theorem dX9_begin_2 : decode cX9_begin 2 = .ok (.iload_n 2, 1) := by decide +kernel
theorem dX9_begin_3 : decode cX9_begin 3 = .ok (.bipush 6, 2) := by decide +kernel
theorem dX9_begin_5 : decode cX9_begin 5 = .ok (.if_icmp .ge 73, 3) := by decide +kernel
theorem dX9_begin_8 : decode cX9_begin 8 = .ok (.iload_n 2, 1) := by decide +kernel
theorem dX9_begin_9 : decode cX9_begin 9 = .ok (.aload_n 1, 1) := by decide +kernel
theorem dX9_begin_10 : decode cX9_begin 10 = .ok (.getfield 21, 3) := by decide +kernel
theorem dX9_begin_13 : decode cX9_begin 13 = .ok (.if_icmp .ge 7, 3) := by decide +kernel
theorem dX9_begin_16 : decode cX9_begin 16 = .ok (.iconst 1, 1) := by decide +kernel
theorem dX9_begin_17 : decode cX9_begin 17 = .ok (.goto 4, 3) := by decide +kernel
theorem dX9_begin_20 : decode cX9_begin 20 = .ok (.iconst 0, 1) := by decide +kernel
theorem dX9_begin_21 : decode cX9_begin 21 = .ok (.istore_n 3, 1) := by decide +kernel
theorem dX9_begin_22 : decode cX9_begin 22 = .ok (.aload_n 0, 1) := by decide +kernel
theorem dX9_begin_23 : decode cX9_begin 23 = .ok (.getfield 9, 3) := by decide +kernel
theorem dX9_begin_26 : decode cX9_begin 26 = .ok (.iload_n 2, 1) := by decide +kernel
theorem dX9_begin_27 : decode cX9_begin 27 = .ok (.iload_n 3, 1) := by decide +kernel
theorem dX9_begin_28 : decode cX9_begin 28 = .ok (.ifCond .eq 7, 3) := by decide +kernel
theorem dX9_begin_31 : decode cX9_begin 31 = .ok (.iload_n 2, 1) := by decide +kernel
theorem dX9_begin_32 : decode cX9_begin 32 = .ok (.goto 4, 3) := by decide +kernel
theorem dX9_begin_35 : decode cX9_begin 35 = .ok (.iconst (-1), 1) := by decide +kernel
theorem dX9_begin_36 : decode cX9_begin 36 = .ok (.iastore, 1) := by decide +kernel
theorem dX9_begin_37 : decode cX9_begin 37 = .ok (.aload_n 0, 1) := by decide +kernel
theorem dX9_begin_38 : decode cX9_begin 38 = .ok (.getfield 15, 3) := by decide +kernel
theorem dX9_begin_41 : decode cX9_begin 41 = .ok (.iload_n 2, 1) := by decide +kernel
theorem dX9_begin_42 : decode cX9_begin 42 = .ok (.iload_n 3, 1) := by decide +kernel
theorem dX9_begin_43 : decode cX9_begin 43 = .ok (.ifCond .eq 7, 3) := by decide +kernel
theorem dX9_begin_46 : decode cX9_begin 46 = .ok (.iload_n 2, 1) := by decide +kernel
theorem dX9_begin_47 : decode cX9_begin 47 = .ok (.goto 4, 3) := by decide +kernel
theorem dX9_begin_50 : decode cX9_begin 50 = .ok (.iconst (-1), 1) := by decide +kernel
theorem dX9_begin_51 : decode cX9_begin 51 = .ok (.iastore, 1) := by decide +kernel
theorem dX9_begin_52 : decode cX9_begin 52 = .ok (.aload_n 0, 1) := by decide +kernel
theorem dX9_begin_53 : decode cX9_begin 53 = .ok (.getfield 18, 3) := by decide +kernel
theorem dX9_begin_56 : decode cX9_begin 56 = .ok (.iload_n 2, 1) := by decide +kernel
theorem dX9_begin_57 : decode cX9_begin 57 = .ok (.iload_n 3, 1) := by decide +kernel
theorem dX9_begin_58 : decode cX9_begin 58 = .ok (.ifCond .eq 12, 3) := by decide +kernel
theorem dX9_begin_61 : decode cX9_begin 61 = .ok (.aload_n 1, 1) := by decide +kernel
theorem dX9_begin_62 : decode cX9_begin 62 = .ok (.iload_n 2, 1) := by decide +kernel
theorem dX9_begin_63 : decode cX9_begin 63 = .ok (.iconst 2, 1) := by decide +kernel
theorem dX9_begin_64 : decode cX9_begin 64 = .ok (.invokevirtual 27, 3) := by decide +kernel
theorem dX9_begin_67 : decode cX9_begin 67 = .ok (.goto 4, 3) := by decide +kernel
theorem dX9_begin_70 : decode cX9_begin 70 = .ok (.iconst 0, 1) := by decide +kernel
theorem dX9_begin_71 : decode cX9_begin 71 = .ok (.iastore, 1) := by decide +kernel
theorem dX9_begin_72 : decode cX9_begin 72 = .ok (.iinc 2 1, 3) := by decide +kernel
theorem dX9_begin_75 : decode cX9_begin 75 = .ok (.goto (-73), 3) := by decide +kernel
theorem dX9_begin_78 : decode cX9_begin 78 = .ok (.return_, 1) := by decide +kernel
theorem F_X9_21 : FLk RX9 21 6 2 := ⟨RX6, TX6, 3, rfl, rfl, iw_X6, by decide, Or.inr ⟨_, fn_X9_21⟩⟩
def f_X9_begin_71 (q2 : Nat → Nat → Int32 → AH → Option AH) (k0 : Nat) (k1 : Nat) (x2 : Int32) (s0 : Int32) (s1 : Int32) (sk2 : Nat) (h : AH) : Option AH :=
  og (ix s1 (an sk2)) <|
  nm (sI h sk2 s1.toNatClampNeg s0) fun h_2 =>
  nm (x2 + 1) fun x2_4 =>
  q2 k0 k1 x2_4 h_2
def f_X9_begin_51 (q2 : Nat → Nat → Int32 → AH → Option AH) (k0 : Nat) (k1 : Nat) (x2 : Int32) (x3 : Int32) (s0 : Int32) (s1 : Int32) (sk2 : Nat) (h : AH) : Option AH :=
  og (ix s1 (an sk2)) <|
  nm (sI h sk2 s1.toNatClampNeg s0) fun h_2 =>
  if x3 = 0 then (
    f_X9_begin_71 q2 k0 k1 x2 0 x2 (rf k0 2) h_2
  ) else (
    ob (f_X6_item k1 x2 2 h_2) fun r_7 h_6 =>
    f_X9_begin_71 q2 k0 k1 x2 r_7 x2 (rf k0 2) h_6
  )
def f_X9_begin_36 (q2 : Nat → Nat → Int32 → AH → Option AH) (k0 : Nat) (k1 : Nat) (x2 : Int32) (x3 : Int32) (s0 : Int32) (s1 : Int32) (sk2 : Nat) (h : AH) : Option AH :=
  og (ix s1 (an sk2)) <|
  nm (sI h sk2 s1.toNatClampNeg s0) fun h_2 =>
  if x3 = 0 then (
    f_X9_begin_51 q2 k0 k1 x2 x3 (-1) x2 (rf k0 1) h_2
  ) else (
    f_X9_begin_51 q2 k0 k1 x2 x3 x2 x2 (rf k0 1) h_2
  )
def f_X9_begin_21 (q2 : Nat → Nat → Int32 → AH → Option AH) (k0 : Nat) (k1 : Nat) (x2 : Int32) (s0 : Int32) (h : AH) : Option AH :=
  if s0 = 0 then (
    f_X9_begin_36 q2 k0 k1 x2 s0 (-1) x2 (rf k0 0) h
  ) else (
    f_X9_begin_36 q2 k0 k1 x2 s0 x2 x2 (rf k0 0) h
  )
def f_X9_begin_2 : Nat → Nat → Nat → Int32 → AH → Option AH
  | 0, _, _, _, _ => none
  | n + 1, k0, k1, x2, h =>
    if 6 ≤ x2 then (
      some h
    ) else (
      if (h.1 k1 2) ≤ x2 then (
        f_X9_begin_21 (f_X9_begin_2 n) k0 k1 x2 0 h
      ) else (
        f_X9_begin_21 (f_X9_begin_2 n) k0 k1 x2 1 h
      )
    )
def f_X9_begin (k0 : Nat) (k1 : Nat) (h : AH) : Option AH :=
  f_X9_begin_2 FU k0 k1 0 h
set_option maxHeartbeats 4000000 in
set_option maxRecDepth 100000 in
theorem v_X9_begin_71 {E : EV} {d : Nat} (hd : 1 ≤ d) {h0 : AH} {q2 : Nat → Nat → Int32 → AH → Option AH} (cq2 : ∀ (k0 : Nat) (k1 : Nat) (x2 : Int32) (h : AH), q2 k0 k1 x2 h = some h0 → kd k0 = (0, 9) → kd k1 = (0, 6) → V E (d + 1) K_X9_begin (ZV E h0) h [(0, .ref k0), (1, .ref k1), (2, .int x2)] [] 2) {k0 : Nat} {k1 : Nat} {x2 : Int32} {s0 : Int32} {s1 : Int32} {sk2 : Nat} {h : AH} (hf : f_X9_begin_71 q2 k0 k1 x2 s0 s1 sk2 h = some h0) (t_k0 : kd k0 = (0, 9)) (t_k1 : kd k1 = (0, 6)) (t_sk2 : (kd sk2).1 = 1) : V E (d + 1) K_X9_begin (ZV E h0) h [(0, .ref k0), (1, .ref k1), (2, .int x2)] [.int s0, .int s1, .ref sk2] 71 := by
  unfold f_X9_begin_71 at hf
  obtain ⟨b_1, hf⟩ := og_s hf
  obtain ⟨h_2, e_3, hf⟩ := nm_s hf
  refine V_iast t_sk2 b_1 e_3 dX9_begin_71 ?_
  obtain ⟨x2_4, e_5, hf⟩ := nm_s hf
  refine V_iinc (a := 1) (L' := [(2, .int x2_4), (0, .ref k0), (1, .ref k1)]) 2 dX9_begin_72 rfl (by decide) (Nat.le_of_ble_eq_true rfl) e_5 rfl ?_
  refine V_goto (tgt := 2) dX9_begin_75 (by decide) ?_
  refine V_sub [1, 2, 0] rfl ?_
  exact cq2 _ _ _ _ hf t_k0 t_k1
set_option maxHeartbeats 4000000 in
set_option maxRecDepth 100000 in
theorem v_X9_begin_51 {E : EV} {d : Nat} (hd : 1 ≤ d) {h0 : AH} {q2 : Nat → Nat → Int32 → AH → Option AH} (cq2 : ∀ (k0 : Nat) (k1 : Nat) (x2 : Int32) (h : AH), q2 k0 k1 x2 h = some h0 → kd k0 = (0, 9) → kd k1 = (0, 6) → V E (d + 1) K_X9_begin (ZV E h0) h [(0, .ref k0), (1, .ref k1), (2, .int x2)] [] 2) {k0 : Nat} {k1 : Nat} {x2 : Int32} {x3 : Int32} {s0 : Int32} {s1 : Int32} {sk2 : Nat} {h : AH} (hf : f_X9_begin_51 q2 k0 k1 x2 x3 s0 s1 sk2 h = some h0) (t_k0 : kd k0 = (0, 9)) (t_k1 : kd k1 = (0, 6)) (t_sk2 : (kd sk2).1 = 1) : V E (d + 1) K_X9_begin (ZV E h0) h [(0, .ref k0), (1, .ref k1), (2, .int x2), (3, .int x3)] [.int s0, .int s1, .ref sk2] 51 := by
  unfold f_X9_begin_51 at hf
  obtain ⟨b_1, hf⟩ := og_s hf
  obtain ⟨h_2, e_3, hf⟩ := nm_s hf
  refine V_iast t_sk2 b_1 e_3 dX9_begin_51 ?_
  refine V_aload_n 0 dX9_begin_52 rfl rfl ?_
  refine V_getR F_X9_18 rfl t_k0 rfl dX9_begin_53 ?_
  refine V_iload_n 2 dX9_begin_56 rfl rfl ?_
  refine V_iload_n 3 dX9_begin_57 rfl rfl ?_
  refine V_if_eq (tgt := 70) dX9_begin_58 (by decide) (fun c_4 => ?_) (fun c_4 => ?_)
  · have hf := it_s c_4 hf
    refine V_iconst (v := 0) dX9_begin_70 (by decide) ?_
    refine V_sub [0, 1, 2] rfl ?_
    exact v_X9_begin_71 hd cq2 hf t_k0 t_k1 (rfA t_k0 (Nat.le_of_ble_eq_true rfl) rfl rfl (by decide))
  · have hf := if_s c_4 hf
    refine V_aload_n 1 dX9_begin_61 rfl rfl ?_
    refine V_iload_n 2 dX9_begin_62 rfl rfl ?_
    refine V_iconst (v := 2) dX9_begin_63 (by decide) ?_
    obtain ⟨r_7, h_6, e_5, hf⟩ := ob_s hf
    refine V_cvi (As := [.int x2, .int 2]) (rest := [.int x2, .ref (rf k0 2)]) (c_X6_item (d := d) (Nat.le_trans (Nat.le_of_ble_eq_true rfl) hd) e_5 t_k1) ML_X9_27 MV_X6_item rfl t_k1 rfl rfl (Nat.le_of_ble_eq_true rfl) dX9_begin_64 ?_
    refine V_goto (tgt := 71) dX9_begin_67 (by decide) ?_
    refine V_sub [0, 1, 2] rfl ?_
    exact v_X9_begin_71 hd cq2 hf t_k0 t_k1 (rfA t_k0 (Nat.le_of_ble_eq_true rfl) rfl rfl (by decide))
set_option maxHeartbeats 4000000 in
set_option maxRecDepth 100000 in
theorem v_X9_begin_36 {E : EV} {d : Nat} (hd : 1 ≤ d) {h0 : AH} {q2 : Nat → Nat → Int32 → AH → Option AH} (cq2 : ∀ (k0 : Nat) (k1 : Nat) (x2 : Int32) (h : AH), q2 k0 k1 x2 h = some h0 → kd k0 = (0, 9) → kd k1 = (0, 6) → V E (d + 1) K_X9_begin (ZV E h0) h [(0, .ref k0), (1, .ref k1), (2, .int x2)] [] 2) {k0 : Nat} {k1 : Nat} {x2 : Int32} {x3 : Int32} {s0 : Int32} {s1 : Int32} {sk2 : Nat} {h : AH} (hf : f_X9_begin_36 q2 k0 k1 x2 x3 s0 s1 sk2 h = some h0) (t_k0 : kd k0 = (0, 9)) (t_k1 : kd k1 = (0, 6)) (t_sk2 : (kd sk2).1 = 1) : V E (d + 1) K_X9_begin (ZV E h0) h [(0, .ref k0), (1, .ref k1), (2, .int x2), (3, .int x3)] [.int s0, .int s1, .ref sk2] 36 := by
  unfold f_X9_begin_36 at hf
  obtain ⟨b_1, hf⟩ := og_s hf
  obtain ⟨h_2, e_3, hf⟩ := nm_s hf
  refine V_iast t_sk2 b_1 e_3 dX9_begin_36 ?_
  refine V_aload_n 0 dX9_begin_37 rfl rfl ?_
  refine V_getR F_X9_15 rfl t_k0 rfl dX9_begin_38 ?_
  refine V_iload_n 2 dX9_begin_41 rfl rfl ?_
  refine V_iload_n 3 dX9_begin_42 rfl rfl ?_
  refine V_if_eq (tgt := 50) dX9_begin_43 (by decide) (fun c_4 => ?_) (fun c_4 => ?_)
  · have hf := it_s c_4 hf
    refine V_iconst (v := (-1)) dX9_begin_50 (by decide) ?_
    exact v_X9_begin_51 hd cq2 hf t_k0 t_k1 (rfA t_k0 (Nat.le_of_ble_eq_true rfl) rfl rfl (by decide))
  · have hf := if_s c_4 hf
    refine V_iload_n 2 dX9_begin_46 rfl rfl ?_
    refine V_goto (tgt := 51) dX9_begin_47 (by decide) ?_
    exact v_X9_begin_51 hd cq2 hf t_k0 t_k1 (rfA t_k0 (Nat.le_of_ble_eq_true rfl) rfl rfl (by decide))
set_option maxHeartbeats 4000000 in
set_option maxRecDepth 100000 in
theorem v_X9_begin_21 {E : EV} {d : Nat} (hd : 1 ≤ d) {h0 : AH} {q2 : Nat → Nat → Int32 → AH → Option AH} (cq2 : ∀ (k0 : Nat) (k1 : Nat) (x2 : Int32) (h : AH), q2 k0 k1 x2 h = some h0 → kd k0 = (0, 9) → kd k1 = (0, 6) → V E (d + 1) K_X9_begin (ZV E h0) h [(0, .ref k0), (1, .ref k1), (2, .int x2)] [] 2) {k0 : Nat} {k1 : Nat} {x2 : Int32} {s0 : Int32} {h : AH} (hf : f_X9_begin_21 q2 k0 k1 x2 s0 h = some h0) (t_k0 : kd k0 = (0, 9)) (t_k1 : kd k1 = (0, 6)) : V E (d + 1) K_X9_begin (ZV E h0) h [(0, .ref k0), (1, .ref k1), (2, .int x2)] [.int s0] 21 := by
  unfold f_X9_begin_21 at hf
  refine V_istore_n (L' := [(3, .int s0), (0, .ref k0), (1, .ref k1), (2, .int x2)]) dX9_begin_21 rfl (Nat.le_of_ble_eq_true rfl) rfl rfl ?_
  refine V_aload_n 1 dX9_begin_22 rfl rfl ?_
  refine V_getR F_X9_9 rfl t_k0 rfl dX9_begin_23 ?_
  refine V_iload_n 3 dX9_begin_26 rfl rfl ?_
  refine V_iload_n 0 dX9_begin_27 rfl rfl ?_
  refine V_if_eq (tgt := 35) dX9_begin_28 (by decide) (fun c_1 => ?_) (fun c_1 => ?_)
  · have hf := it_s c_1 hf
    refine V_iconst (v := (-1)) dX9_begin_35 (by decide) ?_
    refine V_sub [1, 2, 3, 0] rfl ?_
    exact v_X9_begin_36 hd cq2 hf t_k0 t_k1 (rfA t_k0 (Nat.le_of_ble_eq_true rfl) rfl rfl (by decide))
  · have hf := if_s c_1 hf
    refine V_iload_n 3 dX9_begin_31 rfl rfl ?_
    refine V_goto (tgt := 36) dX9_begin_32 (by decide) ?_
    refine V_sub [1, 2, 3, 0] rfl ?_
    exact v_X9_begin_36 hd cq2 hf t_k0 t_k1 (rfA t_k0 (Nat.le_of_ble_eq_true rfl) rfl rfl (by decide))
set_option maxHeartbeats 4000000 in
set_option maxRecDepth 100000 in
theorem v_X9_begin_2 {E : EV} {d : Nat} (hd : 1 ≤ d) {h0 : AH} : ∀ (n : Nat) (k0 : Nat) (k1 : Nat) (x2 : Int32) (h : AH), f_X9_begin_2 n k0 k1 x2 h = some h0 → kd k0 = (0, 9) → kd k1 = (0, 6) → V E (d + 1) K_X9_begin (ZV E h0) h [(0, .ref k0), (1, .ref k1), (2, .int x2)] [] 2 := by
  intro n
  induction n with
  | zero =>
    intro k0 k1 x2 h hf
    rw [f_X9_begin_2] at hf
    cases hf
  | succ n ih =>
    intro k0 k1 x2 h hf t_k0 t_k1
    rw [f_X9_begin_2] at hf
    refine V_iload_n 2 dX9_begin_2 rfl rfl ?_
    refine V_bipush (v := 6) dX9_begin_3 (by decide) ?_
    refine V_ic_ge (tgt := 78) dX9_begin_5 (by decide) (fun c_1 => ?_) (fun c_1 => ?_)
    · have hf := it_s c_1 hf
      exact V_vret rfl (so_s hf) dX9_begin_78
    · have hf := if_s c_1 hf
      refine V_iload_n 2 dX9_begin_8 rfl rfl ?_
      refine V_aload_n 1 dX9_begin_9 rfl rfl ?_
      refine V_getI F_X9_21 rfl t_k1 rfl dX9_begin_10 ?_
      refine V_ic_ge (tgt := 20) dX9_begin_13 (by decide) (fun c_2 => ?_) (fun c_2 => ?_)
      · have hf := it_s c_2 hf
        refine V_iconst (v := 0) dX9_begin_20 (by decide) ?_
        exact v_X9_begin_21 hd ih hf t_k0 t_k1
      · have hf := if_s c_2 hf
        refine V_iconst (v := 1) dX9_begin_16 (by decide) ?_
        refine V_goto (tgt := 21) dX9_begin_17 (by decide) ?_
        exact v_X9_begin_21 hd ih hf t_k0 t_k1
set_option maxHeartbeats 4000000 in
set_option maxRecDepth 100000 in
theorem c_X9_begin {E : EV} {d : Nat} (hd : 1 + 1 ≤ d) {k0 : Nat} {k1 : Nat} {h : AH} {h0 : AH} (hf : f_X9_begin k0 k1 h = some h0) (t_k0 : kd k0 = (0, 9)) (t_k1 : kd k1 = (0, 6)) : Con E d K_X9_begin (ZV E h0) [.ref k0, .ref k1] h := by
  obtain ⟨d, rfl⟩ : ∃ d', d = d' + 1 := ⟨d - 1, by omega⟩
  have hd := Nat.le_of_succ_le_succ hd
  refine Con.ofV rfl (Nat.le_of_ble_eq_true rfl) ?_
  unfold f_X9_begin at hf
  show V E (d + 1) K_X9_begin (ZV E h0) h [(0, .ref k0), (1, .ref k1)] [] 0
  refine V_iconst (v := 0) dX9_begin_0 (by decide) ?_
  refine V_istore_n (L' := [(2, .int 0), (0, .ref k0), (1, .ref k1)]) dX9_begin_1 rfl (Nat.le_of_ble_eq_true rfl) rfl rfl ?_
  refine V_sub [1, 2, 0] rfl ?_
  exact v_X9_begin_2 hd FU _ _ _ _ hf t_k0 t_k1
theorem dX11_takePeople_0 : decode cX11_takePeople 0 = .ok (.aload_n 0, 1) := by decide +kernel
theorem dX11_takePeople_1 : decode cX11_takePeople 1 = .ok (.getfield 19, 3) := by decide +kernel
theorem dX11_takePeople_4 : decode cX11_takePeople 4 = .ok (.aload_n 0, 1) := by decide +kernel
theorem dX11_takePeople_5 : decode cX11_takePeople 5 = .ok (.getfield 23, 3) := by decide +kernel
theorem dX11_takePeople_8 : decode cX11_takePeople 8 = .ok (.invokevirtual 130, 3) := by decide +kernel
theorem dX11_takePeople_11 : decode cX11_takePeople 11 = .ok (.aload_n 0, 1) := by decide +kernel
theorem dX11_takePeople_12 : decode cX11_takePeople 12 = .ok (.getfield 45, 3) := by decide +kernel
theorem dX11_takePeople_15 : decode cX11_takePeople 15 = .ok (.aload_n 0, 1) := by decide +kernel
theorem dX11_takePeople_16 : decode cX11_takePeople 16 = .ok (.getfield 19, 3) := by decide +kernel
theorem dX11_takePeople_19 : decode cX11_takePeople 19 = .ok (.invokevirtual 134, 3) := by decide +kernel
theorem dX11_takePeople_22 : decode cX11_takePeople 22 = .ok (.aload_n 0, 1) := by decide +kernel
theorem dX11_takePeople_23 : decode cX11_takePeople 23 = .ok (.getfield 55, 3) := by decide +kernel
theorem dX11_takePeople_26 : decode cX11_takePeople 26 = .ok (.invokevirtual 137, 3) := by decide +kernel
theorem dX11_takePeople_29 : decode cX11_takePeople 29 = .ok (.aload_n 0, 1) := by decide +kernel
theorem dX11_takePeople_30 : decode cX11_takePeople 30 = .ok (.iconst 0, 1) := by decide +kernel
theorem dX11_takePeople_31 : decode cX11_takePeople 31 = .ok (.putfield 140, 3) := by decide +kernel
theorem dX11_takePeople_34 : decode cX11_takePeople 34 = .ok (.aload_n 0, 1) := by decide +kernel
theorem dX11_takePeople_35 : decode cX11_takePeople 35 = .ok (.getfield 12, 3) := by decide +kernel
theorem dX11_takePeople_38 : decode cX11_takePeople 38 = .ok (.iconst 0, 1) := by decide +kernel
theorem dX11_takePeople_39 : decode cX11_takePeople 39 = .ok (.putfield 106, 3) := by decide +kernel
theorem dX11_takePeople_42 : decode cX11_takePeople 42 = .ok (.aload_n 0, 1) := by decide +kernel
theorem dX11_takePeople_43 : decode cX11_takePeople 43 = .ok (.getfield 19, 3) := by decide +kernel
theorem dX11_takePeople_46 : decode cX11_takePeople 46 = .ok (.getfield 144, 3) := by decide +kernel
theorem dX11_takePeople_49 : decode cX11_takePeople 49 = .ok (.ireturn, 1) := by decide +kernel
theorem ML_X11_130 : MLk RX11 130 yX6_copy := Or.inl ml_X11_130
theorem MV_X6_copy : MVk K_X6_copy 1 6 := ⟨⟨cd_X6_copy, in_X6, ⟨by decide, by decide, by decide +kernel⟩, by decide⟩, im_X6_copy, se_X6_copy, _, _, rfl⟩
theorem ML_X11_134 : MLk RX11 134 yX9_begin := Or.inl ml_X11_134
theorem MV_X9_begin : MVk K_X9_begin 1 9 := ⟨⟨cd_X9_begin, in_X9, ⟨by decide, by decide, by decide +kernel⟩, by decide⟩, im_X9_begin, se_X9_begin, _, _, rfl⟩
theorem ML_X11_137 : MLk RX11 137 yX1_clear := Or.inl ml_X11_137
theorem MV_X1_clear : MVk K_X1_clear 0 1 := ⟨⟨cd_X1_clear, in_X1, ⟨by decide, by decide, by decide +kernel⟩, by decide⟩, im_X1_clear, se_X1_clear, _, _, rfl⟩
def f_X11_takePeople (k0 : Nat) (h : AH) : Option (Int32 × AH) :=
  ov (f_X6_copy (rf k0 1) (rf k0 2) h) fun h_2 =>
  ov (f_X9_begin (rf k0 6) (rf k0 1) h_2) fun h_4 =>
  ov (f_X1_clear (rf k0 9) h_4) fun h_6 =>
  nm (sI h_6 k0 8 0) fun h_7 =>
  nm (sI h_7 (rf k0 0) 1 0) fun h_9 =>
  some ((h_9.1 (rf k0 1) 2), h_9)
set_option maxHeartbeats 4000000 in
set_option maxRecDepth 100000 in
theorem c_X11_takePeople {E : EV} {d : Nat} (hd : 2 + 1 ≤ d) {k0 : Nat} {h : AH} {r0 : Int32} {h0 : AH} (hf : f_X11_takePeople k0 h = some (r0, h0)) (t_k0 : kd k0 = (0, 11)) : Con E d K_X11_takePeople (ZI E r0 h0) [.ref k0] h := by
  obtain ⟨d, rfl⟩ : ∃ d', d = d' + 1 := ⟨d - 1, by omega⟩
  have hd := Nat.le_of_succ_le_succ hd
  refine Con.ofV rfl (Nat.le_of_ble_eq_true rfl) ?_
  unfold f_X11_takePeople at hf
  show V E (d + 1) K_X11_takePeople (ZI E r0 h0) h [(0, .ref k0)] [] 0
  refine V_aload_n 0 dX11_takePeople_0 rfl rfl ?_
  refine V_getR F_X11_19 rfl t_k0 rfl dX11_takePeople_1 ?_
  refine V_aload_n 0 dX11_takePeople_4 rfl rfl ?_
  refine V_getR F_X11_23 rfl t_k0 rfl dX11_takePeople_5 ?_
  obtain ⟨h_2, e_1, hf⟩ := ov_s hf
  refine V_cvv (As := [.ref (rf k0 2)]) (rest := []) (c_X6_copy (d := d) (Nat.le_trans (Nat.le_of_ble_eq_true rfl) hd) e_1 (rfO t_k0 (Nat.le_of_ble_eq_true rfl) rfl rfl) (rfO t_k0 (Nat.le_of_ble_eq_true rfl) rfl rfl)) ML_X11_130 MV_X6_copy rfl (rfO t_k0 (Nat.le_of_ble_eq_true rfl) rfl rfl) rfl rfl (Nat.le_of_ble_eq_true rfl) dX11_takePeople_8 ?_
  refine V_aload_n 0 dX11_takePeople_11 rfl rfl ?_
  refine V_getR F_X11_45 rfl t_k0 rfl dX11_takePeople_12 ?_
  refine V_aload_n 0 dX11_takePeople_15 rfl rfl ?_
  refine V_getR F_X11_19 rfl t_k0 rfl dX11_takePeople_16 ?_
  obtain ⟨h_4, e_3, hf⟩ := ov_s hf
  refine V_cvv (As := [.ref (rf k0 1)]) (rest := []) (c_X9_begin (d := d) (Nat.le_trans (Nat.le_of_ble_eq_true rfl) hd) e_3 (rfO t_k0 (Nat.le_of_ble_eq_true rfl) rfl rfl) (rfO t_k0 (Nat.le_of_ble_eq_true rfl) rfl rfl)) ML_X11_134 MV_X9_begin rfl (rfO t_k0 (Nat.le_of_ble_eq_true rfl) rfl rfl) rfl rfl (Nat.le_of_ble_eq_true rfl) dX11_takePeople_19 ?_
  refine V_aload_n 0 dX11_takePeople_22 rfl rfl ?_
  refine V_getR F_X11_55 rfl t_k0 rfl dX11_takePeople_23 ?_
  obtain ⟨h_6, e_5, hf⟩ := ov_s hf
  refine V_cvv (As := []) (rest := []) (c_X1_clear (d := d) (Nat.le_trans (Nat.le_of_ble_eq_true rfl) hd) e_5 (rfO t_k0 (Nat.le_of_ble_eq_true rfl) rfl rfl)) ML_X11_137 MV_X1_clear rfl (rfO t_k0 (Nat.le_of_ble_eq_true rfl) rfl rfl) rfl rfl (Nat.le_of_ble_eq_true rfl) dX11_takePeople_26 ?_
  refine V_aload_n 0 dX11_takePeople_29 rfl rfl ?_
  refine V_iconst (v := 0) dX11_takePeople_30 (by decide) ?_
  obtain ⟨h_7, e_8, hf⟩ := nm_s hf
  refine V_putZ P_X11_140 rfl t_k0 rfl (by decide) e_8 dX11_takePeople_31 ?_
  refine V_aload_n 0 dX11_takePeople_34 rfl rfl ?_
  refine V_getR F_X11_12 rfl t_k0 rfl dX11_takePeople_35 ?_
  refine V_iconst (v := 0) dX11_takePeople_38 (by decide) ?_
  obtain ⟨h_9, e_10, hf⟩ := nm_s hf
  refine V_putI P_X11_106 rfl (rfO t_k0 (Nat.le_of_ble_eq_true rfl) rfl rfl) rfl e_10 dX11_takePeople_39 ?_
  refine V_aload_n 0 dX11_takePeople_42 rfl rfl ?_
  refine V_getR F_X11_19 rfl t_k0 rfl dX11_takePeople_43 ?_
  refine V_getI F_X11_144 rfl (rfO t_k0 (Nat.le_of_ble_eq_true rfl) rfl rfl) rfl dX11_takePeople_46 ?_
  exact V_iret rfl (so_s hf) dX11_takePeople_49
theorem dX7_keep_0 : decode cX7_keep 0 = .ok (.aload_n 0, 1) := by decide +kernel
theorem dX7_keep_1 : decode cX7_keep 1 = .ok (.aload_n 1, 1) := by decide +kernel
theorem dX7_keep_2 : decode cX7_keep 2 = .ok (.getfield 18, 3) := by decide +kernel
theorem dX7_keep_5 : decode cX7_keep 5 = .ok (.putfield 24, 3) := by decide +kernel
theorem dX7_keep_8 : decode cX7_keep 8 = .ok (.aload_n 1, 1) := by decide +kernel
theorem dX7_keep_9 : decode cX7_keep 9 = .ok (.getfield 25, 3) := by decide +kernel
theorem dX7_keep_12 : decode cX7_keep 12 = .ok (.iconst 0, 1) := by decide +kernel
theorem dX7_keep_13 : decode cX7_keep 13 = .ok (.aload_n 0, 1) := by decide +kernel
theorem dX7_keep_14 : decode cX7_keep 14 = .ok (.getfield 9, 3) := by decide +kernel
theorem dX7_keep_17 : decode cX7_keep 17 = .ok (.iconst 0, 1) := by decide +kernel
theorem dX7_keep_18 : decode cX7_keep 18 = .ok (.aload_n 0, 1) := by decide +kernel
theorem dX7_keep_19 : decode cX7_keep 19 = .ok (.getfield 24, 3) := by decide +kernel
theorem dX7_keep_22 : decode cX7_keep 22 = .ok (.invokestatic 26, 3) := by decide +kernel
theorem dX7_keep_25 : decode cX7_keep 25 = .ok (.return_, 1) := by decide +kernel
theorem F_X7_18 : FLk RX7 18 8 2 := ⟨RX8, TX8, 3, rfl, rfl, iw_X8, by decide, Or.inr ⟨_, fn_X7_18⟩⟩
theorem P_X7_24 : FPk RX7 24 7 2 .int := ⟨RX7, TX7, 3, tyX7, rfl, rfl, iw_X7, by decide, Or.inl fl_X7_24, tyX7_ok, nmX7, rfl, by decide +kernel⟩
theorem F_X7_25 : FLk RX7 25 8 1 := ⟨RX8, TX8, 3, rfl, rfl, iw_X8, by decide, Or.inr ⟨_, fn_X7_25⟩⟩
def f_X7_keep (k0 : Nat) (k1 : Nat) (h : AH) : Option AH :=
  nm (sI h k0 2 (h.1 k1 2)) fun h_1 =>
  og (cok 0 0 (h_1.1 k0 2) (an (rf k1 1)) (an (rf k0 0))) <|
  nm (sCp h_1 (rf k1 1) 0 (rf k0 0) 0 (h_1.1 k0 2)) fun h_4 =>
  some h_4
set_option maxHeartbeats 4000000 in
set_option maxRecDepth 100000 in
theorem c_X7_keep {E : EV} {d : Nat} (hd : 0 + 1 ≤ d) {k0 : Nat} {k1 : Nat} {h : AH} {h0 : AH} (hf : f_X7_keep k0 k1 h = some h0) (t_k0 : kd k0 = (0, 7)) (t_k1 : kd k1 = (0, 8)) : Con E d K_X7_keep (ZV E h0) [.ref k0, .ref k1] h := by
  obtain ⟨d, rfl⟩ : ∃ d', d = d' + 1 := ⟨d - 1, by omega⟩
  have hd := Nat.le_of_succ_le_succ hd
  refine Con.ofV rfl (Nat.le_of_ble_eq_true rfl) ?_
  unfold f_X7_keep at hf
  show V E (d + 1) K_X7_keep (ZV E h0) h [(0, .ref k0), (1, .ref k1)] [] 0
  refine V_aload_n 0 dX7_keep_0 rfl rfl ?_
  refine V_aload_n 1 dX7_keep_1 rfl rfl ?_
  refine V_getI F_X7_18 rfl t_k1 rfl dX7_keep_2 ?_
  obtain ⟨h_1, e_2, hf⟩ := nm_s hf
  refine V_putI P_X7_24 rfl t_k0 rfl e_2 dX7_keep_5 ?_
  refine V_aload_n 1 dX7_keep_8 rfl rfl ?_
  refine V_getR F_X7_25 rfl t_k1 rfl dX7_keep_9 ?_
  refine V_iconst (v := 0) dX7_keep_12 (by decide) ?_
  refine V_aload_n 0 dX7_keep_13 rfl rfl ?_
  refine V_getR F_X7_9 rfl t_k0 rfl dX7_keep_14 ?_
  refine V_iconst (v := 0) dX7_keep_17 (by decide) ?_
  refine V_aload_n 0 dX7_keep_18 rfl rfl ?_
  refine V_getI F_X7_24 rfl t_k0 rfl dX7_keep_19 ?_
  obtain ⟨b_3, hf⟩ := og_s hf
  obtain ⟨h_4, e_5, hf⟩ := nm_s hf
  refine V_acopy ml_X7_26 rfl (rfA t_k1 (Nat.le_of_ble_eq_true rfl) rfl rfl (by decide)) (rfA t_k0 (Nat.le_of_ble_eq_true rfl) rfl rfl (by decide)) b_3 e_5 (Nat.le_of_ble_eq_true rfl) dX7_keep_22 ?_
  exact V_vret rfl (so_s hf) dX7_keep_25
theorem dX11_takeRule_0 : decode cX11_takeRule 0 = .ok (.aload_n 0, 1) := by decide +kernel
theorem dX11_takeRule_1 : decode cX11_takeRule 1 = .ok (.getfield 37, 3) := by decide +kernel
theorem dX11_takeRule_4 : decode cX11_takeRule 4 = .ok (.aload_n 0, 1) := by decide +kernel
theorem dX11_takeRule_5 : decode cX11_takeRule 5 = .ok (.getfield 124, 3) := by decide +kernel
theorem dX11_takeRule_8 : decode cX11_takeRule 8 = .ok (.aaload, 1) := by decide +kernel
theorem dX11_takeRule_9 : decode cX11_takeRule 9 = .ok (.aload_n 0, 1) := by decide +kernel
theorem dX11_takeRule_10 : decode cX11_takeRule 10 = .ok (.getfield 31, 3) := by decide +kernel
theorem dX11_takeRule_13 : decode cX11_takeRule 13 = .ok (.invokevirtual 147, 3) := by decide +kernel
theorem dX11_takeRule_16 : decode cX11_takeRule 16 = .ok (.aload_n 0, 1) := by decide +kernel
theorem dX11_takeRule_17 : decode cX11_takeRule 17 = .ok (.dup, 1) := by decide +kernel
theorem dX11_takeRule_18 : decode cX11_takeRule 18 = .ok (.getfield 124, 3) := by decide +kernel
theorem dX11_takeRule_21 : decode cX11_takeRule 21 = .ok (.iconst 1, 1) := by decide +kernel
theorem dX11_takeRule_22 : decode cX11_takeRule 22 = .ok (.iadd, 1) := by decide +kernel
theorem dX11_takeRule_23 : decode cX11_takeRule 23 = .ok (.putfield 124, 3) := by decide +kernel
theorem dX11_takeRule_26 : decode cX11_takeRule 26 = .ok (.aload_n 0, 1) := by decide +kernel
theorem dX11_takeRule_27 : decode cX11_takeRule 27 = .ok (.getfield 12, 3) := by decide +kernel
theorem dX11_takeRule_30 : decode cX11_takeRule 30 = .ok (.iconst 0, 1) := by decide +kernel
theorem dX11_takeRule_31 : decode cX11_takeRule 31 = .ok (.putfield 106, 3) := by decide +kernel
theorem dX11_takeRule_34 : decode cX11_takeRule 34 = .ok (.aload_n 0, 1) := by decide +kernel
theorem dX11_takeRule_35 : decode cX11_takeRule 35 = .ok (.getfield 124, 3) := by decide +kernel
theorem dX11_takeRule_38 : decode cX11_takeRule 38 = .ok (.iconst 1, 1) := by decide +kernel
theorem dX11_takeRule_39 : decode cX11_takeRule 39 = .ok (.isub, 1) := by decide +kernel
theorem dX11_takeRule_40 : decode cX11_takeRule 40 = .ok (.ireturn, 1) := by decide +kernel
theorem F_X11_37 : FLk RX11 37 11 4 := ⟨RX11, TX11, 16, rfl, rfl, iw_X11, by decide, Or.inl fl_X11_37⟩
theorem ML_X11_147 : MLk RX11 147 yX7_keep := Or.inl ml_X11_147
theorem MV_X7_keep : MVk K_X7_keep 1 7 := ⟨⟨cd_X7_keep, in_X7, ⟨by decide, by decide, by decide +kernel⟩, by decide⟩, im_X7_keep, se_X7_keep, _, _, rfl⟩
theorem P_X11_124 : FPk RX11 124 11 5 .int := ⟨RX11, TX11, 16, tyX11, rfl, rfl, iw_X11, by decide, Or.inl fl_X11_124, tyX11_ok, nmX11, rfl, by decide +kernel⟩
def f_X11_takeRule (k0 : Nat) (h : AH) : Option (Int32 × AH) :=
  og (ix (h.1 k0 5) (an (rf k0 4))) <|
  ov (f_X7_keep (rf (rf k0 4) (h.1 k0 5).toNatClampNeg) (rf k0 3) h) fun h_3 =>
  nm (sI h_3 k0 5 ((h_3.1 k0 5) + 1)) fun h_4 =>
  nm (sI h_4 (rf k0 0) 1 0) fun h_6 =>
  some (((h_6.1 k0 5) - 1), h_6)
set_option maxHeartbeats 4000000 in
set_option maxRecDepth 100000 in
theorem c_X11_takeRule {E : EV} {d : Nat} (hd : 1 + 1 ≤ d) {k0 : Nat} {h : AH} {r0 : Int32} {h0 : AH} (hf : f_X11_takeRule k0 h = some (r0, h0)) (t_k0 : kd k0 = (0, 11)) : Con E d K_X11_takeRule (ZI E r0 h0) [.ref k0] h := by
  obtain ⟨d, rfl⟩ : ∃ d', d = d' + 1 := ⟨d - 1, by omega⟩
  have hd := Nat.le_of_succ_le_succ hd
  refine Con.ofV rfl (Nat.le_of_ble_eq_true rfl) ?_
  unfold f_X11_takeRule at hf
  show V E (d + 1) K_X11_takeRule (ZI E r0 h0) h [(0, .ref k0)] [] 0
  refine V_aload_n 0 dX11_takeRule_0 rfl rfl ?_
  refine V_getR F_X11_37 rfl t_k0 rfl dX11_takeRule_1 ?_
  refine V_aload_n 0 dX11_takeRule_4 rfl rfl ?_
  refine V_getI F_X11_124 rfl t_k0 rfl dX11_takeRule_5 ?_
  obtain ⟨b_1, hf⟩ := og_s hf
  refine V_aald (rfA t_k0 (Nat.le_of_ble_eq_true rfl) rfl rfl (by decide)) b_1 dX11_takeRule_8 ?_
  refine V_aload_n 0 dX11_takeRule_9 rfl rfl ?_
  refine V_getR F_X11_31 rfl t_k0 rfl dX11_takeRule_10 ?_
  obtain ⟨h_3, e_2, hf⟩ := ov_s hf
  refine V_cvv (As := [.ref (rf k0 3)]) (rest := []) (c_X7_keep (d := d) (Nat.le_trans (Nat.le_of_ble_eq_true rfl) hd) e_2 (raO (rfA t_k0 (Nat.le_of_ble_eq_true rfl) rfl rfl (by decide)) (ix_lt b_1)) (rfO t_k0 (Nat.le_of_ble_eq_true rfl) rfl rfl)) ML_X11_147 MV_X7_keep rfl (raO (rfA t_k0 (Nat.le_of_ble_eq_true rfl) rfl rfl (by decide)) (ix_lt b_1)) rfl rfl (Nat.le_of_ble_eq_true rfl) dX11_takeRule_13 ?_
  refine V_aload_n 0 dX11_takeRule_16 rfl rfl ?_
  refine V_dup dX11_takeRule_17 rfl ?_
  refine V_getI F_X11_124 rfl t_k0 rfl dX11_takeRule_18 ?_
  refine V_iconst (v := 1) dX11_takeRule_21 (by decide) ?_
  refine V_iadd dX11_takeRule_22 ?_
  obtain ⟨h_4, e_5, hf⟩ := nm_s hf
  refine V_putI P_X11_124 rfl t_k0 rfl e_5 dX11_takeRule_23 ?_
  refine V_aload_n 0 dX11_takeRule_26 rfl rfl ?_
  refine V_getR F_X11_12 rfl t_k0 rfl dX11_takeRule_27 ?_
  refine V_iconst (v := 0) dX11_takeRule_30 (by decide) ?_
  obtain ⟨h_6, e_7, hf⟩ := nm_s hf
  refine V_putI P_X11_106 rfl (rfO t_k0 (Nat.le_of_ble_eq_true rfl) rfl rfl) rfl e_7 dX11_takeRule_31 ?_
  refine V_aload_n 0 dX11_takeRule_34 rfl rfl ?_
  refine V_getI F_X11_124 rfl t_k0 rfl dX11_takeRule_35 ?_
  refine V_iconst (v := 1) dX11_takeRule_38 (by decide) ?_
  refine V_isub dX11_takeRule_39 ?_
  exact V_iret rfl (so_s hf) dX11_takeRule_40
theorem dX11_text_0 : decode cX11_text 0 = .ok (.iload_n 1, 1) := by decide +kernel
theorem dX11_text_1 : decode cX11_text 1 = .ok (.ifCond .ne 23, 3) := by decide +kernel
theorem dX11_text_4 : decode cX11_text 4 = .ok (.aload_n 0, 1) := by decide +kernel
theorem dX11_text_5 : decode cX11_text 5 = .ok (.getfield 23, 3) := by decide +kernel
theorem dX11_text_8 : decode cX11_text 8 = .ok (.aload_n 0, 1) := by decide +kernel
theorem dX11_text_9 : decode cX11_text 9 = .ok (.getfield 12, 3) := by decide +kernel
theorem dX11_text_12 : decode cX11_text 12 = .ok (.invokevirtual 114, 3) := by decide +kernel
theorem dX11_text_15 : decode cX11_text 15 = .ok (.iconst (-1), 1) := by decide +kernel
theorem dX11_text_16 : decode cX11_text 16 = .ok (.if_icmp .ne 8, 3) := by decide +kernel
theorem dX11_text_19 : decode cX11_text 19 = .ok (.aload_n 0, 1) := by decide +kernel
theorem dX11_text_20 : decode cX11_text 20 = .ok (.invokevirtual 121, 3) := by decide +kernel
theorem dX11_text_23 : decode cX11_text 23 = .ok (.ireturn, 1) := by decide +kernel
theorem dX11_text_24 : decode cX11_text 24 = .ok (.iload_n 1, 1) := by decide +kernel
theorem dX11_text_25 : decode cX11_text 25 = .ok (.iconst 1, 1) := by decide +kernel
theorem dX11_text_26 : decode cX11_text 26 = .ok (.if_icmp .ne 27, 3) := by decide +kernel
theorem dX11_text_29 : decode cX11_text 29 = .ok (.aload_n 0, 1) := by decide +kernel
theorem dX11_text_30 : decode cX11_text 30 = .ok (.getfield 124, 3) := by decide +kernel
theorem dX11_text_33 : decode cX11_text 33 = .ok (.iconst 4, 1) := by decide +kernel
theorem dX11_text_34 : decode cX11_text 34 = .ok (.if_icmp .ge 19, 3) := by decide +kernel
theorem dX11_text_37 : decode cX11_text 37 = .ok (.aload_n 0, 1) := by decide +kernel
theorem dX11_text_38 : decode cX11_text 38 = .ok (.getfield 31, 3) := by decide +kernel
theorem dX11_text_41 : decode cX11_text 41 = .ok (.invokevirtual 118, 3) := by decide +kernel
theorem dX11_text_44 : decode cX11_text 44 = .ok (.iconst (-1), 1) := by decide +kernel
theorem dX11_text_45 : decode cX11_text 45 = .ok (.if_icmp .ne 8, 3) := by decide +kernel
theorem dX11_text_48 : decode cX11_text 48 = .ok (.aload_n 0, 1) := by decide +kernel
theorem dX11_text_49 : decode cX11_text 49 = .ok (.invokevirtual 127, 3) := by decide +kernel
theorem dX11_text_52 : decode cX11_text 52 = .ok (.ireturn, 1) := by decide +kernel
theorem dX11_text_53 : decode cX11_text 53 = .ok (.iconst (-1), 1) := by decide +kernel
theorem dX11_text_54 : decode cX11_text 54 = .ok (.ireturn, 1) := by decide +kernel
theorem ML_X11_127 : MLk RX11 127 yX11_takeRule := Or.inl ml_X11_127
theorem MV_X11_takeRule : MVk K_X11_takeRule 0 11 := ⟨⟨cd_X11_takeRule, in_X11, ⟨by decide, by decide, by decide +kernel⟩, by decide⟩, im_X11_takeRule, se_X11_takeRule, _, _, rfl⟩
theorem ML_X11_121 : MLk RX11 121 yX11_takePeople := Or.inl ml_X11_121
theorem MV_X11_takePeople : MVk K_X11_takePeople 0 11 := ⟨⟨cd_X11_takePeople, in_X11, ⟨by decide, by decide, by decide +kernel⟩, by decide⟩, im_X11_takePeople, se_X11_takePeople, _, _, rfl⟩
def f_X11_text_53  (h : AH) : Option (Int32 × AH) :=
  some ((-1), h)
def f_X11_text_24 (k0 : Nat) (x1 : Int32) (h : AH) : Option (Int32 × AH) :=
  if x1 = 1 then (
    if 4 ≤ (h.1 k0 5) then (
      f_X11_text_53 h
    ) else (
      ob (f_X8_read (rf k0 3) h) fun r_5 h_4 =>
      if r_5 = (-1) then (
        ob (f_X11_takeRule k0 h_4) fun r_9 h_8 =>
        some (r_9, h_8)
      ) else (
        f_X11_text_53 h_4
      )
    )
  ) else (
    f_X11_text_53 h
  )
def f_X11_text (k0 : Nat) (x1 : Int32) (h : AH) : Option (Int32 × AH) :=
  if x1 = 0 then (
    ob (f_X6_read (rf k0 2) (rf k0 0) h) fun r_4 h_3 =>
    if r_4 = (-1) then (
      ob (f_X11_takePeople k0 h_3) fun r_8 h_7 =>
      some (r_8, h_7)
    ) else (
      f_X11_text_24 k0 x1 h_3
    )
  ) else (
    f_X11_text_24 k0 x1 h
  )
set_option maxHeartbeats 4000000 in
set_option maxRecDepth 100000 in
theorem v_X11_text_53 {E : EV} {d : Nat} (hd : 1328 ≤ d) {r0 : Int32} {h0 : AH}  {h : AH} (hf : f_X11_text_53 h = some (r0, h0)) : V E (d + 1) K_X11_text (ZI E r0 h0) h [] [] 53 := by
  unfold f_X11_text_53 at hf
  refine V_iconst (v := (-1)) dX11_text_53 (by decide) ?_
  exact V_iret rfl (so_s hf) dX11_text_54
set_option maxHeartbeats 4000000 in
set_option maxRecDepth 100000 in
theorem v_X11_text_24 {E : EV} {d : Nat} (hd : 1328 ≤ d) {r0 : Int32} {h0 : AH} {k0 : Nat} {x1 : Int32} {h : AH} (hf : f_X11_text_24 k0 x1 h = some (r0, h0)) (t_k0 : kd k0 = (0, 11)) : V E (d + 1) K_X11_text (ZI E r0 h0) h [(0, .ref k0), (1, .int x1)] [] 24 := by
  unfold f_X11_text_24 at hf
  refine V_iload_n 1 dX11_text_24 rfl rfl ?_
  refine V_iconst (v := 1) dX11_text_25 (by decide) ?_
  refine V_ic_ne (tgt := 53) dX11_text_26 (by decide) (fun c_1 => ?_) (fun c_1 => ?_)
  · have hf := if_s c_1 hf
    refine V_sub [] rfl ?_
    exact v_X11_text_53 hd hf
  · have hf := it_s c_1 hf
    refine V_aload_n 0 dX11_text_29 rfl rfl ?_
    refine V_getI F_X11_124 rfl t_k0 rfl dX11_text_30 ?_
    refine V_iconst (v := 4) dX11_text_33 (by decide) ?_
    refine V_ic_ge (tgt := 53) dX11_text_34 (by decide) (fun c_2 => ?_) (fun c_2 => ?_)
    · have hf := it_s c_2 hf
      refine V_sub [] rfl ?_
      exact v_X11_text_53 hd hf
    · have hf := if_s c_2 hf
      refine V_aload_n 0 dX11_text_37 rfl rfl ?_
      refine V_getR F_X11_31 rfl t_k0 rfl dX11_text_38 ?_
      obtain ⟨r_5, h_4, e_3, hf⟩ := ob_s hf
      refine V_cvi (As := []) (rest := []) (c_X8_read (d := d) (Nat.le_trans (Nat.le_of_ble_eq_true rfl) hd) e_3 (rfO t_k0 (Nat.le_of_ble_eq_true rfl) rfl rfl)) ML_X11_118 MV_X8_read rfl (rfO t_k0 (Nat.le_of_ble_eq_true rfl) rfl rfl) rfl rfl (Nat.le_of_ble_eq_true rfl) dX11_text_41 ?_
      refine V_iconst (v := (-1)) dX11_text_44 (by decide) ?_
      refine V_ic_ne (tgt := 53) dX11_text_45 (by decide) (fun c_6 => ?_) (fun c_6 => ?_)
      · have hf := if_s c_6 hf
        refine V_sub [] rfl ?_
        exact v_X11_text_53 hd hf
      · have hf := it_s c_6 hf
        refine V_aload_n 0 dX11_text_48 rfl rfl ?_
        obtain ⟨r_9, h_8, e_7, hf⟩ := ob_s hf
        refine V_cvi (As := []) (rest := []) (c_X11_takeRule (d := d) (Nat.le_trans (Nat.le_of_ble_eq_true rfl) hd) e_7 t_k0) ML_X11_127 MV_X11_takeRule rfl t_k0 rfl rfl (Nat.le_of_ble_eq_true rfl) dX11_text_49 ?_
        exact V_iret rfl (so_s hf) dX11_text_52
set_option maxHeartbeats 4000000 in
set_option maxRecDepth 100000 in
theorem c_X11_text {E : EV} {d : Nat} (hd : 1328 + 1 ≤ d) {k0 : Nat} {x1 : Int32} {h : AH} {r0 : Int32} {h0 : AH} (hf : f_X11_text k0 x1 h = some (r0, h0)) (t_k0 : kd k0 = (0, 11)) : Con E d K_X11_text (ZI E r0 h0) [.ref k0, .int x1] h := by
  obtain ⟨d, rfl⟩ : ∃ d', d = d' + 1 := ⟨d - 1, by omega⟩
  have hd := Nat.le_of_succ_le_succ hd
  refine Con.ofV rfl (Nat.le_of_ble_eq_true rfl) ?_
  unfold f_X11_text at hf
  show V E (d + 1) K_X11_text (ZI E r0 h0) h [(0, .ref k0), (1, .int x1)] [] 0
  refine V_iload_n 1 dX11_text_0 rfl rfl ?_
  refine V_if_ne (tgt := 24) dX11_text_1 (by decide) (fun c_1 => ?_) (fun c_1 => ?_)
  · have hf := if_s c_1 hf
    exact v_X11_text_24 hd hf t_k0
  · have hf := it_s c_1 hf
    refine V_aload_n 0 dX11_text_4 rfl rfl ?_
    refine V_getR F_X11_23 rfl t_k0 rfl dX11_text_5 ?_
    refine V_aload_n 0 dX11_text_8 rfl rfl ?_
    refine V_getR F_X11_12 rfl t_k0 rfl dX11_text_9 ?_
    obtain ⟨r_4, h_3, e_2, hf⟩ := ob_s hf
    refine V_cvi (As := [.ref (rf k0 0)]) (rest := []) (c_X6_read (d := d) (Nat.le_trans (Nat.le_of_ble_eq_true rfl) hd) e_2 (rfO t_k0 (Nat.le_of_ble_eq_true rfl) rfl rfl) (rfO t_k0 (Nat.le_of_ble_eq_true rfl) rfl rfl)) ML_X11_114 MV_X6_read rfl (rfO t_k0 (Nat.le_of_ble_eq_true rfl) rfl rfl) rfl rfl (Nat.le_of_ble_eq_true rfl) dX11_text_12 ?_
    refine V_iconst (v := (-1)) dX11_text_15 (by decide) ?_
    refine V_ic_ne (tgt := 24) dX11_text_16 (by decide) (fun c_5 => ?_) (fun c_5 => ?_)
    · have hf := if_s c_5 hf
      exact v_X11_text_24 hd hf t_k0
    · have hf := it_s c_5 hf
      refine V_aload_n 0 dX11_text_19 rfl rfl ?_
      obtain ⟨r_8, h_7, e_6, hf⟩ := ob_s hf
      refine V_cvi (As := []) (rest := []) (c_X11_takePeople (d := d) (Nat.le_trans (Nat.le_of_ble_eq_true rfl) hd) e_6 t_k0) ML_X11_121 MV_X11_takePeople rfl t_k0 rfl rfl (Nat.le_of_ble_eq_true rfl) dX11_text_20 ?_
      exact V_iret rfl (so_s hf) dX11_text_23
theorem dX11_tried_0 : decode cX11_tried 0 = .ok (.aload_n 0, 1) := by decide +kernel
theorem dX11_tried_1 : decode cX11_tried 1 = .ok (.iload_n 1, 1) := by decide +kernel
theorem dX11_tried_2 : decode cX11_tried 2 = .ok (.iload_n 2, 1) := by decide +kernel
theorem dX11_tried_3 : decode cX11_tried 3 = .ok (.invokevirtual 182, 3) := by decide +kernel
theorem dX11_tried_6 : decode cX11_tried 6 = .ok (.ifCond .eq 25, 3) := by decide +kernel
theorem dX11_tried_9 : decode cX11_tried 9 = .ok (.aload_n 0, 1) := by decide +kernel
theorem dX11_tried_10 : decode cX11_tried 10 = .ok (.iload_n 2, 1) := by decide +kernel
theorem dX11_tried_11 : decode cX11_tried 11 = .ok (.iload 4, 2) := by decide +kernel
theorem dX11_tried_13 : decode cX11_tried 13 = .ok (.invokevirtual 217, 3) := by decide +kernel
theorem dX11_tried_16 : decode cX11_tried 16 = .ok (.ifCond .eq 15, 3) := by decide +kernel
theorem dX11_tried_19 : decode cX11_tried 19 = .ok (.aload_n 0, 1) := by decide +kernel
theorem dX11_tried_20 : decode cX11_tried 20 = .ok (.getfield 73, 3) := by decide +kernel
theorem dX11_tried_23 : decode cX11_tried 23 = .ok (.iload_n 3, 1) := by decide +kernel
theorem dX11_tried_24 : decode cX11_tried 24 = .ok (.iload_n 2, 1) := by decide +kernel
theorem dX11_tried_25 : decode cX11_tried 25 = .ok (.invokevirtual 185, 3) := by decide +kernel
theorem dX11_tried_28 : decode cX11_tried 28 = .ok (.ifCond .ne 6, 3) := by decide +kernel
theorem dX11_tried_31 : decode cX11_tried 31 = .ok (.ldc 220, 2) := by decide +kernel
theorem dX11_tried_33 : decode cX11_tried 33 = .ok (.ireturn, 1) := by decide +kernel
theorem dX11_tried_34 : decode cX11_tried 34 = .ok (.aload_n 0, 1) := by decide +kernel
theorem dX11_tried_35 : decode cX11_tried 35 = .ok (.getfield 73, 3) := by decide +kernel
theorem dX11_tried_38 : decode cX11_tried 38 = .ok (.aload_n 0, 1) := by decide +kernel
theorem dX11_tried_39 : decode cX11_tried 39 = .ok (.iload_n 1, 1) := by decide +kernel
theorem dX11_tried_40 : decode cX11_tried 40 = .ok (.iload_n 2, 1) := by decide +kernel
theorem dX11_tried_41 : decode cX11_tried 41 = .ok (.invokevirtual 195, 3) := by decide +kernel
theorem dX11_tried_44 : decode cX11_tried 44 = .ok (.invokevirtual 198, 3) := by decide +kernel
theorem dX11_tried_47 : decode cX11_tried 47 = .ok (.aload_n 0, 1) := by decide +kernel
theorem dX11_tried_48 : decode cX11_tried 48 = .ok (.getfield 73, 3) := by decide +kernel
theorem dX11_tried_51 : decode cX11_tried 51 = .ok (.iconst 0, 1) := by decide +kernel
theorem dX11_tried_52 : decode cX11_tried 52 = .ok (.invokevirtual 200, 3) := by decide +kernel
theorem dX11_tried_55 : decode cX11_tried 55 = .ok (.aload_n 0, 1) := by decide +kernel
theorem dX11_tried_56 : decode cX11_tried 56 = .ok (.getfield 73, 3) := by decide +kernel
theorem dX11_tried_59 : decode cX11_tried 59 = .ok (.getfield 221, 3) := by decide +kernel
theorem dX11_tried_62 : decode cX11_tried 62 = .ok (.iload 4, 2) := by decide +kernel
theorem dX11_tried_64 : decode cX11_tried 64 = .ok (.iaload, 1) := by decide +kernel
theorem dX11_tried_65 : decode cX11_tried 65 = .ok (.ireturn, 1) := by decide +kernel
def f_X11_tried_31  (h : AH) : Option (Int32 × AH) :=
  some ((-1000000), h)
def f_X11_tried (k0 : Nat) (x1 : Int32) (x2 : Int32) (x3 : Int32) (x4 : Int32) (h : AH) : Option (Int32 × AH) :=
  ob (f_X11_isParty k0 x1 x2 h) fun r_3 h_2 =>
  if r_3 = 0 then (
    f_X11_tried_31 h_2
  ) else (
    ob (f_X11_isGuest k0 x2 x4 h_2) fun r_7 h_6 =>
    if r_7 = 0 then (
      f_X11_tried_31 h_6
    ) else (
      ob (f_X5_readOrder (rf k0 11) x3 x2 h_6) fun r_11 h_10 =>
      if r_11 = 0 then (
        f_X11_tried_31 h_10
      ) else (
        ob (f_X11_openDoor k0 x1 x2 h_10) fun r_15 h_14 =>
        ov (f_X5_begin (rf k0 11) r_15 h_14) fun h_17 =>
        ov (f_X5_go (rf k0 11) 0 h_17) fun h_19 =>
        og (ix x4 (an (rf (rf k0 11) 3))) <|
        some ((h_19.1 (rf (rf k0 11) 3) x4.toNatClampNeg), h_19)
      )
    )
  )
set_option maxHeartbeats 4000000 in
set_option maxRecDepth 100000 in
theorem v_X11_tried_31 {E : EV} {d : Nat} (hd : 5 ≤ d) {r0 : Int32} {h0 : AH}  {h : AH} (hf : f_X11_tried_31 h = some (r0, h0)) : V E (d + 1) K_X11_tried (ZI E r0 h0) h [] [] 31 := by
  unfold f_X11_tried_31 at hf
  refine V_ldc (v := (-1000000)) rfl kc_X11_220 dX11_tried_31 ?_
  exact V_iret rfl (so_s hf) dX11_tried_33
set_option maxHeartbeats 4000000 in
set_option maxRecDepth 100000 in
theorem c_X11_tried {E : EV} {d : Nat} (hd : 5 + 1 ≤ d) {k0 : Nat} {x1 : Int32} {x2 : Int32} {x3 : Int32} {x4 : Int32} {h : AH} {r0 : Int32} {h0 : AH} (hf : f_X11_tried k0 x1 x2 x3 x4 h = some (r0, h0)) (t_k0 : kd k0 = (0, 11)) : Con E d K_X11_tried (ZI E r0 h0) [.ref k0, .int x1, .int x2, .int x3, .int x4] h := by
  obtain ⟨d, rfl⟩ : ∃ d', d = d' + 1 := ⟨d - 1, by omega⟩
  have hd := Nat.le_of_succ_le_succ hd
  refine Con.ofV rfl (Nat.le_of_ble_eq_true rfl) ?_
  unfold f_X11_tried at hf
  show V E (d + 1) K_X11_tried (ZI E r0 h0) h [(0, .ref k0), (1, .int x1), (2, .int x2), (3, .int x3), (4, .int x4)] [] 0
  refine V_aload_n 0 dX11_tried_0 rfl rfl ?_
  refine V_iload_n 1 dX11_tried_1 rfl rfl ?_
  refine V_iload_n 2 dX11_tried_2 rfl rfl ?_
  obtain ⟨r_3, h_2, e_1, hf⟩ := ob_s hf
  refine V_cvi (As := [.int x1, .int x2]) (rest := []) (c_X11_isParty (d := d) (Nat.le_trans (Nat.le_of_ble_eq_true rfl) hd) e_1 t_k0) ML_X11_182 MV_X11_isParty rfl t_k0 rfl rfl (Nat.le_of_ble_eq_true rfl) dX11_tried_3 ?_
  refine V_if_eq (tgt := 31) dX11_tried_6 (by decide) (fun c_4 => ?_) (fun c_4 => ?_)
  · have hf := it_s c_4 hf
    refine V_sub [] rfl ?_
    exact v_X11_tried_31 hd hf
  · have hf := if_s c_4 hf
    refine V_aload_n 0 dX11_tried_9 rfl rfl ?_
    refine V_iload_n 2 dX11_tried_10 rfl rfl ?_
    refine V_iload 4 dX11_tried_11 rfl ?_
    obtain ⟨r_7, h_6, e_5, hf⟩ := ob_s hf
    refine V_cvi (As := [.int x2, .int x4]) (rest := []) (c_X11_isGuest (d := d) (Nat.le_trans (Nat.le_of_ble_eq_true rfl) hd) e_5 t_k0) ML_X11_217 MV_X11_isGuest rfl t_k0 rfl rfl (Nat.le_of_ble_eq_true rfl) dX11_tried_13 ?_
    refine V_if_eq (tgt := 31) dX11_tried_16 (by decide) (fun c_8 => ?_) (fun c_8 => ?_)
    · have hf := it_s c_8 hf
      refine V_sub [] rfl ?_
      exact v_X11_tried_31 hd hf
    · have hf := if_s c_8 hf
      refine V_aload_n 0 dX11_tried_19 rfl rfl ?_
      refine V_getR F_X11_73 rfl t_k0 rfl dX11_tried_20 ?_
      refine V_iload_n 3 dX11_tried_23 rfl rfl ?_
      refine V_iload_n 2 dX11_tried_24 rfl rfl ?_
      obtain ⟨r_11, h_10, e_9, hf⟩ := ob_s hf
      refine V_cvi (As := [.int x3, .int x2]) (rest := []) (c_X5_readOrder (d := d) (Nat.le_trans (Nat.le_of_ble_eq_true rfl) hd) e_9 (rfO t_k0 (Nat.le_of_ble_eq_true rfl) rfl rfl)) ML_X11_185 MV_X5_readOrder rfl (rfO t_k0 (Nat.le_of_ble_eq_true rfl) rfl rfl) rfl rfl (Nat.le_of_ble_eq_true rfl) dX11_tried_25 ?_
      refine V_if_ne (tgt := 34) dX11_tried_28 (by decide) (fun c_12 => ?_) (fun c_12 => ?_)
      · have hf := if_s c_12 hf
        refine V_aload_n 0 dX11_tried_34 rfl rfl ?_
        refine V_getR F_X11_73 rfl t_k0 rfl dX11_tried_35 ?_
        refine V_aload_n 0 dX11_tried_38 rfl rfl ?_
        refine V_iload_n 1 dX11_tried_39 rfl rfl ?_
        refine V_iload_n 2 dX11_tried_40 rfl rfl ?_
        obtain ⟨r_15, h_14, e_13, hf⟩ := ob_s hf
        refine V_cvi (As := [.int x1, .int x2]) (rest := [.ref (rf k0 11)]) (c_X11_openDoor (d := d) (Nat.le_trans (Nat.le_of_ble_eq_true rfl) hd) e_13 t_k0) ML_X11_195 MV_X11_openDoor rfl t_k0 rfl rfl (Nat.le_of_ble_eq_true rfl) dX11_tried_41 ?_
        obtain ⟨h_17, e_16, hf⟩ := ov_s hf
        refine V_cvv (As := [.int r_15]) (rest := []) (c_X5_begin (d := d) (Nat.le_trans (Nat.le_of_ble_eq_true rfl) hd) e_16 (rfO t_k0 (Nat.le_of_ble_eq_true rfl) rfl rfl)) ML_X11_198 MV_X5_begin rfl (rfO t_k0 (Nat.le_of_ble_eq_true rfl) rfl rfl) rfl rfl (Nat.le_of_ble_eq_true rfl) dX11_tried_44 ?_
        refine V_aload_n 0 dX11_tried_47 rfl rfl ?_
        refine V_getR F_X11_73 rfl t_k0 rfl dX11_tried_48 ?_
        refine V_iconst (v := 0) dX11_tried_51 (by decide) ?_
        obtain ⟨h_19, e_18, hf⟩ := ov_s hf
        refine V_cvv (As := [.int 0]) (rest := []) (c_X5_go (d := d) (Nat.le_trans (Nat.le_of_ble_eq_true rfl) hd) e_18 (rfO t_k0 (Nat.le_of_ble_eq_true rfl) rfl rfl)) ML_X11_200 MV_X5_go rfl (rfO t_k0 (Nat.le_of_ble_eq_true rfl) rfl rfl) rfl rfl (Nat.le_of_ble_eq_true rfl) dX11_tried_52 ?_
        refine V_aload_n 0 dX11_tried_55 rfl rfl ?_
        refine V_getR F_X11_73 rfl t_k0 rfl dX11_tried_56 ?_
        refine V_getR F_X11_221 rfl (rfO t_k0 (Nat.le_of_ble_eq_true rfl) rfl rfl) rfl dX11_tried_59 ?_
        refine V_iload 4 dX11_tried_62 rfl ?_
        obtain ⟨b_20, hf⟩ := og_s hf
        refine V_iald (rfA (rfO t_k0 (Nat.le_of_ble_eq_true rfl) rfl rfl) (Nat.le_of_ble_eq_true rfl) rfl rfl (by decide)) b_20 dX11_tried_64 ?_
        exact V_iret rfl (so_s hf) dX11_tried_65
      · have hf := it_s c_12 hf
        refine V_sub [] rfl ?_
        exact v_X11_tried_31 hd hf
theorem dX5_worstPlace_0 : decode cX5_worstPlace 0 = .ok (.aload_n 0, 1) := by decide +kernel
theorem dX5_worstPlace_1 : decode cX5_worstPlace 1 = .ok (.getfield 21, 3) := by decide +kernel
theorem dX5_worstPlace_4 : decode cX5_worstPlace 4 = .ok (.iconst 0, 1) := by decide +kernel
theorem dX5_worstPlace_5 : decode cX5_worstPlace 5 = .ok (.invokestatic 78, 3) := by decide +kernel
theorem dX5_worstPlace_8 : decode cX5_worstPlace 8 = .ok (.aload_n 0, 1) := by decide +kernel
theorem dX5_worstPlace_9 : decode cX5_worstPlace 9 = .ok (.iload_n 1, 1) := by decide +kernel
theorem dX5_worstPlace_10 : decode cX5_worstPlace 10 = .ok (.iload_n 2, 1) := by decide +kernel
theorem dX5_worstPlace_11 : decode cX5_worstPlace 11 = .ok (.invokevirtual 68, 3) := by decide +kernel
theorem dX5_worstPlace_14 : decode cX5_worstPlace 14 = .ok (.istore 4, 2) := by decide +kernel
theorem dX5_worstPlace_16 : decode cX5_worstPlace 16 = .ok (.iconst 0, 1) := by decide +kernel
theorem dX5_worstPlace_17 : decode cX5_worstPlace 17 = .ok (.istore 5, 2) := by decide +kernel
theorem dX5_worstPlace_19 : decode cX5_worstPlace 19 = .ok (.iconst 0, 1) := by decide +kernel
theorem dX5_worstPlace_20 : decode cX5_worstPlace 20 = .ok (.istore 6, 2) := by decide +kernel
theorem dX5_worstPlace_22 : decode cX5_worstPlace 22 = .ok (.iload 6, 2) := by decide +kernel
theorem dX5_worstPlace_24 : decode cX5_worstPlace 24 = .ok (.iload 4, 2) := by decide +kernel
theorem dX5_worstPlace_26 : decode cX5_worstPlace 26 = .ok (.if_icmp .ge 39, 3) := by decide +kernel
theorem dX5_worstPlace_29 : decode cX5_worstPlace 29 = .ok (.aload_n 0, 1) := by decide +kernel
theorem dX5_worstPlace_30 : decode cX5_worstPlace 30 = .ok (.iload 5, 2) := by decide +kernel
theorem dX5_worstPlace_32 : decode cX5_worstPlace 32 = .ok (.invokevirtual 71, 3) := by decide +kernel
theorem dX5_worstPlace_35 : decode cX5_worstPlace 35 = .ok (.aload_n 0, 1) := by decide +kernel
theorem dX5_worstPlace_36 : decode cX5_worstPlace 36 = .ok (.getfield 21, 3) := by decide +kernel
theorem dX5_worstPlace_39 : decode cX5_worstPlace 39 = .ok (.aload_n 0, 1) := by decide +kernel
theorem dX5_worstPlace_40 : decode cX5_worstPlace 40 = .ok (.iload_n 3, 1) := by decide +kernel
theorem dX5_worstPlace_41 : decode cX5_worstPlace 41 = .ok (.invokevirtual 84, 3) := by decide +kernel
theorem dX5_worstPlace_44 : decode cX5_worstPlace 44 = .ok (.dup2, 1) := by decide +kernel
theorem dX5_worstPlace_45 : decode cX5_worstPlace 45 = .ok (.iaload, 1) := by decide +kernel
theorem dX5_worstPlace_46 : decode cX5_worstPlace 46 = .ok (.aload_n 0, 1) := by decide +kernel
theorem dX5_worstPlace_47 : decode cX5_worstPlace 47 = .ok (.iload_n 3, 1) := by decide +kernel
theorem dX5_worstPlace_48 : decode cX5_worstPlace 48 = .ok (.invokevirtual 87, 3) := by decide +kernel
theorem dX5_worstPlace_51 : decode cX5_worstPlace 51 = .ok (.iadd, 1) := by decide +kernel
theorem dX5_worstPlace_52 : decode cX5_worstPlace 52 = .ok (.iastore, 1) := by decide +kernel
theorem dX5_worstPlace_53 : decode cX5_worstPlace 53 = .ok (.aload_n 0, 1) := by decide +kernel
theorem dX5_worstPlace_54 : decode cX5_worstPlace 54 = .ok (.invokevirtual 74, 3) := by decide +kernel
theorem dX5_worstPlace_57 : decode cX5_worstPlace 57 = .ok (.istore 5, 2) := by decide +kernel
theorem dX5_worstPlace_59 : decode cX5_worstPlace 59 = .ok (.iinc 6 1, 3) := by decide +kernel
theorem dX5_worstPlace_62 : decode cX5_worstPlace 62 = .ok (.goto (-40), 3) := by decide +kernel
theorem dX5_worstPlace_65 : decode cX5_worstPlace 65 = .ok (.iconst 0, 1) := by decide +kernel
theorem dX5_worstPlace_66 : decode cX5_worstPlace 66 = .ok (.istore 6, 2) := by decide +kernel
theorem dX5_worstPlace_68 : decode cX5_worstPlace 68 = .ok (.iconst 1, 1) := by decide +kernel
theorem dX5_worstPlace_69 : decode cX5_worstPlace 69 = .ok (.istore 7, 2) := by decide +kernel
theorem dX5_worstPlace_71 : decode cX5_worstPlace 71 = .ok (.iload 7, 2) := by decide +kernel
theorem dX5_worstPlace_73 : decode cX5_worstPlace 73 = .ok (.aload_n 0, 1) := by decide +kernel
theorem dX5_worstPlace_74 : decode cX5_worstPlace 74 = .ok (.getfield 34, 3) := by decide +kernel
theorem dX5_worstPlace_77 : decode cX5_worstPlace 77 = .ok (.if_icmp .ge 30, 3) := by decide +kernel
theorem dX5_worstPlace_80 : decode cX5_worstPlace 80 = .ok (.aload_n 0, 1) := by decide +kernel
theorem dX5_worstPlace_81 : decode cX5_worstPlace 81 = .ok (.getfield 21, 3) := by decide +kernel
theorem dX5_worstPlace_84 : decode cX5_worstPlace 84 = .ok (.iload 7, 2) := by decide +kernel
theorem dX5_worstPlace_86 : decode cX5_worstPlace 86 = .ok (.iaload, 1) := by decide +kernel
theorem dX5_worstPlace_87 : decode cX5_worstPlace 87 = .ok (.aload_n 0, 1) := by decide +kernel
theorem dX5_worstPlace_88 : decode cX5_worstPlace 88 = .ok (.getfield 21, 3) := by decide +kernel
theorem dX5_worstPlace_91 : decode cX5_worstPlace 91 = .ok (.iload 6, 2) := by decide +kernel
theorem dX5_worstPlace_93 : decode cX5_worstPlace 93 = .ok (.iaload, 1) := by decide +kernel
theorem dX5_worstPlace_94 : decode cX5_worstPlace 94 = .ok (.if_icmp .ge 7, 3) := by decide +kernel
theorem dX5_worstPlace_97 : decode cX5_worstPlace 97 = .ok (.iload 7, 2) := by decide +kernel
theorem dX5_worstPlace_99 : decode cX5_worstPlace 99 = .ok (.istore 6, 2) := by decide +kernel
theorem dX5_worstPlace_101 : decode cX5_worstPlace 101 = .ok (.iinc 7 1, 3) := by decide +kernel
theorem dX5_worstPlace_104 : decode cX5_worstPlace 104 = .ok (.goto (-33), 3) := by decide +kernel
theorem dX5_worstPlace_107 : decode cX5_worstPlace 107 = .ok (.iload 6, 2) := by decide +kernel
theorem dX5_worstPlace_109 : decode cX5_worstPlace 109 = .ok (.ireturn, 1) := by decide +kernel
theorem F_X5_21 : FLk RX5 21 5 5 := ⟨RX5, TX5, 6, rfl, rfl, iw_X5, by decide, Or.inl fl_X5_21⟩
theorem ML_X5_84 : MLk RX5 84 yX5_placeOf := Or.inl ml_X5_84
theorem ML_X5_78 : MLk RX5 78 yJ7_fill_53178 := Or.inl ml_X5_78
def f_X5_worstPlace_101 (q71 : Nat → Int32 → Int32 → AH → Option (Int32 × AH)) (k0 : Nat) (x6 : Int32) (x7 : Int32) (h : AH) : Option (Int32 × AH) :=
  nm (x7 + 1) fun x7_1 =>
  q71 k0 x6 x7_1 h
def f_X5_worstPlace_71 : Nat → Nat → Int32 → Int32 → AH → Option (Int32 × AH)
  | 0, _, _, _, _ => none
  | n + 1, k0, x6, x7, h =>
    if (h.1 k0 2) ≤ x7 then (
      some (x6, h)
    ) else (
      og (ix x7 (an (rf k0 5))) <|
      og (ix x6 (an (rf k0 5))) <|
      if (h.1 (rf k0 5) x6.toNatClampNeg) ≤ (h.1 (rf k0 5) x7.toNatClampNeg) then (
        f_X5_worstPlace_101 (f_X5_worstPlace_71 n) k0 x6 x7 h
      ) else (
        f_X5_worstPlace_101 (f_X5_worstPlace_71 n) k0 x7 x7 h
      )
    )
def f_X5_worstPlace_22 : Nat → Nat → Int32 → Int32 → Int32 → Int32 → AH → Option (Int32 × AH)
  | 0, _, _, _, _, _, _ => none
  | n + 1, k0, x3, x4, x5, x6, h =>
    if x4 ≤ x6 then (
      f_X5_worstPlace_71 FU k0 0 1 h
    ) else (
      ov (f_X5_go k0 x5 h) fun h_3 =>
      ob (f_X5_placeOf k0 x3 h_3) fun r_6 h_5 =>
      og (ix r_6 (an (rf k0 5))) <|
      ob (f_X5_worthOf k0 x3 h_5) fun r_10 h_9 =>
      og (ix r_6 (an (rf k0 5))) <|
      nm (sI h_9 (rf k0 5) r_6.toNatClampNeg ((h_5.1 (rf k0 5) r_6.toNatClampNeg) + r_10)) fun h_12 =>
      ob (f_X5_advance k0 h_12) fun r_16 h_15 =>
      nm (x6 + 1) fun x6_17 =>
      f_X5_worstPlace_22 n k0 x3 x4 r_16 x6_17 h_15
    )
def f_X5_worstPlace (k0 : Nat) (x1 : Int32) (x2 : Int32) (x3 : Int32) (h : AH) : Option (Int32 × AH) :=
  ov (f_J7_fill_53178 (rf k0 5) 0 h) fun h_2 =>
  ob (f_X5_first k0 x1 x2 h_2) fun r_5 h_4 =>
  f_X5_worstPlace_22 FU k0 x3 r_5 0 0 h_4
set_option maxHeartbeats 4000000 in
set_option maxRecDepth 100000 in
theorem v_X5_worstPlace_101 {E : EV} {d : Nat} (hd : 5 ≤ d) {r0 : Int32} {h0 : AH} {q71 : Nat → Int32 → Int32 → AH → Option (Int32 × AH)} (cq71 : ∀ (k0 : Nat) (x6 : Int32) (x7 : Int32) (h : AH), q71 k0 x6 x7 h = some (r0, h0) → kd k0 = (0, 5) → V E (d + 1) K_X5_worstPlace (ZI E r0 h0) h [(0, .ref k0), (6, .int x6), (7, .int x7)] [] 71) {k0 : Nat} {x6 : Int32} {x7 : Int32} {h : AH} (hf : f_X5_worstPlace_101 q71 k0 x6 x7 h = some (r0, h0)) (t_k0 : kd k0 = (0, 5)) : V E (d + 1) K_X5_worstPlace (ZI E r0 h0) h [(0, .ref k0), (6, .int x6), (7, .int x7)] [] 101 := by
  unfold f_X5_worstPlace_101 at hf
  obtain ⟨x7_1, e_2, hf⟩ := nm_s hf
  refine V_iinc (a := 1) (L' := [(7, .int x7_1), (0, .ref k0), (6, .int x6)]) 2 dX5_worstPlace_101 rfl (by decide) (Nat.le_of_ble_eq_true rfl) e_2 rfl ?_
  refine V_goto (tgt := 71) dX5_worstPlace_104 (by decide) ?_
  refine V_sub [1, 2, 0] rfl ?_
  exact cq71 _ _ _ _ hf t_k0
set_option maxHeartbeats 4000000 in
set_option maxRecDepth 100000 in
theorem v_X5_worstPlace_71 {E : EV} {d : Nat} (hd : 5 ≤ d) {r0 : Int32} {h0 : AH} : ∀ (n : Nat) (k0 : Nat) (x6 : Int32) (x7 : Int32) (h : AH), f_X5_worstPlace_71 n k0 x6 x7 h = some (r0, h0) → kd k0 = (0, 5) → V E (d + 1) K_X5_worstPlace (ZI E r0 h0) h [(0, .ref k0), (6, .int x6), (7, .int x7)] [] 71 := by
  intro n
  induction n with
  | zero =>
    intro k0 x6 x7 h hf
    rw [f_X5_worstPlace_71] at hf
    cases hf
  | succ n ih =>
    intro k0 x6 x7 h hf t_k0
    rw [f_X5_worstPlace_71] at hf
    refine V_iload 2 dX5_worstPlace_71 rfl ?_
    refine V_aload_n 0 dX5_worstPlace_73 rfl rfl ?_
    refine V_getI F_X5_34 rfl t_k0 rfl dX5_worstPlace_74 ?_
    refine V_ic_ge (tgt := 107) dX5_worstPlace_77 (by decide) (fun c_1 => ?_) (fun c_1 => ?_)
    · have hf := it_s c_1 hf
      refine V_iload 1 dX5_worstPlace_107 rfl ?_
      exact V_iret rfl (so_s hf) dX5_worstPlace_109
    · have hf := if_s c_1 hf
      refine V_aload_n 0 dX5_worstPlace_80 rfl rfl ?_
      refine V_getR F_X5_21 rfl t_k0 rfl dX5_worstPlace_81 ?_
      refine V_iload 2 dX5_worstPlace_84 rfl ?_
      obtain ⟨b_2, hf⟩ := og_s hf
      refine V_iald (rfA t_k0 (Nat.le_of_ble_eq_true rfl) rfl rfl (by decide)) b_2 dX5_worstPlace_86 ?_
      refine V_aload_n 0 dX5_worstPlace_87 rfl rfl ?_
      refine V_getR F_X5_21 rfl t_k0 rfl dX5_worstPlace_88 ?_
      refine V_iload 1 dX5_worstPlace_91 rfl ?_
      obtain ⟨b_3, hf⟩ := og_s hf
      refine V_iald (rfA t_k0 (Nat.le_of_ble_eq_true rfl) rfl rfl (by decide)) b_3 dX5_worstPlace_93 ?_
      refine V_ic_ge (tgt := 101) dX5_worstPlace_94 (by decide) (fun c_4 => ?_) (fun c_4 => ?_)
      · have hf := it_s c_4 hf
        exact v_X5_worstPlace_101 hd ih hf t_k0
      · have hf := if_s c_4 hf
        refine V_iload 2 dX5_worstPlace_97 rfl ?_
        refine V_istore (L' := [(6, .int x7), (0, .ref k0), (7, .int x7)]) dX5_worstPlace_99 (Nat.le_of_ble_eq_true rfl) rfl rfl ?_
        refine V_sub [1, 0, 2] rfl ?_
        exact v_X5_worstPlace_101 hd ih hf t_k0
set_option maxHeartbeats 4000000 in
set_option maxRecDepth 100000 in
theorem v_X5_worstPlace_22 {E : EV} {d : Nat} (hd : 5 ≤ d) {r0 : Int32} {h0 : AH} : ∀ (n : Nat) (k0 : Nat) (x3 : Int32) (x4 : Int32) (x5 : Int32) (x6 : Int32) (h : AH), f_X5_worstPlace_22 n k0 x3 x4 x5 x6 h = some (r0, h0) → kd k0 = (0, 5) → V E (d + 1) K_X5_worstPlace (ZI E r0 h0) h [(0, .ref k0), (3, .int x3), (4, .int x4), (5, .int x5), (6, .int x6)] [] 22 := by
  intro n
  induction n with
  | zero =>
    intro k0 x3 x4 x5 x6 h hf
    rw [f_X5_worstPlace_22] at hf
    cases hf
  | succ n ih =>
    intro k0 x3 x4 x5 x6 h hf t_k0
    rw [f_X5_worstPlace_22] at hf
    refine V_iload 4 dX5_worstPlace_22 rfl ?_
    refine V_iload 2 dX5_worstPlace_24 rfl ?_
    refine V_ic_ge (tgt := 65) dX5_worstPlace_26 (by decide) (fun c_1 => ?_) (fun c_1 => ?_)
    · have hf := it_s c_1 hf
      refine V_iconst (v := 0) dX5_worstPlace_65 (by decide) ?_
      refine V_istore (L' := [(6, .int 0), (0, .ref k0), (3, .int x3), (4, .int x4), (5, .int x5)]) dX5_worstPlace_66 (Nat.le_of_ble_eq_true rfl) rfl rfl ?_
      refine V_iconst (v := 1) dX5_worstPlace_68 (by decide) ?_
      refine V_istore (L' := [(7, .int 1), (6, .int 0), (0, .ref k0), (3, .int x3), (4, .int x4), (5, .int x5)]) dX5_worstPlace_69 (Nat.le_of_ble_eq_true rfl) rfl rfl ?_
      refine V_sub [2, 1, 0] rfl ?_
      exact v_X5_worstPlace_71 hd FU _ _ _ _ hf t_k0
    · have hf := if_s c_1 hf
      refine V_aload_n 0 dX5_worstPlace_29 rfl rfl ?_
      refine V_iload 3 dX5_worstPlace_30 rfl ?_
      obtain ⟨h_3, e_2, hf⟩ := ov_s hf
      refine V_cvv (As := [.int x5]) (rest := []) (c_X5_go (d := d) (Nat.le_trans (Nat.le_of_ble_eq_true rfl) hd) e_2 t_k0) ML_X5_71 MV_X5_go rfl t_k0 rfl rfl (Nat.le_of_ble_eq_true rfl) dX5_worstPlace_32 ?_
      refine V_aload_n 0 dX5_worstPlace_35 rfl rfl ?_
      refine V_getR F_X5_21 rfl t_k0 rfl dX5_worstPlace_36 ?_
      refine V_aload_n 0 dX5_worstPlace_39 rfl rfl ?_
      refine V_iload_n 1 dX5_worstPlace_40 rfl rfl ?_
      obtain ⟨r_6, h_5, e_4, hf⟩ := ob_s hf
      refine V_cvi (As := [.int x3]) (rest := [.ref (rf k0 5)]) (c_X5_placeOf (d := d) (Nat.le_trans (Nat.le_of_ble_eq_true rfl) hd) e_4 t_k0) ML_X5_84 MV_X5_placeOf rfl t_k0 rfl rfl (Nat.le_of_ble_eq_true rfl) dX5_worstPlace_41 ?_
      refine V_dup2 dX5_worstPlace_44 rfl rfl ?_
      obtain ⟨b_7, hf⟩ := og_s hf
      refine V_iald (rfA t_k0 (Nat.le_of_ble_eq_true rfl) rfl rfl (by decide)) b_7 dX5_worstPlace_45 ?_
      refine V_aload_n 0 dX5_worstPlace_46 rfl rfl ?_
      refine V_iload_n 1 dX5_worstPlace_47 rfl rfl ?_
      obtain ⟨r_10, h_9, e_8, hf⟩ := ob_s hf
      refine V_cvi (As := [.int x3]) (rest := [.int (h_5.1 (rf k0 5) r_6.toNatClampNeg), .int r_6, .ref (rf k0 5)]) (c_X5_worthOf (d := d) (Nat.le_trans (Nat.le_of_ble_eq_true rfl) hd) e_8 t_k0) ML_X5_87 MV_X5_worthOf rfl t_k0 rfl rfl (Nat.le_of_ble_eq_true rfl) dX5_worstPlace_48 ?_
      refine V_iadd dX5_worstPlace_51 ?_
      obtain ⟨b_11, hf⟩ := og_s hf
      obtain ⟨h_12, e_13, hf⟩ := nm_s hf
      refine V_iast (rfA t_k0 (Nat.le_of_ble_eq_true rfl) rfl rfl (by decide)) b_11 e_13 dX5_worstPlace_52 ?_
      refine V_aload_n 0 dX5_worstPlace_53 rfl rfl ?_
      obtain ⟨r_16, h_15, e_14, hf⟩ := ob_s hf
      refine V_cvi (As := []) (rest := []) (c_X5_advance (d := d) (Nat.le_trans (Nat.le_of_ble_eq_true rfl) hd) e_14 t_k0) ML_X5_74 MV_X5_advance rfl t_k0 rfl rfl (Nat.le_of_ble_eq_true rfl) dX5_worstPlace_54 ?_
      refine V_istore (L' := [(5, .int r_16), (0, .ref k0), (3, .int x3), (4, .int x4), (6, .int x6)]) dX5_worstPlace_57 (Nat.le_of_ble_eq_true rfl) rfl rfl ?_
      obtain ⟨x6_17, e_18, hf⟩ := nm_s hf
      refine V_iinc (a := 1) (L' := [(6, .int x6_17), (5, .int r_16), (0, .ref k0), (3, .int x3), (4, .int x4)]) 4 dX5_worstPlace_59 rfl (by decide) (Nat.le_of_ble_eq_true rfl) e_18 rfl ?_
      refine V_goto (tgt := 22) dX5_worstPlace_62 (by decide) ?_
      refine V_sub [2, 3, 4, 1, 0] rfl ?_
      exact ih _ _ _ _ _ _ hf t_k0
set_option maxHeartbeats 4000000 in
set_option maxRecDepth 100000 in
theorem c_X5_worstPlace {E : EV} {d : Nat} (hd : 5 + 1 ≤ d) {k0 : Nat} {x1 : Int32} {x2 : Int32} {x3 : Int32} {h : AH} {r0 : Int32} {h0 : AH} (hf : f_X5_worstPlace k0 x1 x2 x3 h = some (r0, h0)) (t_k0 : kd k0 = (0, 5)) : Con E d K_X5_worstPlace (ZI E r0 h0) [.ref k0, .int x1, .int x2, .int x3] h := by
  obtain ⟨d, rfl⟩ : ∃ d', d = d' + 1 := ⟨d - 1, by omega⟩
  have hd := Nat.le_of_succ_le_succ hd
  refine Con.ofV rfl (Nat.le_of_ble_eq_true rfl) ?_
  unfold f_X5_worstPlace at hf
  show V E (d + 1) K_X5_worstPlace (ZI E r0 h0) h [(0, .ref k0), (1, .int x1), (2, .int x2), (3, .int x3)] [] 0
  refine V_aload_n 0 dX5_worstPlace_0 rfl rfl ?_
  refine V_getR F_X5_21 rfl t_k0 rfl dX5_worstPlace_1 ?_
  refine V_iconst (v := 0) dX5_worstPlace_4 (by decide) ?_
  obtain ⟨h_2, e_1, hf⟩ := ov_s hf
  refine V_csv (As := [.ref (rf k0 5), .int 0]) (rest := []) (c_J7_fill_53178 (d := d) (Nat.le_trans (Nat.le_of_ble_eq_true rfl) hd) e_1 (rfA t_k0 (Nat.le_of_ble_eq_true rfl) rfl rfl (by decide))) ML_X5_78 MS_J7_fill_53178 rfl rfl rfl (Nat.le_of_ble_eq_true rfl) dX5_worstPlace_5 ?_
  refine V_aload_n 0 dX5_worstPlace_8 rfl rfl ?_
  refine V_iload_n 1 dX5_worstPlace_9 rfl rfl ?_
  refine V_iload_n 2 dX5_worstPlace_10 rfl rfl ?_
  obtain ⟨r_5, h_4, e_3, hf⟩ := ob_s hf
  refine V_cvi (As := [.int x1, .int x2]) (rest := []) (c_X5_first (d := d) (Nat.le_trans (Nat.le_of_ble_eq_true rfl) hd) e_3 t_k0) ML_X5_68 MV_X5_first rfl t_k0 rfl rfl (Nat.le_of_ble_eq_true rfl) dX5_worstPlace_11 ?_
  refine V_istore (L' := [(4, .int r_5), (0, .ref k0), (1, .int x1), (2, .int x2), (3, .int x3)]) dX5_worstPlace_14 (Nat.le_of_ble_eq_true rfl) rfl rfl ?_
  refine V_iconst (v := 0) dX5_worstPlace_16 (by decide) ?_
  refine V_istore (L' := [(5, .int 0), (4, .int r_5), (0, .ref k0), (1, .int x1), (2, .int x2), (3, .int x3)]) dX5_worstPlace_17 (Nat.le_of_ble_eq_true rfl) rfl rfl ?_
  refine V_iconst (v := 0) dX5_worstPlace_19 (by decide) ?_
  refine V_istore (L' := [(6, .int 0), (5, .int 0), (4, .int r_5), (0, .ref k0), (1, .int x1), (2, .int x2), (3, .int x3)]) dX5_worstPlace_20 (Nat.le_of_ble_eq_true rfl) rfl rfl ?_
  refine V_sub [3, 6, 2, 1, 0] rfl ?_
  exact v_X5_worstPlace_22 hd FU _ _ _ _ _ _ hf t_k0
theorem dX11_worst_0 : decode cX11_worst 0 = .ok (.aload_n 0, 1) := by decide +kernel
theorem dX11_worst_1 : decode cX11_worst 1 = .ok (.iload_n 1, 1) := by decide +kernel
theorem dX11_worst_2 : decode cX11_worst 2 = .ok (.iload_n 2, 1) := by decide +kernel
theorem dX11_worst_3 : decode cX11_worst 3 = .ok (.invokevirtual 182, 3) := by decide +kernel
theorem dX11_worst_6 : decode cX11_worst 6 = .ok (.ifCond .eq 12, 3) := by decide +kernel
theorem dX11_worst_9 : decode cX11_worst 9 = .ok (.aload_n 0, 1) := by decide +kernel
theorem dX11_worst_10 : decode cX11_worst 10 = .ok (.iload_n 2, 1) := by decide +kernel
theorem dX11_worst_11 : decode cX11_worst 11 = .ok (.iload_n 3, 1) := by decide +kernel
theorem dX11_worst_12 : decode cX11_worst 12 = .ok (.invokevirtual 217, 3) := by decide +kernel
theorem dX11_worst_15 : decode cX11_worst 15 = .ok (.ifCond .ne 5, 3) := by decide +kernel
theorem dX11_worst_18 : decode cX11_worst 18 = .ok (.iconst (-1), 1) := by decide +kernel
theorem dX11_worst_19 : decode cX11_worst 19 = .ok (.ireturn, 1) := by decide +kernel
theorem dX11_worst_20 : decode cX11_worst 20 = .ok (.aload_n 0, 1) := by decide +kernel
theorem dX11_worst_21 : decode cX11_worst 21 = .ok (.getfield 73, 3) := by decide +kernel
theorem dX11_worst_24 : decode cX11_worst 24 = .ok (.aload_n 0, 1) := by decide +kernel
theorem dX11_worst_25 : decode cX11_worst 25 = .ok (.iload_n 1, 1) := by decide +kernel
theorem dX11_worst_26 : decode cX11_worst 26 = .ok (.iload_n 2, 1) := by decide +kernel
theorem dX11_worst_27 : decode cX11_worst 27 = .ok (.invokevirtual 195, 3) := by decide +kernel
theorem dX11_worst_30 : decode cX11_worst 30 = .ok (.iload_n 2, 1) := by decide +kernel
theorem dX11_worst_31 : decode cX11_worst 31 = .ok (.iload_n 3, 1) := by decide +kernel
theorem dX11_worst_32 : decode cX11_worst 32 = .ok (.invokevirtual 231, 3) := by decide +kernel
theorem dX11_worst_35 : decode cX11_worst 35 = .ok (.ireturn, 1) := by decide +kernel
theorem ML_X11_231 : MLk RX11 231 yX5_worstPlace := Or.inl ml_X11_231
theorem MV_X5_worstPlace : MVk K_X5_worstPlace 3 5 := ⟨⟨cd_X5_worstPlace, in_X5, ⟨by decide, by decide, by decide +kernel⟩, by decide⟩, im_X5_worstPlace, se_X5_worstPlace, _, _, rfl⟩
def f_X11_worst_18  (h : AH) : Option (Int32 × AH) :=
  some ((-1), h)
def f_X11_worst (k0 : Nat) (x1 : Int32) (x2 : Int32) (x3 : Int32) (h : AH) : Option (Int32 × AH) :=
  ob (f_X11_isParty k0 x1 x2 h) fun r_3 h_2 =>
  if r_3 = 0 then (
    f_X11_worst_18 h_2
  ) else (
    ob (f_X11_isGuest k0 x2 x3 h_2) fun r_7 h_6 =>
    if r_7 = 0 then (
      f_X11_worst_18 h_6
    ) else (
      ob (f_X11_openDoor k0 x1 x2 h_6) fun r_11 h_10 =>
      ob (f_X5_worstPlace (rf k0 11) r_11 x2 x3 h_10) fun r_14 h_13 =>
      some (r_14, h_13)
    )
  )
set_option maxHeartbeats 4000000 in
set_option maxRecDepth 100000 in
theorem v_X11_worst_18 {E : EV} {d : Nat} (hd : 6 ≤ d) {r0 : Int32} {h0 : AH}  {h : AH} (hf : f_X11_worst_18 h = some (r0, h0)) : V E (d + 1) K_X11_worst (ZI E r0 h0) h [] [] 18 := by
  unfold f_X11_worst_18 at hf
  refine V_iconst (v := (-1)) dX11_worst_18 (by decide) ?_
  exact V_iret rfl (so_s hf) dX11_worst_19
set_option maxHeartbeats 4000000 in
set_option maxRecDepth 100000 in
theorem c_X11_worst {E : EV} {d : Nat} (hd : 6 + 1 ≤ d) {k0 : Nat} {x1 : Int32} {x2 : Int32} {x3 : Int32} {h : AH} {r0 : Int32} {h0 : AH} (hf : f_X11_worst k0 x1 x2 x3 h = some (r0, h0)) (t_k0 : kd k0 = (0, 11)) : Con E d K_X11_worst (ZI E r0 h0) [.ref k0, .int x1, .int x2, .int x3] h := by
  obtain ⟨d, rfl⟩ : ∃ d', d = d' + 1 := ⟨d - 1, by omega⟩
  have hd := Nat.le_of_succ_le_succ hd
  refine Con.ofV rfl (Nat.le_of_ble_eq_true rfl) ?_
  unfold f_X11_worst at hf
  show V E (d + 1) K_X11_worst (ZI E r0 h0) h [(0, .ref k0), (1, .int x1), (2, .int x2), (3, .int x3)] [] 0
  refine V_aload_n 0 dX11_worst_0 rfl rfl ?_
  refine V_iload_n 1 dX11_worst_1 rfl rfl ?_
  refine V_iload_n 2 dX11_worst_2 rfl rfl ?_
  obtain ⟨r_3, h_2, e_1, hf⟩ := ob_s hf
  refine V_cvi (As := [.int x1, .int x2]) (rest := []) (c_X11_isParty (d := d) (Nat.le_trans (Nat.le_of_ble_eq_true rfl) hd) e_1 t_k0) ML_X11_182 MV_X11_isParty rfl t_k0 rfl rfl (Nat.le_of_ble_eq_true rfl) dX11_worst_3 ?_
  refine V_if_eq (tgt := 18) dX11_worst_6 (by decide) (fun c_4 => ?_) (fun c_4 => ?_)
  · have hf := it_s c_4 hf
    refine V_sub [] rfl ?_
    exact v_X11_worst_18 hd hf
  · have hf := if_s c_4 hf
    refine V_aload_n 0 dX11_worst_9 rfl rfl ?_
    refine V_iload_n 2 dX11_worst_10 rfl rfl ?_
    refine V_iload_n 3 dX11_worst_11 rfl rfl ?_
    obtain ⟨r_7, h_6, e_5, hf⟩ := ob_s hf
    refine V_cvi (As := [.int x2, .int x3]) (rest := []) (c_X11_isGuest (d := d) (Nat.le_trans (Nat.le_of_ble_eq_true rfl) hd) e_5 t_k0) ML_X11_217 MV_X11_isGuest rfl t_k0 rfl rfl (Nat.le_of_ble_eq_true rfl) dX11_worst_12 ?_
    refine V_if_ne (tgt := 20) dX11_worst_15 (by decide) (fun c_8 => ?_) (fun c_8 => ?_)
    · have hf := if_s c_8 hf
      refine V_aload_n 0 dX11_worst_20 rfl rfl ?_
      refine V_getR F_X11_73 rfl t_k0 rfl dX11_worst_21 ?_
      refine V_aload_n 0 dX11_worst_24 rfl rfl ?_
      refine V_iload_n 1 dX11_worst_25 rfl rfl ?_
      refine V_iload_n 2 dX11_worst_26 rfl rfl ?_
      obtain ⟨r_11, h_10, e_9, hf⟩ := ob_s hf
      refine V_cvi (As := [.int x1, .int x2]) (rest := [.ref (rf k0 11)]) (c_X11_openDoor (d := d) (Nat.le_trans (Nat.le_of_ble_eq_true rfl) hd) e_9 t_k0) ML_X11_195 MV_X11_openDoor rfl t_k0 rfl rfl (Nat.le_of_ble_eq_true rfl) dX11_worst_27 ?_
      refine V_iload_n 2 dX11_worst_30 rfl rfl ?_
      refine V_iload_n 3 dX11_worst_31 rfl rfl ?_
      obtain ⟨r_14, h_13, e_12, hf⟩ := ob_s hf
      refine V_cvi (As := [.int r_11, .int x2, .int x3]) (rest := []) (c_X5_worstPlace (d := d) (Nat.le_trans (Nat.le_of_ble_eq_true rfl) hd) e_12 (rfO t_k0 (Nat.le_of_ble_eq_true rfl) rfl rfl)) ML_X11_231 MV_X5_worstPlace rfl (rfO t_k0 (Nat.le_of_ble_eq_true rfl) rfl rfl) rfl rfl (Nat.le_of_ble_eq_true rfl) dX11_worst_32 ?_
      exact V_iret rfl (so_s hf) dX11_worst_35
    · have hf := it_s c_8 hf
      refine V_sub [] rfl ?_
      exact v_X11_worst_18 hd hf
theorem dX9_bare_0 : decode cX9_bare 0 = .ok (.iconst 0, 1) := by decide +kernel
theorem dX9_bare_1 : decode cX9_bare 1 = .ok (.istore_n 2, 1) := by decide +kernel
theorem dX9_bare_2 : decode cX9_bare 2 = .ok (.iconst 0, 1) := by decide +kernel
theorem dX9_bare_3 : decode cX9_bare 3 = .ok (.istore_n 3, 1) := by decide +kernel
theorem dX9_bare_4 : decode cX9_bare 4 = .ok (.iload_n 3, 1) := by decide +kernel
theorem dX9_bare_5 : decode cX9_bare 5 = .ok (.iload_n 1, 1) := by decide +kernel
theorem dX9_bare_6 : decode cX9_bare 6 = .ok (.if_icmp .ge 27, 3) := by decide +kernel
theorem dX9_bare_9 : decode cX9_bare 9 = .ok (.iload_n 2, 1) := by decide +kernel
theorem dX9_bare_10 : decode cX9_bare 10 = .ok (.aload_n 0, 1) := by decide +kernel
theorem dX9_bare_11 : decode cX9_bare 11 = .ok (.getfield 9, 3) := by decide +kernel
theorem dX9_bare_14 : decode cX9_bare 14 = .ok (.iload_n 3, 1) := by decide +kernel
theorem dX9_bare_15 : decode cX9_bare 15 = .ok (.iaload, 1) := by decide +kernel
theorem dX9_bare_16 : decode cX9_bare 16 = .ok (.iconst (-1), 1) := by decide +kernel
theorem dX9_bare_17 : decode cX9_bare 17 = .ok (.if_icmp .ne 7, 3) := by decide +kernel
theorem dX9_bare_20 : decode cX9_bare 20 = .ok (.iconst 1, 1) := by decide +kernel
theorem dX9_bare_21 : decode cX9_bare 21 = .ok (.goto 4, 3) := by decide +kernel
theorem dX9_bare_24 : decode cX9_bare 24 = .ok (.iconst 0, 1) := by decide +kernel
theorem dX9_bare_25 : decode cX9_bare 25 = .ok (.iadd, 1) := by decide +kernel
theorem dX9_bare_26 : decode cX9_bare 26 = .ok (.istore_n 2, 1) := by decide +kernel
theorem dX9_bare_27 : decode cX9_bare 27 = .ok (.iinc 3 1, 3) := by decide +kernel
theorem dX9_bare_30 : decode cX9_bare 30 = .ok (.goto (-26), 3) := by decide +kernel
theorem dX9_bare_33 : decode cX9_bare 33 = .ok (.iload_n 2, 1) := by decide +kernel
theorem dX9_bare_34 : decode cX9_bare 34 = .ok (.ireturn, 1) := by decide +kernel
def f_X9_bare_25 (q4 : Nat → Int32 → Int32 → Int32 → AH → Option (Int32 × AH)) (k0 : Nat) (x1 : Int32) (x3 : Int32) (s0 : Int32) (s1 : Int32) (h : AH) : Option (Int32 × AH) :=
  nm ((s1 + s0)) fun x2_1 =>
  nm (x3 + 1) fun x3_3 =>
  q4 k0 x1 x2_1 x3_3 h
def f_X9_bare_4 : Nat → Nat → Int32 → Int32 → Int32 → AH → Option (Int32 × AH)
  | 0, _, _, _, _, _ => none
  | n + 1, k0, x1, x2, x3, h =>
    if x1 ≤ x3 then (
      some (x2, h)
    ) else (
      og (ix x3 (an (rf k0 0))) <|
      if (h.1 (rf k0 0) x3.toNatClampNeg) = (-1) then (
        f_X9_bare_25 (f_X9_bare_4 n) k0 x1 x3 1 x2 h
      ) else (
        f_X9_bare_25 (f_X9_bare_4 n) k0 x1 x3 0 x2 h
      )
    )
def f_X9_bare (k0 : Nat) (x1 : Int32) (h : AH) : Option (Int32 × AH) :=
  f_X9_bare_4 FU k0 x1 0 0 h
set_option maxHeartbeats 4000000 in
set_option maxRecDepth 100000 in
theorem v_X9_bare_25 {E : EV} {d : Nat} (hd : 0 ≤ d) {r0 : Int32} {h0 : AH} {q4 : Nat → Int32 → Int32 → Int32 → AH → Option (Int32 × AH)} (cq4 : ∀ (k0 : Nat) (x1 : Int32) (x2 : Int32) (x3 : Int32) (h : AH), q4 k0 x1 x2 x3 h = some (r0, h0) → kd k0 = (0, 9) → V E (d + 1) K_X9_bare (ZI E r0 h0) h [(0, .ref k0), (1, .int x1), (2, .int x2), (3, .int x3)] [] 4) {k0 : Nat} {x1 : Int32} {x3 : Int32} {s0 : Int32} {s1 : Int32} {h : AH} (hf : f_X9_bare_25 q4 k0 x1 x3 s0 s1 h = some (r0, h0)) (t_k0 : kd k0 = (0, 9)) : V E (d + 1) K_X9_bare (ZI E r0 h0) h [(0, .ref k0), (1, .int x1), (3, .int x3)] [.int s0, .int s1] 25 := by
  unfold f_X9_bare_25 at hf
  refine V_iadd dX9_bare_25 ?_
  obtain ⟨x2_1, e_2, hf⟩ := nm_s hf
  refine V_istore_n (L' := [(2, .int x2_1), (0, .ref k0), (1, .int x1), (3, .int x3)]) dX9_bare_26 rfl (Nat.le_of_ble_eq_true rfl) e_2 rfl ?_
  obtain ⟨x3_3, e_4, hf⟩ := nm_s hf
  refine V_iinc (a := 1) (L' := [(3, .int x3_3), (2, .int x2_1), (0, .ref k0), (1, .int x1)]) 3 dX9_bare_27 rfl (by decide) (Nat.le_of_ble_eq_true rfl) e_4 rfl ?_
  refine V_goto (tgt := 4) dX9_bare_30 (by decide) ?_
  refine V_sub [2, 3, 1, 0] rfl ?_
  exact cq4 _ _ _ _ _ hf t_k0
set_option maxHeartbeats 4000000 in
set_option maxRecDepth 100000 in
theorem v_X9_bare_4 {E : EV} {d : Nat} (hd : 0 ≤ d) {r0 : Int32} {h0 : AH} : ∀ (n : Nat) (k0 : Nat) (x1 : Int32) (x2 : Int32) (x3 : Int32) (h : AH), f_X9_bare_4 n k0 x1 x2 x3 h = some (r0, h0) → kd k0 = (0, 9) → V E (d + 1) K_X9_bare (ZI E r0 h0) h [(0, .ref k0), (1, .int x1), (2, .int x2), (3, .int x3)] [] 4 := by
  intro n
  induction n with
  | zero =>
    intro k0 x1 x2 x3 h hf
    rw [f_X9_bare_4] at hf
    cases hf
  | succ n ih =>
    intro k0 x1 x2 x3 h hf t_k0
    rw [f_X9_bare_4] at hf
    refine V_iload_n 3 dX9_bare_4 rfl rfl ?_
    refine V_iload_n 1 dX9_bare_5 rfl rfl ?_
    refine V_ic_ge (tgt := 33) dX9_bare_6 (by decide) (fun c_1 => ?_) (fun c_1 => ?_)
    · have hf := it_s c_1 hf
      refine V_iload_n 2 dX9_bare_33 rfl rfl ?_
      exact V_iret rfl (so_s hf) dX9_bare_34
    · have hf := if_s c_1 hf
      refine V_iload_n 2 dX9_bare_9 rfl rfl ?_
      refine V_aload_n 0 dX9_bare_10 rfl rfl ?_
      refine V_getR F_X9_9 rfl t_k0 rfl dX9_bare_11 ?_
      refine V_iload_n 3 dX9_bare_14 rfl rfl ?_
      obtain ⟨b_2, hf⟩ := og_s hf
      refine V_iald (rfA t_k0 (Nat.le_of_ble_eq_true rfl) rfl rfl (by decide)) b_2 dX9_bare_15 ?_
      refine V_iconst (v := (-1)) dX9_bare_16 (by decide) ?_
      refine V_ic_ne (tgt := 24) dX9_bare_17 (by decide) (fun c_3 => ?_) (fun c_3 => ?_)
      · have hf := if_s c_3 hf
        refine V_iconst (v := 0) dX9_bare_24 (by decide) ?_
        refine V_sub [0, 1, 3] rfl ?_
        exact v_X9_bare_25 hd ih hf t_k0
      · have hf := it_s c_3 hf
        refine V_iconst (v := 1) dX9_bare_20 (by decide) ?_
        refine V_goto (tgt := 25) dX9_bare_21 (by decide) ?_
        refine V_sub [0, 1, 3] rfl ?_
        exact v_X9_bare_25 hd ih hf t_k0
set_option maxHeartbeats 4000000 in
set_option maxRecDepth 100000 in
theorem c_X9_bare {E : EV} {d : Nat} (hd : 0 + 1 ≤ d) {k0 : Nat} {x1 : Int32} {h : AH} {r0 : Int32} {h0 : AH} (hf : f_X9_bare k0 x1 h = some (r0, h0)) (t_k0 : kd k0 = (0, 9)) : Con E d K_X9_bare (ZI E r0 h0) [.ref k0, .int x1] h := by
  obtain ⟨d, rfl⟩ : ∃ d', d = d' + 1 := ⟨d - 1, by omega⟩
  have hd := Nat.le_of_succ_le_succ hd
  refine Con.ofV rfl (Nat.le_of_ble_eq_true rfl) ?_
  unfold f_X9_bare at hf
  show V E (d + 1) K_X9_bare (ZI E r0 h0) h [(0, .ref k0), (1, .int x1)] [] 0
  refine V_iconst (v := 0) dX9_bare_0 (by decide) ?_
  refine V_istore_n (L' := [(2, .int 0), (0, .ref k0), (1, .int x1)]) dX9_bare_1 rfl (Nat.le_of_ble_eq_true rfl) rfl rfl ?_
  refine V_iconst (v := 0) dX9_bare_2 (by decide) ?_
  refine V_istore_n (L' := [(3, .int 0), (2, .int 0), (0, .ref k0), (1, .int x1)]) dX9_bare_3 rfl (Nat.le_of_ble_eq_true rfl) rfl rfl ?_
  refine V_sub [2, 3, 1, 0] rfl ?_
  exact v_X9_bare_4 hd FU _ _ _ _ _ hf t_k0
theorem dX11_year_0 : decode cX11_year 0 = .ok (.aload_n 0, 1) := by decide +kernel
theorem dX11_year_1 : decode cX11_year 1 = .ok (.getfield 19, 3) := by decide +kernel
theorem dX11_year_4 : decode cX11_year 4 = .ok (.getfield 144, 3) := by decide +kernel
theorem dX11_year_7 : decode cX11_year 7 = .ok (.ifCond .eq 14, 3) := by decide +kernel
theorem dX11_year_10 : decode cX11_year 10 = .ok (.iload_n 1, 1) := by decide +kernel
theorem dX11_year_11 : decode cX11_year 11 = .ok (.iconst 1, 1) := by decide +kernel
theorem dX11_year_12 : decode cX11_year 12 = .ok (.if_icmp .lt 9, 3) := by decide +kernel
theorem dX11_year_15 : decode cX11_year 15 = .ok (.iload_n 1, 1) := by decide +kernel
theorem dX11_year_16 : decode cX11_year 16 = .ok (.bipush 60, 2) := by decide +kernel
theorem dX11_year_18 : decode cX11_year 18 = .ok (.if_icmp .le 5, 3) := by decide +kernel
theorem dX11_year_21 : decode cX11_year 21 = .ok (.iconst (-1), 1) := by decide +kernel
theorem dX11_year_22 : decode cX11_year 22 = .ok (.ireturn, 1) := by decide +kernel
theorem dX11_year_23 : decode cX11_year 23 = .ok (.aload_n 0, 1) := by decide +kernel
theorem dX11_year_24 : decode cX11_year 24 = .ok (.lload_n 2, 1) := by decide +kernel
theorem dX11_year_25 : decode cX11_year 25 = .ok (.putfield 264, 3) := by decide +kernel
theorem dX11_year_28 : decode cX11_year 28 = .ok (.iconst 0, 1) := by decide +kernel
theorem dX11_year_29 : decode cX11_year 29 = .ok (.istore 4, 2) := by decide +kernel
theorem dX11_year_31 : decode cX11_year 31 = .ok (.iload 4, 2) := by decide +kernel
theorem dX11_year_33 : decode cX11_year 33 = .ok (.iload_n 1, 1) := by decide +kernel
theorem dX11_year_34 : decode cX11_year 34 = .ok (.if_icmp .ge 36, 3) := by decide +kernel
theorem dX11_year_37 : decode cX11_year 37 = .ok (.aload_n 0, 1) := by decide +kernel
theorem dX11_year_38 : decode cX11_year 38 = .ok (.iconst 4, 1) := by decide +kernel
theorem dX11_year_39 : decode cX11_year 39 = .ok (.invokevirtual 268, 3) := by decide +kernel
theorem dX11_year_42 : decode cX11_year 42 = .ok (.istore 5, 2) := by decide +kernel
theorem dX11_year_44 : decode cX11_year 44 = .ok (.aload_n 0, 1) := by decide +kernel
theorem dX11_year_45 : decode cX11_year 45 = .ok (.invokevirtual 271, 3) := by decide +kernel
theorem dX11_year_48 : decode cX11_year 48 = .ok (.istore 6, 2) := by decide +kernel
theorem dX11_year_50 : decode cX11_year 50 = .ok (.aload_n 0, 1) := by decide +kernel
theorem dX11_year_51 : decode cX11_year 51 = .ok (.iload 6, 2) := by decide +kernel
theorem dX11_year_53 : decode cX11_year 53 = .ok (.invokevirtual 274, 3) := by decide +kernel
theorem dX11_year_56 : decode cX11_year 56 = .ok (.aload_n 0, 1) := by decide +kernel
theorem dX11_year_57 : decode cX11_year 57 = .ok (.iload 5, 2) := by decide +kernel
theorem dX11_year_59 : decode cX11_year 59 = .ok (.iload 6, 2) := by decide +kernel
theorem dX11_year_61 : decode cX11_year 61 = .ok (.invokevirtual 188, 3) := by decide +kernel
theorem dX11_year_64 : decode cX11_year 64 = .ok (.iinc 4 1, 3) := by decide +kernel
theorem dX11_year_67 : decode cX11_year 67 = .ok (.goto (-36), 3) := by decide +kernel
theorem dX11_year_70 : decode cX11_year 70 = .ok (.aload_n 0, 1) := by decide +kernel
theorem dX11_year_71 : decode cX11_year 71 = .ok (.getfield 45, 3) := by decide +kernel
theorem dX11_year_74 : decode cX11_year 74 = .ok (.aload_n 0, 1) := by decide +kernel
theorem dX11_year_75 : decode cX11_year 75 = .ok (.getfield 19, 3) := by decide +kernel
theorem dX11_year_78 : decode cX11_year 78 = .ok (.getfield 144, 3) := by decide +kernel
theorem dX11_year_81 : decode cX11_year 81 = .ok (.invokevirtual 277, 3) := by decide +kernel
theorem dX11_year_84 : decode cX11_year 84 = .ok (.ireturn, 1) := by decide +kernel
theorem ML_X11_277 : MLk RX11 277 yX9_bare := Or.inl ml_X11_277
theorem MV_X9_bare : MVk K_X9_bare 1 9 := ⟨⟨cd_X9_bare, in_X9, ⟨by decide, by decide, by decide +kernel⟩, by decide⟩, im_X9_bare, se_X9_bare, _, _, rfl⟩
theorem ML_X11_271 : MLk RX11 271 yX11_drawGuests := Or.inl ml_X11_271
theorem MV_X11_drawGuests : MVk K_X11_drawGuests 0 11 := ⟨⟨cd_X11_drawGuests, in_X11, ⟨by decide, by decide, by decide +kernel⟩, by decide⟩, im_X11_drawGuests, se_X11_drawGuests, _, _, rfl⟩
theorem ML_X11_274 : MLk RX11 274 yX11_drawOrder := Or.inl ml_X11_274
theorem MV_X11_drawOrder : MVk K_X11_drawOrder 1 11 := ⟨⟨cd_X11_drawOrder, in_X11, ⟨by decide, by decide, by decide +kernel⟩, by decide⟩, im_X11_drawOrder, se_X11_drawOrder, _, _, rfl⟩
def f_X11_year_21  (h : AH) : Option (Int32 × AH) :=
  some ((-1), h)
def f_X11_year_31 : Nat → Nat → Int32 → Int32 → AH → Option (Int32 × AH)
  | 0, _, _, _, _ => none
  | n + 1, k0, x1, x4, h =>
    if x1 ≤ x4 then (
      ob (f_X9_bare (rf k0 6) (h.1 (rf k0 1) 2) h) fun r_4 h_3 =>
      some (r_4, h_3)
    ) else (
      ob (f_X11_draw k0 4 h) fun r_7 h_6 =>
      ob (f_X11_drawGuests k0 h_6) fun r_10 h_9 =>
      ov (f_X11_drawOrder k0 r_10 h_9) fun h_12 =>
      ov (f_X11_holdEvening k0 r_7 r_10 h_12) fun h_14 =>
      nm (x4 + 1) fun x4_15 =>
      f_X11_year_31 n k0 x1 x4_15 h_14
    )
def f_X11_year (k0 : Nat) (x1 : Int32) (l2 : Int64) (h : AH) : Option (Int32 × AH) :=
  if (h.1 (rf k0 1) 2) = 0 then (
    f_X11_year_21 h
  ) else (
    if x1 < 1 then (
      f_X11_year_21 h
    ) else (
      if x1 ≤ 60 then (
        nm (sL h k0 l2) fun h_4 =>
        f_X11_year_31 FU k0 x1 0 h_4
      ) else (
        f_X11_year_21 h
      )
    )
  )
set_option maxHeartbeats 4000000 in
set_option maxRecDepth 100000 in
theorem v_X11_year_21 {E : EV} {d : Nat} (hd : 6 ≤ d) {r0 : Int32} {h0 : AH}  {h : AH} (hf : f_X11_year_21 h = some (r0, h0)) : V E (d + 1) K_X11_year (ZI E r0 h0) h [] [] 21 := by
  unfold f_X11_year_21 at hf
  refine V_iconst (v := (-1)) dX11_year_21 (by decide) ?_
  exact V_iret rfl (so_s hf) dX11_year_22
set_option maxHeartbeats 4000000 in
set_option maxRecDepth 100000 in
theorem v_X11_year_31 {E : EV} {d : Nat} (hd : 6 ≤ d) {r0 : Int32} {h0 : AH} : ∀ (n : Nat) (k0 : Nat) (x1 : Int32) (x4 : Int32) (h : AH), f_X11_year_31 n k0 x1 x4 h = some (r0, h0) → kd k0 = (0, 11) → V E (d + 1) K_X11_year (ZI E r0 h0) h [(0, .ref k0), (1, .int x1), (4, .int x4)] [] 31 := by
  intro n
  induction n with
  | zero =>
    intro k0 x1 x4 h hf
    rw [f_X11_year_31] at hf
    cases hf
  | succ n ih =>
    intro k0 x1 x4 h hf t_k0
    rw [f_X11_year_31] at hf
    refine V_iload 2 dX11_year_31 rfl ?_
    refine V_iload_n 1 dX11_year_33 rfl rfl ?_
    refine V_ic_ge (tgt := 70) dX11_year_34 (by decide) (fun c_1 => ?_) (fun c_1 => ?_)
    · have hf := it_s c_1 hf
      refine V_aload_n 0 dX11_year_70 rfl rfl ?_
      refine V_getR F_X11_45 rfl t_k0 rfl dX11_year_71 ?_
      refine V_aload_n 0 dX11_year_74 rfl rfl ?_
      refine V_getR F_X11_19 rfl t_k0 rfl dX11_year_75 ?_
      refine V_getI F_X11_144 rfl (rfO t_k0 (Nat.le_of_ble_eq_true rfl) rfl rfl) rfl dX11_year_78 ?_
      obtain ⟨r_4, h_3, e_2, hf⟩ := ob_s hf
      refine V_cvi (As := [.int (h.1 (rf k0 1) 2)]) (rest := []) (c_X9_bare (d := d) (Nat.le_trans (Nat.le_of_ble_eq_true rfl) hd) e_2 (rfO t_k0 (Nat.le_of_ble_eq_true rfl) rfl rfl)) ML_X11_277 MV_X9_bare rfl (rfO t_k0 (Nat.le_of_ble_eq_true rfl) rfl rfl) rfl rfl (Nat.le_of_ble_eq_true rfl) dX11_year_81 ?_
      exact V_iret rfl (so_s hf) dX11_year_84
    · have hf := if_s c_1 hf
      refine V_aload_n 0 dX11_year_37 rfl rfl ?_
      refine V_iconst (v := 4) dX11_year_38 (by decide) ?_
      obtain ⟨r_7, h_6, e_5, hf⟩ := ob_s hf
      refine V_cvi (As := [.int 4]) (rest := []) (c_X11_draw (d := d) (Nat.le_trans (Nat.le_of_ble_eq_true rfl) hd) e_5 t_k0) ML_X11_268 MV_X11_draw rfl t_k0 rfl rfl (Nat.le_of_ble_eq_true rfl) dX11_year_39 ?_
      refine V_istore (L' := [(5, .int r_7), (0, .ref k0), (1, .int x1), (4, .int x4)]) dX11_year_42 (Nat.le_of_ble_eq_true rfl) rfl rfl ?_
      refine V_aload_n 1 dX11_year_44 rfl rfl ?_
      obtain ⟨r_10, h_9, e_8, hf⟩ := ob_s hf
      refine V_cvi (As := []) (rest := []) (c_X11_drawGuests (d := d) (Nat.le_trans (Nat.le_of_ble_eq_true rfl) hd) e_8 t_k0) ML_X11_271 MV_X11_drawGuests rfl t_k0 rfl rfl (Nat.le_of_ble_eq_true rfl) dX11_year_45 ?_
      refine V_istore (L' := [(6, .int r_10), (5, .int r_7), (0, .ref k0), (1, .int x1), (4, .int x4)]) dX11_year_48 (Nat.le_of_ble_eq_true rfl) rfl rfl ?_
      refine V_aload_n 2 dX11_year_50 rfl rfl ?_
      refine V_iload 0 dX11_year_51 rfl ?_
      obtain ⟨h_12, e_11, hf⟩ := ov_s hf
      refine V_cvv (As := [.int r_10]) (rest := []) (c_X11_drawOrder (d := d) (Nat.le_trans (Nat.le_of_ble_eq_true rfl) hd) e_11 t_k0) ML_X11_274 MV_X11_drawOrder rfl t_k0 rfl rfl (Nat.le_of_ble_eq_true rfl) dX11_year_53 ?_
      refine V_aload_n 2 dX11_year_56 rfl rfl ?_
      refine V_iload 1 dX11_year_57 rfl ?_
      refine V_iload 0 dX11_year_59 rfl ?_
      obtain ⟨h_14, e_13, hf⟩ := ov_s hf
      refine V_cvv (As := [.int r_7, .int r_10]) (rest := []) (c_X11_holdEvening (d := d) (Nat.le_trans (Nat.le_of_ble_eq_true rfl) hd) e_13 t_k0) ML_X11_188 MV_X11_holdEvening rfl t_k0 rfl rfl (Nat.le_of_ble_eq_true rfl) dX11_year_61 ?_
      obtain ⟨x4_15, e_16, hf⟩ := nm_s hf
      refine V_iinc (a := 1) (L' := [(4, .int x4_15), (6, .int r_10), (5, .int r_7), (0, .ref k0), (1, .int x1)]) 4 dX11_year_64 rfl (by decide) (Nat.le_of_ble_eq_true rfl) e_16 rfl ?_
      refine V_goto (tgt := 31) dX11_year_67 (by decide) ?_
      refine V_sub [3, 4, 0] rfl ?_
      exact ih _ _ _ _ hf t_k0
set_option maxHeartbeats 4000000 in
set_option maxRecDepth 100000 in
theorem c_X11_year {E : EV} {d : Nat} (hd : 6 + 1 ≤ d) {k0 : Nat} {x1 : Int32} {l2 : Int64} {h : AH} {r0 : Int32} {h0 : AH} (hf : f_X11_year k0 x1 l2 h = some (r0, h0)) (t_k0 : kd k0 = (0, 11)) : Con E d K_X11_year (ZI E r0 h0) [.ref k0, .int x1, .long l2] h := by
  obtain ⟨d, rfl⟩ : ∃ d', d = d' + 1 := ⟨d - 1, by omega⟩
  have hd := Nat.le_of_succ_le_succ hd
  refine Con.ofV rfl (Nat.le_of_ble_eq_true rfl) ?_
  unfold f_X11_year at hf
  show V E (d + 1) K_X11_year (ZI E r0 h0) h [(0, .ref k0), (1, .int x1), (2, .long l2)] [] 0
  refine V_aload_n 0 dX11_year_0 rfl rfl ?_
  refine V_getR F_X11_19 rfl t_k0 rfl dX11_year_1 ?_
  refine V_getI F_X11_144 rfl (rfO t_k0 (Nat.le_of_ble_eq_true rfl) rfl rfl) rfl dX11_year_4 ?_
  refine V_if_eq (tgt := 21) dX11_year_7 (by decide) (fun c_1 => ?_) (fun c_1 => ?_)
  · have hf := it_s c_1 hf
    refine V_sub [] rfl ?_
    exact v_X11_year_21 hd hf
  · have hf := if_s c_1 hf
    refine V_iload_n 1 dX11_year_10 rfl rfl ?_
    refine V_iconst (v := 1) dX11_year_11 (by decide) ?_
    refine V_ic_lt (tgt := 21) dX11_year_12 (by decide) (fun c_2 => ?_) (fun c_2 => ?_)
    · have hf := it_s c_2 hf
      refine V_sub [] rfl ?_
      exact v_X11_year_21 hd hf
    · have hf := if_s c_2 hf
      refine V_iload_n 1 dX11_year_15 rfl rfl ?_
      refine V_bipush (v := 60) dX11_year_16 (by decide) ?_
      refine V_ic_le (tgt := 23) dX11_year_18 (by decide) (fun c_3 => ?_) (fun c_3 => ?_)
      · have hf := it_s c_3 hf
        refine V_aload_n 0 dX11_year_23 rfl rfl ?_
        refine V_lload_n 2 dX11_year_24 rfl rfl ?_
        obtain ⟨h_4, e_5, hf⟩ := nm_s hf
        refine V_putL P_X11_264 rfl t_k0 rfl (by decide) e_5 dX11_year_25 ?_
        refine V_iconst (v := 0) dX11_year_28 (by decide) ?_
        refine V_istore (L' := [(4, .int 0), (0, .ref k0), (1, .int x1), (2, .long l2)]) dX11_year_29 (Nat.le_of_ble_eq_true rfl) rfl rfl ?_
        refine V_sub [1, 2, 0] rfl ?_
        exact v_X11_year_31 hd FU _ _ _ _ hf t_k0
      · have hf := if_s c_3 hf
        refine V_sub [] rfl ?_
        exact v_X11_year_21 hd hf
theorem dX12_agree_0 : decode cX12_agree 0 = .ok (.aload_n 0, 1) := by decide +kernel
theorem dX12_agree_1 : decode cX12_agree 1 = .ok (.iconst 0, 1) := by decide +kernel
theorem dX12_agree_2 : decode cX12_agree 2 = .ok (.putfield 120, 3) := by decide +kernel
theorem dX12_agree_5 : decode cX12_agree 5 = .ok (.aload_n 0, 1) := by decide +kernel
theorem dX12_agree_6 : decode cX12_agree 6 = .ok (.getfield 283, 3) := by decide +kernel
theorem dX12_agree_9 : decode cX12_agree 9 = .ok (.ifCond .ne 5, 3) := by decide +kernel
theorem dX12_agree_12 : decode cX12_agree 12 = .ok (.iconst (-1), 1) := by decide +kernel
theorem dX12_agree_13 : decode cX12_agree 13 = .ok (.ireturn, 1) := by decide +kernel
theorem dX12_agree_14 : decode cX12_agree 14 = .ok (.iconst 0, 1) := by decide +kernel
theorem dX12_agree_15 : decode cX12_agree 15 = .ok (.istore_n 1, 1) := by decide +kernel
theorem dX12_agree_16 : decode cX12_agree 16 = .ok (.iconst 0, 1) := by decide +kernel
theorem dX12_agree_17 : decode cX12_agree 17 = .ok (.istore_n 2, 1) := by decide +kernel
theorem dX12_agree_18 : decode cX12_agree 18 = .ok (.iload_n 2, 1) := by decide +kernel
theorem dX12_agree_19 : decode cX12_agree 19 = .ok (.aload_n 0, 1) := by decide +kernel
theorem dX12_agree_20 : decode cX12_agree 20 = .ok (.getfield 283, 3) := by decide +kernel
theorem dX12_agree_23 : decode cX12_agree 23 = .ok (.if_icmp .ge 96, 3) := by decide +kernel
theorem dX12_agree_26 : decode cX12_agree 26 = .ok (.iconst 1, 1) := by decide +kernel
theorem dX12_agree_27 : decode cX12_agree 27 = .ok (.istore_n 3, 1) := by decide +kernel
theorem dX12_agree_28 : decode cX12_agree 28 = .ok (.iconst 0, 1) := by decide +kernel
theorem dX12_agree_29 : decode cX12_agree 29 = .ok (.istore 4, 2) := by decide +kernel
theorem dX12_agree_31 : decode cX12_agree 31 = .ok (.iload 4, 2) := by decide +kernel
theorem dX12_agree_33 : decode cX12_agree 33 = .ok (.aload_n 0, 1) := by decide +kernel
theorem dX12_agree_34 : decode cX12_agree 34 = .ok (.getfield 289, 3) := by decide +kernel
theorem dX12_agree_37 : decode cX12_agree 37 = .ok (.if_icmp .ge 62, 3) := by decide +kernel
theorem dX12_agree_40 : decode cX12_agree 40 = .ok (.iload_n 3, 1) := by decide +kernel
theorem dX12_agree_41 : decode cX12_agree 41 = .ok (.ifCond .eq 50, 3) := by decide +kernel
theorem dX12_agree_44 : decode cX12_agree 44 = .ok (.aload_n 0, 1) := by decide +kernel
theorem dX12_agree_45 : decode cX12_agree 45 = .ok (.getfield 51, 3) := by decide +kernel
theorem dX12_agree_48 : decode cX12_agree 48 = .ok (.iload_n 2, 1) := by decide +kernel
theorem dX12_agree_49 : decode cX12_agree 49 = .ok (.iaload, 1) := by decide +kernel
theorem dX12_agree_50 : decode cX12_agree 50 = .ok (.aload_n 0, 1) := by decide +kernel
theorem dX12_agree_51 : decode cX12_agree 51 = .ok (.getfield 108, 3) := by decide +kernel
theorem dX12_agree_54 : decode cX12_agree 54 = .ok (.iload 4, 2) := by decide +kernel
theorem dX12_agree_56 : decode cX12_agree 56 = .ok (.iaload, 1) := by decide +kernel
theorem dX12_agree_57 : decode cX12_agree 57 = .ok (.if_icmp .ne 34, 3) := by decide +kernel
theorem dX12_agree_60 : decode cX12_agree 60 = .ok (.aload_n 0, 1) := by decide +kernel
theorem dX12_agree_61 : decode cX12_agree 61 = .ok (.getfield 66, 3) := by decide +kernel
theorem dX12_agree_64 : decode cX12_agree 64 = .ok (.bipush 6, 2) := by decide +kernel
theorem dX12_agree_66 : decode cX12_agree 66 = .ok (.aload_n 0, 1) := by decide +kernel
theorem dX12_agree_67 : decode cX12_agree 67 = .ok (.getfield 102, 3) := by decide +kernel
theorem dX12_agree_70 : decode cX12_agree 70 = .ok (.iload 4, 2) := by decide +kernel
theorem dX12_agree_72 : decode cX12_agree 72 = .ok (.iaload, 1) := by decide +kernel
theorem dX12_agree_73 : decode cX12_agree 73 = .ok (.imul, 1) := by decide +kernel
theorem dX12_agree_74 : decode cX12_agree 74 = .ok (.iload_n 2, 1) := by decide +kernel
theorem dX12_agree_75 : decode cX12_agree 75 = .ok (.iadd, 1) := by decide +kernel
theorem dX12_agree_76 : decode cX12_agree 76 = .ok (.iaload, 1) := by decide +kernel
theorem dX12_agree_77 : decode cX12_agree 77 = .ok (.aload_n 0, 1) := by decide +kernel
theorem dX12_agree_78 : decode cX12_agree 78 = .ok (.getfield 105, 3) := by decide +kernel
theorem dX12_agree_81 : decode cX12_agree 81 = .ok (.iload 4, 2) := by decide +kernel
theorem dX12_agree_83 : decode cX12_agree 83 = .ok (.iaload, 1) := by decide +kernel
theorem dX12_agree_84 : decode cX12_agree 84 = .ok (.if_icmp .ne 7, 3) := by decide +kernel
theorem dX12_agree_87 : decode cX12_agree 87 = .ok (.iconst 1, 1) := by decide +kernel
theorem dX12_agree_88 : decode cX12_agree 88 = .ok (.goto 4, 3) := by decide +kernel
theorem dX12_agree_91 : decode cX12_agree 91 = .ok (.iconst 0, 1) := by decide +kernel
theorem dX12_agree_92 : decode cX12_agree 92 = .ok (.istore_n 3, 1) := by decide +kernel
theorem dX12_agree_93 : decode cX12_agree 93 = .ok (.iinc 4 1, 3) := by decide +kernel
theorem dX12_agree_96 : decode cX12_agree 96 = .ok (.goto (-65), 3) := by decide +kernel
theorem dX12_agree_99 : decode cX12_agree 99 = .ok (.iload_n 1, 1) := by decide +kernel
theorem dX12_agree_100 : decode cX12_agree 100 = .ok (.iload_n 3, 1) := by decide +kernel
theorem dX12_agree_101 : decode cX12_agree 101 = .ok (.ifCond .eq 9, 3) := by decide +kernel
theorem dX12_agree_104 : decode cX12_agree 104 = .ok (.iconst 1, 1) := by decide +kernel
theorem dX12_agree_105 : decode cX12_agree 105 = .ok (.iload_n 2, 1) := by decide +kernel
theorem dX12_agree_106 : decode cX12_agree 106 = .ok (.ishl, 1) := by decide +kernel
theorem dX12_agree_107 : decode cX12_agree 107 = .ok (.goto 4, 3) := by decide +kernel
theorem dX12_agree_110 : decode cX12_agree 110 = .ok (.iconst 0, 1) := by decide +kernel
theorem dX12_agree_111 : decode cX12_agree 111 = .ok (.ior, 1) := by decide +kernel
theorem dX12_agree_112 : decode cX12_agree 112 = .ok (.istore_n 1, 1) := by decide +kernel
theorem dX12_agree_113 : decode cX12_agree 113 = .ok (.iinc 2 1, 3) := by decide +kernel
theorem dX12_agree_116 : decode cX12_agree 116 = .ok (.goto (-98), 3) := by decide +kernel
theorem dX12_agree_119 : decode cX12_agree 119 = .ok (.iload_n 1, 1) := by decide +kernel
theorem dX12_agree_120 : decode cX12_agree 120 = .ok (.ireturn, 1) := by decide +kernel
theorem F_X12_289 : FLk RX12 289 12 50 := ⟨RX12, TX12, 58, rfl, rfl, iw_X12, by decide, Or.inl fl_X12_289⟩
theorem F_X12_51 : FLk RX12 51 12 24 := ⟨RX12, TX12, 58, rfl, rfl, iw_X12, by decide, Or.inl fl_X12_51⟩
theorem F_X12_108 : FLk RX12 108 12 49 := ⟨RX12, TX12, 58, rfl, rfl, iw_X12, by decide, Or.inl fl_X12_108⟩
theorem F_X12_66 : FLk RX12 66 12 31 := ⟨RX12, TX12, 58, rfl, rfl, iw_X12, by decide, Or.inl fl_X12_66⟩
theorem F_X12_102 : FLk RX12 102 12 47 := ⟨RX12, TX12, 58, rfl, rfl, iw_X12, by decide, Or.inl fl_X12_102⟩
theorem F_X12_105 : FLk RX12 105 12 48 := ⟨RX12, TX12, 58, rfl, rfl, iw_X12, by decide, Or.inl fl_X12_105⟩
theorem F_X12_283 : FLk RX12 283 12 20 := ⟨RX12, TX12, 58, rfl, rfl, iw_X12, by decide, Or.inl fl_X12_283⟩
theorem F_X12_120 : FLk RX12 120 12 0 := ⟨RX12, TX12, 58, rfl, rfl, iw_X12, by decide, Or.inl fl_X12_120⟩
theorem P_X12_120 : FPk RX12 120 12 0 .int := ⟨RX12, TX12, 58, tyX12, rfl, rfl, iw_X12, by decide, Or.inl fl_X12_120, tyX12_ok, nmX12, rfl, by decide +kernel⟩
def f_X12_agree_92 (q31 : Nat → Int32 → Int32 → Int32 → Int32 → AH → Option (Int32 × AH)) (k0 : Nat) (x1 : Int32) (x2 : Int32) (x4 : Int32) (s0 : Int32) (h : AH) : Option (Int32 × AH) :=
  nm (x4 + 1) fun x4_1 =>
  q31 k0 x1 x2 s0 x4_1 h
def f_X12_agree_91 (q31 : Nat → Int32 → Int32 → Int32 → Int32 → AH → Option (Int32 × AH)) (k0 : Nat) (x1 : Int32) (x2 : Int32) (x4 : Int32) (h : AH) : Option (Int32 × AH) :=
  f_X12_agree_92 q31 k0 x1 x2 x4 0 h
def f_X12_agree_111 (q18 : Nat → Int32 → Int32 → AH → Option (Int32 × AH)) (k0 : Nat) (x2 : Int32) (s0 : Int32) (s1 : Int32) (h : AH) : Option (Int32 × AH) :=
  nm ((s1 ||| s0)) fun x1_1 =>
  nm (x2 + 1) fun x2_3 =>
  q18 k0 x1_1 x2_3 h
def f_X12_agree_31 (q18 : Nat → Int32 → Int32 → AH → Option (Int32 × AH)) : Nat → Nat → Int32 → Int32 → Int32 → Int32 → AH → Option (Int32 × AH)
  | 0, _, _, _, _, _, _ => none
  | n + 1, k0, x1, x2, x3, x4, h =>
    if (h.1 k0 50) ≤ x4 then (
      if x3 = 0 then (
        f_X12_agree_111 q18 k0 x2 0 x1 h
      ) else (
        f_X12_agree_111 q18 k0 x2 ((1 : Int32) <<< (x2 &&& 31)) x1 h
      )
    ) else (
      if x3 = 0 then (
        f_X12_agree_91 (f_X12_agree_31 q18 n) k0 x1 x2 x4 h
      ) else (
        og (ix x2 (an (rf k0 24))) <|
        og (ix x4 (an (rf k0 49))) <|
        if (h.1 (rf k0 24) x2.toNatClampNeg) = (h.1 (rf k0 49) x4.toNatClampNeg) then (
          og (ix x4 (an (rf k0 47))) <|
          og (ix ((6 * (h.1 (rf k0 47) x4.toNatClampNeg)) + x2) (an (rf k0 31))) <|
          og (ix x4 (an (rf k0 48))) <|
          if (h.1 (rf k0 31) ((6 * (h.1 (rf k0 47) x4.toNatClampNeg)) + x2).toNatClampNeg) = (h.1 (rf k0 48) x4.toNatClampNeg) then (
            f_X12_agree_92 (f_X12_agree_31 q18 n) k0 x1 x2 x4 1 h
          ) else (
            f_X12_agree_91 (f_X12_agree_31 q18 n) k0 x1 x2 x4 h
          )
        ) else (
          f_X12_agree_91 (f_X12_agree_31 q18 n) k0 x1 x2 x4 h
        )
      )
    )
def f_X12_agree_18 : Nat → Nat → Int32 → Int32 → AH → Option (Int32 × AH)
  | 0, _, _, _, _ => none
  | n + 1, k0, x1, x2, h =>
    if (h.1 k0 20) ≤ x2 then (
      some (x1, h)
    ) else (
      f_X12_agree_31 (f_X12_agree_18 n) FU k0 x1 x2 1 0 h
    )
def f_X12_agree (k0 : Nat) (h : AH) : Option (Int32 × AH) :=
  nm (sI h k0 0 0) fun h_1 =>
  if (h_1.1 k0 20) = 0 then (
    some ((-1), h_1)
  ) else (
    f_X12_agree_18 FU k0 0 0 h_1
  )
set_option maxHeartbeats 4000000 in
set_option maxRecDepth 100000 in
theorem v_X12_agree_92 {E : EV} {d : Nat} (hd : 0 ≤ d) {r0 : Int32} {h0 : AH} {q31 : Nat → Int32 → Int32 → Int32 → Int32 → AH → Option (Int32 × AH)} (cq31 : ∀ (k0 : Nat) (x1 : Int32) (x2 : Int32) (x3 : Int32) (x4 : Int32) (h : AH), q31 k0 x1 x2 x3 x4 h = some (r0, h0) → kd k0 = (0, 12) → V E (d + 1) K_X12_agree (ZI E r0 h0) h [(0, .ref k0), (1, .int x1), (2, .int x2), (3, .int x3), (4, .int x4)] [] 31) {k0 : Nat} {x1 : Int32} {x2 : Int32} {x4 : Int32} {s0 : Int32} {h : AH} (hf : f_X12_agree_92 q31 k0 x1 x2 x4 s0 h = some (r0, h0)) (t_k0 : kd k0 = (0, 12)) : V E (d + 1) K_X12_agree (ZI E r0 h0) h [(0, .ref k0), (1, .int x1), (2, .int x2), (4, .int x4)] [.int s0] 92 := by
  unfold f_X12_agree_92 at hf
  refine V_istore_n (L' := [(3, .int s0), (0, .ref k0), (1, .int x1), (2, .int x2), (4, .int x4)]) dX12_agree_92 rfl (Nat.le_of_ble_eq_true rfl) rfl rfl ?_
  obtain ⟨x4_1, e_2, hf⟩ := nm_s hf
  refine V_iinc (a := 1) (L' := [(4, .int x4_1), (3, .int s0), (0, .ref k0), (1, .int x1), (2, .int x2)]) 4 dX12_agree_93 rfl (by decide) (Nat.le_of_ble_eq_true rfl) e_2 rfl ?_
  refine V_goto (tgt := 31) dX12_agree_96 (by decide) ?_
  refine V_sub [2, 3, 4, 1, 0] rfl ?_
  exact cq31 _ _ _ _ _ _ hf t_k0
set_option maxHeartbeats 4000000 in
set_option maxRecDepth 100000 in
theorem v_X12_agree_91 {E : EV} {d : Nat} (hd : 0 ≤ d) {r0 : Int32} {h0 : AH} {q31 : Nat → Int32 → Int32 → Int32 → Int32 → AH → Option (Int32 × AH)} (cq31 : ∀ (k0 : Nat) (x1 : Int32) (x2 : Int32) (x3 : Int32) (x4 : Int32) (h : AH), q31 k0 x1 x2 x3 x4 h = some (r0, h0) → kd k0 = (0, 12) → V E (d + 1) K_X12_agree (ZI E r0 h0) h [(0, .ref k0), (1, .int x1), (2, .int x2), (3, .int x3), (4, .int x4)] [] 31) {k0 : Nat} {x1 : Int32} {x2 : Int32} {x4 : Int32} {h : AH} (hf : f_X12_agree_91 q31 k0 x1 x2 x4 h = some (r0, h0)) (t_k0 : kd k0 = (0, 12)) : V E (d + 1) K_X12_agree (ZI E r0 h0) h [(0, .ref k0), (1, .int x1), (2, .int x2), (4, .int x4)] [] 91 := by
  unfold f_X12_agree_91 at hf
  refine V_iconst (v := 0) dX12_agree_91 (by decide) ?_
  exact v_X12_agree_92 hd cq31 hf t_k0
set_option maxHeartbeats 4000000 in
set_option maxRecDepth 100000 in
theorem v_X12_agree_111 {E : EV} {d : Nat} (hd : 0 ≤ d) {r0 : Int32} {h0 : AH} {q18 : Nat → Int32 → Int32 → AH → Option (Int32 × AH)} (cq18 : ∀ (k0 : Nat) (x1 : Int32) (x2 : Int32) (h : AH), q18 k0 x1 x2 h = some (r0, h0) → kd k0 = (0, 12) → V E (d + 1) K_X12_agree (ZI E r0 h0) h [(0, .ref k0), (1, .int x1), (2, .int x2)] [] 18) {k0 : Nat} {x2 : Int32} {s0 : Int32} {s1 : Int32} {h : AH} (hf : f_X12_agree_111 q18 k0 x2 s0 s1 h = some (r0, h0)) (t_k0 : kd k0 = (0, 12)) : V E (d + 1) K_X12_agree (ZI E r0 h0) h [(0, .ref k0), (2, .int x2)] [.int s0, .int s1] 111 := by
  unfold f_X12_agree_111 at hf
  refine V_ior dX12_agree_111 ?_
  obtain ⟨x1_1, e_2, hf⟩ := nm_s hf
  refine V_istore_n (L' := [(1, .int x1_1), (0, .ref k0), (2, .int x2)]) dX12_agree_112 rfl (Nat.le_of_ble_eq_true rfl) e_2 rfl ?_
  obtain ⟨x2_3, e_4, hf⟩ := nm_s hf
  refine V_iinc (a := 1) (L' := [(2, .int x2_3), (1, .int x1_1), (0, .ref k0)]) 2 dX12_agree_113 rfl (by decide) (Nat.le_of_ble_eq_true rfl) e_4 rfl ?_
  refine V_goto (tgt := 18) dX12_agree_116 (by decide) ?_
  refine V_sub [2, 1, 0] rfl ?_
  exact cq18 _ _ _ _ hf t_k0
set_option maxHeartbeats 4000000 in
set_option maxRecDepth 100000 in
theorem v_X12_agree_31 {E : EV} {d : Nat} (hd : 0 ≤ d) {r0 : Int32} {h0 : AH} {q18 : Nat → Int32 → Int32 → AH → Option (Int32 × AH)} (cq18 : ∀ (k0 : Nat) (x1 : Int32) (x2 : Int32) (h : AH), q18 k0 x1 x2 h = some (r0, h0) → kd k0 = (0, 12) → V E (d + 1) K_X12_agree (ZI E r0 h0) h [(0, .ref k0), (1, .int x1), (2, .int x2)] [] 18) : ∀ (n : Nat) (k0 : Nat) (x1 : Int32) (x2 : Int32) (x3 : Int32) (x4 : Int32) (h : AH), f_X12_agree_31 q18 n k0 x1 x2 x3 x4 h = some (r0, h0) → kd k0 = (0, 12) → V E (d + 1) K_X12_agree (ZI E r0 h0) h [(0, .ref k0), (1, .int x1), (2, .int x2), (3, .int x3), (4, .int x4)] [] 31 := by
  intro n
  induction n with
  | zero =>
    intro k0 x1 x2 x3 x4 h hf
    rw [f_X12_agree_31] at hf
    cases hf
  | succ n ih =>
    intro k0 x1 x2 x3 x4 h hf t_k0
    rw [f_X12_agree_31] at hf
    refine V_iload 4 dX12_agree_31 rfl ?_
    refine V_aload_n 0 dX12_agree_33 rfl rfl ?_
    refine V_getI F_X12_289 rfl t_k0 rfl dX12_agree_34 ?_
    refine V_ic_ge (tgt := 99) dX12_agree_37 (by decide) (fun c_1 => ?_) (fun c_1 => ?_)
    · have hf := it_s c_1 hf
      refine V_iload_n 1 dX12_agree_99 rfl rfl ?_
      refine V_iload_n 3 dX12_agree_100 rfl rfl ?_
      refine V_if_eq (tgt := 110) dX12_agree_101 (by decide) (fun c_2 => ?_) (fun c_2 => ?_)
      · have hf := it_s c_2 hf
        refine V_iconst (v := 0) dX12_agree_110 (by decide) ?_
        refine V_sub [0, 2] rfl ?_
        exact v_X12_agree_111 hd cq18 hf t_k0
      · have hf := if_s c_2 hf
        refine V_iconst (v := 1) dX12_agree_104 (by decide) ?_
        refine V_iload_n 2 dX12_agree_105 rfl rfl ?_
        refine V_ishl dX12_agree_106 ?_
        refine V_goto (tgt := 111) dX12_agree_107 (by decide) ?_
        refine V_sub [0, 2] rfl ?_
        exact v_X12_agree_111 hd cq18 hf t_k0
    · have hf := if_s c_1 hf
      refine V_iload_n 3 dX12_agree_40 rfl rfl ?_
      refine V_if_eq (tgt := 91) dX12_agree_41 (by decide) (fun c_3 => ?_) (fun c_3 => ?_)
      · have hf := it_s c_3 hf
        refine V_sub [0, 1, 2, 4] rfl ?_
        exact v_X12_agree_91 hd ih hf t_k0
      · have hf := if_s c_3 hf
        refine V_aload_n 0 dX12_agree_44 rfl rfl ?_
        refine V_getR F_X12_51 rfl t_k0 rfl dX12_agree_45 ?_
        refine V_iload_n 2 dX12_agree_48 rfl rfl ?_
        obtain ⟨b_4, hf⟩ := og_s hf
        refine V_iald (rfA t_k0 (Nat.le_of_ble_eq_true rfl) rfl rfl (by decide)) b_4 dX12_agree_49 ?_
        refine V_aload_n 0 dX12_agree_50 rfl rfl ?_
        refine V_getR F_X12_108 rfl t_k0 rfl dX12_agree_51 ?_
        refine V_iload 4 dX12_agree_54 rfl ?_
        obtain ⟨b_5, hf⟩ := og_s hf
        refine V_iald (rfA t_k0 (Nat.le_of_ble_eq_true rfl) rfl rfl (by decide)) b_5 dX12_agree_56 ?_
        refine V_ic_ne (tgt := 91) dX12_agree_57 (by decide) (fun c_6 => ?_) (fun c_6 => ?_)
        · have hf := if_s c_6 hf
          refine V_sub [0, 1, 2, 4] rfl ?_
          exact v_X12_agree_91 hd ih hf t_k0
        · have hf := it_s c_6 hf
          refine V_aload_n 0 dX12_agree_60 rfl rfl ?_
          refine V_getR F_X12_66 rfl t_k0 rfl dX12_agree_61 ?_
          refine V_bipush (v := 6) dX12_agree_64 (by decide) ?_
          refine V_aload_n 0 dX12_agree_66 rfl rfl ?_
          refine V_getR F_X12_102 rfl t_k0 rfl dX12_agree_67 ?_
          refine V_iload 4 dX12_agree_70 rfl ?_
          obtain ⟨b_7, hf⟩ := og_s hf
          refine V_iald (rfA t_k0 (Nat.le_of_ble_eq_true rfl) rfl rfl (by decide)) b_7 dX12_agree_72 ?_
          refine V_imul dX12_agree_73 ?_
          refine V_iload_n 2 dX12_agree_74 rfl rfl ?_
          refine V_iadd dX12_agree_75 ?_
          obtain ⟨b_8, hf⟩ := og_s hf
          refine V_iald (rfA t_k0 (Nat.le_of_ble_eq_true rfl) rfl rfl (by decide)) b_8 dX12_agree_76 ?_
          refine V_aload_n 0 dX12_agree_77 rfl rfl ?_
          refine V_getR F_X12_105 rfl t_k0 rfl dX12_agree_78 ?_
          refine V_iload 4 dX12_agree_81 rfl ?_
          obtain ⟨b_9, hf⟩ := og_s hf
          refine V_iald (rfA t_k0 (Nat.le_of_ble_eq_true rfl) rfl rfl (by decide)) b_9 dX12_agree_83 ?_
          refine V_ic_ne (tgt := 91) dX12_agree_84 (by decide) (fun c_10 => ?_) (fun c_10 => ?_)
          · have hf := if_s c_10 hf
            refine V_sub [0, 1, 2, 4] rfl ?_
            exact v_X12_agree_91 hd ih hf t_k0
          · have hf := it_s c_10 hf
            refine V_iconst (v := 1) dX12_agree_87 (by decide) ?_
            refine V_goto (tgt := 92) dX12_agree_88 (by decide) ?_
            refine V_sub [0, 1, 2, 4] rfl ?_
            exact v_X12_agree_92 hd ih hf t_k0
set_option maxHeartbeats 4000000 in
set_option maxRecDepth 100000 in
theorem v_X12_agree_18 {E : EV} {d : Nat} (hd : 0 ≤ d) {r0 : Int32} {h0 : AH} : ∀ (n : Nat) (k0 : Nat) (x1 : Int32) (x2 : Int32) (h : AH), f_X12_agree_18 n k0 x1 x2 h = some (r0, h0) → kd k0 = (0, 12) → V E (d + 1) K_X12_agree (ZI E r0 h0) h [(0, .ref k0), (1, .int x1), (2, .int x2)] [] 18 := by
  intro n
  induction n with
  | zero =>
    intro k0 x1 x2 h hf
    rw [f_X12_agree_18] at hf
    cases hf
  | succ n ih =>
    intro k0 x1 x2 h hf t_k0
    rw [f_X12_agree_18] at hf
    refine V_iload_n 2 dX12_agree_18 rfl rfl ?_
    refine V_aload_n 0 dX12_agree_19 rfl rfl ?_
    refine V_getI F_X12_283 rfl t_k0 rfl dX12_agree_20 ?_
    refine V_ic_ge (tgt := 119) dX12_agree_23 (by decide) (fun c_1 => ?_) (fun c_1 => ?_)
    · have hf := it_s c_1 hf
      refine V_iload_n 1 dX12_agree_119 rfl rfl ?_
      exact V_iret rfl (so_s hf) dX12_agree_120
    · have hf := if_s c_1 hf
      refine V_iconst (v := 1) dX12_agree_26 (by decide) ?_
      refine V_istore_n (L' := [(3, .int 1), (0, .ref k0), (1, .int x1), (2, .int x2)]) dX12_agree_27 rfl (Nat.le_of_ble_eq_true rfl) rfl rfl ?_
      refine V_iconst (v := 0) dX12_agree_28 (by decide) ?_
      refine V_istore (L' := [(4, .int 0), (3, .int 1), (0, .ref k0), (1, .int x1), (2, .int x2)]) dX12_agree_29 (Nat.le_of_ble_eq_true rfl) rfl rfl ?_
      refine V_sub [2, 3, 4, 1, 0] rfl ?_
      exact v_X12_agree_31 hd ih FU _ _ _ _ _ _ hf t_k0
set_option maxHeartbeats 4000000 in
set_option maxRecDepth 100000 in
theorem c_X12_agree {E : EV} {d : Nat} (hd : 0 + 1 ≤ d) {k0 : Nat} {h : AH} {r0 : Int32} {h0 : AH} (hf : f_X12_agree k0 h = some (r0, h0)) (t_k0 : kd k0 = (0, 12)) : Con E d K_X12_agree (ZI E r0 h0) [.ref k0] h := by
  obtain ⟨d, rfl⟩ : ∃ d', d = d' + 1 := ⟨d - 1, by omega⟩
  have hd := Nat.le_of_succ_le_succ hd
  refine Con.ofV rfl (Nat.le_of_ble_eq_true rfl) ?_
  unfold f_X12_agree at hf
  show V E (d + 1) K_X12_agree (ZI E r0 h0) h [(0, .ref k0)] [] 0
  refine V_aload_n 0 dX12_agree_0 rfl rfl ?_
  refine V_iconst (v := 0) dX12_agree_1 (by decide) ?_
  obtain ⟨h_1, e_2, hf⟩ := nm_s hf
  refine V_putI P_X12_120 rfl t_k0 rfl e_2 dX12_agree_2 ?_
  refine V_aload_n 0 dX12_agree_5 rfl rfl ?_
  refine V_getI F_X12_283 rfl t_k0 rfl dX12_agree_6 ?_
  refine V_if_ne (tgt := 14) dX12_agree_9 (by decide) (fun c_3 => ?_) (fun c_3 => ?_)
  · have hf := if_s c_3 hf
    refine V_iconst (v := 0) dX12_agree_14 (by decide) ?_
    refine V_istore_n (L' := [(1, .int 0), (0, .ref k0)]) dX12_agree_15 rfl (Nat.le_of_ble_eq_true rfl) rfl rfl ?_
    refine V_iconst (v := 0) dX12_agree_16 (by decide) ?_
    refine V_istore_n (L' := [(2, .int 0), (1, .int 0), (0, .ref k0)]) dX12_agree_17 rfl (Nat.le_of_ble_eq_true rfl) rfl rfl ?_
    refine V_sub [2, 1, 0] rfl ?_
    exact v_X12_agree_18 hd FU _ _ _ _ hf t_k0
  · have hf := it_s c_3 hf
    refine V_iconst (v := (-1)) dX12_agree_12 (by decide) ?_
    exact V_iret rfl (so_s hf) dX12_agree_13
theorem dX12_has_0 : decode cX12_has 0 = .ok (.iload_n 0, 1) := by decide +kernel
theorem dX12_has_1 : decode cX12_has 1 = .ok (.iload_n 1, 1) := by decide +kernel
theorem dX12_has_2 : decode cX12_has 2 = .ok (.ishr, 1) := by decide +kernel
theorem dX12_has_3 : decode cX12_has 3 = .ok (.iconst 1, 1) := by decide +kernel
theorem dX12_has_4 : decode cX12_has 4 = .ok (.iand, 1) := by decide +kernel
theorem dX12_has_5 : decode cX12_has 5 = .ok (.iconst 1, 1) := by decide +kernel
theorem dX12_has_6 : decode cX12_has 6 = .ok (.if_icmp .ne 7, 3) := by decide +kernel
theorem dX12_has_9 : decode cX12_has 9 = .ok (.iconst 1, 1) := by decide +kernel
theorem dX12_has_10 : decode cX12_has 10 = .ok (.goto 4, 3) := by decide +kernel
theorem dX12_has_13 : decode cX12_has 13 = .ok (.iconst 0, 1) := by decide +kernel
theorem dX12_has_14 : decode cX12_has 14 = .ok (.ireturn, 1) := by decide +kernel
def f_X12_has_14 (s0 : Int32) (h : AH) : Option (Int32 × AH) :=
  og (bz s0) <|
  some (s0, h)
def f_X12_has (x0 : Int32) (x1 : Int32) (h : AH) : Option (Int32 × AH) :=
  if ((x0 >>> (x1 &&& 31)) &&& 1) = 1 then (
    f_X12_has_14 1 h
  ) else (
    f_X12_has_14 0 h
  )
set_option maxHeartbeats 4000000 in
set_option maxRecDepth 100000 in
theorem v_X12_has_14 {E : EV} {d : Nat} (hd : 0 ≤ d) {r0 : Int32} {h0 : AH} {s0 : Int32} {h : AH} (hf : f_X12_has_14 s0 h = some (r0, h0)) : V E (d + 1) K_X12_has (ZI E r0 h0) h [] [.int s0] 14 := by
  unfold f_X12_has_14 at hf
  obtain ⟨b_1, hf⟩ := og_s hf
  exact V_zret rfl b_1 (so_s hf) dX12_has_14
set_option maxHeartbeats 4000000 in
set_option maxRecDepth 100000 in
theorem c_X12_has {E : EV} {d : Nat} (hd : 0 + 1 ≤ d) {x0 : Int32} {x1 : Int32} {h : AH} {r0 : Int32} {h0 : AH} (hf : f_X12_has x0 x1 h = some (r0, h0)) : Con E d K_X12_has (ZI E r0 h0) [.int x0, .int x1] h := by
  obtain ⟨d, rfl⟩ : ∃ d', d = d' + 1 := ⟨d - 1, by omega⟩
  have hd := Nat.le_of_succ_le_succ hd
  refine Con.ofV rfl (Nat.le_of_ble_eq_true rfl) ?_
  unfold f_X12_has at hf
  show V E (d + 1) K_X12_has (ZI E r0 h0) h [(0, .int x0), (1, .int x1)] [] 0
  refine V_iload_n 0 dX12_has_0 rfl rfl ?_
  refine V_iload_n 1 dX12_has_1 rfl rfl ?_
  refine V_ishr dX12_has_2 ?_
  refine V_iconst (v := 1) dX12_has_3 (by decide) ?_
  refine V_iand dX12_has_4 ?_
  refine V_iconst (v := 1) dX12_has_5 (by decide) ?_
  refine V_ic_ne (tgt := 13) dX12_has_6 (by decide) (fun c_1 => ?_) (fun c_1 => ?_)
  · have hf := if_s c_1 hf
    refine V_iconst (v := 0) dX12_has_13 (by decide) ?_
    refine V_sub [] rfl ?_
    exact v_X12_has_14 hd hf
  · have hf := it_s c_1 hf
    refine V_iconst (v := 1) dX12_has_9 (by decide) ?_
    refine V_goto (tgt := 14) dX12_has_10 (by decide) ?_
    refine V_sub [] rfl ?_
    exact v_X12_has_14 hd hf
theorem dX12_layWays_0 : decode cX12_layWays 0 = .ok (.iload_n 2, 1) := by decide +kernel
theorem dX12_layWays_1 : decode cX12_layWays 1 = .ok (.iload_n 1, 1) := by decide +kernel
theorem dX12_layWays_2 : decode cX12_layWays 2 = .ok (.if_icmp .ne 24, 3) := by decide +kernel
theorem dX12_layWays_5 : decode cX12_layWays 5 = .ok (.aload_n 0, 1) := by decide +kernel
theorem dX12_layWays_6 : decode cX12_layWays 6 = .ok (.getfield 69, 3) := by decide +kernel
theorem dX12_layWays_9 : decode cX12_layWays 9 = .ok (.aload_n 0, 1) := by decide +kernel
theorem dX12_layWays_10 : decode cX12_layWays 10 = .ok (.getfield 353, 3) := by decide +kernel
theorem dX12_layWays_13 : decode cX12_layWays 13 = .ok (.iload_n 3, 1) := by decide +kernel
theorem dX12_layWays_14 : decode cX12_layWays 14 = .ok (.iastore, 1) := by decide +kernel
theorem dX12_layWays_15 : decode cX12_layWays 15 = .ok (.aload_n 0, 1) := by decide +kernel
theorem dX12_layWays_16 : decode cX12_layWays 16 = .ok (.dup, 1) := by decide +kernel
theorem dX12_layWays_17 : decode cX12_layWays 17 = .ok (.getfield 353, 3) := by decide +kernel
theorem dX12_layWays_20 : decode cX12_layWays 20 = .ok (.iconst 1, 1) := by decide +kernel
theorem dX12_layWays_21 : decode cX12_layWays 21 = .ok (.iadd, 1) := by decide +kernel
theorem dX12_layWays_22 : decode cX12_layWays 22 = .ok (.putfield 353, 3) := by decide +kernel
theorem dX12_layWays_25 : decode cX12_layWays 25 = .ok (.return_, 1) := by decide +kernel
theorem dX12_layWays_26 : decode cX12_layWays 26 = .ok (.iconst 0, 1) := by decide +kernel
theorem dX12_layWays_27 : decode cX12_layWays 27 = .ok (.istore 4, 2) := by decide +kernel
theorem dX12_layWays_29 : decode cX12_layWays 29 = .ok (.iload 4, 2) := by decide +kernel
theorem dX12_layWays_31 : decode cX12_layWays 31 = .ok (.aload_n 0, 1) := by decide +kernel
theorem dX12_layWays_32 : decode cX12_layWays 32 = .ok (.getfield 283, 3) := by decide +kernel
theorem dX12_layWays_35 : decode cX12_layWays 35 = .ok (.if_icmp .ge 45, 3) := by decide +kernel
theorem dX12_layWays_38 : decode cX12_layWays 38 = .ok (.iload_n 1, 1) := by decide +kernel
theorem dX12_layWays_39 : decode cX12_layWays 39 = .ok (.iload 4, 2) := by decide +kernel
theorem dX12_layWays_41 : decode cX12_layWays 41 = .ok (.invokestatic 258, 3) := by decide +kernel
theorem dX12_layWays_44 : decode cX12_layWays 44 = .ok (.ifCond .eq 30, 3) := by decide +kernel
theorem dX12_layWays_47 : decode cX12_layWays 47 = .ok (.iload_n 2, 1) := by decide +kernel
theorem dX12_layWays_48 : decode cX12_layWays 48 = .ok (.iload 4, 2) := by decide +kernel
theorem dX12_layWays_50 : decode cX12_layWays 50 = .ok (.invokestatic 258, 3) := by decide +kernel
theorem dX12_layWays_53 : decode cX12_layWays 53 = .ok (.ifCond .ne 21, 3) := by decide +kernel
theorem dX12_layWays_56 : decode cX12_layWays 56 = .ok (.aload_n 0, 1) := by decide +kernel
theorem dX12_layWays_57 : decode cX12_layWays 57 = .ok (.iload_n 1, 1) := by decide +kernel
theorem dX12_layWays_58 : decode cX12_layWays 58 = .ok (.iload_n 2, 1) := by decide +kernel
theorem dX12_layWays_59 : decode cX12_layWays 59 = .ok (.iconst 1, 1) := by decide +kernel
theorem dX12_layWays_60 : decode cX12_layWays 60 = .ok (.iload 4, 2) := by decide +kernel
theorem dX12_layWays_62 : decode cX12_layWays 62 = .ok (.ishl, 1) := by decide +kernel
theorem dX12_layWays_63 : decode cX12_layWays 63 = .ok (.ior, 1) := by decide +kernel
theorem dX12_layWays_64 : decode cX12_layWays 64 = .ok (.bipush 10, 2) := by decide +kernel
theorem dX12_layWays_66 : decode cX12_layWays 66 = .ok (.iload_n 3, 1) := by decide +kernel
theorem dX12_layWays_67 : decode cX12_layWays 67 = .ok (.imul, 1) := by decide +kernel
theorem dX12_layWays_68 : decode cX12_layWays 68 = .ok (.iload 4, 2) := by decide +kernel
theorem dX12_layWays_70 : decode cX12_layWays 70 = .ok (.iadd, 1) := by decide +kernel
theorem dX12_layWays_71 : decode cX12_layWays 71 = .ok (.invokevirtual 356, 3) := by decide +kernel
theorem dX12_layWays_74 : decode cX12_layWays 74 = .ok (.iinc 4 1, 3) := by decide +kernel
theorem dX12_layWays_77 : decode cX12_layWays 77 = .ok (.goto (-48), 3) := by decide +kernel
theorem dX12_layWays_80 : decode cX12_layWays 80 = .ok (.return_, 1) := by decide +kernel
theorem ML_X12_258 : MLk RX12 258 yX12_has := Or.inl ml_X12_258
theorem MS_X12_has : MSk K_X12_has 2 := ⟨⟨cd_X12_has, in_X12, ⟨by decide, by decide, by decide +kernel⟩, by decide⟩, st_X12_has⟩
theorem ML_X12_356 : MLk RX12 356 yX12_layWays := Or.inl ml_X12_356
theorem MV_X12_layWays : MVk K_X12_layWays 3 12 := ⟨⟨cd_X12_layWays, in_X12, ⟨by decide, by decide, by decide +kernel⟩, by decide⟩, im_X12_layWays, se_X12_layWays, _, _, rfl⟩
theorem F_X12_69 : FLk RX12 69 12 33 := ⟨RX12, TX12, 58, rfl, rfl, iw_X12, by decide, Or.inl fl_X12_69⟩
theorem F_X12_353 : FLk RX12 353 12 34 := ⟨RX12, TX12, 58, rfl, rfl, iw_X12, by decide, Or.inl fl_X12_353⟩
theorem P_X12_353 : FPk RX12 353 12 34 .int := ⟨RX12, TX12, 58, tyX12, rfl, rfl, iw_X12, by decide, Or.inl fl_X12_353, tyX12_ok, nmX12, rfl, by decide +kernel⟩
def f_X12_layWays_74 (cb : Nat → Int32 → Int32 → Int32 → AH → Option AH) (q29 : Nat → Int32 → Int32 → Int32 → Int32 → AH → Option AH) (k0 : Nat) (x1 : Int32) (x2 : Int32) (x3 : Int32) (x4 : Int32) (h : AH) : Option AH :=
  nm (x4 + 1) fun x4_1 =>
  q29 k0 x1 x2 x3 x4_1 h
def f_X12_layWays_29 (cb : Nat → Int32 → Int32 → Int32 → AH → Option AH) : Nat → Nat → Int32 → Int32 → Int32 → Int32 → AH → Option AH
  | 0, _, _, _, _, _, _ => none
  | n + 1, k0, x1, x2, x3, x4, h =>
    if (h.1 k0 20) ≤ x4 then (
      some h
    ) else (
      ob (f_X12_has x1 x4 h) fun r_4 h_3 =>
      if r_4 = 0 then (
        f_X12_layWays_74 cb (f_X12_layWays_29 cb n) k0 x1 x2 x3 x4 h_3
      ) else (
        ob (f_X12_has x2 x4 h_3) fun r_8 h_7 =>
        if r_8 = 0 then (
          ov (cb k0 x1 (x2 ||| ((1 : Int32) <<< (x4 &&& 31))) ((10 * x3) + x4) h_7) fun h_11 =>
          f_X12_layWays_74 cb (f_X12_layWays_29 cb n) k0 x1 x2 x3 x4 h_11
        ) else (
          f_X12_layWays_74 cb (f_X12_layWays_29 cb n) k0 x1 x2 x3 x4 h_7
        )
      )
    )
def f_X12_layWays (cb : Nat → Int32 → Int32 → Int32 → AH → Option AH) (k0 : Nat) (x1 : Int32) (x2 : Int32) (x3 : Int32) (h : AH) : Option AH :=
  if x2 = x1 then (
    og (ix (h.1 k0 34) (an (rf k0 33))) <|
    nm (sI h (rf k0 33) (h.1 k0 34).toNatClampNeg x3) fun h_3 =>
    nm (sI h_3 k0 34 ((h_3.1 k0 34) + 1)) fun h_5 =>
    some h_5
  ) else (
    f_X12_layWays_29 cb FU k0 x1 x2 x3 0 h
  )
def r_X12_layWays : Nat → Nat → Int32 → Int32 → Int32 → AH → Option AH
  | 0, _, _, _, _, _ => none
  | n + 1, k0, x1, x2, x3, h => f_X12_layWays (r_X12_layWays n) k0 x1 x2 x3 h
set_option maxHeartbeats 4000000 in
set_option maxRecDepth 100000 in
theorem v_X12_layWays_74 {E : EV} {d : Nat} {cb : Nat → Int32 → Int32 → Int32 → AH → Option AH} {dc : Nat} (hcb : ∀ {d : Nat}, dc ≤ d → ∀ {k0 : Nat} {x1 : Int32} {x2 : Int32} {x3 : Int32} {h : AH} {h0 : AH}, cb k0 x1 x2 x3 h = some h0 → kd k0 = (0, 12) → Con E d K_X12_layWays (ZV E h0) [.ref k0, .int x1, .int x2, .int x3] h) (hd : 1 + dc ≤ d) {h0 : AH} {q29 : Nat → Int32 → Int32 → Int32 → Int32 → AH → Option AH} (cq29 : ∀ (k0 : Nat) (x1 : Int32) (x2 : Int32) (x3 : Int32) (x4 : Int32) (h : AH), q29 k0 x1 x2 x3 x4 h = some h0 → kd k0 = (0, 12) → V E (d + 1) K_X12_layWays (ZV E h0) h [(0, .ref k0), (1, .int x1), (2, .int x2), (3, .int x3), (4, .int x4)] [] 29) {k0 : Nat} {x1 : Int32} {x2 : Int32} {x3 : Int32} {x4 : Int32} {h : AH} (hf : f_X12_layWays_74 cb q29 k0 x1 x2 x3 x4 h = some h0) (t_k0 : kd k0 = (0, 12)) : V E (d + 1) K_X12_layWays (ZV E h0) h [(0, .ref k0), (1, .int x1), (2, .int x2), (3, .int x3), (4, .int x4)] [] 74 := by
  unfold f_X12_layWays_74 at hf
  obtain ⟨x4_1, e_2, hf⟩ := nm_s hf
  refine V_iinc (a := 1) (L' := [(4, .int x4_1), (0, .ref k0), (1, .int x1), (2, .int x2), (3, .int x3)]) 4 dX12_layWays_74 rfl (by decide) (Nat.le_of_ble_eq_true rfl) e_2 rfl ?_
  refine V_goto (tgt := 29) dX12_layWays_77 (by decide) ?_
  refine V_sub [1, 2, 3, 4, 0] rfl ?_
  exact cq29 _ _ _ _ _ _ hf t_k0
set_option maxHeartbeats 4000000 in
set_option maxRecDepth 100000 in
theorem v_X12_layWays_29 {E : EV} {d : Nat} {cb : Nat → Int32 → Int32 → Int32 → AH → Option AH} {dc : Nat} (hcb : ∀ {d : Nat}, dc ≤ d → ∀ {k0 : Nat} {x1 : Int32} {x2 : Int32} {x3 : Int32} {h : AH} {h0 : AH}, cb k0 x1 x2 x3 h = some h0 → kd k0 = (0, 12) → Con E d K_X12_layWays (ZV E h0) [.ref k0, .int x1, .int x2, .int x3] h) (hd : 1 + dc ≤ d) {h0 : AH} : ∀ (n : Nat) (k0 : Nat) (x1 : Int32) (x2 : Int32) (x3 : Int32) (x4 : Int32) (h : AH), f_X12_layWays_29 cb n k0 x1 x2 x3 x4 h = some h0 → kd k0 = (0, 12) → V E (d + 1) K_X12_layWays (ZV E h0) h [(0, .ref k0), (1, .int x1), (2, .int x2), (3, .int x3), (4, .int x4)] [] 29 := by
  intro n
  induction n with
  | zero =>
    intro k0 x1 x2 x3 x4 h hf
    rw [f_X12_layWays_29] at hf
    cases hf
  | succ n ih =>
    intro k0 x1 x2 x3 x4 h hf t_k0
    rw [f_X12_layWays_29] at hf
    refine V_iload 4 dX12_layWays_29 rfl ?_
    refine V_aload_n 0 dX12_layWays_31 rfl rfl ?_
    refine V_getI F_X12_283 rfl t_k0 rfl dX12_layWays_32 ?_
    refine V_ic_ge (tgt := 80) dX12_layWays_35 (by decide) (fun c_1 => ?_) (fun c_1 => ?_)
    · have hf := it_s c_1 hf
      exact V_vret rfl (so_s hf) dX12_layWays_80
    · have hf := if_s c_1 hf
      refine V_iload_n 1 dX12_layWays_38 rfl rfl ?_
      refine V_iload 4 dX12_layWays_39 rfl ?_
      obtain ⟨r_4, h_3, e_2, hf⟩ := ob_s hf
      refine V_csi (As := [.int x1, .int x4]) (rest := []) (c_X12_has (d := d) (by omega) e_2) ML_X12_258 MS_X12_has rfl rfl rfl (Nat.le_of_ble_eq_true rfl) dX12_layWays_41 ?_
      refine V_if_eq (tgt := 74) dX12_layWays_44 (by decide) (fun c_5 => ?_) (fun c_5 => ?_)
      · have hf := it_s c_5 hf
        exact v_X12_layWays_74 hcb hd ih hf t_k0
      · have hf := if_s c_5 hf
        refine V_iload_n 2 dX12_layWays_47 rfl rfl ?_
        refine V_iload 4 dX12_layWays_48 rfl ?_
        obtain ⟨r_8, h_7, e_6, hf⟩ := ob_s hf
        refine V_csi (As := [.int x2, .int x4]) (rest := []) (c_X12_has (d := d) (by omega) e_6) ML_X12_258 MS_X12_has rfl rfl rfl (Nat.le_of_ble_eq_true rfl) dX12_layWays_50 ?_
        refine V_if_ne (tgt := 74) dX12_layWays_53 (by decide) (fun c_9 => ?_) (fun c_9 => ?_)
        · have hf := if_s c_9 hf
          exact v_X12_layWays_74 hcb hd ih hf t_k0
        · have hf := it_s c_9 hf
          refine V_aload_n 0 dX12_layWays_56 rfl rfl ?_
          refine V_iload_n 1 dX12_layWays_57 rfl rfl ?_
          refine V_iload_n 2 dX12_layWays_58 rfl rfl ?_
          refine V_iconst (v := 1) dX12_layWays_59 (by decide) ?_
          refine V_iload 4 dX12_layWays_60 rfl ?_
          refine V_ishl dX12_layWays_62 ?_
          refine V_ior dX12_layWays_63 ?_
          refine V_bipush (v := 10) dX12_layWays_64 (by decide) ?_
          refine V_iload_n 3 dX12_layWays_66 rfl rfl ?_
          refine V_imul dX12_layWays_67 ?_
          refine V_iload 4 dX12_layWays_68 rfl ?_
          refine V_iadd dX12_layWays_70 ?_
          obtain ⟨h_11, e_10, hf⟩ := ov_s hf
          refine V_cvv (As := [.int x1, .int (x2 ||| ((1 : Int32) <<< (x4 &&& 31))), .int ((10 * x3) + x4)]) (rest := []) (hcb (d := d) (by omega) e_10 t_k0) ML_X12_356 MV_X12_layWays rfl t_k0 rfl rfl (Nat.le_of_ble_eq_true rfl) dX12_layWays_71 ?_
          exact v_X12_layWays_74 hcb hd ih hf t_k0
set_option maxHeartbeats 4000000 in
set_option maxRecDepth 100000 in
theorem c_X12_layWays {E : EV} {d : Nat} {cb : Nat → Int32 → Int32 → Int32 → AH → Option AH} {dc : Nat} (hcb : ∀ {d : Nat}, dc ≤ d → ∀ {k0 : Nat} {x1 : Int32} {x2 : Int32} {x3 : Int32} {h : AH} {h0 : AH}, cb k0 x1 x2 x3 h = some h0 → kd k0 = (0, 12) → Con E d K_X12_layWays (ZV E h0) [.ref k0, .int x1, .int x2, .int x3] h) (hd : 1 + dc + 1 ≤ d) {k0 : Nat} {x1 : Int32} {x2 : Int32} {x3 : Int32} {h : AH} {h0 : AH} (hf : f_X12_layWays cb k0 x1 x2 x3 h = some h0) (t_k0 : kd k0 = (0, 12)) : Con E d K_X12_layWays (ZV E h0) [.ref k0, .int x1, .int x2, .int x3] h := by
  obtain ⟨d, rfl⟩ : ∃ d', d = d' + 1 := ⟨d - 1, by omega⟩
  have hd := Nat.le_of_succ_le_succ hd
  refine Con.ofV rfl (Nat.le_of_ble_eq_true rfl) ?_
  unfold f_X12_layWays at hf
  show V E (d + 1) K_X12_layWays (ZV E h0) h [(0, .ref k0), (1, .int x1), (2, .int x2), (3, .int x3)] [] 0
  refine V_iload_n 2 dX12_layWays_0 rfl rfl ?_
  refine V_iload_n 1 dX12_layWays_1 rfl rfl ?_
  refine V_ic_ne (tgt := 26) dX12_layWays_2 (by decide) (fun c_1 => ?_) (fun c_1 => ?_)
  · have hf := if_s c_1 hf
    refine V_iconst (v := 0) dX12_layWays_26 (by decide) ?_
    refine V_istore (L' := [(4, .int 0), (0, .ref k0), (1, .int x1), (2, .int x2), (3, .int x3)]) dX12_layWays_27 (Nat.le_of_ble_eq_true rfl) rfl rfl ?_
    refine V_sub [1, 2, 3, 4, 0] rfl ?_
    exact v_X12_layWays_29 hcb hd FU _ _ _ _ _ _ hf t_k0
  · have hf := it_s c_1 hf
    refine V_aload_n 0 dX12_layWays_5 rfl rfl ?_
    refine V_getR F_X12_69 rfl t_k0 rfl dX12_layWays_6 ?_
    refine V_aload_n 0 dX12_layWays_9 rfl rfl ?_
    refine V_getI F_X12_353 rfl t_k0 rfl dX12_layWays_10 ?_
    refine V_iload_n 3 dX12_layWays_13 rfl rfl ?_
    obtain ⟨b_2, hf⟩ := og_s hf
    obtain ⟨h_3, e_4, hf⟩ := nm_s hf
    refine V_iast (rfA t_k0 (Nat.le_of_ble_eq_true rfl) rfl rfl (by decide)) b_2 e_4 dX12_layWays_14 ?_
    refine V_aload_n 0 dX12_layWays_15 rfl rfl ?_
    refine V_dup dX12_layWays_16 rfl ?_
    refine V_getI F_X12_353 rfl t_k0 rfl dX12_layWays_17 ?_
    refine V_iconst (v := 1) dX12_layWays_20 (by decide) ?_
    refine V_iadd dX12_layWays_21 ?_
    obtain ⟨h_5, e_6, hf⟩ := nm_s hf
    refine V_putI P_X12_353 rfl t_k0 rfl e_6 dX12_layWays_22 ?_
    exact V_vret rfl (so_s hf) dX12_layWays_25
set_option maxHeartbeats 4000000 in
set_option maxRecDepth 100000 in
theorem cr_X12_layWays {E : EV} : ∀ (n : Nat) {d : Nat}, n * 2 ≤ d → ∀ {k0 : Nat} {x1 : Int32} {x2 : Int32} {x3 : Int32} {h : AH} {h0 : AH}, r_X12_layWays n k0 x1 x2 x3 h = some h0 → kd k0 = (0, 12) → Con E d K_X12_layWays (ZV E h0) [.ref k0, .int x1, .int x2, .int x3] h := by
  intro n
  induction n with
  | zero =>
    intro d hd k0 x1 x2 x3 h h0 hf
    rw [r_X12_layWays] at hf
    cases hf
  | succ n ih =>
    intro d hd k0 x1 x2 x3 h h0 hf t_k0
    rw [r_X12_layWays] at hf
    exact c_X12_layWays (dc := n * 2) ih (by omega) hf t_k0
theorem dX12_allWays_0 : decode cX12_allWays 0 = .ok (.aload_n 0, 1) := by decide +kernel
theorem dX12_allWays_1 : decode cX12_allWays 1 = .ok (.iconst 0, 1) := by decide +kernel
theorem dX12_allWays_2 : decode cX12_allWays 2 = .ok (.putfield 353, 3) := by decide +kernel
theorem dX12_allWays_5 : decode cX12_allWays 5 = .ok (.aload_n 0, 1) := by decide +kernel
theorem dX12_allWays_6 : decode cX12_allWays 6 = .ok (.iload_n 1, 1) := by decide +kernel
theorem dX12_allWays_7 : decode cX12_allWays 7 = .ok (.iconst 0, 1) := by decide +kernel
theorem dX12_allWays_8 : decode cX12_allWays 8 = .ok (.iconst 0, 1) := by decide +kernel
theorem dX12_allWays_9 : decode cX12_allWays 9 = .ok (.invokevirtual 356, 3) := by decide +kernel
theorem dX12_allWays_12 : decode cX12_allWays 12 = .ok (.return_, 1) := by decide +kernel
def f_X12_allWays (k0 : Nat) (x1 : Int32) (h : AH) : Option AH :=
  nm (sI h k0 34 0) fun h_1 =>
  ov (r_X12_layWays 12 k0 x1 0 0 h_1) fun h_4 =>
  some h_4
set_option maxHeartbeats 4000000 in
set_option maxRecDepth 100000 in
theorem c_X12_allWays {E : EV} {d : Nat} (hd : 24 + 1 ≤ d) {k0 : Nat} {x1 : Int32} {h : AH} {h0 : AH} (hf : f_X12_allWays k0 x1 h = some h0) (t_k0 : kd k0 = (0, 12)) : Con E d K_X12_allWays (ZV E h0) [.ref k0, .int x1] h := by
  obtain ⟨d, rfl⟩ : ∃ d', d = d' + 1 := ⟨d - 1, by omega⟩
  have hd := Nat.le_of_succ_le_succ hd
  refine Con.ofV rfl (Nat.le_of_ble_eq_true rfl) ?_
  unfold f_X12_allWays at hf
  show V E (d + 1) K_X12_allWays (ZV E h0) h [(0, .ref k0), (1, .int x1)] [] 0
  refine V_aload_n 0 dX12_allWays_0 rfl rfl ?_
  refine V_iconst (v := 0) dX12_allWays_1 (by decide) ?_
  obtain ⟨h_1, e_2, hf⟩ := nm_s hf
  refine V_putI P_X12_353 rfl t_k0 rfl e_2 dX12_allWays_2 ?_
  refine V_aload_n 0 dX12_allWays_5 rfl rfl ?_
  refine V_iload_n 1 dX12_allWays_6 rfl rfl ?_
  refine V_iconst (v := 0) dX12_allWays_7 (by decide) ?_
  refine V_iconst (v := 0) dX12_allWays_8 (by decide) ?_
  obtain ⟨h_4, e_3, hf⟩ := ov_s hf
  refine V_cvv (As := [.int x1, .int 0, .int 0]) (rest := []) (cr_X12_layWays 12 (d := d) (Nat.le_trans (Nat.le_of_ble_eq_true rfl) hd) e_3 t_k0) ML_X12_356 MV_X12_layWays rfl t_k0 rfl rfl (Nat.le_of_ble_eq_true rfl) dX12_allWays_9 ?_
  exact V_vret rfl (so_s hf) dX12_allWays_12
theorem dX12_areGuests_0 : decode cX12_areGuests 0 = .ok (.iload_n 1, 1) := by decide +kernel
theorem dX12_areGuests_1 : decode cX12_areGuests 1 = .ok (.ifCond .le 17, 3) := by decide +kernel
theorem dX12_areGuests_4 : decode cX12_areGuests 4 = .ok (.iload_n 1, 1) := by decide +kernel
theorem dX12_areGuests_5 : decode cX12_areGuests 5 = .ok (.iconst 1, 1) := by decide +kernel
theorem dX12_areGuests_6 : decode cX12_areGuests 6 = .ok (.aload_n 0, 1) := by decide +kernel
theorem dX12_areGuests_7 : decode cX12_areGuests 7 = .ok (.getfield 283, 3) := by decide +kernel
theorem dX12_areGuests_10 : decode cX12_areGuests 10 = .ok (.ishl, 1) := by decide +kernel
theorem dX12_areGuests_11 : decode cX12_areGuests 11 = .ok (.if_icmp .ge 7, 3) := by decide +kernel
theorem dX12_areGuests_14 : decode cX12_areGuests 14 = .ok (.iconst 1, 1) := by decide +kernel
theorem dX12_areGuests_15 : decode cX12_areGuests 15 = .ok (.goto 4, 3) := by decide +kernel
theorem dX12_areGuests_18 : decode cX12_areGuests 18 = .ok (.iconst 0, 1) := by decide +kernel
theorem dX12_areGuests_19 : decode cX12_areGuests 19 = .ok (.ireturn, 1) := by decide +kernel
def f_X12_areGuests_19 (s0 : Int32) (h : AH) : Option (Int32 × AH) :=
  og (bz s0) <|
  some (s0, h)
def f_X12_areGuests_18  (h : AH) : Option (Int32 × AH) :=
  f_X12_areGuests_19 0 h
def f_X12_areGuests (k0 : Nat) (x1 : Int32) (h : AH) : Option (Int32 × AH) :=
  if x1 ≤ 0 then (
    f_X12_areGuests_18 h
  ) else (
    if ((1 : Int32) <<< ((h.1 k0 20) &&& 31)) ≤ x1 then (
      f_X12_areGuests_18 h
    ) else (
      f_X12_areGuests_19 1 h
    )
  )
set_option maxHeartbeats 4000000 in
set_option maxRecDepth 100000 in
theorem v_X12_areGuests_19 {E : EV} {d : Nat} (hd : 0 ≤ d) {r0 : Int32} {h0 : AH} {s0 : Int32} {h : AH} (hf : f_X12_areGuests_19 s0 h = some (r0, h0)) : V E (d + 1) K_X12_areGuests (ZI E r0 h0) h [] [.int s0] 19 := by
  unfold f_X12_areGuests_19 at hf
  obtain ⟨b_1, hf⟩ := og_s hf
  exact V_zret rfl b_1 (so_s hf) dX12_areGuests_19
set_option maxHeartbeats 4000000 in
set_option maxRecDepth 100000 in
theorem v_X12_areGuests_18 {E : EV} {d : Nat} (hd : 0 ≤ d) {r0 : Int32} {h0 : AH}  {h : AH} (hf : f_X12_areGuests_18 h = some (r0, h0)) : V E (d + 1) K_X12_areGuests (ZI E r0 h0) h [] [] 18 := by
  unfold f_X12_areGuests_18 at hf
  refine V_iconst (v := 0) dX12_areGuests_18 (by decide) ?_
  exact v_X12_areGuests_19 hd hf
set_option maxHeartbeats 4000000 in
set_option maxRecDepth 100000 in
theorem c_X12_areGuests {E : EV} {d : Nat} (hd : 0 + 1 ≤ d) {k0 : Nat} {x1 : Int32} {h : AH} {r0 : Int32} {h0 : AH} (hf : f_X12_areGuests k0 x1 h = some (r0, h0)) (t_k0 : kd k0 = (0, 12)) : Con E d K_X12_areGuests (ZI E r0 h0) [.ref k0, .int x1] h := by
  obtain ⟨d, rfl⟩ : ∃ d', d = d' + 1 := ⟨d - 1, by omega⟩
  have hd := Nat.le_of_succ_le_succ hd
  refine Con.ofV rfl (Nat.le_of_ble_eq_true rfl) ?_
  unfold f_X12_areGuests at hf
  show V E (d + 1) K_X12_areGuests (ZI E r0 h0) h [(0, .ref k0), (1, .int x1)] [] 0
  refine V_iload_n 1 dX12_areGuests_0 rfl rfl ?_
  refine V_if_le (tgt := 18) dX12_areGuests_1 (by decide) (fun c_1 => ?_) (fun c_1 => ?_)
  · have hf := it_s c_1 hf
    refine V_sub [] rfl ?_
    exact v_X12_areGuests_18 hd hf
  · have hf := if_s c_1 hf
    refine V_iload_n 1 dX12_areGuests_4 rfl rfl ?_
    refine V_iconst (v := 1) dX12_areGuests_5 (by decide) ?_
    refine V_aload_n 0 dX12_areGuests_6 rfl rfl ?_
    refine V_getI F_X12_283 rfl t_k0 rfl dX12_areGuests_7 ?_
    refine V_ishl dX12_areGuests_10 ?_
    refine V_ic_ge (tgt := 18) dX12_areGuests_11 (by decide) (fun c_2 => ?_) (fun c_2 => ?_)
    · have hf := it_s c_2 hf
      refine V_sub [] rfl ?_
      exact v_X12_areGuests_18 hd hf
    · have hf := if_s c_2 hf
      refine V_iconst (v := 1) dX12_areGuests_14 (by decide) ?_
      refine V_goto (tgt := 19) dX12_areGuests_15 (by decide) ?_
      refine V_sub [] rfl ?_
      exact v_X12_areGuests_19 hd hf
theorem dX12_look_0 : decode cX12_look 0 = .ok (.aload_n 0, 1) := by decide +kernel
theorem dX12_look_1 : decode cX12_look 1 = .ok (.getfield 144, 3) := by decide +kernel
theorem dX12_look_4 : decode cX12_look 4 = .ok (.aload_n 0, 1) := by decide +kernel
theorem dX12_look_5 : decode cX12_look 5 = .ok (.getfield 147, 3) := by decide +kernel
theorem dX12_look_8 : decode cX12_look 8 = .ok (.if_icmp .ge 35, 3) := by decide +kernel
theorem dX12_look_11 : decode cX12_look 11 = .ok (.aload_n 0, 1) := by decide +kernel
theorem dX12_look_12 : decode cX12_look 12 = .ok (.getfield 23, 3) := by decide +kernel
theorem dX12_look_15 : decode cX12_look 15 = .ok (.aload_n 0, 1) := by decide +kernel
theorem dX12_look_16 : decode cX12_look 16 = .ok (.getfield 150, 3) := by decide +kernel
theorem dX12_look_19 : decode cX12_look 19 = .ok (.aload_n 0, 1) := by decide +kernel
theorem dX12_look_20 : decode cX12_look 20 = .ok (.getfield 144, 3) := by decide +kernel
theorem dX12_look_23 : decode cX12_look 23 = .ok (.iadd, 1) := by decide +kernel
theorem dX12_look_24 : decode cX12_look 24 = .ok (.baload, 1) := by decide +kernel
theorem dX12_look_25 : decode cX12_look 25 = .ok (.bipush 32, 2) := by decide +kernel
theorem dX12_look_27 : decode cX12_look 27 = .ok (.if_icmp .ne 16, 3) := by decide +kernel
theorem dX12_look_30 : decode cX12_look 30 = .ok (.aload_n 0, 1) := by decide +kernel
theorem dX12_look_31 : decode cX12_look 31 = .ok (.dup, 1) := by decide +kernel
theorem dX12_look_32 : decode cX12_look 32 = .ok (.getfield 144, 3) := by decide +kernel
theorem dX12_look_35 : decode cX12_look 35 = .ok (.iconst 1, 1) := by decide +kernel
theorem dX12_look_36 : decode cX12_look 36 = .ok (.iadd, 1) := by decide +kernel
theorem dX12_look_37 : decode cX12_look 37 = .ok (.putfield 144, 3) := by decide +kernel
theorem dX12_look_40 : decode cX12_look 40 = .ok (.goto (-40), 3) := by decide +kernel
theorem dX12_look_43 : decode cX12_look 43 = .ok (.aload_n 0, 1) := by decide +kernel
theorem dX12_look_44 : decode cX12_look 44 = .ok (.getfield 144, 3) := by decide +kernel
theorem dX12_look_47 : decode cX12_look 47 = .ok (.aload_n 0, 1) := by decide +kernel
theorem dX12_look_48 : decode cX12_look 48 = .ok (.getfield 147, 3) := by decide +kernel
theorem dX12_look_51 : decode cX12_look 51 = .ok (.if_icmp .ge 24, 3) := by decide +kernel
theorem dX12_look_54 : decode cX12_look 54 = .ok (.aload_n 0, 1) := by decide +kernel
theorem dX12_look_55 : decode cX12_look 55 = .ok (.getfield 23, 3) := by decide +kernel
theorem dX12_look_58 : decode cX12_look 58 = .ok (.aload_n 0, 1) := by decide +kernel
theorem dX12_look_59 : decode cX12_look 59 = .ok (.getfield 150, 3) := by decide +kernel
theorem dX12_look_62 : decode cX12_look 62 = .ok (.aload_n 0, 1) := by decide +kernel
theorem dX12_look_63 : decode cX12_look 63 = .ok (.getfield 144, 3) := by decide +kernel
theorem dX12_look_66 : decode cX12_look 66 = .ok (.iadd, 1) := by decide +kernel
theorem dX12_look_67 : decode cX12_look 67 = .ok (.baload, 1) := by decide +kernel
theorem dX12_look_68 : decode cX12_look 68 = .ok (.sipush 255, 3) := by decide +kernel
theorem dX12_look_71 : decode cX12_look 71 = .ok (.iand, 1) := by decide +kernel
theorem dX12_look_72 : decode cX12_look 72 = .ok (.goto 4, 3) := by decide +kernel
theorem dX12_look_75 : decode cX12_look 75 = .ok (.iconst (-1), 1) := by decide +kernel
theorem dX12_look_76 : decode cX12_look 76 = .ok (.ireturn, 1) := by decide +kernel
theorem F_X12_144 : FLk RX12 144 12 10 := ⟨RX12, TX12, 58, rfl, rfl, iw_X12, by decide, Or.inl fl_X12_144⟩
theorem F_X12_147 : FLk RX12 147 12 9 := ⟨RX12, TX12, 58, rfl, rfl, iw_X12, by decide, Or.inl fl_X12_147⟩
theorem F_X12_23 : FLk RX12 23 12 5 := ⟨RX12, TX12, 58, rfl, rfl, iw_X12, by decide, Or.inl fl_X12_23⟩
theorem F_X12_150 : FLk RX12 150 12 8 := ⟨RX12, TX12, 58, rfl, rfl, iw_X12, by decide, Or.inl fl_X12_150⟩
theorem P_X12_144 : FPk RX12 144 12 10 .int := ⟨RX12, TX12, 58, tyX12, rfl, rfl, iw_X12, by decide, Or.inl fl_X12_144, tyX12_ok, nmX12, rfl, by decide +kernel⟩
def f_X12_look_76 (s0 : Int32) (h : AH) : Option (Int32 × AH) :=
  some (s0, h)
def f_X12_look_43 (k0 : Nat) (h : AH) : Option (Int32 × AH) :=
  if (h.1 k0 9) ≤ (h.1 k0 10) then (
    f_X12_look_76 (-1) h
  ) else (
    og (decide ((kd (h.2.2 k0)).1 = 3)) <|
    og (ix ((h.1 k0 8) + (h.1 k0 10)) (an (h.2.2 k0))) <|
    f_X12_look_76 ((h.1 (h.2.2 k0) ((h.1 k0 8) + (h.1 k0 10)).toNatClampNeg) &&& 255) h
  )
def f_X12_look_0 : Nat → Nat → AH → Option (Int32 × AH)
  | 0, _, _ => none
  | n + 1, k0, h =>
    if (h.1 k0 9) ≤ (h.1 k0 10) then (
      f_X12_look_43 k0 h
    ) else (
      og (decide ((kd (h.2.2 k0)).1 = 3)) <|
      og (ix ((h.1 k0 8) + (h.1 k0 10)) (an (h.2.2 k0))) <|
      if (h.1 (h.2.2 k0) ((h.1 k0 8) + (h.1 k0 10)).toNatClampNeg) = 32 then (
        nm (sI h k0 10 ((h.1 k0 10) + 1)) fun h_5 =>
        f_X12_look_0 n k0 h_5
      ) else (
        f_X12_look_43 k0 h
      )
    )
def f_X12_look (k0 : Nat) (h : AH) : Option (Int32 × AH) :=
  f_X12_look_0 FU k0 h
set_option maxHeartbeats 4000000 in
set_option maxRecDepth 100000 in
theorem v_X12_look_76 {E : EV} {d : Nat} (hd : 0 ≤ d) {r0 : Int32} {h0 : AH} {s0 : Int32} {h : AH} (hf : f_X12_look_76 s0 h = some (r0, h0)) : V E (d + 1) K_X12_look (ZI E r0 h0) h [] [.int s0] 76 := by
  unfold f_X12_look_76 at hf
  exact V_iret rfl (so_s hf) dX12_look_76
set_option maxHeartbeats 4000000 in
set_option maxRecDepth 100000 in
theorem v_X12_look_43 {E : EV} {d : Nat} (hd : 0 ≤ d) {r0 : Int32} {h0 : AH} {k0 : Nat} {h : AH} (hf : f_X12_look_43 k0 h = some (r0, h0)) (t_k0 : kd k0 = (0, 12)) : V E (d + 1) K_X12_look (ZI E r0 h0) h [(0, .ref k0)] [] 43 := by
  unfold f_X12_look_43 at hf
  refine V_aload_n 0 dX12_look_43 rfl rfl ?_
  refine V_getI F_X12_144 rfl t_k0 rfl dX12_look_44 ?_
  refine V_aload_n 0 dX12_look_47 rfl rfl ?_
  refine V_getI F_X12_147 rfl t_k0 rfl dX12_look_48 ?_
  refine V_ic_ge (tgt := 75) dX12_look_51 (by decide) (fun c_1 => ?_) (fun c_1 => ?_)
  · have hf := it_s c_1 hf
    refine V_iconst (v := (-1)) dX12_look_75 (by decide) ?_
    refine V_sub [] rfl ?_
    exact v_X12_look_76 hd hf
  · have hf := if_s c_1 hf
    refine V_aload_n 0 dX12_look_54 rfl rfl ?_
    obtain ⟨b_2, hf⟩ := og_s hf
    refine V_getM F_X12_23 rfl t_k0 rfl dX12_look_55 ?_
    refine V_aload_n 0 dX12_look_58 rfl rfl ?_
    refine V_getI F_X12_150 rfl t_k0 rfl dX12_look_59 ?_
    refine V_aload_n 0 dX12_look_62 rfl rfl ?_
    refine V_getI F_X12_144 rfl t_k0 rfl dX12_look_63 ?_
    refine V_iadd dX12_look_66 ?_
    obtain ⟨b_3, hf⟩ := og_s hf
    refine V_bald (of_decide_eq_true b_2) b_3 dX12_look_67 ?_
    refine V_sipush (v := 255) dX12_look_68 (by decide) ?_
    refine V_iand dX12_look_71 ?_
    refine V_goto (tgt := 76) dX12_look_72 (by decide) ?_
    refine V_sub [] rfl ?_
    exact v_X12_look_76 hd hf
set_option maxHeartbeats 4000000 in
set_option maxRecDepth 100000 in
theorem v_X12_look_0 {E : EV} {d : Nat} (hd : 0 ≤ d) {r0 : Int32} {h0 : AH} : ∀ (n : Nat) (k0 : Nat) (h : AH), f_X12_look_0 n k0 h = some (r0, h0) → kd k0 = (0, 12) → V E (d + 1) K_X12_look (ZI E r0 h0) h [(0, .ref k0)] [] 0 := by
  intro n
  induction n with
  | zero =>
    intro k0 h hf
    rw [f_X12_look_0] at hf
    cases hf
  | succ n ih =>
    intro k0 h hf t_k0
    rw [f_X12_look_0] at hf
    refine V_aload_n 0 dX12_look_0 rfl rfl ?_
    refine V_getI F_X12_144 rfl t_k0 rfl dX12_look_1 ?_
    refine V_aload_n 0 dX12_look_4 rfl rfl ?_
    refine V_getI F_X12_147 rfl t_k0 rfl dX12_look_5 ?_
    refine V_ic_ge (tgt := 43) dX12_look_8 (by decide) (fun c_1 => ?_) (fun c_1 => ?_)
    · have hf := it_s c_1 hf
      exact v_X12_look_43 hd hf t_k0
    · have hf := if_s c_1 hf
      refine V_aload_n 0 dX12_look_11 rfl rfl ?_
      obtain ⟨b_2, hf⟩ := og_s hf
      refine V_getM F_X12_23 rfl t_k0 rfl dX12_look_12 ?_
      refine V_aload_n 0 dX12_look_15 rfl rfl ?_
      refine V_getI F_X12_150 rfl t_k0 rfl dX12_look_16 ?_
      refine V_aload_n 0 dX12_look_19 rfl rfl ?_
      refine V_getI F_X12_144 rfl t_k0 rfl dX12_look_20 ?_
      refine V_iadd dX12_look_23 ?_
      obtain ⟨b_3, hf⟩ := og_s hf
      refine V_bald (of_decide_eq_true b_2) b_3 dX12_look_24 ?_
      refine V_bipush (v := 32) dX12_look_25 (by decide) ?_
      refine V_ic_ne (tgt := 43) dX12_look_27 (by decide) (fun c_4 => ?_) (fun c_4 => ?_)
      · have hf := if_s c_4 hf
        exact v_X12_look_43 hd hf t_k0
      · have hf := it_s c_4 hf
        refine V_aload_n 0 dX12_look_30 rfl rfl ?_
        refine V_dup dX12_look_31 rfl ?_
        refine V_getI F_X12_144 rfl t_k0 rfl dX12_look_32 ?_
        refine V_iconst (v := 1) dX12_look_35 (by decide) ?_
        refine V_iadd dX12_look_36 ?_
        obtain ⟨h_5, e_6, hf⟩ := nm_s hf
        refine V_putI P_X12_144 rfl t_k0 rfl e_6 dX12_look_37 ?_
        refine V_goto (tgt := 0) dX12_look_40 (by decide) ?_
        exact ih _ _ hf t_k0
set_option maxHeartbeats 4000000 in
set_option maxRecDepth 100000 in
theorem c_X12_look {E : EV} {d : Nat} (hd : 0 + 1 ≤ d) {k0 : Nat} {h : AH} {r0 : Int32} {h0 : AH} (hf : f_X12_look k0 h = some (r0, h0)) (t_k0 : kd k0 = (0, 12)) : Con E d K_X12_look (ZI E r0 h0) [.ref k0] h := by
  obtain ⟨d, rfl⟩ : ∃ d', d = d' + 1 := ⟨d - 1, by omega⟩
  have hd := Nat.le_of_succ_le_succ hd
  refine Con.ofV rfl (Nat.le_of_ble_eq_true rfl) ?_
  unfold f_X12_look at hf
  show V E (d + 1) K_X12_look (ZI E r0 h0) h [(0, .ref k0)] [] 0
  exact v_X12_look_0 hd FU _ _ hf t_k0
theorem dX12_isAmong_0 : decode cX12_isAmong 0 = .ok (.iconst 0, 1) := by decide +kernel
theorem dX12_isAmong_1 : decode cX12_isAmong 1 = .ok (.istore_n 2, 1) := by decide +kernel
theorem dX12_isAmong_2 : decode cX12_isAmong 2 = .ok (.iload_n 2, 1) := by decide +kernel
theorem dX12_isAmong_3 : decode cX12_isAmong 3 = .ok (.aload_n 0, 1) := by decide +kernel
theorem dX12_isAmong_4 : decode cX12_isAmong 4 = .ok (.invokevirtual 124, 3) := by decide +kernel
theorem dX12_isAmong_7 : decode cX12_isAmong 7 = .ok (.if_icmp .ge 20, 3) := by decide +kernel
theorem dX12_isAmong_10 : decode cX12_isAmong 10 = .ok (.aload_n 0, 1) := by decide +kernel
theorem dX12_isAmong_11 : decode cX12_isAmong 11 = .ok (.iload_n 2, 1) := by decide +kernel
theorem dX12_isAmong_12 : decode cX12_isAmong 12 = .ok (.invokevirtual 130, 3) := by decide +kernel
theorem dX12_isAmong_15 : decode cX12_isAmong 15 = .ok (.iload_n 1, 1) := by decide +kernel
theorem dX12_isAmong_16 : decode cX12_isAmong 16 = .ok (.if_icmp .ne 5, 3) := by decide +kernel
theorem dX12_isAmong_19 : decode cX12_isAmong 19 = .ok (.iconst 1, 1) := by decide +kernel
theorem dX12_isAmong_20 : decode cX12_isAmong 20 = .ok (.ireturn, 1) := by decide +kernel
theorem dX12_isAmong_21 : decode cX12_isAmong 21 = .ok (.iinc 2 1, 3) := by decide +kernel
theorem dX12_isAmong_24 : decode cX12_isAmong 24 = .ok (.goto (-22), 3) := by decide +kernel
theorem dX12_isAmong_27 : decode cX12_isAmong 27 = .ok (.iconst 0, 1) := by decide +kernel
theorem dX12_isAmong_28 : decode cX12_isAmong 28 = .ok (.ireturn, 1) := by decide +kernel
def f_X12_isAmong_2 : Nat → Nat → Int32 → Int32 → AH → Option (Int32 × AH)
  | 0, _, _, _, _ => none
  | n + 1, k0, x1, x2, h =>
    ob (f_J0_length_8abf5 k0 h) fun r_3 h_2 =>
    if r_3 ≤ x2 then (
      some (0, h_2)
    ) else (
      ob (f_J0_charAt_5068e k0 x2 h_2) fun r_7 h_6 =>
      if r_7 = x1 then (
        some (1, h_6)
      ) else (
        nm (x2 + 1) fun x2_9 =>
        f_X12_isAmong_2 n k0 x1 x2_9 h_6
      )
    )
def f_X12_isAmong (k0 : Nat) (x1 : Int32) (h : AH) : Option (Int32 × AH) :=
  f_X12_isAmong_2 FU k0 x1 0 h
set_option maxHeartbeats 4000000 in
set_option maxRecDepth 100000 in
theorem v_X12_isAmong_2 {E : EV} {d : Nat} (hd : 5 ≤ d) {r0 : Int32} {h0 : AH} : ∀ (n : Nat) (k0 : Nat) (x1 : Int32) (x2 : Int32) (h : AH), f_X12_isAmong_2 n k0 x1 x2 h = some (r0, h0) → V E (d + 1) K_X12_isAmong (ZI E r0 h0) h [(0, .ref k0), (1, .int x1), (2, .int x2)] [] 2 := by
  intro n
  induction n with
  | zero =>
    intro k0 x1 x2 h hf
    rw [f_X12_isAmong_2] at hf
    cases hf
  | succ n ih =>
    intro k0 x1 x2 h hf
    rw [f_X12_isAmong_2] at hf
    refine V_iload_n 2 dX12_isAmong_2 rfl rfl ?_
    refine V_aload_n 0 dX12_isAmong_3 rfl rfl ?_
    obtain ⟨r_3, h_2, e_1, hf⟩ := ob_s hf
    refine V_slen (rest := [.int x2]) (Nat.le_trans (Nat.le_of_ble_eq_true rfl) hd) e_1 ml_X12_124 rfl (Nat.le_of_ble_eq_true rfl) dX12_isAmong_4 ?_
    refine V_ic_ge (tgt := 27) dX12_isAmong_7 (by decide) (fun c_4 => ?_) (fun c_4 => ?_)
    · have hf := it_s c_4 hf
      refine V_iconst (v := 0) dX12_isAmong_27 (by decide) ?_
      exact V_zret rfl (by decide) (so_s hf) dX12_isAmong_28
    · have hf := if_s c_4 hf
      refine V_aload_n 0 dX12_isAmong_10 rfl rfl ?_
      refine V_iload_n 2 dX12_isAmong_11 rfl rfl ?_
      obtain ⟨r_7, h_6, e_5, hf⟩ := ob_s hf
      refine V_scha (rest := []) (Nat.le_trans (Nat.le_of_ble_eq_true rfl) hd) e_5 ml_X12_130 rfl (Nat.le_of_ble_eq_true rfl) dX12_isAmong_12 ?_
      refine V_iload_n 1 dX12_isAmong_15 rfl rfl ?_
      refine V_ic_ne (tgt := 21) dX12_isAmong_16 (by decide) (fun c_8 => ?_) (fun c_8 => ?_)
      · have hf := if_s c_8 hf
        obtain ⟨x2_9, e_10, hf⟩ := nm_s hf
        refine V_iinc (a := 1) (L' := [(2, .int x2_9), (0, .ref k0), (1, .int x1)]) 2 dX12_isAmong_21 rfl (by decide) (Nat.le_of_ble_eq_true rfl) e_10 rfl ?_
        refine V_goto (tgt := 2) dX12_isAmong_24 (by decide) ?_
        refine V_sub [1, 2, 0] rfl ?_
        exact ih _ _ _ _ hf
      · have hf := it_s c_8 hf
        refine V_iconst (v := 1) dX12_isAmong_19 (by decide) ?_
        exact V_zret rfl (by decide) (so_s hf) dX12_isAmong_20
set_option maxHeartbeats 4000000 in
set_option maxRecDepth 100000 in
theorem c_X12_isAmong {E : EV} {d : Nat} (hd : 5 + 1 ≤ d) {k0 : Nat} {x1 : Int32} {h : AH} {r0 : Int32} {h0 : AH} (hf : f_X12_isAmong k0 x1 h = some (r0, h0)) : Con E d K_X12_isAmong (ZI E r0 h0) [.ref k0, .int x1] h := by
  obtain ⟨d, rfl⟩ : ∃ d', d = d' + 1 := ⟨d - 1, by omega⟩
  have hd := Nat.le_of_succ_le_succ hd
  refine Con.ofV rfl (Nat.le_of_ble_eq_true rfl) ?_
  unfold f_X12_isAmong at hf
  show V E (d + 1) K_X12_isAmong (ZI E r0 h0) h [(0, .ref k0), (1, .int x1)] [] 0
  refine V_iconst (v := 0) dX12_isAmong_0 (by decide) ?_
  refine V_istore_n (L' := [(2, .int 0), (0, .ref k0), (1, .int x1)]) dX12_isAmong_1 rfl (Nat.le_of_ble_eq_true rfl) rfl rfl ?_
  refine V_sub [1, 2, 0] rfl ?_
  exact v_X12_isAmong_2 hd FU _ _ _ _ hf
theorem dX12_fails_0 : decode cX12_fails 0 = .ok (.aload_n 0, 1) := by decide +kernel
theorem dX12_fails_1 : decode cX12_fails 1 = .ok (.getfield 153, 3) := by decide +kernel
theorem dX12_fails_4 : decode cX12_fails 4 = .ok (.iconst (-1), 1) := by decide +kernel
theorem dX12_fails_5 : decode cX12_fails 5 = .ok (.if_icmp .ne 11, 3) := by decide +kernel
theorem dX12_fails_8 : decode cX12_fails 8 = .ok (.aload_n 0, 1) := by decide +kernel
theorem dX12_fails_9 : decode cX12_fails 9 = .ok (.aload_n 0, 1) := by decide +kernel
theorem dX12_fails_10 : decode cX12_fails 10 = .ok (.getfield 144, 3) := by decide +kernel
theorem dX12_fails_13 : decode cX12_fails 13 = .ok (.putfield 153, 3) := by decide +kernel
theorem dX12_fails_16 : decode cX12_fails 16 = .ok (.iconst 0, 1) := by decide +kernel
theorem dX12_fails_17 : decode cX12_fails 17 = .ok (.ireturn, 1) := by decide +kernel
theorem F_X12_153 : FLk RX12 153 12 11 := ⟨RX12, TX12, 58, rfl, rfl, iw_X12, by decide, Or.inl fl_X12_153⟩
theorem P_X12_153 : FPk RX12 153 12 11 .int := ⟨RX12, TX12, 58, tyX12, rfl, rfl, iw_X12, by decide, Or.inl fl_X12_153, tyX12_ok, nmX12, rfl, by decide +kernel⟩
def f_X12_fails_16  (h : AH) : Option (Int32 × AH) :=
  some (0, h)
def f_X12_fails (k0 : Nat) (h : AH) : Option (Int32 × AH) :=
  if (h.1 k0 11) = (-1) then (
    nm (sI h k0 11 (h.1 k0 10)) fun h_2 =>
    f_X12_fails_16 h_2
  ) else (
    f_X12_fails_16 h
  )
set_option maxHeartbeats 4000000 in
set_option maxRecDepth 100000 in
theorem v_X12_fails_16 {E : EV} {d : Nat} (hd : 0 ≤ d) {r0 : Int32} {h0 : AH}  {h : AH} (hf : f_X12_fails_16 h = some (r0, h0)) : V E (d + 1) K_X12_fails (ZI E r0 h0) h [] [] 16 := by
  unfold f_X12_fails_16 at hf
  refine V_iconst (v := 0) dX12_fails_16 (by decide) ?_
  exact V_zret rfl (by decide) (so_s hf) dX12_fails_17
set_option maxHeartbeats 4000000 in
set_option maxRecDepth 100000 in
theorem c_X12_fails {E : EV} {d : Nat} (hd : 0 + 1 ≤ d) {k0 : Nat} {h : AH} {r0 : Int32} {h0 : AH} (hf : f_X12_fails k0 h = some (r0, h0)) (t_k0 : kd k0 = (0, 12)) : Con E d K_X12_fails (ZI E r0 h0) [.ref k0] h := by
  obtain ⟨d, rfl⟩ : ∃ d', d = d' + 1 := ⟨d - 1, by omega⟩
  have hd := Nat.le_of_succ_le_succ hd
  refine Con.ofV rfl (Nat.le_of_ble_eq_true rfl) ?_
  unfold f_X12_fails at hf
  show V E (d + 1) K_X12_fails (ZI E r0 h0) h [(0, .ref k0)] [] 0
  refine V_aload_n 0 dX12_fails_0 rfl rfl ?_
  refine V_getI F_X12_153 rfl t_k0 rfl dX12_fails_1 ?_
  refine V_iconst (v := (-1)) dX12_fails_4 (by decide) ?_
  refine V_ic_ne (tgt := 16) dX12_fails_5 (by decide) (fun c_1 => ?_) (fun c_1 => ?_)
  · have hf := if_s c_1 hf
    refine V_sub [] rfl ?_
    exact v_X12_fails_16 hd hf
  · have hf := it_s c_1 hf
    refine V_aload_n 0 dX12_fails_8 rfl rfl ?_
    refine V_aload_n 0 dX12_fails_9 rfl rfl ?_
    refine V_getI F_X12_144 rfl t_k0 rfl dX12_fails_10 ?_
    obtain ⟨h_2, e_3, hf⟩ := nm_s hf
    refine V_putI P_X12_153 rfl t_k0 rfl e_3 dX12_fails_13 ?_
    refine V_sub [] rfl ?_
    exact v_X12_fails_16 hd hf
theorem dX12_goesIn_0 : decode cX12_goesIn 0 = .ok (.aload_n 0, 1) := by decide +kernel
theorem dX12_goesIn_1 : decode cX12_goesIn 1 = .ok (.getfield 156, 3) := by decide +kernel
theorem dX12_goesIn_4 : decode cX12_goesIn 4 = .ok (.bipush 6, 2) := by decide +kernel
theorem dX12_goesIn_6 : decode cX12_goesIn 6 = .ok (.if_icmp .ne 8, 3) := by decide +kernel
theorem dX12_goesIn_9 : decode cX12_goesIn 9 = .ok (.aload_n 0, 1) := by decide +kernel
theorem dX12_goesIn_10 : decode cX12_goesIn 10 = .ok (.invokevirtual 159, 3) := by decide +kernel
theorem dX12_goesIn_13 : decode cX12_goesIn 13 = .ok (.ireturn, 1) := by decide +kernel
theorem dX12_goesIn_14 : decode cX12_goesIn 14 = .ok (.aload_n 0, 1) := by decide +kernel
theorem dX12_goesIn_15 : decode cX12_goesIn 15 = .ok (.dup, 1) := by decide +kernel
theorem dX12_goesIn_16 : decode cX12_goesIn 16 = .ok (.getfield 156, 3) := by decide +kernel
theorem dX12_goesIn_19 : decode cX12_goesIn 19 = .ok (.iconst 1, 1) := by decide +kernel
theorem dX12_goesIn_20 : decode cX12_goesIn 20 = .ok (.iadd, 1) := by decide +kernel
theorem dX12_goesIn_21 : decode cX12_goesIn 21 = .ok (.putfield 156, 3) := by decide +kernel
theorem dX12_goesIn_24 : decode cX12_goesIn 24 = .ok (.aload_n 0, 1) := by decide +kernel
theorem dX12_goesIn_25 : decode cX12_goesIn 25 = .ok (.dup, 1) := by decide +kernel
theorem dX12_goesIn_26 : decode cX12_goesIn 26 = .ok (.getfield 144, 3) := by decide +kernel
theorem dX12_goesIn_29 : decode cX12_goesIn 29 = .ok (.iconst 1, 1) := by decide +kernel
theorem dX12_goesIn_30 : decode cX12_goesIn 30 = .ok (.iadd, 1) := by decide +kernel
theorem dX12_goesIn_31 : decode cX12_goesIn 31 = .ok (.putfield 144, 3) := by decide +kernel
theorem dX12_goesIn_34 : decode cX12_goesIn 34 = .ok (.iconst 1, 1) := by decide +kernel
theorem dX12_goesIn_35 : decode cX12_goesIn 35 = .ok (.ireturn, 1) := by decide +kernel
theorem F_X12_156 : FLk RX12 156 12 12 := ⟨RX12, TX12, 58, rfl, rfl, iw_X12, by decide, Or.inl fl_X12_156⟩
theorem P_X12_156 : FPk RX12 156 12 12 .int := ⟨RX12, TX12, 58, tyX12, rfl, rfl, iw_X12, by decide, Or.inl fl_X12_156, tyX12_ok, nmX12, rfl, by decide +kernel⟩
theorem ML_X12_159 : MLk RX12 159 yX12_fails := Or.inl ml_X12_159
theorem MV_X12_fails : MVk K_X12_fails 0 12 := ⟨⟨cd_X12_fails, in_X12, ⟨by decide, by decide, by decide +kernel⟩, by decide⟩, im_X12_fails, se_X12_fails, _, _, rfl⟩
def f_X12_goesIn (k0 : Nat) (h : AH) : Option (Int32 × AH) :=
  if (h.1 k0 12) = 6 then (
    ob (f_X12_fails k0 h) fun r_8 h_7 =>
    og (bz r_8) <|
    some (r_8, h_7)
  ) else (
    nm (sI h k0 12 ((h.1 k0 12) + 1)) fun h_2 =>
    nm (sI h_2 k0 10 ((h_2.1 k0 10) + 1)) fun h_4 =>
    some (1, h_4)
  )
set_option maxHeartbeats 4000000 in
set_option maxRecDepth 100000 in
theorem c_X12_goesIn {E : EV} {d : Nat} (hd : 1 + 1 ≤ d) {k0 : Nat} {h : AH} {r0 : Int32} {h0 : AH} (hf : f_X12_goesIn k0 h = some (r0, h0)) (t_k0 : kd k0 = (0, 12)) : Con E d K_X12_goesIn (ZI E r0 h0) [.ref k0] h := by
  obtain ⟨d, rfl⟩ : ∃ d', d = d' + 1 := ⟨d - 1, by omega⟩
  have hd := Nat.le_of_succ_le_succ hd
  refine Con.ofV rfl (Nat.le_of_ble_eq_true rfl) ?_
  unfold f_X12_goesIn at hf
  show V E (d + 1) K_X12_goesIn (ZI E r0 h0) h [(0, .ref k0)] [] 0
  refine V_aload_n 0 dX12_goesIn_0 rfl rfl ?_
  refine V_getI F_X12_156 rfl t_k0 rfl dX12_goesIn_1 ?_
  refine V_bipush (v := 6) dX12_goesIn_4 (by decide) ?_
  refine V_ic_ne (tgt := 14) dX12_goesIn_6 (by decide) (fun c_1 => ?_) (fun c_1 => ?_)
  · have hf := if_s c_1 hf
    refine V_aload_n 0 dX12_goesIn_14 rfl rfl ?_
    refine V_dup dX12_goesIn_15 rfl ?_
    refine V_getI F_X12_156 rfl t_k0 rfl dX12_goesIn_16 ?_
    refine V_iconst (v := 1) dX12_goesIn_19 (by decide) ?_
    refine V_iadd dX12_goesIn_20 ?_
    obtain ⟨h_2, e_3, hf⟩ := nm_s hf
    refine V_putI P_X12_156 rfl t_k0 rfl e_3 dX12_goesIn_21 ?_
    refine V_aload_n 0 dX12_goesIn_24 rfl rfl ?_
    refine V_dup dX12_goesIn_25 rfl ?_
    refine V_getI F_X12_144 rfl t_k0 rfl dX12_goesIn_26 ?_
    refine V_iconst (v := 1) dX12_goesIn_29 (by decide) ?_
    refine V_iadd dX12_goesIn_30 ?_
    obtain ⟨h_4, e_5, hf⟩ := nm_s hf
    refine V_putI P_X12_144 rfl t_k0 rfl e_5 dX12_goesIn_31 ?_
    refine V_iconst (v := 1) dX12_goesIn_34 (by decide) ?_
    exact V_zret rfl (by decide) (so_s hf) dX12_goesIn_35
  · have hf := it_s c_1 hf
    refine V_aload_n 0 dX12_goesIn_9 rfl rfl ?_
    obtain ⟨r_8, h_7, e_6, hf⟩ := ob_s hf
    refine V_cvi (As := []) (rest := []) (c_X12_fails (d := d) (Nat.le_trans (Nat.le_of_ble_eq_true rfl) hd) e_6 t_k0) ML_X12_159 MV_X12_fails rfl t_k0 rfl rfl (Nat.le_of_ble_eq_true rfl) dX12_goesIn_10 ?_
    obtain ⟨b_9, hf⟩ := og_s hf
    exact V_zret rfl b_9 (so_s hf) dX12_goesIn_13
theorem dX12_within_0 : decode cX12_within 0 = .ok (.ldc2_w 166, 3) := by decide +kernel
theorem dX12_within_3 : decode cX12_within 3 = .ok (.ldc2_w 168, 3) := by decide +kernel
theorem dX12_within_6 : decode cX12_within 6 = .ok (.lload_n 0, 1) := by decide +kernel
theorem dX12_within_7 : decode cX12_within 7 = .ok (.invokestatic 170, 3) := by decide +kernel
theorem dX12_within_10 : decode cX12_within 10 = .ok (.invokestatic 176, 3) := by decide +kernel
theorem dX12_within_13 : decode cX12_within 13 = .ok (.l2i, 1) := by decide +kernel
theorem dX12_within_14 : decode cX12_within 14 = .ok (.ireturn, 1) := by decide +kernel
def f_X12_within (l0 : Int64) (h : AH) : Option (Int32 × AH) :=
  some ((((if (if l0 < 1000000 then l0 else 1000000) < (-1000000) then (-1000000) else (if l0 < 1000000 then l0 else 1000000))).toInt32), h)
set_option maxHeartbeats 4000000 in
set_option maxRecDepth 100000 in
theorem c_X12_within {E : EV} {d : Nat} (hd : 0 + 1 ≤ d) {l0 : Int64} {h : AH} {r0 : Int32} {h0 : AH} (hf : f_X12_within l0 h = some (r0, h0)) : Con E d K_X12_within (ZI E r0 h0) [.long l0] h := by
  obtain ⟨d, rfl⟩ : ∃ d', d = d' + 1 := ⟨d - 1, by omega⟩
  have hd := Nat.le_of_succ_le_succ hd
  refine Con.ofV rfl (Nat.le_of_ble_eq_true rfl) ?_
  unfold f_X12_within at hf
  show V E (d + 1) K_X12_within (ZI E r0 h0) h [(0, .long l0)] [] 0
  refine V_ldc2 (v := (-1000000)) rfl kl_X12_166 dX12_within_0 ?_
  refine V_ldc2 (v := 1000000) rfl kl_X12_168 dX12_within_3 ?_
  refine V_lload_n 0 dX12_within_6 rfl rfl ?_
  refine V_mminL ml_X12_170 rfl (Nat.le_of_ble_eq_true rfl) dX12_within_7 ?_
  refine V_mmaxL ml_X12_176 rfl (Nat.le_of_ble_eq_true rfl) dX12_within_10 ?_
  refine V_l2i dX12_within_13 ?_
  exact V_iret rfl (so_s hf) dX12_within_14
theorem dX12_takes_0 : decode cX12_takes 0 = .ok (.aload_n 0, 1) := by decide +kernel
theorem dX12_takes_1 : decode cX12_takes 1 = .ok (.getfield 153, 3) := by decide +kernel
theorem dX12_takes_4 : decode cX12_takes 4 = .ok (.iconst (-1), 1) := by decide +kernel
theorem dX12_takes_5 : decode cX12_takes 5 = .ok (.if_icmp .ne 11, 3) := by decide +kernel
theorem dX12_takes_8 : decode cX12_takes 8 = .ok (.aload_n 0, 1) := by decide +kernel
theorem dX12_takes_9 : decode cX12_takes 9 = .ok (.invokevirtual 163, 3) := by decide +kernel
theorem dX12_takes_12 : decode cX12_takes 12 = .ok (.iload_n 1, 1) := by decide +kernel
theorem dX12_takes_13 : decode cX12_takes 13 = .ok (.if_icmp .eq 8, 3) := by decide +kernel
theorem dX12_takes_16 : decode cX12_takes 16 = .ok (.aload_n 0, 1) := by decide +kernel
theorem dX12_takes_17 : decode cX12_takes 17 = .ok (.invokevirtual 159, 3) := by decide +kernel
theorem dX12_takes_20 : decode cX12_takes 20 = .ok (.ireturn, 1) := by decide +kernel
theorem dX12_takes_21 : decode cX12_takes 21 = .ok (.aload_n 0, 1) := by decide +kernel
theorem dX12_takes_22 : decode cX12_takes 22 = .ok (.dup, 1) := by decide +kernel
theorem dX12_takes_23 : decode cX12_takes 23 = .ok (.getfield 144, 3) := by decide +kernel
theorem dX12_takes_26 : decode cX12_takes 26 = .ok (.iconst 1, 1) := by decide +kernel
theorem dX12_takes_27 : decode cX12_takes 27 = .ok (.iadd, 1) := by decide +kernel
theorem dX12_takes_28 : decode cX12_takes 28 = .ok (.putfield 144, 3) := by decide +kernel
theorem dX12_takes_31 : decode cX12_takes 31 = .ok (.iconst 1, 1) := by decide +kernel
theorem dX12_takes_32 : decode cX12_takes 32 = .ok (.ireturn, 1) := by decide +kernel
theorem ML_X12_163 : MLk RX12 163 yX12_look := Or.inl ml_X12_163
theorem MV_X12_look : MVk K_X12_look 0 12 := ⟨⟨cd_X12_look, in_X12, ⟨by decide, by decide, by decide +kernel⟩, by decide⟩, im_X12_look, se_X12_look, _, _, rfl⟩
def f_X12_takes_16 (k0 : Nat) (h : AH) : Option (Int32 × AH) :=
  ob (f_X12_fails k0 h) fun r_3 h_2 =>
  og (bz r_3) <|
  some (r_3, h_2)
def f_X12_takes (k0 : Nat) (x1 : Int32) (h : AH) : Option (Int32 × AH) :=
  if (h.1 k0 11) = (-1) then (
    ob (f_X12_look k0 h) fun r_4 h_3 =>
    if r_4 = x1 then (
      nm (sI h_3 k0 10 ((h_3.1 k0 10) + 1)) fun h_6 =>
      some (1, h_6)
    ) else (
      f_X12_takes_16 k0 h_3
    )
  ) else (
    f_X12_takes_16 k0 h
  )
set_option maxHeartbeats 4000000 in
set_option maxRecDepth 100000 in
theorem v_X12_takes_16 {E : EV} {d : Nat} (hd : 1 ≤ d) {r0 : Int32} {h0 : AH} {k0 : Nat} {h : AH} (hf : f_X12_takes_16 k0 h = some (r0, h0)) (t_k0 : kd k0 = (0, 12)) : V E (d + 1) K_X12_takes (ZI E r0 h0) h [(0, .ref k0)] [] 16 := by
  unfold f_X12_takes_16 at hf
  refine V_aload_n 0 dX12_takes_16 rfl rfl ?_
  obtain ⟨r_3, h_2, e_1, hf⟩ := ob_s hf
  refine V_cvi (As := []) (rest := []) (c_X12_fails (d := d) (Nat.le_trans (Nat.le_of_ble_eq_true rfl) hd) e_1 t_k0) ML_X12_159 MV_X12_fails rfl t_k0 rfl rfl (Nat.le_of_ble_eq_true rfl) dX12_takes_17 ?_
  obtain ⟨b_4, hf⟩ := og_s hf
  exact V_zret rfl b_4 (so_s hf) dX12_takes_20
set_option maxHeartbeats 4000000 in
set_option maxRecDepth 100000 in
theorem c_X12_takes {E : EV} {d : Nat} (hd : 1 + 1 ≤ d) {k0 : Nat} {x1 : Int32} {h : AH} {r0 : Int32} {h0 : AH} (hf : f_X12_takes k0 x1 h = some (r0, h0)) (t_k0 : kd k0 = (0, 12)) : Con E d K_X12_takes (ZI E r0 h0) [.ref k0, .int x1] h := by
  obtain ⟨d, rfl⟩ : ∃ d', d = d' + 1 := ⟨d - 1, by omega⟩
  have hd := Nat.le_of_succ_le_succ hd
  refine Con.ofV rfl (Nat.le_of_ble_eq_true rfl) ?_
  unfold f_X12_takes at hf
  show V E (d + 1) K_X12_takes (ZI E r0 h0) h [(0, .ref k0), (1, .int x1)] [] 0
  refine V_aload_n 0 dX12_takes_0 rfl rfl ?_
  refine V_getI F_X12_153 rfl t_k0 rfl dX12_takes_1 ?_
  refine V_iconst (v := (-1)) dX12_takes_4 (by decide) ?_
  refine V_ic_ne (tgt := 16) dX12_takes_5 (by decide) (fun c_1 => ?_) (fun c_1 => ?_)
  · have hf := if_s c_1 hf
    refine V_sub [0] rfl ?_
    exact v_X12_takes_16 hd hf t_k0
  · have hf := it_s c_1 hf
    refine V_aload_n 0 dX12_takes_8 rfl rfl ?_
    obtain ⟨r_4, h_3, e_2, hf⟩ := ob_s hf
    refine V_cvi (As := []) (rest := []) (c_X12_look (d := d) (Nat.le_trans (Nat.le_of_ble_eq_true rfl) hd) e_2 t_k0) ML_X12_163 MV_X12_look rfl t_k0 rfl rfl (Nat.le_of_ble_eq_true rfl) dX12_takes_9 ?_
    refine V_iload_n 1 dX12_takes_12 rfl rfl ?_
    refine V_ic_eq (tgt := 21) dX12_takes_13 (by decide) (fun c_5 => ?_) (fun c_5 => ?_)
    · have hf := it_s c_5 hf
      refine V_aload_n 0 dX12_takes_21 rfl rfl ?_
      refine V_dup dX12_takes_22 rfl ?_
      refine V_getI F_X12_144 rfl t_k0 rfl dX12_takes_23 ?_
      refine V_iconst (v := 1) dX12_takes_26 (by decide) ?_
      refine V_iadd dX12_takes_27 ?_
      obtain ⟨h_6, e_7, hf⟩ := nm_s hf
      refine V_putI P_X12_144 rfl t_k0 rfl e_7 dX12_takes_28 ?_
      refine V_iconst (v := 1) dX12_takes_31 (by decide) ?_
      exact V_zret rfl (by decide) (so_s hf) dX12_takes_32
    · have hf := if_s c_5 hf
      refine V_sub [0] rfl ?_
      exact v_X12_takes_16 hd hf t_k0
theorem dX12_isDigit_0 : decode cX12_isDigit 0 = .ok (.aload_n 0, 1) := by decide +kernel
theorem dX12_isDigit_1 : decode cX12_isDigit 1 = .ok (.getfield 144, 3) := by decide +kernel
theorem dX12_isDigit_4 : decode cX12_isDigit 4 = .ok (.aload_n 0, 1) := by decide +kernel
theorem dX12_isDigit_5 : decode cX12_isDigit 5 = .ok (.getfield 147, 3) := by decide +kernel
theorem dX12_isDigit_8 : decode cX12_isDigit 8 = .ok (.if_icmp .ge 45, 3) := by decide +kernel
theorem dX12_isDigit_11 : decode cX12_isDigit 11 = .ok (.aload_n 0, 1) := by decide +kernel
theorem dX12_isDigit_12 : decode cX12_isDigit 12 = .ok (.getfield 23, 3) := by decide +kernel
theorem dX12_isDigit_15 : decode cX12_isDigit 15 = .ok (.aload_n 0, 1) := by decide +kernel
theorem dX12_isDigit_16 : decode cX12_isDigit 16 = .ok (.getfield 150, 3) := by decide +kernel
theorem dX12_isDigit_19 : decode cX12_isDigit 19 = .ok (.aload_n 0, 1) := by decide +kernel
theorem dX12_isDigit_20 : decode cX12_isDigit 20 = .ok (.getfield 144, 3) := by decide +kernel
theorem dX12_isDigit_23 : decode cX12_isDigit 23 = .ok (.iadd, 1) := by decide +kernel
theorem dX12_isDigit_24 : decode cX12_isDigit 24 = .ok (.baload, 1) := by decide +kernel
theorem dX12_isDigit_25 : decode cX12_isDigit 25 = .ok (.bipush 48, 2) := by decide +kernel
theorem dX12_isDigit_27 : decode cX12_isDigit 27 = .ok (.if_icmp .lt 26, 3) := by decide +kernel
theorem dX12_isDigit_30 : decode cX12_isDigit 30 = .ok (.aload_n 0, 1) := by decide +kernel
theorem dX12_isDigit_31 : decode cX12_isDigit 31 = .ok (.getfield 23, 3) := by decide +kernel
theorem dX12_isDigit_34 : decode cX12_isDigit 34 = .ok (.aload_n 0, 1) := by decide +kernel
theorem dX12_isDigit_35 : decode cX12_isDigit 35 = .ok (.getfield 150, 3) := by decide +kernel
theorem dX12_isDigit_38 : decode cX12_isDigit 38 = .ok (.aload_n 0, 1) := by decide +kernel
theorem dX12_isDigit_39 : decode cX12_isDigit 39 = .ok (.getfield 144, 3) := by decide +kernel
theorem dX12_isDigit_42 : decode cX12_isDigit 42 = .ok (.iadd, 1) := by decide +kernel
theorem dX12_isDigit_43 : decode cX12_isDigit 43 = .ok (.baload, 1) := by decide +kernel
theorem dX12_isDigit_44 : decode cX12_isDigit 44 = .ok (.bipush 57, 2) := by decide +kernel
theorem dX12_isDigit_46 : decode cX12_isDigit 46 = .ok (.if_icmp .gt 7, 3) := by decide +kernel
theorem dX12_isDigit_49 : decode cX12_isDigit 49 = .ok (.iconst 1, 1) := by decide +kernel
theorem dX12_isDigit_50 : decode cX12_isDigit 50 = .ok (.goto 4, 3) := by decide +kernel
theorem dX12_isDigit_53 : decode cX12_isDigit 53 = .ok (.iconst 0, 1) := by decide +kernel
theorem dX12_isDigit_54 : decode cX12_isDigit 54 = .ok (.ireturn, 1) := by decide +kernel
def f_X12_isDigit_54 (s0 : Int32) (h : AH) : Option (Int32 × AH) :=
  og (bz s0) <|
  some (s0, h)
def f_X12_isDigit_53  (h : AH) : Option (Int32 × AH) :=
  f_X12_isDigit_54 0 h
def f_X12_isDigit (k0 : Nat) (h : AH) : Option (Int32 × AH) :=
  if (h.1 k0 9) ≤ (h.1 k0 10) then (
    f_X12_isDigit_53 h
  ) else (
    og (decide ((kd (h.2.2 k0)).1 = 3)) <|
    og (ix ((h.1 k0 8) + (h.1 k0 10)) (an (h.2.2 k0))) <|
    if (h.1 (h.2.2 k0) ((h.1 k0 8) + (h.1 k0 10)).toNatClampNeg) < 48 then (
      f_X12_isDigit_53 h
    ) else (
      og (decide ((kd (h.2.2 k0)).1 = 3)) <|
      og (ix ((h.1 k0 8) + (h.1 k0 10)) (an (h.2.2 k0))) <|
      if 57 < (h.1 (h.2.2 k0) ((h.1 k0 8) + (h.1 k0 10)).toNatClampNeg) then (
        f_X12_isDigit_53 h
      ) else (
        f_X12_isDigit_54 1 h
      )
    )
  )
set_option maxHeartbeats 4000000 in
set_option maxRecDepth 100000 in
theorem v_X12_isDigit_54 {E : EV} {d : Nat} (hd : 0 ≤ d) {r0 : Int32} {h0 : AH} {s0 : Int32} {h : AH} (hf : f_X12_isDigit_54 s0 h = some (r0, h0)) : V E (d + 1) K_X12_isDigit (ZI E r0 h0) h [] [.int s0] 54 := by
  unfold f_X12_isDigit_54 at hf
  obtain ⟨b_1, hf⟩ := og_s hf
  exact V_zret rfl b_1 (so_s hf) dX12_isDigit_54
set_option maxHeartbeats 4000000 in
set_option maxRecDepth 100000 in
theorem v_X12_isDigit_53 {E : EV} {d : Nat} (hd : 0 ≤ d) {r0 : Int32} {h0 : AH}  {h : AH} (hf : f_X12_isDigit_53 h = some (r0, h0)) : V E (d + 1) K_X12_isDigit (ZI E r0 h0) h [] [] 53 := by
  unfold f_X12_isDigit_53 at hf
  refine V_iconst (v := 0) dX12_isDigit_53 (by decide) ?_
  exact v_X12_isDigit_54 hd hf
set_option maxHeartbeats 4000000 in
set_option maxRecDepth 100000 in
theorem c_X12_isDigit {E : EV} {d : Nat} (hd : 0 + 1 ≤ d) {k0 : Nat} {h : AH} {r0 : Int32} {h0 : AH} (hf : f_X12_isDigit k0 h = some (r0, h0)) (t_k0 : kd k0 = (0, 12)) : Con E d K_X12_isDigit (ZI E r0 h0) [.ref k0] h := by
  obtain ⟨d, rfl⟩ : ∃ d', d = d' + 1 := ⟨d - 1, by omega⟩
  have hd := Nat.le_of_succ_le_succ hd
  refine Con.ofV rfl (Nat.le_of_ble_eq_true rfl) ?_
  unfold f_X12_isDigit at hf
  show V E (d + 1) K_X12_isDigit (ZI E r0 h0) h [(0, .ref k0)] [] 0
  refine V_aload_n 0 dX12_isDigit_0 rfl rfl ?_
  refine V_getI F_X12_144 rfl t_k0 rfl dX12_isDigit_1 ?_
  refine V_aload_n 0 dX12_isDigit_4 rfl rfl ?_
  refine V_getI F_X12_147 rfl t_k0 rfl dX12_isDigit_5 ?_
  refine V_ic_ge (tgt := 53) dX12_isDigit_8 (by decide) (fun c_1 => ?_) (fun c_1 => ?_)
  · have hf := it_s c_1 hf
    refine V_sub [] rfl ?_
    exact v_X12_isDigit_53 hd hf
  · have hf := if_s c_1 hf
    refine V_aload_n 0 dX12_isDigit_11 rfl rfl ?_
    obtain ⟨b_2, hf⟩ := og_s hf
    refine V_getM F_X12_23 rfl t_k0 rfl dX12_isDigit_12 ?_
    refine V_aload_n 0 dX12_isDigit_15 rfl rfl ?_
    refine V_getI F_X12_150 rfl t_k0 rfl dX12_isDigit_16 ?_
    refine V_aload_n 0 dX12_isDigit_19 rfl rfl ?_
    refine V_getI F_X12_144 rfl t_k0 rfl dX12_isDigit_20 ?_
    refine V_iadd dX12_isDigit_23 ?_
    obtain ⟨b_3, hf⟩ := og_s hf
    refine V_bald (of_decide_eq_true b_2) b_3 dX12_isDigit_24 ?_
    refine V_bipush (v := 48) dX12_isDigit_25 (by decide) ?_
    refine V_ic_lt (tgt := 53) dX12_isDigit_27 (by decide) (fun c_4 => ?_) (fun c_4 => ?_)
    · have hf := it_s c_4 hf
      refine V_sub [] rfl ?_
      exact v_X12_isDigit_53 hd hf
    · have hf := if_s c_4 hf
      refine V_aload_n 0 dX12_isDigit_30 rfl rfl ?_
      obtain ⟨b_5, hf⟩ := og_s hf
      refine V_getM F_X12_23 rfl t_k0 rfl dX12_isDigit_31 ?_
      refine V_aload_n 0 dX12_isDigit_34 rfl rfl ?_
      refine V_getI F_X12_150 rfl t_k0 rfl dX12_isDigit_35 ?_
      refine V_aload_n 0 dX12_isDigit_38 rfl rfl ?_
      refine V_getI F_X12_144 rfl t_k0 rfl dX12_isDigit_39 ?_
      refine V_iadd dX12_isDigit_42 ?_
      obtain ⟨b_6, hf⟩ := og_s hf
      refine V_bald (of_decide_eq_true b_5) b_6 dX12_isDigit_43 ?_
      refine V_bipush (v := 57) dX12_isDigit_44 (by decide) ?_
      refine V_ic_gt (tgt := 53) dX12_isDigit_46 (by decide) (fun c_7 => ?_) (fun c_7 => ?_)
      · have hf := it_s c_7 hf
        refine V_sub [] rfl ?_
        exact v_X12_isDigit_53 hd hf
      · have hf := if_s c_7 hf
        refine V_iconst (v := 1) dX12_isDigit_49 (by decide) ?_
        refine V_goto (tgt := 54) dX12_isDigit_50 (by decide) ?_
        refine V_sub [] rfl ?_
        exact v_X12_isDigit_54 hd hf
theorem dX12_atom_0 : decode cX12_atom 0 = .ok (.aload_n 0, 1) := by decide +kernel
theorem dX12_atom_1 : decode cX12_atom 1 = .ok (.invokevirtual 163, 3) := by decide +kernel
theorem dX12_atom_4 : decode cX12_atom 4 = .ok (.istore_n 1, 1) := by decide +kernel
theorem dX12_atom_5 : decode cX12_atom 5 = .ok (.ldc 32, 2) := by decide +kernel
theorem dX12_atom_7 : decode cX12_atom 7 = .ok (.iload_n 1, 1) := by decide +kernel
theorem dX12_atom_8 : decode cX12_atom 8 = .ok (.invokestatic 179, 3) := by decide +kernel
theorem dX12_atom_11 : decode cX12_atom 11 = .ok (.ifCond .eq 20, 3) := by decide +kernel
theorem dX12_atom_14 : decode cX12_atom 14 = .ok (.aload_n 0, 1) := by decide +kernel
theorem dX12_atom_15 : decode cX12_atom 15 = .ok (.dup, 1) := by decide +kernel
theorem dX12_atom_16 : decode cX12_atom 16 = .ok (.getfield 144, 3) := by decide +kernel
theorem dX12_atom_19 : decode cX12_atom 19 = .ok (.iconst 1, 1) := by decide +kernel
theorem dX12_atom_20 : decode cX12_atom 20 = .ok (.iadd, 1) := by decide +kernel
theorem dX12_atom_21 : decode cX12_atom 21 = .ok (.putfield 144, 3) := by decide +kernel
theorem dX12_atom_24 : decode cX12_atom 24 = .ok (.aload_n 0, 1) := by decide +kernel
theorem dX12_atom_25 : decode cX12_atom 25 = .ok (.getfield 20, 3) := by decide +kernel
theorem dX12_atom_28 : decode cX12_atom 28 = .ok (.iload_n 1, 1) := by decide +kernel
theorem dX12_atom_29 : decode cX12_atom 29 = .ok (.iaload, 1) := by decide +kernel
theorem dX12_atom_30 : decode cX12_atom 30 = .ok (.ireturn, 1) := by decide +kernel
theorem dX12_atom_31 : decode cX12_atom 31 = .ok (.iload_n 1, 1) := by decide +kernel
theorem dX12_atom_32 : decode cX12_atom 32 = .ok (.bipush 91, 2) := by decide +kernel
theorem dX12_atom_34 : decode cX12_atom 34 = .ok (.if_icmp .ne 40, 3) := by decide +kernel
theorem dX12_atom_37 : decode cX12_atom 37 = .ok (.aload_n 0, 1) := by decide +kernel
theorem dX12_atom_38 : decode cX12_atom 38 = .ok (.invokevirtual 183, 3) := by decide +kernel
theorem dX12_atom_41 : decode cX12_atom 41 = .ok (.ifCond .ne 5, 3) := by decide +kernel
theorem dX12_atom_44 : decode cX12_atom 44 = .ok (.iconst 0, 1) := by decide +kernel
theorem dX12_atom_45 : decode cX12_atom 45 = .ok (.ireturn, 1) := by decide +kernel
theorem dX12_atom_46 : decode cX12_atom 46 = .ok (.aload_n 0, 1) := by decide +kernel
theorem dX12_atom_47 : decode cX12_atom 47 = .ok (.invokevirtual 186, 3) := by decide +kernel
theorem dX12_atom_50 : decode cX12_atom 50 = .ok (.istore_n 2, 1) := by decide +kernel
theorem dX12_atom_51 : decode cX12_atom 51 = .ok (.aload_n 0, 1) := by decide +kernel
theorem dX12_atom_52 : decode cX12_atom 52 = .ok (.bipush 93, 2) := by decide +kernel
theorem dX12_atom_54 : decode cX12_atom 54 = .ok (.invokevirtual 189, 3) := by decide +kernel
theorem dX12_atom_57 : decode cX12_atom 57 = .ok (.ifCond .ne 5, 3) := by decide +kernel
theorem dX12_atom_60 : decode cX12_atom 60 = .ok (.iconst 0, 1) := by decide +kernel
theorem dX12_atom_61 : decode cX12_atom 61 = .ok (.ireturn, 1) := by decide +kernel
theorem dX12_atom_62 : decode cX12_atom 62 = .ok (.aload_n 0, 1) := by decide +kernel
theorem dX12_atom_63 : decode cX12_atom 63 = .ok (.dup, 1) := by decide +kernel
theorem dX12_atom_64 : decode cX12_atom 64 = .ok (.getfield 156, 3) := by decide +kernel
theorem dX12_atom_67 : decode cX12_atom 67 = .ok (.iconst 1, 1) := by decide +kernel
theorem dX12_atom_68 : decode cX12_atom 68 = .ok (.isub, 1) := by decide +kernel
theorem dX12_atom_69 : decode cX12_atom 69 = .ok (.putfield 156, 3) := by decide +kernel
theorem dX12_atom_72 : decode cX12_atom 72 = .ok (.iload_n 2, 1) := by decide +kernel
theorem dX12_atom_73 : decode cX12_atom 73 = .ok (.ireturn, 1) := by decide +kernel
theorem dX12_atom_74 : decode cX12_atom 74 = .ok (.aload_n 0, 1) := by decide +kernel
theorem dX12_atom_75 : decode cX12_atom 75 = .ok (.invokevirtual 193, 3) := by decide +kernel
theorem dX12_atom_78 : decode cX12_atom 78 = .ok (.ifCond .ne 8, 3) := by decide +kernel
theorem dX12_atom_81 : decode cX12_atom 81 = .ok (.aload_n 0, 1) := by decide +kernel
theorem dX12_atom_82 : decode cX12_atom 82 = .ok (.invokevirtual 159, 3) := by decide +kernel
theorem dX12_atom_85 : decode cX12_atom 85 = .ok (.pop, 1) := by decide +kernel
theorem dX12_atom_86 : decode cX12_atom 86 = .ok (.iconst 0, 1) := by decide +kernel
theorem dX12_atom_87 : decode cX12_atom 87 = .ok (.istore_n 2, 1) := by decide +kernel
theorem dX12_atom_88 : decode cX12_atom 88 = .ok (.iconst 0, 1) := by decide +kernel
theorem dX12_atom_89 : decode cX12_atom 89 = .ok (.istore_n 3, 1) := by decide +kernel
theorem dX12_atom_90 : decode cX12_atom 90 = .ok (.aload_n 0, 1) := by decide +kernel
theorem dX12_atom_91 : decode cX12_atom 91 = .ok (.invokevirtual 193, 3) := by decide +kernel
theorem dX12_atom_94 : decode cX12_atom 94 = .ok (.ifCond .eq 62, 3) := by decide +kernel
theorem dX12_atom_97 : decode cX12_atom 97 = .ok (.aload_n 0, 1) := by decide +kernel
theorem dX12_atom_98 : decode cX12_atom 98 = .ok (.getfield 153, 3) := by decide +kernel
theorem dX12_atom_101 : decode cX12_atom 101 = .ok (.iconst (-1), 1) := by decide +kernel
theorem dX12_atom_102 : decode cX12_atom 102 = .ok (.if_icmp .ne 54, 3) := by decide +kernel
theorem dX12_atom_105 : decode cX12_atom 105 = .ok (.iload_n 3, 1) := by decide +kernel
theorem dX12_atom_106 : decode cX12_atom 106 = .ok (.iconst 4, 1) := by decide +kernel
theorem dX12_atom_107 : decode cX12_atom 107 = .ok (.if_icmp .ne 10, 3) := by decide +kernel
theorem dX12_atom_110 : decode cX12_atom 110 = .ok (.aload_n 0, 1) := by decide +kernel
theorem dX12_atom_111 : decode cX12_atom 111 = .ok (.invokevirtual 159, 3) := by decide +kernel
theorem dX12_atom_114 : decode cX12_atom 114 = .ok (.pop, 1) := by decide +kernel
theorem dX12_atom_115 : decode cX12_atom 115 = .ok (.iconst 0, 1) := by decide +kernel
theorem dX12_atom_116 : decode cX12_atom 116 = .ok (.ireturn, 1) := by decide +kernel
theorem dX12_atom_117 : decode cX12_atom 117 = .ok (.bipush 10, 2) := by decide +kernel
theorem dX12_atom_119 : decode cX12_atom 119 = .ok (.iload_n 2, 1) := by decide +kernel
theorem dX12_atom_120 : decode cX12_atom 120 = .ok (.imul, 1) := by decide +kernel
theorem dX12_atom_121 : decode cX12_atom 121 = .ok (.aload_n 0, 1) := by decide +kernel
theorem dX12_atom_122 : decode cX12_atom 122 = .ok (.getfield 23, 3) := by decide +kernel
theorem dX12_atom_125 : decode cX12_atom 125 = .ok (.aload_n 0, 1) := by decide +kernel
theorem dX12_atom_126 : decode cX12_atom 126 = .ok (.getfield 150, 3) := by decide +kernel
theorem dX12_atom_129 : decode cX12_atom 129 = .ok (.aload_n 0, 1) := by decide +kernel
theorem dX12_atom_130 : decode cX12_atom 130 = .ok (.getfield 144, 3) := by decide +kernel
theorem dX12_atom_133 : decode cX12_atom 133 = .ok (.iadd, 1) := by decide +kernel
theorem dX12_atom_134 : decode cX12_atom 134 = .ok (.baload, 1) := by decide +kernel
theorem dX12_atom_135 : decode cX12_atom 135 = .ok (.iadd, 1) := by decide +kernel
theorem dX12_atom_136 : decode cX12_atom 136 = .ok (.bipush 48, 2) := by decide +kernel
theorem dX12_atom_138 : decode cX12_atom 138 = .ok (.isub, 1) := by decide +kernel
theorem dX12_atom_139 : decode cX12_atom 139 = .ok (.istore_n 2, 1) := by decide +kernel
theorem dX12_atom_140 : decode cX12_atom 140 = .ok (.aload_n 0, 1) := by decide +kernel
theorem dX12_atom_141 : decode cX12_atom 141 = .ok (.dup, 1) := by decide +kernel
theorem dX12_atom_142 : decode cX12_atom 142 = .ok (.getfield 144, 3) := by decide +kernel
theorem dX12_atom_145 : decode cX12_atom 145 = .ok (.iconst 1, 1) := by decide +kernel
theorem dX12_atom_146 : decode cX12_atom 146 = .ok (.iadd, 1) := by decide +kernel
theorem dX12_atom_147 : decode cX12_atom 147 = .ok (.putfield 144, 3) := by decide +kernel
theorem dX12_atom_150 : decode cX12_atom 150 = .ok (.iinc 3 1, 3) := by decide +kernel
theorem dX12_atom_153 : decode cX12_atom 153 = .ok (.goto (-63), 3) := by decide +kernel
theorem dX12_atom_156 : decode cX12_atom 156 = .ok (.iload_n 2, 1) := by decide +kernel
theorem dX12_atom_157 : decode cX12_atom 157 = .ok (.ireturn, 1) := by decide +kernel
theorem ML_X12_193 : MLk RX12 193 yX12_isDigit := Or.inl ml_X12_193
theorem MV_X12_isDigit : MVk K_X12_isDigit 0 12 := ⟨⟨cd_X12_isDigit, in_X12, ⟨by decide, by decide, by decide +kernel⟩, by decide⟩, im_X12_isDigit, se_X12_isDigit, _, _, rfl⟩
theorem ML_X12_179 : MLk RX12 179 yX12_isAmong := Or.inl ml_X12_179
theorem MS_X12_isAmong : MSk K_X12_isAmong 2 := ⟨⟨cd_X12_isAmong, in_X12, ⟨by decide, by decide, by decide +kernel⟩, by decide⟩, st_X12_isAmong⟩
theorem ML_X12_183 : MLk RX12 183 yX12_goesIn := Or.inl ml_X12_183
theorem MV_X12_goesIn : MVk K_X12_goesIn 0 12 := ⟨⟨cd_X12_goesIn, in_X12, ⟨by decide, by decide, by decide +kernel⟩, by decide⟩, im_X12_goesIn, se_X12_goesIn, _, _, rfl⟩
theorem ML_X12_186 : MLk RX12 186 yX12_sum := Or.inl ml_X12_186
theorem MV_X12_sum : MVk K_X12_sum 0 12 := ⟨⟨cd_X12_sum, in_X12, ⟨by decide, by decide, by decide +kernel⟩, by decide⟩, im_X12_sum, se_X12_sum, _, _, rfl⟩
theorem ML_X12_189 : MLk RX12 189 yX12_takes := Or.inl ml_X12_189
theorem MV_X12_takes : MVk K_X12_takes 1 12 := ⟨⟨cd_X12_takes, in_X12, ⟨by decide, by decide, by decide +kernel⟩, by decide⟩, im_X12_takes, se_X12_takes, _, _, rfl⟩
theorem F_X12_20 : FLk RX12 20 12 4 := ⟨RX12, TX12, 58, rfl, rfl, iw_X12, by decide, Or.inl fl_X12_20⟩
def f_X12_atom_156 (cb : Nat → AH → Option (Int32 × AH)) (x2 : Int32) (h : AH) : Option (Int32 × AH) :=
  some (x2, h)
def f_X12_atom_90 (cb : Nat → AH → Option (Int32 × AH)) : Nat → Nat → Int32 → Int32 → AH → Option (Int32 × AH)
  | 0, _, _, _, _ => none
  | n + 1, k0, x2, x3, h =>
    ob (f_X12_isDigit k0 h) fun r_3 h_2 =>
    if r_3 = 0 then (
      f_X12_atom_156 cb x2 h_2
    ) else (
      if (h_2.1 k0 11) = (-1) then (
        if x3 = 4 then (
          ob (f_X12_fails k0 h_2) fun r_17 h_16 =>
          some (0, h_16)
        ) else (
          og (decide ((kd (h_2.2.2 k0)).1 = 3)) <|
          og (ix ((h_2.1 k0 8) + (h_2.1 k0 10)) (an (h_2.2.2 k0))) <|
          nm ((((10 * x2) + (h_2.1 (h_2.2.2 k0) ((h_2.1 k0 8) + (h_2.1 k0 10)).toNatClampNeg)) - 48)) fun x2_9 =>
          nm (sI h_2 k0 10 ((h_2.1 k0 10) + 1)) fun h_11 =>
          nm (x3 + 1) fun x3_13 =>
          f_X12_atom_90 cb n k0 x2_9 x3_13 h_11
        )
      ) else (
        f_X12_atom_156 cb x2 h_2
      )
    )
def f_X12_atom_86 (cb : Nat → AH → Option (Int32 × AH)) (k0 : Nat) (h : AH) : Option (Int32 × AH) :=
  f_X12_atom_90 cb FU k0 0 0 h
def f_X12_atom (cb : Nat → AH → Option (Int32 × AH)) (k0 : Nat) (h : AH) : Option (Int32 × AH) :=
  ob (f_X12_look k0 h) fun r_3 h_2 =>
  ob (f_X12_isAmong 1001 r_3 h_2) fun r_6 h_5 =>
  if r_6 = 0 then (
    if r_3 = 91 then (
      ob (f_X12_goesIn k0 h_5) fun r_18 h_17 =>
      if r_18 = 0 then (
        some (0, h_17)
      ) else (
        ob (cb k0 h_17) fun r_22 h_21 =>
        ob (f_X12_takes k0 93 h_21) fun r_25 h_24 =>
        if r_25 = 0 then (
          some (0, h_24)
        ) else (
          nm (sI h_24 k0 12 ((h_24.1 k0 12) - 1)) fun h_27 =>
          some (r_22, h_27)
        )
      )
    ) else (
      ob (f_X12_isDigit k0 h_5) fun r_11 h_10 =>
      if r_11 = 0 then (
        ob (f_X12_fails k0 h_10) fun r_15 h_14 =>
        f_X12_atom_86 cb k0 h_14
      ) else (
        f_X12_atom_86 cb k0 h_10
      )
    )
  ) else (
    nm (sI h_5 k0 10 ((h_5.1 k0 10) + 1)) fun h_29 =>
    og (ix r_3 (an (rf k0 4))) <|
    some ((h_29.1 (rf k0 4) r_3.toNatClampNeg), h_29)
  )
set_option maxHeartbeats 4000000 in
set_option maxRecDepth 100000 in
theorem v_X12_atom_156 {E : EV} {d : Nat} {cb : Nat → AH → Option (Int32 × AH)} {dc : Nat} (hcb : ∀ {d : Nat}, dc ≤ d → ∀ {k0 : Nat} {h : AH} {r0 : Int32} {h0 : AH}, cb k0 h = some (r0, h0) → kd k0 = (0, 12) → Con E d K_X12_sum (ZI E r0 h0) [.ref k0] h) (hd : 6 + dc ≤ d) {r0 : Int32} {h0 : AH} {x2 : Int32} {h : AH} (hf : f_X12_atom_156 cb x2 h = some (r0, h0)) : V E (d + 1) K_X12_atom (ZI E r0 h0) h [(2, .int x2)] [] 156 := by
  unfold f_X12_atom_156 at hf
  refine V_iload_n 0 dX12_atom_156 rfl rfl ?_
  exact V_iret rfl (so_s hf) dX12_atom_157
set_option maxHeartbeats 4000000 in
set_option maxRecDepth 100000 in
theorem v_X12_atom_90 {E : EV} {d : Nat} {cb : Nat → AH → Option (Int32 × AH)} {dc : Nat} (hcb : ∀ {d : Nat}, dc ≤ d → ∀ {k0 : Nat} {h : AH} {r0 : Int32} {h0 : AH}, cb k0 h = some (r0, h0) → kd k0 = (0, 12) → Con E d K_X12_sum (ZI E r0 h0) [.ref k0] h) (hd : 6 + dc ≤ d) {r0 : Int32} {h0 : AH} : ∀ (n : Nat) (k0 : Nat) (x2 : Int32) (x3 : Int32) (h : AH), f_X12_atom_90 cb n k0 x2 x3 h = some (r0, h0) → kd k0 = (0, 12) → V E (d + 1) K_X12_atom (ZI E r0 h0) h [(0, .ref k0), (2, .int x2), (3, .int x3)] [] 90 := by
  intro n
  induction n with
  | zero =>
    intro k0 x2 x3 h hf
    rw [f_X12_atom_90] at hf
    cases hf
  | succ n ih =>
    intro k0 x2 x3 h hf t_k0
    rw [f_X12_atom_90] at hf
    refine V_aload_n 0 dX12_atom_90 rfl rfl ?_
    obtain ⟨r_3, h_2, e_1, hf⟩ := ob_s hf
    refine V_cvi (As := []) (rest := []) (c_X12_isDigit (d := d) (by omega) e_1 t_k0) ML_X12_193 MV_X12_isDigit rfl t_k0 rfl rfl (Nat.le_of_ble_eq_true rfl) dX12_atom_91 ?_
    refine V_if_eq (tgt := 156) dX12_atom_94 (by decide) (fun c_4 => ?_) (fun c_4 => ?_)
    · have hf := it_s c_4 hf
      refine V_sub [1] rfl ?_
      exact v_X12_atom_156 hcb hd hf
    · have hf := if_s c_4 hf
      refine V_aload_n 0 dX12_atom_97 rfl rfl ?_
      refine V_getI F_X12_153 rfl t_k0 rfl dX12_atom_98 ?_
      refine V_iconst (v := (-1)) dX12_atom_101 (by decide) ?_
      refine V_ic_ne (tgt := 156) dX12_atom_102 (by decide) (fun c_5 => ?_) (fun c_5 => ?_)
      · have hf := if_s c_5 hf
        refine V_sub [1] rfl ?_
        exact v_X12_atom_156 hcb hd hf
      · have hf := it_s c_5 hf
        refine V_iload_n 2 dX12_atom_105 rfl rfl ?_
        refine V_iconst (v := 4) dX12_atom_106 (by decide) ?_
        refine V_ic_ne (tgt := 117) dX12_atom_107 (by decide) (fun c_6 => ?_) (fun c_6 => ?_)
        · have hf := if_s c_6 hf
          refine V_bipush (v := 10) dX12_atom_117 (by decide) ?_
          refine V_iload_n 1 dX12_atom_119 rfl rfl ?_
          refine V_imul dX12_atom_120 ?_
          refine V_aload_n 0 dX12_atom_121 rfl rfl ?_
          obtain ⟨b_7, hf⟩ := og_s hf
          refine V_getM F_X12_23 rfl t_k0 rfl dX12_atom_122 ?_
          refine V_aload_n 0 dX12_atom_125 rfl rfl ?_
          refine V_getI F_X12_150 rfl t_k0 rfl dX12_atom_126 ?_
          refine V_aload_n 0 dX12_atom_129 rfl rfl ?_
          refine V_getI F_X12_144 rfl t_k0 rfl dX12_atom_130 ?_
          refine V_iadd dX12_atom_133 ?_
          obtain ⟨b_8, hf⟩ := og_s hf
          refine V_bald (of_decide_eq_true b_7) b_8 dX12_atom_134 ?_
          refine V_iadd dX12_atom_135 ?_
          refine V_bipush (v := 48) dX12_atom_136 (by decide) ?_
          refine V_isub dX12_atom_138 ?_
          obtain ⟨x2_9, e_10, hf⟩ := nm_s hf
          refine V_istore_n (L' := [(2, .int x2_9), (0, .ref k0), (3, .int x3)]) dX12_atom_139 rfl (Nat.le_of_ble_eq_true rfl) e_10 rfl ?_
          refine V_aload_n 1 dX12_atom_140 rfl rfl ?_
          refine V_dup dX12_atom_141 rfl ?_
          refine V_getI F_X12_144 rfl t_k0 rfl dX12_atom_142 ?_
          refine V_iconst (v := 1) dX12_atom_145 (by decide) ?_
          refine V_iadd dX12_atom_146 ?_
          obtain ⟨h_11, e_12, hf⟩ := nm_s hf
          refine V_putI P_X12_144 rfl t_k0 rfl e_12 dX12_atom_147 ?_
          obtain ⟨x3_13, e_14, hf⟩ := nm_s hf
          refine V_iinc (a := 1) (L' := [(3, .int x3_13), (2, .int x2_9), (0, .ref k0)]) 2 dX12_atom_150 rfl (by decide) (Nat.le_of_ble_eq_true rfl) e_14 rfl ?_
          refine V_goto (tgt := 90) dX12_atom_153 (by decide) ?_
          refine V_sub [2, 1, 0] rfl ?_
          exact ih _ _ _ _ hf t_k0
        · have hf := it_s c_6 hf
          refine V_aload_n 0 dX12_atom_110 rfl rfl ?_
          obtain ⟨r_17, h_16, e_15, hf⟩ := ob_s hf
          refine V_cvi (As := []) (rest := []) (c_X12_fails (d := d) (by omega) e_15 t_k0) ML_X12_159 MV_X12_fails rfl t_k0 rfl rfl (Nat.le_of_ble_eq_true rfl) dX12_atom_111 ?_
          refine V_pop dX12_atom_114 rfl ?_
          refine V_iconst (v := 0) dX12_atom_115 (by decide) ?_
          exact V_iret rfl (so_s hf) dX12_atom_116
set_option maxHeartbeats 4000000 in
set_option maxRecDepth 100000 in
theorem v_X12_atom_86 {E : EV} {d : Nat} {cb : Nat → AH → Option (Int32 × AH)} {dc : Nat} (hcb : ∀ {d : Nat}, dc ≤ d → ∀ {k0 : Nat} {h : AH} {r0 : Int32} {h0 : AH}, cb k0 h = some (r0, h0) → kd k0 = (0, 12) → Con E d K_X12_sum (ZI E r0 h0) [.ref k0] h) (hd : 6 + dc ≤ d) {r0 : Int32} {h0 : AH} {k0 : Nat} {h : AH} (hf : f_X12_atom_86 cb k0 h = some (r0, h0)) (t_k0 : kd k0 = (0, 12)) : V E (d + 1) K_X12_atom (ZI E r0 h0) h [(0, .ref k0)] [] 86 := by
  unfold f_X12_atom_86 at hf
  refine V_iconst (v := 0) dX12_atom_86 (by decide) ?_
  refine V_istore_n (L' := [(2, .int 0), (0, .ref k0)]) dX12_atom_87 rfl (Nat.le_of_ble_eq_true rfl) rfl rfl ?_
  refine V_iconst (v := 0) dX12_atom_88 (by decide) ?_
  refine V_istore_n (L' := [(3, .int 0), (2, .int 0), (0, .ref k0)]) dX12_atom_89 rfl (Nat.le_of_ble_eq_true rfl) rfl rfl ?_
  refine V_sub [2, 1, 0] rfl ?_
  exact v_X12_atom_90 hcb hd FU _ _ _ _ hf t_k0
set_option maxHeartbeats 4000000 in
set_option maxRecDepth 100000 in
theorem c_X12_atom {E : EV} {d : Nat} {cb : Nat → AH → Option (Int32 × AH)} {dc : Nat} (hcb : ∀ {d : Nat}, dc ≤ d → ∀ {k0 : Nat} {h : AH} {r0 : Int32} {h0 : AH}, cb k0 h = some (r0, h0) → kd k0 = (0, 12) → Con E d K_X12_sum (ZI E r0 h0) [.ref k0] h) (hd : 6 + dc + 1 ≤ d) {k0 : Nat} {h : AH} {r0 : Int32} {h0 : AH} (hf : f_X12_atom cb k0 h = some (r0, h0)) (t_k0 : kd k0 = (0, 12)) : Con E d K_X12_atom (ZI E r0 h0) [.ref k0] h := by
  obtain ⟨d, rfl⟩ : ∃ d', d = d' + 1 := ⟨d - 1, by omega⟩
  have hd := Nat.le_of_succ_le_succ hd
  refine Con.ofV rfl (Nat.le_of_ble_eq_true rfl) ?_
  unfold f_X12_atom at hf
  show V E (d + 1) K_X12_atom (ZI E r0 h0) h [(0, .ref k0)] [] 0
  refine V_aload_n 0 dX12_atom_0 rfl rfl ?_
  obtain ⟨r_3, h_2, e_1, hf⟩ := ob_s hf
  refine V_cvi (As := []) (rest := []) (c_X12_look (d := d) (by omega) e_1 t_k0) ML_X12_163 MV_X12_look rfl t_k0 rfl rfl (Nat.le_of_ble_eq_true rfl) dX12_atom_1 ?_
  refine V_istore_n (L' := [(1, .int r_3), (0, .ref k0)]) dX12_atom_4 rfl (Nat.le_of_ble_eq_true rfl) rfl rfl ?_
  refine V_ldcS (a := 1001) (List.mem_of_getElem? (i := 4) rfl) rfl dX12_atom_5 ?_
  refine V_iload_n 0 dX12_atom_7 rfl rfl ?_
  obtain ⟨r_6, h_5, e_4, hf⟩ := ob_s hf
  refine V_csi (As := [.ref 1001, .int r_3]) (rest := []) (c_X12_isAmong (d := d) (by omega) e_4) ML_X12_179 MS_X12_isAmong rfl rfl rfl (Nat.le_of_ble_eq_true rfl) dX12_atom_8 ?_
  refine V_if_eq (tgt := 31) dX12_atom_11 (by decide) (fun c_7 => ?_) (fun c_7 => ?_)
  · have hf := it_s c_7 hf
    refine V_iload_n 0 dX12_atom_31 rfl rfl ?_
    refine V_bipush (v := 91) dX12_atom_32 (by decide) ?_
    refine V_ic_ne (tgt := 74) dX12_atom_34 (by decide) (fun c_8 => ?_) (fun c_8 => ?_)
    · have hf := if_s c_8 hf
      refine V_aload_n 1 dX12_atom_74 rfl rfl ?_
      obtain ⟨r_11, h_10, e_9, hf⟩ := ob_s hf
      refine V_cvi (As := []) (rest := []) (c_X12_isDigit (d := d) (by omega) e_9 t_k0) ML_X12_193 MV_X12_isDigit rfl t_k0 rfl rfl (Nat.le_of_ble_eq_true rfl) dX12_atom_75 ?_
      refine V_if_ne (tgt := 86) dX12_atom_78 (by decide) (fun c_12 => ?_) (fun c_12 => ?_)
      · have hf := if_s c_12 hf
        refine V_sub [1] rfl ?_
        exact v_X12_atom_86 hcb hd hf t_k0
      · have hf := it_s c_12 hf
        refine V_aload_n 1 dX12_atom_81 rfl rfl ?_
        obtain ⟨r_15, h_14, e_13, hf⟩ := ob_s hf
        refine V_cvi (As := []) (rest := []) (c_X12_fails (d := d) (by omega) e_13 t_k0) ML_X12_159 MV_X12_fails rfl t_k0 rfl rfl (Nat.le_of_ble_eq_true rfl) dX12_atom_82 ?_
        refine V_pop dX12_atom_85 rfl ?_
        refine V_sub [1] rfl ?_
        exact v_X12_atom_86 hcb hd hf t_k0
    · have hf := it_s c_8 hf
      refine V_aload_n 1 dX12_atom_37 rfl rfl ?_
      obtain ⟨r_18, h_17, e_16, hf⟩ := ob_s hf
      refine V_cvi (As := []) (rest := []) (c_X12_goesIn (d := d) (by omega) e_16 t_k0) ML_X12_183 MV_X12_goesIn rfl t_k0 rfl rfl (Nat.le_of_ble_eq_true rfl) dX12_atom_38 ?_
      refine V_if_ne (tgt := 46) dX12_atom_41 (by decide) (fun c_19 => ?_) (fun c_19 => ?_)
      · have hf := if_s c_19 hf
        refine V_aload_n 1 dX12_atom_46 rfl rfl ?_
        obtain ⟨r_22, h_21, e_20, hf⟩ := ob_s hf
        refine V_cvi (As := []) (rest := []) (hcb (d := d) (by omega) e_20 t_k0) ML_X12_186 MV_X12_sum rfl t_k0 rfl rfl (Nat.le_of_ble_eq_true rfl) dX12_atom_47 ?_
        refine V_istore_n (L' := [(2, .int r_22), (1, .int r_3), (0, .ref k0)]) dX12_atom_50 rfl (Nat.le_of_ble_eq_true rfl) rfl rfl ?_
        refine V_aload_n 2 dX12_atom_51 rfl rfl ?_
        refine V_bipush (v := 93) dX12_atom_52 (by decide) ?_
        obtain ⟨r_25, h_24, e_23, hf⟩ := ob_s hf
        refine V_cvi (As := [.int 93]) (rest := []) (c_X12_takes (d := d) (by omega) e_23 t_k0) ML_X12_189 MV_X12_takes rfl t_k0 rfl rfl (Nat.le_of_ble_eq_true rfl) dX12_atom_54 ?_
        refine V_if_ne (tgt := 62) dX12_atom_57 (by decide) (fun c_26 => ?_) (fun c_26 => ?_)
        · have hf := if_s c_26 hf
          refine V_aload_n 2 dX12_atom_62 rfl rfl ?_
          refine V_dup dX12_atom_63 rfl ?_
          refine V_getI F_X12_156 rfl t_k0 rfl dX12_atom_64 ?_
          refine V_iconst (v := 1) dX12_atom_67 (by decide) ?_
          refine V_isub dX12_atom_68 ?_
          obtain ⟨h_27, e_28, hf⟩ := nm_s hf
          refine V_putI P_X12_156 rfl t_k0 rfl e_28 dX12_atom_69 ?_
          refine V_iload_n 0 dX12_atom_72 rfl rfl ?_
          exact V_iret rfl (so_s hf) dX12_atom_73
        · have hf := it_s c_26 hf
          refine V_iconst (v := 0) dX12_atom_60 (by decide) ?_
          exact V_iret rfl (so_s hf) dX12_atom_61
      · have hf := it_s c_19 hf
        refine V_iconst (v := 0) dX12_atom_44 (by decide) ?_
        exact V_iret rfl (so_s hf) dX12_atom_45
  · have hf := if_s c_7 hf
    refine V_aload_n 1 dX12_atom_14 rfl rfl ?_
    refine V_dup dX12_atom_15 rfl ?_
    refine V_getI F_X12_144 rfl t_k0 rfl dX12_atom_16 ?_
    refine V_iconst (v := 1) dX12_atom_19 (by decide) ?_
    refine V_iadd dX12_atom_20 ?_
    obtain ⟨h_29, e_30, hf⟩ := nm_s hf
    refine V_putI P_X12_144 rfl t_k0 rfl e_30 dX12_atom_21 ?_
    refine V_aload_n 1 dX12_atom_24 rfl rfl ?_
    refine V_getR F_X12_20 rfl t_k0 rfl dX12_atom_25 ?_
    refine V_iload_n 0 dX12_atom_28 rfl rfl ?_
    obtain ⟨b_31, hf⟩ := og_s hf
    refine V_iald (rfA t_k0 (Nat.le_of_ble_eq_true rfl) rfl rfl (by decide)) b_31 dX12_atom_29 ?_
    exact V_iret rfl (so_s hf) dX12_atom_30
theorem dX12_term_0 : decode cX12_term 0 = .ok (.aload_n 0, 1) := by decide +kernel
theorem dX12_term_1 : decode cX12_term 1 = .ok (.invokevirtual 196, 3) := by decide +kernel
theorem dX12_term_4 : decode cX12_term 4 = .ok (.istore_n 1, 1) := by decide +kernel
theorem dX12_term_5 : decode cX12_term 5 = .ok (.aload_n 0, 1) := by decide +kernel
theorem dX12_term_6 : decode cX12_term 6 = .ok (.getfield 153, 3) := by decide +kernel
theorem dX12_term_9 : decode cX12_term 9 = .ok (.iconst (-1), 1) := by decide +kernel
theorem dX12_term_10 : decode cX12_term 10 = .ok (.if_icmp .ne 84, 3) := by decide +kernel
theorem dX12_term_13 : decode cX12_term 13 = .ok (.aload_n 0, 1) := by decide +kernel
theorem dX12_term_14 : decode cX12_term 14 = .ok (.invokevirtual 163, 3) := by decide +kernel
theorem dX12_term_17 : decode cX12_term 17 = .ok (.bipush 42, 2) := by decide +kernel
theorem dX12_term_19 : decode cX12_term 19 = .ok (.if_icmp .eq 12, 3) := by decide +kernel
theorem dX12_term_22 : decode cX12_term 22 = .ok (.aload_n 0, 1) := by decide +kernel
theorem dX12_term_23 : decode cX12_term 23 = .ok (.invokevirtual 163, 3) := by decide +kernel
theorem dX12_term_26 : decode cX12_term 26 = .ok (.bipush 47, 2) := by decide +kernel
theorem dX12_term_28 : decode cX12_term 28 = .ok (.if_icmp .ne 66, 3) := by decide +kernel
theorem dX12_term_31 : decode cX12_term 31 = .ok (.aload_n 0, 1) := by decide +kernel
theorem dX12_term_32 : decode cX12_term 32 = .ok (.invokevirtual 163, 3) := by decide +kernel
theorem dX12_term_35 : decode cX12_term 35 = .ok (.bipush 42, 2) := by decide +kernel
theorem dX12_term_37 : decode cX12_term 37 = .ok (.if_icmp .ne 7, 3) := by decide +kernel
theorem dX12_term_40 : decode cX12_term 40 = .ok (.iconst 1, 1) := by decide +kernel
theorem dX12_term_41 : decode cX12_term 41 = .ok (.goto 4, 3) := by decide +kernel
theorem dX12_term_44 : decode cX12_term 44 = .ok (.iconst 0, 1) := by decide +kernel
theorem dX12_term_45 : decode cX12_term 45 = .ok (.istore_n 2, 1) := by decide +kernel
theorem dX12_term_46 : decode cX12_term 46 = .ok (.aload_n 0, 1) := by decide +kernel
theorem dX12_term_47 : decode cX12_term 47 = .ok (.dup, 1) := by decide +kernel
theorem dX12_term_48 : decode cX12_term 48 = .ok (.getfield 144, 3) := by decide +kernel
theorem dX12_term_51 : decode cX12_term 51 = .ok (.iconst 1, 1) := by decide +kernel
theorem dX12_term_52 : decode cX12_term 52 = .ok (.iadd, 1) := by decide +kernel
theorem dX12_term_53 : decode cX12_term 53 = .ok (.putfield 144, 3) := by decide +kernel
theorem dX12_term_56 : decode cX12_term 56 = .ok (.aload_n 0, 1) := by decide +kernel
theorem dX12_term_57 : decode cX12_term 57 = .ok (.invokevirtual 196, 3) := by decide +kernel
theorem dX12_term_60 : decode cX12_term 60 = .ok (.i2l, 1) := by decide +kernel
theorem dX12_term_61 : decode cX12_term 61 = .ok (.lstore_n 3, 1) := by decide +kernel
theorem dX12_term_62 : decode cX12_term 62 = .ok (.iload_n 2, 1) := by decide +kernel
theorem dX12_term_63 : decode cX12_term 63 = .ok (.ifCond .eq 10, 3) := by decide +kernel
theorem dX12_term_66 : decode cX12_term 66 = .ok (.iload_n 1, 1) := by decide +kernel
theorem dX12_term_67 : decode cX12_term 67 = .ok (.i2l, 1) := by decide +kernel
theorem dX12_term_68 : decode cX12_term 68 = .ok (.lload_n 3, 1) := by decide +kernel
theorem dX12_term_69 : decode cX12_term 69 = .ok (.lmul, 1) := by decide +kernel
theorem dX12_term_70 : decode cX12_term 70 = .ok (.goto 17, 3) := by decide +kernel
theorem dX12_term_73 : decode cX12_term 73 = .ok (.lload_n 3, 1) := by decide +kernel
theorem dX12_term_74 : decode cX12_term 74 = .ok (.lconst 0, 1) := by decide +kernel
theorem dX12_term_75 : decode cX12_term 75 = .ok (.lcmp, 1) := by decide +kernel
theorem dX12_term_76 : decode cX12_term 76 = .ok (.ifCond .ne 7, 3) := by decide +kernel
theorem dX12_term_79 : decode cX12_term 79 = .ok (.lconst 0, 1) := by decide +kernel
theorem dX12_term_80 : decode cX12_term 80 = .ok (.goto 7, 3) := by decide +kernel
theorem dX12_term_83 : decode cX12_term 83 = .ok (.iload_n 1, 1) := by decide +kernel
theorem dX12_term_84 : decode cX12_term 84 = .ok (.i2l, 1) := by decide +kernel
theorem dX12_term_85 : decode cX12_term 85 = .ok (.lload_n 3, 1) := by decide +kernel
theorem dX12_term_86 : decode cX12_term 86 = .ok (.ldiv, 1) := by decide +kernel
theorem dX12_term_87 : decode cX12_term 87 = .ok (.invokestatic 199, 3) := by decide +kernel
theorem dX12_term_90 : decode cX12_term 90 = .ok (.istore_n 1, 1) := by decide +kernel
theorem dX12_term_91 : decode cX12_term 91 = .ok (.goto (-86), 3) := by decide +kernel
theorem dX12_term_94 : decode cX12_term 94 = .ok (.iload_n 1, 1) := by decide +kernel
theorem dX12_term_95 : decode cX12_term 95 = .ok (.ireturn, 1) := by decide +kernel
theorem ML_X12_199 : MLk RX12 199 yX12_within := Or.inl ml_X12_199
theorem MS_X12_within : MSk K_X12_within 1 := ⟨⟨cd_X12_within, in_X12, ⟨by decide, by decide, by decide +kernel⟩, by decide⟩, st_X12_within⟩
theorem ML_X12_196 : MLk RX12 196 yX12_atom := Or.inl ml_X12_196
theorem MV_X12_atom : MVk K_X12_atom 0 12 := ⟨⟨cd_X12_atom, in_X12, ⟨by decide, by decide, by decide +kernel⟩, by decide⟩, im_X12_atom, se_X12_atom, _, _, rfl⟩
def f_X12_term_87 (cb : Nat → AH → Option (Int32 × AH)) (q5 : Nat → Int32 → AH → Option (Int32 × AH)) (k0 : Nat) (sl0 : Int64) (h : AH) : Option (Int32 × AH) :=
  ob (f_X12_within sl0 h) fun r_3 h_2 =>
  q5 k0 r_3 h_2
def f_X12_term_45 (cb : Nat → AH → Option (Int32 × AH)) (q5 : Nat → Int32 → AH → Option (Int32 × AH)) (k0 : Nat) (x1 : Int32) (s0 : Int32) (h : AH) : Option (Int32 × AH) :=
  nm (sI h k0 10 ((h.1 k0 10) + 1)) fun h_1 =>
  ob (f_X12_atom cb k0 h_1) fun r_5 h_4 =>
  nm (((r_5).toInt64)) fun l3_6 =>
  if s0 = 0 then (
    if (lg_cmp l3_6 0) = 0 then (
      f_X12_term_87 cb q5 k0 0 h_4
    ) else (
      og (decide (¬ l3_6 = 0)) <|
      f_X12_term_87 cb q5 k0 (((x1).toInt64) / l3_6) h_4
    )
  ) else (
    f_X12_term_87 cb q5 k0 (((x1).toInt64) * l3_6) h_4
  )
def f_X12_term_31 (cb : Nat → AH → Option (Int32 × AH)) (q5 : Nat → Int32 → AH → Option (Int32 × AH)) (k0 : Nat) (x1 : Int32) (h : AH) : Option (Int32 × AH) :=
  ob (f_X12_look k0 h) fun r_3 h_2 =>
  if r_3 = 42 then (
    f_X12_term_45 cb q5 k0 x1 1 h_2
  ) else (
    f_X12_term_45 cb q5 k0 x1 0 h_2
  )
def f_X12_term_94 (cb : Nat → AH → Option (Int32 × AH)) (x1 : Int32) (h : AH) : Option (Int32 × AH) :=
  some (x1, h)
def f_X12_term_5 (cb : Nat → AH → Option (Int32 × AH)) : Nat → Nat → Int32 → AH → Option (Int32 × AH)
  | 0, _, _, _ => none
  | n + 1, k0, x1, h =>
    if (h.1 k0 11) = (-1) then (
      ob (f_X12_look k0 h) fun r_4 h_3 =>
      if r_4 = 42 then (
        f_X12_term_31 cb (f_X12_term_5 cb n) k0 x1 h_3
      ) else (
        ob (f_X12_look k0 h_3) fun r_8 h_7 =>
        if r_8 = 47 then (
          f_X12_term_31 cb (f_X12_term_5 cb n) k0 x1 h_7
        ) else (
          f_X12_term_94 cb x1 h_7
        )
      )
    ) else (
      f_X12_term_94 cb x1 h
    )
def f_X12_term (cb : Nat → AH → Option (Int32 × AH)) (k0 : Nat) (h : AH) : Option (Int32 × AH) :=
  ob (f_X12_atom cb k0 h) fun r_3 h_2 =>
  f_X12_term_5 cb FU k0 r_3 h_2
set_option maxHeartbeats 4000000 in
set_option maxRecDepth 100000 in
theorem v_X12_term_87 {E : EV} {d : Nat} {cb : Nat → AH → Option (Int32 × AH)} {dc : Nat} (hcb : ∀ {d : Nat}, dc ≤ d → ∀ {k0 : Nat} {h : AH} {r0 : Int32} {h0 : AH}, cb k0 h = some (r0, h0) → kd k0 = (0, 12) → Con E d K_X12_sum (ZI E r0 h0) [.ref k0] h) (hd : 7 + dc ≤ d) {r0 : Int32} {h0 : AH} {q5 : Nat → Int32 → AH → Option (Int32 × AH)} (cq5 : ∀ (k0 : Nat) (x1 : Int32) (h : AH), q5 k0 x1 h = some (r0, h0) → kd k0 = (0, 12) → V E (d + 1) K_X12_term (ZI E r0 h0) h [(0, .ref k0), (1, .int x1)] [] 5) {k0 : Nat} {sl0 : Int64} {h : AH} (hf : f_X12_term_87 cb q5 k0 sl0 h = some (r0, h0)) (t_k0 : kd k0 = (0, 12)) : V E (d + 1) K_X12_term (ZI E r0 h0) h [(0, .ref k0)] [.long sl0] 87 := by
  unfold f_X12_term_87 at hf
  obtain ⟨r_3, h_2, e_1, hf⟩ := ob_s hf
  refine V_csi (As := [.long sl0]) (rest := []) (c_X12_within (d := d) (by omega) e_1) ML_X12_199 MS_X12_within rfl rfl rfl (Nat.le_of_ble_eq_true rfl) dX12_term_87 ?_
  refine V_istore_n (L' := [(1, .int r_3), (0, .ref k0)]) dX12_term_90 rfl (Nat.le_of_ble_eq_true rfl) rfl rfl ?_
  refine V_goto (tgt := 5) dX12_term_91 (by decide) ?_
  refine V_sub [1, 0] rfl ?_
  exact cq5 _ _ _ hf t_k0
set_option maxHeartbeats 4000000 in
set_option maxRecDepth 100000 in
theorem v_X12_term_45 {E : EV} {d : Nat} {cb : Nat → AH → Option (Int32 × AH)} {dc : Nat} (hcb : ∀ {d : Nat}, dc ≤ d → ∀ {k0 : Nat} {h : AH} {r0 : Int32} {h0 : AH}, cb k0 h = some (r0, h0) → kd k0 = (0, 12) → Con E d K_X12_sum (ZI E r0 h0) [.ref k0] h) (hd : 7 + dc ≤ d) {r0 : Int32} {h0 : AH} {q5 : Nat → Int32 → AH → Option (Int32 × AH)} (cq5 : ∀ (k0 : Nat) (x1 : Int32) (h : AH), q5 k0 x1 h = some (r0, h0) → kd k0 = (0, 12) → V E (d + 1) K_X12_term (ZI E r0 h0) h [(0, .ref k0), (1, .int x1)] [] 5) {k0 : Nat} {x1 : Int32} {s0 : Int32} {h : AH} (hf : f_X12_term_45 cb q5 k0 x1 s0 h = some (r0, h0)) (t_k0 : kd k0 = (0, 12)) : V E (d + 1) K_X12_term (ZI E r0 h0) h [(0, .ref k0), (1, .int x1)] [.int s0] 45 := by
  unfold f_X12_term_45 at hf
  refine V_istore_n (L' := [(2, .int s0), (0, .ref k0), (1, .int x1)]) dX12_term_45 rfl (Nat.le_of_ble_eq_true rfl) rfl rfl ?_
  refine V_aload_n 1 dX12_term_46 rfl rfl ?_
  refine V_dup dX12_term_47 rfl ?_
  refine V_getI F_X12_144 rfl t_k0 rfl dX12_term_48 ?_
  refine V_iconst (v := 1) dX12_term_51 (by decide) ?_
  refine V_iadd dX12_term_52 ?_
  obtain ⟨h_1, e_2, hf⟩ := nm_s hf
  refine V_putI P_X12_144 rfl t_k0 rfl e_2 dX12_term_53 ?_
  refine V_aload_n 1 dX12_term_56 rfl rfl ?_
  obtain ⟨r_5, h_4, e_3, hf⟩ := ob_s hf
  refine V_cvi (As := []) (rest := []) (c_X12_atom (d := d) hcb (by omega) e_3 t_k0) ML_X12_196 MV_X12_atom rfl t_k0 rfl rfl (Nat.le_of_ble_eq_true rfl) dX12_term_57 ?_
  refine V_i2l dX12_term_60 ?_
  obtain ⟨l3_6, e_7, hf⟩ := nm_s hf
  refine V_lstore_n (L' := [(3, .long l3_6), (2, .int s0), (0, .ref k0), (1, .int x1)]) dX12_term_61 rfl (Nat.le_of_ble_eq_true rfl) e_7 rfl ?_
  refine V_iload_n 1 dX12_term_62 rfl rfl ?_
  refine V_if_eq (tgt := 73) dX12_term_63 (by decide) (fun c_8 => ?_) (fun c_8 => ?_)
  · have hf := it_s c_8 hf
    refine V_lload_n 0 dX12_term_73 rfl rfl ?_
    refine V_lconst (v := 0) dX12_term_74 (by decide) ?_
    refine V_lcmp dX12_term_75 ?_
    refine V_if_ne (tgt := 83) dX12_term_76 (by decide) (fun c_9 => ?_) (fun c_9 => ?_)
    · have hf := if_s c_9 hf
      refine V_iload_n 3 dX12_term_83 rfl rfl ?_
      refine V_i2l dX12_term_84 ?_
      refine V_lload_n 0 dX12_term_85 rfl rfl ?_
      obtain ⟨b_10, hf⟩ := og_s hf
      refine V_ldiv dX12_term_86 (of_decide_eq_true b_10) ?_
      refine V_sub [2] rfl ?_
      exact v_X12_term_87 hcb hd cq5 hf t_k0
    · have hf := it_s c_9 hf
      refine V_lconst (v := 0) dX12_term_79 (by decide) ?_
      refine V_goto (tgt := 87) dX12_term_80 (by decide) ?_
      refine V_sub [2] rfl ?_
      exact v_X12_term_87 hcb hd cq5 hf t_k0
  · have hf := if_s c_8 hf
    refine V_iload_n 3 dX12_term_66 rfl rfl ?_
    refine V_i2l dX12_term_67 ?_
    refine V_lload_n 0 dX12_term_68 rfl rfl ?_
    refine V_lmul dX12_term_69 ?_
    refine V_goto (tgt := 87) dX12_term_70 (by decide) ?_
    refine V_sub [2] rfl ?_
    exact v_X12_term_87 hcb hd cq5 hf t_k0
set_option maxHeartbeats 4000000 in
set_option maxRecDepth 100000 in
theorem v_X12_term_31 {E : EV} {d : Nat} {cb : Nat → AH → Option (Int32 × AH)} {dc : Nat} (hcb : ∀ {d : Nat}, dc ≤ d → ∀ {k0 : Nat} {h : AH} {r0 : Int32} {h0 : AH}, cb k0 h = some (r0, h0) → kd k0 = (0, 12) → Con E d K_X12_sum (ZI E r0 h0) [.ref k0] h) (hd : 7 + dc ≤ d) {r0 : Int32} {h0 : AH} {q5 : Nat → Int32 → AH → Option (Int32 × AH)} (cq5 : ∀ (k0 : Nat) (x1 : Int32) (h : AH), q5 k0 x1 h = some (r0, h0) → kd k0 = (0, 12) → V E (d + 1) K_X12_term (ZI E r0 h0) h [(0, .ref k0), (1, .int x1)] [] 5) {k0 : Nat} {x1 : Int32} {h : AH} (hf : f_X12_term_31 cb q5 k0 x1 h = some (r0, h0)) (t_k0 : kd k0 = (0, 12)) : V E (d + 1) K_X12_term (ZI E r0 h0) h [(0, .ref k0), (1, .int x1)] [] 31 := by
  unfold f_X12_term_31 at hf
  refine V_aload_n 0 dX12_term_31 rfl rfl ?_
  obtain ⟨r_3, h_2, e_1, hf⟩ := ob_s hf
  refine V_cvi (As := []) (rest := []) (c_X12_look (d := d) (by omega) e_1 t_k0) ML_X12_163 MV_X12_look rfl t_k0 rfl rfl (Nat.le_of_ble_eq_true rfl) dX12_term_32 ?_
  refine V_bipush (v := 42) dX12_term_35 (by decide) ?_
  refine V_ic_ne (tgt := 44) dX12_term_37 (by decide) (fun c_4 => ?_) (fun c_4 => ?_)
  · have hf := if_s c_4 hf
    refine V_iconst (v := 0) dX12_term_44 (by decide) ?_
    exact v_X12_term_45 hcb hd cq5 hf t_k0
  · have hf := it_s c_4 hf
    refine V_iconst (v := 1) dX12_term_40 (by decide) ?_
    refine V_goto (tgt := 45) dX12_term_41 (by decide) ?_
    exact v_X12_term_45 hcb hd cq5 hf t_k0
set_option maxHeartbeats 4000000 in
set_option maxRecDepth 100000 in
theorem v_X12_term_94 {E : EV} {d : Nat} {cb : Nat → AH → Option (Int32 × AH)} {dc : Nat} (hcb : ∀ {d : Nat}, dc ≤ d → ∀ {k0 : Nat} {h : AH} {r0 : Int32} {h0 : AH}, cb k0 h = some (r0, h0) → kd k0 = (0, 12) → Con E d K_X12_sum (ZI E r0 h0) [.ref k0] h) (hd : 7 + dc ≤ d) {r0 : Int32} {h0 : AH} {x1 : Int32} {h : AH} (hf : f_X12_term_94 cb x1 h = some (r0, h0)) : V E (d + 1) K_X12_term (ZI E r0 h0) h [(1, .int x1)] [] 94 := by
  unfold f_X12_term_94 at hf
  refine V_iload_n 0 dX12_term_94 rfl rfl ?_
  exact V_iret rfl (so_s hf) dX12_term_95
set_option maxHeartbeats 4000000 in
set_option maxRecDepth 100000 in
theorem v_X12_term_5 {E : EV} {d : Nat} {cb : Nat → AH → Option (Int32 × AH)} {dc : Nat} (hcb : ∀ {d : Nat}, dc ≤ d → ∀ {k0 : Nat} {h : AH} {r0 : Int32} {h0 : AH}, cb k0 h = some (r0, h0) → kd k0 = (0, 12) → Con E d K_X12_sum (ZI E r0 h0) [.ref k0] h) (hd : 7 + dc ≤ d) {r0 : Int32} {h0 : AH} : ∀ (n : Nat) (k0 : Nat) (x1 : Int32) (h : AH), f_X12_term_5 cb n k0 x1 h = some (r0, h0) → kd k0 = (0, 12) → V E (d + 1) K_X12_term (ZI E r0 h0) h [(0, .ref k0), (1, .int x1)] [] 5 := by
  intro n
  induction n with
  | zero =>
    intro k0 x1 h hf
    rw [f_X12_term_5] at hf
    cases hf
  | succ n ih =>
    intro k0 x1 h hf t_k0
    rw [f_X12_term_5] at hf
    refine V_aload_n 0 dX12_term_5 rfl rfl ?_
    refine V_getI F_X12_153 rfl t_k0 rfl dX12_term_6 ?_
    refine V_iconst (v := (-1)) dX12_term_9 (by decide) ?_
    refine V_ic_ne (tgt := 94) dX12_term_10 (by decide) (fun c_1 => ?_) (fun c_1 => ?_)
    · have hf := if_s c_1 hf
      refine V_sub [1] rfl ?_
      exact v_X12_term_94 hcb hd hf
    · have hf := it_s c_1 hf
      refine V_aload_n 0 dX12_term_13 rfl rfl ?_
      obtain ⟨r_4, h_3, e_2, hf⟩ := ob_s hf
      refine V_cvi (As := []) (rest := []) (c_X12_look (d := d) (by omega) e_2 t_k0) ML_X12_163 MV_X12_look rfl t_k0 rfl rfl (Nat.le_of_ble_eq_true rfl) dX12_term_14 ?_
      refine V_bipush (v := 42) dX12_term_17 (by decide) ?_
      refine V_ic_eq (tgt := 31) dX12_term_19 (by decide) (fun c_5 => ?_) (fun c_5 => ?_)
      · have hf := it_s c_5 hf
        exact v_X12_term_31 hcb hd ih hf t_k0
      · have hf := if_s c_5 hf
        refine V_aload_n 0 dX12_term_22 rfl rfl ?_
        obtain ⟨r_8, h_7, e_6, hf⟩ := ob_s hf
        refine V_cvi (As := []) (rest := []) (c_X12_look (d := d) (by omega) e_6 t_k0) ML_X12_163 MV_X12_look rfl t_k0 rfl rfl (Nat.le_of_ble_eq_true rfl) dX12_term_23 ?_
        refine V_bipush (v := 47) dX12_term_26 (by decide) ?_
        refine V_ic_ne (tgt := 94) dX12_term_28 (by decide) (fun c_9 => ?_) (fun c_9 => ?_)
        · have hf := if_s c_9 hf
          refine V_sub [1] rfl ?_
          exact v_X12_term_94 hcb hd hf
        · have hf := it_s c_9 hf
          exact v_X12_term_31 hcb hd ih hf t_k0
set_option maxHeartbeats 4000000 in
set_option maxRecDepth 100000 in
theorem c_X12_term {E : EV} {d : Nat} {cb : Nat → AH → Option (Int32 × AH)} {dc : Nat} (hcb : ∀ {d : Nat}, dc ≤ d → ∀ {k0 : Nat} {h : AH} {r0 : Int32} {h0 : AH}, cb k0 h = some (r0, h0) → kd k0 = (0, 12) → Con E d K_X12_sum (ZI E r0 h0) [.ref k0] h) (hd : 7 + dc + 1 ≤ d) {k0 : Nat} {h : AH} {r0 : Int32} {h0 : AH} (hf : f_X12_term cb k0 h = some (r0, h0)) (t_k0 : kd k0 = (0, 12)) : Con E d K_X12_term (ZI E r0 h0) [.ref k0] h := by
  obtain ⟨d, rfl⟩ : ∃ d', d = d' + 1 := ⟨d - 1, by omega⟩
  have hd := Nat.le_of_succ_le_succ hd
  refine Con.ofV rfl (Nat.le_of_ble_eq_true rfl) ?_
  unfold f_X12_term at hf
  show V E (d + 1) K_X12_term (ZI E r0 h0) h [(0, .ref k0)] [] 0
  refine V_aload_n 0 dX12_term_0 rfl rfl ?_
  obtain ⟨r_3, h_2, e_1, hf⟩ := ob_s hf
  refine V_cvi (As := []) (rest := []) (c_X12_atom (d := d) hcb (by omega) e_1 t_k0) ML_X12_196 MV_X12_atom rfl t_k0 rfl rfl (Nat.le_of_ble_eq_true rfl) dX12_term_1 ?_
  refine V_istore_n (L' := [(1, .int r_3), (0, .ref k0)]) dX12_term_4 rfl (Nat.le_of_ble_eq_true rfl) rfl rfl ?_
  refine V_sub [1, 0] rfl ?_
  exact v_X12_term_5 hcb hd FU _ _ _ hf t_k0
theorem dX12_sum_0 : decode cX12_sum 0 = .ok (.aload_n 0, 1) := by decide +kernel
theorem dX12_sum_1 : decode cX12_sum 1 = .ok (.invokevirtual 203, 3) := by decide +kernel
theorem dX12_sum_4 : decode cX12_sum 4 = .ok (.istore_n 1, 1) := by decide +kernel
theorem dX12_sum_5 : decode cX12_sum 5 = .ok (.aload_n 0, 1) := by decide +kernel
theorem dX12_sum_6 : decode cX12_sum 6 = .ok (.getfield 153, 3) := by decide +kernel
theorem dX12_sum_9 : decode cX12_sum 9 = .ok (.iconst (-1), 1) := by decide +kernel
theorem dX12_sum_10 : decode cX12_sum 10 = .ok (.if_icmp .ne 74, 3) := by decide +kernel
theorem dX12_sum_13 : decode cX12_sum 13 = .ok (.aload_n 0, 1) := by decide +kernel
theorem dX12_sum_14 : decode cX12_sum 14 = .ok (.invokevirtual 163, 3) := by decide +kernel
theorem dX12_sum_17 : decode cX12_sum 17 = .ok (.bipush 43, 2) := by decide +kernel
theorem dX12_sum_19 : decode cX12_sum 19 = .ok (.if_icmp .eq 12, 3) := by decide +kernel
theorem dX12_sum_22 : decode cX12_sum 22 = .ok (.aload_n 0, 1) := by decide +kernel
theorem dX12_sum_23 : decode cX12_sum 23 = .ok (.invokevirtual 163, 3) := by decide +kernel
theorem dX12_sum_26 : decode cX12_sum 26 = .ok (.bipush 45, 2) := by decide +kernel
theorem dX12_sum_28 : decode cX12_sum 28 = .ok (.if_icmp .ne 56, 3) := by decide +kernel
theorem dX12_sum_31 : decode cX12_sum 31 = .ok (.aload_n 0, 1) := by decide +kernel
theorem dX12_sum_32 : decode cX12_sum 32 = .ok (.invokevirtual 163, 3) := by decide +kernel
theorem dX12_sum_35 : decode cX12_sum 35 = .ok (.bipush 43, 2) := by decide +kernel
theorem dX12_sum_37 : decode cX12_sum 37 = .ok (.if_icmp .ne 7, 3) := by decide +kernel
theorem dX12_sum_40 : decode cX12_sum 40 = .ok (.iconst 1, 1) := by decide +kernel
theorem dX12_sum_41 : decode cX12_sum 41 = .ok (.goto 4, 3) := by decide +kernel
theorem dX12_sum_44 : decode cX12_sum 44 = .ok (.iconst 0, 1) := by decide +kernel
theorem dX12_sum_45 : decode cX12_sum 45 = .ok (.istore_n 2, 1) := by decide +kernel
theorem dX12_sum_46 : decode cX12_sum 46 = .ok (.aload_n 0, 1) := by decide +kernel
theorem dX12_sum_47 : decode cX12_sum 47 = .ok (.dup, 1) := by decide +kernel
theorem dX12_sum_48 : decode cX12_sum 48 = .ok (.getfield 144, 3) := by decide +kernel
theorem dX12_sum_51 : decode cX12_sum 51 = .ok (.iconst 1, 1) := by decide +kernel
theorem dX12_sum_52 : decode cX12_sum 52 = .ok (.iadd, 1) := by decide +kernel
theorem dX12_sum_53 : decode cX12_sum 53 = .ok (.putfield 144, 3) := by decide +kernel
theorem dX12_sum_56 : decode cX12_sum 56 = .ok (.aload_n 0, 1) := by decide +kernel
theorem dX12_sum_57 : decode cX12_sum 57 = .ok (.invokevirtual 203, 3) := by decide +kernel
theorem dX12_sum_60 : decode cX12_sum 60 = .ok (.i2l, 1) := by decide +kernel
theorem dX12_sum_61 : decode cX12_sum 61 = .ok (.lstore_n 3, 1) := by decide +kernel
theorem dX12_sum_62 : decode cX12_sum 62 = .ok (.iload_n 2, 1) := by decide +kernel
theorem dX12_sum_63 : decode cX12_sum 63 = .ok (.ifCond .eq 10, 3) := by decide +kernel
theorem dX12_sum_66 : decode cX12_sum 66 = .ok (.iload_n 1, 1) := by decide +kernel
theorem dX12_sum_67 : decode cX12_sum 67 = .ok (.i2l, 1) := by decide +kernel
theorem dX12_sum_68 : decode cX12_sum 68 = .ok (.lload_n 3, 1) := by decide +kernel
theorem dX12_sum_69 : decode cX12_sum 69 = .ok (.ladd, 1) := by decide +kernel
theorem dX12_sum_70 : decode cX12_sum 70 = .ok (.goto 7, 3) := by decide +kernel
theorem dX12_sum_73 : decode cX12_sum 73 = .ok (.iload_n 1, 1) := by decide +kernel
theorem dX12_sum_74 : decode cX12_sum 74 = .ok (.i2l, 1) := by decide +kernel
theorem dX12_sum_75 : decode cX12_sum 75 = .ok (.lload_n 3, 1) := by decide +kernel
theorem dX12_sum_76 : decode cX12_sum 76 = .ok (.lsub, 1) := by decide +kernel
theorem dX12_sum_77 : decode cX12_sum 77 = .ok (.invokestatic 199, 3) := by decide +kernel
theorem dX12_sum_80 : decode cX12_sum 80 = .ok (.istore_n 1, 1) := by decide +kernel
theorem dX12_sum_81 : decode cX12_sum 81 = .ok (.goto (-76), 3) := by decide +kernel
theorem dX12_sum_84 : decode cX12_sum 84 = .ok (.iload_n 1, 1) := by decide +kernel
theorem dX12_sum_85 : decode cX12_sum 85 = .ok (.ireturn, 1) := by decide +kernel
theorem ML_X12_203 : MLk RX12 203 yX12_term := Or.inl ml_X12_203
theorem MV_X12_term : MVk K_X12_term 0 12 := ⟨⟨cd_X12_term, in_X12, ⟨by decide, by decide, by decide +kernel⟩, by decide⟩, im_X12_term, se_X12_term, _, _, rfl⟩
def f_X12_sum_77 (cb : Nat → AH → Option (Int32 × AH)) (q5 : Nat → Int32 → AH → Option (Int32 × AH)) (k0 : Nat) (sl0 : Int64) (h : AH) : Option (Int32 × AH) :=
  ob (f_X12_within sl0 h) fun r_3 h_2 =>
  q5 k0 r_3 h_2
def f_X12_sum_45 (cb : Nat → AH → Option (Int32 × AH)) (q5 : Nat → Int32 → AH → Option (Int32 × AH)) (k0 : Nat) (x1 : Int32) (s0 : Int32) (h : AH) : Option (Int32 × AH) :=
  nm (sI h k0 10 ((h.1 k0 10) + 1)) fun h_1 =>
  ob (f_X12_term cb k0 h_1) fun r_5 h_4 =>
  nm (((r_5).toInt64)) fun l3_6 =>
  if s0 = 0 then (
    f_X12_sum_77 cb q5 k0 (((x1).toInt64) - l3_6) h_4
  ) else (
    f_X12_sum_77 cb q5 k0 (((x1).toInt64) + l3_6) h_4
  )
def f_X12_sum_31 (cb : Nat → AH → Option (Int32 × AH)) (q5 : Nat → Int32 → AH → Option (Int32 × AH)) (k0 : Nat) (x1 : Int32) (h : AH) : Option (Int32 × AH) :=
  ob (f_X12_look k0 h) fun r_3 h_2 =>
  if r_3 = 43 then (
    f_X12_sum_45 cb q5 k0 x1 1 h_2
  ) else (
    f_X12_sum_45 cb q5 k0 x1 0 h_2
  )
def f_X12_sum_84 (cb : Nat → AH → Option (Int32 × AH)) (x1 : Int32) (h : AH) : Option (Int32 × AH) :=
  some (x1, h)
def f_X12_sum_5 (cb : Nat → AH → Option (Int32 × AH)) : Nat → Nat → Int32 → AH → Option (Int32 × AH)
  | 0, _, _, _ => none
  | n + 1, k0, x1, h =>
    if (h.1 k0 11) = (-1) then (
      ob (f_X12_look k0 h) fun r_4 h_3 =>
      if r_4 = 43 then (
        f_X12_sum_31 cb (f_X12_sum_5 cb n) k0 x1 h_3
      ) else (
        ob (f_X12_look k0 h_3) fun r_8 h_7 =>
        if r_8 = 45 then (
          f_X12_sum_31 cb (f_X12_sum_5 cb n) k0 x1 h_7
        ) else (
          f_X12_sum_84 cb x1 h_7
        )
      )
    ) else (
      f_X12_sum_84 cb x1 h
    )
def f_X12_sum (cb : Nat → AH → Option (Int32 × AH)) (k0 : Nat) (h : AH) : Option (Int32 × AH) :=
  ob (f_X12_term cb k0 h) fun r_3 h_2 =>
  f_X12_sum_5 cb FU k0 r_3 h_2
def r_X12_sum : Nat → Nat → AH → Option (Int32 × AH)
  | 0, _, _ => none
  | n + 1, k0, h => f_X12_sum (r_X12_sum n) k0 h
set_option maxHeartbeats 4000000 in
set_option maxRecDepth 100000 in
theorem v_X12_sum_77 {E : EV} {d : Nat} {cb : Nat → AH → Option (Int32 × AH)} {dc : Nat} (hcb : ∀ {d : Nat}, dc ≤ d → ∀ {k0 : Nat} {h : AH} {r0 : Int32} {h0 : AH}, cb k0 h = some (r0, h0) → kd k0 = (0, 12) → Con E d K_X12_sum (ZI E r0 h0) [.ref k0] h) (hd : 8 + dc ≤ d) {r0 : Int32} {h0 : AH} {q5 : Nat → Int32 → AH → Option (Int32 × AH)} (cq5 : ∀ (k0 : Nat) (x1 : Int32) (h : AH), q5 k0 x1 h = some (r0, h0) → kd k0 = (0, 12) → V E (d + 1) K_X12_sum (ZI E r0 h0) h [(0, .ref k0), (1, .int x1)] [] 5) {k0 : Nat} {sl0 : Int64} {h : AH} (hf : f_X12_sum_77 cb q5 k0 sl0 h = some (r0, h0)) (t_k0 : kd k0 = (0, 12)) : V E (d + 1) K_X12_sum (ZI E r0 h0) h [(0, .ref k0)] [.long sl0] 77 := by
  unfold f_X12_sum_77 at hf
  obtain ⟨r_3, h_2, e_1, hf⟩ := ob_s hf
  refine V_csi (As := [.long sl0]) (rest := []) (c_X12_within (d := d) (by omega) e_1) ML_X12_199 MS_X12_within rfl rfl rfl (Nat.le_of_ble_eq_true rfl) dX12_sum_77 ?_
  refine V_istore_n (L' := [(1, .int r_3), (0, .ref k0)]) dX12_sum_80 rfl (Nat.le_of_ble_eq_true rfl) rfl rfl ?_
  refine V_goto (tgt := 5) dX12_sum_81 (by decide) ?_
  refine V_sub [1, 0] rfl ?_
  exact cq5 _ _ _ hf t_k0
set_option maxHeartbeats 4000000 in
set_option maxRecDepth 100000 in
theorem v_X12_sum_45 {E : EV} {d : Nat} {cb : Nat → AH → Option (Int32 × AH)} {dc : Nat} (hcb : ∀ {d : Nat}, dc ≤ d → ∀ {k0 : Nat} {h : AH} {r0 : Int32} {h0 : AH}, cb k0 h = some (r0, h0) → kd k0 = (0, 12) → Con E d K_X12_sum (ZI E r0 h0) [.ref k0] h) (hd : 8 + dc ≤ d) {r0 : Int32} {h0 : AH} {q5 : Nat → Int32 → AH → Option (Int32 × AH)} (cq5 : ∀ (k0 : Nat) (x1 : Int32) (h : AH), q5 k0 x1 h = some (r0, h0) → kd k0 = (0, 12) → V E (d + 1) K_X12_sum (ZI E r0 h0) h [(0, .ref k0), (1, .int x1)] [] 5) {k0 : Nat} {x1 : Int32} {s0 : Int32} {h : AH} (hf : f_X12_sum_45 cb q5 k0 x1 s0 h = some (r0, h0)) (t_k0 : kd k0 = (0, 12)) : V E (d + 1) K_X12_sum (ZI E r0 h0) h [(0, .ref k0), (1, .int x1)] [.int s0] 45 := by
  unfold f_X12_sum_45 at hf
  refine V_istore_n (L' := [(2, .int s0), (0, .ref k0), (1, .int x1)]) dX12_sum_45 rfl (Nat.le_of_ble_eq_true rfl) rfl rfl ?_
  refine V_aload_n 1 dX12_sum_46 rfl rfl ?_
  refine V_dup dX12_sum_47 rfl ?_
  refine V_getI F_X12_144 rfl t_k0 rfl dX12_sum_48 ?_
  refine V_iconst (v := 1) dX12_sum_51 (by decide) ?_
  refine V_iadd dX12_sum_52 ?_
  obtain ⟨h_1, e_2, hf⟩ := nm_s hf
  refine V_putI P_X12_144 rfl t_k0 rfl e_2 dX12_sum_53 ?_
  refine V_aload_n 1 dX12_sum_56 rfl rfl ?_
  obtain ⟨r_5, h_4, e_3, hf⟩ := ob_s hf
  refine V_cvi (As := []) (rest := []) (c_X12_term (d := d) hcb (by omega) e_3 t_k0) ML_X12_203 MV_X12_term rfl t_k0 rfl rfl (Nat.le_of_ble_eq_true rfl) dX12_sum_57 ?_
  refine V_i2l dX12_sum_60 ?_
  obtain ⟨l3_6, e_7, hf⟩ := nm_s hf
  refine V_lstore_n (L' := [(3, .long l3_6), (2, .int s0), (0, .ref k0), (1, .int x1)]) dX12_sum_61 rfl (Nat.le_of_ble_eq_true rfl) e_7 rfl ?_
  refine V_iload_n 1 dX12_sum_62 rfl rfl ?_
  refine V_if_eq (tgt := 73) dX12_sum_63 (by decide) (fun c_8 => ?_) (fun c_8 => ?_)
  · have hf := it_s c_8 hf
    refine V_iload_n 3 dX12_sum_73 rfl rfl ?_
    refine V_i2l dX12_sum_74 ?_
    refine V_lload_n 0 dX12_sum_75 rfl rfl ?_
    refine V_lsub dX12_sum_76 ?_
    refine V_sub [2] rfl ?_
    exact v_X12_sum_77 hcb hd cq5 hf t_k0
  · have hf := if_s c_8 hf
    refine V_iload_n 3 dX12_sum_66 rfl rfl ?_
    refine V_i2l dX12_sum_67 ?_
    refine V_lload_n 0 dX12_sum_68 rfl rfl ?_
    refine V_ladd dX12_sum_69 ?_
    refine V_goto (tgt := 77) dX12_sum_70 (by decide) ?_
    refine V_sub [2] rfl ?_
    exact v_X12_sum_77 hcb hd cq5 hf t_k0
set_option maxHeartbeats 4000000 in
set_option maxRecDepth 100000 in
theorem v_X12_sum_31 {E : EV} {d : Nat} {cb : Nat → AH → Option (Int32 × AH)} {dc : Nat} (hcb : ∀ {d : Nat}, dc ≤ d → ∀ {k0 : Nat} {h : AH} {r0 : Int32} {h0 : AH}, cb k0 h = some (r0, h0) → kd k0 = (0, 12) → Con E d K_X12_sum (ZI E r0 h0) [.ref k0] h) (hd : 8 + dc ≤ d) {r0 : Int32} {h0 : AH} {q5 : Nat → Int32 → AH → Option (Int32 × AH)} (cq5 : ∀ (k0 : Nat) (x1 : Int32) (h : AH), q5 k0 x1 h = some (r0, h0) → kd k0 = (0, 12) → V E (d + 1) K_X12_sum (ZI E r0 h0) h [(0, .ref k0), (1, .int x1)] [] 5) {k0 : Nat} {x1 : Int32} {h : AH} (hf : f_X12_sum_31 cb q5 k0 x1 h = some (r0, h0)) (t_k0 : kd k0 = (0, 12)) : V E (d + 1) K_X12_sum (ZI E r0 h0) h [(0, .ref k0), (1, .int x1)] [] 31 := by
  unfold f_X12_sum_31 at hf
  refine V_aload_n 0 dX12_sum_31 rfl rfl ?_
  obtain ⟨r_3, h_2, e_1, hf⟩ := ob_s hf
  refine V_cvi (As := []) (rest := []) (c_X12_look (d := d) (by omega) e_1 t_k0) ML_X12_163 MV_X12_look rfl t_k0 rfl rfl (Nat.le_of_ble_eq_true rfl) dX12_sum_32 ?_
  refine V_bipush (v := 43) dX12_sum_35 (by decide) ?_
  refine V_ic_ne (tgt := 44) dX12_sum_37 (by decide) (fun c_4 => ?_) (fun c_4 => ?_)
  · have hf := if_s c_4 hf
    refine V_iconst (v := 0) dX12_sum_44 (by decide) ?_
    exact v_X12_sum_45 hcb hd cq5 hf t_k0
  · have hf := it_s c_4 hf
    refine V_iconst (v := 1) dX12_sum_40 (by decide) ?_
    refine V_goto (tgt := 45) dX12_sum_41 (by decide) ?_
    exact v_X12_sum_45 hcb hd cq5 hf t_k0
set_option maxHeartbeats 4000000 in
set_option maxRecDepth 100000 in
theorem v_X12_sum_84 {E : EV} {d : Nat} {cb : Nat → AH → Option (Int32 × AH)} {dc : Nat} (hcb : ∀ {d : Nat}, dc ≤ d → ∀ {k0 : Nat} {h : AH} {r0 : Int32} {h0 : AH}, cb k0 h = some (r0, h0) → kd k0 = (0, 12) → Con E d K_X12_sum (ZI E r0 h0) [.ref k0] h) (hd : 8 + dc ≤ d) {r0 : Int32} {h0 : AH} {x1 : Int32} {h : AH} (hf : f_X12_sum_84 cb x1 h = some (r0, h0)) : V E (d + 1) K_X12_sum (ZI E r0 h0) h [(1, .int x1)] [] 84 := by
  unfold f_X12_sum_84 at hf
  refine V_iload_n 0 dX12_sum_84 rfl rfl ?_
  exact V_iret rfl (so_s hf) dX12_sum_85
set_option maxHeartbeats 4000000 in
set_option maxRecDepth 100000 in
theorem v_X12_sum_5 {E : EV} {d : Nat} {cb : Nat → AH → Option (Int32 × AH)} {dc : Nat} (hcb : ∀ {d : Nat}, dc ≤ d → ∀ {k0 : Nat} {h : AH} {r0 : Int32} {h0 : AH}, cb k0 h = some (r0, h0) → kd k0 = (0, 12) → Con E d K_X12_sum (ZI E r0 h0) [.ref k0] h) (hd : 8 + dc ≤ d) {r0 : Int32} {h0 : AH} : ∀ (n : Nat) (k0 : Nat) (x1 : Int32) (h : AH), f_X12_sum_5 cb n k0 x1 h = some (r0, h0) → kd k0 = (0, 12) → V E (d + 1) K_X12_sum (ZI E r0 h0) h [(0, .ref k0), (1, .int x1)] [] 5 := by
  intro n
  induction n with
  | zero =>
    intro k0 x1 h hf
    rw [f_X12_sum_5] at hf
    cases hf
  | succ n ih =>
    intro k0 x1 h hf t_k0
    rw [f_X12_sum_5] at hf
    refine V_aload_n 0 dX12_sum_5 rfl rfl ?_
    refine V_getI F_X12_153 rfl t_k0 rfl dX12_sum_6 ?_
    refine V_iconst (v := (-1)) dX12_sum_9 (by decide) ?_
    refine V_ic_ne (tgt := 84) dX12_sum_10 (by decide) (fun c_1 => ?_) (fun c_1 => ?_)
    · have hf := if_s c_1 hf
      refine V_sub [1] rfl ?_
      exact v_X12_sum_84 hcb hd hf
    · have hf := it_s c_1 hf
      refine V_aload_n 0 dX12_sum_13 rfl rfl ?_
      obtain ⟨r_4, h_3, e_2, hf⟩ := ob_s hf
      refine V_cvi (As := []) (rest := []) (c_X12_look (d := d) (by omega) e_2 t_k0) ML_X12_163 MV_X12_look rfl t_k0 rfl rfl (Nat.le_of_ble_eq_true rfl) dX12_sum_14 ?_
      refine V_bipush (v := 43) dX12_sum_17 (by decide) ?_
      refine V_ic_eq (tgt := 31) dX12_sum_19 (by decide) (fun c_5 => ?_) (fun c_5 => ?_)
      · have hf := it_s c_5 hf
        exact v_X12_sum_31 hcb hd ih hf t_k0
      · have hf := if_s c_5 hf
        refine V_aload_n 0 dX12_sum_22 rfl rfl ?_
        obtain ⟨r_8, h_7, e_6, hf⟩ := ob_s hf
        refine V_cvi (As := []) (rest := []) (c_X12_look (d := d) (by omega) e_6 t_k0) ML_X12_163 MV_X12_look rfl t_k0 rfl rfl (Nat.le_of_ble_eq_true rfl) dX12_sum_23 ?_
        refine V_bipush (v := 45) dX12_sum_26 (by decide) ?_
        refine V_ic_ne (tgt := 84) dX12_sum_28 (by decide) (fun c_9 => ?_) (fun c_9 => ?_)
        · have hf := if_s c_9 hf
          refine V_sub [1] rfl ?_
          exact v_X12_sum_84 hcb hd hf
        · have hf := it_s c_9 hf
          exact v_X12_sum_31 hcb hd ih hf t_k0
set_option maxHeartbeats 4000000 in
set_option maxRecDepth 100000 in
theorem c_X12_sum {E : EV} {d : Nat} {cb : Nat → AH → Option (Int32 × AH)} {dc : Nat} (hcb : ∀ {d : Nat}, dc ≤ d → ∀ {k0 : Nat} {h : AH} {r0 : Int32} {h0 : AH}, cb k0 h = some (r0, h0) → kd k0 = (0, 12) → Con E d K_X12_sum (ZI E r0 h0) [.ref k0] h) (hd : 8 + dc + 1 ≤ d) {k0 : Nat} {h : AH} {r0 : Int32} {h0 : AH} (hf : f_X12_sum cb k0 h = some (r0, h0)) (t_k0 : kd k0 = (0, 12)) : Con E d K_X12_sum (ZI E r0 h0) [.ref k0] h := by
  obtain ⟨d, rfl⟩ : ∃ d', d = d' + 1 := ⟨d - 1, by omega⟩
  have hd := Nat.le_of_succ_le_succ hd
  refine Con.ofV rfl (Nat.le_of_ble_eq_true rfl) ?_
  unfold f_X12_sum at hf
  show V E (d + 1) K_X12_sum (ZI E r0 h0) h [(0, .ref k0)] [] 0
  refine V_aload_n 0 dX12_sum_0 rfl rfl ?_
  obtain ⟨r_3, h_2, e_1, hf⟩ := ob_s hf
  refine V_cvi (As := []) (rest := []) (c_X12_term (d := d) hcb (by omega) e_1 t_k0) ML_X12_203 MV_X12_term rfl t_k0 rfl rfl (Nat.le_of_ble_eq_true rfl) dX12_sum_1 ?_
  refine V_istore_n (L' := [(1, .int r_3), (0, .ref k0)]) dX12_sum_4 rfl (Nat.le_of_ble_eq_true rfl) rfl rfl ?_
  refine V_sub [1, 0] rfl ?_
  exact v_X12_sum_5 hcb hd FU _ _ _ hf t_k0
set_option maxHeartbeats 4000000 in
set_option maxRecDepth 100000 in
theorem cr_X12_sum {E : EV} : ∀ (n : Nat) {d : Nat}, n * 9 ≤ d → ∀ {k0 : Nat} {h : AH} {r0 : Int32} {h0 : AH}, r_X12_sum n k0 h = some (r0, h0) → kd k0 = (0, 12) → Con E d K_X12_sum (ZI E r0 h0) [.ref k0] h := by
  intro n
  induction n with
  | zero =>
    intro d hd k0 h r0 h0 hf
    rw [r_X12_sum] at hf
    cases hf
  | succ n ih =>
    intro d hd k0 h r0 h0 hf t_k0
    rw [r_X12_sum] at hf
    exact c_X12_sum (dc := n * 9) ih (by omega) hf t_k0
