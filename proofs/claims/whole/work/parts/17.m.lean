theorem dX12_thrown_0 : decode cX12_thrown 0 = .ok (.aload_n 0, 1) := by decide +kernel
theorem dX12_thrown_1 : decode cX12_thrown 1 = .ok (.getfield 120, 3) := by decide +kernel
theorem dX12_thrown_4 : decode cX12_thrown 4 = .ok (.ireturn, 1) := by decide +kernel
def f_X12_thrown (k0 : Nat) (h : AH) : Option (Int32 × AH) :=
  some ((h.1 k0 0), h)
set_option maxHeartbeats 4000000 in
set_option maxRecDepth 100000 in
theorem c_X12_thrown {E : EV} {d : Nat} (hd : 0 + 1 ≤ d) {k0 : Nat} {h : AH} {r0 : Int32} {h0 : AH} (hf : f_X12_thrown k0 h = some (r0, h0)) (t_k0 : kd k0 = (0, 12)) : Con E d K_X12_thrown (ZI E r0 h0) [.ref k0] h := by
  obtain ⟨d, rfl⟩ : ∃ d', d = d' + 1 := ⟨d - 1, by omega⟩
  have hd := Nat.le_of_succ_le_succ hd
  refine Con.ofV rfl (Nat.le_of_ble_eq_true rfl) ?_
  unfold f_X12_thrown at hf
  show V E (d + 1) K_X12_thrown (ZI E r0 h0) h [(0, .ref k0)] [] 0
  refine V_aload_n 0 dX12_thrown_0 rfl rfl ?_
  refine V_getI F_X12_120 rfl t_k0 rfl dX12_thrown_1 ?_
  exact V_iret rfl (so_s hf) dX12_thrown_4
theorem dX12_tried_0 : decode cX12_tried 0 = .ok (.aload_n 0, 1) := by decide +kernel
theorem dX12_tried_1 : decode cX12_tried 1 = .ok (.iconst 0, 1) := by decide +kernel
theorem dX12_tried_2 : decode cX12_tried 2 = .ok (.putfield 120, 3) := by decide +kernel
theorem dX12_tried_5 : decode cX12_tried 5 = .ok (.aload_n 0, 1) := by decide +kernel
theorem dX12_tried_6 : decode cX12_tried 6 = .ok (.iload_n 1, 1) := by decide +kernel
theorem dX12_tried_7 : decode cX12_tried 7 = .ok (.iload_n 2, 1) := by decide +kernel
theorem dX12_tried_8 : decode cX12_tried 8 = .ok (.invokevirtual 343, 3) := by decide +kernel
theorem dX12_tried_11 : decode cX12_tried 11 = .ok (.ifCond .eq 30, 3) := by decide +kernel
theorem dX12_tried_14 : decode cX12_tried 14 = .ok (.aload_n 0, 1) := by decide +kernel
theorem dX12_tried_15 : decode cX12_tried 15 = .ok (.iload_n 2, 1) := by decide +kernel
theorem dX12_tried_16 : decode cX12_tried 16 = .ok (.iload_n 3, 1) := by decide +kernel
theorem dX12_tried_17 : decode cX12_tried 17 = .ok (.invokevirtual 346, 3) := by decide +kernel
theorem dX12_tried_20 : decode cX12_tried 20 = .ok (.ifCond .eq 21, 3) := by decide +kernel
theorem dX12_tried_23 : decode cX12_tried 23 = .ok (.aload_n 0, 1) := by decide +kernel
theorem dX12_tried_24 : decode cX12_tried 24 = .ok (.iload 4, 2) := by decide +kernel
theorem dX12_tried_26 : decode cX12_tried 26 = .ok (.invokevirtual 295, 3) := by decide +kernel
theorem dX12_tried_29 : decode cX12_tried 29 = .ok (.ifCond .eq 12, 3) := by decide +kernel
theorem dX12_tried_32 : decode cX12_tried 32 = .ok (.iload_n 2, 1) := by decide +kernel
theorem dX12_tried_33 : decode cX12_tried 33 = .ok (.iload 4, 2) := by decide +kernel
theorem dX12_tried_35 : decode cX12_tried 35 = .ok (.invokestatic 258, 3) := by decide +kernel
theorem dX12_tried_38 : decode cX12_tried 38 = .ok (.ifCond .ne 7, 3) := by decide +kernel
theorem dX12_tried_41 : decode cX12_tried 41 = .ok (.ldc_w 352, 3) := by decide +kernel
theorem dX12_tried_44 : decode cX12_tried 44 = .ok (.ireturn, 1) := by decide +kernel
theorem dX12_tried_45 : decode cX12_tried 45 = .ok (.aload_n 0, 1) := by decide +kernel
theorem dX12_tried_46 : decode cX12_tried 46 = .ok (.aload_n 0, 1) := by decide +kernel
theorem dX12_tried_47 : decode cX12_tried 47 = .ok (.iload_n 1, 1) := by decide +kernel
theorem dX12_tried_48 : decode cX12_tried 48 = .ok (.iload_n 2, 1) := by decide +kernel
theorem dX12_tried_49 : decode cX12_tried 49 = .ok (.invokevirtual 335, 3) := by decide +kernel
theorem dX12_tried_52 : decode cX12_tried 52 = .ok (.invokevirtual 338, 3) := by decide +kernel
theorem dX12_tried_55 : decode cX12_tried 55 = .ok (.aload_n 0, 1) := by decide +kernel
theorem dX12_tried_56 : decode cX12_tried 56 = .ok (.getfield 63, 3) := by decide +kernel
theorem dX12_tried_59 : decode cX12_tried 59 = .ok (.iload 4, 2) := by decide +kernel
theorem dX12_tried_61 : decode cX12_tried 61 = .ok (.iaload, 1) := by decide +kernel
theorem dX12_tried_62 : decode cX12_tried 62 = .ok (.ireturn, 1) := by decide +kernel
def f_X12_tried_41  (h : AH) : Option (Int32 × AH) :=
  some ((-1000000), h)
def f_X12_tried (k0 : Nat) (x1 : Int32) (x2 : Int32) (x3 : Int32) (x4 : Int32) (h : AH) : Option (Int32 × AH) :=
  nm (sI h k0 0 0) fun h_1 =>
  ob (f_X12_isVisit k0 x1 x2 h_1) fun r_5 h_4 =>
  if r_5 = 0 then (
    f_X12_tried_41 h_4
  ) else (
    ob (f_X12_layOrder k0 x2 x3 h_4) fun r_9 h_8 =>
    if r_9 = 0 then (
      f_X12_tried_41 h_8
    ) else (
      ob (f_X12_isPerson k0 x4 h_8) fun r_13 h_12 =>
      if r_13 = 0 then (
        f_X12_tried_41 h_12
      ) else (
        ob (f_X12_has x2 x4 h_12) fun r_17 h_16 =>
        if r_17 = 0 then (
          f_X12_tried_41 h_16
        ) else (
          ob (f_X12_doorOf k0 x1 x2 h_16) fun r_21 h_20 =>
          ov (f_X12_go k0 r_21 h_20) fun h_23 =>
          og (ix x4 (an (rf k0 28))) <|
          some ((h_23.1 (rf k0 28) x4.toNatClampNeg), h_23)
        )
      )
    )
  )
set_option maxHeartbeats 4000000 in
set_option maxRecDepth 100000 in
theorem v_X12_tried_41 {E : EV} {d : Nat} (hd : 1460 ≤ d) {r0 : Int32} {h0 : AH}  {h : AH} (hf : f_X12_tried_41 h = some (r0, h0)) : V E (d + 1) K_X12_tried (ZI E r0 h0) h [] [] 41 := by
  unfold f_X12_tried_41 at hf
  refine V_ldcw (v := (-1000000)) rfl kc_X12_352 dX12_tried_41 ?_
  exact V_iret rfl (so_s hf) dX12_tried_44
set_option maxHeartbeats 4000000 in
set_option maxRecDepth 100000 in
theorem c_X12_tried {E : EV} {d : Nat} (hd : 1460 + 1 ≤ d) {k0 : Nat} {x1 : Int32} {x2 : Int32} {x3 : Int32} {x4 : Int32} {h : AH} {r0 : Int32} {h0 : AH} (hf : f_X12_tried k0 x1 x2 x3 x4 h = some (r0, h0)) (t_k0 : kd k0 = (0, 12)) : Con E d K_X12_tried (ZI E r0 h0) [.ref k0, .int x1, .int x2, .int x3, .int x4] h := by
  obtain ⟨d, rfl⟩ : ∃ d', d = d' + 1 := ⟨d - 1, by omega⟩
  have hd := Nat.le_of_succ_le_succ hd
  refine Con.ofV rfl (Nat.le_of_ble_eq_true rfl) ?_
  unfold f_X12_tried at hf
  show V E (d + 1) K_X12_tried (ZI E r0 h0) h [(0, .ref k0), (1, .int x1), (2, .int x2), (3, .int x3), (4, .int x4)] [] 0
  refine V_aload_n 0 dX12_tried_0 rfl rfl ?_
  refine V_iconst (v := 0) dX12_tried_1 (by decide) ?_
  obtain ⟨h_1, e_2, hf⟩ := nm_s hf
  refine V_putI P_X12_120 rfl t_k0 rfl e_2 dX12_tried_2 ?_
  refine V_aload_n 0 dX12_tried_5 rfl rfl ?_
  refine V_iload_n 1 dX12_tried_6 rfl rfl ?_
  refine V_iload_n 2 dX12_tried_7 rfl rfl ?_
  obtain ⟨r_5, h_4, e_3, hf⟩ := ob_s hf
  refine V_cvi (As := [.int x1, .int x2]) (rest := []) (c_X12_isVisit (d := d) (Nat.le_trans (Nat.le_of_ble_eq_true rfl) hd) e_3 t_k0) ML_X12_343 MV_X12_isVisit rfl t_k0 rfl rfl (Nat.le_of_ble_eq_true rfl) dX12_tried_8 ?_
  refine V_if_eq (tgt := 41) dX12_tried_11 (by decide) (fun c_6 => ?_) (fun c_6 => ?_)
  · have hf := it_s c_6 hf
    refine V_sub [] rfl ?_
    exact v_X12_tried_41 hd hf
  · have hf := if_s c_6 hf
    refine V_aload_n 0 dX12_tried_14 rfl rfl ?_
    refine V_iload_n 2 dX12_tried_15 rfl rfl ?_
    refine V_iload_n 3 dX12_tried_16 rfl rfl ?_
    obtain ⟨r_9, h_8, e_7, hf⟩ := ob_s hf
    refine V_cvi (As := [.int x2, .int x3]) (rest := []) (c_X12_layOrder (d := d) (Nat.le_trans (Nat.le_of_ble_eq_true rfl) hd) e_7 t_k0) ML_X12_346 MV_X12_layOrder rfl t_k0 rfl rfl (Nat.le_of_ble_eq_true rfl) dX12_tried_17 ?_
    refine V_if_eq (tgt := 41) dX12_tried_20 (by decide) (fun c_10 => ?_) (fun c_10 => ?_)
    · have hf := it_s c_10 hf
      refine V_sub [] rfl ?_
      exact v_X12_tried_41 hd hf
    · have hf := if_s c_10 hf
      refine V_aload_n 0 dX12_tried_23 rfl rfl ?_
      refine V_iload 4 dX12_tried_24 rfl ?_
      obtain ⟨r_13, h_12, e_11, hf⟩ := ob_s hf
      refine V_cvi (As := [.int x4]) (rest := []) (c_X12_isPerson (d := d) (Nat.le_trans (Nat.le_of_ble_eq_true rfl) hd) e_11 t_k0) ML_X12_295 MV_X12_isPerson rfl t_k0 rfl rfl (Nat.le_of_ble_eq_true rfl) dX12_tried_26 ?_
      refine V_if_eq (tgt := 41) dX12_tried_29 (by decide) (fun c_14 => ?_) (fun c_14 => ?_)
      · have hf := it_s c_14 hf
        refine V_sub [] rfl ?_
        exact v_X12_tried_41 hd hf
      · have hf := if_s c_14 hf
        refine V_iload_n 2 dX12_tried_32 rfl rfl ?_
        refine V_iload 4 dX12_tried_33 rfl ?_
        obtain ⟨r_17, h_16, e_15, hf⟩ := ob_s hf
        refine V_csi (As := [.int x2, .int x4]) (rest := []) (c_X12_has (d := d) (Nat.le_trans (Nat.le_of_ble_eq_true rfl) hd) e_15) ML_X12_258 MS_X12_has rfl rfl rfl (Nat.le_of_ble_eq_true rfl) dX12_tried_35 ?_
        refine V_if_ne (tgt := 45) dX12_tried_38 (by decide) (fun c_18 => ?_) (fun c_18 => ?_)
        · have hf := if_s c_18 hf
          refine V_aload_n 0 dX12_tried_45 rfl rfl ?_
          refine V_aload_n 0 dX12_tried_46 rfl rfl ?_
          refine V_iload_n 1 dX12_tried_47 rfl rfl ?_
          refine V_iload_n 2 dX12_tried_48 rfl rfl ?_
          obtain ⟨r_21, h_20, e_19, hf⟩ := ob_s hf
          refine V_cvi (As := [.int x1, .int x2]) (rest := [.ref k0]) (c_X12_doorOf (d := d) (Nat.le_trans (Nat.le_of_ble_eq_true rfl) hd) e_19 t_k0) ML_X12_335 MV_X12_doorOf rfl t_k0 rfl rfl (Nat.le_of_ble_eq_true rfl) dX12_tried_49 ?_
          obtain ⟨h_23, e_22, hf⟩ := ov_s hf
          refine V_cvv (As := [.int r_21]) (rest := []) (c_X12_go (d := d) (Nat.le_trans (Nat.le_of_ble_eq_true rfl) hd) e_22 t_k0) ML_X12_338 MV_X12_go rfl t_k0 rfl rfl (Nat.le_of_ble_eq_true rfl) dX12_tried_52 ?_
          refine V_aload_n 0 dX12_tried_55 rfl rfl ?_
          refine V_getR F_X12_63 rfl t_k0 rfl dX12_tried_56 ?_
          refine V_iload 4 dX12_tried_59 rfl ?_
          obtain ⟨b_24, hf⟩ := og_s hf
          refine V_iald (rfA t_k0 (Nat.le_of_ble_eq_true rfl) rfl rfl (by decide)) b_24 dX12_tried_61 ?_
          exact V_iret rfl (so_s hf) dX12_tried_62
        · have hf := it_s c_18 hf
          refine V_sub [] rfl ?_
          exact v_X12_tried_41 hd hf
theorem dX12_worst_0 : decode cX12_worst 0 = .ok (.aload_n 0, 1) := by decide +kernel
theorem dX12_worst_1 : decode cX12_worst 1 = .ok (.iconst 0, 1) := by decide +kernel
theorem dX12_worst_2 : decode cX12_worst 2 = .ok (.putfield 120, 3) := by decide +kernel
theorem dX12_worst_5 : decode cX12_worst 5 = .ok (.aload_n 0, 1) := by decide +kernel
theorem dX12_worst_6 : decode cX12_worst 6 = .ok (.iload_n 1, 1) := by decide +kernel
theorem dX12_worst_7 : decode cX12_worst 7 = .ok (.iload_n 2, 1) := by decide +kernel
theorem dX12_worst_8 : decode cX12_worst 8 = .ok (.iload_n 3, 1) := by decide +kernel
theorem dX12_worst_9 : decode cX12_worst 9 = .ok (.invokevirtual 360, 3) := by decide +kernel
theorem dX12_worst_12 : decode cX12_worst 12 = .ok (.ifCond .ne 5, 3) := by decide +kernel
theorem dX12_worst_15 : decode cX12_worst 15 = .ok (.iconst (-1), 1) := by decide +kernel
theorem dX12_worst_16 : decode cX12_worst 16 = .ok (.ireturn, 1) := by decide +kernel
theorem dX12_worst_17 : decode cX12_worst 17 = .ok (.aload_n 0, 1) := by decide +kernel
theorem dX12_worst_18 : decode cX12_worst 18 = .ok (.iload_n 2, 1) := by decide +kernel
theorem dX12_worst_19 : decode cX12_worst 19 = .ok (.invokevirtual 367, 3) := by decide +kernel
theorem dX12_worst_22 : decode cX12_worst 22 = .ok (.iconst 0, 1) := by decide +kernel
theorem dX12_worst_23 : decode cX12_worst 23 = .ok (.istore 4, 2) := by decide +kernel
theorem dX12_worst_25 : decode cX12_worst 25 = .ok (.iload 4, 2) := by decide +kernel
theorem dX12_worst_27 : decode cX12_worst 27 = .ok (.bipush 6, 2) := by decide +kernel
theorem dX12_worst_29 : decode cX12_worst 29 = .ok (.if_icmp .ge 17, 3) := by decide +kernel
theorem dX12_worst_32 : decode cX12_worst 32 = .ok (.aload_n 0, 1) := by decide +kernel
theorem dX12_worst_33 : decode cX12_worst 33 = .ok (.getfield 72, 3) := by decide +kernel
theorem dX12_worst_36 : decode cX12_worst 36 = .ok (.iload 4, 2) := by decide +kernel
theorem dX12_worst_38 : decode cX12_worst 38 = .ok (.iconst 0, 1) := by decide +kernel
theorem dX12_worst_39 : decode cX12_worst 39 = .ok (.iastore, 1) := by decide +kernel
theorem dX12_worst_40 : decode cX12_worst 40 = .ok (.iinc 4 1, 3) := by decide +kernel
theorem dX12_worst_43 : decode cX12_worst 43 = .ok (.goto (-18), 3) := by decide +kernel
theorem dX12_worst_46 : decode cX12_worst 46 = .ok (.iconst 0, 1) := by decide +kernel
theorem dX12_worst_47 : decode cX12_worst 47 = .ok (.istore 4, 2) := by decide +kernel
theorem dX12_worst_49 : decode cX12_worst 49 = .ok (.iload 4, 2) := by decide +kernel
theorem dX12_worst_51 : decode cX12_worst 51 = .ok (.aload_n 0, 1) := by decide +kernel
theorem dX12_worst_52 : decode cX12_worst 52 = .ok (.getfield 353, 3) := by decide +kernel
theorem dX12_worst_55 : decode cX12_worst 55 = .ok (.if_icmp .ge 70, 3) := by decide +kernel
theorem dX12_worst_58 : decode cX12_worst 58 = .ok (.aload_n 0, 1) := by decide +kernel
theorem dX12_worst_59 : decode cX12_worst 59 = .ok (.iload 4, 2) := by decide +kernel
theorem dX12_worst_61 : decode cX12_worst 61 = .ok (.iload_n 2, 1) := by decide +kernel
theorem dX12_worst_62 : decode cX12_worst 62 = .ok (.aload_n 0, 1) := by decide +kernel
theorem dX12_worst_63 : decode cX12_worst 63 = .ok (.iload_n 1, 1) := by decide +kernel
theorem dX12_worst_64 : decode cX12_worst 64 = .ok (.iload_n 2, 1) := by decide +kernel
theorem dX12_worst_65 : decode cX12_worst 65 = .ok (.invokevirtual 335, 3) := by decide +kernel
theorem dX12_worst_68 : decode cX12_worst 68 = .ok (.invokevirtual 370, 3) := by decide +kernel
theorem dX12_worst_71 : decode cX12_worst 71 = .ok (.iconst 0, 1) := by decide +kernel
theorem dX12_worst_72 : decode cX12_worst 72 = .ok (.istore 5, 2) := by decide +kernel
theorem dX12_worst_74 : decode cX12_worst 74 = .ok (.iload 5, 2) := by decide +kernel
theorem dX12_worst_76 : decode cX12_worst 76 = .ok (.aload_n 0, 1) := by decide +kernel
theorem dX12_worst_77 : decode cX12_worst 77 = .ok (.getfield 321, 3) := by decide +kernel
theorem dX12_worst_80 : decode cX12_worst 80 = .ok (.if_icmp .ge 39, 3) := by decide +kernel
theorem dX12_worst_83 : decode cX12_worst 83 = .ok (.aload_n 0, 1) := by decide +kernel
theorem dX12_worst_84 : decode cX12_worst 84 = .ok (.getfield 72, 3) := by decide +kernel
theorem dX12_worst_87 : decode cX12_worst 87 = .ok (.iload 5, 2) := by decide +kernel
theorem dX12_worst_89 : decode cX12_worst 89 = .ok (.dup2, 1) := by decide +kernel
theorem dX12_worst_90 : decode cX12_worst 90 = .ok (.iaload, 1) := by decide +kernel
theorem dX12_worst_91 : decode cX12_worst 91 = .ok (.aload_n 0, 1) := by decide +kernel
theorem dX12_worst_92 : decode cX12_worst 92 = .ok (.getfield 60, 3) := by decide +kernel
theorem dX12_worst_95 : decode cX12_worst 95 = .ok (.iload 5, 2) := by decide +kernel
theorem dX12_worst_97 : decode cX12_worst 97 = .ok (.iaload, 1) := by decide +kernel
theorem dX12_worst_98 : decode cX12_worst 98 = .ok (.iload_n 3, 1) := by decide +kernel
theorem dX12_worst_99 : decode cX12_worst 99 = .ok (.if_icmp .ne 11, 3) := by decide +kernel
theorem dX12_worst_102 : decode cX12_worst 102 = .ok (.aload_n 0, 1) := by decide +kernel
theorem dX12_worst_103 : decode cX12_worst 103 = .ok (.iload_n 3, 1) := by decide +kernel
theorem dX12_worst_104 : decode cX12_worst 104 = .ok (.invokevirtual 373, 3) := by decide +kernel
theorem dX12_worst_107 : decode cX12_worst 107 = .ok (.goto 4, 3) := by decide +kernel
theorem dX12_worst_110 : decode cX12_worst 110 = .ok (.iconst 0, 1) := by decide +kernel
theorem dX12_worst_111 : decode cX12_worst 111 = .ok (.iadd, 1) := by decide +kernel
theorem dX12_worst_112 : decode cX12_worst 112 = .ok (.iastore, 1) := by decide +kernel
theorem dX12_worst_113 : decode cX12_worst 113 = .ok (.iinc 5 1, 3) := by decide +kernel
theorem dX12_worst_116 : decode cX12_worst 116 = .ok (.goto (-42), 3) := by decide +kernel
theorem dX12_worst_119 : decode cX12_worst 119 = .ok (.iinc 4 1, 3) := by decide +kernel
theorem dX12_worst_122 : decode cX12_worst 122 = .ok (.goto (-73), 3) := by decide +kernel
theorem dX12_worst_125 : decode cX12_worst 125 = .ok (.iconst 0, 1) := by decide +kernel
theorem dX12_worst_126 : decode cX12_worst 126 = .ok (.istore 4, 2) := by decide +kernel
theorem dX12_worst_128 : decode cX12_worst 128 = .ok (.iconst 1, 1) := by decide +kernel
theorem dX12_worst_129 : decode cX12_worst 129 = .ok (.istore 5, 2) := by decide +kernel
theorem dX12_worst_131 : decode cX12_worst 131 = .ok (.iload 5, 2) := by decide +kernel
theorem dX12_worst_133 : decode cX12_worst 133 = .ok (.aload_n 0, 1) := by decide +kernel
theorem dX12_worst_134 : decode cX12_worst 134 = .ok (.getfield 321, 3) := by decide +kernel
theorem dX12_worst_137 : decode cX12_worst 137 = .ok (.if_icmp .ge 30, 3) := by decide +kernel
theorem dX12_worst_140 : decode cX12_worst 140 = .ok (.aload_n 0, 1) := by decide +kernel
theorem dX12_worst_141 : decode cX12_worst 141 = .ok (.getfield 72, 3) := by decide +kernel
theorem dX12_worst_144 : decode cX12_worst 144 = .ok (.iload 5, 2) := by decide +kernel
theorem dX12_worst_146 : decode cX12_worst 146 = .ok (.iaload, 1) := by decide +kernel
theorem dX12_worst_147 : decode cX12_worst 147 = .ok (.aload_n 0, 1) := by decide +kernel
theorem dX12_worst_148 : decode cX12_worst 148 = .ok (.getfield 72, 3) := by decide +kernel
theorem dX12_worst_151 : decode cX12_worst 151 = .ok (.iload 4, 2) := by decide +kernel
theorem dX12_worst_153 : decode cX12_worst 153 = .ok (.iaload, 1) := by decide +kernel
theorem dX12_worst_154 : decode cX12_worst 154 = .ok (.if_icmp .ge 7, 3) := by decide +kernel
theorem dX12_worst_157 : decode cX12_worst 157 = .ok (.iload 5, 2) := by decide +kernel
theorem dX12_worst_159 : decode cX12_worst 159 = .ok (.istore 4, 2) := by decide +kernel
theorem dX12_worst_161 : decode cX12_worst 161 = .ok (.iinc 5 1, 3) := by decide +kernel
theorem dX12_worst_164 : decode cX12_worst 164 = .ok (.goto (-33), 3) := by decide +kernel
theorem dX12_worst_167 : decode cX12_worst 167 = .ok (.iload 4, 2) := by decide +kernel
theorem dX12_worst_169 : decode cX12_worst 169 = .ok (.ireturn, 1) := by decide +kernel
theorem F_X12_72 : FLk RX12 72 12 35 := ⟨RX12, TX12, 58, rfl, rfl, iw_X12, by decide, Or.inl fl_X12_72⟩
def f_X12_worst_111 (q74 : Nat → Int32 → Int32 → Int32 → Int32 → Int32 → AH → Option (Int32 × AH)) (k0 : Nat) (x1 : Int32) (x2 : Int32) (x3 : Int32) (x4 : Int32) (x5 : Int32) (s0 : Int32) (s1 : Int32) (s2 : Int32) (sk3 : Nat) (h : AH) : Option (Int32 × AH) :=
  og (ix s2 (an sk3)) <|
  nm (sI h sk3 s2.toNatClampNeg (s1 + s0)) fun h_2 =>
  nm (x5 + 1) fun x5_4 =>
  q74 k0 x1 x2 x3 x4 x5_4 h_2
def f_X12_worst_74 (q49 : Nat → Int32 → Int32 → Int32 → Int32 → AH → Option (Int32 × AH)) : Nat → Nat → Int32 → Int32 → Int32 → Int32 → Int32 → AH → Option (Int32 × AH)
  | 0, _, _, _, _, _, _, _ => none
  | n + 1, k0, x1, x2, x3, x4, x5, h =>
    if (h.1 k0 29) ≤ x5 then (
      nm (x4 + 1) fun x4_2 =>
      q49 k0 x1 x2 x3 x4_2 h
    ) else (
      og (ix x5 (an (rf k0 35))) <|
      og (ix x5 (an (rf k0 27))) <|
      if (h.1 (rf k0 27) x5.toNatClampNeg) = x3 then (
        ob (f_X12_worthOf k0 x3 h) fun r_9 h_8 =>
        f_X12_worst_111 (f_X12_worst_74 q49 n) k0 x1 x2 x3 x4 x5 r_9 (h.1 (rf k0 35) x5.toNatClampNeg) x5 (rf k0 35) h_8
      ) else (
        f_X12_worst_111 (f_X12_worst_74 q49 n) k0 x1 x2 x3 x4 x5 0 (h.1 (rf k0 35) x5.toNatClampNeg) x5 (rf k0 35) h
      )
    )
def f_X12_worst_161 (q131 : Nat → Int32 → Int32 → AH → Option (Int32 × AH)) (k0 : Nat) (x4 : Int32) (x5 : Int32) (h : AH) : Option (Int32 × AH) :=
  nm (x5 + 1) fun x5_1 =>
  q131 k0 x4 x5_1 h
def f_X12_worst_131 : Nat → Nat → Int32 → Int32 → AH → Option (Int32 × AH)
  | 0, _, _, _, _ => none
  | n + 1, k0, x4, x5, h =>
    if (h.1 k0 29) ≤ x5 then (
      some (x4, h)
    ) else (
      og (ix x5 (an (rf k0 35))) <|
      og (ix x4 (an (rf k0 35))) <|
      if (h.1 (rf k0 35) x4.toNatClampNeg) ≤ (h.1 (rf k0 35) x5.toNatClampNeg) then (
        f_X12_worst_161 (f_X12_worst_131 n) k0 x4 x5 h
      ) else (
        f_X12_worst_161 (f_X12_worst_131 n) k0 x5 x5 h
      )
    )
def f_X12_worst_49 : Nat → Nat → Int32 → Int32 → Int32 → Int32 → AH → Option (Int32 × AH)
  | 0, _, _, _, _, _, _ => none
  | n + 1, k0, x1, x2, x3, x4, h =>
    if (h.1 k0 34) ≤ x4 then (
      f_X12_worst_131 FU k0 0 1 h
    ) else (
      ob (f_X12_doorOf k0 x1 x2 h) fun r_4 h_3 =>
      ov (f_X12_goWay k0 x4 x2 r_4 h_3) fun h_6 =>
      f_X12_worst_74 (f_X12_worst_49 n) FU k0 x1 x2 x3 x4 0 h_6
    )
def f_X12_worst_25 : Nat → Nat → Int32 → Int32 → Int32 → Int32 → AH → Option (Int32 × AH)
  | 0, _, _, _, _, _, _ => none
  | n + 1, k0, x1, x2, x3, x4, h =>
    if 6 ≤ x4 then (
      f_X12_worst_49 FU k0 x1 x2 x3 0 h
    ) else (
      og (ix x4 (an (rf k0 35))) <|
      nm (sI h (rf k0 35) x4.toNatClampNeg 0) fun h_3 =>
      nm (x4 + 1) fun x4_5 =>
      f_X12_worst_25 n k0 x1 x2 x3 x4_5 h_3
    )
def f_X12_worst (k0 : Nat) (x1 : Int32) (x2 : Int32) (x3 : Int32) (h : AH) : Option (Int32 × AH) :=
  nm (sI h k0 0 0) fun h_1 =>
  ob (f_X12_isGuest k0 x1 x2 x3 h_1) fun r_5 h_4 =>
  if r_5 = 0 then (
    some ((-1), h_4)
  ) else (
    ov (f_X12_allWays k0 x2 h_4) fun h_8 =>
    f_X12_worst_25 FU k0 x1 x2 x3 0 h_8
  )
set_option maxHeartbeats 4000000 in
set_option maxRecDepth 100000 in
theorem v_X12_worst_111 {E : EV} {d : Nat} (hd : 1461 ≤ d) {r0 : Int32} {h0 : AH} {q74 : Nat → Int32 → Int32 → Int32 → Int32 → Int32 → AH → Option (Int32 × AH)} (cq74 : ∀ (k0 : Nat) (x1 : Int32) (x2 : Int32) (x3 : Int32) (x4 : Int32) (x5 : Int32) (h : AH), q74 k0 x1 x2 x3 x4 x5 h = some (r0, h0) → kd k0 = (0, 12) → V E (d + 1) K_X12_worst (ZI E r0 h0) h [(0, .ref k0), (1, .int x1), (2, .int x2), (3, .int x3), (4, .int x4), (5, .int x5)] [] 74) {k0 : Nat} {x1 : Int32} {x2 : Int32} {x3 : Int32} {x4 : Int32} {x5 : Int32} {s0 : Int32} {s1 : Int32} {s2 : Int32} {sk3 : Nat} {h : AH} (hf : f_X12_worst_111 q74 k0 x1 x2 x3 x4 x5 s0 s1 s2 sk3 h = some (r0, h0)) (t_k0 : kd k0 = (0, 12)) (t_sk3 : (kd sk3).1 = 1) : V E (d + 1) K_X12_worst (ZI E r0 h0) h [(0, .ref k0), (1, .int x1), (2, .int x2), (3, .int x3), (4, .int x4), (5, .int x5)] [.int s0, .int s1, .int s2, .ref sk3] 111 := by
  unfold f_X12_worst_111 at hf
  refine V_iadd dX12_worst_111 ?_
  obtain ⟨b_1, hf⟩ := og_s hf
  obtain ⟨h_2, e_3, hf⟩ := nm_s hf
  refine V_iast t_sk3 b_1 e_3 dX12_worst_112 ?_
  obtain ⟨x5_4, e_5, hf⟩ := nm_s hf
  refine V_iinc (a := 1) (L' := [(5, .int x5_4), (0, .ref k0), (1, .int x1), (2, .int x2), (3, .int x3), (4, .int x4)]) 5 dX12_worst_113 rfl (by decide) (Nat.le_of_ble_eq_true rfl) e_5 rfl ?_
  refine V_goto (tgt := 74) dX12_worst_116 (by decide) ?_
  refine V_sub [1, 2, 3, 4, 5, 0] rfl ?_
  exact cq74 _ _ _ _ _ _ _ hf t_k0
set_option maxHeartbeats 4000000 in
set_option maxRecDepth 100000 in
theorem v_X12_worst_74 {E : EV} {d : Nat} (hd : 1461 ≤ d) {r0 : Int32} {h0 : AH} {q49 : Nat → Int32 → Int32 → Int32 → Int32 → AH → Option (Int32 × AH)} (cq49 : ∀ (k0 : Nat) (x1 : Int32) (x2 : Int32) (x3 : Int32) (x4 : Int32) (h : AH), q49 k0 x1 x2 x3 x4 h = some (r0, h0) → kd k0 = (0, 12) → V E (d + 1) K_X12_worst (ZI E r0 h0) h [(0, .ref k0), (1, .int x1), (2, .int x2), (3, .int x3), (4, .int x4)] [] 49) : ∀ (n : Nat) (k0 : Nat) (x1 : Int32) (x2 : Int32) (x3 : Int32) (x4 : Int32) (x5 : Int32) (h : AH), f_X12_worst_74 q49 n k0 x1 x2 x3 x4 x5 h = some (r0, h0) → kd k0 = (0, 12) → V E (d + 1) K_X12_worst (ZI E r0 h0) h [(0, .ref k0), (1, .int x1), (2, .int x2), (3, .int x3), (4, .int x4), (5, .int x5)] [] 74 := by
  intro n
  induction n with
  | zero =>
    intro k0 x1 x2 x3 x4 x5 h hf
    rw [f_X12_worst_74] at hf
    cases hf
  | succ n ih =>
    intro k0 x1 x2 x3 x4 x5 h hf t_k0
    rw [f_X12_worst_74] at hf
    refine V_iload 5 dX12_worst_74 rfl ?_
    refine V_aload_n 0 dX12_worst_76 rfl rfl ?_
    refine V_getI F_X12_321 rfl t_k0 rfl dX12_worst_77 ?_
    refine V_ic_ge (tgt := 119) dX12_worst_80 (by decide) (fun c_1 => ?_) (fun c_1 => ?_)
    · have hf := it_s c_1 hf
      obtain ⟨x4_2, e_3, hf⟩ := nm_s hf
      refine V_iinc (a := 1) (L' := [(4, .int x4_2), (0, .ref k0), (1, .int x1), (2, .int x2), (3, .int x3), (5, .int x5)]) 4 dX12_worst_119 rfl (by decide) (Nat.le_of_ble_eq_true rfl) e_3 rfl ?_
      refine V_goto (tgt := 49) dX12_worst_122 (by decide) ?_
      refine V_sub [1, 2, 3, 4, 0] rfl ?_
      exact cq49 _ _ _ _ _ _ hf t_k0
    · have hf := if_s c_1 hf
      refine V_aload_n 0 dX12_worst_83 rfl rfl ?_
      refine V_getR F_X12_72 rfl t_k0 rfl dX12_worst_84 ?_
      refine V_iload 5 dX12_worst_87 rfl ?_
      refine V_dup2 dX12_worst_89 rfl rfl ?_
      obtain ⟨b_4, hf⟩ := og_s hf
      refine V_iald (rfA t_k0 (Nat.le_of_ble_eq_true rfl) rfl rfl (by decide)) b_4 dX12_worst_90 ?_
      refine V_aload_n 0 dX12_worst_91 rfl rfl ?_
      refine V_getR F_X12_60 rfl t_k0 rfl dX12_worst_92 ?_
      refine V_iload 5 dX12_worst_95 rfl ?_
      obtain ⟨b_5, hf⟩ := og_s hf
      refine V_iald (rfA t_k0 (Nat.le_of_ble_eq_true rfl) rfl rfl (by decide)) b_5 dX12_worst_97 ?_
      refine V_iload_n 3 dX12_worst_98 rfl rfl ?_
      refine V_ic_ne (tgt := 110) dX12_worst_99 (by decide) (fun c_6 => ?_) (fun c_6 => ?_)
      · have hf := if_s c_6 hf
        refine V_iconst (v := 0) dX12_worst_110 (by decide) ?_
        exact v_X12_worst_111 hd ih hf t_k0 (rfA t_k0 (Nat.le_of_ble_eq_true rfl) rfl rfl (by decide))
      · have hf := it_s c_6 hf
        refine V_aload_n 0 dX12_worst_102 rfl rfl ?_
        refine V_iload_n 3 dX12_worst_103 rfl rfl ?_
        obtain ⟨r_9, h_8, e_7, hf⟩ := ob_s hf
        refine V_cvi (As := [.int x3]) (rest := [.int (h.1 (rf k0 35) x5.toNatClampNeg), .int x5, .ref (rf k0 35)]) (c_X12_worthOf (d := d) (Nat.le_trans (Nat.le_of_ble_eq_true rfl) hd) e_7 t_k0) ML_X12_373 MV_X12_worthOf rfl t_k0 rfl rfl (Nat.le_of_ble_eq_true rfl) dX12_worst_104 ?_
        refine V_goto (tgt := 111) dX12_worst_107 (by decide) ?_
        exact v_X12_worst_111 hd ih hf t_k0 (rfA t_k0 (Nat.le_of_ble_eq_true rfl) rfl rfl (by decide))
set_option maxHeartbeats 4000000 in
set_option maxRecDepth 100000 in
theorem v_X12_worst_161 {E : EV} {d : Nat} (hd : 1461 ≤ d) {r0 : Int32} {h0 : AH} {q131 : Nat → Int32 → Int32 → AH → Option (Int32 × AH)} (cq131 : ∀ (k0 : Nat) (x4 : Int32) (x5 : Int32) (h : AH), q131 k0 x4 x5 h = some (r0, h0) → kd k0 = (0, 12) → V E (d + 1) K_X12_worst (ZI E r0 h0) h [(0, .ref k0), (4, .int x4), (5, .int x5)] [] 131) {k0 : Nat} {x4 : Int32} {x5 : Int32} {h : AH} (hf : f_X12_worst_161 q131 k0 x4 x5 h = some (r0, h0)) (t_k0 : kd k0 = (0, 12)) : V E (d + 1) K_X12_worst (ZI E r0 h0) h [(0, .ref k0), (4, .int x4), (5, .int x5)] [] 161 := by
  unfold f_X12_worst_161 at hf
  obtain ⟨x5_1, e_2, hf⟩ := nm_s hf
  refine V_iinc (a := 1) (L' := [(5, .int x5_1), (0, .ref k0), (4, .int x4)]) 2 dX12_worst_161 rfl (by decide) (Nat.le_of_ble_eq_true rfl) e_2 rfl ?_
  refine V_goto (tgt := 131) dX12_worst_164 (by decide) ?_
  refine V_sub [1, 2, 0] rfl ?_
  exact cq131 _ _ _ _ hf t_k0
set_option maxHeartbeats 4000000 in
set_option maxRecDepth 100000 in
theorem v_X12_worst_131 {E : EV} {d : Nat} (hd : 1461 ≤ d) {r0 : Int32} {h0 : AH} : ∀ (n : Nat) (k0 : Nat) (x4 : Int32) (x5 : Int32) (h : AH), f_X12_worst_131 n k0 x4 x5 h = some (r0, h0) → kd k0 = (0, 12) → V E (d + 1) K_X12_worst (ZI E r0 h0) h [(0, .ref k0), (4, .int x4), (5, .int x5)] [] 131 := by
  intro n
  induction n with
  | zero =>
    intro k0 x4 x5 h hf
    rw [f_X12_worst_131] at hf
    cases hf
  | succ n ih =>
    intro k0 x4 x5 h hf t_k0
    rw [f_X12_worst_131] at hf
    refine V_iload 2 dX12_worst_131 rfl ?_
    refine V_aload_n 0 dX12_worst_133 rfl rfl ?_
    refine V_getI F_X12_321 rfl t_k0 rfl dX12_worst_134 ?_
    refine V_ic_ge (tgt := 167) dX12_worst_137 (by decide) (fun c_1 => ?_) (fun c_1 => ?_)
    · have hf := it_s c_1 hf
      refine V_iload 1 dX12_worst_167 rfl ?_
      exact V_iret rfl (so_s hf) dX12_worst_169
    · have hf := if_s c_1 hf
      refine V_aload_n 0 dX12_worst_140 rfl rfl ?_
      refine V_getR F_X12_72 rfl t_k0 rfl dX12_worst_141 ?_
      refine V_iload 2 dX12_worst_144 rfl ?_
      obtain ⟨b_2, hf⟩ := og_s hf
      refine V_iald (rfA t_k0 (Nat.le_of_ble_eq_true rfl) rfl rfl (by decide)) b_2 dX12_worst_146 ?_
      refine V_aload_n 0 dX12_worst_147 rfl rfl ?_
      refine V_getR F_X12_72 rfl t_k0 rfl dX12_worst_148 ?_
      refine V_iload 1 dX12_worst_151 rfl ?_
      obtain ⟨b_3, hf⟩ := og_s hf
      refine V_iald (rfA t_k0 (Nat.le_of_ble_eq_true rfl) rfl rfl (by decide)) b_3 dX12_worst_153 ?_
      refine V_ic_ge (tgt := 161) dX12_worst_154 (by decide) (fun c_4 => ?_) (fun c_4 => ?_)
      · have hf := it_s c_4 hf
        exact v_X12_worst_161 hd ih hf t_k0
      · have hf := if_s c_4 hf
        refine V_iload 2 dX12_worst_157 rfl ?_
        refine V_istore (L' := [(4, .int x5), (0, .ref k0), (5, .int x5)]) dX12_worst_159 (Nat.le_of_ble_eq_true rfl) rfl rfl ?_
        refine V_sub [1, 0, 2] rfl ?_
        exact v_X12_worst_161 hd ih hf t_k0
set_option maxHeartbeats 4000000 in
set_option maxRecDepth 100000 in
theorem v_X12_worst_49 {E : EV} {d : Nat} (hd : 1461 ≤ d) {r0 : Int32} {h0 : AH} : ∀ (n : Nat) (k0 : Nat) (x1 : Int32) (x2 : Int32) (x3 : Int32) (x4 : Int32) (h : AH), f_X12_worst_49 n k0 x1 x2 x3 x4 h = some (r0, h0) → kd k0 = (0, 12) → V E (d + 1) K_X12_worst (ZI E r0 h0) h [(0, .ref k0), (1, .int x1), (2, .int x2), (3, .int x3), (4, .int x4)] [] 49 := by
  intro n
  induction n with
  | zero =>
    intro k0 x1 x2 x3 x4 h hf
    rw [f_X12_worst_49] at hf
    cases hf
  | succ n ih =>
    intro k0 x1 x2 x3 x4 h hf t_k0
    rw [f_X12_worst_49] at hf
    refine V_iload 4 dX12_worst_49 rfl ?_
    refine V_aload_n 0 dX12_worst_51 rfl rfl ?_
    refine V_getI F_X12_353 rfl t_k0 rfl dX12_worst_52 ?_
    refine V_ic_ge (tgt := 125) dX12_worst_55 (by decide) (fun c_1 => ?_) (fun c_1 => ?_)
    · have hf := it_s c_1 hf
      refine V_iconst (v := 0) dX12_worst_125 (by decide) ?_
      refine V_istore (L' := [(4, .int 0), (0, .ref k0), (1, .int x1), (2, .int x2), (3, .int x3)]) dX12_worst_126 (Nat.le_of_ble_eq_true rfl) rfl rfl ?_
      refine V_iconst (v := 1) dX12_worst_128 (by decide) ?_
      refine V_istore (L' := [(5, .int 1), (4, .int 0), (0, .ref k0), (1, .int x1), (2, .int x2), (3, .int x3)]) dX12_worst_129 (Nat.le_of_ble_eq_true rfl) rfl rfl ?_
      refine V_sub [2, 1, 0] rfl ?_
      exact v_X12_worst_131 hd FU _ _ _ _ hf t_k0
    · have hf := if_s c_1 hf
      refine V_aload_n 0 dX12_worst_58 rfl rfl ?_
      refine V_iload 4 dX12_worst_59 rfl ?_
      refine V_iload_n 2 dX12_worst_61 rfl rfl ?_
      refine V_aload_n 0 dX12_worst_62 rfl rfl ?_
      refine V_iload_n 1 dX12_worst_63 rfl rfl ?_
      refine V_iload_n 2 dX12_worst_64 rfl rfl ?_
      obtain ⟨r_4, h_3, e_2, hf⟩ := ob_s hf
      refine V_cvi (As := [.int x1, .int x2]) (rest := [.int x2, .int x4, .ref k0]) (c_X12_doorOf (d := d) (Nat.le_trans (Nat.le_of_ble_eq_true rfl) hd) e_2 t_k0) ML_X12_335 MV_X12_doorOf rfl t_k0 rfl rfl (Nat.le_of_ble_eq_true rfl) dX12_worst_65 ?_
      obtain ⟨h_6, e_5, hf⟩ := ov_s hf
      refine V_cvv (As := [.int x4, .int x2, .int r_4]) (rest := []) (c_X12_goWay (d := d) (Nat.le_trans (Nat.le_of_ble_eq_true rfl) hd) e_5 t_k0) ML_X12_370 MV_X12_goWay rfl t_k0 rfl rfl (Nat.le_of_ble_eq_true rfl) dX12_worst_68 ?_
      refine V_iconst (v := 0) dX12_worst_71 (by decide) ?_
      refine V_istore (L' := [(5, .int 0), (0, .ref k0), (1, .int x1), (2, .int x2), (3, .int x3), (4, .int x4)]) dX12_worst_72 (Nat.le_of_ble_eq_true rfl) rfl rfl ?_
      refine V_sub [1, 2, 3, 4, 5, 0] rfl ?_
      exact v_X12_worst_74 hd ih FU _ _ _ _ _ _ _ hf t_k0
set_option maxHeartbeats 4000000 in
set_option maxRecDepth 100000 in
theorem v_X12_worst_25 {E : EV} {d : Nat} (hd : 1461 ≤ d) {r0 : Int32} {h0 : AH} : ∀ (n : Nat) (k0 : Nat) (x1 : Int32) (x2 : Int32) (x3 : Int32) (x4 : Int32) (h : AH), f_X12_worst_25 n k0 x1 x2 x3 x4 h = some (r0, h0) → kd k0 = (0, 12) → V E (d + 1) K_X12_worst (ZI E r0 h0) h [(0, .ref k0), (1, .int x1), (2, .int x2), (3, .int x3), (4, .int x4)] [] 25 := by
  intro n
  induction n with
  | zero =>
    intro k0 x1 x2 x3 x4 h hf
    rw [f_X12_worst_25] at hf
    cases hf
  | succ n ih =>
    intro k0 x1 x2 x3 x4 h hf t_k0
    rw [f_X12_worst_25] at hf
    refine V_iload 4 dX12_worst_25 rfl ?_
    refine V_bipush (v := 6) dX12_worst_27 (by decide) ?_
    refine V_ic_ge (tgt := 46) dX12_worst_29 (by decide) (fun c_1 => ?_) (fun c_1 => ?_)
    · have hf := it_s c_1 hf
      refine V_iconst (v := 0) dX12_worst_46 (by decide) ?_
      refine V_istore (L' := [(4, .int 0), (0, .ref k0), (1, .int x1), (2, .int x2), (3, .int x3)]) dX12_worst_47 (Nat.le_of_ble_eq_true rfl) rfl rfl ?_
      refine V_sub [1, 2, 3, 4, 0] rfl ?_
      exact v_X12_worst_49 hd FU _ _ _ _ _ _ hf t_k0
    · have hf := if_s c_1 hf
      refine V_aload_n 0 dX12_worst_32 rfl rfl ?_
      refine V_getR F_X12_72 rfl t_k0 rfl dX12_worst_33 ?_
      refine V_iload 4 dX12_worst_36 rfl ?_
      refine V_iconst (v := 0) dX12_worst_38 (by decide) ?_
      obtain ⟨b_2, hf⟩ := og_s hf
      obtain ⟨h_3, e_4, hf⟩ := nm_s hf
      refine V_iast (rfA t_k0 (Nat.le_of_ble_eq_true rfl) rfl rfl (by decide)) b_2 e_4 dX12_worst_39 ?_
      obtain ⟨x4_5, e_6, hf⟩ := nm_s hf
      refine V_iinc (a := 1) (L' := [(4, .int x4_5), (0, .ref k0), (1, .int x1), (2, .int x2), (3, .int x3)]) 4 dX12_worst_40 rfl (by decide) (Nat.le_of_ble_eq_true rfl) e_6 rfl ?_
      refine V_goto (tgt := 25) dX12_worst_43 (by decide) ?_
      refine V_sub [1, 2, 3, 4, 0] rfl ?_
      exact ih _ _ _ _ _ _ hf t_k0
set_option maxHeartbeats 4000000 in
set_option maxRecDepth 100000 in
theorem c_X12_worst {E : EV} {d : Nat} (hd : 1461 + 1 ≤ d) {k0 : Nat} {x1 : Int32} {x2 : Int32} {x3 : Int32} {h : AH} {r0 : Int32} {h0 : AH} (hf : f_X12_worst k0 x1 x2 x3 h = some (r0, h0)) (t_k0 : kd k0 = (0, 12)) : Con E d K_X12_worst (ZI E r0 h0) [.ref k0, .int x1, .int x2, .int x3] h := by
  obtain ⟨d, rfl⟩ : ∃ d', d = d' + 1 := ⟨d - 1, by omega⟩
  have hd := Nat.le_of_succ_le_succ hd
  refine Con.ofV rfl (Nat.le_of_ble_eq_true rfl) ?_
  unfold f_X12_worst at hf
  show V E (d + 1) K_X12_worst (ZI E r0 h0) h [(0, .ref k0), (1, .int x1), (2, .int x2), (3, .int x3)] [] 0
  refine V_aload_n 0 dX12_worst_0 rfl rfl ?_
  refine V_iconst (v := 0) dX12_worst_1 (by decide) ?_
  obtain ⟨h_1, e_2, hf⟩ := nm_s hf
  refine V_putI P_X12_120 rfl t_k0 rfl e_2 dX12_worst_2 ?_
  refine V_aload_n 0 dX12_worst_5 rfl rfl ?_
  refine V_iload_n 1 dX12_worst_6 rfl rfl ?_
  refine V_iload_n 2 dX12_worst_7 rfl rfl ?_
  refine V_iload_n 3 dX12_worst_8 rfl rfl ?_
  obtain ⟨r_5, h_4, e_3, hf⟩ := ob_s hf
  refine V_cvi (As := [.int x1, .int x2, .int x3]) (rest := []) (c_X12_isGuest (d := d) (Nat.le_trans (Nat.le_of_ble_eq_true rfl) hd) e_3 t_k0) ML_X12_360 MV_X12_isGuest rfl t_k0 rfl rfl (Nat.le_of_ble_eq_true rfl) dX12_worst_9 ?_
  refine V_if_ne (tgt := 17) dX12_worst_12 (by decide) (fun c_6 => ?_) (fun c_6 => ?_)
  · have hf := if_s c_6 hf
    refine V_aload_n 0 dX12_worst_17 rfl rfl ?_
    refine V_iload_n 2 dX12_worst_18 rfl rfl ?_
    obtain ⟨h_8, e_7, hf⟩ := ov_s hf
    refine V_cvv (As := [.int x2]) (rest := []) (c_X12_allWays (d := d) (Nat.le_trans (Nat.le_of_ble_eq_true rfl) hd) e_7 t_k0) ML_X12_367 MV_X12_allWays rfl t_k0 rfl rfl (Nat.le_of_ble_eq_true rfl) dX12_worst_19 ?_
    refine V_iconst (v := 0) dX12_worst_22 (by decide) ?_
    refine V_istore (L' := [(4, .int 0), (0, .ref k0), (1, .int x1), (2, .int x2), (3, .int x3)]) dX12_worst_23 (Nat.le_of_ble_eq_true rfl) rfl rfl ?_
    refine V_sub [1, 2, 3, 4, 0] rfl ?_
    exact v_X12_worst_25 hd FU _ _ _ _ _ _ hf t_k0
  · have hf := it_s c_6 hf
    refine V_iconst (v := (-1)) dX12_worst_15 (by decide) ?_
    exact V_iret rfl (so_s hf) dX12_worst_16
theorem dX12_year_0 : decode cX12_year 0 = .ok (.aload_n 0, 1) := by decide +kernel
theorem dX12_year_1 : decode cX12_year 1 = .ok (.iconst 0, 1) := by decide +kernel
theorem dX12_year_2 : decode cX12_year 2 = .ok (.putfield 120, 3) := by decide +kernel
theorem dX12_year_5 : decode cX12_year 5 = .ok (.aload_n 0, 1) := by decide +kernel
theorem dX12_year_6 : decode cX12_year 6 = .ok (.getfield 283, 3) := by decide +kernel
theorem dX12_year_9 : decode cX12_year 9 = .ok (.ifCond .eq 15, 3) := by decide +kernel
theorem dX12_year_12 : decode cX12_year 12 = .ok (.iload_n 1, 1) := by decide +kernel
theorem dX12_year_13 : decode cX12_year 13 = .ok (.i2l, 1) := by decide +kernel
theorem dX12_year_14 : decode cX12_year 14 = .ok (.lconst 1, 1) := by decide +kernel
theorem dX12_year_15 : decode cX12_year 15 = .ok (.ldc2_w 405, 3) := by decide +kernel
theorem dX12_year_18 : decode cX12_year 18 = .ok (.invokestatic 247, 3) := by decide +kernel
theorem dX12_year_21 : decode cX12_year 21 = .ok (.ifCond .ne 5, 3) := by decide +kernel
theorem dX12_year_24 : decode cX12_year 24 = .ok (.iconst (-1), 1) := by decide +kernel
theorem dX12_year_25 : decode cX12_year 25 = .ok (.ireturn, 1) := by decide +kernel
theorem dX12_year_26 : decode cX12_year 26 = .ok (.aload_n 0, 1) := by decide +kernel
theorem dX12_year_27 : decode cX12_year 27 = .ok (.lload_n 2, 1) := by decide +kernel
theorem dX12_year_28 : decode cX12_year 28 = .ok (.putfield 397, 3) := by decide +kernel
theorem dX12_year_31 : decode cX12_year 31 = .ok (.iconst 0, 1) := by decide +kernel
theorem dX12_year_32 : decode cX12_year 32 = .ok (.istore 4, 2) := by decide +kernel
theorem dX12_year_34 : decode cX12_year 34 = .ok (.iload 4, 2) := by decide +kernel
theorem dX12_year_36 : decode cX12_year 36 = .ok (.iload_n 1, 1) := by decide +kernel
theorem dX12_year_37 : decode cX12_year 37 = .ok (.if_icmp .ge 191, 3) := by decide +kernel
theorem dX12_year_40 : decode cX12_year 40 = .ok (.aload_n 0, 1) := by decide +kernel
theorem dX12_year_41 : decode cX12_year 41 = .ok (.iconst 4, 1) := by decide +kernel
theorem dX12_year_42 : decode cX12_year 42 = .ok (.invokevirtual 407, 3) := by decide +kernel
theorem dX12_year_45 : decode cX12_year 45 = .ok (.istore 5, 2) := by decide +kernel
theorem dX12_year_47 : decode cX12_year 47 = .ok (.iconst 0, 1) := by decide +kernel
theorem dX12_year_48 : decode cX12_year 48 = .ok (.istore 6, 2) := by decide +kernel
theorem dX12_year_50 : decode cX12_year 50 = .ok (.iconst 0, 1) := by decide +kernel
theorem dX12_year_51 : decode cX12_year 51 = .ok (.istore 7, 2) := by decide +kernel
theorem dX12_year_53 : decode cX12_year 53 = .ok (.iload 7, 2) := by decide +kernel
theorem dX12_year_55 : decode cX12_year 55 = .ok (.aload_n 0, 1) := by decide +kernel
theorem dX12_year_56 : decode cX12_year 56 = .ok (.getfield 283, 3) := by decide +kernel
theorem dX12_year_59 : decode cX12_year 59 = .ok (.if_icmp .ge 22, 3) := by decide +kernel
theorem dX12_year_62 : decode cX12_year 62 = .ok (.iload 6, 2) := by decide +kernel
theorem dX12_year_64 : decode cX12_year 64 = .ok (.aload_n 0, 1) := by decide +kernel
theorem dX12_year_65 : decode cX12_year 65 = .ok (.iconst 2, 1) := by decide +kernel
theorem dX12_year_66 : decode cX12_year 66 = .ok (.invokevirtual 407, 3) := by decide +kernel
theorem dX12_year_69 : decode cX12_year 69 = .ok (.iload 7, 2) := by decide +kernel
theorem dX12_year_71 : decode cX12_year 71 = .ok (.ishl, 1) := by decide +kernel
theorem dX12_year_72 : decode cX12_year 72 = .ok (.ior, 1) := by decide +kernel
theorem dX12_year_73 : decode cX12_year 73 = .ok (.istore 6, 2) := by decide +kernel
theorem dX12_year_75 : decode cX12_year 75 = .ok (.iinc 7 1, 3) := by decide +kernel
theorem dX12_year_78 : decode cX12_year 78 = .ok (.goto (-25), 3) := by decide +kernel
theorem dX12_year_81 : decode cX12_year 81 = .ok (.iload 6, 2) := by decide +kernel
theorem dX12_year_83 : decode cX12_year 83 = .ok (.ifCond .ne 13, 3) := by decide +kernel
theorem dX12_year_86 : decode cX12_year 86 = .ok (.iconst 1, 1) := by decide +kernel
theorem dX12_year_87 : decode cX12_year 87 = .ok (.aload_n 0, 1) := by decide +kernel
theorem dX12_year_88 : decode cX12_year 88 = .ok (.getfield 283, 3) := by decide +kernel
theorem dX12_year_91 : decode cX12_year 91 = .ok (.ishl, 1) := by decide +kernel
theorem dX12_year_92 : decode cX12_year 92 = .ok (.iconst 1, 1) := by decide +kernel
theorem dX12_year_93 : decode cX12_year 93 = .ok (.isub, 1) := by decide +kernel
theorem dX12_year_94 : decode cX12_year 94 = .ok (.istore 6, 2) := by decide +kernel
theorem dX12_year_96 : decode cX12_year 96 = .ok (.aload_n 0, 1) := by decide +kernel
theorem dX12_year_97 : decode cX12_year 97 = .ok (.iconst 0, 1) := by decide +kernel
theorem dX12_year_98 : decode cX12_year 98 = .ok (.putfield 321, 3) := by decide +kernel
theorem dX12_year_101 : decode cX12_year 101 = .ok (.iconst 0, 1) := by decide +kernel
theorem dX12_year_102 : decode cX12_year 102 = .ok (.istore 7, 2) := by decide +kernel
theorem dX12_year_104 : decode cX12_year 104 = .ok (.iload 7, 2) := by decide +kernel
theorem dX12_year_106 : decode cX12_year 106 = .ok (.aload_n 0, 1) := by decide +kernel
theorem dX12_year_107 : decode cX12_year 107 = .ok (.getfield 283, 3) := by decide +kernel
theorem dX12_year_110 : decode cX12_year 110 = .ok (.if_icmp .ge 43, 3) := by decide +kernel
theorem dX12_year_113 : decode cX12_year 113 = .ok (.iload 6, 2) := by decide +kernel
theorem dX12_year_115 : decode cX12_year 115 = .ok (.iload 7, 2) := by decide +kernel
theorem dX12_year_117 : decode cX12_year 117 = .ok (.invokestatic 258, 3) := by decide +kernel
theorem dX12_year_120 : decode cX12_year 120 = .ok (.ifCond .ne 6, 3) := by decide +kernel
theorem dX12_year_123 : decode cX12_year 123 = .ok (.goto 24, 3) := by decide +kernel
theorem dX12_year_126 : decode cX12_year 126 = .ok (.aload_n 0, 1) := by decide +kernel
theorem dX12_year_127 : decode cX12_year 127 = .ok (.getfield 60, 3) := by decide +kernel
theorem dX12_year_130 : decode cX12_year 130 = .ok (.aload_n 0, 1) := by decide +kernel
theorem dX12_year_131 : decode cX12_year 131 = .ok (.getfield 321, 3) := by decide +kernel
theorem dX12_year_134 : decode cX12_year 134 = .ok (.iload 7, 2) := by decide +kernel
theorem dX12_year_136 : decode cX12_year 136 = .ok (.iastore, 1) := by decide +kernel
theorem dX12_year_137 : decode cX12_year 137 = .ok (.aload_n 0, 1) := by decide +kernel
theorem dX12_year_138 : decode cX12_year 138 = .ok (.dup, 1) := by decide +kernel
theorem dX12_year_139 : decode cX12_year 139 = .ok (.getfield 321, 3) := by decide +kernel
theorem dX12_year_142 : decode cX12_year 142 = .ok (.iconst 1, 1) := by decide +kernel
theorem dX12_year_143 : decode cX12_year 143 = .ok (.iadd, 1) := by decide +kernel
theorem dX12_year_144 : decode cX12_year 144 = .ok (.putfield 321, 3) := by decide +kernel
theorem dX12_year_147 : decode cX12_year 147 = .ok (.iinc 7 1, 3) := by decide +kernel
theorem dX12_year_150 : decode cX12_year 150 = .ok (.goto (-46), 3) := by decide +kernel
theorem dX12_year_153 : decode cX12_year 153 = .ok (.aload_n 0, 1) := by decide +kernel
theorem dX12_year_154 : decode cX12_year 154 = .ok (.getfield 321, 3) := by decide +kernel
theorem dX12_year_157 : decode cX12_year 157 = .ok (.iconst 1, 1) := by decide +kernel
theorem dX12_year_158 : decode cX12_year 158 = .ok (.isub, 1) := by decide +kernel
theorem dX12_year_159 : decode cX12_year 159 = .ok (.istore 7, 2) := by decide +kernel
theorem dX12_year_161 : decode cX12_year 161 = .ok (.iload 7, 2) := by decide +kernel
theorem dX12_year_163 : decode cX12_year 163 = .ok (.ifCond .le 51, 3) := by decide +kernel
theorem dX12_year_166 : decode cX12_year 166 = .ok (.aload_n 0, 1) := by decide +kernel
theorem dX12_year_167 : decode cX12_year 167 = .ok (.iload 7, 2) := by decide +kernel
theorem dX12_year_169 : decode cX12_year 169 = .ok (.iconst 1, 1) := by decide +kernel
theorem dX12_year_170 : decode cX12_year 170 = .ok (.iadd, 1) := by decide +kernel
theorem dX12_year_171 : decode cX12_year 171 = .ok (.invokevirtual 407, 3) := by decide +kernel
theorem dX12_year_174 : decode cX12_year 174 = .ok (.istore 8, 2) := by decide +kernel
theorem dX12_year_176 : decode cX12_year 176 = .ok (.aload_n 0, 1) := by decide +kernel
theorem dX12_year_177 : decode cX12_year 177 = .ok (.getfield 60, 3) := by decide +kernel
theorem dX12_year_180 : decode cX12_year 180 = .ok (.iload 7, 2) := by decide +kernel
theorem dX12_year_182 : decode cX12_year 182 = .ok (.iaload, 1) := by decide +kernel
theorem dX12_year_183 : decode cX12_year 183 = .ok (.istore 9, 2) := by decide +kernel
theorem dX12_year_185 : decode cX12_year 185 = .ok (.aload_n 0, 1) := by decide +kernel
theorem dX12_year_186 : decode cX12_year 186 = .ok (.getfield 60, 3) := by decide +kernel
theorem dX12_year_189 : decode cX12_year 189 = .ok (.iload 7, 2) := by decide +kernel
theorem dX12_year_191 : decode cX12_year 191 = .ok (.aload_n 0, 1) := by decide +kernel
theorem dX12_year_192 : decode cX12_year 192 = .ok (.getfield 60, 3) := by decide +kernel
theorem dX12_year_195 : decode cX12_year 195 = .ok (.iload 8, 2) := by decide +kernel
theorem dX12_year_197 : decode cX12_year 197 = .ok (.iaload, 1) := by decide +kernel
theorem dX12_year_198 : decode cX12_year 198 = .ok (.iastore, 1) := by decide +kernel
theorem dX12_year_199 : decode cX12_year 199 = .ok (.aload_n 0, 1) := by decide +kernel
theorem dX12_year_200 : decode cX12_year 200 = .ok (.getfield 60, 3) := by decide +kernel
theorem dX12_year_203 : decode cX12_year 203 = .ok (.iload 8, 2) := by decide +kernel
theorem dX12_year_205 : decode cX12_year 205 = .ok (.iload 9, 2) := by decide +kernel
theorem dX12_year_207 : decode cX12_year 207 = .ok (.iastore, 1) := by decide +kernel
theorem dX12_year_208 : decode cX12_year 208 = .ok (.iinc 7 (-1), 3) := by decide +kernel
theorem dX12_year_211 : decode cX12_year 211 = .ok (.goto (-50), 3) := by decide +kernel
theorem dX12_year_214 : decode cX12_year 214 = .ok (.aload_n 0, 1) := by decide +kernel
theorem dX12_year_215 : decode cX12_year 215 = .ok (.iload 5, 2) := by decide +kernel
theorem dX12_year_217 : decode cX12_year 217 = .ok (.iload 6, 2) := by decide +kernel
theorem dX12_year_219 : decode cX12_year 219 = .ok (.invokevirtual 349, 3) := by decide +kernel
theorem dX12_year_222 : decode cX12_year 222 = .ok (.iinc 4 1, 3) := by decide +kernel
theorem dX12_year_225 : decode cX12_year 225 = .ok (.goto (-191), 3) := by decide +kernel
theorem dX12_year_228 : decode cX12_year 228 = .ok (.iconst 0, 1) := by decide +kernel
theorem dX12_year_229 : decode cX12_year 229 = .ok (.istore 4, 2) := by decide +kernel
theorem dX12_year_231 : decode cX12_year 231 = .ok (.iconst 0, 1) := by decide +kernel
theorem dX12_year_232 : decode cX12_year 232 = .ok (.istore 5, 2) := by decide +kernel
theorem dX12_year_234 : decode cX12_year 234 = .ok (.iload 5, 2) := by decide +kernel
theorem dX12_year_236 : decode cX12_year 236 = .ok (.aload_n 0, 1) := by decide +kernel
theorem dX12_year_237 : decode cX12_year 237 = .ok (.getfield 283, 3) := by decide +kernel
theorem dX12_year_240 : decode cX12_year 240 = .ok (.if_icmp .ge 30, 3) := by decide +kernel
theorem dX12_year_243 : decode cX12_year 243 = .ok (.iload 4, 2) := by decide +kernel
theorem dX12_year_245 : decode cX12_year 245 = .ok (.aload_n 0, 1) := by decide +kernel
theorem dX12_year_246 : decode cX12_year 246 = .ok (.getfield 45, 3) := by decide +kernel
theorem dX12_year_249 : decode cX12_year 249 = .ok (.iload 5, 2) := by decide +kernel
theorem dX12_year_251 : decode cX12_year 251 = .ok (.iaload, 1) := by decide +kernel
theorem dX12_year_252 : decode cX12_year 252 = .ok (.iconst (-1), 1) := by decide +kernel
theorem dX12_year_253 : decode cX12_year 253 = .ok (.if_icmp .ne 7, 3) := by decide +kernel
theorem dX12_year_256 : decode cX12_year 256 = .ok (.iconst 1, 1) := by decide +kernel
theorem dX12_year_257 : decode cX12_year 257 = .ok (.goto 4, 3) := by decide +kernel
theorem dX12_year_260 : decode cX12_year 260 = .ok (.iconst 0, 1) := by decide +kernel
theorem dX12_year_261 : decode cX12_year 261 = .ok (.iadd, 1) := by decide +kernel
theorem dX12_year_262 : decode cX12_year 262 = .ok (.istore 4, 2) := by decide +kernel
theorem dX12_year_264 : decode cX12_year 264 = .ok (.iinc 5 1, 3) := by decide +kernel
theorem dX12_year_267 : decode cX12_year 267 = .ok (.goto (-33), 3) := by decide +kernel
theorem dX12_year_270 : decode cX12_year 270 = .ok (.iload 4, 2) := by decide +kernel
theorem dX12_year_272 : decode cX12_year 272 = .ok (.ireturn, 1) := by decide +kernel
theorem ML_X12_407 : MLk RX12 407 yX12_draw := Or.inl ml_X12_407
theorem MV_X12_draw : MVk K_X12_draw 1 12 := ⟨⟨cd_X12_draw, in_X12, ⟨by decide, by decide, by decide +kernel⟩, by decide⟩, im_X12_draw, se_X12_draw, _, _, rfl⟩
def f_X12_year_24  (h : AH) : Option (Int32 × AH) :=
  some ((-1), h)
def f_X12_year_147 (q104 : Nat → Int32 → Int32 → Int32 → Int32 → Int32 → AH → Option (Int32 × AH)) (k0 : Nat) (x1 : Int32) (x4 : Int32) (x5 : Int32) (x6 : Int32) (x7 : Int32) (h : AH) : Option (Int32 × AH) :=
  nm (x7 + 1) fun x7_1 =>
  q104 k0 x1 x4 x5 x6 x7_1 h
def f_X12_year_161 (q34 : Nat → Int32 → Int32 → AH → Option (Int32 × AH)) : Nat → Nat → Int32 → Int32 → Int32 → Int32 → Int32 → AH → Option (Int32 × AH)
  | 0, _, _, _, _, _, _, _ => none
  | n + 1, k0, x1, x4, x5, x6, x7, h =>
    if x7 ≤ 0 then (
      ov (f_X12_visits k0 x5 x6 h) fun h_3 =>
      nm (x4 + 1) fun x4_4 =>
      q34 k0 x1 x4_4 h_3
    ) else (
      ob (f_X12_draw k0 (x7 + 1) h) fun r_8 h_7 =>
      og (ix x7 (an (rf k0 27))) <|
      nm ((h_7.1 (rf k0 27) x7.toNatClampNeg)) fun x9_10 =>
      og (ix r_8 (an (rf k0 27))) <|
      og (ix x7 (an (rf k0 27))) <|
      nm (sI h_7 (rf k0 27) x7.toNatClampNeg (h_7.1 (rf k0 27) r_8.toNatClampNeg)) fun h_14 =>
      og (ix r_8 (an (rf k0 27))) <|
      nm (sI h_14 (rf k0 27) r_8.toNatClampNeg x9_10) fun h_17 =>
      nm (x7 + (-1)) fun x7_19 =>
      f_X12_year_161 q34 n k0 x1 x4 x5 x6 x7_19 h_17
    )
def f_X12_year_104 (q34 : Nat → Int32 → Int32 → AH → Option (Int32 × AH)) : Nat → Nat → Int32 → Int32 → Int32 → Int32 → Int32 → AH → Option (Int32 × AH)
  | 0, _, _, _, _, _, _, _ => none
  | n + 1, k0, x1, x4, x5, x6, x7, h =>
    if (h.1 k0 20) ≤ x7 then (
      nm (((h.1 k0 29) - 1)) fun x7_2 =>
      f_X12_year_161 q34 FU k0 x1 x4 x5 x6 x7_2 h
    ) else (
      ob (f_X12_has x6 x7 h) fun r_6 h_5 =>
      if r_6 = 0 then (
        f_X12_year_147 (f_X12_year_104 q34 n) k0 x1 x4 x5 x6 x7 h_5
      ) else (
        og (ix (h_5.1 k0 29) (an (rf k0 27))) <|
        nm (sI h_5 (rf k0 27) (h_5.1 k0 29).toNatClampNeg x7) fun h_9 =>
        nm (sI h_9 k0 29 ((h_9.1 k0 29) + 1)) fun h_11 =>
        f_X12_year_147 (f_X12_year_104 q34 n) k0 x1 x4 x5 x6 x7 h_11
      )
    )
def f_X12_year_96 (q34 : Nat → Int32 → Int32 → AH → Option (Int32 × AH)) (k0 : Nat) (x1 : Int32) (x4 : Int32) (x5 : Int32) (x6 : Int32) (h : AH) : Option (Int32 × AH) :=
  nm (sI h k0 29 0) fun h_1 =>
  f_X12_year_104 q34 FU k0 x1 x4 x5 x6 0 h_1
def f_X12_year_53 (q34 : Nat → Int32 → Int32 → AH → Option (Int32 × AH)) : Nat → Nat → Int32 → Int32 → Int32 → Int32 → Int32 → AH → Option (Int32 × AH)
  | 0, _, _, _, _, _, _, _ => none
  | n + 1, k0, x1, x4, x5, x6, x7, h =>
    if (h.1 k0 20) ≤ x7 then (
      if x6 = 0 then (
        nm ((((1 : Int32) <<< ((h.1 k0 20) &&& 31)) - 1)) fun x6_3 =>
        f_X12_year_96 q34 k0 x1 x4 x5 x6_3 h
      ) else (
        f_X12_year_96 q34 k0 x1 x4 x5 x6 h
      )
    ) else (
      ob (f_X12_draw k0 2 h) fun r_7 h_6 =>
      nm ((x6 ||| (r_7 <<< (x7 &&& 31)))) fun x6_8 =>
      nm (x7 + 1) fun x7_10 =>
      f_X12_year_53 q34 n k0 x1 x4 x5 x6_8 x7_10 h_6
    )
def f_X12_year_261 (q234 : Nat → Int32 → Int32 → AH → Option (Int32 × AH)) (k0 : Nat) (x5 : Int32) (s0 : Int32) (s1 : Int32) (h : AH) : Option (Int32 × AH) :=
  nm ((s1 + s0)) fun x4_1 =>
  nm (x5 + 1) fun x5_3 =>
  q234 k0 x4_1 x5_3 h
def f_X12_year_234 : Nat → Nat → Int32 → Int32 → AH → Option (Int32 × AH)
  | 0, _, _, _, _ => none
  | n + 1, k0, x4, x5, h =>
    if (h.1 k0 20) ≤ x5 then (
      some (x4, h)
    ) else (
      og (ix x5 (an (rf k0 22))) <|
      if (h.1 (rf k0 22) x5.toNatClampNeg) = (-1) then (
        f_X12_year_261 (f_X12_year_234 n) k0 x5 1 x4 h
      ) else (
        f_X12_year_261 (f_X12_year_234 n) k0 x5 0 x4 h
      )
    )
def f_X12_year_34 : Nat → Nat → Int32 → Int32 → AH → Option (Int32 × AH)
  | 0, _, _, _, _ => none
  | n + 1, k0, x1, x4, h =>
    if x1 ≤ x4 then (
      f_X12_year_234 FU k0 0 0 h
    ) else (
      ob (f_X12_draw k0 4 h) fun r_4 h_3 =>
      f_X12_year_53 (f_X12_year_34 n) FU k0 x1 x4 r_4 0 0 h_3
    )
def f_X12_year (k0 : Nat) (x1 : Int32) (l2 : Int64) (h : AH) : Option (Int32 × AH) :=
  nm (sI h k0 0 0) fun h_1 =>
  if (h_1.1 k0 20) = 0 then (
    f_X12_year_24 h_1
  ) else (
    ob (f_X12_isIn ((x1).toInt64) 1 60 h_1) fun r_6 h_5 =>
    if r_6 = 0 then (
      f_X12_year_24 h_5
    ) else (
      nm (sL h_5 k0 l2) fun h_8 =>
      f_X12_year_34 FU k0 x1 0 h_8
    )
  )
set_option maxHeartbeats 4000000 in
set_option maxRecDepth 100000 in
theorem v_X12_year_24 {E : EV} {d : Nat} (hd : 1461 ≤ d) {r0 : Int32} {h0 : AH}  {h : AH} (hf : f_X12_year_24 h = some (r0, h0)) : V E (d + 1) K_X12_year (ZI E r0 h0) h [] [] 24 := by
  unfold f_X12_year_24 at hf
  refine V_iconst (v := (-1)) dX12_year_24 (by decide) ?_
  exact V_iret rfl (so_s hf) dX12_year_25
set_option maxHeartbeats 4000000 in
set_option maxRecDepth 100000 in
theorem v_X12_year_147 {E : EV} {d : Nat} (hd : 1461 ≤ d) {r0 : Int32} {h0 : AH} {q104 : Nat → Int32 → Int32 → Int32 → Int32 → Int32 → AH → Option (Int32 × AH)} (cq104 : ∀ (k0 : Nat) (x1 : Int32) (x4 : Int32) (x5 : Int32) (x6 : Int32) (x7 : Int32) (h : AH), q104 k0 x1 x4 x5 x6 x7 h = some (r0, h0) → kd k0 = (0, 12) → V E (d + 1) K_X12_year (ZI E r0 h0) h [(0, .ref k0), (1, .int x1), (4, .int x4), (5, .int x5), (6, .int x6), (7, .int x7)] [] 104) {k0 : Nat} {x1 : Int32} {x4 : Int32} {x5 : Int32} {x6 : Int32} {x7 : Int32} {h : AH} (hf : f_X12_year_147 q104 k0 x1 x4 x5 x6 x7 h = some (r0, h0)) (t_k0 : kd k0 = (0, 12)) : V E (d + 1) K_X12_year (ZI E r0 h0) h [(0, .ref k0), (1, .int x1), (4, .int x4), (5, .int x5), (6, .int x6), (7, .int x7)] [] 147 := by
  unfold f_X12_year_147 at hf
  obtain ⟨x7_1, e_2, hf⟩ := nm_s hf
  refine V_iinc (a := 1) (L' := [(7, .int x7_1), (0, .ref k0), (1, .int x1), (4, .int x4), (5, .int x5), (6, .int x6)]) 5 dX12_year_147 rfl (by decide) (Nat.le_of_ble_eq_true rfl) e_2 rfl ?_
  refine V_goto (tgt := 104) dX12_year_150 (by decide) ?_
  refine V_sub [1, 2, 3, 4, 5, 0] rfl ?_
  exact cq104 _ _ _ _ _ _ _ hf t_k0
set_option maxHeartbeats 4000000 in
set_option maxRecDepth 100000 in
theorem v_X12_year_161 {E : EV} {d : Nat} (hd : 1461 ≤ d) {r0 : Int32} {h0 : AH} {q34 : Nat → Int32 → Int32 → AH → Option (Int32 × AH)} (cq34 : ∀ (k0 : Nat) (x1 : Int32) (x4 : Int32) (h : AH), q34 k0 x1 x4 h = some (r0, h0) → kd k0 = (0, 12) → V E (d + 1) K_X12_year (ZI E r0 h0) h [(0, .ref k0), (1, .int x1), (4, .int x4)] [] 34) : ∀ (n : Nat) (k0 : Nat) (x1 : Int32) (x4 : Int32) (x5 : Int32) (x6 : Int32) (x7 : Int32) (h : AH), f_X12_year_161 q34 n k0 x1 x4 x5 x6 x7 h = some (r0, h0) → kd k0 = (0, 12) → V E (d + 1) K_X12_year (ZI E r0 h0) h [(0, .ref k0), (1, .int x1), (4, .int x4), (5, .int x5), (6, .int x6), (7, .int x7)] [] 161 := by
  intro n
  induction n with
  | zero =>
    intro k0 x1 x4 x5 x6 x7 h hf
    rw [f_X12_year_161] at hf
    cases hf
  | succ n ih =>
    intro k0 x1 x4 x5 x6 x7 h hf t_k0
    rw [f_X12_year_161] at hf
    refine V_iload 5 dX12_year_161 rfl ?_
    refine V_if_le (tgt := 214) dX12_year_163 (by decide) (fun c_1 => ?_) (fun c_1 => ?_)
    · have hf := it_s c_1 hf
      refine V_aload_n 0 dX12_year_214 rfl rfl ?_
      refine V_iload 3 dX12_year_215 rfl ?_
      refine V_iload 4 dX12_year_217 rfl ?_
      obtain ⟨h_3, e_2, hf⟩ := ov_s hf
      refine V_cvv (As := [.int x5, .int x6]) (rest := []) (c_X12_visits (d := d) (Nat.le_trans (Nat.le_of_ble_eq_true rfl) hd) e_2 t_k0) ML_X12_349 MV_X12_visits rfl t_k0 rfl rfl (Nat.le_of_ble_eq_true rfl) dX12_year_219 ?_
      obtain ⟨x4_4, e_5, hf⟩ := nm_s hf
      refine V_iinc (a := 1) (L' := [(4, .int x4_4), (0, .ref k0), (1, .int x1), (5, .int x5), (6, .int x6), (7, .int x7)]) 2 dX12_year_222 rfl (by decide) (Nat.le_of_ble_eq_true rfl) e_5 rfl ?_
      refine V_goto (tgt := 34) dX12_year_225 (by decide) ?_
      refine V_sub [1, 2, 0] rfl ?_
      exact cq34 _ _ _ _ hf t_k0
    · have hf := if_s c_1 hf
      refine V_aload_n 0 dX12_year_166 rfl rfl ?_
      refine V_iload 5 dX12_year_167 rfl ?_
      refine V_iconst (v := 1) dX12_year_169 (by decide) ?_
      refine V_iadd dX12_year_170 ?_
      obtain ⟨r_8, h_7, e_6, hf⟩ := ob_s hf
      refine V_cvi (As := [.int (x7 + 1)]) (rest := []) (c_X12_draw (d := d) (Nat.le_trans (Nat.le_of_ble_eq_true rfl) hd) e_6 t_k0) ML_X12_407 MV_X12_draw rfl t_k0 rfl rfl (Nat.le_of_ble_eq_true rfl) dX12_year_171 ?_
      refine V_istore (L' := [(8, .int r_8), (0, .ref k0), (1, .int x1), (4, .int x4), (5, .int x5), (6, .int x6), (7, .int x7)]) dX12_year_174 (Nat.le_of_ble_eq_true rfl) rfl rfl ?_
      refine V_aload_n 1 dX12_year_176 rfl rfl ?_
      refine V_getR F_X12_60 rfl t_k0 rfl dX12_year_177 ?_
      refine V_iload 6 dX12_year_180 rfl ?_
      obtain ⟨b_9, hf⟩ := og_s hf
      refine V_iald (rfA t_k0 (Nat.le_of_ble_eq_true rfl) rfl rfl (by decide)) b_9 dX12_year_182 ?_
      obtain ⟨x9_10, e_11, hf⟩ := nm_s hf
      refine V_istore (L' := [(9, .int x9_10), (8, .int r_8), (0, .ref k0), (1, .int x1), (4, .int x4), (5, .int x5), (6, .int x6), (7, .int x7)]) dX12_year_183 (Nat.le_of_ble_eq_true rfl) e_11 rfl ?_
      refine V_aload_n 2 dX12_year_185 rfl rfl ?_
      refine V_getR F_X12_60 rfl t_k0 rfl dX12_year_186 ?_
      refine V_iload 7 dX12_year_189 rfl ?_
      refine V_aload_n 2 dX12_year_191 rfl rfl ?_
      refine V_getR F_X12_60 rfl t_k0 rfl dX12_year_192 ?_
      refine V_iload 1 dX12_year_195 rfl ?_
      obtain ⟨b_12, hf⟩ := og_s hf
      refine V_iald (rfA t_k0 (Nat.le_of_ble_eq_true rfl) rfl rfl (by decide)) b_12 dX12_year_197 ?_
      obtain ⟨b_13, hf⟩ := og_s hf
      obtain ⟨h_14, e_15, hf⟩ := nm_s hf
      refine V_iast (rfA t_k0 (Nat.le_of_ble_eq_true rfl) rfl rfl (by decide)) b_13 e_15 dX12_year_198 ?_
      refine V_aload_n 2 dX12_year_199 rfl rfl ?_
      refine V_getR F_X12_60 rfl t_k0 rfl dX12_year_200 ?_
      refine V_iload 1 dX12_year_203 rfl ?_
      refine V_iload 0 dX12_year_205 rfl ?_
      obtain ⟨b_16, hf⟩ := og_s hf
      obtain ⟨h_17, e_18, hf⟩ := nm_s hf
      refine V_iast (rfA t_k0 (Nat.le_of_ble_eq_true rfl) rfl rfl (by decide)) b_16 e_18 dX12_year_207 ?_
      obtain ⟨x7_19, e_20, hf⟩ := nm_s hf
      refine V_iinc (a := (-1)) (L' := [(7, .int x7_19), (9, .int x9_10), (8, .int r_8), (0, .ref k0), (1, .int x1), (4, .int x4), (5, .int x5), (6, .int x6)]) 7 dX12_year_208 rfl (by decide) (Nat.le_of_ble_eq_true rfl) e_20 rfl ?_
      refine V_goto (tgt := 161) dX12_year_211 (by decide) ?_
      refine V_sub [3, 4, 5, 6, 7, 0] rfl ?_
      exact ih _ _ _ _ _ _ _ hf t_k0
set_option maxHeartbeats 4000000 in
set_option maxRecDepth 100000 in
theorem v_X12_year_104 {E : EV} {d : Nat} (hd : 1461 ≤ d) {r0 : Int32} {h0 : AH} {q34 : Nat → Int32 → Int32 → AH → Option (Int32 × AH)} (cq34 : ∀ (k0 : Nat) (x1 : Int32) (x4 : Int32) (h : AH), q34 k0 x1 x4 h = some (r0, h0) → kd k0 = (0, 12) → V E (d + 1) K_X12_year (ZI E r0 h0) h [(0, .ref k0), (1, .int x1), (4, .int x4)] [] 34) : ∀ (n : Nat) (k0 : Nat) (x1 : Int32) (x4 : Int32) (x5 : Int32) (x6 : Int32) (x7 : Int32) (h : AH), f_X12_year_104 q34 n k0 x1 x4 x5 x6 x7 h = some (r0, h0) → kd k0 = (0, 12) → V E (d + 1) K_X12_year (ZI E r0 h0) h [(0, .ref k0), (1, .int x1), (4, .int x4), (5, .int x5), (6, .int x6), (7, .int x7)] [] 104 := by
  intro n
  induction n with
  | zero =>
    intro k0 x1 x4 x5 x6 x7 h hf
    rw [f_X12_year_104] at hf
    cases hf
  | succ n ih =>
    intro k0 x1 x4 x5 x6 x7 h hf t_k0
    rw [f_X12_year_104] at hf
    refine V_iload 5 dX12_year_104 rfl ?_
    refine V_aload_n 0 dX12_year_106 rfl rfl ?_
    refine V_getI F_X12_283 rfl t_k0 rfl dX12_year_107 ?_
    refine V_ic_ge (tgt := 153) dX12_year_110 (by decide) (fun c_1 => ?_) (fun c_1 => ?_)
    · have hf := it_s c_1 hf
      refine V_aload_n 0 dX12_year_153 rfl rfl ?_
      refine V_getI F_X12_321 rfl t_k0 rfl dX12_year_154 ?_
      refine V_iconst (v := 1) dX12_year_157 (by decide) ?_
      refine V_isub dX12_year_158 ?_
      obtain ⟨x7_2, e_3, hf⟩ := nm_s hf
      refine V_istore (L' := [(7, .int x7_2), (0, .ref k0), (1, .int x1), (4, .int x4), (5, .int x5), (6, .int x6)]) dX12_year_159 (Nat.le_of_ble_eq_true rfl) e_3 rfl ?_
      refine V_sub [1, 2, 3, 4, 5, 0] rfl ?_
      exact v_X12_year_161 hd cq34 FU _ _ _ _ _ _ _ hf t_k0
    · have hf := if_s c_1 hf
      refine V_iload 4 dX12_year_113 rfl ?_
      refine V_iload 5 dX12_year_115 rfl ?_
      obtain ⟨r_6, h_5, e_4, hf⟩ := ob_s hf
      refine V_csi (As := [.int x6, .int x7]) (rest := []) (c_X12_has (d := d) (Nat.le_trans (Nat.le_of_ble_eq_true rfl) hd) e_4) ML_X12_258 MS_X12_has rfl rfl rfl (Nat.le_of_ble_eq_true rfl) dX12_year_117 ?_
      refine V_if_ne (tgt := 126) dX12_year_120 (by decide) (fun c_7 => ?_) (fun c_7 => ?_)
      · have hf := if_s c_7 hf
        refine V_aload_n 0 dX12_year_126 rfl rfl ?_
        refine V_getR F_X12_60 rfl t_k0 rfl dX12_year_127 ?_
        refine V_aload_n 0 dX12_year_130 rfl rfl ?_
        refine V_getI F_X12_321 rfl t_k0 rfl dX12_year_131 ?_
        refine V_iload 5 dX12_year_134 rfl ?_
        obtain ⟨b_8, hf⟩ := og_s hf
        obtain ⟨h_9, e_10, hf⟩ := nm_s hf
        refine V_iast (rfA t_k0 (Nat.le_of_ble_eq_true rfl) rfl rfl (by decide)) b_8 e_10 dX12_year_136 ?_
        refine V_aload_n 0 dX12_year_137 rfl rfl ?_
        refine V_dup dX12_year_138 rfl ?_
        refine V_getI F_X12_321 rfl t_k0 rfl dX12_year_139 ?_
        refine V_iconst (v := 1) dX12_year_142 (by decide) ?_
        refine V_iadd dX12_year_143 ?_
        obtain ⟨h_11, e_12, hf⟩ := nm_s hf
        refine V_putI P_X12_321 rfl t_k0 rfl e_12 dX12_year_144 ?_
        exact v_X12_year_147 hd ih hf t_k0
      · have hf := it_s c_7 hf
        refine V_goto (tgt := 147) dX12_year_123 (by decide) ?_
        exact v_X12_year_147 hd ih hf t_k0
set_option maxHeartbeats 4000000 in
set_option maxRecDepth 100000 in
theorem v_X12_year_96 {E : EV} {d : Nat} (hd : 1461 ≤ d) {r0 : Int32} {h0 : AH} {q34 : Nat → Int32 → Int32 → AH → Option (Int32 × AH)} (cq34 : ∀ (k0 : Nat) (x1 : Int32) (x4 : Int32) (h : AH), q34 k0 x1 x4 h = some (r0, h0) → kd k0 = (0, 12) → V E (d + 1) K_X12_year (ZI E r0 h0) h [(0, .ref k0), (1, .int x1), (4, .int x4)] [] 34) {k0 : Nat} {x1 : Int32} {x4 : Int32} {x5 : Int32} {x6 : Int32} {h : AH} (hf : f_X12_year_96 q34 k0 x1 x4 x5 x6 h = some (r0, h0)) (t_k0 : kd k0 = (0, 12)) : V E (d + 1) K_X12_year (ZI E r0 h0) h [(0, .ref k0), (1, .int x1), (4, .int x4), (5, .int x5), (6, .int x6)] [] 96 := by
  unfold f_X12_year_96 at hf
  refine V_aload_n 0 dX12_year_96 rfl rfl ?_
  refine V_iconst (v := 0) dX12_year_97 (by decide) ?_
  obtain ⟨h_1, e_2, hf⟩ := nm_s hf
  refine V_putI P_X12_321 rfl t_k0 rfl e_2 dX12_year_98 ?_
  refine V_iconst (v := 0) dX12_year_101 (by decide) ?_
  refine V_istore (L' := [(7, .int 0), (0, .ref k0), (1, .int x1), (4, .int x4), (5, .int x5), (6, .int x6)]) dX12_year_102 (Nat.le_of_ble_eq_true rfl) rfl rfl ?_
  refine V_sub [1, 2, 3, 4, 5, 0] rfl ?_
  exact v_X12_year_104 hd cq34 FU _ _ _ _ _ _ _ hf t_k0
set_option maxHeartbeats 4000000 in
set_option maxRecDepth 100000 in
theorem v_X12_year_53 {E : EV} {d : Nat} (hd : 1461 ≤ d) {r0 : Int32} {h0 : AH} {q34 : Nat → Int32 → Int32 → AH → Option (Int32 × AH)} (cq34 : ∀ (k0 : Nat) (x1 : Int32) (x4 : Int32) (h : AH), q34 k0 x1 x4 h = some (r0, h0) → kd k0 = (0, 12) → V E (d + 1) K_X12_year (ZI E r0 h0) h [(0, .ref k0), (1, .int x1), (4, .int x4)] [] 34) : ∀ (n : Nat) (k0 : Nat) (x1 : Int32) (x4 : Int32) (x5 : Int32) (x6 : Int32) (x7 : Int32) (h : AH), f_X12_year_53 q34 n k0 x1 x4 x5 x6 x7 h = some (r0, h0) → kd k0 = (0, 12) → V E (d + 1) K_X12_year (ZI E r0 h0) h [(0, .ref k0), (1, .int x1), (4, .int x4), (5, .int x5), (6, .int x6), (7, .int x7)] [] 53 := by
  intro n
  induction n with
  | zero =>
    intro k0 x1 x4 x5 x6 x7 h hf
    rw [f_X12_year_53] at hf
    cases hf
  | succ n ih =>
    intro k0 x1 x4 x5 x6 x7 h hf t_k0
    rw [f_X12_year_53] at hf
    refine V_iload 5 dX12_year_53 rfl ?_
    refine V_aload_n 0 dX12_year_55 rfl rfl ?_
    refine V_getI F_X12_283 rfl t_k0 rfl dX12_year_56 ?_
    refine V_ic_ge (tgt := 81) dX12_year_59 (by decide) (fun c_1 => ?_) (fun c_1 => ?_)
    · have hf := it_s c_1 hf
      refine V_iload 4 dX12_year_81 rfl ?_
      refine V_if_ne (tgt := 96) dX12_year_83 (by decide) (fun c_2 => ?_) (fun c_2 => ?_)
      · have hf := if_s c_2 hf
        refine V_sub [0, 1, 2, 3, 4] rfl ?_
        exact v_X12_year_96 hd cq34 hf t_k0
      · have hf := it_s c_2 hf
        refine V_iconst (v := 1) dX12_year_86 (by decide) ?_
        refine V_aload_n 0 dX12_year_87 rfl rfl ?_
        refine V_getI F_X12_283 rfl t_k0 rfl dX12_year_88 ?_
        refine V_ishl dX12_year_91 ?_
        refine V_iconst (v := 1) dX12_year_92 (by decide) ?_
        refine V_isub dX12_year_93 ?_
        obtain ⟨x6_3, e_4, hf⟩ := nm_s hf
        refine V_istore (L' := [(6, .int x6_3), (0, .ref k0), (1, .int x1), (4, .int x4), (5, .int x5), (7, .int x7)]) dX12_year_94 (Nat.le_of_ble_eq_true rfl) e_4 rfl ?_
        refine V_sub [1, 2, 3, 4, 0] rfl ?_
        exact v_X12_year_96 hd cq34 hf t_k0
    · have hf := if_s c_1 hf
      refine V_iload 4 dX12_year_62 rfl ?_
      refine V_aload_n 0 dX12_year_64 rfl rfl ?_
      refine V_iconst (v := 2) dX12_year_65 (by decide) ?_
      obtain ⟨r_7, h_6, e_5, hf⟩ := ob_s hf
      refine V_cvi (As := [.int 2]) (rest := [.int x6]) (c_X12_draw (d := d) (Nat.le_trans (Nat.le_of_ble_eq_true rfl) hd) e_5 t_k0) ML_X12_407 MV_X12_draw rfl t_k0 rfl rfl (Nat.le_of_ble_eq_true rfl) dX12_year_66 ?_
      refine V_iload 5 dX12_year_69 rfl ?_
      refine V_ishl dX12_year_71 ?_
      refine V_ior dX12_year_72 ?_
      obtain ⟨x6_8, e_9, hf⟩ := nm_s hf
      refine V_istore (L' := [(6, .int x6_8), (0, .ref k0), (1, .int x1), (4, .int x4), (5, .int x5), (7, .int x7)]) dX12_year_73 (Nat.le_of_ble_eq_true rfl) e_9 rfl ?_
      obtain ⟨x7_10, e_11, hf⟩ := nm_s hf
      refine V_iinc (a := 1) (L' := [(7, .int x7_10), (6, .int x6_8), (0, .ref k0), (1, .int x1), (4, .int x4), (5, .int x5)]) 5 dX12_year_75 rfl (by decide) (Nat.le_of_ble_eq_true rfl) e_11 rfl ?_
      refine V_goto (tgt := 53) dX12_year_78 (by decide) ?_
      refine V_sub [2, 3, 4, 5, 1, 0] rfl ?_
      exact ih _ _ _ _ _ _ _ hf t_k0
set_option maxHeartbeats 4000000 in
set_option maxRecDepth 100000 in
theorem v_X12_year_261 {E : EV} {d : Nat} (hd : 1461 ≤ d) {r0 : Int32} {h0 : AH} {q234 : Nat → Int32 → Int32 → AH → Option (Int32 × AH)} (cq234 : ∀ (k0 : Nat) (x4 : Int32) (x5 : Int32) (h : AH), q234 k0 x4 x5 h = some (r0, h0) → kd k0 = (0, 12) → V E (d + 1) K_X12_year (ZI E r0 h0) h [(0, .ref k0), (4, .int x4), (5, .int x5)] [] 234) {k0 : Nat} {x5 : Int32} {s0 : Int32} {s1 : Int32} {h : AH} (hf : f_X12_year_261 q234 k0 x5 s0 s1 h = some (r0, h0)) (t_k0 : kd k0 = (0, 12)) : V E (d + 1) K_X12_year (ZI E r0 h0) h [(0, .ref k0), (5, .int x5)] [.int s0, .int s1] 261 := by
  unfold f_X12_year_261 at hf
  refine V_iadd dX12_year_261 ?_
  obtain ⟨x4_1, e_2, hf⟩ := nm_s hf
  refine V_istore (L' := [(4, .int x4_1), (0, .ref k0), (5, .int x5)]) dX12_year_262 (Nat.le_of_ble_eq_true rfl) e_2 rfl ?_
  obtain ⟨x5_3, e_4, hf⟩ := nm_s hf
  refine V_iinc (a := 1) (L' := [(5, .int x5_3), (4, .int x4_1), (0, .ref k0)]) 2 dX12_year_264 rfl (by decide) (Nat.le_of_ble_eq_true rfl) e_4 rfl ?_
  refine V_goto (tgt := 234) dX12_year_267 (by decide) ?_
  refine V_sub [2, 1, 0] rfl ?_
  exact cq234 _ _ _ _ hf t_k0
set_option maxHeartbeats 4000000 in
set_option maxRecDepth 100000 in
theorem v_X12_year_234 {E : EV} {d : Nat} (hd : 1461 ≤ d) {r0 : Int32} {h0 : AH} : ∀ (n : Nat) (k0 : Nat) (x4 : Int32) (x5 : Int32) (h : AH), f_X12_year_234 n k0 x4 x5 h = some (r0, h0) → kd k0 = (0, 12) → V E (d + 1) K_X12_year (ZI E r0 h0) h [(0, .ref k0), (4, .int x4), (5, .int x5)] [] 234 := by
  intro n
  induction n with
  | zero =>
    intro k0 x4 x5 h hf
    rw [f_X12_year_234] at hf
    cases hf
  | succ n ih =>
    intro k0 x4 x5 h hf t_k0
    rw [f_X12_year_234] at hf
    refine V_iload 2 dX12_year_234 rfl ?_
    refine V_aload_n 0 dX12_year_236 rfl rfl ?_
    refine V_getI F_X12_283 rfl t_k0 rfl dX12_year_237 ?_
    refine V_ic_ge (tgt := 270) dX12_year_240 (by decide) (fun c_1 => ?_) (fun c_1 => ?_)
    · have hf := it_s c_1 hf
      refine V_iload 1 dX12_year_270 rfl ?_
      exact V_iret rfl (so_s hf) dX12_year_272
    · have hf := if_s c_1 hf
      refine V_iload 1 dX12_year_243 rfl ?_
      refine V_aload_n 0 dX12_year_245 rfl rfl ?_
      refine V_getR F_X12_45 rfl t_k0 rfl dX12_year_246 ?_
      refine V_iload 2 dX12_year_249 rfl ?_
      obtain ⟨b_2, hf⟩ := og_s hf
      refine V_iald (rfA t_k0 (Nat.le_of_ble_eq_true rfl) rfl rfl (by decide)) b_2 dX12_year_251 ?_
      refine V_iconst (v := (-1)) dX12_year_252 (by decide) ?_
      refine V_ic_ne (tgt := 260) dX12_year_253 (by decide) (fun c_3 => ?_) (fun c_3 => ?_)
      · have hf := if_s c_3 hf
        refine V_iconst (v := 0) dX12_year_260 (by decide) ?_
        refine V_sub [0, 2] rfl ?_
        exact v_X12_year_261 hd ih hf t_k0
      · have hf := it_s c_3 hf
        refine V_iconst (v := 1) dX12_year_256 (by decide) ?_
        refine V_goto (tgt := 261) dX12_year_257 (by decide) ?_
        refine V_sub [0, 2] rfl ?_
        exact v_X12_year_261 hd ih hf t_k0
set_option maxHeartbeats 4000000 in
set_option maxRecDepth 100000 in
theorem v_X12_year_34 {E : EV} {d : Nat} (hd : 1461 ≤ d) {r0 : Int32} {h0 : AH} : ∀ (n : Nat) (k0 : Nat) (x1 : Int32) (x4 : Int32) (h : AH), f_X12_year_34 n k0 x1 x4 h = some (r0, h0) → kd k0 = (0, 12) → V E (d + 1) K_X12_year (ZI E r0 h0) h [(0, .ref k0), (1, .int x1), (4, .int x4)] [] 34 := by
  intro n
  induction n with
  | zero =>
    intro k0 x1 x4 h hf
    rw [f_X12_year_34] at hf
    cases hf
  | succ n ih =>
    intro k0 x1 x4 h hf t_k0
    rw [f_X12_year_34] at hf
    refine V_iload 2 dX12_year_34 rfl ?_
    refine V_iload_n 1 dX12_year_36 rfl rfl ?_
    refine V_ic_ge (tgt := 228) dX12_year_37 (by decide) (fun c_1 => ?_) (fun c_1 => ?_)
    · have hf := it_s c_1 hf
      refine V_iconst (v := 0) dX12_year_228 (by decide) ?_
      refine V_istore (L' := [(4, .int 0), (0, .ref k0), (1, .int x1)]) dX12_year_229 (Nat.le_of_ble_eq_true rfl) rfl rfl ?_
      refine V_iconst (v := 0) dX12_year_231 (by decide) ?_
      refine V_istore (L' := [(5, .int 0), (4, .int 0), (0, .ref k0), (1, .int x1)]) dX12_year_232 (Nat.le_of_ble_eq_true rfl) rfl rfl ?_
      refine V_sub [2, 1, 0] rfl ?_
      exact v_X12_year_234 hd FU _ _ _ _ hf t_k0
    · have hf := if_s c_1 hf
      refine V_aload_n 0 dX12_year_40 rfl rfl ?_
      refine V_iconst (v := 4) dX12_year_41 (by decide) ?_
      obtain ⟨r_4, h_3, e_2, hf⟩ := ob_s hf
      refine V_cvi (As := [.int 4]) (rest := []) (c_X12_draw (d := d) (Nat.le_trans (Nat.le_of_ble_eq_true rfl) hd) e_2 t_k0) ML_X12_407 MV_X12_draw rfl t_k0 rfl rfl (Nat.le_of_ble_eq_true rfl) dX12_year_42 ?_
      refine V_istore (L' := [(5, .int r_4), (0, .ref k0), (1, .int x1), (4, .int x4)]) dX12_year_45 (Nat.le_of_ble_eq_true rfl) rfl rfl ?_
      refine V_iconst (v := 0) dX12_year_47 (by decide) ?_
      refine V_istore (L' := [(6, .int 0), (5, .int r_4), (0, .ref k0), (1, .int x1), (4, .int x4)]) dX12_year_48 (Nat.le_of_ble_eq_true rfl) rfl rfl ?_
      refine V_iconst (v := 0) dX12_year_50 (by decide) ?_
      refine V_istore (L' := [(7, .int 0), (6, .int 0), (5, .int r_4), (0, .ref k0), (1, .int x1), (4, .int x4)]) dX12_year_51 (Nat.le_of_ble_eq_true rfl) rfl rfl ?_
      refine V_sub [3, 4, 5, 2, 1, 0] rfl ?_
      exact v_X12_year_53 hd ih FU _ _ _ _ _ _ _ hf t_k0
set_option maxHeartbeats 4000000 in
set_option maxRecDepth 100000 in
theorem c_X12_year {E : EV} {d : Nat} (hd : 1461 + 1 ≤ d) {k0 : Nat} {x1 : Int32} {l2 : Int64} {h : AH} {r0 : Int32} {h0 : AH} (hf : f_X12_year k0 x1 l2 h = some (r0, h0)) (t_k0 : kd k0 = (0, 12)) : Con E d K_X12_year (ZI E r0 h0) [.ref k0, .int x1, .long l2] h := by
  obtain ⟨d, rfl⟩ : ∃ d', d = d' + 1 := ⟨d - 1, by omega⟩
  have hd := Nat.le_of_succ_le_succ hd
  refine Con.ofV rfl (Nat.le_of_ble_eq_true rfl) ?_
  unfold f_X12_year at hf
  show V E (d + 1) K_X12_year (ZI E r0 h0) h [(0, .ref k0), (1, .int x1), (2, .long l2)] [] 0
  refine V_aload_n 0 dX12_year_0 rfl rfl ?_
  refine V_iconst (v := 0) dX12_year_1 (by decide) ?_
  obtain ⟨h_1, e_2, hf⟩ := nm_s hf
  refine V_putI P_X12_120 rfl t_k0 rfl e_2 dX12_year_2 ?_
  refine V_aload_n 0 dX12_year_5 rfl rfl ?_
  refine V_getI F_X12_283 rfl t_k0 rfl dX12_year_6 ?_
  refine V_if_eq (tgt := 24) dX12_year_9 (by decide) (fun c_3 => ?_) (fun c_3 => ?_)
  · have hf := it_s c_3 hf
    refine V_sub [] rfl ?_
    exact v_X12_year_24 hd hf
  · have hf := if_s c_3 hf
    refine V_iload_n 1 dX12_year_12 rfl rfl ?_
    refine V_i2l dX12_year_13 ?_
    refine V_lconst (v := 1) dX12_year_14 (by decide) ?_
    refine V_ldc2 (v := 60) rfl kl_X12_405 dX12_year_15 ?_
    obtain ⟨r_6, h_5, e_4, hf⟩ := ob_s hf
    refine V_csi (As := [.long ((x1).toInt64), .long 1, .long 60]) (rest := []) (c_X12_isIn (d := d) (Nat.le_trans (Nat.le_of_ble_eq_true rfl) hd) e_4) ML_X12_247 MS_X12_isIn rfl rfl rfl (Nat.le_of_ble_eq_true rfl) dX12_year_18 ?_
    refine V_if_ne (tgt := 26) dX12_year_21 (by decide) (fun c_7 => ?_) (fun c_7 => ?_)
    · have hf := if_s c_7 hf
      refine V_aload_n 0 dX12_year_26 rfl rfl ?_
      refine V_lload_n 2 dX12_year_27 rfl rfl ?_
      obtain ⟨h_8, e_9, hf⟩ := nm_s hf
      refine V_putL P_X12_397 rfl t_k0 rfl (by decide) e_9 dX12_year_28 ?_
      refine V_iconst (v := 0) dX12_year_31 (by decide) ?_
      refine V_istore (L' := [(4, .int 0), (0, .ref k0), (1, .int x1), (2, .long l2)]) dX12_year_32 (Nat.le_of_ble_eq_true rfl) rfl rfl ?_
      refine V_sub [1, 2, 0] rfl ?_
      exact v_X12_year_34 hd FU _ _ _ _ hf t_k0
    · have hf := it_s c_7 hf
      refine V_sub [] rfl ?_
      exact v_X12_year_24 hd hf
