theorem dX12_count_0 : decode cX12_count 0 = .ok (.aload_n 0, 1) := by decide +kernel
theorem dX12_count_1 : decode cX12_count 1 = .ok (.iconst 0, 1) := by decide +kernel
theorem dX12_count_2 : decode cX12_count 2 = .ok (.putfield 120, 3) := by decide +kernel
theorem dX12_count_5 : decode cX12_count 5 = .ok (.iload_n 1, 1) := by decide +kernel
theorem dX12_count_6 : decode cX12_count 6 = .ok (.tableswitch 102 0 5 #[38, 43, 48, 53, 58, 63], 38) := by decide +kernel
theorem dX12_count_44 : decode cX12_count 44 = .ok (.aload_n 0, 1) := by decide +kernel
theorem dX12_count_45 : decode cX12_count 45 = .ok (.getfield 283, 3) := by decide +kernel
theorem dX12_count_48 : decode cX12_count 48 = .ok (.ireturn, 1) := by decide +kernel
theorem dX12_count_49 : decode cX12_count 49 = .ok (.aload_n 0, 1) := by decide +kernel
theorem dX12_count_50 : decode cX12_count 50 = .ok (.getfield 278, 3) := by decide +kernel
theorem dX12_count_53 : decode cX12_count 53 = .ok (.ireturn, 1) := by decide +kernel
theorem dX12_count_54 : decode cX12_count 54 = .ok (.aload_n 0, 1) := by decide +kernel
theorem dX12_count_55 : decode cX12_count 55 = .ok (.getfield 134, 3) := by decide +kernel
theorem dX12_count_58 : decode cX12_count 58 = .ok (.ireturn, 1) := by decide +kernel
theorem dX12_count_59 : decode cX12_count 59 = .ok (.aload_n 0, 1) := by decide +kernel
theorem dX12_count_60 : decode cX12_count 60 = .ok (.getfield 286, 3) := by decide +kernel
theorem dX12_count_63 : decode cX12_count 63 = .ok (.ireturn, 1) := by decide +kernel
theorem dX12_count_64 : decode cX12_count 64 = .ok (.aload_n 0, 1) := by decide +kernel
theorem dX12_count_65 : decode cX12_count 65 = .ok (.getfield 289, 3) := by decide +kernel
theorem dX12_count_68 : decode cX12_count 68 = .ok (.ireturn, 1) := by decide +kernel
theorem dX12_count_69 : decode cX12_count 69 = .ok (.iconst 0, 1) := by decide +kernel
theorem dX12_count_70 : decode cX12_count 70 = .ok (.istore_n 2, 1) := by decide +kernel
theorem dX12_count_71 : decode cX12_count 71 = .ok (.iconst 0, 1) := by decide +kernel
theorem dX12_count_72 : decode cX12_count 72 = .ok (.istore_n 3, 1) := by decide +kernel
theorem dX12_count_73 : decode cX12_count 73 = .ok (.iload_n 3, 1) := by decide +kernel
theorem dX12_count_74 : decode cX12_count 74 = .ok (.aload_n 0, 1) := by decide +kernel
theorem dX12_count_75 : decode cX12_count 75 = .ok (.getfield 283, 3) := by decide +kernel
theorem dX12_count_78 : decode cX12_count 78 = .ok (.if_icmp .ge 28, 3) := by decide +kernel
theorem dX12_count_81 : decode cX12_count 81 = .ok (.iload_n 2, 1) := by decide +kernel
theorem dX12_count_82 : decode cX12_count 82 = .ok (.aload_n 0, 1) := by decide +kernel
theorem dX12_count_83 : decode cX12_count 83 = .ok (.getfield 48, 3) := by decide +kernel
theorem dX12_count_86 : decode cX12_count 86 = .ok (.iload_n 3, 1) := by decide +kernel
theorem dX12_count_87 : decode cX12_count 87 = .ok (.iaload, 1) := by decide +kernel
theorem dX12_count_88 : decode cX12_count 88 = .ok (.bipush 10, 2) := by decide +kernel
theorem dX12_count_90 : decode cX12_count 90 = .ok (.if_icmp .lt 7, 3) := by decide +kernel
theorem dX12_count_93 : decode cX12_count 93 = .ok (.iconst 1, 1) := by decide +kernel
theorem dX12_count_94 : decode cX12_count 94 = .ok (.goto 4, 3) := by decide +kernel
theorem dX12_count_97 : decode cX12_count 97 = .ok (.iconst 0, 1) := by decide +kernel
theorem dX12_count_98 : decode cX12_count 98 = .ok (.iadd, 1) := by decide +kernel
theorem dX12_count_99 : decode cX12_count 99 = .ok (.istore_n 2, 1) := by decide +kernel
theorem dX12_count_100 : decode cX12_count 100 = .ok (.iinc 3 1, 3) := by decide +kernel
theorem dX12_count_103 : decode cX12_count 103 = .ok (.goto (-30), 3) := by decide +kernel
theorem dX12_count_106 : decode cX12_count 106 = .ok (.iload_n 2, 1) := by decide +kernel
theorem dX12_count_107 : decode cX12_count 107 = .ok (.ireturn, 1) := by decide +kernel
theorem dX12_count_108 : decode cX12_count 108 = .ok (.ldc_w 352, 3) := by decide +kernel
theorem dX12_count_111 : decode cX12_count 111 = .ok (.ireturn, 1) := by decide +kernel
theorem F_X12_278 : FLk RX12 278 12 7 := ⟨RX12, TX12, 58, rfl, rfl, iw_X12, by decide, Or.inl fl_X12_278⟩
theorem F_X12_134 : FLk RX12 134 12 6 := ⟨RX12, TX12, 58, rfl, rfl, iw_X12, by decide, Or.inl fl_X12_134⟩
def f_X12_count_98 (q73 : Nat → Int32 → Int32 → AH → Option (Int32 × AH)) (k0 : Nat) (x3 : Int32) (s0 : Int32) (s1 : Int32) (h : AH) : Option (Int32 × AH) :=
  nm ((s1 + s0)) fun x2_1 =>
  nm (x3 + 1) fun x3_3 =>
  q73 k0 x2_1 x3_3 h
def f_X12_count_73 : Nat → Nat → Int32 → Int32 → AH → Option (Int32 × AH)
  | 0, _, _, _, _ => none
  | n + 1, k0, x2, x3, h =>
    if (h.1 k0 20) ≤ x3 then (
      some (x2, h)
    ) else (
      og (ix x3 (an (rf k0 23))) <|
      if (h.1 (rf k0 23) x3.toNatClampNeg) < 10 then (
        f_X12_count_98 (f_X12_count_73 n) k0 x3 0 x2 h
      ) else (
        f_X12_count_98 (f_X12_count_73 n) k0 x3 1 x2 h
      )
    )
def f_X12_count (k0 : Nat) (x1 : Int32) (h : AH) : Option (Int32 × AH) :=
  nm (sI h k0 0 0) fun h_1 =>
  if x1 = 0 then (
    some ((h_1.1 k0 20), h_1)
  ) else (
    if x1 = 1 then (
      some ((h_1.1 k0 7), h_1)
    ) else (
      if x1 = 2 then (
        some ((h_1.1 k0 6), h_1)
      ) else (
        if x1 = 3 then (
          some ((h_1.1 k0 32), h_1)
        ) else (
          if x1 = 4 then (
            some ((h_1.1 k0 50), h_1)
          ) else (
            if x1 = 5 then (
              f_X12_count_73 FU k0 0 0 h_1
            ) else (
              some ((-1000000), h_1)
  ))))))
set_option maxHeartbeats 4000000 in
set_option maxRecDepth 100000 in
theorem v_X12_count_98 {E : EV} {d : Nat} (hd : 0 ≤ d) {r0 : Int32} {h0 : AH} {q73 : Nat → Int32 → Int32 → AH → Option (Int32 × AH)} (cq73 : ∀ (k0 : Nat) (x2 : Int32) (x3 : Int32) (h : AH), q73 k0 x2 x3 h = some (r0, h0) → kd k0 = (0, 12) → V E (d + 1) K_X12_count (ZI E r0 h0) h [(0, .ref k0), (2, .int x2), (3, .int x3)] [] 73) {k0 : Nat} {x3 : Int32} {s0 : Int32} {s1 : Int32} {h : AH} (hf : f_X12_count_98 q73 k0 x3 s0 s1 h = some (r0, h0)) (t_k0 : kd k0 = (0, 12)) : V E (d + 1) K_X12_count (ZI E r0 h0) h [(0, .ref k0), (3, .int x3)] [.int s0, .int s1] 98 := by
  unfold f_X12_count_98 at hf
  refine V_iadd dX12_count_98 ?_
  obtain ⟨x2_1, e_2, hf⟩ := nm_s hf
  refine V_istore_n (L' := [(2, .int x2_1), (0, .ref k0), (3, .int x3)]) dX12_count_99 rfl (Nat.le_of_ble_eq_true rfl) e_2 rfl ?_
  obtain ⟨x3_3, e_4, hf⟩ := nm_s hf
  refine V_iinc (a := 1) (L' := [(3, .int x3_3), (2, .int x2_1), (0, .ref k0)]) 2 dX12_count_100 rfl (by decide) (Nat.le_of_ble_eq_true rfl) e_4 rfl ?_
  refine V_goto (tgt := 73) dX12_count_103 (by decide) ?_
  refine V_sub [2, 1, 0] rfl ?_
  exact cq73 _ _ _ _ hf t_k0
set_option maxHeartbeats 4000000 in
set_option maxRecDepth 100000 in
theorem v_X12_count_73 {E : EV} {d : Nat} (hd : 0 ≤ d) {r0 : Int32} {h0 : AH} : ∀ (n : Nat) (k0 : Nat) (x2 : Int32) (x3 : Int32) (h : AH), f_X12_count_73 n k0 x2 x3 h = some (r0, h0) → kd k0 = (0, 12) → V E (d + 1) K_X12_count (ZI E r0 h0) h [(0, .ref k0), (2, .int x2), (3, .int x3)] [] 73 := by
  intro n
  induction n with
  | zero =>
    intro k0 x2 x3 h hf
    rw [f_X12_count_73] at hf
    cases hf
  | succ n ih =>
    intro k0 x2 x3 h hf t_k0
    rw [f_X12_count_73] at hf
    refine V_iload_n 2 dX12_count_73 rfl rfl ?_
    refine V_aload_n 0 dX12_count_74 rfl rfl ?_
    refine V_getI F_X12_283 rfl t_k0 rfl dX12_count_75 ?_
    refine V_ic_ge (tgt := 106) dX12_count_78 (by decide) (fun c_1 => ?_) (fun c_1 => ?_)
    · have hf := it_s c_1 hf
      refine V_iload_n 1 dX12_count_106 rfl rfl ?_
      exact V_iret rfl (so_s hf) dX12_count_107
    · have hf := if_s c_1 hf
      refine V_iload_n 1 dX12_count_81 rfl rfl ?_
      refine V_aload_n 0 dX12_count_82 rfl rfl ?_
      refine V_getR F_X12_48 rfl t_k0 rfl dX12_count_83 ?_
      refine V_iload_n 2 dX12_count_86 rfl rfl ?_
      obtain ⟨b_2, hf⟩ := og_s hf
      refine V_iald (rfA t_k0 (Nat.le_of_ble_eq_true rfl) rfl rfl (by decide)) b_2 dX12_count_87 ?_
      refine V_bipush (v := 10) dX12_count_88 (by decide) ?_
      refine V_ic_lt (tgt := 97) dX12_count_90 (by decide) (fun c_3 => ?_) (fun c_3 => ?_)
      · have hf := it_s c_3 hf
        refine V_iconst (v := 0) dX12_count_97 (by decide) ?_
        refine V_sub [0, 2] rfl ?_
        exact v_X12_count_98 hd ih hf t_k0
      · have hf := if_s c_3 hf
        refine V_iconst (v := 1) dX12_count_93 (by decide) ?_
        refine V_goto (tgt := 98) dX12_count_94 (by decide) ?_
        refine V_sub [0, 2] rfl ?_
        exact v_X12_count_98 hd ih hf t_k0
set_option maxHeartbeats 4000000 in
set_option maxRecDepth 100000 in
theorem c_X12_count {E : EV} {d : Nat} (hd : 0 + 1 ≤ d) {k0 : Nat} {x1 : Int32} {h : AH} {r0 : Int32} {h0 : AH} (hf : f_X12_count k0 x1 h = some (r0, h0)) (t_k0 : kd k0 = (0, 12)) : Con E d K_X12_count (ZI E r0 h0) [.ref k0, .int x1] h := by
  obtain ⟨d, rfl⟩ : ∃ d', d = d' + 1 := ⟨d - 1, by omega⟩
  have hd := Nat.le_of_succ_le_succ hd
  refine Con.ofV rfl (Nat.le_of_ble_eq_true rfl) ?_
  unfold f_X12_count at hf
  show V E (d + 1) K_X12_count (ZI E r0 h0) h [(0, .ref k0), (1, .int x1)] [] 0
  refine V_aload_n 0 dX12_count_0 rfl rfl ?_
  refine V_iconst (v := 0) dX12_count_1 (by decide) ?_
  obtain ⟨h_1, e_2, hf⟩ := nm_s hf
  refine V_putI P_X12_120 rfl t_k0 rfl e_2 dX12_count_2 ?_
  refine V_iload_n 1 dX12_count_5 rfl rfl ?_
  by_cases c_3 : x1 = 0
  · have hf := it_s c_3 hf
    refine V_tin (off := 38) (tgt := 44) dX12_count_6 c_3 (by decide) (by decide) (by decide) (by decide) ?_
    refine V_aload_n 0 dX12_count_44 rfl rfl ?_
    refine V_getI F_X12_283 rfl t_k0 rfl dX12_count_45 ?_
    exact V_iret rfl (so_s hf) dX12_count_48
  · have hf := if_s c_3 hf
    by_cases c_4 : x1 = 1
    · have hf := it_s c_4 hf
      refine V_tin (off := 43) (tgt := 49) dX12_count_6 c_4 (by decide) (by decide) (by decide) (by decide) ?_
      refine V_aload_n 0 dX12_count_49 rfl rfl ?_
      refine V_getI F_X12_278 rfl t_k0 rfl dX12_count_50 ?_
      exact V_iret rfl (so_s hf) dX12_count_53
    · have hf := if_s c_4 hf
      by_cases c_5 : x1 = 2
      · have hf := it_s c_5 hf
        refine V_tin (off := 48) (tgt := 54) dX12_count_6 c_5 (by decide) (by decide) (by decide) (by decide) ?_
        refine V_aload_n 0 dX12_count_54 rfl rfl ?_
        refine V_getI F_X12_134 rfl t_k0 rfl dX12_count_55 ?_
        exact V_iret rfl (so_s hf) dX12_count_58
      · have hf := if_s c_5 hf
        by_cases c_6 : x1 = 3
        · have hf := it_s c_6 hf
          refine V_tin (off := 53) (tgt := 59) dX12_count_6 c_6 (by decide) (by decide) (by decide) (by decide) ?_
          refine V_aload_n 0 dX12_count_59 rfl rfl ?_
          refine V_getI F_X12_286 rfl t_k0 rfl dX12_count_60 ?_
          exact V_iret rfl (so_s hf) dX12_count_63
        · have hf := if_s c_6 hf
          by_cases c_7 : x1 = 4
          · have hf := it_s c_7 hf
            refine V_tin (off := 58) (tgt := 64) dX12_count_6 c_7 (by decide) (by decide) (by decide) (by decide) ?_
            refine V_aload_n 0 dX12_count_64 rfl rfl ?_
            refine V_getI F_X12_289 rfl t_k0 rfl dX12_count_65 ?_
            exact V_iret rfl (so_s hf) dX12_count_68
          · have hf := if_s c_7 hf
            by_cases c_8 : x1 = 5
            · have hf := it_s c_8 hf
              refine V_tin (off := 63) (tgt := 69) dX12_count_6 c_8 (by decide) (by decide) (by decide) (by decide) ?_
              refine V_iconst (v := 0) dX12_count_69 (by decide) ?_
              refine V_istore_n (L' := [(2, .int 0), (0, .ref k0), (1, .int x1)]) dX12_count_70 rfl (Nat.le_of_ble_eq_true rfl) rfl rfl ?_
              refine V_iconst (v := 0) dX12_count_71 (by decide) ?_
              refine V_istore_n (L' := [(3, .int 0), (2, .int 0), (0, .ref k0), (1, .int x1)]) dX12_count_72 rfl (Nat.le_of_ble_eq_true rfl) rfl rfl ?_
              refine V_sub [2, 1, 0] rfl ?_
              exact v_X12_count_73 hd FU _ _ _ _ hf t_k0
            · have hf := if_s c_8 hf
              have z0 := ne_ti (i := 0) c_3 (by decide)
              have z1 := ne_ti (i := 1) c_4 (by decide)
              have z2 := ne_ti (i := 2) c_5 (by decide)
              have z3 := ne_ti (i := 3) c_6 (by decide)
              have z4 := ne_ti (i := 4) c_7 (by decide)
              have z5 := ne_ti (i := 5) c_8 (by decide)
              refine V_tout (tgt := 108) dX12_count_6 (by omega) (by decide) ?_
              refine V_ldcw (v := (-1000000)) rfl kc_X12_352 dX12_count_108 ?_
              exact V_iret rfl (so_s hf) dX12_count_111
theorem dX12_doesEnvy_0 : decode cX12_doesEnvy 0 = .ok (.iload_n 1, 1) := by decide +kernel
theorem dX12_doesEnvy_1 : decode cX12_doesEnvy 1 = .ok (.iload_n 2, 1) := by decide +kernel
theorem dX12_doesEnvy_2 : decode cX12_doesEnvy 2 = .ok (.if_icmp .eq 27, 3) := by decide +kernel
theorem dX12_doesEnvy_5 : decode cX12_doesEnvy 5 = .ok (.aload_n 0, 1) := by decide +kernel
theorem dX12_doesEnvy_6 : decode cX12_doesEnvy 6 = .ok (.getfield 45, 3) := by decide +kernel
theorem dX12_doesEnvy_9 : decode cX12_doesEnvy 9 = .ok (.iload_n 2, 1) := by decide +kernel
theorem dX12_doesEnvy_10 : decode cX12_doesEnvy 10 = .ok (.iaload, 1) := by decide +kernel
theorem dX12_doesEnvy_11 : decode cX12_doesEnvy 11 = .ok (.iconst (-1), 1) := by decide +kernel
theorem dX12_doesEnvy_12 : decode cX12_doesEnvy 12 = .ok (.if_icmp .eq 17, 3) := by decide +kernel
theorem dX12_doesEnvy_15 : decode cX12_doesEnvy 15 = .ok (.aload_n 0, 1) := by decide +kernel
theorem dX12_doesEnvy_16 : decode cX12_doesEnvy 16 = .ok (.iload_n 1, 1) := by decide +kernel
theorem dX12_doesEnvy_17 : decode cX12_doesEnvy 17 = .ok (.aload_n 0, 1) := by decide +kernel
theorem dX12_doesEnvy_18 : decode cX12_doesEnvy 18 = .ok (.getfield 45, 3) := by decide +kernel
theorem dX12_doesEnvy_21 : decode cX12_doesEnvy 21 = .ok (.iload_n 2, 1) := by decide +kernel
theorem dX12_doesEnvy_22 : decode cX12_doesEnvy 22 = .ok (.iaload, 1) := by decide +kernel
theorem dX12_doesEnvy_23 : decode cX12_doesEnvy 23 = .ok (.invokevirtual 306, 3) := by decide +kernel
theorem dX12_doesEnvy_26 : decode cX12_doesEnvy 26 = .ok (.ifCond .ne 5, 3) := by decide +kernel
theorem dX12_doesEnvy_29 : decode cX12_doesEnvy 29 = .ok (.iconst 0, 1) := by decide +kernel
theorem dX12_doesEnvy_30 : decode cX12_doesEnvy 30 = .ok (.ireturn, 1) := by decide +kernel
theorem dX12_doesEnvy_31 : decode cX12_doesEnvy 31 = .ok (.aload_n 0, 1) := by decide +kernel
theorem dX12_doesEnvy_32 : decode cX12_doesEnvy 32 = .ok (.getfield 54, 3) := by decide +kernel
theorem dX12_doesEnvy_35 : decode cX12_doesEnvy 35 = .ok (.aload_n 0, 1) := by decide +kernel
theorem dX12_doesEnvy_36 : decode cX12_doesEnvy 36 = .ok (.getfield 45, 3) := by decide +kernel
theorem dX12_doesEnvy_39 : decode cX12_doesEnvy 39 = .ok (.iload_n 2, 1) := by decide +kernel
theorem dX12_doesEnvy_40 : decode cX12_doesEnvy 40 = .ok (.iaload, 1) := by decide +kernel
theorem dX12_doesEnvy_41 : decode cX12_doesEnvy 41 = .ok (.iaload, 1) := by decide +kernel
theorem dX12_doesEnvy_42 : decode cX12_doesEnvy 42 = .ok (.aload_n 0, 1) := by decide +kernel
theorem dX12_doesEnvy_43 : decode cX12_doesEnvy 43 = .ok (.getfield 45, 3) := by decide +kernel
theorem dX12_doesEnvy_46 : decode cX12_doesEnvy 46 = .ok (.iload_n 1, 1) := by decide +kernel
theorem dX12_doesEnvy_47 : decode cX12_doesEnvy 47 = .ok (.iaload, 1) := by decide +kernel
theorem dX12_doesEnvy_48 : decode cX12_doesEnvy 48 = .ok (.iconst (-1), 1) := by decide +kernel
theorem dX12_doesEnvy_49 : decode cX12_doesEnvy 49 = .ok (.if_icmp .ne 7, 3) := by decide +kernel
theorem dX12_doesEnvy_52 : decode cX12_doesEnvy 52 = .ok (.iconst 0, 1) := by decide +kernel
theorem dX12_doesEnvy_53 : decode cX12_doesEnvy 53 = .ok (.goto 14, 3) := by decide +kernel
theorem dX12_doesEnvy_56 : decode cX12_doesEnvy 56 = .ok (.aload_n 0, 1) := by decide +kernel
theorem dX12_doesEnvy_57 : decode cX12_doesEnvy 57 = .ok (.getfield 54, 3) := by decide +kernel
theorem dX12_doesEnvy_60 : decode cX12_doesEnvy 60 = .ok (.aload_n 0, 1) := by decide +kernel
theorem dX12_doesEnvy_61 : decode cX12_doesEnvy 61 = .ok (.getfield 45, 3) := by decide +kernel
theorem dX12_doesEnvy_64 : decode cX12_doesEnvy 64 = .ok (.iload_n 1, 1) := by decide +kernel
theorem dX12_doesEnvy_65 : decode cX12_doesEnvy 65 = .ok (.iaload, 1) := by decide +kernel
theorem dX12_doesEnvy_66 : decode cX12_doesEnvy 66 = .ok (.iaload, 1) := by decide +kernel
theorem dX12_doesEnvy_67 : decode cX12_doesEnvy 67 = .ok (.if_icmp .le 7, 3) := by decide +kernel
theorem dX12_doesEnvy_70 : decode cX12_doesEnvy 70 = .ok (.iconst 1, 1) := by decide +kernel
theorem dX12_doesEnvy_71 : decode cX12_doesEnvy 71 = .ok (.goto 4, 3) := by decide +kernel
theorem dX12_doesEnvy_74 : decode cX12_doesEnvy 74 = .ok (.iconst 0, 1) := by decide +kernel
theorem dX12_doesEnvy_75 : decode cX12_doesEnvy 75 = .ok (.ireturn, 1) := by decide +kernel
def f_X12_doesEnvy_29  (h : AH) : Option (Int32 × AH) :=
  some (0, h)
def f_X12_doesEnvy_75 (s0 : Int32) (h : AH) : Option (Int32 × AH) :=
  og (bz s0) <|
  some (s0, h)
def f_X12_doesEnvy_67 (s0 : Int32) (s1 : Int32) (h : AH) : Option (Int32 × AH) :=
  if s1 ≤ s0 then (
    f_X12_doesEnvy_75 0 h
  ) else (
    f_X12_doesEnvy_75 1 h
  )
def f_X12_doesEnvy (k0 : Nat) (x1 : Int32) (x2 : Int32) (h : AH) : Option (Int32 × AH) :=
  if x1 = x2 then (
    f_X12_doesEnvy_29 h
  ) else (
    og (ix x2 (an (rf k0 22))) <|
    if (h.1 (rf k0 22) x2.toNatClampNeg) = (-1) then (
      f_X12_doesEnvy_29 h
    ) else (
      og (ix x2 (an (rf k0 22))) <|
      ob (f_X12_doesFit k0 x1 (h.1 (rf k0 22) x2.toNatClampNeg) h) fun r_7 h_6 =>
      if r_7 = 0 then (
        f_X12_doesEnvy_29 h_6
      ) else (
        og (ix x2 (an (rf k0 22))) <|
        og (ix (h_6.1 (rf k0 22) x2.toNatClampNeg) (an (rf k0 25))) <|
        og (ix x1 (an (rf k0 22))) <|
        if (h_6.1 (rf k0 22) x1.toNatClampNeg) = (-1) then (
          f_X12_doesEnvy_67 0 (h_6.1 (rf k0 25) (h_6.1 (rf k0 22) x2.toNatClampNeg).toNatClampNeg) h_6
        ) else (
          og (ix x1 (an (rf k0 22))) <|
          og (ix (h_6.1 (rf k0 22) x1.toNatClampNeg) (an (rf k0 25))) <|
          f_X12_doesEnvy_67 (h_6.1 (rf k0 25) (h_6.1 (rf k0 22) x1.toNatClampNeg).toNatClampNeg) (h_6.1 (rf k0 25) (h_6.1 (rf k0 22) x2.toNatClampNeg).toNatClampNeg) h_6
        )
      )
    )
  )
set_option maxHeartbeats 4000000 in
set_option maxRecDepth 100000 in
theorem v_X12_doesEnvy_29 {E : EV} {d : Nat} (hd : 2 ≤ d) {r0 : Int32} {h0 : AH}  {h : AH} (hf : f_X12_doesEnvy_29 h = some (r0, h0)) : V E (d + 1) K_X12_doesEnvy (ZI E r0 h0) h [] [] 29 := by
  unfold f_X12_doesEnvy_29 at hf
  refine V_iconst (v := 0) dX12_doesEnvy_29 (by decide) ?_
  exact V_zret rfl (by decide) (so_s hf) dX12_doesEnvy_30
set_option maxHeartbeats 4000000 in
set_option maxRecDepth 100000 in
theorem v_X12_doesEnvy_75 {E : EV} {d : Nat} (hd : 2 ≤ d) {r0 : Int32} {h0 : AH} {s0 : Int32} {h : AH} (hf : f_X12_doesEnvy_75 s0 h = some (r0, h0)) : V E (d + 1) K_X12_doesEnvy (ZI E r0 h0) h [] [.int s0] 75 := by
  unfold f_X12_doesEnvy_75 at hf
  obtain ⟨b_1, hf⟩ := og_s hf
  exact V_zret rfl b_1 (so_s hf) dX12_doesEnvy_75
set_option maxHeartbeats 4000000 in
set_option maxRecDepth 100000 in
theorem v_X12_doesEnvy_67 {E : EV} {d : Nat} (hd : 2 ≤ d) {r0 : Int32} {h0 : AH} {s0 : Int32} {s1 : Int32} {h : AH} (hf : f_X12_doesEnvy_67 s0 s1 h = some (r0, h0)) : V E (d + 1) K_X12_doesEnvy (ZI E r0 h0) h [] [.int s0, .int s1] 67 := by
  unfold f_X12_doesEnvy_67 at hf
  refine V_ic_le (tgt := 74) dX12_doesEnvy_67 (by decide) (fun c_1 => ?_) (fun c_1 => ?_)
  · have hf := it_s c_1 hf
    refine V_iconst (v := 0) dX12_doesEnvy_74 (by decide) ?_
    exact v_X12_doesEnvy_75 hd hf
  · have hf := if_s c_1 hf
    refine V_iconst (v := 1) dX12_doesEnvy_70 (by decide) ?_
    refine V_goto (tgt := 75) dX12_doesEnvy_71 (by decide) ?_
    exact v_X12_doesEnvy_75 hd hf
set_option maxHeartbeats 4000000 in
set_option maxRecDepth 100000 in
theorem c_X12_doesEnvy {E : EV} {d : Nat} (hd : 2 + 1 ≤ d) {k0 : Nat} {x1 : Int32} {x2 : Int32} {h : AH} {r0 : Int32} {h0 : AH} (hf : f_X12_doesEnvy k0 x1 x2 h = some (r0, h0)) (t_k0 : kd k0 = (0, 12)) : Con E d K_X12_doesEnvy (ZI E r0 h0) [.ref k0, .int x1, .int x2] h := by
  obtain ⟨d, rfl⟩ : ∃ d', d = d' + 1 := ⟨d - 1, by omega⟩
  have hd := Nat.le_of_succ_le_succ hd
  refine Con.ofV rfl (Nat.le_of_ble_eq_true rfl) ?_
  unfold f_X12_doesEnvy at hf
  show V E (d + 1) K_X12_doesEnvy (ZI E r0 h0) h [(0, .ref k0), (1, .int x1), (2, .int x2)] [] 0
  refine V_iload_n 1 dX12_doesEnvy_0 rfl rfl ?_
  refine V_iload_n 2 dX12_doesEnvy_1 rfl rfl ?_
  refine V_ic_eq (tgt := 29) dX12_doesEnvy_2 (by decide) (fun c_1 => ?_) (fun c_1 => ?_)
  · have hf := it_s c_1 hf
    refine V_sub [] rfl ?_
    exact v_X12_doesEnvy_29 hd hf
  · have hf := if_s c_1 hf
    refine V_aload_n 0 dX12_doesEnvy_5 rfl rfl ?_
    refine V_getR F_X12_45 rfl t_k0 rfl dX12_doesEnvy_6 ?_
    refine V_iload_n 2 dX12_doesEnvy_9 rfl rfl ?_
    obtain ⟨b_2, hf⟩ := og_s hf
    refine V_iald (rfA t_k0 (Nat.le_of_ble_eq_true rfl) rfl rfl (by decide)) b_2 dX12_doesEnvy_10 ?_
    refine V_iconst (v := (-1)) dX12_doesEnvy_11 (by decide) ?_
    refine V_ic_eq (tgt := 29) dX12_doesEnvy_12 (by decide) (fun c_3 => ?_) (fun c_3 => ?_)
    · have hf := it_s c_3 hf
      refine V_sub [] rfl ?_
      exact v_X12_doesEnvy_29 hd hf
    · have hf := if_s c_3 hf
      refine V_aload_n 0 dX12_doesEnvy_15 rfl rfl ?_
      refine V_iload_n 1 dX12_doesEnvy_16 rfl rfl ?_
      refine V_aload_n 0 dX12_doesEnvy_17 rfl rfl ?_
      refine V_getR F_X12_45 rfl t_k0 rfl dX12_doesEnvy_18 ?_
      refine V_iload_n 2 dX12_doesEnvy_21 rfl rfl ?_
      obtain ⟨b_4, hf⟩ := og_s hf
      refine V_iald (rfA t_k0 (Nat.le_of_ble_eq_true rfl) rfl rfl (by decide)) b_4 dX12_doesEnvy_22 ?_
      obtain ⟨r_7, h_6, e_5, hf⟩ := ob_s hf
      refine V_cvi (As := [.int x1, .int (h.1 (rf k0 22) x2.toNatClampNeg)]) (rest := []) (c_X12_doesFit (d := d) (Nat.le_trans (Nat.le_of_ble_eq_true rfl) hd) e_5 t_k0) ML_X12_306 MV_X12_doesFit rfl t_k0 rfl rfl (Nat.le_of_ble_eq_true rfl) dX12_doesEnvy_23 ?_
      refine V_if_ne (tgt := 31) dX12_doesEnvy_26 (by decide) (fun c_8 => ?_) (fun c_8 => ?_)
      · have hf := if_s c_8 hf
        refine V_aload_n 0 dX12_doesEnvy_31 rfl rfl ?_
        refine V_getR F_X12_54 rfl t_k0 rfl dX12_doesEnvy_32 ?_
        refine V_aload_n 0 dX12_doesEnvy_35 rfl rfl ?_
        refine V_getR F_X12_45 rfl t_k0 rfl dX12_doesEnvy_36 ?_
        refine V_iload_n 2 dX12_doesEnvy_39 rfl rfl ?_
        obtain ⟨b_9, hf⟩ := og_s hf
        refine V_iald (rfA t_k0 (Nat.le_of_ble_eq_true rfl) rfl rfl (by decide)) b_9 dX12_doesEnvy_40 ?_
        obtain ⟨b_10, hf⟩ := og_s hf
        refine V_iald (rfA t_k0 (Nat.le_of_ble_eq_true rfl) rfl rfl (by decide)) b_10 dX12_doesEnvy_41 ?_
        refine V_aload_n 0 dX12_doesEnvy_42 rfl rfl ?_
        refine V_getR F_X12_45 rfl t_k0 rfl dX12_doesEnvy_43 ?_
        refine V_iload_n 1 dX12_doesEnvy_46 rfl rfl ?_
        obtain ⟨b_11, hf⟩ := og_s hf
        refine V_iald (rfA t_k0 (Nat.le_of_ble_eq_true rfl) rfl rfl (by decide)) b_11 dX12_doesEnvy_47 ?_
        refine V_iconst (v := (-1)) dX12_doesEnvy_48 (by decide) ?_
        refine V_ic_ne (tgt := 56) dX12_doesEnvy_49 (by decide) (fun c_12 => ?_) (fun c_12 => ?_)
        · have hf := if_s c_12 hf
          refine V_aload_n 0 dX12_doesEnvy_56 rfl rfl ?_
          refine V_getR F_X12_54 rfl t_k0 rfl dX12_doesEnvy_57 ?_
          refine V_aload_n 0 dX12_doesEnvy_60 rfl rfl ?_
          refine V_getR F_X12_45 rfl t_k0 rfl dX12_doesEnvy_61 ?_
          refine V_iload_n 1 dX12_doesEnvy_64 rfl rfl ?_
          obtain ⟨b_13, hf⟩ := og_s hf
          refine V_iald (rfA t_k0 (Nat.le_of_ble_eq_true rfl) rfl rfl (by decide)) b_13 dX12_doesEnvy_65 ?_
          obtain ⟨b_14, hf⟩ := og_s hf
          refine V_iald (rfA t_k0 (Nat.le_of_ble_eq_true rfl) rfl rfl (by decide)) b_14 dX12_doesEnvy_66 ?_
          refine V_sub [] rfl ?_
          exact v_X12_doesEnvy_67 hd hf
        · have hf := it_s c_12 hf
          refine V_iconst (v := 0) dX12_doesEnvy_52 (by decide) ?_
          refine V_goto (tgt := 67) dX12_doesEnvy_53 (by decide) ?_
          refine V_sub [] rfl ?_
          exact v_X12_doesEnvy_67 hd hf
      · have hf := it_s c_8 hf
        refine V_sub [] rfl ?_
        exact v_X12_doesEnvy_29 hd hf
theorem dX12_draw_0 : decode cX12_draw 0 = .ok (.aload_n 0, 1) := by decide +kernel
theorem dX12_draw_1 : decode cX12_draw 1 = .ok (.aload_n 0, 1) := by decide +kernel
theorem dX12_draw_2 : decode cX12_draw 2 = .ok (.getfield 397, 3) := by decide +kernel
theorem dX12_draw_5 : decode cX12_draw 5 = .ok (.ldc2_w 401, 3) := by decide +kernel
theorem dX12_draw_8 : decode cX12_draw 8 = .ok (.lmul, 1) := by decide +kernel
theorem dX12_draw_9 : decode cX12_draw 9 = .ok (.ldc2_w 403, 3) := by decide +kernel
theorem dX12_draw_12 : decode cX12_draw 12 = .ok (.ladd, 1) := by decide +kernel
theorem dX12_draw_13 : decode cX12_draw 13 = .ok (.putfield 397, 3) := by decide +kernel
theorem dX12_draw_16 : decode cX12_draw 16 = .ok (.aload_n 0, 1) := by decide +kernel
theorem dX12_draw_17 : decode cX12_draw 17 = .ok (.getfield 397, 3) := by decide +kernel
theorem dX12_draw_20 : decode cX12_draw 20 = .ok (.bipush 33, 2) := by decide +kernel
theorem dX12_draw_22 : decode cX12_draw 22 = .ok (.lushr, 1) := by decide +kernel
theorem dX12_draw_23 : decode cX12_draw 23 = .ok (.iload_n 1, 1) := by decide +kernel
theorem dX12_draw_24 : decode cX12_draw 24 = .ok (.i2l, 1) := by decide +kernel
theorem dX12_draw_25 : decode cX12_draw 25 = .ok (.lrem, 1) := by decide +kernel
theorem dX12_draw_26 : decode cX12_draw 26 = .ok (.l2i, 1) := by decide +kernel
theorem dX12_draw_27 : decode cX12_draw 27 = .ok (.ireturn, 1) := by decide +kernel
theorem F_X12_397 : FLk RX12 397 12 38 := ⟨RX12, TX12, 58, rfl, rfl, iw_X12, by decide, Or.inl fl_X12_397⟩
theorem P_X12_397 : FPk RX12 397 12 38 .long := ⟨RX12, TX12, 58, tyX12, rfl, rfl, iw_X12, by decide, Or.inl fl_X12_397, tyX12_ok, nmX12, rfl, by decide +kernel⟩
def f_X12_draw (k0 : Nat) (x1 : Int32) (h : AH) : Option (Int32 × AH) :=
  nm (sL h k0 (((h.2.1 k0) * 6364136223846793005) + 1442695040888963407)) fun h_1 =>
  og (decide (¬ ((x1).toInt64) = 0)) <|
  some ((((jlrem (jlushr (h_1.2.1 k0) 33) ((x1).toInt64))).toInt32), h_1)
set_option maxHeartbeats 4000000 in
set_option maxRecDepth 100000 in
theorem c_X12_draw {E : EV} {d : Nat} (hd : 0 + 1 ≤ d) {k0 : Nat} {x1 : Int32} {h : AH} {r0 : Int32} {h0 : AH} (hf : f_X12_draw k0 x1 h = some (r0, h0)) (t_k0 : kd k0 = (0, 12)) : Con E d K_X12_draw (ZI E r0 h0) [.ref k0, .int x1] h := by
  obtain ⟨d, rfl⟩ : ∃ d', d = d' + 1 := ⟨d - 1, by omega⟩
  have hd := Nat.le_of_succ_le_succ hd
  refine Con.ofV rfl (Nat.le_of_ble_eq_true rfl) ?_
  unfold f_X12_draw at hf
  show V E (d + 1) K_X12_draw (ZI E r0 h0) h [(0, .ref k0), (1, .int x1)] [] 0
  refine V_aload_n 0 dX12_draw_0 rfl rfl ?_
  refine V_aload_n 0 dX12_draw_1 rfl rfl ?_
  refine V_getL F_X12_397 rfl t_k0 rfl dX12_draw_2 ?_
  refine V_ldc2 (v := 6364136223846793005) rfl kl_X12_401 dX12_draw_5 ?_
  refine V_lmul dX12_draw_8 ?_
  refine V_ldc2 (v := 1442695040888963407) rfl kl_X12_403 dX12_draw_9 ?_
  refine V_ladd dX12_draw_12 ?_
  obtain ⟨h_1, e_2, hf⟩ := nm_s hf
  refine V_putL P_X12_397 rfl t_k0 rfl (by decide) e_2 dX12_draw_13 ?_
  refine V_aload_n 0 dX12_draw_16 rfl rfl ?_
  refine V_getL F_X12_397 rfl t_k0 rfl dX12_draw_17 ?_
  refine V_bipush (v := 33) dX12_draw_20 (by decide) ?_
  refine V_lushr dX12_draw_22 ?_
  refine V_iload_n 1 dX12_draw_23 rfl rfl ?_
  refine V_i2l dX12_draw_24 ?_
  obtain ⟨b_3, hf⟩ := og_s hf
  refine V_lrem dX12_draw_25 (of_decide_eq_true b_3) ?_
  refine V_l2i dX12_draw_26 ?_
  exact V_iret rfl (so_s hf) dX12_draw_27
theorem dX12_goDream_0 : decode cX12_goDream 0 = .ok (.iload_n 1, 1) := by decide +kernel
theorem dX12_goDream_1 : decode cX12_goDream 1 = .ok (.aload_n 0, 1) := by decide +kernel
theorem dX12_goDream_2 : decode cX12_goDream 2 = .ok (.getfield 283, 3) := by decide +kernel
theorem dX12_goDream_5 : decode cX12_goDream 5 = .ok (.if_icmp .ne 52, 3) := by decide +kernel
theorem dX12_goDream_8 : decode cX12_goDream 8 = .ok (.iload 4, 2) := by decide +kernel
theorem dX12_goDream_10 : decode cX12_goDream 10 = .ok (.aload_n 0, 1) := by decide +kernel
theorem dX12_goDream_11 : decode cX12_goDream 11 = .ok (.getfield 440, 3) := by decide +kernel
theorem dX12_goDream_14 : decode cX12_goDream 14 = .ok (.if_icmp .gt 4, 3) := by decide +kernel
theorem dX12_goDream_17 : decode cX12_goDream 17 = .ok (.return_, 1) := by decide +kernel
theorem dX12_goDream_18 : decode cX12_goDream 18 = .ok (.aload_n 0, 1) := by decide +kernel
theorem dX12_goDream_19 : decode cX12_goDream 19 = .ok (.iload 4, 2) := by decide +kernel
theorem dX12_goDream_21 : decode cX12_goDream 21 = .ok (.putfield 440, 3) := by decide +kernel
theorem dX12_goDream_24 : decode cX12_goDream 24 = .ok (.iconst 0, 1) := by decide +kernel
theorem dX12_goDream_25 : decode cX12_goDream 25 = .ok (.istore 5, 2) := by decide +kernel
theorem dX12_goDream_27 : decode cX12_goDream 27 = .ok (.iload 5, 2) := by decide +kernel
theorem dX12_goDream_29 : decode cX12_goDream 29 = .ok (.aload_n 0, 1) := by decide +kernel
theorem dX12_goDream_30 : decode cX12_goDream 30 = .ok (.getfield 283, 3) := by decide +kernel
theorem dX12_goDream_33 : decode cX12_goDream 33 = .ok (.if_icmp .ge 23, 3) := by decide +kernel
theorem dX12_goDream_36 : decode cX12_goDream 36 = .ok (.aload_n 0, 1) := by decide +kernel
theorem dX12_goDream_37 : decode cX12_goDream 37 = .ok (.getfield 114, 3) := by decide +kernel
theorem dX12_goDream_40 : decode cX12_goDream 40 = .ok (.iload 5, 2) := by decide +kernel
theorem dX12_goDream_42 : decode cX12_goDream 42 = .ok (.aload_n 0, 1) := by decide +kernel
theorem dX12_goDream_43 : decode cX12_goDream 43 = .ok (.getfield 111, 3) := by decide +kernel
theorem dX12_goDream_46 : decode cX12_goDream 46 = .ok (.iload 5, 2) := by decide +kernel
theorem dX12_goDream_48 : decode cX12_goDream 48 = .ok (.iaload, 1) := by decide +kernel
theorem dX12_goDream_49 : decode cX12_goDream 49 = .ok (.iastore, 1) := by decide +kernel
theorem dX12_goDream_50 : decode cX12_goDream 50 = .ok (.iinc 5 1, 3) := by decide +kernel
theorem dX12_goDream_53 : decode cX12_goDream 53 = .ok (.goto (-26), 3) := by decide +kernel
theorem dX12_goDream_56 : decode cX12_goDream 56 = .ok (.return_, 1) := by decide +kernel
theorem dX12_goDream_57 : decode cX12_goDream 57 = .ok (.aload_n 0, 1) := by decide +kernel
theorem dX12_goDream_58 : decode cX12_goDream 58 = .ok (.getfield 111, 3) := by decide +kernel
theorem dX12_goDream_61 : decode cX12_goDream 61 = .ok (.iload_n 1, 1) := by decide +kernel
theorem dX12_goDream_62 : decode cX12_goDream 62 = .ok (.iconst (-1), 1) := by decide +kernel
theorem dX12_goDream_63 : decode cX12_goDream 63 = .ok (.iastore, 1) := by decide +kernel
theorem dX12_goDream_64 : decode cX12_goDream 64 = .ok (.iconst 0, 1) := by decide +kernel
theorem dX12_goDream_65 : decode cX12_goDream 65 = .ok (.istore 5, 2) := by decide +kernel
theorem dX12_goDream_67 : decode cX12_goDream 67 = .ok (.iload 5, 2) := by decide +kernel
theorem dX12_goDream_69 : decode cX12_goDream 69 = .ok (.aload_n 0, 1) := by decide +kernel
theorem dX12_goDream_70 : decode cX12_goDream 70 = .ok (.getfield 283, 3) := by decide +kernel
theorem dX12_goDream_73 : decode cX12_goDream 73 = .ok (.if_icmp .ge 73, 3) := by decide +kernel
theorem dX12_goDream_76 : decode cX12_goDream 76 = .ok (.iload_n 2, 1) := by decide +kernel
theorem dX12_goDream_77 : decode cX12_goDream 77 = .ok (.iload_n 1, 1) := by decide +kernel
theorem dX12_goDream_78 : decode cX12_goDream 78 = .ok (.invokestatic 258, 3) := by decide +kernel
theorem dX12_goDream_81 : decode cX12_goDream 81 = .ok (.ifCond .eq 65, 3) := by decide +kernel
theorem dX12_goDream_84 : decode cX12_goDream 84 = .ok (.iload_n 3, 1) := by decide +kernel
theorem dX12_goDream_85 : decode cX12_goDream 85 = .ok (.iload 5, 2) := by decide +kernel
theorem dX12_goDream_87 : decode cX12_goDream 87 = .ok (.invokestatic 258, 3) := by decide +kernel
theorem dX12_goDream_90 : decode cX12_goDream 90 = .ok (.ifCond .eq 50, 3) := by decide +kernel
theorem dX12_goDream_93 : decode cX12_goDream 93 = .ok (.aload_n 0, 1) := by decide +kernel
theorem dX12_goDream_94 : decode cX12_goDream 94 = .ok (.iload_n 1, 1) := by decide +kernel
theorem dX12_goDream_95 : decode cX12_goDream 95 = .ok (.iload 5, 2) := by decide +kernel
theorem dX12_goDream_97 : decode cX12_goDream 97 = .ok (.invokevirtual 306, 3) := by decide +kernel
theorem dX12_goDream_100 : decode cX12_goDream 100 = .ok (.ifCond .ne 6, 3) := by decide +kernel
theorem dX12_goDream_103 : decode cX12_goDream 103 = .ok (.goto 37, 3) := by decide +kernel
theorem dX12_goDream_106 : decode cX12_goDream 106 = .ok (.aload_n 0, 1) := by decide +kernel
theorem dX12_goDream_107 : decode cX12_goDream 107 = .ok (.getfield 111, 3) := by decide +kernel
theorem dX12_goDream_110 : decode cX12_goDream 110 = .ok (.iload_n 1, 1) := by decide +kernel
theorem dX12_goDream_111 : decode cX12_goDream 111 = .ok (.iload 5, 2) := by decide +kernel
theorem dX12_goDream_113 : decode cX12_goDream 113 = .ok (.iastore, 1) := by decide +kernel
theorem dX12_goDream_114 : decode cX12_goDream 114 = .ok (.aload_n 0, 1) := by decide +kernel
theorem dX12_goDream_115 : decode cX12_goDream 115 = .ok (.iload_n 1, 1) := by decide +kernel
theorem dX12_goDream_116 : decode cX12_goDream 116 = .ok (.iconst 1, 1) := by decide +kernel
theorem dX12_goDream_117 : decode cX12_goDream 117 = .ok (.iadd, 1) := by decide +kernel
theorem dX12_goDream_118 : decode cX12_goDream 118 = .ok (.iload_n 2, 1) := by decide +kernel
theorem dX12_goDream_119 : decode cX12_goDream 119 = .ok (.iload_n 3, 1) := by decide +kernel
theorem dX12_goDream_120 : decode cX12_goDream 120 = .ok (.iconst 1, 1) := by decide +kernel
theorem dX12_goDream_121 : decode cX12_goDream 121 = .ok (.iload 5, 2) := by decide +kernel
theorem dX12_goDream_123 : decode cX12_goDream 123 = .ok (.ishl, 1) := by decide +kernel
theorem dX12_goDream_124 : decode cX12_goDream 124 = .ok (.iconst (-1), 1) := by decide +kernel
theorem dX12_goDream_125 : decode cX12_goDream 125 = .ok (.ixor, 1) := by decide +kernel
theorem dX12_goDream_126 : decode cX12_goDream 126 = .ok (.iand, 1) := by decide +kernel
theorem dX12_goDream_127 : decode cX12_goDream 127 = .ok (.iload 4, 2) := by decide +kernel
theorem dX12_goDream_129 : decode cX12_goDream 129 = .ok (.aload_n 0, 1) := by decide +kernel
theorem dX12_goDream_130 : decode cX12_goDream 130 = .ok (.getfield 54, 3) := by decide +kernel
theorem dX12_goDream_133 : decode cX12_goDream 133 = .ok (.iload 5, 2) := by decide +kernel
theorem dX12_goDream_135 : decode cX12_goDream 135 = .ok (.iaload, 1) := by decide +kernel
theorem dX12_goDream_136 : decode cX12_goDream 136 = .ok (.iadd, 1) := by decide +kernel
theorem dX12_goDream_137 : decode cX12_goDream 137 = .ok (.invokevirtual 443, 3) := by decide +kernel
theorem dX12_goDream_140 : decode cX12_goDream 140 = .ok (.iinc 5 1, 3) := by decide +kernel
theorem dX12_goDream_143 : decode cX12_goDream 143 = .ok (.goto (-76), 3) := by decide +kernel
theorem dX12_goDream_146 : decode cX12_goDream 146 = .ok (.aload_n 0, 1) := by decide +kernel
theorem dX12_goDream_147 : decode cX12_goDream 147 = .ok (.getfield 111, 3) := by decide +kernel
theorem dX12_goDream_150 : decode cX12_goDream 150 = .ok (.iload_n 1, 1) := by decide +kernel
theorem dX12_goDream_151 : decode cX12_goDream 151 = .ok (.iconst (-1), 1) := by decide +kernel
theorem dX12_goDream_152 : decode cX12_goDream 152 = .ok (.iastore, 1) := by decide +kernel
theorem dX12_goDream_153 : decode cX12_goDream 153 = .ok (.aload_n 0, 1) := by decide +kernel
theorem dX12_goDream_154 : decode cX12_goDream 154 = .ok (.iload_n 1, 1) := by decide +kernel
theorem dX12_goDream_155 : decode cX12_goDream 155 = .ok (.iconst 1, 1) := by decide +kernel
theorem dX12_goDream_156 : decode cX12_goDream 156 = .ok (.iadd, 1) := by decide +kernel
theorem dX12_goDream_157 : decode cX12_goDream 157 = .ok (.iload_n 2, 1) := by decide +kernel
theorem dX12_goDream_158 : decode cX12_goDream 158 = .ok (.iload_n 3, 1) := by decide +kernel
theorem dX12_goDream_159 : decode cX12_goDream 159 = .ok (.iload 4, 2) := by decide +kernel
theorem dX12_goDream_161 : decode cX12_goDream 161 = .ok (.invokevirtual 443, 3) := by decide +kernel
theorem dX12_goDream_164 : decode cX12_goDream 164 = .ok (.return_, 1) := by decide +kernel
theorem F_X12_114 : FLk RX12 114 12 52 := ⟨RX12, TX12, 58, rfl, rfl, iw_X12, by decide, Or.inl fl_X12_114⟩
theorem F_X12_111 : FLk RX12 111 12 51 := ⟨RX12, TX12, 58, rfl, rfl, iw_X12, by decide, Or.inl fl_X12_111⟩
theorem ML_X12_443 : MLk RX12 443 yX12_goDream := Or.inl ml_X12_443
theorem MV_X12_goDream : MVk K_X12_goDream 4 12 := ⟨⟨cd_X12_goDream, in_X12, ⟨by decide, by decide, by decide +kernel⟩, by decide⟩, im_X12_goDream, se_X12_goDream, _, _, rfl⟩
theorem F_X12_440 : FLk RX12 440 12 53 := ⟨RX12, TX12, 58, rfl, rfl, iw_X12, by decide, Or.inl fl_X12_440⟩
theorem P_X12_440 : FPk RX12 440 12 53 .int := ⟨RX12, TX12, 58, tyX12, rfl, rfl, iw_X12, by decide, Or.inl fl_X12_440, tyX12_ok, nmX12, rfl, by decide +kernel⟩
def f_X12_goDream_27 (cb : Nat → Int32 → Int32 → Int32 → Int32 → AH → Option AH) : Nat → Nat → Int32 → AH → Option AH
  | 0, _, _, _ => none
  | n + 1, k0, x5, h =>
    if (h.1 k0 20) ≤ x5 then (
      some h
    ) else (
      og (ix x5 (an (rf k0 51))) <|
      og (ix x5 (an (rf k0 52))) <|
      nm (sI h (rf k0 52) x5.toNatClampNeg (h.1 (rf k0 51) x5.toNatClampNeg)) fun h_4 =>
      nm (x5 + 1) fun x5_6 =>
      f_X12_goDream_27 cb n k0 x5_6 h_4
    )
def f_X12_goDream_140 (cb : Nat → Int32 → Int32 → Int32 → Int32 → AH → Option AH) (q67 : Nat → Int32 → Int32 → Int32 → Int32 → Int32 → AH → Option AH) (k0 : Nat) (x1 : Int32) (x2 : Int32) (x3 : Int32) (x4 : Int32) (x5 : Int32) (h : AH) : Option AH :=
  nm (x5 + 1) fun x5_1 =>
  q67 k0 x1 x2 x3 x4 x5_1 h
def f_X12_goDream_146 (cb : Nat → Int32 → Int32 → Int32 → Int32 → AH → Option AH) (k0 : Nat) (x1 : Int32) (x2 : Int32) (x3 : Int32) (x4 : Int32) (h : AH) : Option AH :=
  og (ix x1 (an (rf k0 51))) <|
  nm (sI h (rf k0 51) x1.toNatClampNeg (-1)) fun h_2 =>
  ov (cb k0 (x1 + 1) x2 x3 x4 h_2) fun h_5 =>
  some h_5
def f_X12_goDream_67 (cb : Nat → Int32 → Int32 → Int32 → Int32 → AH → Option AH) : Nat → Nat → Int32 → Int32 → Int32 → Int32 → Int32 → AH → Option AH
  | 0, _, _, _, _, _, _, _ => none
  | n + 1, k0, x1, x2, x3, x4, x5, h =>
    if (h.1 k0 20) ≤ x5 then (
      f_X12_goDream_146 cb k0 x1 x2 x3 x4 h
    ) else (
      ob (f_X12_has x2 x1 h) fun r_4 h_3 =>
      if r_4 = 0 then (
        f_X12_goDream_146 cb k0 x1 x2 x3 x4 h_3
      ) else (
        ob (f_X12_has x3 x5 h_3) fun r_8 h_7 =>
        if r_8 = 0 then (
          f_X12_goDream_140 cb (f_X12_goDream_67 cb n) k0 x1 x2 x3 x4 x5 h_7
        ) else (
          ob (f_X12_doesFit k0 x1 x5 h_7) fun r_12 h_11 =>
          if r_12 = 0 then (
            f_X12_goDream_140 cb (f_X12_goDream_67 cb n) k0 x1 x2 x3 x4 x5 h_11
          ) else (
            og (ix x1 (an (rf k0 51))) <|
            nm (sI h_11 (rf k0 51) x1.toNatClampNeg x5) fun h_15 =>
            og (ix x5 (an (rf k0 25))) <|
            ov (cb k0 (x1 + 1) x2 (x3 &&& (((1 : Int32) <<< (x5 &&& 31)) ^^^ (-1))) (x4 + (h_15.1 (rf k0 25) x5.toNatClampNeg)) h_15) fun h_19 =>
            f_X12_goDream_140 cb (f_X12_goDream_67 cb n) k0 x1 x2 x3 x4 x5 h_19
          )
        )
      )
    )
def f_X12_goDream (cb : Nat → Int32 → Int32 → Int32 → Int32 → AH → Option AH) (k0 : Nat) (x1 : Int32) (x2 : Int32) (x3 : Int32) (x4 : Int32) (h : AH) : Option AH :=
  if x1 = (h.1 k0 20) then (
    if (h.1 k0 53) < x4 then (
      nm (sI h k0 53 x4) fun h_6 =>
      f_X12_goDream_27 cb FU k0 0 h_6
    ) else (
      some h
    )
  ) else (
    og (ix x1 (an (rf k0 51))) <|
    nm (sI h (rf k0 51) x1.toNatClampNeg (-1)) fun h_3 =>
    f_X12_goDream_67 cb FU k0 x1 x2 x3 x4 0 h_3
  )
def r_X12_goDream : Nat → Nat → Int32 → Int32 → Int32 → Int32 → AH → Option AH
  | 0, _, _, _, _, _, _ => none
  | n + 1, k0, x1, x2, x3, x4, h => f_X12_goDream (r_X12_goDream n) k0 x1 x2 x3 x4 h
set_option maxHeartbeats 4000000 in
set_option maxRecDepth 100000 in
theorem v_X12_goDream_27 {E : EV} {d : Nat} {cb : Nat → Int32 → Int32 → Int32 → Int32 → AH → Option AH} {dc : Nat} (hcb : ∀ {d : Nat}, dc ≤ d → ∀ {k0 : Nat} {x1 : Int32} {x2 : Int32} {x3 : Int32} {x4 : Int32} {h : AH} {h0 : AH}, cb k0 x1 x2 x3 x4 h = some h0 → kd k0 = (0, 12) → Con E d K_X12_goDream (ZV E h0) [.ref k0, .int x1, .int x2, .int x3, .int x4] h) (hd : 2 + dc ≤ d) {h0 : AH} : ∀ (n : Nat) (k0 : Nat) (x5 : Int32) (h : AH), f_X12_goDream_27 cb n k0 x5 h = some h0 → kd k0 = (0, 12) → V E (d + 1) K_X12_goDream (ZV E h0) h [(0, .ref k0), (5, .int x5)] [] 27 := by
  intro n
  induction n with
  | zero =>
    intro k0 x5 h hf
    rw [f_X12_goDream_27] at hf
    cases hf
  | succ n ih =>
    intro k0 x5 h hf t_k0
    rw [f_X12_goDream_27] at hf
    refine V_iload 1 dX12_goDream_27 rfl ?_
    refine V_aload_n 0 dX12_goDream_29 rfl rfl ?_
    refine V_getI F_X12_283 rfl t_k0 rfl dX12_goDream_30 ?_
    refine V_ic_ge (tgt := 56) dX12_goDream_33 (by decide) (fun c_1 => ?_) (fun c_1 => ?_)
    · have hf := it_s c_1 hf
      exact V_vret rfl (so_s hf) dX12_goDream_56
    · have hf := if_s c_1 hf
      refine V_aload_n 0 dX12_goDream_36 rfl rfl ?_
      refine V_getR F_X12_114 rfl t_k0 rfl dX12_goDream_37 ?_
      refine V_iload 1 dX12_goDream_40 rfl ?_
      refine V_aload_n 0 dX12_goDream_42 rfl rfl ?_
      refine V_getR F_X12_111 rfl t_k0 rfl dX12_goDream_43 ?_
      refine V_iload 1 dX12_goDream_46 rfl ?_
      obtain ⟨b_2, hf⟩ := og_s hf
      refine V_iald (rfA t_k0 (Nat.le_of_ble_eq_true rfl) rfl rfl (by decide)) b_2 dX12_goDream_48 ?_
      obtain ⟨b_3, hf⟩ := og_s hf
      obtain ⟨h_4, e_5, hf⟩ := nm_s hf
      refine V_iast (rfA t_k0 (Nat.le_of_ble_eq_true rfl) rfl rfl (by decide)) b_3 e_5 dX12_goDream_49 ?_
      obtain ⟨x5_6, e_7, hf⟩ := nm_s hf
      refine V_iinc (a := 1) (L' := [(5, .int x5_6), (0, .ref k0)]) 1 dX12_goDream_50 rfl (by decide) (Nat.le_of_ble_eq_true rfl) e_7 rfl ?_
      refine V_goto (tgt := 27) dX12_goDream_53 (by decide) ?_
      refine V_sub [1, 0] rfl ?_
      exact ih _ _ _ hf t_k0
set_option maxHeartbeats 4000000 in
set_option maxRecDepth 100000 in
theorem v_X12_goDream_140 {E : EV} {d : Nat} {cb : Nat → Int32 → Int32 → Int32 → Int32 → AH → Option AH} {dc : Nat} (hcb : ∀ {d : Nat}, dc ≤ d → ∀ {k0 : Nat} {x1 : Int32} {x2 : Int32} {x3 : Int32} {x4 : Int32} {h : AH} {h0 : AH}, cb k0 x1 x2 x3 x4 h = some h0 → kd k0 = (0, 12) → Con E d K_X12_goDream (ZV E h0) [.ref k0, .int x1, .int x2, .int x3, .int x4] h) (hd : 2 + dc ≤ d) {h0 : AH} {q67 : Nat → Int32 → Int32 → Int32 → Int32 → Int32 → AH → Option AH} (cq67 : ∀ (k0 : Nat) (x1 : Int32) (x2 : Int32) (x3 : Int32) (x4 : Int32) (x5 : Int32) (h : AH), q67 k0 x1 x2 x3 x4 x5 h = some h0 → kd k0 = (0, 12) → V E (d + 1) K_X12_goDream (ZV E h0) h [(0, .ref k0), (1, .int x1), (2, .int x2), (3, .int x3), (4, .int x4), (5, .int x5)] [] 67) {k0 : Nat} {x1 : Int32} {x2 : Int32} {x3 : Int32} {x4 : Int32} {x5 : Int32} {h : AH} (hf : f_X12_goDream_140 cb q67 k0 x1 x2 x3 x4 x5 h = some h0) (t_k0 : kd k0 = (0, 12)) : V E (d + 1) K_X12_goDream (ZV E h0) h [(0, .ref k0), (1, .int x1), (2, .int x2), (3, .int x3), (4, .int x4), (5, .int x5)] [] 140 := by
  unfold f_X12_goDream_140 at hf
  obtain ⟨x5_1, e_2, hf⟩ := nm_s hf
  refine V_iinc (a := 1) (L' := [(5, .int x5_1), (0, .ref k0), (1, .int x1), (2, .int x2), (3, .int x3), (4, .int x4)]) 5 dX12_goDream_140 rfl (by decide) (Nat.le_of_ble_eq_true rfl) e_2 rfl ?_
  refine V_goto (tgt := 67) dX12_goDream_143 (by decide) ?_
  refine V_sub [1, 2, 3, 4, 5, 0] rfl ?_
  exact cq67 _ _ _ _ _ _ _ hf t_k0
set_option maxHeartbeats 4000000 in
set_option maxRecDepth 100000 in
theorem v_X12_goDream_146 {E : EV} {d : Nat} {cb : Nat → Int32 → Int32 → Int32 → Int32 → AH → Option AH} {dc : Nat} (hcb : ∀ {d : Nat}, dc ≤ d → ∀ {k0 : Nat} {x1 : Int32} {x2 : Int32} {x3 : Int32} {x4 : Int32} {h : AH} {h0 : AH}, cb k0 x1 x2 x3 x4 h = some h0 → kd k0 = (0, 12) → Con E d K_X12_goDream (ZV E h0) [.ref k0, .int x1, .int x2, .int x3, .int x4] h) (hd : 2 + dc ≤ d) {h0 : AH} {k0 : Nat} {x1 : Int32} {x2 : Int32} {x3 : Int32} {x4 : Int32} {h : AH} (hf : f_X12_goDream_146 cb k0 x1 x2 x3 x4 h = some h0) (t_k0 : kd k0 = (0, 12)) : V E (d + 1) K_X12_goDream (ZV E h0) h [(0, .ref k0), (1, .int x1), (2, .int x2), (3, .int x3), (4, .int x4)] [] 146 := by
  unfold f_X12_goDream_146 at hf
  refine V_aload_n 0 dX12_goDream_146 rfl rfl ?_
  refine V_getR F_X12_111 rfl t_k0 rfl dX12_goDream_147 ?_
  refine V_iload_n 1 dX12_goDream_150 rfl rfl ?_
  refine V_iconst (v := (-1)) dX12_goDream_151 (by decide) ?_
  obtain ⟨b_1, hf⟩ := og_s hf
  obtain ⟨h_2, e_3, hf⟩ := nm_s hf
  refine V_iast (rfA t_k0 (Nat.le_of_ble_eq_true rfl) rfl rfl (by decide)) b_1 e_3 dX12_goDream_152 ?_
  refine V_aload_n 0 dX12_goDream_153 rfl rfl ?_
  refine V_iload_n 1 dX12_goDream_154 rfl rfl ?_
  refine V_iconst (v := 1) dX12_goDream_155 (by decide) ?_
  refine V_iadd dX12_goDream_156 ?_
  refine V_iload_n 2 dX12_goDream_157 rfl rfl ?_
  refine V_iload_n 3 dX12_goDream_158 rfl rfl ?_
  refine V_iload 4 dX12_goDream_159 rfl ?_
  obtain ⟨h_5, e_4, hf⟩ := ov_s hf
  refine V_cvv (As := [.int (x1 + 1), .int x2, .int x3, .int x4]) (rest := []) (hcb (d := d) (by omega) e_4 t_k0) ML_X12_443 MV_X12_goDream rfl t_k0 rfl rfl (Nat.le_of_ble_eq_true rfl) dX12_goDream_161 ?_
  exact V_vret rfl (so_s hf) dX12_goDream_164
set_option maxHeartbeats 4000000 in
set_option maxRecDepth 100000 in
theorem v_X12_goDream_67 {E : EV} {d : Nat} {cb : Nat → Int32 → Int32 → Int32 → Int32 → AH → Option AH} {dc : Nat} (hcb : ∀ {d : Nat}, dc ≤ d → ∀ {k0 : Nat} {x1 : Int32} {x2 : Int32} {x3 : Int32} {x4 : Int32} {h : AH} {h0 : AH}, cb k0 x1 x2 x3 x4 h = some h0 → kd k0 = (0, 12) → Con E d K_X12_goDream (ZV E h0) [.ref k0, .int x1, .int x2, .int x3, .int x4] h) (hd : 2 + dc ≤ d) {h0 : AH} : ∀ (n : Nat) (k0 : Nat) (x1 : Int32) (x2 : Int32) (x3 : Int32) (x4 : Int32) (x5 : Int32) (h : AH), f_X12_goDream_67 cb n k0 x1 x2 x3 x4 x5 h = some h0 → kd k0 = (0, 12) → V E (d + 1) K_X12_goDream (ZV E h0) h [(0, .ref k0), (1, .int x1), (2, .int x2), (3, .int x3), (4, .int x4), (5, .int x5)] [] 67 := by
  intro n
  induction n with
  | zero =>
    intro k0 x1 x2 x3 x4 x5 h hf
    rw [f_X12_goDream_67] at hf
    cases hf
  | succ n ih =>
    intro k0 x1 x2 x3 x4 x5 h hf t_k0
    rw [f_X12_goDream_67] at hf
    refine V_iload 5 dX12_goDream_67 rfl ?_
    refine V_aload_n 0 dX12_goDream_69 rfl rfl ?_
    refine V_getI F_X12_283 rfl t_k0 rfl dX12_goDream_70 ?_
    refine V_ic_ge (tgt := 146) dX12_goDream_73 (by decide) (fun c_1 => ?_) (fun c_1 => ?_)
    · have hf := it_s c_1 hf
      refine V_sub [0, 1, 2, 3, 4] rfl ?_
      exact v_X12_goDream_146 hcb hd hf t_k0
    · have hf := if_s c_1 hf
      refine V_iload_n 2 dX12_goDream_76 rfl rfl ?_
      refine V_iload_n 1 dX12_goDream_77 rfl rfl ?_
      obtain ⟨r_4, h_3, e_2, hf⟩ := ob_s hf
      refine V_csi (As := [.int x2, .int x1]) (rest := []) (c_X12_has (d := d) (by omega) e_2) ML_X12_258 MS_X12_has rfl rfl rfl (Nat.le_of_ble_eq_true rfl) dX12_goDream_78 ?_
      refine V_if_eq (tgt := 146) dX12_goDream_81 (by decide) (fun c_5 => ?_) (fun c_5 => ?_)
      · have hf := it_s c_5 hf
        refine V_sub [0, 1, 2, 3, 4] rfl ?_
        exact v_X12_goDream_146 hcb hd hf t_k0
      · have hf := if_s c_5 hf
        refine V_iload_n 3 dX12_goDream_84 rfl rfl ?_
        refine V_iload 5 dX12_goDream_85 rfl ?_
        obtain ⟨r_8, h_7, e_6, hf⟩ := ob_s hf
        refine V_csi (As := [.int x3, .int x5]) (rest := []) (c_X12_has (d := d) (by omega) e_6) ML_X12_258 MS_X12_has rfl rfl rfl (Nat.le_of_ble_eq_true rfl) dX12_goDream_87 ?_
        refine V_if_eq (tgt := 140) dX12_goDream_90 (by decide) (fun c_9 => ?_) (fun c_9 => ?_)
        · have hf := it_s c_9 hf
          exact v_X12_goDream_140 hcb hd ih hf t_k0
        · have hf := if_s c_9 hf
          refine V_aload_n 0 dX12_goDream_93 rfl rfl ?_
          refine V_iload_n 1 dX12_goDream_94 rfl rfl ?_
          refine V_iload 5 dX12_goDream_95 rfl ?_
          obtain ⟨r_12, h_11, e_10, hf⟩ := ob_s hf
          refine V_cvi (As := [.int x1, .int x5]) (rest := []) (c_X12_doesFit (d := d) (by omega) e_10 t_k0) ML_X12_306 MV_X12_doesFit rfl t_k0 rfl rfl (Nat.le_of_ble_eq_true rfl) dX12_goDream_97 ?_
          refine V_if_ne (tgt := 106) dX12_goDream_100 (by decide) (fun c_13 => ?_) (fun c_13 => ?_)
          · have hf := if_s c_13 hf
            refine V_aload_n 0 dX12_goDream_106 rfl rfl ?_
            refine V_getR F_X12_111 rfl t_k0 rfl dX12_goDream_107 ?_
            refine V_iload_n 1 dX12_goDream_110 rfl rfl ?_
            refine V_iload 5 dX12_goDream_111 rfl ?_
            obtain ⟨b_14, hf⟩ := og_s hf
            obtain ⟨h_15, e_16, hf⟩ := nm_s hf
            refine V_iast (rfA t_k0 (Nat.le_of_ble_eq_true rfl) rfl rfl (by decide)) b_14 e_16 dX12_goDream_113 ?_
            refine V_aload_n 0 dX12_goDream_114 rfl rfl ?_
            refine V_iload_n 1 dX12_goDream_115 rfl rfl ?_
            refine V_iconst (v := 1) dX12_goDream_116 (by decide) ?_
            refine V_iadd dX12_goDream_117 ?_
            refine V_iload_n 2 dX12_goDream_118 rfl rfl ?_
            refine V_iload_n 3 dX12_goDream_119 rfl rfl ?_
            refine V_iconst (v := 1) dX12_goDream_120 (by decide) ?_
            refine V_iload 5 dX12_goDream_121 rfl ?_
            refine V_ishl dX12_goDream_123 ?_
            refine V_iconst (v := (-1)) dX12_goDream_124 (by decide) ?_
            refine V_ixor dX12_goDream_125 ?_
            refine V_iand dX12_goDream_126 ?_
            refine V_iload 4 dX12_goDream_127 rfl ?_
            refine V_aload_n 0 dX12_goDream_129 rfl rfl ?_
            refine V_getR F_X12_54 rfl t_k0 rfl dX12_goDream_130 ?_
            refine V_iload 5 dX12_goDream_133 rfl ?_
            obtain ⟨b_17, hf⟩ := og_s hf
            refine V_iald (rfA t_k0 (Nat.le_of_ble_eq_true rfl) rfl rfl (by decide)) b_17 dX12_goDream_135 ?_
            refine V_iadd dX12_goDream_136 ?_
            obtain ⟨h_19, e_18, hf⟩ := ov_s hf
            refine V_cvv (As := [.int (x1 + 1), .int x2, .int (x3 &&& (((1 : Int32) <<< (x5 &&& 31)) ^^^ (-1))), .int (x4 + (h_15.1 (rf k0 25) x5.toNatClampNeg))]) (rest := []) (hcb (d := d) (by omega) e_18 t_k0) ML_X12_443 MV_X12_goDream rfl t_k0 rfl rfl (Nat.le_of_ble_eq_true rfl) dX12_goDream_137 ?_
            exact v_X12_goDream_140 hcb hd ih hf t_k0
          · have hf := it_s c_13 hf
            refine V_goto (tgt := 140) dX12_goDream_103 (by decide) ?_
            exact v_X12_goDream_140 hcb hd ih hf t_k0
set_option maxHeartbeats 4000000 in
set_option maxRecDepth 100000 in
theorem c_X12_goDream {E : EV} {d : Nat} {cb : Nat → Int32 → Int32 → Int32 → Int32 → AH → Option AH} {dc : Nat} (hcb : ∀ {d : Nat}, dc ≤ d → ∀ {k0 : Nat} {x1 : Int32} {x2 : Int32} {x3 : Int32} {x4 : Int32} {h : AH} {h0 : AH}, cb k0 x1 x2 x3 x4 h = some h0 → kd k0 = (0, 12) → Con E d K_X12_goDream (ZV E h0) [.ref k0, .int x1, .int x2, .int x3, .int x4] h) (hd : 2 + dc + 1 ≤ d) {k0 : Nat} {x1 : Int32} {x2 : Int32} {x3 : Int32} {x4 : Int32} {h : AH} {h0 : AH} (hf : f_X12_goDream cb k0 x1 x2 x3 x4 h = some h0) (t_k0 : kd k0 = (0, 12)) : Con E d K_X12_goDream (ZV E h0) [.ref k0, .int x1, .int x2, .int x3, .int x4] h := by
  obtain ⟨d, rfl⟩ : ∃ d', d = d' + 1 := ⟨d - 1, by omega⟩
  have hd := Nat.le_of_succ_le_succ hd
  refine Con.ofV rfl (Nat.le_of_ble_eq_true rfl) ?_
  unfold f_X12_goDream at hf
  show V E (d + 1) K_X12_goDream (ZV E h0) h [(0, .ref k0), (1, .int x1), (2, .int x2), (3, .int x3), (4, .int x4)] [] 0
  refine V_iload_n 1 dX12_goDream_0 rfl rfl ?_
  refine V_aload_n 0 dX12_goDream_1 rfl rfl ?_
  refine V_getI F_X12_283 rfl t_k0 rfl dX12_goDream_2 ?_
  refine V_ic_ne (tgt := 57) dX12_goDream_5 (by decide) (fun c_1 => ?_) (fun c_1 => ?_)
  · have hf := if_s c_1 hf
    refine V_aload_n 0 dX12_goDream_57 rfl rfl ?_
    refine V_getR F_X12_111 rfl t_k0 rfl dX12_goDream_58 ?_
    refine V_iload_n 1 dX12_goDream_61 rfl rfl ?_
    refine V_iconst (v := (-1)) dX12_goDream_62 (by decide) ?_
    obtain ⟨b_2, hf⟩ := og_s hf
    obtain ⟨h_3, e_4, hf⟩ := nm_s hf
    refine V_iast (rfA t_k0 (Nat.le_of_ble_eq_true rfl) rfl rfl (by decide)) b_2 e_4 dX12_goDream_63 ?_
    refine V_iconst (v := 0) dX12_goDream_64 (by decide) ?_
    refine V_istore (L' := [(5, .int 0), (0, .ref k0), (1, .int x1), (2, .int x2), (3, .int x3), (4, .int x4)]) dX12_goDream_65 (Nat.le_of_ble_eq_true rfl) rfl rfl ?_
    refine V_sub [1, 2, 3, 4, 5, 0] rfl ?_
    exact v_X12_goDream_67 hcb hd FU _ _ _ _ _ _ _ hf t_k0
  · have hf := it_s c_1 hf
    refine V_iload 4 dX12_goDream_8 rfl ?_
    refine V_aload_n 0 dX12_goDream_10 rfl rfl ?_
    refine V_getI F_X12_440 rfl t_k0 rfl dX12_goDream_11 ?_
    refine V_ic_gt (tgt := 18) dX12_goDream_14 (by decide) (fun c_5 => ?_) (fun c_5 => ?_)
    · have hf := it_s c_5 hf
      refine V_aload_n 0 dX12_goDream_18 rfl rfl ?_
      refine V_iload 4 dX12_goDream_19 rfl ?_
      obtain ⟨h_6, e_7, hf⟩ := nm_s hf
      refine V_putI P_X12_440 rfl t_k0 rfl e_7 dX12_goDream_21 ?_
      refine V_iconst (v := 0) dX12_goDream_24 (by decide) ?_
      refine V_istore (L' := [(5, .int 0), (0, .ref k0), (1, .int x1), (2, .int x2), (3, .int x3), (4, .int x4)]) dX12_goDream_25 (Nat.le_of_ble_eq_true rfl) rfl rfl ?_
      refine V_sub [1, 0] rfl ?_
      exact v_X12_goDream_27 hcb hd FU _ _ _ hf t_k0
    · have hf := if_s c_5 hf
      exact V_vret rfl (so_s hf) dX12_goDream_17
set_option maxHeartbeats 4000000 in
set_option maxRecDepth 100000 in
theorem cr_X12_goDream {E : EV} : ∀ (n : Nat) {d : Nat}, n * 3 ≤ d → ∀ {k0 : Nat} {x1 : Int32} {x2 : Int32} {x3 : Int32} {x4 : Int32} {h : AH} {h0 : AH}, r_X12_goDream n k0 x1 x2 x3 x4 h = some h0 → kd k0 = (0, 12) → Con E d K_X12_goDream (ZV E h0) [.ref k0, .int x1, .int x2, .int x3, .int x4] h := by
  intro n
  induction n with
  | zero =>
    intro d hd k0 x1 x2 x3 x4 h h0 hf
    rw [r_X12_goDream] at hf
    cases hf
  | succ n ih =>
    intro d hd k0 x1 x2 x3 x4 h h0 hf t_k0
    rw [r_X12_goDream] at hf
    exact c_X12_goDream (dc := n * 3) ih (by omega) hf t_k0
theorem dX12_dream_0 : decode cX12_dream 0 = .ok (.aload_n 0, 1) := by decide +kernel
theorem dX12_dream_1 : decode cX12_dream 1 = .ok (.iconst 0, 1) := by decide +kernel
theorem dX12_dream_2 : decode cX12_dream 2 = .ok (.putfield 120, 3) := by decide +kernel
theorem dX12_dream_5 : decode cX12_dream 5 = .ok (.aload_n 0, 1) := by decide +kernel
theorem dX12_dream_6 : decode cX12_dream 6 = .ok (.iload_n 1, 1) := by decide +kernel
theorem dX12_dream_7 : decode cX12_dream 7 = .ok (.iload_n 2, 1) := by decide +kernel
theorem dX12_dream_8 : decode cX12_dream 8 = .ok (.invokevirtual 343, 3) := by decide +kernel
theorem dX12_dream_11 : decode cX12_dream 11 = .ok (.ifCond .eq 18, 3) := by decide +kernel
theorem dX12_dream_14 : decode cX12_dream 14 = .ok (.iload_n 3, 1) := by decide +kernel
theorem dX12_dream_15 : decode cX12_dream 15 = .ok (.iconst (-1), 1) := by decide +kernel
theorem dX12_dream_16 : decode cX12_dream 16 = .ok (.if_icmp .eq 17, 3) := by decide +kernel
theorem dX12_dream_19 : decode cX12_dream 19 = .ok (.aload_n 0, 1) := by decide +kernel
theorem dX12_dream_20 : decode cX12_dream 20 = .ok (.iload_n 1, 1) := by decide +kernel
theorem dX12_dream_21 : decode cX12_dream 21 = .ok (.iload_n 2, 1) := by decide +kernel
theorem dX12_dream_22 : decode cX12_dream 22 = .ok (.iload_n 3, 1) := by decide +kernel
theorem dX12_dream_23 : decode cX12_dream 23 = .ok (.invokevirtual 360, 3) := by decide +kernel
theorem dX12_dream_26 : decode cX12_dream 26 = .ok (.ifCond .ne 7, 3) := by decide +kernel
theorem dX12_dream_29 : decode cX12_dream 29 = .ok (.ldc_w 352, 3) := by decide +kernel
theorem dX12_dream_32 : decode cX12_dream 32 = .ok (.ireturn, 1) := by decide +kernel
theorem dX12_dream_33 : decode cX12_dream 33 = .ok (.aload_n 0, 1) := by decide +kernel
theorem dX12_dream_34 : decode cX12_dream 34 = .ok (.iconst (-1), 1) := by decide +kernel
theorem dX12_dream_35 : decode cX12_dream 35 = .ok (.putfield 440, 3) := by decide +kernel
theorem dX12_dream_38 : decode cX12_dream 38 = .ok (.aload_n 0, 1) := by decide +kernel
theorem dX12_dream_39 : decode cX12_dream 39 = .ok (.iconst 0, 1) := by decide +kernel
theorem dX12_dream_40 : decode cX12_dream 40 = .ok (.iload_n 2, 1) := by decide +kernel
theorem dX12_dream_41 : decode cX12_dream 41 = .ok (.aload_n 0, 1) := by decide +kernel
theorem dX12_dream_42 : decode cX12_dream 42 = .ok (.iload_n 1, 1) := by decide +kernel
theorem dX12_dream_43 : decode cX12_dream 43 = .ok (.iload_n 2, 1) := by decide +kernel
theorem dX12_dream_44 : decode cX12_dream 44 = .ok (.invokevirtual 335, 3) := by decide +kernel
theorem dX12_dream_47 : decode cX12_dream 47 = .ok (.iconst 0, 1) := by decide +kernel
theorem dX12_dream_48 : decode cX12_dream 48 = .ok (.invokevirtual 443, 3) := by decide +kernel
theorem dX12_dream_51 : decode cX12_dream 51 = .ok (.iload_n 3, 1) := by decide +kernel
theorem dX12_dream_52 : decode cX12_dream 52 = .ok (.iconst (-1), 1) := by decide +kernel
theorem dX12_dream_53 : decode cX12_dream 53 = .ok (.if_icmp .ne 10, 3) := by decide +kernel
theorem dX12_dream_56 : decode cX12_dream 56 = .ok (.aload_n 0, 1) := by decide +kernel
theorem dX12_dream_57 : decode cX12_dream 57 = .ok (.getfield 440, 3) := by decide +kernel
theorem dX12_dream_60 : decode cX12_dream 60 = .ok (.goto 9, 3) := by decide +kernel
theorem dX12_dream_63 : decode cX12_dream 63 = .ok (.aload_n 0, 1) := by decide +kernel
theorem dX12_dream_64 : decode cX12_dream 64 = .ok (.getfield 114, 3) := by decide +kernel
theorem dX12_dream_67 : decode cX12_dream 67 = .ok (.iload_n 3, 1) := by decide +kernel
theorem dX12_dream_68 : decode cX12_dream 68 = .ok (.iaload, 1) := by decide +kernel
theorem dX12_dream_69 : decode cX12_dream 69 = .ok (.ireturn, 1) := by decide +kernel
def f_X12_dream_29  (h : AH) : Option (Int32 × AH) :=
  some ((-1000000), h)
def f_X12_dream_69 (s0 : Int32) (h : AH) : Option (Int32 × AH) :=
  some (s0, h)
def f_X12_dream_33 (k0 : Nat) (x1 : Int32) (x2 : Int32) (x3 : Int32) (h : AH) : Option (Int32 × AH) :=
  nm (sI h k0 53 (-1)) fun h_1 =>
  ob (f_X12_doorOf k0 x1 x2 h_1) fun r_5 h_4 =>
  ov (r_X12_goDream 12 k0 0 x2 r_5 0 h_4) fun h_7 =>
  if x3 = (-1) then (
    f_X12_dream_69 (h_7.1 k0 53) h_7
  ) else (
    og (ix x3 (an (rf k0 52))) <|
    f_X12_dream_69 (h_7.1 (rf k0 52) x3.toNatClampNeg) h_7
  )
def f_X12_dream (k0 : Nat) (x1 : Int32) (x2 : Int32) (x3 : Int32) (h : AH) : Option (Int32 × AH) :=
  nm (sI h k0 0 0) fun h_1 =>
  ob (f_X12_isVisit k0 x1 x2 h_1) fun r_5 h_4 =>
  if r_5 = 0 then (
    f_X12_dream_29 h_4
  ) else (
    if x3 = (-1) then (
      f_X12_dream_33 k0 x1 x2 x3 h_4
    ) else (
      ob (f_X12_isGuest k0 x1 x2 x3 h_4) fun r_10 h_9 =>
      if r_10 = 0 then (
        f_X12_dream_29 h_9
      ) else (
        f_X12_dream_33 k0 x1 x2 x3 h_9
      )
    )
  )
set_option maxHeartbeats 4000000 in
set_option maxRecDepth 100000 in
theorem v_X12_dream_29 {E : EV} {d : Nat} (hd : 36 ≤ d) {r0 : Int32} {h0 : AH}  {h : AH} (hf : f_X12_dream_29 h = some (r0, h0)) : V E (d + 1) K_X12_dream (ZI E r0 h0) h [] [] 29 := by
  unfold f_X12_dream_29 at hf
  refine V_ldcw (v := (-1000000)) rfl kc_X12_352 dX12_dream_29 ?_
  exact V_iret rfl (so_s hf) dX12_dream_32
set_option maxHeartbeats 4000000 in
set_option maxRecDepth 100000 in
theorem v_X12_dream_69 {E : EV} {d : Nat} (hd : 36 ≤ d) {r0 : Int32} {h0 : AH} {s0 : Int32} {h : AH} (hf : f_X12_dream_69 s0 h = some (r0, h0)) : V E (d + 1) K_X12_dream (ZI E r0 h0) h [] [.int s0] 69 := by
  unfold f_X12_dream_69 at hf
  exact V_iret rfl (so_s hf) dX12_dream_69
set_option maxHeartbeats 4000000 in
set_option maxRecDepth 100000 in
theorem v_X12_dream_33 {E : EV} {d : Nat} (hd : 36 ≤ d) {r0 : Int32} {h0 : AH} {k0 : Nat} {x1 : Int32} {x2 : Int32} {x3 : Int32} {h : AH} (hf : f_X12_dream_33 k0 x1 x2 x3 h = some (r0, h0)) (t_k0 : kd k0 = (0, 12)) : V E (d + 1) K_X12_dream (ZI E r0 h0) h [(0, .ref k0), (1, .int x1), (2, .int x2), (3, .int x3)] [] 33 := by
  unfold f_X12_dream_33 at hf
  refine V_aload_n 0 dX12_dream_33 rfl rfl ?_
  refine V_iconst (v := (-1)) dX12_dream_34 (by decide) ?_
  obtain ⟨h_1, e_2, hf⟩ := nm_s hf
  refine V_putI P_X12_440 rfl t_k0 rfl e_2 dX12_dream_35 ?_
  refine V_aload_n 0 dX12_dream_38 rfl rfl ?_
  refine V_iconst (v := 0) dX12_dream_39 (by decide) ?_
  refine V_iload_n 2 dX12_dream_40 rfl rfl ?_
  refine V_aload_n 0 dX12_dream_41 rfl rfl ?_
  refine V_iload_n 1 dX12_dream_42 rfl rfl ?_
  refine V_iload_n 2 dX12_dream_43 rfl rfl ?_
  obtain ⟨r_5, h_4, e_3, hf⟩ := ob_s hf
  refine V_cvi (As := [.int x1, .int x2]) (rest := [.int x2, .int 0, .ref k0]) (c_X12_doorOf (d := d) (Nat.le_trans (Nat.le_of_ble_eq_true rfl) hd) e_3 t_k0) ML_X12_335 MV_X12_doorOf rfl t_k0 rfl rfl (Nat.le_of_ble_eq_true rfl) dX12_dream_44 ?_
  refine V_iconst (v := 0) dX12_dream_47 (by decide) ?_
  obtain ⟨h_7, e_6, hf⟩ := ov_s hf
  refine V_cvv (As := [.int 0, .int x2, .int r_5, .int 0]) (rest := []) (cr_X12_goDream 12 (d := d) (Nat.le_trans (Nat.le_of_ble_eq_true rfl) hd) e_6 t_k0) ML_X12_443 MV_X12_goDream rfl t_k0 rfl rfl (Nat.le_of_ble_eq_true rfl) dX12_dream_48 ?_
  refine V_iload_n 3 dX12_dream_51 rfl rfl ?_
  refine V_iconst (v := (-1)) dX12_dream_52 (by decide) ?_
  refine V_ic_ne (tgt := 63) dX12_dream_53 (by decide) (fun c_8 => ?_) (fun c_8 => ?_)
  · have hf := if_s c_8 hf
    refine V_aload_n 0 dX12_dream_63 rfl rfl ?_
    refine V_getR F_X12_114 rfl t_k0 rfl dX12_dream_64 ?_
    refine V_iload_n 3 dX12_dream_67 rfl rfl ?_
    obtain ⟨b_9, hf⟩ := og_s hf
    refine V_iald (rfA t_k0 (Nat.le_of_ble_eq_true rfl) rfl rfl (by decide)) b_9 dX12_dream_68 ?_
    refine V_sub [] rfl ?_
    exact v_X12_dream_69 hd hf
  · have hf := it_s c_8 hf
    refine V_aload_n 0 dX12_dream_56 rfl rfl ?_
    refine V_getI F_X12_440 rfl t_k0 rfl dX12_dream_57 ?_
    refine V_goto (tgt := 69) dX12_dream_60 (by decide) ?_
    refine V_sub [] rfl ?_
    exact v_X12_dream_69 hd hf
set_option maxHeartbeats 4000000 in
set_option maxRecDepth 100000 in
theorem c_X12_dream {E : EV} {d : Nat} (hd : 36 + 1 ≤ d) {k0 : Nat} {x1 : Int32} {x2 : Int32} {x3 : Int32} {h : AH} {r0 : Int32} {h0 : AH} (hf : f_X12_dream k0 x1 x2 x3 h = some (r0, h0)) (t_k0 : kd k0 = (0, 12)) : Con E d K_X12_dream (ZI E r0 h0) [.ref k0, .int x1, .int x2, .int x3] h := by
  obtain ⟨d, rfl⟩ : ∃ d', d = d' + 1 := ⟨d - 1, by omega⟩
  have hd := Nat.le_of_succ_le_succ hd
  refine Con.ofV rfl (Nat.le_of_ble_eq_true rfl) ?_
  unfold f_X12_dream at hf
  show V E (d + 1) K_X12_dream (ZI E r0 h0) h [(0, .ref k0), (1, .int x1), (2, .int x2), (3, .int x3)] [] 0
  refine V_aload_n 0 dX12_dream_0 rfl rfl ?_
  refine V_iconst (v := 0) dX12_dream_1 (by decide) ?_
  obtain ⟨h_1, e_2, hf⟩ := nm_s hf
  refine V_putI P_X12_120 rfl t_k0 rfl e_2 dX12_dream_2 ?_
  refine V_aload_n 0 dX12_dream_5 rfl rfl ?_
  refine V_iload_n 1 dX12_dream_6 rfl rfl ?_
  refine V_iload_n 2 dX12_dream_7 rfl rfl ?_
  obtain ⟨r_5, h_4, e_3, hf⟩ := ob_s hf
  refine V_cvi (As := [.int x1, .int x2]) (rest := []) (c_X12_isVisit (d := d) (Nat.le_trans (Nat.le_of_ble_eq_true rfl) hd) e_3 t_k0) ML_X12_343 MV_X12_isVisit rfl t_k0 rfl rfl (Nat.le_of_ble_eq_true rfl) dX12_dream_8 ?_
  refine V_if_eq (tgt := 29) dX12_dream_11 (by decide) (fun c_6 => ?_) (fun c_6 => ?_)
  · have hf := it_s c_6 hf
    refine V_sub [] rfl ?_
    exact v_X12_dream_29 hd hf
  · have hf := if_s c_6 hf
    refine V_iload_n 3 dX12_dream_14 rfl rfl ?_
    refine V_iconst (v := (-1)) dX12_dream_15 (by decide) ?_
    refine V_ic_eq (tgt := 33) dX12_dream_16 (by decide) (fun c_7 => ?_) (fun c_7 => ?_)
    · have hf := it_s c_7 hf
      exact v_X12_dream_33 hd hf t_k0
    · have hf := if_s c_7 hf
      refine V_aload_n 0 dX12_dream_19 rfl rfl ?_
      refine V_iload_n 1 dX12_dream_20 rfl rfl ?_
      refine V_iload_n 2 dX12_dream_21 rfl rfl ?_
      refine V_iload_n 3 dX12_dream_22 rfl rfl ?_
      obtain ⟨r_10, h_9, e_8, hf⟩ := ob_s hf
      refine V_cvi (As := [.int x1, .int x2, .int x3]) (rest := []) (c_X12_isGuest (d := d) (Nat.le_trans (Nat.le_of_ble_eq_true rfl) hd) e_8 t_k0) ML_X12_360 MV_X12_isGuest rfl t_k0 rfl rfl (Nat.le_of_ble_eq_true rfl) dX12_dream_23 ?_
      refine V_if_ne (tgt := 33) dX12_dream_26 (by decide) (fun c_11 => ?_) (fun c_11 => ?_)
      · have hf := if_s c_11 hf
        exact v_X12_dream_33 hd hf t_k0
      · have hf := it_s c_11 hf
        refine V_sub [] rfl ?_
        exact v_X12_dream_29 hd hf
theorem dX12_end_0 : decode cX12_end 0 = .ok (.aload_n 0, 1) := by decide +kernel
theorem dX12_end_1 : decode cX12_end 1 = .ok (.iconst 0, 1) := by decide +kernel
theorem dX12_end_2 : decode cX12_end 2 = .ok (.putfield 120, 3) := by decide +kernel
theorem dX12_end_5 : decode cX12_end 5 = .ok (.iload_n 1, 1) := by decide +kernel
theorem dX12_end_6 : decode cX12_end 6 = .ok (.ifCond .lt 11, 3) := by decide +kernel
theorem dX12_end_9 : decode cX12_end 9 = .ok (.iload_n 1, 1) := by decide +kernel
theorem dX12_end_10 : decode cX12_end 10 = .ok (.aload_n 0, 1) := by decide +kernel
theorem dX12_end_11 : decode cX12_end 11 = .ok (.getfield 134, 3) := by decide +kernel
theorem dX12_end_14 : decode cX12_end 14 = .ok (.if_icmp .le 5, 3) := by decide +kernel
theorem dX12_end_17 : decode cX12_end 17 = .ok (.iconst 0, 1) := by decide +kernel
theorem dX12_end_18 : decode cX12_end 18 = .ok (.ireturn, 1) := by decide +kernel
theorem dX12_end_19 : decode cX12_end 19 = .ok (.aload_n 0, 1) := by decide +kernel
theorem dX12_end_20 : decode cX12_end 20 = .ok (.iload_n 1, 1) := by decide +kernel
theorem dX12_end_21 : decode cX12_end 21 = .ok (.putfield 134, 3) := by decide +kernel
theorem dX12_end_24 : decode cX12_end 24 = .ok (.iconst 1, 1) := by decide +kernel
theorem dX12_end_25 : decode cX12_end 25 = .ok (.ireturn, 1) := by decide +kernel
theorem P_X12_134 : FPk RX12 134 12 6 .int := ⟨RX12, TX12, 58, tyX12, rfl, rfl, iw_X12, by decide, Or.inl fl_X12_134, tyX12_ok, nmX12, rfl, by decide +kernel⟩
def f_X12_end_17  (h : AH) : Option (Int32 × AH) :=
  some (0, h)
def f_X12_end (k0 : Nat) (x1 : Int32) (h : AH) : Option (Int32 × AH) :=
  nm (sI h k0 0 0) fun h_1 =>
  if x1 < 0 then (
    f_X12_end_17 h_1
  ) else (
    if x1 ≤ (h_1.1 k0 6) then (
      nm (sI h_1 k0 6 x1) fun h_5 =>
      some (1, h_5)
    ) else (
      f_X12_end_17 h_1
    )
  )
set_option maxHeartbeats 4000000 in
set_option maxRecDepth 100000 in
theorem v_X12_end_17 {E : EV} {d : Nat} (hd : 0 ≤ d) {r0 : Int32} {h0 : AH}  {h : AH} (hf : f_X12_end_17 h = some (r0, h0)) : V E (d + 1) K_X12_end (ZI E r0 h0) h [] [] 17 := by
  unfold f_X12_end_17 at hf
  refine V_iconst (v := 0) dX12_end_17 (by decide) ?_
  exact V_zret rfl (by decide) (so_s hf) dX12_end_18
set_option maxHeartbeats 4000000 in
set_option maxRecDepth 100000 in
theorem c_X12_end {E : EV} {d : Nat} (hd : 0 + 1 ≤ d) {k0 : Nat} {x1 : Int32} {h : AH} {r0 : Int32} {h0 : AH} (hf : f_X12_end k0 x1 h = some (r0, h0)) (t_k0 : kd k0 = (0, 12)) : Con E d K_X12_end (ZI E r0 h0) [.ref k0, .int x1] h := by
  obtain ⟨d, rfl⟩ : ∃ d', d = d' + 1 := ⟨d - 1, by omega⟩
  have hd := Nat.le_of_succ_le_succ hd
  refine Con.ofV rfl (Nat.le_of_ble_eq_true rfl) ?_
  unfold f_X12_end at hf
  show V E (d + 1) K_X12_end (ZI E r0 h0) h [(0, .ref k0), (1, .int x1)] [] 0
  refine V_aload_n 0 dX12_end_0 rfl rfl ?_
  refine V_iconst (v := 0) dX12_end_1 (by decide) ?_
  obtain ⟨h_1, e_2, hf⟩ := nm_s hf
  refine V_putI P_X12_120 rfl t_k0 rfl e_2 dX12_end_2 ?_
  refine V_iload_n 1 dX12_end_5 rfl rfl ?_
  refine V_if_lt (tgt := 17) dX12_end_6 (by decide) (fun c_3 => ?_) (fun c_3 => ?_)
  · have hf := it_s c_3 hf
    refine V_sub [] rfl ?_
    exact v_X12_end_17 hd hf
  · have hf := if_s c_3 hf
    refine V_iload_n 1 dX12_end_9 rfl rfl ?_
    refine V_aload_n 0 dX12_end_10 rfl rfl ?_
    refine V_getI F_X12_134 rfl t_k0 rfl dX12_end_11 ?_
    refine V_ic_le (tgt := 19) dX12_end_14 (by decide) (fun c_4 => ?_) (fun c_4 => ?_)
    · have hf := it_s c_4 hf
      refine V_aload_n 0 dX12_end_19 rfl rfl ?_
      refine V_iload_n 1 dX12_end_20 rfl rfl ?_
      obtain ⟨h_5, e_6, hf⟩ := nm_s hf
      refine V_putI P_X12_134 rfl t_k0 rfl e_6 dX12_end_21 ?_
      refine V_iconst (v := 1) dX12_end_24 (by decide) ?_
      exact V_zret rfl (by decide) (so_s hf) dX12_end_25
    · have hf := if_s c_4 hf
      refine V_sub [] rfl ?_
      exact v_X12_end_17 hd hf
theorem dX12_envy_0 : decode cX12_envy 0 = .ok (.aload_n 0, 1) := by decide +kernel
theorem dX12_envy_1 : decode cX12_envy 1 = .ok (.iconst 0, 1) := by decide +kernel
theorem dX12_envy_2 : decode cX12_envy 2 = .ok (.putfield 120, 3) := by decide +kernel
theorem dX12_envy_5 : decode cX12_envy 5 = .ok (.aload_n 0, 1) := by decide +kernel
theorem dX12_envy_6 : decode cX12_envy 6 = .ok (.getfield 283, 3) := by decide +kernel
theorem dX12_envy_9 : decode cX12_envy 9 = .ok (.ifCond .eq 8, 3) := by decide +kernel
theorem dX12_envy_12 : decode cX12_envy 12 = .ok (.iload_n 1, 1) := by decide +kernel
theorem dX12_envy_13 : decode cX12_envy 13 = .ok (.iconst (-1), 1) := by decide +kernel
theorem dX12_envy_14 : decode cX12_envy 14 = .ok (.if_icmp .ge 5, 3) := by decide +kernel
theorem dX12_envy_17 : decode cX12_envy 17 = .ok (.iconst (-1), 1) := by decide +kernel
theorem dX12_envy_18 : decode cX12_envy 18 = .ok (.ireturn, 1) := by decide +kernel
theorem dX12_envy_19 : decode cX12_envy 19 = .ok (.iconst 0, 1) := by decide +kernel
theorem dX12_envy_20 : decode cX12_envy 20 = .ok (.istore_n 2, 1) := by decide +kernel
theorem dX12_envy_21 : decode cX12_envy 21 = .ok (.iconst 0, 1) := by decide +kernel
theorem dX12_envy_22 : decode cX12_envy 22 = .ok (.istore_n 3, 1) := by decide +kernel
theorem dX12_envy_23 : decode cX12_envy 23 = .ok (.iload_n 3, 1) := by decide +kernel
theorem dX12_envy_24 : decode cX12_envy 24 = .ok (.aload_n 0, 1) := by decide +kernel
theorem dX12_envy_25 : decode cX12_envy 25 = .ok (.getfield 283, 3) := by decide +kernel
theorem dX12_envy_28 : decode cX12_envy 28 = .ok (.if_icmp .ge 56, 3) := by decide +kernel
theorem dX12_envy_31 : decode cX12_envy 31 = .ok (.iconst 0, 1) := by decide +kernel
theorem dX12_envy_32 : decode cX12_envy 32 = .ok (.istore 4, 2) := by decide +kernel
theorem dX12_envy_34 : decode cX12_envy 34 = .ok (.iload 4, 2) := by decide +kernel
theorem dX12_envy_36 : decode cX12_envy 36 = .ok (.aload_n 0, 1) := by decide +kernel
theorem dX12_envy_37 : decode cX12_envy 37 = .ok (.getfield 283, 3) := by decide +kernel
theorem dX12_envy_40 : decode cX12_envy 40 = .ok (.if_icmp .ge 38, 3) := by decide +kernel
theorem dX12_envy_43 : decode cX12_envy 43 = .ok (.aload_n 0, 1) := by decide +kernel
theorem dX12_envy_44 : decode cX12_envy 44 = .ok (.iload_n 3, 1) := by decide +kernel
theorem dX12_envy_45 : decode cX12_envy 45 = .ok (.iload 4, 2) := by decide +kernel
theorem dX12_envy_47 : decode cX12_envy 47 = .ok (.invokevirtual 459, 3) := by decide +kernel
theorem dX12_envy_50 : decode cX12_envy 50 = .ok (.ifCond .ne 6, 3) := by decide +kernel
theorem dX12_envy_53 : decode cX12_envy 53 = .ok (.goto 19, 3) := by decide +kernel
theorem dX12_envy_56 : decode cX12_envy 56 = .ok (.iload_n 2, 1) := by decide +kernel
theorem dX12_envy_57 : decode cX12_envy 57 = .ok (.iload_n 1, 1) := by decide +kernel
theorem dX12_envy_58 : decode cX12_envy 58 = .ok (.if_icmp .ne 11, 3) := by decide +kernel
theorem dX12_envy_61 : decode cX12_envy 61 = .ok (.bipush 10, 2) := by decide +kernel
theorem dX12_envy_63 : decode cX12_envy 63 = .ok (.iload_n 3, 1) := by decide +kernel
theorem dX12_envy_64 : decode cX12_envy 64 = .ok (.imul, 1) := by decide +kernel
theorem dX12_envy_65 : decode cX12_envy 65 = .ok (.iload 4, 2) := by decide +kernel
theorem dX12_envy_67 : decode cX12_envy 67 = .ok (.iadd, 1) := by decide +kernel
theorem dX12_envy_68 : decode cX12_envy 68 = .ok (.ireturn, 1) := by decide +kernel
theorem dX12_envy_69 : decode cX12_envy 69 = .ok (.iinc 2 1, 3) := by decide +kernel
theorem dX12_envy_72 : decode cX12_envy 72 = .ok (.iinc 4 1, 3) := by decide +kernel
theorem dX12_envy_75 : decode cX12_envy 75 = .ok (.goto (-41), 3) := by decide +kernel
theorem dX12_envy_78 : decode cX12_envy 78 = .ok (.iinc 3 1, 3) := by decide +kernel
theorem dX12_envy_81 : decode cX12_envy 81 = .ok (.goto (-58), 3) := by decide +kernel
theorem dX12_envy_84 : decode cX12_envy 84 = .ok (.iload_n 1, 1) := by decide +kernel
theorem dX12_envy_85 : decode cX12_envy 85 = .ok (.iconst (-1), 1) := by decide +kernel
theorem dX12_envy_86 : decode cX12_envy 86 = .ok (.if_icmp .ne 7, 3) := by decide +kernel
theorem dX12_envy_89 : decode cX12_envy 89 = .ok (.iload_n 2, 1) := by decide +kernel
theorem dX12_envy_90 : decode cX12_envy 90 = .ok (.goto 4, 3) := by decide +kernel
theorem dX12_envy_93 : decode cX12_envy 93 = .ok (.iconst (-1), 1) := by decide +kernel
theorem dX12_envy_94 : decode cX12_envy 94 = .ok (.ireturn, 1) := by decide +kernel
theorem ML_X12_459 : MLk RX12 459 yX12_doesEnvy := Or.inl ml_X12_459
theorem MV_X12_doesEnvy : MVk K_X12_doesEnvy 2 12 := ⟨⟨cd_X12_doesEnvy, in_X12, ⟨by decide, by decide, by decide +kernel⟩, by decide⟩, im_X12_doesEnvy, se_X12_doesEnvy, _, _, rfl⟩
def f_X12_envy_17  (h : AH) : Option (Int32 × AH) :=
  some ((-1), h)
def f_X12_envy_72 (q34 : Nat → Int32 → Int32 → Int32 → Int32 → AH → Option (Int32 × AH)) (k0 : Nat) (x1 : Int32) (x2 : Int32) (x3 : Int32) (x4 : Int32) (h : AH) : Option (Int32 × AH) :=
  nm (x4 + 1) fun x4_1 =>
  q34 k0 x1 x2 x3 x4_1 h
def f_X12_envy_34 (q23 : Nat → Int32 → Int32 → Int32 → AH → Option (Int32 × AH)) : Nat → Nat → Int32 → Int32 → Int32 → Int32 → AH → Option (Int32 × AH)
  | 0, _, _, _, _, _, _ => none
  | n + 1, k0, x1, x2, x3, x4, h =>
    if (h.1 k0 20) ≤ x4 then (
      nm (x3 + 1) fun x3_2 =>
      q23 k0 x1 x2 x3_2 h
    ) else (
      ob (f_X12_doesEnvy k0 x3 x4 h) fun r_6 h_5 =>
      if r_6 = 0 then (
        f_X12_envy_72 (f_X12_envy_34 q23 n) k0 x1 x2 x3 x4 h_5
      ) else (
        if x2 = x1 then (
          some (((10 * x3) + x4), h_5)
        ) else (
          nm (x2 + 1) fun x2_9 =>
          f_X12_envy_72 (f_X12_envy_34 q23 n) k0 x1 x2_9 x3 x4 h_5
        )
      )
    )
def f_X12_envy_94 (s0 : Int32) (h : AH) : Option (Int32 × AH) :=
  some (s0, h)
def f_X12_envy_23 : Nat → Nat → Int32 → Int32 → Int32 → AH → Option (Int32 × AH)
  | 0, _, _, _, _, _ => none
  | n + 1, k0, x1, x2, x3, h =>
    if (h.1 k0 20) ≤ x3 then (
      if x1 = (-1) then (
        f_X12_envy_94 x2 h
      ) else (
        f_X12_envy_94 (-1) h
      )
    ) else (
      f_X12_envy_34 (f_X12_envy_23 n) FU k0 x1 x2 x3 0 h
    )
def f_X12_envy (k0 : Nat) (x1 : Int32) (h : AH) : Option (Int32 × AH) :=
  nm (sI h k0 0 0) fun h_1 =>
  if (h_1.1 k0 20) = 0 then (
    f_X12_envy_17 h_1
  ) else (
    if (-1) ≤ x1 then (
      f_X12_envy_23 FU k0 x1 0 0 h_1
    ) else (
      f_X12_envy_17 h_1
    )
  )
set_option maxHeartbeats 4000000 in
set_option maxRecDepth 100000 in
theorem v_X12_envy_17 {E : EV} {d : Nat} (hd : 3 ≤ d) {r0 : Int32} {h0 : AH}  {h : AH} (hf : f_X12_envy_17 h = some (r0, h0)) : V E (d + 1) K_X12_envy (ZI E r0 h0) h [] [] 17 := by
  unfold f_X12_envy_17 at hf
  refine V_iconst (v := (-1)) dX12_envy_17 (by decide) ?_
  exact V_iret rfl (so_s hf) dX12_envy_18
set_option maxHeartbeats 4000000 in
set_option maxRecDepth 100000 in
theorem v_X12_envy_72 {E : EV} {d : Nat} (hd : 3 ≤ d) {r0 : Int32} {h0 : AH} {q34 : Nat → Int32 → Int32 → Int32 → Int32 → AH → Option (Int32 × AH)} (cq34 : ∀ (k0 : Nat) (x1 : Int32) (x2 : Int32) (x3 : Int32) (x4 : Int32) (h : AH), q34 k0 x1 x2 x3 x4 h = some (r0, h0) → kd k0 = (0, 12) → V E (d + 1) K_X12_envy (ZI E r0 h0) h [(0, .ref k0), (1, .int x1), (2, .int x2), (3, .int x3), (4, .int x4)] [] 34) {k0 : Nat} {x1 : Int32} {x2 : Int32} {x3 : Int32} {x4 : Int32} {h : AH} (hf : f_X12_envy_72 q34 k0 x1 x2 x3 x4 h = some (r0, h0)) (t_k0 : kd k0 = (0, 12)) : V E (d + 1) K_X12_envy (ZI E r0 h0) h [(0, .ref k0), (1, .int x1), (2, .int x2), (3, .int x3), (4, .int x4)] [] 72 := by
  unfold f_X12_envy_72 at hf
  obtain ⟨x4_1, e_2, hf⟩ := nm_s hf
  refine V_iinc (a := 1) (L' := [(4, .int x4_1), (0, .ref k0), (1, .int x1), (2, .int x2), (3, .int x3)]) 4 dX12_envy_72 rfl (by decide) (Nat.le_of_ble_eq_true rfl) e_2 rfl ?_
  refine V_goto (tgt := 34) dX12_envy_75 (by decide) ?_
  refine V_sub [1, 2, 3, 4, 0] rfl ?_
  exact cq34 _ _ _ _ _ _ hf t_k0
set_option maxHeartbeats 4000000 in
set_option maxRecDepth 100000 in
theorem v_X12_envy_34 {E : EV} {d : Nat} (hd : 3 ≤ d) {r0 : Int32} {h0 : AH} {q23 : Nat → Int32 → Int32 → Int32 → AH → Option (Int32 × AH)} (cq23 : ∀ (k0 : Nat) (x1 : Int32) (x2 : Int32) (x3 : Int32) (h : AH), q23 k0 x1 x2 x3 h = some (r0, h0) → kd k0 = (0, 12) → V E (d + 1) K_X12_envy (ZI E r0 h0) h [(0, .ref k0), (1, .int x1), (2, .int x2), (3, .int x3)] [] 23) : ∀ (n : Nat) (k0 : Nat) (x1 : Int32) (x2 : Int32) (x3 : Int32) (x4 : Int32) (h : AH), f_X12_envy_34 q23 n k0 x1 x2 x3 x4 h = some (r0, h0) → kd k0 = (0, 12) → V E (d + 1) K_X12_envy (ZI E r0 h0) h [(0, .ref k0), (1, .int x1), (2, .int x2), (3, .int x3), (4, .int x4)] [] 34 := by
  intro n
  induction n with
  | zero =>
    intro k0 x1 x2 x3 x4 h hf
    rw [f_X12_envy_34] at hf
    cases hf
  | succ n ih =>
    intro k0 x1 x2 x3 x4 h hf t_k0
    rw [f_X12_envy_34] at hf
    refine V_iload 4 dX12_envy_34 rfl ?_
    refine V_aload_n 0 dX12_envy_36 rfl rfl ?_
    refine V_getI F_X12_283 rfl t_k0 rfl dX12_envy_37 ?_
    refine V_ic_ge (tgt := 78) dX12_envy_40 (by decide) (fun c_1 => ?_) (fun c_1 => ?_)
    · have hf := it_s c_1 hf
      obtain ⟨x3_2, e_3, hf⟩ := nm_s hf
      refine V_iinc (a := 1) (L' := [(3, .int x3_2), (0, .ref k0), (1, .int x1), (2, .int x2), (4, .int x4)]) 3 dX12_envy_78 rfl (by decide) (Nat.le_of_ble_eq_true rfl) e_3 rfl ?_
      refine V_goto (tgt := 23) dX12_envy_81 (by decide) ?_
      refine V_sub [1, 2, 3, 0] rfl ?_
      exact cq23 _ _ _ _ _ hf t_k0
    · have hf := if_s c_1 hf
      refine V_aload_n 0 dX12_envy_43 rfl rfl ?_
      refine V_iload_n 3 dX12_envy_44 rfl rfl ?_
      refine V_iload 4 dX12_envy_45 rfl ?_
      obtain ⟨r_6, h_5, e_4, hf⟩ := ob_s hf
      refine V_cvi (As := [.int x3, .int x4]) (rest := []) (c_X12_doesEnvy (d := d) (Nat.le_trans (Nat.le_of_ble_eq_true rfl) hd) e_4 t_k0) ML_X12_459 MV_X12_doesEnvy rfl t_k0 rfl rfl (Nat.le_of_ble_eq_true rfl) dX12_envy_47 ?_
      refine V_if_ne (tgt := 56) dX12_envy_50 (by decide) (fun c_7 => ?_) (fun c_7 => ?_)
      · have hf := if_s c_7 hf
        refine V_iload_n 2 dX12_envy_56 rfl rfl ?_
        refine V_iload_n 1 dX12_envy_57 rfl rfl ?_
        refine V_ic_ne (tgt := 69) dX12_envy_58 (by decide) (fun c_8 => ?_) (fun c_8 => ?_)
        · have hf := if_s c_8 hf
          obtain ⟨x2_9, e_10, hf⟩ := nm_s hf
          refine V_iinc (a := 1) (L' := [(2, .int x2_9), (0, .ref k0), (1, .int x1), (3, .int x3), (4, .int x4)]) 2 dX12_envy_69 rfl (by decide) (Nat.le_of_ble_eq_true rfl) e_10 rfl ?_
          refine V_sub [1, 2, 0, 3, 4] rfl ?_
          exact v_X12_envy_72 hd ih hf t_k0
        · have hf := it_s c_8 hf
          refine V_bipush (v := 10) dX12_envy_61 (by decide) ?_
          refine V_iload_n 3 dX12_envy_63 rfl rfl ?_
          refine V_imul dX12_envy_64 ?_
          refine V_iload 4 dX12_envy_65 rfl ?_
          refine V_iadd dX12_envy_67 ?_
          exact V_iret rfl (so_s hf) dX12_envy_68
      · have hf := it_s c_7 hf
        refine V_goto (tgt := 72) dX12_envy_53 (by decide) ?_
        exact v_X12_envy_72 hd ih hf t_k0
set_option maxHeartbeats 4000000 in
set_option maxRecDepth 100000 in
theorem v_X12_envy_94 {E : EV} {d : Nat} (hd : 3 ≤ d) {r0 : Int32} {h0 : AH} {s0 : Int32} {h : AH} (hf : f_X12_envy_94 s0 h = some (r0, h0)) : V E (d + 1) K_X12_envy (ZI E r0 h0) h [] [.int s0] 94 := by
  unfold f_X12_envy_94 at hf
  exact V_iret rfl (so_s hf) dX12_envy_94
set_option maxHeartbeats 4000000 in
set_option maxRecDepth 100000 in
theorem v_X12_envy_23 {E : EV} {d : Nat} (hd : 3 ≤ d) {r0 : Int32} {h0 : AH} : ∀ (n : Nat) (k0 : Nat) (x1 : Int32) (x2 : Int32) (x3 : Int32) (h : AH), f_X12_envy_23 n k0 x1 x2 x3 h = some (r0, h0) → kd k0 = (0, 12) → V E (d + 1) K_X12_envy (ZI E r0 h0) h [(0, .ref k0), (1, .int x1), (2, .int x2), (3, .int x3)] [] 23 := by
  intro n
  induction n with
  | zero =>
    intro k0 x1 x2 x3 h hf
    rw [f_X12_envy_23] at hf
    cases hf
  | succ n ih =>
    intro k0 x1 x2 x3 h hf t_k0
    rw [f_X12_envy_23] at hf
    refine V_iload_n 3 dX12_envy_23 rfl rfl ?_
    refine V_aload_n 0 dX12_envy_24 rfl rfl ?_
    refine V_getI F_X12_283 rfl t_k0 rfl dX12_envy_25 ?_
    refine V_ic_ge (tgt := 84) dX12_envy_28 (by decide) (fun c_1 => ?_) (fun c_1 => ?_)
    · have hf := it_s c_1 hf
      refine V_iload_n 1 dX12_envy_84 rfl rfl ?_
      refine V_iconst (v := (-1)) dX12_envy_85 (by decide) ?_
      refine V_ic_ne (tgt := 93) dX12_envy_86 (by decide) (fun c_2 => ?_) (fun c_2 => ?_)
      · have hf := if_s c_2 hf
        refine V_iconst (v := (-1)) dX12_envy_93 (by decide) ?_
        refine V_sub [] rfl ?_
        exact v_X12_envy_94 hd hf
      · have hf := it_s c_2 hf
        refine V_iload_n 2 dX12_envy_89 rfl rfl ?_
        refine V_goto (tgt := 94) dX12_envy_90 (by decide) ?_
        refine V_sub [] rfl ?_
        exact v_X12_envy_94 hd hf
    · have hf := if_s c_1 hf
      refine V_iconst (v := 0) dX12_envy_31 (by decide) ?_
      refine V_istore (L' := [(4, .int 0), (0, .ref k0), (1, .int x1), (2, .int x2), (3, .int x3)]) dX12_envy_32 (Nat.le_of_ble_eq_true rfl) rfl rfl ?_
      refine V_sub [1, 2, 3, 4, 0] rfl ?_
      exact v_X12_envy_34 hd ih FU _ _ _ _ _ _ hf t_k0
set_option maxHeartbeats 4000000 in
set_option maxRecDepth 100000 in
theorem c_X12_envy {E : EV} {d : Nat} (hd : 3 + 1 ≤ d) {k0 : Nat} {x1 : Int32} {h : AH} {r0 : Int32} {h0 : AH} (hf : f_X12_envy k0 x1 h = some (r0, h0)) (t_k0 : kd k0 = (0, 12)) : Con E d K_X12_envy (ZI E r0 h0) [.ref k0, .int x1] h := by
  obtain ⟨d, rfl⟩ : ∃ d', d = d' + 1 := ⟨d - 1, by omega⟩
  have hd := Nat.le_of_succ_le_succ hd
  refine Con.ofV rfl (Nat.le_of_ble_eq_true rfl) ?_
  unfold f_X12_envy at hf
  show V E (d + 1) K_X12_envy (ZI E r0 h0) h [(0, .ref k0), (1, .int x1)] [] 0
  refine V_aload_n 0 dX12_envy_0 rfl rfl ?_
  refine V_iconst (v := 0) dX12_envy_1 (by decide) ?_
  obtain ⟨h_1, e_2, hf⟩ := nm_s hf
  refine V_putI P_X12_120 rfl t_k0 rfl e_2 dX12_envy_2 ?_
  refine V_aload_n 0 dX12_envy_5 rfl rfl ?_
  refine V_getI F_X12_283 rfl t_k0 rfl dX12_envy_6 ?_
  refine V_if_eq (tgt := 17) dX12_envy_9 (by decide) (fun c_3 => ?_) (fun c_3 => ?_)
  · have hf := it_s c_3 hf
    refine V_sub [] rfl ?_
    exact v_X12_envy_17 hd hf
  · have hf := if_s c_3 hf
    refine V_iload_n 1 dX12_envy_12 rfl rfl ?_
    refine V_iconst (v := (-1)) dX12_envy_13 (by decide) ?_
    refine V_ic_ge (tgt := 19) dX12_envy_14 (by decide) (fun c_4 => ?_) (fun c_4 => ?_)
    · have hf := it_s c_4 hf
      refine V_iconst (v := 0) dX12_envy_19 (by decide) ?_
      refine V_istore_n (L' := [(2, .int 0), (0, .ref k0), (1, .int x1)]) dX12_envy_20 rfl (Nat.le_of_ble_eq_true rfl) rfl rfl ?_
      refine V_iconst (v := 0) dX12_envy_21 (by decide) ?_
      refine V_istore_n (L' := [(3, .int 0), (2, .int 0), (0, .ref k0), (1, .int x1)]) dX12_envy_22 rfl (Nat.le_of_ble_eq_true rfl) rfl rfl ?_
      refine V_sub [2, 3, 1, 0] rfl ?_
      exact v_X12_envy_23 hd FU _ _ _ _ _ hf t_k0
    · have hf := if_s c_4 hf
      refine V_sub [] rfl ?_
      exact v_X12_envy_17 hd hf
theorem dX12_visits_0 : decode cX12_visits 0 = .ok (.aload_n 0, 1) := by decide +kernel
theorem dX12_visits_1 : decode cX12_visits 1 = .ok (.aload_n 0, 1) := by decide +kernel
theorem dX12_visits_2 : decode cX12_visits 2 = .ok (.iload_n 1, 1) := by decide +kernel
theorem dX12_visits_3 : decode cX12_visits 3 = .ok (.iload_n 2, 1) := by decide +kernel
theorem dX12_visits_4 : decode cX12_visits 4 = .ok (.invokevirtual 335, 3) := by decide +kernel
theorem dX12_visits_7 : decode cX12_visits 7 = .ok (.invokevirtual 338, 3) := by decide +kernel
theorem dX12_visits_10 : decode cX12_visits 10 = .ok (.iconst 0, 1) := by decide +kernel
theorem dX12_visits_11 : decode cX12_visits 11 = .ok (.istore_n 3, 1) := by decide +kernel
theorem dX12_visits_12 : decode cX12_visits 12 = .ok (.iload_n 3, 1) := by decide +kernel
theorem dX12_visits_13 : decode cX12_visits 13 = .ok (.aload_n 0, 1) := by decide +kernel
theorem dX12_visits_14 : decode cX12_visits 14 = .ok (.getfield 283, 3) := by decide +kernel
theorem dX12_visits_17 : decode cX12_visits 17 = .ok (.if_icmp .ge 30, 3) := by decide +kernel
theorem dX12_visits_20 : decode cX12_visits 20 = .ok (.aload_n 0, 1) := by decide +kernel
theorem dX12_visits_21 : decode cX12_visits 21 = .ok (.getfield 318, 3) := by decide +kernel
theorem dX12_visits_24 : decode cX12_visits 24 = .ok (.iload_n 3, 1) := by decide +kernel
theorem dX12_visits_25 : decode cX12_visits 25 = .ok (.invokestatic 258, 3) := by decide +kernel
theorem dX12_visits_28 : decode cX12_visits 28 = .ok (.ifCond .eq 13, 3) := by decide +kernel
theorem dX12_visits_31 : decode cX12_visits 31 = .ok (.aload_n 0, 1) := by decide +kernel
theorem dX12_visits_32 : decode cX12_visits 32 = .ok (.getfield 48, 3) := by decide +kernel
theorem dX12_visits_35 : decode cX12_visits 35 = .ok (.iload_n 3, 1) := by decide +kernel
theorem dX12_visits_36 : decode cX12_visits 36 = .ok (.bipush 10, 2) := by decide +kernel
theorem dX12_visits_38 : decode cX12_visits 38 = .ok (.iload_n 1, 1) := by decide +kernel
theorem dX12_visits_39 : decode cX12_visits 39 = .ok (.iadd, 1) := by decide +kernel
theorem dX12_visits_40 : decode cX12_visits 40 = .ok (.iastore, 1) := by decide +kernel
theorem dX12_visits_41 : decode cX12_visits 41 = .ok (.iinc 3 1, 3) := by decide +kernel
theorem dX12_visits_44 : decode cX12_visits 44 = .ok (.goto (-32), 3) := by decide +kernel
theorem dX12_visits_47 : decode cX12_visits 47 = .ok (.iconst 0, 1) := by decide +kernel
theorem dX12_visits_48 : decode cX12_visits 48 = .ok (.istore_n 3, 1) := by decide +kernel
theorem dX12_visits_49 : decode cX12_visits 49 = .ok (.iload_n 3, 1) := by decide +kernel
theorem dX12_visits_50 : decode cX12_visits 50 = .ok (.aload_n 0, 1) := by decide +kernel
theorem dX12_visits_51 : decode cX12_visits 51 = .ok (.getfield 283, 3) := by decide +kernel
theorem dX12_visits_54 : decode cX12_visits 54 = .ok (.if_icmp .ge 90, 3) := by decide +kernel
theorem dX12_visits_57 : decode cX12_visits 57 = .ok (.iload_n 2, 1) := by decide +kernel
theorem dX12_visits_58 : decode cX12_visits 58 = .ok (.iload_n 3, 1) := by decide +kernel
theorem dX12_visits_59 : decode cX12_visits 59 = .ok (.invokestatic 258, 3) := by decide +kernel
theorem dX12_visits_62 : decode cX12_visits 62 = .ok (.ifCond .ne 6, 3) := by decide +kernel
theorem dX12_visits_65 : decode cX12_visits 65 = .ok (.goto 73, 3) := by decide +kernel
theorem dX12_visits_68 : decode cX12_visits 68 = .ok (.aload_n 0, 1) := by decide +kernel
theorem dX12_visits_69 : decode cX12_visits 69 = .ok (.getfield 45, 3) := by decide +kernel
theorem dX12_visits_72 : decode cX12_visits 72 = .ok (.iload_n 3, 1) := by decide +kernel
theorem dX12_visits_73 : decode cX12_visits 73 = .ok (.aload_n 0, 1) := by decide +kernel
theorem dX12_visits_74 : decode cX12_visits 74 = .ok (.getfield 63, 3) := by decide +kernel
theorem dX12_visits_77 : decode cX12_visits 77 = .ok (.iload_n 3, 1) := by decide +kernel
theorem dX12_visits_78 : decode cX12_visits 78 = .ok (.iaload, 1) := by decide +kernel
theorem dX12_visits_79 : decode cX12_visits 79 = .ok (.iastore, 1) := by decide +kernel
theorem dX12_visits_80 : decode cX12_visits 80 = .ok (.aload_n 0, 1) := by decide +kernel
theorem dX12_visits_81 : decode cX12_visits 81 = .ok (.getfield 63, 3) := by decide +kernel
theorem dX12_visits_84 : decode cX12_visits 84 = .ok (.iload_n 3, 1) := by decide +kernel
theorem dX12_visits_85 : decode cX12_visits 85 = .ok (.iaload, 1) := by decide +kernel
theorem dX12_visits_86 : decode cX12_visits 86 = .ok (.iconst (-1), 1) := by decide +kernel
theorem dX12_visits_87 : decode cX12_visits 87 = .ok (.if_icmp .ne 6, 3) := by decide +kernel
theorem dX12_visits_90 : decode cX12_visits 90 = .ok (.goto 48, 3) := by decide +kernel
theorem dX12_visits_93 : decode cX12_visits 93 = .ok (.aload_n 0, 1) := by decide +kernel
theorem dX12_visits_94 : decode cX12_visits 94 = .ok (.getfield 48, 3) := by decide +kernel
theorem dX12_visits_97 : decode cX12_visits 97 = .ok (.aload_n 0, 1) := by decide +kernel
theorem dX12_visits_98 : decode cX12_visits 98 = .ok (.getfield 63, 3) := by decide +kernel
theorem dX12_visits_101 : decode cX12_visits 101 = .ok (.iload_n 3, 1) := by decide +kernel
theorem dX12_visits_102 : decode cX12_visits 102 = .ok (.iaload, 1) := by decide +kernel
theorem dX12_visits_103 : decode cX12_visits 103 = .ok (.iload_n 3, 1) := by decide +kernel
theorem dX12_visits_104 : decode cX12_visits 104 = .ok (.iastore, 1) := by decide +kernel
theorem dX12_visits_105 : decode cX12_visits 105 = .ok (.aload_n 0, 1) := by decide +kernel
theorem dX12_visits_106 : decode cX12_visits 106 = .ok (.getfield 54, 3) := by decide +kernel
theorem dX12_visits_109 : decode cX12_visits 109 = .ok (.aload_n 0, 1) := by decide +kernel
theorem dX12_visits_110 : decode cX12_visits 110 = .ok (.getfield 63, 3) := by decide +kernel
theorem dX12_visits_113 : decode cX12_visits 113 = .ok (.iload_n 3, 1) := by decide +kernel
theorem dX12_visits_114 : decode cX12_visits 114 = .ok (.iaload, 1) := by decide +kernel
theorem dX12_visits_115 : decode cX12_visits 115 = .ok (.iconst 0, 1) := by decide +kernel
theorem dX12_visits_116 : decode cX12_visits 116 = .ok (.aload_n 0, 1) := by decide +kernel
theorem dX12_visits_117 : decode cX12_visits 117 = .ok (.getfield 54, 3) := by decide +kernel
theorem dX12_visits_120 : decode cX12_visits 120 = .ok (.aload_n 0, 1) := by decide +kernel
theorem dX12_visits_121 : decode cX12_visits 121 = .ok (.getfield 63, 3) := by decide +kernel
theorem dX12_visits_124 : decode cX12_visits 124 = .ok (.iload_n 3, 1) := by decide +kernel
theorem dX12_visits_125 : decode cX12_visits 125 = .ok (.iaload, 1) := by decide +kernel
theorem dX12_visits_126 : decode cX12_visits 126 = .ok (.iaload, 1) := by decide +kernel
theorem dX12_visits_127 : decode cX12_visits 127 = .ok (.aload_n 0, 1) := by decide +kernel
theorem dX12_visits_128 : decode cX12_visits 128 = .ok (.iload_n 3, 1) := by decide +kernel
theorem dX12_visits_129 : decode cX12_visits 129 = .ok (.iconst 5, 1) := by decide +kernel
theorem dX12_visits_130 : decode cX12_visits 130 = .ok (.invokevirtual 300, 3) := by decide +kernel
theorem dX12_visits_133 : decode cX12_visits 133 = .ok (.isub, 1) := by decide +kernel
theorem dX12_visits_134 : decode cX12_visits 134 = .ok (.invokestatic 341, 3) := by decide +kernel
theorem dX12_visits_137 : decode cX12_visits 137 = .ok (.iastore, 1) := by decide +kernel
theorem dX12_visits_138 : decode cX12_visits 138 = .ok (.iinc 3 1, 3) := by decide +kernel
theorem dX12_visits_141 : decode cX12_visits 141 = .ok (.goto (-92), 3) := by decide +kernel
theorem dX12_visits_144 : decode cX12_visits 144 = .ok (.aload_n 0, 1) := by decide +kernel
theorem dX12_visits_145 : decode cX12_visits 145 = .ok (.getfield 286, 3) := by decide +kernel
theorem dX12_visits_148 : decode cX12_visits 148 = .ok (.bipush 30, 2) := by decide +kernel
theorem dX12_visits_150 : decode cX12_visits 150 = .ok (.if_icmp .ne 4, 3) := by decide +kernel
theorem dX12_visits_153 : decode cX12_visits 153 = .ok (.return_, 1) := by decide +kernel
theorem dX12_visits_154 : decode cX12_visits 154 = .ok (.iconst 0, 1) := by decide +kernel
theorem dX12_visits_155 : decode cX12_visits 155 = .ok (.istore_n 3, 1) := by decide +kernel
theorem dX12_visits_156 : decode cX12_visits 156 = .ok (.iload_n 3, 1) := by decide +kernel
theorem dX12_visits_157 : decode cX12_visits 157 = .ok (.aload_n 0, 1) := by decide +kernel
theorem dX12_visits_158 : decode cX12_visits 158 = .ok (.getfield 283, 3) := by decide +kernel
theorem dX12_visits_161 : decode cX12_visits 161 = .ok (.if_icmp .ge 29, 3) := by decide +kernel
theorem dX12_visits_164 : decode cX12_visits 164 = .ok (.aload_n 0, 1) := by decide +kernel
theorem dX12_visits_165 : decode cX12_visits 165 = .ok (.getfield 66, 3) := by decide +kernel
theorem dX12_visits_168 : decode cX12_visits 168 = .ok (.bipush 6, 2) := by decide +kernel
theorem dX12_visits_170 : decode cX12_visits 170 = .ok (.aload_n 0, 1) := by decide +kernel
theorem dX12_visits_171 : decode cX12_visits 171 = .ok (.getfield 286, 3) := by decide +kernel
theorem dX12_visits_174 : decode cX12_visits 174 = .ok (.imul, 1) := by decide +kernel
theorem dX12_visits_175 : decode cX12_visits 175 = .ok (.iload_n 3, 1) := by decide +kernel
theorem dX12_visits_176 : decode cX12_visits 176 = .ok (.iadd, 1) := by decide +kernel
theorem dX12_visits_177 : decode cX12_visits 177 = .ok (.aload_n 0, 1) := by decide +kernel
theorem dX12_visits_178 : decode cX12_visits 178 = .ok (.getfield 48, 3) := by decide +kernel
theorem dX12_visits_181 : decode cX12_visits 181 = .ok (.iload_n 3, 1) := by decide +kernel
theorem dX12_visits_182 : decode cX12_visits 182 = .ok (.iaload, 1) := by decide +kernel
theorem dX12_visits_183 : decode cX12_visits 183 = .ok (.iastore, 1) := by decide +kernel
theorem dX12_visits_184 : decode cX12_visits 184 = .ok (.iinc 3 1, 3) := by decide +kernel
theorem dX12_visits_187 : decode cX12_visits 187 = .ok (.goto (-31), 3) := by decide +kernel
theorem dX12_visits_190 : decode cX12_visits 190 = .ok (.aload_n 0, 1) := by decide +kernel
theorem dX12_visits_191 : decode cX12_visits 191 = .ok (.dup, 1) := by decide +kernel
theorem dX12_visits_192 : decode cX12_visits 192 = .ok (.getfield 286, 3) := by decide +kernel
theorem dX12_visits_195 : decode cX12_visits 195 = .ok (.iconst 1, 1) := by decide +kernel
theorem dX12_visits_196 : decode cX12_visits 196 = .ok (.iadd, 1) := by decide +kernel
theorem dX12_visits_197 : decode cX12_visits 197 = .ok (.putfield 286, 3) := by decide +kernel
theorem dX12_visits_200 : decode cX12_visits 200 = .ok (.return_, 1) := by decide +kernel
def f_X12_visits_41 (q12 : Nat → Int32 → Int32 → Int32 → AH → Option AH) (k0 : Nat) (x1 : Int32) (x2 : Int32) (x3 : Int32) (h : AH) : Option AH :=
  nm (x3 + 1) fun x3_1 =>
  q12 k0 x1 x2 x3_1 h
def f_X12_visits_138 (q49 : Nat → Int32 → Int32 → AH → Option AH) (k0 : Nat) (x2 : Int32) (x3 : Int32) (h : AH) : Option AH :=
  nm (x3 + 1) fun x3_1 =>
  q49 k0 x2 x3_1 h
def f_X12_visits_156 : Nat → Nat → Int32 → AH → Option AH
  | 0, _, _, _ => none
  | n + 1, k0, x3, h =>
    if (h.1 k0 20) ≤ x3 then (
      nm (sI h k0 32 ((h.1 k0 32) + 1)) fun h_2 =>
      some h_2
    ) else (
      og (ix x3 (an (rf k0 23))) <|
      og (ix ((6 * (h.1 k0 32)) + x3) (an (rf k0 31))) <|
      nm (sI h (rf k0 31) ((6 * (h.1 k0 32)) + x3).toNatClampNeg (h.1 (rf k0 23) x3.toNatClampNeg)) fun h_6 =>
      nm (x3 + 1) fun x3_8 =>
      f_X12_visits_156 n k0 x3_8 h_6
    )
def f_X12_visits_49 : Nat → Nat → Int32 → Int32 → AH → Option AH
  | 0, _, _, _, _ => none
  | n + 1, k0, x2, x3, h =>
    if (h.1 k0 20) ≤ x3 then (
      if (h.1 k0 32) = 30 then (
        some h
      ) else (
        f_X12_visits_156 FU k0 0 h
      )
    ) else (
      ob (f_X12_has x2 x3 h) fun r_5 h_4 =>
      if r_5 = 0 then (
        f_X12_visits_138 (f_X12_visits_49 n) k0 x2 x3 h_4
      ) else (
        og (ix x3 (an (rf k0 28))) <|
        og (ix x3 (an (rf k0 22))) <|
        nm (sI h_4 (rf k0 22) x3.toNatClampNeg (h_4.1 (rf k0 28) x3.toNatClampNeg)) fun h_9 =>
        og (ix x3 (an (rf k0 28))) <|
        if (h_9.1 (rf k0 28) x3.toNatClampNeg) = (-1) then (
          f_X12_visits_138 (f_X12_visits_49 n) k0 x2 x3 h_9
        ) else (
          og (ix x3 (an (rf k0 28))) <|
          og (ix (h_9.1 (rf k0 28) x3.toNatClampNeg) (an (rf k0 23))) <|
          nm (sI h_9 (rf k0 23) (h_9.1 (rf k0 28) x3.toNatClampNeg).toNatClampNeg x3) fun h_15 =>
          og (ix x3 (an (rf k0 28))) <|
          og (ix x3 (an (rf k0 28))) <|
          og (ix (h_15.1 (rf k0 28) x3.toNatClampNeg) (an (rf k0 25))) <|
          ob (f_X12_partOf k0 x3 5 h_15) fun r_22 h_21 =>
          og (ix (h_15.1 (rf k0 28) x3.toNatClampNeg) (an (rf k0 25))) <|
          nm (sI h_21 (rf k0 25) (h_15.1 (rf k0 28) x3.toNatClampNeg).toNatClampNeg (if 0 < ((h_15.1 (rf k0 25) (h_15.1 (rf k0 28) x3.toNatClampNeg).toNatClampNeg) - r_22) then ((h_15.1 (rf k0 25) (h_15.1 (rf k0 28) x3.toNatClampNeg).toNatClampNeg) - r_22) else 0)) fun h_24 =>
          f_X12_visits_138 (f_X12_visits_49 n) k0 x2 x3 h_24
        )
      )
    )
def f_X12_visits_12 : Nat → Nat → Int32 → Int32 → Int32 → AH → Option AH
  | 0, _, _, _, _, _ => none
  | n + 1, k0, x1, x2, x3, h =>
    if (h.1 k0 20) ≤ x3 then (
      f_X12_visits_49 FU k0 x2 0 h
    ) else (
      ob (f_X12_has (h.1 k0 30) x3 h) fun r_4 h_3 =>
      if r_4 = 0 then (
        f_X12_visits_41 (f_X12_visits_12 n) k0 x1 x2 x3 h_3
      ) else (
        og (ix x3 (an (rf k0 23))) <|
        nm (sI h_3 (rf k0 23) x3.toNatClampNeg (10 + x1)) fun h_7 =>
        f_X12_visits_41 (f_X12_visits_12 n) k0 x1 x2 x3 h_7
      )
    )
def f_X12_visits (k0 : Nat) (x1 : Int32) (x2 : Int32) (h : AH) : Option AH :=
  ob (f_X12_doorOf k0 x1 x2 h) fun r_3 h_2 =>
  ov (f_X12_go k0 r_3 h_2) fun h_5 =>
  f_X12_visits_12 FU k0 x1 x2 0 h_5
set_option maxHeartbeats 4000000 in
set_option maxRecDepth 100000 in
theorem v_X12_visits_41 {E : EV} {d : Nat} (hd : 1460 ≤ d) {h0 : AH} {q12 : Nat → Int32 → Int32 → Int32 → AH → Option AH} (cq12 : ∀ (k0 : Nat) (x1 : Int32) (x2 : Int32) (x3 : Int32) (h : AH), q12 k0 x1 x2 x3 h = some h0 → kd k0 = (0, 12) → V E (d + 1) K_X12_visits (ZV E h0) h [(0, .ref k0), (1, .int x1), (2, .int x2), (3, .int x3)] [] 12) {k0 : Nat} {x1 : Int32} {x2 : Int32} {x3 : Int32} {h : AH} (hf : f_X12_visits_41 q12 k0 x1 x2 x3 h = some h0) (t_k0 : kd k0 = (0, 12)) : V E (d + 1) K_X12_visits (ZV E h0) h [(0, .ref k0), (1, .int x1), (2, .int x2), (3, .int x3)] [] 41 := by
  unfold f_X12_visits_41 at hf
  obtain ⟨x3_1, e_2, hf⟩ := nm_s hf
  refine V_iinc (a := 1) (L' := [(3, .int x3_1), (0, .ref k0), (1, .int x1), (2, .int x2)]) 3 dX12_visits_41 rfl (by decide) (Nat.le_of_ble_eq_true rfl) e_2 rfl ?_
  refine V_goto (tgt := 12) dX12_visits_44 (by decide) ?_
  refine V_sub [1, 2, 3, 0] rfl ?_
  exact cq12 _ _ _ _ _ hf t_k0
set_option maxHeartbeats 4000000 in
set_option maxRecDepth 100000 in
theorem v_X12_visits_138 {E : EV} {d : Nat} (hd : 1460 ≤ d) {h0 : AH} {q49 : Nat → Int32 → Int32 → AH → Option AH} (cq49 : ∀ (k0 : Nat) (x2 : Int32) (x3 : Int32) (h : AH), q49 k0 x2 x3 h = some h0 → kd k0 = (0, 12) → V E (d + 1) K_X12_visits (ZV E h0) h [(0, .ref k0), (2, .int x2), (3, .int x3)] [] 49) {k0 : Nat} {x2 : Int32} {x3 : Int32} {h : AH} (hf : f_X12_visits_138 q49 k0 x2 x3 h = some h0) (t_k0 : kd k0 = (0, 12)) : V E (d + 1) K_X12_visits (ZV E h0) h [(0, .ref k0), (2, .int x2), (3, .int x3)] [] 138 := by
  unfold f_X12_visits_138 at hf
  obtain ⟨x3_1, e_2, hf⟩ := nm_s hf
  refine V_iinc (a := 1) (L' := [(3, .int x3_1), (0, .ref k0), (2, .int x2)]) 2 dX12_visits_138 rfl (by decide) (Nat.le_of_ble_eq_true rfl) e_2 rfl ?_
  refine V_goto (tgt := 49) dX12_visits_141 (by decide) ?_
  refine V_sub [1, 2, 0] rfl ?_
  exact cq49 _ _ _ _ hf t_k0
set_option maxHeartbeats 4000000 in
set_option maxRecDepth 100000 in
theorem v_X12_visits_156 {E : EV} {d : Nat} (hd : 1460 ≤ d) {h0 : AH} : ∀ (n : Nat) (k0 : Nat) (x3 : Int32) (h : AH), f_X12_visits_156 n k0 x3 h = some h0 → kd k0 = (0, 12) → V E (d + 1) K_X12_visits (ZV E h0) h [(0, .ref k0), (3, .int x3)] [] 156 := by
  intro n
  induction n with
  | zero =>
    intro k0 x3 h hf
    rw [f_X12_visits_156] at hf
    cases hf
  | succ n ih =>
    intro k0 x3 h hf t_k0
    rw [f_X12_visits_156] at hf
    refine V_iload_n 1 dX12_visits_156 rfl rfl ?_
    refine V_aload_n 0 dX12_visits_157 rfl rfl ?_
    refine V_getI F_X12_283 rfl t_k0 rfl dX12_visits_158 ?_
    refine V_ic_ge (tgt := 190) dX12_visits_161 (by decide) (fun c_1 => ?_) (fun c_1 => ?_)
    · have hf := it_s c_1 hf
      refine V_aload_n 0 dX12_visits_190 rfl rfl ?_
      refine V_dup dX12_visits_191 rfl ?_
      refine V_getI F_X12_286 rfl t_k0 rfl dX12_visits_192 ?_
      refine V_iconst (v := 1) dX12_visits_195 (by decide) ?_
      refine V_iadd dX12_visits_196 ?_
      obtain ⟨h_2, e_3, hf⟩ := nm_s hf
      refine V_putI P_X12_286 rfl t_k0 rfl e_3 dX12_visits_197 ?_
      exact V_vret rfl (so_s hf) dX12_visits_200
    · have hf := if_s c_1 hf
      refine V_aload_n 0 dX12_visits_164 rfl rfl ?_
      refine V_getR F_X12_66 rfl t_k0 rfl dX12_visits_165 ?_
      refine V_bipush (v := 6) dX12_visits_168 (by decide) ?_
      refine V_aload_n 0 dX12_visits_170 rfl rfl ?_
      refine V_getI F_X12_286 rfl t_k0 rfl dX12_visits_171 ?_
      refine V_imul dX12_visits_174 ?_
      refine V_iload_n 1 dX12_visits_175 rfl rfl ?_
      refine V_iadd dX12_visits_176 ?_
      refine V_aload_n 0 dX12_visits_177 rfl rfl ?_
      refine V_getR F_X12_48 rfl t_k0 rfl dX12_visits_178 ?_
      refine V_iload_n 1 dX12_visits_181 rfl rfl ?_
      obtain ⟨b_4, hf⟩ := og_s hf
      refine V_iald (rfA t_k0 (Nat.le_of_ble_eq_true rfl) rfl rfl (by decide)) b_4 dX12_visits_182 ?_
      obtain ⟨b_5, hf⟩ := og_s hf
      obtain ⟨h_6, e_7, hf⟩ := nm_s hf
      refine V_iast (rfA t_k0 (Nat.le_of_ble_eq_true rfl) rfl rfl (by decide)) b_5 e_7 dX12_visits_183 ?_
      obtain ⟨x3_8, e_9, hf⟩ := nm_s hf
      refine V_iinc (a := 1) (L' := [(3, .int x3_8), (0, .ref k0)]) 1 dX12_visits_184 rfl (by decide) (Nat.le_of_ble_eq_true rfl) e_9 rfl ?_
      refine V_goto (tgt := 156) dX12_visits_187 (by decide) ?_
      refine V_sub [1, 0] rfl ?_
      exact ih _ _ _ hf t_k0
set_option maxHeartbeats 4000000 in
set_option maxRecDepth 100000 in
theorem v_X12_visits_49 {E : EV} {d : Nat} (hd : 1460 ≤ d) {h0 : AH} : ∀ (n : Nat) (k0 : Nat) (x2 : Int32) (x3 : Int32) (h : AH), f_X12_visits_49 n k0 x2 x3 h = some h0 → kd k0 = (0, 12) → V E (d + 1) K_X12_visits (ZV E h0) h [(0, .ref k0), (2, .int x2), (3, .int x3)] [] 49 := by
  intro n
  induction n with
  | zero =>
    intro k0 x2 x3 h hf
    rw [f_X12_visits_49] at hf
    cases hf
  | succ n ih =>
    intro k0 x2 x3 h hf t_k0
    rw [f_X12_visits_49] at hf
    refine V_iload_n 2 dX12_visits_49 rfl rfl ?_
    refine V_aload_n 0 dX12_visits_50 rfl rfl ?_
    refine V_getI F_X12_283 rfl t_k0 rfl dX12_visits_51 ?_
    refine V_ic_ge (tgt := 144) dX12_visits_54 (by decide) (fun c_1 => ?_) (fun c_1 => ?_)
    · have hf := it_s c_1 hf
      refine V_aload_n 0 dX12_visits_144 rfl rfl ?_
      refine V_getI F_X12_286 rfl t_k0 rfl dX12_visits_145 ?_
      refine V_bipush (v := 30) dX12_visits_148 (by decide) ?_
      refine V_ic_ne (tgt := 154) dX12_visits_150 (by decide) (fun c_2 => ?_) (fun c_2 => ?_)
      · have hf := if_s c_2 hf
        refine V_iconst (v := 0) dX12_visits_154 (by decide) ?_
        refine V_istore_n (L' := [(3, .int 0), (0, .ref k0), (2, .int x2)]) dX12_visits_155 rfl (Nat.le_of_ble_eq_true rfl) rfl rfl ?_
        refine V_sub [1, 0] rfl ?_
        exact v_X12_visits_156 hd FU _ _ _ hf t_k0
      · have hf := it_s c_2 hf
        exact V_vret rfl (so_s hf) dX12_visits_153
    · have hf := if_s c_1 hf
      refine V_iload_n 1 dX12_visits_57 rfl rfl ?_
      refine V_iload_n 2 dX12_visits_58 rfl rfl ?_
      obtain ⟨r_5, h_4, e_3, hf⟩ := ob_s hf
      refine V_csi (As := [.int x2, .int x3]) (rest := []) (c_X12_has (d := d) (Nat.le_trans (Nat.le_of_ble_eq_true rfl) hd) e_3) ML_X12_258 MS_X12_has rfl rfl rfl (Nat.le_of_ble_eq_true rfl) dX12_visits_59 ?_
      refine V_if_ne (tgt := 68) dX12_visits_62 (by decide) (fun c_6 => ?_) (fun c_6 => ?_)
      · have hf := if_s c_6 hf
        refine V_aload_n 0 dX12_visits_68 rfl rfl ?_
        refine V_getR F_X12_45 rfl t_k0 rfl dX12_visits_69 ?_
        refine V_iload_n 2 dX12_visits_72 rfl rfl ?_
        refine V_aload_n 0 dX12_visits_73 rfl rfl ?_
        refine V_getR F_X12_63 rfl t_k0 rfl dX12_visits_74 ?_
        refine V_iload_n 2 dX12_visits_77 rfl rfl ?_
        obtain ⟨b_7, hf⟩ := og_s hf
        refine V_iald (rfA t_k0 (Nat.le_of_ble_eq_true rfl) rfl rfl (by decide)) b_7 dX12_visits_78 ?_
        obtain ⟨b_8, hf⟩ := og_s hf
        obtain ⟨h_9, e_10, hf⟩ := nm_s hf
        refine V_iast (rfA t_k0 (Nat.le_of_ble_eq_true rfl) rfl rfl (by decide)) b_8 e_10 dX12_visits_79 ?_
        refine V_aload_n 0 dX12_visits_80 rfl rfl ?_
        refine V_getR F_X12_63 rfl t_k0 rfl dX12_visits_81 ?_
        refine V_iload_n 2 dX12_visits_84 rfl rfl ?_
        obtain ⟨b_11, hf⟩ := og_s hf
        refine V_iald (rfA t_k0 (Nat.le_of_ble_eq_true rfl) rfl rfl (by decide)) b_11 dX12_visits_85 ?_
        refine V_iconst (v := (-1)) dX12_visits_86 (by decide) ?_
        refine V_ic_ne (tgt := 93) dX12_visits_87 (by decide) (fun c_12 => ?_) (fun c_12 => ?_)
        · have hf := if_s c_12 hf
          refine V_aload_n 0 dX12_visits_93 rfl rfl ?_
          refine V_getR F_X12_48 rfl t_k0 rfl dX12_visits_94 ?_
          refine V_aload_n 0 dX12_visits_97 rfl rfl ?_
          refine V_getR F_X12_63 rfl t_k0 rfl dX12_visits_98 ?_
          refine V_iload_n 2 dX12_visits_101 rfl rfl ?_
          obtain ⟨b_13, hf⟩ := og_s hf
          refine V_iald (rfA t_k0 (Nat.le_of_ble_eq_true rfl) rfl rfl (by decide)) b_13 dX12_visits_102 ?_
          refine V_iload_n 2 dX12_visits_103 rfl rfl ?_
          obtain ⟨b_14, hf⟩ := og_s hf
          obtain ⟨h_15, e_16, hf⟩ := nm_s hf
          refine V_iast (rfA t_k0 (Nat.le_of_ble_eq_true rfl) rfl rfl (by decide)) b_14 e_16 dX12_visits_104 ?_
          refine V_aload_n 0 dX12_visits_105 rfl rfl ?_
          refine V_getR F_X12_54 rfl t_k0 rfl dX12_visits_106 ?_
          refine V_aload_n 0 dX12_visits_109 rfl rfl ?_
          refine V_getR F_X12_63 rfl t_k0 rfl dX12_visits_110 ?_
          refine V_iload_n 2 dX12_visits_113 rfl rfl ?_
          obtain ⟨b_17, hf⟩ := og_s hf
          refine V_iald (rfA t_k0 (Nat.le_of_ble_eq_true rfl) rfl rfl (by decide)) b_17 dX12_visits_114 ?_
          refine V_iconst (v := 0) dX12_visits_115 (by decide) ?_
          refine V_aload_n 0 dX12_visits_116 rfl rfl ?_
          refine V_getR F_X12_54 rfl t_k0 rfl dX12_visits_117 ?_
          refine V_aload_n 0 dX12_visits_120 rfl rfl ?_
          refine V_getR F_X12_63 rfl t_k0 rfl dX12_visits_121 ?_
          refine V_iload_n 2 dX12_visits_124 rfl rfl ?_
          obtain ⟨b_18, hf⟩ := og_s hf
          refine V_iald (rfA t_k0 (Nat.le_of_ble_eq_true rfl) rfl rfl (by decide)) b_18 dX12_visits_125 ?_
          obtain ⟨b_19, hf⟩ := og_s hf
          refine V_iald (rfA t_k0 (Nat.le_of_ble_eq_true rfl) rfl rfl (by decide)) b_19 dX12_visits_126 ?_
          refine V_aload_n 0 dX12_visits_127 rfl rfl ?_
          refine V_iload_n 2 dX12_visits_128 rfl rfl ?_
          refine V_iconst (v := 5) dX12_visits_129 (by decide) ?_
          obtain ⟨r_22, h_21, e_20, hf⟩ := ob_s hf
          refine V_cvi (As := [.int x3, .int 5]) (rest := [.int (h_15.1 (rf k0 25) (h_15.1 (rf k0 28) x3.toNatClampNeg).toNatClampNeg), .int 0, .int (h_15.1 (rf k0 28) x3.toNatClampNeg), .ref (rf k0 25)]) (c_X12_partOf (d := d) (Nat.le_trans (Nat.le_of_ble_eq_true rfl) hd) e_20 t_k0) ML_X12_300 MV_X12_partOf rfl t_k0 rfl rfl (Nat.le_of_ble_eq_true rfl) dX12_visits_130 ?_
          refine V_isub dX12_visits_133 ?_
          refine V_mmax ml_X12_341 rfl (Nat.le_of_ble_eq_true rfl) dX12_visits_134 ?_
          obtain ⟨b_23, hf⟩ := og_s hf
          obtain ⟨h_24, e_25, hf⟩ := nm_s hf
          refine V_iast (rfA t_k0 (Nat.le_of_ble_eq_true rfl) rfl rfl (by decide)) b_23 e_25 dX12_visits_137 ?_
          exact v_X12_visits_138 hd ih hf t_k0
        · have hf := it_s c_12 hf
          refine V_goto (tgt := 138) dX12_visits_90 (by decide) ?_
          exact v_X12_visits_138 hd ih hf t_k0
      · have hf := it_s c_6 hf
        refine V_goto (tgt := 138) dX12_visits_65 (by decide) ?_
        exact v_X12_visits_138 hd ih hf t_k0
set_option maxHeartbeats 4000000 in
set_option maxRecDepth 100000 in
theorem v_X12_visits_12 {E : EV} {d : Nat} (hd : 1460 ≤ d) {h0 : AH} : ∀ (n : Nat) (k0 : Nat) (x1 : Int32) (x2 : Int32) (x3 : Int32) (h : AH), f_X12_visits_12 n k0 x1 x2 x3 h = some h0 → kd k0 = (0, 12) → V E (d + 1) K_X12_visits (ZV E h0) h [(0, .ref k0), (1, .int x1), (2, .int x2), (3, .int x3)] [] 12 := by
  intro n
  induction n with
  | zero =>
    intro k0 x1 x2 x3 h hf
    rw [f_X12_visits_12] at hf
    cases hf
  | succ n ih =>
    intro k0 x1 x2 x3 h hf t_k0
    rw [f_X12_visits_12] at hf
    refine V_iload_n 3 dX12_visits_12 rfl rfl ?_
    refine V_aload_n 0 dX12_visits_13 rfl rfl ?_
    refine V_getI F_X12_283 rfl t_k0 rfl dX12_visits_14 ?_
    refine V_ic_ge (tgt := 47) dX12_visits_17 (by decide) (fun c_1 => ?_) (fun c_1 => ?_)
    · have hf := it_s c_1 hf
      refine V_iconst (v := 0) dX12_visits_47 (by decide) ?_
      refine V_istore_n (L' := [(3, .int 0), (0, .ref k0), (1, .int x1), (2, .int x2)]) dX12_visits_48 rfl (Nat.le_of_ble_eq_true rfl) rfl rfl ?_
      refine V_sub [1, 3, 0] rfl ?_
      exact v_X12_visits_49 hd FU _ _ _ _ hf t_k0
    · have hf := if_s c_1 hf
      refine V_aload_n 0 dX12_visits_20 rfl rfl ?_
      refine V_getI F_X12_318 rfl t_k0 rfl dX12_visits_21 ?_
      refine V_iload_n 3 dX12_visits_24 rfl rfl ?_
      obtain ⟨r_4, h_3, e_2, hf⟩ := ob_s hf
      refine V_csi (As := [.int (h.1 k0 30), .int x3]) (rest := []) (c_X12_has (d := d) (Nat.le_trans (Nat.le_of_ble_eq_true rfl) hd) e_2) ML_X12_258 MS_X12_has rfl rfl rfl (Nat.le_of_ble_eq_true rfl) dX12_visits_25 ?_
      refine V_if_eq (tgt := 41) dX12_visits_28 (by decide) (fun c_5 => ?_) (fun c_5 => ?_)
      · have hf := it_s c_5 hf
        exact v_X12_visits_41 hd ih hf t_k0
      · have hf := if_s c_5 hf
        refine V_aload_n 0 dX12_visits_31 rfl rfl ?_
        refine V_getR F_X12_48 rfl t_k0 rfl dX12_visits_32 ?_
        refine V_iload_n 3 dX12_visits_35 rfl rfl ?_
        refine V_bipush (v := 10) dX12_visits_36 (by decide) ?_
        refine V_iload_n 1 dX12_visits_38 rfl rfl ?_
        refine V_iadd dX12_visits_39 ?_
        obtain ⟨b_6, hf⟩ := og_s hf
        obtain ⟨h_7, e_8, hf⟩ := nm_s hf
        refine V_iast (rfA t_k0 (Nat.le_of_ble_eq_true rfl) rfl rfl (by decide)) b_6 e_8 dX12_visits_40 ?_
        exact v_X12_visits_41 hd ih hf t_k0
set_option maxHeartbeats 4000000 in
set_option maxRecDepth 100000 in
theorem c_X12_visits {E : EV} {d : Nat} (hd : 1460 + 1 ≤ d) {k0 : Nat} {x1 : Int32} {x2 : Int32} {h : AH} {h0 : AH} (hf : f_X12_visits k0 x1 x2 h = some h0) (t_k0 : kd k0 = (0, 12)) : Con E d K_X12_visits (ZV E h0) [.ref k0, .int x1, .int x2] h := by
  obtain ⟨d, rfl⟩ : ∃ d', d = d' + 1 := ⟨d - 1, by omega⟩
  have hd := Nat.le_of_succ_le_succ hd
  refine Con.ofV rfl (Nat.le_of_ble_eq_true rfl) ?_
  unfold f_X12_visits at hf
  show V E (d + 1) K_X12_visits (ZV E h0) h [(0, .ref k0), (1, .int x1), (2, .int x2)] [] 0
  refine V_aload_n 0 dX12_visits_0 rfl rfl ?_
  refine V_aload_n 0 dX12_visits_1 rfl rfl ?_
  refine V_iload_n 1 dX12_visits_2 rfl rfl ?_
  refine V_iload_n 2 dX12_visits_3 rfl rfl ?_
  obtain ⟨r_3, h_2, e_1, hf⟩ := ob_s hf
  refine V_cvi (As := [.int x1, .int x2]) (rest := [.ref k0]) (c_X12_doorOf (d := d) (Nat.le_trans (Nat.le_of_ble_eq_true rfl) hd) e_1 t_k0) ML_X12_335 MV_X12_doorOf rfl t_k0 rfl rfl (Nat.le_of_ble_eq_true rfl) dX12_visits_4 ?_
  obtain ⟨h_5, e_4, hf⟩ := ov_s hf
  refine V_cvv (As := [.int r_3]) (rest := []) (c_X12_go (d := d) (Nat.le_trans (Nat.le_of_ble_eq_true rfl) hd) e_4 t_k0) ML_X12_338 MV_X12_go rfl t_k0 rfl rfl (Nat.le_of_ble_eq_true rfl) dX12_visits_7 ?_
  refine V_iconst (v := 0) dX12_visits_10 (by decide) ?_
  refine V_istore_n (L' := [(3, .int 0), (0, .ref k0), (1, .int x1), (2, .int x2)]) dX12_visits_11 rfl (Nat.le_of_ble_eq_true rfl) rfl rfl ?_
  refine V_sub [1, 2, 3, 0] rfl ?_
  exact v_X12_visits_12 hd FU _ _ _ _ _ hf t_k0
theorem dX12_evening_0 : decode cX12_evening 0 = .ok (.aload_n 0, 1) := by decide +kernel
theorem dX12_evening_1 : decode cX12_evening 1 = .ok (.iconst 0, 1) := by decide +kernel
theorem dX12_evening_2 : decode cX12_evening 2 = .ok (.putfield 120, 3) := by decide +kernel
theorem dX12_evening_5 : decode cX12_evening 5 = .ok (.aload_n 0, 1) := by decide +kernel
theorem dX12_evening_6 : decode cX12_evening 6 = .ok (.iload_n 1, 1) := by decide +kernel
theorem dX12_evening_7 : decode cX12_evening 7 = .ok (.iload_n 2, 1) := by decide +kernel
theorem dX12_evening_8 : decode cX12_evening 8 = .ok (.invokevirtual 343, 3) := by decide +kernel
theorem dX12_evening_11 : decode cX12_evening 11 = .ok (.ifCond .eq 12, 3) := by decide +kernel
theorem dX12_evening_14 : decode cX12_evening 14 = .ok (.aload_n 0, 1) := by decide +kernel
theorem dX12_evening_15 : decode cX12_evening 15 = .ok (.iload_n 2, 1) := by decide +kernel
theorem dX12_evening_16 : decode cX12_evening 16 = .ok (.iload_n 3, 1) := by decide +kernel
theorem dX12_evening_17 : decode cX12_evening 17 = .ok (.invokevirtual 346, 3) := by decide +kernel
theorem dX12_evening_20 : decode cX12_evening 20 = .ok (.ifCond .ne 5, 3) := by decide +kernel
theorem dX12_evening_23 : decode cX12_evening 23 = .ok (.iconst (-1), 1) := by decide +kernel
theorem dX12_evening_24 : decode cX12_evening 24 = .ok (.ireturn, 1) := by decide +kernel
theorem dX12_evening_25 : decode cX12_evening 25 = .ok (.aload_n 0, 1) := by decide +kernel
theorem dX12_evening_26 : decode cX12_evening 26 = .ok (.iload_n 1, 1) := by decide +kernel
theorem dX12_evening_27 : decode cX12_evening 27 = .ok (.iload_n 2, 1) := by decide +kernel
theorem dX12_evening_28 : decode cX12_evening 28 = .ok (.invokevirtual 349, 3) := by decide +kernel
theorem dX12_evening_31 : decode cX12_evening 31 = .ok (.aload_n 0, 1) := by decide +kernel
theorem dX12_evening_32 : decode cX12_evening 32 = .ok (.getfield 286, 3) := by decide +kernel
theorem dX12_evening_35 : decode cX12_evening 35 = .ok (.ireturn, 1) := by decide +kernel
theorem ML_X12_349 : MLk RX12 349 yX12_visits := Or.inl ml_X12_349
theorem MV_X12_visits : MVk K_X12_visits 2 12 := ⟨⟨cd_X12_visits, in_X12, ⟨by decide, by decide, by decide +kernel⟩, by decide⟩, im_X12_visits, se_X12_visits, _, _, rfl⟩
def f_X12_evening_23  (h : AH) : Option (Int32 × AH) :=
  some ((-1), h)
def f_X12_evening (k0 : Nat) (x1 : Int32) (x2 : Int32) (x3 : Int32) (h : AH) : Option (Int32 × AH) :=
  nm (sI h k0 0 0) fun h_1 =>
  ob (f_X12_isVisit k0 x1 x2 h_1) fun r_5 h_4 =>
  if r_5 = 0 then (
    f_X12_evening_23 h_4
  ) else (
    ob (f_X12_layOrder k0 x2 x3 h_4) fun r_9 h_8 =>
    if r_9 = 0 then (
      f_X12_evening_23 h_8
    ) else (
      ov (f_X12_visits k0 x1 x2 h_8) fun h_12 =>
      some ((h_12.1 k0 32), h_12)
    )
  )
set_option maxHeartbeats 4000000 in
set_option maxRecDepth 100000 in
theorem v_X12_evening_23 {E : EV} {d : Nat} (hd : 1461 ≤ d) {r0 : Int32} {h0 : AH}  {h : AH} (hf : f_X12_evening_23 h = some (r0, h0)) : V E (d + 1) K_X12_evening (ZI E r0 h0) h [] [] 23 := by
  unfold f_X12_evening_23 at hf
  refine V_iconst (v := (-1)) dX12_evening_23 (by decide) ?_
  exact V_iret rfl (so_s hf) dX12_evening_24
set_option maxHeartbeats 4000000 in
set_option maxRecDepth 100000 in
theorem c_X12_evening {E : EV} {d : Nat} (hd : 1461 + 1 ≤ d) {k0 : Nat} {x1 : Int32} {x2 : Int32} {x3 : Int32} {h : AH} {r0 : Int32} {h0 : AH} (hf : f_X12_evening k0 x1 x2 x3 h = some (r0, h0)) (t_k0 : kd k0 = (0, 12)) : Con E d K_X12_evening (ZI E r0 h0) [.ref k0, .int x1, .int x2, .int x3] h := by
  obtain ⟨d, rfl⟩ : ∃ d', d = d' + 1 := ⟨d - 1, by omega⟩
  have hd := Nat.le_of_succ_le_succ hd
  refine Con.ofV rfl (Nat.le_of_ble_eq_true rfl) ?_
  unfold f_X12_evening at hf
  show V E (d + 1) K_X12_evening (ZI E r0 h0) h [(0, .ref k0), (1, .int x1), (2, .int x2), (3, .int x3)] [] 0
  refine V_aload_n 0 dX12_evening_0 rfl rfl ?_
  refine V_iconst (v := 0) dX12_evening_1 (by decide) ?_
  obtain ⟨h_1, e_2, hf⟩ := nm_s hf
  refine V_putI P_X12_120 rfl t_k0 rfl e_2 dX12_evening_2 ?_
  refine V_aload_n 0 dX12_evening_5 rfl rfl ?_
  refine V_iload_n 1 dX12_evening_6 rfl rfl ?_
  refine V_iload_n 2 dX12_evening_7 rfl rfl ?_
  obtain ⟨r_5, h_4, e_3, hf⟩ := ob_s hf
  refine V_cvi (As := [.int x1, .int x2]) (rest := []) (c_X12_isVisit (d := d) (Nat.le_trans (Nat.le_of_ble_eq_true rfl) hd) e_3 t_k0) ML_X12_343 MV_X12_isVisit rfl t_k0 rfl rfl (Nat.le_of_ble_eq_true rfl) dX12_evening_8 ?_
  refine V_if_eq (tgt := 23) dX12_evening_11 (by decide) (fun c_6 => ?_) (fun c_6 => ?_)
  · have hf := it_s c_6 hf
    refine V_sub [] rfl ?_
    exact v_X12_evening_23 hd hf
  · have hf := if_s c_6 hf
    refine V_aload_n 0 dX12_evening_14 rfl rfl ?_
    refine V_iload_n 2 dX12_evening_15 rfl rfl ?_
    refine V_iload_n 3 dX12_evening_16 rfl rfl ?_
    obtain ⟨r_9, h_8, e_7, hf⟩ := ob_s hf
    refine V_cvi (As := [.int x2, .int x3]) (rest := []) (c_X12_layOrder (d := d) (Nat.le_trans (Nat.le_of_ble_eq_true rfl) hd) e_7 t_k0) ML_X12_346 MV_X12_layOrder rfl t_k0 rfl rfl (Nat.le_of_ble_eq_true rfl) dX12_evening_17 ?_
    refine V_if_ne (tgt := 25) dX12_evening_20 (by decide) (fun c_10 => ?_) (fun c_10 => ?_)
    · have hf := if_s c_10 hf
      refine V_aload_n 0 dX12_evening_25 rfl rfl ?_
      refine V_iload_n 1 dX12_evening_26 rfl rfl ?_
      refine V_iload_n 2 dX12_evening_27 rfl rfl ?_
      obtain ⟨h_12, e_11, hf⟩ := ov_s hf
      refine V_cvv (As := [.int x1, .int x2]) (rest := []) (c_X12_visits (d := d) (Nat.le_trans (Nat.le_of_ble_eq_true rfl) hd) e_11 t_k0) ML_X12_349 MV_X12_visits rfl t_k0 rfl rfl (Nat.le_of_ble_eq_true rfl) dX12_evening_28 ?_
      refine V_aload_n 0 dX12_evening_31 rfl rfl ?_
      refine V_getI F_X12_286 rfl t_k0 rfl dX12_evening_32 ?_
      exact V_iret rfl (so_s hf) dX12_evening_35
    · have hf := it_s c_10 hf
      refine V_sub [] rfl ?_
      exact v_X12_evening_23 hd hf
theorem dX12_usual_0 : decode cX12_usual 0 = .ok (.iload_n 0, 1) := by decide +kernel
theorem dX12_usual_1 : decode cX12_usual 1 = .ok (.tableswitch 44 0 4 #[35, 44, 38, 35, 41], 35) := by decide +kernel
theorem dX12_usual_36 : decode cX12_usual 36 = .ok (.bipush 40, 2) := by decide +kernel
theorem dX12_usual_38 : decode cX12_usual 38 = .ok (.ireturn, 1) := by decide +kernel
theorem dX12_usual_39 : decode cX12_usual 39 = .ok (.bipush 50, 2) := by decide +kernel
theorem dX12_usual_41 : decode cX12_usual 41 = .ok (.ireturn, 1) := by decide +kernel
theorem dX12_usual_42 : decode cX12_usual 42 = .ok (.bipush 10, 2) := by decide +kernel
theorem dX12_usual_44 : decode cX12_usual 44 = .ok (.ireturn, 1) := by decide +kernel
theorem dX12_usual_45 : decode cX12_usual 45 = .ok (.iconst 1, 1) := by decide +kernel
theorem dX12_usual_46 : decode cX12_usual 46 = .ok (.ireturn, 1) := by decide +kernel
def f_X12_usual (x0 : Int32) (h : AH) : Option (Int32 × AH) :=
  if x0 = 0 then (
    some (40, h)
  ) else (
    if x0 = 1 then (
      some (1, h)
    ) else (
      if x0 = 2 then (
        some (50, h)
      ) else (
        if x0 = 3 then (
          some (40, h)
        ) else (
          if x0 = 4 then (
            some (10, h)
          ) else (
            some (1, h)
  )))))
set_option maxHeartbeats 4000000 in
set_option maxRecDepth 100000 in
theorem c_X12_usual {E : EV} {d : Nat} (hd : 0 + 1 ≤ d) {x0 : Int32} {h : AH} {r0 : Int32} {h0 : AH} (hf : f_X12_usual x0 h = some (r0, h0)) : Con E d K_X12_usual (ZI E r0 h0) [.int x0] h := by
  obtain ⟨d, rfl⟩ : ∃ d', d = d' + 1 := ⟨d - 1, by omega⟩
  have hd := Nat.le_of_succ_le_succ hd
  refine Con.ofV rfl (Nat.le_of_ble_eq_true rfl) ?_
  unfold f_X12_usual at hf
  show V E (d + 1) K_X12_usual (ZI E r0 h0) h [(0, .int x0)] [] 0
  refine V_iload_n 0 dX12_usual_0 rfl rfl ?_
  by_cases c_1 : x0 = 0
  · have hf := it_s c_1 hf
    refine V_tin (off := 35) (tgt := 36) dX12_usual_1 c_1 (by decide) (by decide) (by decide) (by decide) ?_
    refine V_bipush (v := 40) dX12_usual_36 (by decide) ?_
    exact V_iret rfl (so_s hf) dX12_usual_38
  · have hf := if_s c_1 hf
    by_cases c_2 : x0 = 1
    · have hf := it_s c_2 hf
      refine V_tin (off := 44) (tgt := 45) dX12_usual_1 c_2 (by decide) (by decide) (by decide) (by decide) ?_
      refine V_iconst (v := 1) dX12_usual_45 (by decide) ?_
      exact V_iret rfl (so_s hf) dX12_usual_46
    · have hf := if_s c_2 hf
      by_cases c_3 : x0 = 2
      · have hf := it_s c_3 hf
        refine V_tin (off := 38) (tgt := 39) dX12_usual_1 c_3 (by decide) (by decide) (by decide) (by decide) ?_
        refine V_bipush (v := 50) dX12_usual_39 (by decide) ?_
        exact V_iret rfl (so_s hf) dX12_usual_41
      · have hf := if_s c_3 hf
        by_cases c_4 : x0 = 3
        · have hf := it_s c_4 hf
          refine V_tin (off := 35) (tgt := 36) dX12_usual_1 c_4 (by decide) (by decide) (by decide) (by decide) ?_
          refine V_bipush (v := 40) dX12_usual_36 (by decide) ?_
          exact V_iret rfl (so_s hf) dX12_usual_38
        · have hf := if_s c_4 hf
          by_cases c_5 : x0 = 4
          · have hf := it_s c_5 hf
            refine V_tin (off := 41) (tgt := 42) dX12_usual_1 c_5 (by decide) (by decide) (by decide) (by decide) ?_
            refine V_bipush (v := 10) dX12_usual_42 (by decide) ?_
            exact V_iret rfl (so_s hf) dX12_usual_44
          · have hf := if_s c_5 hf
            have z0 := ne_ti (i := 0) c_1 (by decide)
            have z1 := ne_ti (i := 1) c_2 (by decide)
            have z2 := ne_ti (i := 2) c_3 (by decide)
            have z3 := ne_ti (i := 3) c_4 (by decide)
            have z4 := ne_ti (i := 4) c_5 (by decide)
            refine V_tout (tgt := 45) dX12_usual_1 (by omega) (by decide) ?_
            refine V_iconst (v := 1) dX12_usual_45 (by decide) ?_
            exact V_iret rfl (so_s hf) dX12_usual_46
theorem dX12_placeOf_0 : decode cX12_placeOf 0 = .ok (.iconst 0, 1) := by decide +kernel
theorem dX12_placeOf_1 : decode cX12_placeOf 1 = .ok (.istore_n 2, 1) := by decide +kernel
theorem dX12_placeOf_2 : decode cX12_placeOf 2 = .ok (.iload_n 2, 1) := by decide +kernel
theorem dX12_placeOf_3 : decode cX12_placeOf 3 = .ok (.aload_n 0, 1) := by decide +kernel
theorem dX12_placeOf_4 : decode cX12_placeOf 4 = .ok (.invokevirtual 124, 3) := by decide +kernel
theorem dX12_placeOf_7 : decode cX12_placeOf 7 = .ok (.if_icmp .ge 20, 3) := by decide +kernel
theorem dX12_placeOf_10 : decode cX12_placeOf 10 = .ok (.aload_n 0, 1) := by decide +kernel
theorem dX12_placeOf_11 : decode cX12_placeOf 11 = .ok (.iload_n 2, 1) := by decide +kernel
theorem dX12_placeOf_12 : decode cX12_placeOf 12 = .ok (.invokevirtual 130, 3) := by decide +kernel
theorem dX12_placeOf_15 : decode cX12_placeOf 15 = .ok (.iload_n 1, 1) := by decide +kernel
theorem dX12_placeOf_16 : decode cX12_placeOf 16 = .ok (.if_icmp .ne 5, 3) := by decide +kernel
theorem dX12_placeOf_19 : decode cX12_placeOf 19 = .ok (.iload_n 2, 1) := by decide +kernel
theorem dX12_placeOf_20 : decode cX12_placeOf 20 = .ok (.ireturn, 1) := by decide +kernel
theorem dX12_placeOf_21 : decode cX12_placeOf 21 = .ok (.iinc 2 1, 3) := by decide +kernel
theorem dX12_placeOf_24 : decode cX12_placeOf 24 = .ok (.goto (-22), 3) := by decide +kernel
theorem dX12_placeOf_27 : decode cX12_placeOf 27 = .ok (.iconst (-1), 1) := by decide +kernel
theorem dX12_placeOf_28 : decode cX12_placeOf 28 = .ok (.ireturn, 1) := by decide +kernel
def f_X12_placeOf_2 : Nat → Nat → Int32 → Int32 → AH → Option (Int32 × AH)
  | 0, _, _, _, _ => none
  | n + 1, k0, x1, x2, h =>
    ob (f_J0_length_8abf5 k0 h) fun r_3 h_2 =>
    if r_3 ≤ x2 then (
      some ((-1), h_2)
    ) else (
      ob (f_J0_charAt_5068e k0 x2 h_2) fun r_7 h_6 =>
      if r_7 = x1 then (
        some (x2, h_6)
      ) else (
        nm (x2 + 1) fun x2_9 =>
        f_X12_placeOf_2 n k0 x1 x2_9 h_6
      )
    )
def f_X12_placeOf (k0 : Nat) (x1 : Int32) (h : AH) : Option (Int32 × AH) :=
  f_X12_placeOf_2 FU k0 x1 0 h
set_option maxHeartbeats 4000000 in
set_option maxRecDepth 100000 in
theorem v_X12_placeOf_2 {E : EV} {d : Nat} (hd : 5 ≤ d) {r0 : Int32} {h0 : AH} : ∀ (n : Nat) (k0 : Nat) (x1 : Int32) (x2 : Int32) (h : AH), f_X12_placeOf_2 n k0 x1 x2 h = some (r0, h0) → V E (d + 1) K_X12_placeOf (ZI E r0 h0) h [(0, .ref k0), (1, .int x1), (2, .int x2)] [] 2 := by
  intro n
  induction n with
  | zero =>
    intro k0 x1 x2 h hf
    rw [f_X12_placeOf_2] at hf
    cases hf
  | succ n ih =>
    intro k0 x1 x2 h hf
    rw [f_X12_placeOf_2] at hf
    refine V_iload_n 2 dX12_placeOf_2 rfl rfl ?_
    refine V_aload_n 0 dX12_placeOf_3 rfl rfl ?_
    obtain ⟨r_3, h_2, e_1, hf⟩ := ob_s hf
    refine V_slen (rest := [.int x2]) (Nat.le_trans (Nat.le_of_ble_eq_true rfl) hd) e_1 ml_X12_124 rfl (Nat.le_of_ble_eq_true rfl) dX12_placeOf_4 ?_
    refine V_ic_ge (tgt := 27) dX12_placeOf_7 (by decide) (fun c_4 => ?_) (fun c_4 => ?_)
    · have hf := it_s c_4 hf
      refine V_iconst (v := (-1)) dX12_placeOf_27 (by decide) ?_
      exact V_iret rfl (so_s hf) dX12_placeOf_28
    · have hf := if_s c_4 hf
      refine V_aload_n 0 dX12_placeOf_10 rfl rfl ?_
      refine V_iload_n 2 dX12_placeOf_11 rfl rfl ?_
      obtain ⟨r_7, h_6, e_5, hf⟩ := ob_s hf
      refine V_scha (rest := []) (Nat.le_trans (Nat.le_of_ble_eq_true rfl) hd) e_5 ml_X12_130 rfl (Nat.le_of_ble_eq_true rfl) dX12_placeOf_12 ?_
      refine V_iload_n 1 dX12_placeOf_15 rfl rfl ?_
      refine V_ic_ne (tgt := 21) dX12_placeOf_16 (by decide) (fun c_8 => ?_) (fun c_8 => ?_)
      · have hf := if_s c_8 hf
        obtain ⟨x2_9, e_10, hf⟩ := nm_s hf
        refine V_iinc (a := 1) (L' := [(2, .int x2_9), (0, .ref k0), (1, .int x1)]) 2 dX12_placeOf_21 rfl (by decide) (Nat.le_of_ble_eq_true rfl) e_10 rfl ?_
        refine V_goto (tgt := 2) dX12_placeOf_24 (by decide) ?_
        refine V_sub [1, 2, 0] rfl ?_
        exact ih _ _ _ _ hf
      · have hf := it_s c_8 hf
        refine V_iload_n 2 dX12_placeOf_19 rfl rfl ?_
        exact V_iret rfl (so_s hf) dX12_placeOf_20
set_option maxHeartbeats 4000000 in
set_option maxRecDepth 100000 in
theorem c_X12_placeOf {E : EV} {d : Nat} (hd : 5 + 1 ≤ d) {k0 : Nat} {x1 : Int32} {h : AH} {r0 : Int32} {h0 : AH} (hf : f_X12_placeOf k0 x1 h = some (r0, h0)) : Con E d K_X12_placeOf (ZI E r0 h0) [.ref k0, .int x1] h := by
  obtain ⟨d, rfl⟩ : ∃ d', d = d' + 1 := ⟨d - 1, by omega⟩
  have hd := Nat.le_of_succ_le_succ hd
  refine Con.ofV rfl (Nat.le_of_ble_eq_true rfl) ?_
  unfold f_X12_placeOf at hf
  show V E (d + 1) K_X12_placeOf (ZI E r0 h0) h [(0, .ref k0), (1, .int x1)] [] 0
  refine V_iconst (v := 0) dX12_placeOf_0 (by decide) ?_
  refine V_istore_n (L' := [(2, .int 0), (0, .ref k0), (1, .int x1)]) dX12_placeOf_1 rfl (Nat.le_of_ble_eq_true rfl) rfl rfl ?_
  refine V_sub [1, 2, 0] rfl ?_
  exact v_X12_placeOf_2 hd FU _ _ _ _ hf
theorem dX12_here_0 : decode cX12_here 0 = .ok (.aload_n 0, 1) := by decide +kernel
theorem dX12_here_1 : decode cX12_here 1 = .ok (.getfield 144, 3) := by decide +kernel
theorem dX12_here_4 : decode cX12_here 4 = .ok (.aload_n 0, 1) := by decide +kernel
theorem dX12_here_5 : decode cX12_here 5 = .ok (.getfield 147, 3) := by decide +kernel
theorem dX12_here_8 : decode cX12_here 8 = .ok (.if_icmp .ge 24, 3) := by decide +kernel
theorem dX12_here_11 : decode cX12_here 11 = .ok (.aload_n 0, 1) := by decide +kernel
theorem dX12_here_12 : decode cX12_here 12 = .ok (.getfield 23, 3) := by decide +kernel
theorem dX12_here_15 : decode cX12_here 15 = .ok (.aload_n 0, 1) := by decide +kernel
theorem dX12_here_16 : decode cX12_here 16 = .ok (.getfield 150, 3) := by decide +kernel
theorem dX12_here_19 : decode cX12_here 19 = .ok (.aload_n 0, 1) := by decide +kernel
theorem dX12_here_20 : decode cX12_here 20 = .ok (.getfield 144, 3) := by decide +kernel
theorem dX12_here_23 : decode cX12_here 23 = .ok (.iadd, 1) := by decide +kernel
theorem dX12_here_24 : decode cX12_here 24 = .ok (.baload, 1) := by decide +kernel
theorem dX12_here_25 : decode cX12_here 25 = .ok (.sipush 255, 3) := by decide +kernel
theorem dX12_here_28 : decode cX12_here 28 = .ok (.iand, 1) := by decide +kernel
theorem dX12_here_29 : decode cX12_here 29 = .ok (.goto 4, 3) := by decide +kernel
theorem dX12_here_32 : decode cX12_here 32 = .ok (.iconst (-1), 1) := by decide +kernel
theorem dX12_here_33 : decode cX12_here 33 = .ok (.ireturn, 1) := by decide +kernel
def f_X12_here_33 (s0 : Int32) (h : AH) : Option (Int32 × AH) :=
  some (s0, h)
def f_X12_here (k0 : Nat) (h : AH) : Option (Int32 × AH) :=
  if (h.1 k0 9) ≤ (h.1 k0 10) then (
    f_X12_here_33 (-1) h
  ) else (
    og (decide ((kd (h.2.2 k0)).1 = 3)) <|
    og (ix ((h.1 k0 8) + (h.1 k0 10)) (an (h.2.2 k0))) <|
    f_X12_here_33 ((h.1 (h.2.2 k0) ((h.1 k0 8) + (h.1 k0 10)).toNatClampNeg) &&& 255) h
  )
set_option maxHeartbeats 4000000 in
set_option maxRecDepth 100000 in
theorem v_X12_here_33 {E : EV} {d : Nat} (hd : 0 ≤ d) {r0 : Int32} {h0 : AH} {s0 : Int32} {h : AH} (hf : f_X12_here_33 s0 h = some (r0, h0)) : V E (d + 1) K_X12_here (ZI E r0 h0) h [] [.int s0] 33 := by
  unfold f_X12_here_33 at hf
  exact V_iret rfl (so_s hf) dX12_here_33
set_option maxHeartbeats 4000000 in
set_option maxRecDepth 100000 in
theorem c_X12_here {E : EV} {d : Nat} (hd : 0 + 1 ≤ d) {k0 : Nat} {h : AH} {r0 : Int32} {h0 : AH} (hf : f_X12_here k0 h = some (r0, h0)) (t_k0 : kd k0 = (0, 12)) : Con E d K_X12_here (ZI E r0 h0) [.ref k0] h := by
  obtain ⟨d, rfl⟩ : ∃ d', d = d' + 1 := ⟨d - 1, by omega⟩
  have hd := Nat.le_of_succ_le_succ hd
  refine Con.ofV rfl (Nat.le_of_ble_eq_true rfl) ?_
  unfold f_X12_here at hf
  show V E (d + 1) K_X12_here (ZI E r0 h0) h [(0, .ref k0)] [] 0
  refine V_aload_n 0 dX12_here_0 rfl rfl ?_
  refine V_getI F_X12_144 rfl t_k0 rfl dX12_here_1 ?_
  refine V_aload_n 0 dX12_here_4 rfl rfl ?_
  refine V_getI F_X12_147 rfl t_k0 rfl dX12_here_5 ?_
  refine V_ic_ge (tgt := 32) dX12_here_8 (by decide) (fun c_1 => ?_) (fun c_1 => ?_)
  · have hf := it_s c_1 hf
    refine V_iconst (v := (-1)) dX12_here_32 (by decide) ?_
    refine V_sub [] rfl ?_
    exact v_X12_here_33 hd hf
  · have hf := if_s c_1 hf
    refine V_aload_n 0 dX12_here_11 rfl rfl ?_
    obtain ⟨b_2, hf⟩ := og_s hf
    refine V_getM F_X12_23 rfl t_k0 rfl dX12_here_12 ?_
    refine V_aload_n 0 dX12_here_15 rfl rfl ?_
    refine V_getI F_X12_150 rfl t_k0 rfl dX12_here_16 ?_
    refine V_aload_n 0 dX12_here_19 rfl rfl ?_
    refine V_getI F_X12_144 rfl t_k0 rfl dX12_here_20 ?_
    refine V_iadd dX12_here_23 ?_
    obtain ⟨b_3, hf⟩ := og_s hf
    refine V_bald (of_decide_eq_true b_2) b_3 dX12_here_24 ?_
    refine V_sipush (v := 255) dX12_here_25 (by decide) ?_
    refine V_iand dX12_here_28 ?_
    refine V_goto (tgt := 33) dX12_here_29 (by decide) ?_
    refine V_sub [] rfl ?_
    exact v_X12_here_33 hd hf
theorem dX12_mostOf_0 : decode cX12_mostOf 0 = .ok (.iload_n 0, 1) := by decide +kernel
theorem dX12_mostOf_1 : decode cX12_mostOf 1 = .ok (.ifCond .eq 8, 3) := by decide +kernel
theorem dX12_mostOf_4 : decode cX12_mostOf 4 = .ok (.iload_n 0, 1) := by decide +kernel
theorem dX12_mostOf_5 : decode cX12_mostOf 5 = .ok (.iconst 3, 1) := by decide +kernel
theorem dX12_mostOf_6 : decode cX12_mostOf 6 = .ok (.if_icmp .ne 8, 3) := by decide +kernel
theorem dX12_mostOf_9 : decode cX12_mostOf 9 = .ok (.bipush 50, 2) := by decide +kernel
theorem dX12_mostOf_11 : decode cX12_mostOf 11 = .ok (.goto 20, 3) := by decide +kernel
theorem dX12_mostOf_14 : decode cX12_mostOf 14 = .ok (.iload_n 0, 1) := by decide +kernel
theorem dX12_mostOf_15 : decode cX12_mostOf 15 = .ok (.iconst 2, 1) := by decide +kernel
theorem dX12_mostOf_16 : decode cX12_mostOf 16 = .ok (.if_icmp .eq 8, 3) := by decide +kernel
theorem dX12_mostOf_19 : decode cX12_mostOf 19 = .ok (.iload_n 0, 1) := by decide +kernel
theorem dX12_mostOf_20 : decode cX12_mostOf 20 = .ok (.iconst 4, 1) := by decide +kernel
theorem dX12_mostOf_21 : decode cX12_mostOf 21 = .ok (.if_icmp .ne 8, 3) := by decide +kernel
theorem dX12_mostOf_24 : decode cX12_mostOf 24 = .ok (.bipush 99, 2) := by decide +kernel
theorem dX12_mostOf_26 : decode cX12_mostOf 26 = .ok (.goto 5, 3) := by decide +kernel
theorem dX12_mostOf_29 : decode cX12_mostOf 29 = .ok (.bipush 9, 2) := by decide +kernel
theorem dX12_mostOf_31 : decode cX12_mostOf 31 = .ok (.ireturn, 1) := by decide +kernel
def f_X12_mostOf_31 (s0 : Int32) (h : AH) : Option (Int32 × AH) :=
  some (s0, h)
def f_X12_mostOf_9  (h : AH) : Option (Int32 × AH) :=
  f_X12_mostOf_31 50 h
def f_X12_mostOf_24  (h : AH) : Option (Int32 × AH) :=
  f_X12_mostOf_31 99 h
def f_X12_mostOf (x0 : Int32) (h : AH) : Option (Int32 × AH) :=
  if x0 = 0 then (
    f_X12_mostOf_9 h
  ) else (
    if x0 = 3 then (
      f_X12_mostOf_9 h
    ) else (
      if x0 = 2 then (
        f_X12_mostOf_24 h
      ) else (
        if x0 = 4 then (
          f_X12_mostOf_24 h
        ) else (
          f_X12_mostOf_31 9 h
        )
      )
    )
  )
set_option maxHeartbeats 4000000 in
set_option maxRecDepth 100000 in
theorem v_X12_mostOf_31 {E : EV} {d : Nat} (hd : 0 ≤ d) {r0 : Int32} {h0 : AH} {s0 : Int32} {h : AH} (hf : f_X12_mostOf_31 s0 h = some (r0, h0)) : V E (d + 1) K_X12_mostOf (ZI E r0 h0) h [] [.int s0] 31 := by
  unfold f_X12_mostOf_31 at hf
  exact V_iret rfl (so_s hf) dX12_mostOf_31
set_option maxHeartbeats 4000000 in
set_option maxRecDepth 100000 in
theorem v_X12_mostOf_9 {E : EV} {d : Nat} (hd : 0 ≤ d) {r0 : Int32} {h0 : AH}  {h : AH} (hf : f_X12_mostOf_9 h = some (r0, h0)) : V E (d + 1) K_X12_mostOf (ZI E r0 h0) h [] [] 9 := by
  unfold f_X12_mostOf_9 at hf
  refine V_bipush (v := 50) dX12_mostOf_9 (by decide) ?_
  refine V_goto (tgt := 31) dX12_mostOf_11 (by decide) ?_
  exact v_X12_mostOf_31 hd hf
set_option maxHeartbeats 4000000 in
set_option maxRecDepth 100000 in
theorem v_X12_mostOf_24 {E : EV} {d : Nat} (hd : 0 ≤ d) {r0 : Int32} {h0 : AH}  {h : AH} (hf : f_X12_mostOf_24 h = some (r0, h0)) : V E (d + 1) K_X12_mostOf (ZI E r0 h0) h [] [] 24 := by
  unfold f_X12_mostOf_24 at hf
  refine V_bipush (v := 99) dX12_mostOf_24 (by decide) ?_
  refine V_goto (tgt := 31) dX12_mostOf_26 (by decide) ?_
  exact v_X12_mostOf_31 hd hf
set_option maxHeartbeats 4000000 in
set_option maxRecDepth 100000 in
theorem c_X12_mostOf {E : EV} {d : Nat} (hd : 0 + 1 ≤ d) {x0 : Int32} {h : AH} {r0 : Int32} {h0 : AH} (hf : f_X12_mostOf x0 h = some (r0, h0)) : Con E d K_X12_mostOf (ZI E r0 h0) [.int x0] h := by
  obtain ⟨d, rfl⟩ : ∃ d', d = d' + 1 := ⟨d - 1, by omega⟩
  have hd := Nat.le_of_succ_le_succ hd
  refine Con.ofV rfl (Nat.le_of_ble_eq_true rfl) ?_
  unfold f_X12_mostOf at hf
  show V E (d + 1) K_X12_mostOf (ZI E r0 h0) h [(0, .int x0)] [] 0
  refine V_iload_n 0 dX12_mostOf_0 rfl rfl ?_
  refine V_if_eq (tgt := 9) dX12_mostOf_1 (by decide) (fun c_1 => ?_) (fun c_1 => ?_)
  · have hf := it_s c_1 hf
    refine V_sub [] rfl ?_
    exact v_X12_mostOf_9 hd hf
  · have hf := if_s c_1 hf
    refine V_iload_n 0 dX12_mostOf_4 rfl rfl ?_
    refine V_iconst (v := 3) dX12_mostOf_5 (by decide) ?_
    refine V_ic_ne (tgt := 14) dX12_mostOf_6 (by decide) (fun c_2 => ?_) (fun c_2 => ?_)
    · have hf := if_s c_2 hf
      refine V_iload_n 0 dX12_mostOf_14 rfl rfl ?_
      refine V_iconst (v := 2) dX12_mostOf_15 (by decide) ?_
      refine V_ic_eq (tgt := 24) dX12_mostOf_16 (by decide) (fun c_3 => ?_) (fun c_3 => ?_)
      · have hf := it_s c_3 hf
        refine V_sub [] rfl ?_
        exact v_X12_mostOf_24 hd hf
      · have hf := if_s c_3 hf
        refine V_iload_n 0 dX12_mostOf_19 rfl rfl ?_
        refine V_iconst (v := 4) dX12_mostOf_20 (by decide) ?_
        refine V_ic_ne (tgt := 29) dX12_mostOf_21 (by decide) (fun c_4 => ?_) (fun c_4 => ?_)
        · have hf := if_s c_4 hf
          refine V_bipush (v := 9) dX12_mostOf_29 (by decide) ?_
          refine V_sub [] rfl ?_
          exact v_X12_mostOf_31 hd hf
        · have hf := it_s c_4 hf
          refine V_sub [] rfl ?_
          exact v_X12_mostOf_24 hd hf
    · have hf := it_s c_2 hf
      refine V_sub [] rfl ?_
      exact v_X12_mostOf_9 hd hf
theorem dX12_readItem_0 : decode cX12_readItem 0 = .ok (.aload_n 0, 1) := by decide +kernel
theorem dX12_readItem_1 : decode cX12_readItem 1 = .ok (.invokevirtual 163, 3) := by decide +kernel
theorem dX12_readItem_4 : decode cX12_readItem 4 = .ok (.istore_n 3, 1) := by decide +kernel
theorem dX12_readItem_5 : decode cX12_readItem 5 = .ok (.aload_n 0, 1) := by decide +kernel
theorem dX12_readItem_6 : decode cX12_readItem 6 = .ok (.invokevirtual 193, 3) := by decide +kernel
theorem dX12_readItem_9 : decode cX12_readItem 9 = .ok (.ifCond .ne 9, 3) := by decide +kernel
theorem dX12_readItem_12 : decode cX12_readItem 12 = .ok (.aload_n 0, 1) := by decide +kernel
theorem dX12_readItem_13 : decode cX12_readItem 13 = .ok (.invokevirtual 159, 3) := by decide +kernel
theorem dX12_readItem_16 : decode cX12_readItem 16 = .ok (.pop, 1) := by decide +kernel
theorem dX12_readItem_17 : decode cX12_readItem 17 = .ok (.return_, 1) := by decide +kernel
theorem dX12_readItem_18 : decode cX12_readItem 18 = .ok (.aload_n 0, 1) := by decide +kernel
theorem dX12_readItem_19 : decode cX12_readItem 19 = .ok (.invokevirtual 239, 3) := by decide +kernel
theorem dX12_readItem_22 : decode cX12_readItem 22 = .ok (.bipush 48, 2) := by decide +kernel
theorem dX12_readItem_24 : decode cX12_readItem 24 = .ok (.isub, 1) := by decide +kernel
theorem dX12_readItem_25 : decode cX12_readItem 25 = .ok (.istore 4, 2) := by decide +kernel
theorem dX12_readItem_27 : decode cX12_readItem 27 = .ok (.aload_n 0, 1) := by decide +kernel
theorem dX12_readItem_28 : decode cX12_readItem 28 = .ok (.dup, 1) := by decide +kernel
theorem dX12_readItem_29 : decode cX12_readItem 29 = .ok (.getfield 144, 3) := by decide +kernel
theorem dX12_readItem_32 : decode cX12_readItem 32 = .ok (.iconst 1, 1) := by decide +kernel
theorem dX12_readItem_33 : decode cX12_readItem 33 = .ok (.iadd, 1) := by decide +kernel
theorem dX12_readItem_34 : decode cX12_readItem 34 = .ok (.putfield 144, 3) := by decide +kernel
theorem dX12_readItem_37 : decode cX12_readItem 37 = .ok (.aload_n 0, 1) := by decide +kernel
theorem dX12_readItem_38 : decode cX12_readItem 38 = .ok (.invokevirtual 193, 3) := by decide +kernel
theorem dX12_readItem_41 : decode cX12_readItem 41 = .ok (.ifCond .eq 28, 3) := by decide +kernel
theorem dX12_readItem_44 : decode cX12_readItem 44 = .ok (.bipush 10, 2) := by decide +kernel
theorem dX12_readItem_46 : decode cX12_readItem 46 = .ok (.iload 4, 2) := by decide +kernel
theorem dX12_readItem_48 : decode cX12_readItem 48 = .ok (.imul, 1) := by decide +kernel
theorem dX12_readItem_49 : decode cX12_readItem 49 = .ok (.aload_n 0, 1) := by decide +kernel
theorem dX12_readItem_50 : decode cX12_readItem 50 = .ok (.invokevirtual 239, 3) := by decide +kernel
theorem dX12_readItem_53 : decode cX12_readItem 53 = .ok (.iadd, 1) := by decide +kernel
theorem dX12_readItem_54 : decode cX12_readItem 54 = .ok (.bipush 48, 2) := by decide +kernel
theorem dX12_readItem_56 : decode cX12_readItem 56 = .ok (.isub, 1) := by decide +kernel
theorem dX12_readItem_57 : decode cX12_readItem 57 = .ok (.istore 4, 2) := by decide +kernel
theorem dX12_readItem_59 : decode cX12_readItem 59 = .ok (.aload_n 0, 1) := by decide +kernel
theorem dX12_readItem_60 : decode cX12_readItem 60 = .ok (.dup, 1) := by decide +kernel
theorem dX12_readItem_61 : decode cX12_readItem 61 = .ok (.getfield 144, 3) := by decide +kernel
theorem dX12_readItem_64 : decode cX12_readItem 64 = .ok (.iconst 1, 1) := by decide +kernel
theorem dX12_readItem_65 : decode cX12_readItem 65 = .ok (.iadd, 1) := by decide +kernel
theorem dX12_readItem_66 : decode cX12_readItem 66 = .ok (.putfield 144, 3) := by decide +kernel
theorem dX12_readItem_69 : decode cX12_readItem 69 = .ok (.aload_n 0, 1) := by decide +kernel
theorem dX12_readItem_70 : decode cX12_readItem 70 = .ok (.invokevirtual 193, 3) := by decide +kernel
theorem dX12_readItem_73 : decode cX12_readItem 73 = .ok (.ifCond .eq 9, 3) := by decide +kernel
theorem dX12_readItem_76 : decode cX12_readItem 76 = .ok (.aload_n 0, 1) := by decide +kernel
theorem dX12_readItem_77 : decode cX12_readItem 77 = .ok (.invokevirtual 159, 3) := by decide +kernel
theorem dX12_readItem_80 : decode cX12_readItem 80 = .ok (.pop, 1) := by decide +kernel
theorem dX12_readItem_81 : decode cX12_readItem 81 = .ok (.return_, 1) := by decide +kernel
theorem dX12_readItem_82 : decode cX12_readItem 82 = .ok (.iload 4, 2) := by decide +kernel
theorem dX12_readItem_84 : decode cX12_readItem 84 = .ok (.i2l, 1) := by decide +kernel
theorem dX12_readItem_85 : decode cX12_readItem 85 = .ok (.iload_n 2, 1) := by decide +kernel
theorem dX12_readItem_86 : decode cX12_readItem 86 = .ok (.ifCond .eq 8, 3) := by decide +kernel
theorem dX12_readItem_89 : decode cX12_readItem 89 = .ok (.iload_n 2, 1) := by decide +kernel
theorem dX12_readItem_90 : decode cX12_readItem 90 = .ok (.iconst 3, 1) := by decide +kernel
theorem dX12_readItem_91 : decode cX12_readItem 91 = .ok (.if_icmp .ne 9, 3) := by decide +kernel
theorem dX12_readItem_94 : decode cX12_readItem 94 = .ok (.ldc2_w 242, 3) := by decide +kernel
theorem dX12_readItem_97 : decode cX12_readItem 97 = .ok (.goto 4, 3) := by decide +kernel
theorem dX12_readItem_100 : decode cX12_readItem 100 = .ok (.lconst 0, 1) := by decide +kernel
theorem dX12_readItem_101 : decode cX12_readItem 101 = .ok (.iload_n 2, 1) := by decide +kernel
theorem dX12_readItem_102 : decode cX12_readItem 102 = .ok (.invokestatic 244, 3) := by decide +kernel
theorem dX12_readItem_105 : decode cX12_readItem 105 = .ok (.i2l, 1) := by decide +kernel
theorem dX12_readItem_106 : decode cX12_readItem 106 = .ok (.invokestatic 247, 3) := by decide +kernel
theorem dX12_readItem_109 : decode cX12_readItem 109 = .ok (.ifCond .ne 19, 3) := by decide +kernel
theorem dX12_readItem_112 : decode cX12_readItem 112 = .ok (.aload_n 0, 1) := by decide +kernel
theorem dX12_readItem_113 : decode cX12_readItem 113 = .ok (.dup, 1) := by decide +kernel
theorem dX12_readItem_114 : decode cX12_readItem 114 = .ok (.getfield 144, 3) := by decide +kernel
theorem dX12_readItem_117 : decode cX12_readItem 117 = .ok (.iconst 1, 1) := by decide +kernel
theorem dX12_readItem_118 : decode cX12_readItem 118 = .ok (.isub, 1) := by decide +kernel
theorem dX12_readItem_119 : decode cX12_readItem 119 = .ok (.putfield 144, 3) := by decide +kernel
theorem dX12_readItem_122 : decode cX12_readItem 122 = .ok (.aload_n 0, 1) := by decide +kernel
theorem dX12_readItem_123 : decode cX12_readItem 123 = .ok (.invokevirtual 159, 3) := by decide +kernel
theorem dX12_readItem_126 : decode cX12_readItem 126 = .ok (.pop, 1) := by decide +kernel
theorem dX12_readItem_127 : decode cX12_readItem 127 = .ok (.return_, 1) := by decide +kernel
theorem dX12_readItem_128 : decode cX12_readItem 128 = .ok (.aload_n 0, 1) := by decide +kernel
theorem dX12_readItem_129 : decode cX12_readItem 129 = .ok (.getfield 42, 3) := by decide +kernel
theorem dX12_readItem_132 : decode cX12_readItem 132 = .ok (.iload_n 1, 1) := by decide +kernel
theorem dX12_readItem_133 : decode cX12_readItem 133 = .ok (.iload_n 2, 1) := by decide +kernel
theorem dX12_readItem_134 : decode cX12_readItem 134 = .ok (.iadd, 1) := by decide +kernel
theorem dX12_readItem_135 : decode cX12_readItem 135 = .ok (.iload 4, 2) := by decide +kernel
theorem dX12_readItem_137 : decode cX12_readItem 137 = .ok (.iastore, 1) := by decide +kernel
theorem dX12_readItem_138 : decode cX12_readItem 138 = .ok (.return_, 1) := by decide +kernel
theorem ML_X12_244 : MLk RX12 244 yX12_mostOf := Or.inl ml_X12_244
theorem MS_X12_mostOf : MSk K_X12_mostOf 1 := ⟨⟨cd_X12_mostOf, in_X12, ⟨by decide, by decide, by decide +kernel⟩, by decide⟩, st_X12_mostOf⟩
theorem ML_X12_239 : MLk RX12 239 yX12_here := Or.inl ml_X12_239
theorem MV_X12_here : MVk K_X12_here 0 12 := ⟨⟨cd_X12_here, in_X12, ⟨by decide, by decide, by decide +kernel⟩, by decide⟩, im_X12_here, se_X12_here, _, _, rfl⟩
def f_X12_readItem_101 (k0 : Nat) (x1 : Int32) (x2 : Int32) (x4 : Int32) (sl0 : Int64) (sl1 : Int64) (h : AH) : Option AH :=
  ob (f_X12_mostOf x2 h) fun r_3 h_2 =>
  ob (f_X12_isIn sl1 sl0 ((r_3).toInt64) h_2) fun r_6 h_5 =>
  if r_6 = 0 then (
    nm (sI h_5 k0 10 ((h_5.1 k0 10) - 1)) fun h_11 =>
    ob (f_X12_fails k0 h_11) fun r_15 h_14 =>
    some h_14
  ) else (
    og (ix (x1 + x2) (an (rf k0 19))) <|
    nm (sI h_5 (rf k0 19) (x1 + x2).toNatClampNeg x4) fun h_9 =>
    some h_9
  )
def f_X12_readItem_94 (k0 : Nat) (x1 : Int32) (x2 : Int32) (x4 : Int32) (sl0 : Int64) (h : AH) : Option AH :=
  f_X12_readItem_101 k0 x1 x2 x4 20 sl0 h
def f_X12_readItem_69 (k0 : Nat) (x1 : Int32) (x2 : Int32) (x4 : Int32) (h : AH) : Option AH :=
  ob (f_X12_isDigit k0 h) fun r_3 h_2 =>
  if r_3 = 0 then (
    if x2 = 0 then (
      f_X12_readItem_94 k0 x1 x2 x4 ((x4).toInt64) h_2
    ) else (
      if x2 = 3 then (
        f_X12_readItem_94 k0 x1 x2 x4 ((x4).toInt64) h_2
      ) else (
        f_X12_readItem_101 k0 x1 x2 x4 0 ((x4).toInt64) h_2
      )
    )
  ) else (
    ob (f_X12_fails k0 h_2) fun r_9 h_8 =>
    some h_8
  )
def f_X12_readItem (k0 : Nat) (x1 : Int32) (x2 : Int32) (h : AH) : Option AH :=
  ob (f_X12_look k0 h) fun r_3 h_2 =>
  ob (f_X12_isDigit k0 h_2) fun r_6 h_5 =>
  if r_6 = 0 then (
    ob (f_X12_fails k0 h_5) fun r_28 h_27 =>
    some h_27
  ) else (
    ob (f_X12_here k0 h_5) fun r_10 h_9 =>
    nm ((r_10 - 48)) fun x4_11 =>
    nm (sI h_9 k0 10 ((h_9.1 k0 10) + 1)) fun h_13 =>
    ob (f_X12_isDigit k0 h_13) fun r_17 h_16 =>
    if r_17 = 0 then (
      f_X12_readItem_69 k0 x1 x2 x4_11 h_16
    ) else (
      ob (f_X12_here k0 h_16) fun r_21 h_20 =>
      nm ((((10 * x4_11) + r_21) - 48)) fun x4_22 =>
      nm (sI h_20 k0 10 ((h_20.1 k0 10) + 1)) fun h_24 =>
      f_X12_readItem_69 k0 x1 x2 x4_22 h_24
    )
  )
set_option maxHeartbeats 4000000 in
set_option maxRecDepth 100000 in
theorem v_X12_readItem_101 {E : EV} {d : Nat} (hd : 1 ≤ d) {h0 : AH} {k0 : Nat} {x1 : Int32} {x2 : Int32} {x4 : Int32} {sl0 : Int64} {sl1 : Int64} {h : AH} (hf : f_X12_readItem_101 k0 x1 x2 x4 sl0 sl1 h = some h0) (t_k0 : kd k0 = (0, 12)) : V E (d + 1) K_X12_readItem (ZV E h0) h [(0, .ref k0), (1, .int x1), (2, .int x2), (4, .int x4)] [.long sl0, .long sl1] 101 := by
  unfold f_X12_readItem_101 at hf
  refine V_iload_n 2 dX12_readItem_101 rfl rfl ?_
  obtain ⟨r_3, h_2, e_1, hf⟩ := ob_s hf
  refine V_csi (As := [.int x2]) (rest := [.long sl0, .long sl1]) (c_X12_mostOf (d := d) (Nat.le_trans (Nat.le_of_ble_eq_true rfl) hd) e_1) ML_X12_244 MS_X12_mostOf rfl rfl rfl (Nat.le_of_ble_eq_true rfl) dX12_readItem_102 ?_
  refine V_i2l dX12_readItem_105 ?_
  obtain ⟨r_6, h_5, e_4, hf⟩ := ob_s hf
  refine V_csi (As := [.long sl1, .long sl0, .long ((r_3).toInt64)]) (rest := []) (c_X12_isIn (d := d) (Nat.le_trans (Nat.le_of_ble_eq_true rfl) hd) e_4) ML_X12_247 MS_X12_isIn rfl rfl rfl (Nat.le_of_ble_eq_true rfl) dX12_readItem_106 ?_
  refine V_if_ne (tgt := 128) dX12_readItem_109 (by decide) (fun c_7 => ?_) (fun c_7 => ?_)
  · have hf := if_s c_7 hf
    refine V_aload_n 0 dX12_readItem_128 rfl rfl ?_
    refine V_getR F_X12_42 rfl t_k0 rfl dX12_readItem_129 ?_
    refine V_iload_n 1 dX12_readItem_132 rfl rfl ?_
    refine V_iload_n 2 dX12_readItem_133 rfl rfl ?_
    refine V_iadd dX12_readItem_134 ?_
    refine V_iload 3 dX12_readItem_135 rfl ?_
    obtain ⟨b_8, hf⟩ := og_s hf
    obtain ⟨h_9, e_10, hf⟩ := nm_s hf
    refine V_iast (rfA t_k0 (Nat.le_of_ble_eq_true rfl) rfl rfl (by decide)) b_8 e_10 dX12_readItem_137 ?_
    exact V_vret rfl (so_s hf) dX12_readItem_138
  · have hf := it_s c_7 hf
    refine V_aload_n 0 dX12_readItem_112 rfl rfl ?_
    refine V_dup dX12_readItem_113 rfl ?_
    refine V_getI F_X12_144 rfl t_k0 rfl dX12_readItem_114 ?_
    refine V_iconst (v := 1) dX12_readItem_117 (by decide) ?_
    refine V_isub dX12_readItem_118 ?_
    obtain ⟨h_11, e_12, hf⟩ := nm_s hf
    refine V_putI P_X12_144 rfl t_k0 rfl e_12 dX12_readItem_119 ?_
    refine V_aload_n 0 dX12_readItem_122 rfl rfl ?_
    obtain ⟨r_15, h_14, e_13, hf⟩ := ob_s hf
    refine V_cvi (As := []) (rest := []) (c_X12_fails (d := d) (Nat.le_trans (Nat.le_of_ble_eq_true rfl) hd) e_13 t_k0) ML_X12_159 MV_X12_fails rfl t_k0 rfl rfl (Nat.le_of_ble_eq_true rfl) dX12_readItem_123 ?_
    refine V_pop dX12_readItem_126 rfl ?_
    exact V_vret rfl (so_s hf) dX12_readItem_127
set_option maxHeartbeats 4000000 in
set_option maxRecDepth 100000 in
theorem v_X12_readItem_94 {E : EV} {d : Nat} (hd : 1 ≤ d) {h0 : AH} {k0 : Nat} {x1 : Int32} {x2 : Int32} {x4 : Int32} {sl0 : Int64} {h : AH} (hf : f_X12_readItem_94 k0 x1 x2 x4 sl0 h = some h0) (t_k0 : kd k0 = (0, 12)) : V E (d + 1) K_X12_readItem (ZV E h0) h [(0, .ref k0), (1, .int x1), (2, .int x2), (4, .int x4)] [.long sl0] 94 := by
  unfold f_X12_readItem_94 at hf
  refine V_ldc2 (v := 20) rfl kl_X12_242 dX12_readItem_94 ?_
  refine V_goto (tgt := 101) dX12_readItem_97 (by decide) ?_
  exact v_X12_readItem_101 hd hf t_k0
set_option maxHeartbeats 4000000 in
set_option maxRecDepth 100000 in
theorem v_X12_readItem_69 {E : EV} {d : Nat} (hd : 1 ≤ d) {h0 : AH} {k0 : Nat} {x1 : Int32} {x2 : Int32} {x4 : Int32} {h : AH} (hf : f_X12_readItem_69 k0 x1 x2 x4 h = some h0) (t_k0 : kd k0 = (0, 12)) : V E (d + 1) K_X12_readItem (ZV E h0) h [(0, .ref k0), (1, .int x1), (2, .int x2), (4, .int x4)] [] 69 := by
  unfold f_X12_readItem_69 at hf
  refine V_aload_n 0 dX12_readItem_69 rfl rfl ?_
  obtain ⟨r_3, h_2, e_1, hf⟩ := ob_s hf
  refine V_cvi (As := []) (rest := []) (c_X12_isDigit (d := d) (Nat.le_trans (Nat.le_of_ble_eq_true rfl) hd) e_1 t_k0) ML_X12_193 MV_X12_isDigit rfl t_k0 rfl rfl (Nat.le_of_ble_eq_true rfl) dX12_readItem_70 ?_
  refine V_if_eq (tgt := 82) dX12_readItem_73 (by decide) (fun c_4 => ?_) (fun c_4 => ?_)
  · have hf := it_s c_4 hf
    refine V_iload 3 dX12_readItem_82 rfl ?_
    refine V_i2l dX12_readItem_84 ?_
    refine V_iload_n 2 dX12_readItem_85 rfl rfl ?_
    refine V_if_eq (tgt := 94) dX12_readItem_86 (by decide) (fun c_5 => ?_) (fun c_5 => ?_)
    · have hf := it_s c_5 hf
      exact v_X12_readItem_94 hd hf t_k0
    · have hf := if_s c_5 hf
      refine V_iload_n 2 dX12_readItem_89 rfl rfl ?_
      refine V_iconst (v := 3) dX12_readItem_90 (by decide) ?_
      refine V_ic_ne (tgt := 100) dX12_readItem_91 (by decide) (fun c_6 => ?_) (fun c_6 => ?_)
      · have hf := if_s c_6 hf
        refine V_lconst (v := 0) dX12_readItem_100 (by decide) ?_
        exact v_X12_readItem_101 hd hf t_k0
      · have hf := it_s c_6 hf
        exact v_X12_readItem_94 hd hf t_k0
  · have hf := if_s c_4 hf
    refine V_aload_n 0 dX12_readItem_76 rfl rfl ?_
    obtain ⟨r_9, h_8, e_7, hf⟩ := ob_s hf
    refine V_cvi (As := []) (rest := []) (c_X12_fails (d := d) (Nat.le_trans (Nat.le_of_ble_eq_true rfl) hd) e_7 t_k0) ML_X12_159 MV_X12_fails rfl t_k0 rfl rfl (Nat.le_of_ble_eq_true rfl) dX12_readItem_77 ?_
    refine V_pop dX12_readItem_80 rfl ?_
    exact V_vret rfl (so_s hf) dX12_readItem_81
set_option maxHeartbeats 4000000 in
set_option maxRecDepth 100000 in
theorem c_X12_readItem {E : EV} {d : Nat} (hd : 1 + 1 ≤ d) {k0 : Nat} {x1 : Int32} {x2 : Int32} {h : AH} {h0 : AH} (hf : f_X12_readItem k0 x1 x2 h = some h0) (t_k0 : kd k0 = (0, 12)) : Con E d K_X12_readItem (ZV E h0) [.ref k0, .int x1, .int x2] h := by
  obtain ⟨d, rfl⟩ : ∃ d', d = d' + 1 := ⟨d - 1, by omega⟩
  have hd := Nat.le_of_succ_le_succ hd
  refine Con.ofV rfl (Nat.le_of_ble_eq_true rfl) ?_
  unfold f_X12_readItem at hf
  show V E (d + 1) K_X12_readItem (ZV E h0) h [(0, .ref k0), (1, .int x1), (2, .int x2)] [] 0
  refine V_aload_n 0 dX12_readItem_0 rfl rfl ?_
  obtain ⟨r_3, h_2, e_1, hf⟩ := ob_s hf
  refine V_cvi (As := []) (rest := []) (c_X12_look (d := d) (Nat.le_trans (Nat.le_of_ble_eq_true rfl) hd) e_1 t_k0) ML_X12_163 MV_X12_look rfl t_k0 rfl rfl (Nat.le_of_ble_eq_true rfl) dX12_readItem_1 ?_
  refine V_istore_n (L' := [(3, .int r_3), (0, .ref k0), (1, .int x1), (2, .int x2)]) dX12_readItem_4 rfl (Nat.le_of_ble_eq_true rfl) rfl rfl ?_
  refine V_aload_n 1 dX12_readItem_5 rfl rfl ?_
  obtain ⟨r_6, h_5, e_4, hf⟩ := ob_s hf
  refine V_cvi (As := []) (rest := []) (c_X12_isDigit (d := d) (Nat.le_trans (Nat.le_of_ble_eq_true rfl) hd) e_4 t_k0) ML_X12_193 MV_X12_isDigit rfl t_k0 rfl rfl (Nat.le_of_ble_eq_true rfl) dX12_readItem_6 ?_
  refine V_if_ne (tgt := 18) dX12_readItem_9 (by decide) (fun c_7 => ?_) (fun c_7 => ?_)
  · have hf := if_s c_7 hf
    refine V_aload_n 1 dX12_readItem_18 rfl rfl ?_
    obtain ⟨r_10, h_9, e_8, hf⟩ := ob_s hf
    refine V_cvi (As := []) (rest := []) (c_X12_here (d := d) (Nat.le_trans (Nat.le_of_ble_eq_true rfl) hd) e_8 t_k0) ML_X12_239 MV_X12_here rfl t_k0 rfl rfl (Nat.le_of_ble_eq_true rfl) dX12_readItem_19 ?_
    refine V_bipush (v := 48) dX12_readItem_22 (by decide) ?_
    refine V_isub dX12_readItem_24 ?_
    obtain ⟨x4_11, e_12, hf⟩ := nm_s hf
    refine V_istore (L' := [(4, .int x4_11), (3, .int r_3), (0, .ref k0), (1, .int x1), (2, .int x2)]) dX12_readItem_25 (Nat.le_of_ble_eq_true rfl) e_12 rfl ?_
    refine V_aload_n 2 dX12_readItem_27 rfl rfl ?_
    refine V_dup dX12_readItem_28 rfl ?_
    refine V_getI F_X12_144 rfl t_k0 rfl dX12_readItem_29 ?_
    refine V_iconst (v := 1) dX12_readItem_32 (by decide) ?_
    refine V_iadd dX12_readItem_33 ?_
    obtain ⟨h_13, e_14, hf⟩ := nm_s hf
    refine V_putI P_X12_144 rfl t_k0 rfl e_14 dX12_readItem_34 ?_
    refine V_aload_n 2 dX12_readItem_37 rfl rfl ?_
    obtain ⟨r_17, h_16, e_15, hf⟩ := ob_s hf
    refine V_cvi (As := []) (rest := []) (c_X12_isDigit (d := d) (Nat.le_trans (Nat.le_of_ble_eq_true rfl) hd) e_15 t_k0) ML_X12_193 MV_X12_isDigit rfl t_k0 rfl rfl (Nat.le_of_ble_eq_true rfl) dX12_readItem_38 ?_
    refine V_if_eq (tgt := 69) dX12_readItem_41 (by decide) (fun c_18 => ?_) (fun c_18 => ?_)
    · have hf := it_s c_18 hf
      refine V_sub [2, 3, 4, 0] rfl ?_
      exact v_X12_readItem_69 hd hf t_k0
    · have hf := if_s c_18 hf
      refine V_bipush (v := 10) dX12_readItem_44 (by decide) ?_
      refine V_iload 0 dX12_readItem_46 rfl ?_
      refine V_imul dX12_readItem_48 ?_
      refine V_aload_n 2 dX12_readItem_49 rfl rfl ?_
      obtain ⟨r_21, h_20, e_19, hf⟩ := ob_s hf
      refine V_cvi (As := []) (rest := [.int (10 * x4_11)]) (c_X12_here (d := d) (Nat.le_trans (Nat.le_of_ble_eq_true rfl) hd) e_19 t_k0) ML_X12_239 MV_X12_here rfl t_k0 rfl rfl (Nat.le_of_ble_eq_true rfl) dX12_readItem_50 ?_
      refine V_iadd dX12_readItem_53 ?_
      refine V_bipush (v := 48) dX12_readItem_54 (by decide) ?_
      refine V_isub dX12_readItem_56 ?_
      obtain ⟨x4_22, e_23, hf⟩ := nm_s hf
      refine V_istore (L' := [(4, .int x4_22), (3, .int r_3), (0, .ref k0), (1, .int x1), (2, .int x2)]) dX12_readItem_57 (Nat.le_of_ble_eq_true rfl) e_23 rfl ?_
      refine V_aload_n 2 dX12_readItem_59 rfl rfl ?_
      refine V_dup dX12_readItem_60 rfl ?_
      refine V_getI F_X12_144 rfl t_k0 rfl dX12_readItem_61 ?_
      refine V_iconst (v := 1) dX12_readItem_64 (by decide) ?_
      refine V_iadd dX12_readItem_65 ?_
      obtain ⟨h_24, e_25, hf⟩ := nm_s hf
      refine V_putI P_X12_144 rfl t_k0 rfl e_25 dX12_readItem_66 ?_
      refine V_sub [2, 3, 4, 0] rfl ?_
      exact v_X12_readItem_69 hd hf t_k0
  · have hf := it_s c_7 hf
    refine V_aload_n 1 dX12_readItem_12 rfl rfl ?_
    obtain ⟨r_28, h_27, e_26, hf⟩ := ob_s hf
    refine V_cvi (As := []) (rest := []) (c_X12_fails (d := d) (Nat.le_trans (Nat.le_of_ble_eq_true rfl) hd) e_26 t_k0) ML_X12_159 MV_X12_fails rfl t_k0 rfl rfl (Nat.le_of_ble_eq_true rfl) dX12_readItem_13 ?_
    refine V_pop dX12_readItem_16 rfl ?_
    exact V_vret rfl (so_s hf) dX12_readItem_17
theorem dX12_readPerson_0 : decode cX12_readPerson 0 = .ok (.bipush 7, 2) := by decide +kernel
theorem dX12_readPerson_2 : decode cX12_readPerson 2 = .ok (.bipush 6, 2) := by decide +kernel
theorem dX12_readPerson_4 : decode cX12_readPerson 4 = .ok (.iload_n 1, 1) := by decide +kernel
theorem dX12_readPerson_5 : decode cX12_readPerson 5 = .ok (.iadd, 1) := by decide +kernel
theorem dX12_readPerson_6 : decode cX12_readPerson 6 = .ok (.imul, 1) := by decide +kernel
theorem dX12_readPerson_7 : decode cX12_readPerson 7 = .ok (.istore_n 2, 1) := by decide +kernel
theorem dX12_readPerson_8 : decode cX12_readPerson 8 = .ok (.iconst 0, 1) := by decide +kernel
theorem dX12_readPerson_9 : decode cX12_readPerson 9 = .ok (.istore_n 3, 1) := by decide +kernel
theorem dX12_readPerson_10 : decode cX12_readPerson 10 = .ok (.iload_n 3, 1) := by decide +kernel
theorem dX12_readPerson_11 : decode cX12_readPerson 11 = .ok (.bipush 7, 2) := by decide +kernel
theorem dX12_readPerson_13 : decode cX12_readPerson 13 = .ok (.if_icmp .ge 21, 3) := by decide +kernel
theorem dX12_readPerson_16 : decode cX12_readPerson 16 = .ok (.aload_n 0, 1) := by decide +kernel
theorem dX12_readPerson_17 : decode cX12_readPerson 17 = .ok (.getfield 42, 3) := by decide +kernel
theorem dX12_readPerson_20 : decode cX12_readPerson 20 = .ok (.iload_n 2, 1) := by decide +kernel
theorem dX12_readPerson_21 : decode cX12_readPerson 21 = .ok (.iload_n 3, 1) := by decide +kernel
theorem dX12_readPerson_22 : decode cX12_readPerson 22 = .ok (.iadd, 1) := by decide +kernel
theorem dX12_readPerson_23 : decode cX12_readPerson 23 = .ok (.iload_n 3, 1) := by decide +kernel
theorem dX12_readPerson_24 : decode cX12_readPerson 24 = .ok (.invokestatic 251, 3) := by decide +kernel
theorem dX12_readPerson_27 : decode cX12_readPerson 27 = .ok (.iastore, 1) := by decide +kernel
theorem dX12_readPerson_28 : decode cX12_readPerson 28 = .ok (.iinc 3 1, 3) := by decide +kernel
theorem dX12_readPerson_31 : decode cX12_readPerson 31 = .ok (.goto (-21), 3) := by decide +kernel
theorem dX12_readPerson_34 : decode cX12_readPerson 34 = .ok (.aload_n 0, 1) := by decide +kernel
theorem dX12_readPerson_35 : decode cX12_readPerson 35 = .ok (.bipush 112, 2) := by decide +kernel
theorem dX12_readPerson_37 : decode cX12_readPerson 37 = .ok (.invokevirtual 189, 3) := by decide +kernel
theorem dX12_readPerson_40 : decode cX12_readPerson 40 = .ok (.ifCond .ne 4, 3) := by decide +kernel
theorem dX12_readPerson_43 : decode cX12_readPerson 43 = .ok (.return_, 1) := by decide +kernel
theorem dX12_readPerson_44 : decode cX12_readPerson 44 = .ok (.iconst 0, 1) := by decide +kernel
theorem dX12_readPerson_45 : decode cX12_readPerson 45 = .ok (.istore_n 3, 1) := by decide +kernel
theorem dX12_readPerson_46 : decode cX12_readPerson 46 = .ok (.ldc 37, 2) := by decide +kernel
theorem dX12_readPerson_48 : decode cX12_readPerson 48 = .ok (.aload_n 0, 1) := by decide +kernel
theorem dX12_readPerson_49 : decode cX12_readPerson 49 = .ok (.invokevirtual 163, 3) := by decide +kernel
theorem dX12_readPerson_52 : decode cX12_readPerson 52 = .ok (.invokestatic 254, 3) := by decide +kernel
theorem dX12_readPerson_55 : decode cX12_readPerson 55 = .ok (.istore 4, 2) := by decide +kernel
theorem dX12_readPerson_57 : decode cX12_readPerson 57 = .ok (.iload 4, 2) := by decide +kernel
theorem dX12_readPerson_59 : decode cX12_readPerson 59 = .ok (.iconst (-1), 1) := by decide +kernel
theorem dX12_readPerson_60 : decode cX12_readPerson 60 = .ok (.if_icmp .eq 65, 3) := by decide +kernel
theorem dX12_readPerson_63 : decode cX12_readPerson 63 = .ok (.iload_n 3, 1) := by decide +kernel
theorem dX12_readPerson_64 : decode cX12_readPerson 64 = .ok (.iload 4, 2) := by decide +kernel
theorem dX12_readPerson_66 : decode cX12_readPerson 66 = .ok (.invokestatic 258, 3) := by decide +kernel
theorem dX12_readPerson_69 : decode cX12_readPerson 69 = .ok (.ifCond .eq 9, 3) := by decide +kernel
theorem dX12_readPerson_72 : decode cX12_readPerson 72 = .ok (.aload_n 0, 1) := by decide +kernel
theorem dX12_readPerson_73 : decode cX12_readPerson 73 = .ok (.invokevirtual 159, 3) := by decide +kernel
theorem dX12_readPerson_76 : decode cX12_readPerson 76 = .ok (.pop, 1) := by decide +kernel
theorem dX12_readPerson_77 : decode cX12_readPerson 77 = .ok (.return_, 1) := by decide +kernel
theorem dX12_readPerson_78 : decode cX12_readPerson 78 = .ok (.iload_n 3, 1) := by decide +kernel
theorem dX12_readPerson_79 : decode cX12_readPerson 79 = .ok (.iconst 1, 1) := by decide +kernel
theorem dX12_readPerson_80 : decode cX12_readPerson 80 = .ok (.iload 4, 2) := by decide +kernel
theorem dX12_readPerson_82 : decode cX12_readPerson 82 = .ok (.ishl, 1) := by decide +kernel
theorem dX12_readPerson_83 : decode cX12_readPerson 83 = .ok (.ior, 1) := by decide +kernel
theorem dX12_readPerson_84 : decode cX12_readPerson 84 = .ok (.istore_n 3, 1) := by decide +kernel
theorem dX12_readPerson_85 : decode cX12_readPerson 85 = .ok (.aload_n 0, 1) := by decide +kernel
theorem dX12_readPerson_86 : decode cX12_readPerson 86 = .ok (.dup, 1) := by decide +kernel
theorem dX12_readPerson_87 : decode cX12_readPerson 87 = .ok (.getfield 144, 3) := by decide +kernel
theorem dX12_readPerson_90 : decode cX12_readPerson 90 = .ok (.iconst 1, 1) := by decide +kernel
theorem dX12_readPerson_91 : decode cX12_readPerson 91 = .ok (.iadd, 1) := by decide +kernel
theorem dX12_readPerson_92 : decode cX12_readPerson 92 = .ok (.putfield 144, 3) := by decide +kernel
theorem dX12_readPerson_95 : decode cX12_readPerson 95 = .ok (.aload_n 0, 1) := by decide +kernel
theorem dX12_readPerson_96 : decode cX12_readPerson 96 = .ok (.iload_n 2, 1) := by decide +kernel
theorem dX12_readPerson_97 : decode cX12_readPerson 97 = .ok (.iload 4, 2) := by decide +kernel
theorem dX12_readPerson_99 : decode cX12_readPerson 99 = .ok (.invokevirtual 262, 3) := by decide +kernel
theorem dX12_readPerson_102 : decode cX12_readPerson 102 = .ok (.aload_n 0, 1) := by decide +kernel
theorem dX12_readPerson_103 : decode cX12_readPerson 103 = .ok (.getfield 153, 3) := by decide +kernel
theorem dX12_readPerson_106 : decode cX12_readPerson 106 = .ok (.iconst (-1), 1) := by decide +kernel
theorem dX12_readPerson_107 : decode cX12_readPerson 107 = .ok (.if_icmp .eq 4, 3) := by decide +kernel
theorem dX12_readPerson_110 : decode cX12_readPerson 110 = .ok (.return_, 1) := by decide +kernel
theorem dX12_readPerson_111 : decode cX12_readPerson 111 = .ok (.ldc 37, 2) := by decide +kernel
theorem dX12_readPerson_113 : decode cX12_readPerson 113 = .ok (.aload_n 0, 1) := by decide +kernel
theorem dX12_readPerson_114 : decode cX12_readPerson 114 = .ok (.invokevirtual 163, 3) := by decide +kernel
theorem dX12_readPerson_117 : decode cX12_readPerson 117 = .ok (.invokestatic 254, 3) := by decide +kernel
theorem dX12_readPerson_120 : decode cX12_readPerson 120 = .ok (.istore 4, 2) := by decide +kernel
theorem dX12_readPerson_122 : decode cX12_readPerson 122 = .ok (.goto (-65), 3) := by decide +kernel
theorem dX12_readPerson_125 : decode cX12_readPerson 125 = .ok (.return_, 1) := by decide +kernel
theorem ML_X12_262 : MLk RX12 262 yX12_readItem := Or.inl ml_X12_262
theorem MV_X12_readItem : MVk K_X12_readItem 2 12 := ⟨⟨cd_X12_readItem, in_X12, ⟨by decide, by decide, by decide +kernel⟩, by decide⟩, im_X12_readItem, se_X12_readItem, _, _, rfl⟩
theorem ML_X12_254 : MLk RX12 254 yX12_placeOf := Or.inl ml_X12_254
theorem MS_X12_placeOf : MSk K_X12_placeOf 2 := ⟨⟨cd_X12_placeOf, in_X12, ⟨by decide, by decide, by decide +kernel⟩, by decide⟩, st_X12_placeOf⟩
theorem ML_X12_251 : MLk RX12 251 yX12_usual := Or.inl ml_X12_251
theorem MS_X12_usual : MSk K_X12_usual 1 := ⟨⟨cd_X12_usual, in_X12, ⟨by decide, by decide, by decide +kernel⟩, by decide⟩, st_X12_usual⟩
def f_X12_readPerson_57 : Nat → Nat → Int32 → Int32 → Int32 → AH → Option AH
  | 0, _, _, _, _, _ => none
  | n + 1, k0, x2, x3, x4, h =>
    if x4 = (-1) then (
      some h
    ) else (
      ob (f_X12_has x3 x4 h) fun r_4 h_3 =>
      if r_4 = 0 then (
        nm ((x3 ||| ((1 : Int32) <<< (x4 &&& 31)))) fun x3_6 =>
        nm (sI h_3 k0 10 ((h_3.1 k0 10) + 1)) fun h_8 =>
        ov (f_X12_readItem k0 x2 x4 h_8) fun h_11 =>
        if (h_11.1 k0 11) = (-1) then (
          ob (f_X12_look k0 h_11) fun r_15 h_14 =>
          ob (f_X12_placeOf 1000 r_15 h_14) fun r_18 h_17 =>
          f_X12_readPerson_57 n k0 x2 x3_6 r_18 h_17
        ) else (
          some h_11
        )
      ) else (
        ob (f_X12_fails k0 h_3) fun r_21 h_20 =>
        some h_20
      )
    )
def f_X12_readPerson_10 : Nat → Nat → Int32 → Int32 → AH → Option AH
  | 0, _, _, _, _ => none
  | n + 1, k0, x2, x3, h =>
    if 7 ≤ x3 then (
      ob (f_X12_takes k0 112 h) fun r_4 h_3 =>
      if r_4 = 0 then (
        some h_3
      ) else (
        ob (f_X12_look k0 h_3) fun r_8 h_7 =>
        ob (f_X12_placeOf 1000 r_8 h_7) fun r_11 h_10 =>
        f_X12_readPerson_57 FU k0 x2 0 r_11 h_10
      )
    ) else (
      ob (f_X12_usual x3 h) fun r_14 h_13 =>
      og (ix (x2 + x3) (an (rf k0 19))) <|
      nm (sI h_13 (rf k0 19) (x2 + x3).toNatClampNeg r_14) fun h_16 =>
      nm (x3 + 1) fun x3_18 =>
      f_X12_readPerson_10 n k0 x2 x3_18 h_16
    )
def f_X12_readPerson (k0 : Nat) (x1 : Int32) (h : AH) : Option AH :=
  nm ((7 * (6 + x1))) fun x2_1 =>
  f_X12_readPerson_10 FU k0 x2_1 0 h
set_option maxHeartbeats 4000000 in
set_option maxRecDepth 100000 in
theorem v_X12_readPerson_57 {E : EV} {d : Nat} (hd : 6 ≤ d) {h0 : AH} : ∀ (n : Nat) (k0 : Nat) (x2 : Int32) (x3 : Int32) (x4 : Int32) (h : AH), f_X12_readPerson_57 n k0 x2 x3 x4 h = some h0 → kd k0 = (0, 12) → V E (d + 1) K_X12_readPerson (ZV E h0) h [(0, .ref k0), (2, .int x2), (3, .int x3), (4, .int x4)] [] 57 := by
  intro n
  induction n with
  | zero =>
    intro k0 x2 x3 x4 h hf
    rw [f_X12_readPerson_57] at hf
    cases hf
  | succ n ih =>
    intro k0 x2 x3 x4 h hf t_k0
    rw [f_X12_readPerson_57] at hf
    refine V_iload 3 dX12_readPerson_57 rfl ?_
    refine V_iconst (v := (-1)) dX12_readPerson_59 (by decide) ?_
    refine V_ic_eq (tgt := 125) dX12_readPerson_60 (by decide) (fun c_1 => ?_) (fun c_1 => ?_)
    · have hf := it_s c_1 hf
      exact V_vret rfl (so_s hf) dX12_readPerson_125
    · have hf := if_s c_1 hf
      refine V_iload_n 2 dX12_readPerson_63 rfl rfl ?_
      refine V_iload 3 dX12_readPerson_64 rfl ?_
      obtain ⟨r_4, h_3, e_2, hf⟩ := ob_s hf
      refine V_csi (As := [.int x3, .int x4]) (rest := []) (c_X12_has (d := d) (Nat.le_trans (Nat.le_of_ble_eq_true rfl) hd) e_2) ML_X12_258 MS_X12_has rfl rfl rfl (Nat.le_of_ble_eq_true rfl) dX12_readPerson_66 ?_
      refine V_if_eq (tgt := 78) dX12_readPerson_69 (by decide) (fun c_5 => ?_) (fun c_5 => ?_)
      · have hf := it_s c_5 hf
        refine V_iload_n 2 dX12_readPerson_78 rfl rfl ?_
        refine V_iconst (v := 1) dX12_readPerson_79 (by decide) ?_
        refine V_iload 3 dX12_readPerson_80 rfl ?_
        refine V_ishl dX12_readPerson_82 ?_
        refine V_ior dX12_readPerson_83 ?_
        obtain ⟨x3_6, e_7, hf⟩ := nm_s hf
        refine V_istore_n (L' := [(3, .int x3_6), (0, .ref k0), (2, .int x2), (4, .int x4)]) dX12_readPerson_84 rfl (Nat.le_of_ble_eq_true rfl) e_7 rfl ?_
        refine V_aload_n 1 dX12_readPerson_85 rfl rfl ?_
        refine V_dup dX12_readPerson_86 rfl ?_
        refine V_getI F_X12_144 rfl t_k0 rfl dX12_readPerson_87 ?_
        refine V_iconst (v := 1) dX12_readPerson_90 (by decide) ?_
        refine V_iadd dX12_readPerson_91 ?_
        obtain ⟨h_8, e_9, hf⟩ := nm_s hf
        refine V_putI P_X12_144 rfl t_k0 rfl e_9 dX12_readPerson_92 ?_
        refine V_aload_n 1 dX12_readPerson_95 rfl rfl ?_
        refine V_iload_n 2 dX12_readPerson_96 rfl rfl ?_
        refine V_iload 3 dX12_readPerson_97 rfl ?_
        obtain ⟨h_11, e_10, hf⟩ := ov_s hf
        refine V_cvv (As := [.int x2, .int x4]) (rest := []) (c_X12_readItem (d := d) (Nat.le_trans (Nat.le_of_ble_eq_true rfl) hd) e_10 t_k0) ML_X12_262 MV_X12_readItem rfl t_k0 rfl rfl (Nat.le_of_ble_eq_true rfl) dX12_readPerson_99 ?_
        refine V_aload_n 1 dX12_readPerson_102 rfl rfl ?_
        refine V_getI F_X12_153 rfl t_k0 rfl dX12_readPerson_103 ?_
        refine V_iconst (v := (-1)) dX12_readPerson_106 (by decide) ?_
        refine V_ic_eq (tgt := 111) dX12_readPerson_107 (by decide) (fun c_12 => ?_) (fun c_12 => ?_)
        · have hf := it_s c_12 hf
          refine V_ldcS (a := 1000) (List.mem_of_getElem? (i := 5) rfl) rfl dX12_readPerson_111 ?_
          refine V_aload_n 1 dX12_readPerson_113 rfl rfl ?_
          obtain ⟨r_15, h_14, e_13, hf⟩ := ob_s hf
          refine V_cvi (As := []) (rest := [.ref 1000]) (c_X12_look (d := d) (Nat.le_trans (Nat.le_of_ble_eq_true rfl) hd) e_13 t_k0) ML_X12_163 MV_X12_look rfl t_k0 rfl rfl (Nat.le_of_ble_eq_true rfl) dX12_readPerson_114 ?_
          obtain ⟨r_18, h_17, e_16, hf⟩ := ob_s hf
          refine V_csi (As := [.ref 1000, .int r_15]) (rest := []) (c_X12_placeOf (d := d) (Nat.le_trans (Nat.le_of_ble_eq_true rfl) hd) e_16) ML_X12_254 MS_X12_placeOf rfl rfl rfl (Nat.le_of_ble_eq_true rfl) dX12_readPerson_117 ?_
          refine V_istore (L' := [(4, .int r_18), (3, .int x3_6), (0, .ref k0), (2, .int x2)]) dX12_readPerson_120 (Nat.le_of_ble_eq_true rfl) rfl rfl ?_
          refine V_goto (tgt := 57) dX12_readPerson_122 (by decide) ?_
          refine V_sub [2, 3, 1, 0] rfl ?_
          exact ih _ _ _ _ _ hf t_k0
        · have hf := if_s c_12 hf
          exact V_vret rfl (so_s hf) dX12_readPerson_110
      · have hf := if_s c_5 hf
        refine V_aload_n 0 dX12_readPerson_72 rfl rfl ?_
        obtain ⟨r_21, h_20, e_19, hf⟩ := ob_s hf
        refine V_cvi (As := []) (rest := []) (c_X12_fails (d := d) (Nat.le_trans (Nat.le_of_ble_eq_true rfl) hd) e_19 t_k0) ML_X12_159 MV_X12_fails rfl t_k0 rfl rfl (Nat.le_of_ble_eq_true rfl) dX12_readPerson_73 ?_
        refine V_pop dX12_readPerson_76 rfl ?_
        exact V_vret rfl (so_s hf) dX12_readPerson_77
set_option maxHeartbeats 4000000 in
set_option maxRecDepth 100000 in
theorem v_X12_readPerson_10 {E : EV} {d : Nat} (hd : 6 ≤ d) {h0 : AH} : ∀ (n : Nat) (k0 : Nat) (x2 : Int32) (x3 : Int32) (h : AH), f_X12_readPerson_10 n k0 x2 x3 h = some h0 → kd k0 = (0, 12) → V E (d + 1) K_X12_readPerson (ZV E h0) h [(0, .ref k0), (2, .int x2), (3, .int x3)] [] 10 := by
  intro n
  induction n with
  | zero =>
    intro k0 x2 x3 h hf
    rw [f_X12_readPerson_10] at hf
    cases hf
  | succ n ih =>
    intro k0 x2 x3 h hf t_k0
    rw [f_X12_readPerson_10] at hf
    refine V_iload_n 2 dX12_readPerson_10 rfl rfl ?_
    refine V_bipush (v := 7) dX12_readPerson_11 (by decide) ?_
    refine V_ic_ge (tgt := 34) dX12_readPerson_13 (by decide) (fun c_1 => ?_) (fun c_1 => ?_)
    · have hf := it_s c_1 hf
      refine V_aload_n 0 dX12_readPerson_34 rfl rfl ?_
      refine V_bipush (v := 112) dX12_readPerson_35 (by decide) ?_
      obtain ⟨r_4, h_3, e_2, hf⟩ := ob_s hf
      refine V_cvi (As := [.int 112]) (rest := []) (c_X12_takes (d := d) (Nat.le_trans (Nat.le_of_ble_eq_true rfl) hd) e_2 t_k0) ML_X12_189 MV_X12_takes rfl t_k0 rfl rfl (Nat.le_of_ble_eq_true rfl) dX12_readPerson_37 ?_
      refine V_if_ne (tgt := 44) dX12_readPerson_40 (by decide) (fun c_5 => ?_) (fun c_5 => ?_)
      · have hf := if_s c_5 hf
        refine V_iconst (v := 0) dX12_readPerson_44 (by decide) ?_
        refine V_istore_n (L' := [(3, .int 0), (0, .ref k0), (2, .int x2)]) dX12_readPerson_45 rfl (Nat.le_of_ble_eq_true rfl) rfl rfl ?_
        refine V_ldcS (a := 1000) (List.mem_of_getElem? (i := 5) rfl) rfl dX12_readPerson_46 ?_
        refine V_aload_n 1 dX12_readPerson_48 rfl rfl ?_
        obtain ⟨r_8, h_7, e_6, hf⟩ := ob_s hf
        refine V_cvi (As := []) (rest := [.ref 1000]) (c_X12_look (d := d) (Nat.le_trans (Nat.le_of_ble_eq_true rfl) hd) e_6 t_k0) ML_X12_163 MV_X12_look rfl t_k0 rfl rfl (Nat.le_of_ble_eq_true rfl) dX12_readPerson_49 ?_
        obtain ⟨r_11, h_10, e_9, hf⟩ := ob_s hf
        refine V_csi (As := [.ref 1000, .int r_8]) (rest := []) (c_X12_placeOf (d := d) (Nat.le_trans (Nat.le_of_ble_eq_true rfl) hd) e_9) ML_X12_254 MS_X12_placeOf rfl rfl rfl (Nat.le_of_ble_eq_true rfl) dX12_readPerson_52 ?_
        refine V_istore (L' := [(4, .int r_11), (3, .int 0), (0, .ref k0), (2, .int x2)]) dX12_readPerson_55 (Nat.le_of_ble_eq_true rfl) rfl rfl ?_
        refine V_sub [2, 3, 1, 0] rfl ?_
        exact v_X12_readPerson_57 hd FU _ _ _ _ _ hf t_k0
      · have hf := it_s c_5 hf
        exact V_vret rfl (so_s hf) dX12_readPerson_43
    · have hf := if_s c_1 hf
      refine V_aload_n 0 dX12_readPerson_16 rfl rfl ?_
      refine V_getR F_X12_42 rfl t_k0 rfl dX12_readPerson_17 ?_
      refine V_iload_n 1 dX12_readPerson_20 rfl rfl ?_
      refine V_iload_n 2 dX12_readPerson_21 rfl rfl ?_
      refine V_iadd dX12_readPerson_22 ?_
      refine V_iload_n 2 dX12_readPerson_23 rfl rfl ?_
      obtain ⟨r_14, h_13, e_12, hf⟩ := ob_s hf
      refine V_csi (As := [.int x3]) (rest := [.int (x2 + x3), .ref (rf k0 19)]) (c_X12_usual (d := d) (Nat.le_trans (Nat.le_of_ble_eq_true rfl) hd) e_12) ML_X12_251 MS_X12_usual rfl rfl rfl (Nat.le_of_ble_eq_true rfl) dX12_readPerson_24 ?_
      obtain ⟨b_15, hf⟩ := og_s hf
      obtain ⟨h_16, e_17, hf⟩ := nm_s hf
      refine V_iast (rfA t_k0 (Nat.le_of_ble_eq_true rfl) rfl rfl (by decide)) b_15 e_17 dX12_readPerson_27 ?_
      obtain ⟨x3_18, e_19, hf⟩ := nm_s hf
      refine V_iinc (a := 1) (L' := [(3, .int x3_18), (0, .ref k0), (2, .int x2)]) 2 dX12_readPerson_28 rfl (by decide) (Nat.le_of_ble_eq_true rfl) e_19 rfl ?_
      refine V_goto (tgt := 10) dX12_readPerson_31 (by decide) ?_
      refine V_sub [1, 2, 0] rfl ?_
      exact ih _ _ _ _ hf t_k0
set_option maxHeartbeats 4000000 in
set_option maxRecDepth 100000 in
theorem c_X12_readPerson {E : EV} {d : Nat} (hd : 6 + 1 ≤ d) {k0 : Nat} {x1 : Int32} {h : AH} {h0 : AH} (hf : f_X12_readPerson k0 x1 h = some h0) (t_k0 : kd k0 = (0, 12)) : Con E d K_X12_readPerson (ZV E h0) [.ref k0, .int x1] h := by
  obtain ⟨d, rfl⟩ : ∃ d', d = d' + 1 := ⟨d - 1, by omega⟩
  have hd := Nat.le_of_succ_le_succ hd
  refine Con.ofV rfl (Nat.le_of_ble_eq_true rfl) ?_
  unfold f_X12_readPerson at hf
  show V E (d + 1) K_X12_readPerson (ZV E h0) h [(0, .ref k0), (1, .int x1)] [] 0
  refine V_bipush (v := 7) dX12_readPerson_0 (by decide) ?_
  refine V_bipush (v := 6) dX12_readPerson_2 (by decide) ?_
  refine V_iload_n 1 dX12_readPerson_4 rfl rfl ?_
  refine V_iadd dX12_readPerson_5 ?_
  refine V_imul dX12_readPerson_6 ?_
  obtain ⟨x2_1, e_2, hf⟩ := nm_s hf
  refine V_istore_n (L' := [(2, .int x2_1), (0, .ref k0), (1, .int x1)]) dX12_readPerson_7 rfl (Nat.le_of_ble_eq_true rfl) e_2 rfl ?_
  refine V_iconst (v := 0) dX12_readPerson_8 (by decide) ?_
  refine V_istore_n (L' := [(3, .int 0), (2, .int x2_1), (0, .ref k0), (1, .int x1)]) dX12_readPerson_9 rfl (Nat.le_of_ble_eq_true rfl) rfl rfl ?_
  refine V_sub [2, 1, 0] rfl ?_
  exact v_X12_readPerson_10 hd FU _ _ _ _ hf t_k0
theorem dX12_readPeople_0 : decode cX12_readPeople 0 = .ok (.aload_n 0, 1) := by decide +kernel
theorem dX12_readPeople_1 : decode cX12_readPeople 1 = .ok (.aload_n 0, 1) := by decide +kernel
theorem dX12_readPeople_2 : decode cX12_readPeople 2 = .ok (.getfield 9, 3) := by decide +kernel
theorem dX12_readPeople_5 : decode cX12_readPeople 5 = .ok (.iconst 0, 1) := by decide +kernel
theorem dX12_readPeople_6 : decode cX12_readPeople 6 = .ok (.aload_n 0, 1) := by decide +kernel
theorem dX12_readPeople_7 : decode cX12_readPeople 7 = .ok (.getfield 134, 3) := by decide +kernel
theorem dX12_readPeople_10 : decode cX12_readPeople 10 = .ok (.invokevirtual 232, 3) := by decide +kernel
theorem dX12_readPeople_13 : decode cX12_readPeople 13 = .ok (.aload_n 0, 1) := by decide +kernel
theorem dX12_readPeople_14 : decode cX12_readPeople 14 = .ok (.iconst 0, 1) := by decide +kernel
theorem dX12_readPeople_15 : decode cX12_readPeople 15 = .ok (.putfield 266, 3) := by decide +kernel
theorem dX12_readPeople_18 : decode cX12_readPeople 18 = .ok (.iconst 1, 1) := by decide +kernel
theorem dX12_readPeople_19 : decode cX12_readPeople 19 = .ok (.istore_n 1, 1) := by decide +kernel
theorem dX12_readPeople_20 : decode cX12_readPeople 20 = .ok (.iload_n 1, 1) := by decide +kernel
theorem dX12_readPeople_21 : decode cX12_readPeople 21 = .ok (.ifCond .eq 81, 3) := by decide +kernel
theorem dX12_readPeople_24 : decode cX12_readPeople 24 = .ok (.aload_n 0, 1) := by decide +kernel
theorem dX12_readPeople_25 : decode cX12_readPeople 25 = .ok (.aload_n 0, 1) := by decide +kernel
theorem dX12_readPeople_26 : decode cX12_readPeople 26 = .ok (.getfield 266, 3) := by decide +kernel
theorem dX12_readPeople_29 : decode cX12_readPeople 29 = .ok (.invokevirtual 269, 3) := by decide +kernel
theorem dX12_readPeople_32 : decode cX12_readPeople 32 = .ok (.aload_n 0, 1) := by decide +kernel
theorem dX12_readPeople_33 : decode cX12_readPeople 33 = .ok (.getfield 153, 3) := by decide +kernel
theorem dX12_readPeople_36 : decode cX12_readPeople 36 = .ok (.iconst (-1), 1) := by decide +kernel
theorem dX12_readPeople_37 : decode cX12_readPeople 37 = .ok (.if_icmp .eq 4, 3) := by decide +kernel
theorem dX12_readPeople_40 : decode cX12_readPeople 40 = .ok (.return_, 1) := by decide +kernel
theorem dX12_readPeople_41 : decode cX12_readPeople 41 = .ok (.aload_n 0, 1) := by decide +kernel
theorem dX12_readPeople_42 : decode cX12_readPeople 42 = .ok (.dup, 1) := by decide +kernel
theorem dX12_readPeople_43 : decode cX12_readPeople 43 = .ok (.getfield 266, 3) := by decide +kernel
theorem dX12_readPeople_46 : decode cX12_readPeople 46 = .ok (.iconst 1, 1) := by decide +kernel
theorem dX12_readPeople_47 : decode cX12_readPeople 47 = .ok (.iadd, 1) := by decide +kernel
theorem dX12_readPeople_48 : decode cX12_readPeople 48 = .ok (.putfield 266, 3) := by decide +kernel
theorem dX12_readPeople_51 : decode cX12_readPeople 51 = .ok (.aload_n 0, 1) := by decide +kernel
theorem dX12_readPeople_52 : decode cX12_readPeople 52 = .ok (.invokevirtual 163, 3) := by decide +kernel
theorem dX12_readPeople_55 : decode cX12_readPeople 55 = .ok (.bipush 59, 2) := by decide +kernel
theorem dX12_readPeople_57 : decode cX12_readPeople 57 = .ok (.if_icmp .ne 7, 3) := by decide +kernel
theorem dX12_readPeople_60 : decode cX12_readPeople 60 = .ok (.iconst 1, 1) := by decide +kernel
theorem dX12_readPeople_61 : decode cX12_readPeople 61 = .ok (.goto 4, 3) := by decide +kernel
theorem dX12_readPeople_64 : decode cX12_readPeople 64 = .ok (.iconst 0, 1) := by decide +kernel
theorem dX12_readPeople_65 : decode cX12_readPeople 65 = .ok (.istore_n 1, 1) := by decide +kernel
theorem dX12_readPeople_66 : decode cX12_readPeople 66 = .ok (.iload_n 1, 1) := by decide +kernel
theorem dX12_readPeople_67 : decode cX12_readPeople 67 = .ok (.ifCond .eq 18, 3) := by decide +kernel
theorem dX12_readPeople_70 : decode cX12_readPeople 70 = .ok (.aload_n 0, 1) := by decide +kernel
theorem dX12_readPeople_71 : decode cX12_readPeople 71 = .ok (.getfield 266, 3) := by decide +kernel
theorem dX12_readPeople_74 : decode cX12_readPeople 74 = .ok (.bipush 6, 2) := by decide +kernel
theorem dX12_readPeople_76 : decode cX12_readPeople 76 = .ok (.if_icmp .ne 9, 3) := by decide +kernel
theorem dX12_readPeople_79 : decode cX12_readPeople 79 = .ok (.aload_n 0, 1) := by decide +kernel
theorem dX12_readPeople_80 : decode cX12_readPeople 80 = .ok (.invokevirtual 159, 3) := by decide +kernel
theorem dX12_readPeople_83 : decode cX12_readPeople 83 = .ok (.pop, 1) := by decide +kernel
theorem dX12_readPeople_84 : decode cX12_readPeople 84 = .ok (.return_, 1) := by decide +kernel
theorem dX12_readPeople_85 : decode cX12_readPeople 85 = .ok (.iload_n 1, 1) := by decide +kernel
theorem dX12_readPeople_86 : decode cX12_readPeople 86 = .ok (.ifCond .eq (-66), 3) := by decide +kernel
theorem dX12_readPeople_89 : decode cX12_readPeople 89 = .ok (.aload_n 0, 1) := by decide +kernel
theorem dX12_readPeople_90 : decode cX12_readPeople 90 = .ok (.dup, 1) := by decide +kernel
theorem dX12_readPeople_91 : decode cX12_readPeople 91 = .ok (.getfield 144, 3) := by decide +kernel
theorem dX12_readPeople_94 : decode cX12_readPeople 94 = .ok (.iconst 1, 1) := by decide +kernel
theorem dX12_readPeople_95 : decode cX12_readPeople 95 = .ok (.iadd, 1) := by decide +kernel
theorem dX12_readPeople_96 : decode cX12_readPeople 96 = .ok (.putfield 144, 3) := by decide +kernel
theorem dX12_readPeople_99 : decode cX12_readPeople 99 = .ok (.goto (-79), 3) := by decide +kernel
theorem dX12_readPeople_102 : decode cX12_readPeople 102 = .ok (.aload_n 0, 1) := by decide +kernel
theorem dX12_readPeople_103 : decode cX12_readPeople 103 = .ok (.invokevirtual 163, 3) := by decide +kernel
theorem dX12_readPeople_106 : decode cX12_readPeople 106 = .ok (.iconst (-1), 1) := by decide +kernel
theorem dX12_readPeople_107 : decode cX12_readPeople 107 = .ok (.if_icmp .ne 11, 3) := by decide +kernel
theorem dX12_readPeople_110 : decode cX12_readPeople 110 = .ok (.aload_n 0, 1) := by decide +kernel
theorem dX12_readPeople_111 : decode cX12_readPeople 111 = .ok (.getfield 266, 3) := by decide +kernel
theorem dX12_readPeople_114 : decode cX12_readPeople 114 = .ok (.iconst 2, 1) := by decide +kernel
theorem dX12_readPeople_115 : decode cX12_readPeople 115 = .ok (.if_icmp .ge 8, 3) := by decide +kernel
theorem dX12_readPeople_118 : decode cX12_readPeople 118 = .ok (.aload_n 0, 1) := by decide +kernel
theorem dX12_readPeople_119 : decode cX12_readPeople 119 = .ok (.invokevirtual 159, 3) := by decide +kernel
theorem dX12_readPeople_122 : decode cX12_readPeople 122 = .ok (.pop, 1) := by decide +kernel
theorem dX12_readPeople_123 : decode cX12_readPeople 123 = .ok (.return_, 1) := by decide +kernel
theorem F_X12_266 : FLk RX12 266 12 21 := ⟨RX12, TX12, 58, rfl, rfl, iw_X12, by decide, Or.inl fl_X12_266⟩
theorem ML_X12_269 : MLk RX12 269 yX12_readPerson := Or.inl ml_X12_269
theorem MV_X12_readPerson : MVk K_X12_readPerson 1 12 := ⟨⟨cd_X12_readPerson, in_X12, ⟨by decide, by decide, by decide +kernel⟩, by decide⟩, im_X12_readPerson, se_X12_readPerson, _, _, rfl⟩
theorem P_X12_266 : FPk RX12 266 12 21 .int := ⟨RX12, TX12, 58, tyX12, rfl, rfl, iw_X12, by decide, Or.inl fl_X12_266, tyX12_ok, nmX12, rfl, by decide +kernel⟩
theorem F_X12_9 : FLk RX12 9 12 1 := ⟨RX12, TX12, 58, rfl, rfl, iw_X12, by decide, Or.inl fl_X12_9⟩
def f_X12_readPeople_85 (q20 : Nat → Int32 → AH → Option AH) (k0 : Nat) (x1 : Int32) (h : AH) : Option AH :=
  if x1 = 0 then (
    q20 k0 x1 h
  ) else (
    nm (sI h k0 10 ((h.1 k0 10) + 1)) fun h_2 =>
    q20 k0 x1 h_2
  )
def f_X12_readPeople_65 (q20 : Nat → Int32 → AH → Option AH) (k0 : Nat) (s0 : Int32) (h : AH) : Option AH :=
  if s0 = 0 then (
    f_X12_readPeople_85 q20 k0 s0 h
  ) else (
    if (h.1 k0 21) = 6 then (
      ob (f_X12_fails k0 h) fun r_5 h_4 =>
      some h_4
    ) else (
      f_X12_readPeople_85 q20 k0 s0 h
    )
  )
def f_X12_readPeople_123  (h : AH) : Option AH :=
  some h
def f_X12_readPeople_118 (k0 : Nat) (h : AH) : Option AH :=
  ob (f_X12_fails k0 h) fun r_3 h_2 =>
  f_X12_readPeople_123 h_2
def f_X12_readPeople_20 : Nat → Nat → Int32 → AH → Option AH
  | 0, _, _, _ => none
  | n + 1, k0, x1, h =>
    if x1 = 0 then (
      ob (f_X12_look k0 h) fun r_4 h_3 =>
      if r_4 = (-1) then (
        if 2 ≤ (h_3.1 k0 21) then (
          f_X12_readPeople_123 h_3
        ) else (
          f_X12_readPeople_118 k0 h_3
        )
      ) else (
        f_X12_readPeople_118 k0 h_3
      )
    ) else (
      ov (f_X12_readPerson k0 (h.1 k0 21) h) fun h_8 =>
      if (h_8.1 k0 11) = (-1) then (
        nm (sI h_8 k0 21 ((h_8.1 k0 21) + 1)) fun h_10 =>
        ob (f_X12_look k0 h_10) fun r_14 h_13 =>
        if r_14 = 59 then (
          f_X12_readPeople_65 (f_X12_readPeople_20 n) k0 1 h_13
        ) else (
          f_X12_readPeople_65 (f_X12_readPeople_20 n) k0 0 h_13
        )
      ) else (
        some h_8
      )
    )
def f_X12_readPeople (k0 : Nat) (h : AH) : Option AH :=
  ov (f_X12_opens k0 (rf k0 1) 0 (h.1 k0 6) h) fun h_2 =>
  nm (sI h_2 k0 21 0) fun h_3 =>
  f_X12_readPeople_20 FU k0 1 h_3
set_option maxHeartbeats 4000000 in
set_option maxRecDepth 100000 in
theorem v_X12_readPeople_85 {E : EV} {d : Nat} (hd : 7 ≤ d) {h0 : AH} {q20 : Nat → Int32 → AH → Option AH} (cq20 : ∀ (k0 : Nat) (x1 : Int32) (h : AH), q20 k0 x1 h = some h0 → kd k0 = (0, 12) → V E (d + 1) K_X12_readPeople (ZV E h0) h [(0, .ref k0), (1, .int x1)] [] 20) {k0 : Nat} {x1 : Int32} {h : AH} (hf : f_X12_readPeople_85 q20 k0 x1 h = some h0) (t_k0 : kd k0 = (0, 12)) : V E (d + 1) K_X12_readPeople (ZV E h0) h [(0, .ref k0), (1, .int x1)] [] 85 := by
  unfold f_X12_readPeople_85 at hf
  refine V_iload_n 1 dX12_readPeople_85 rfl rfl ?_
  refine V_if_eq (tgt := 20) dX12_readPeople_86 (by decide) (fun c_1 => ?_) (fun c_1 => ?_)
  · have hf := it_s c_1 hf
    exact cq20 _ _ _ hf t_k0
  · have hf := if_s c_1 hf
    refine V_aload_n 0 dX12_readPeople_89 rfl rfl ?_
    refine V_dup dX12_readPeople_90 rfl ?_
    refine V_getI F_X12_144 rfl t_k0 rfl dX12_readPeople_91 ?_
    refine V_iconst (v := 1) dX12_readPeople_94 (by decide) ?_
    refine V_iadd dX12_readPeople_95 ?_
    obtain ⟨h_2, e_3, hf⟩ := nm_s hf
    refine V_putI P_X12_144 rfl t_k0 rfl e_3 dX12_readPeople_96 ?_
    refine V_goto (tgt := 20) dX12_readPeople_99 (by decide) ?_
    exact cq20 _ _ _ hf t_k0
set_option maxHeartbeats 4000000 in
set_option maxRecDepth 100000 in
theorem v_X12_readPeople_65 {E : EV} {d : Nat} (hd : 7 ≤ d) {h0 : AH} {q20 : Nat → Int32 → AH → Option AH} (cq20 : ∀ (k0 : Nat) (x1 : Int32) (h : AH), q20 k0 x1 h = some h0 → kd k0 = (0, 12) → V E (d + 1) K_X12_readPeople (ZV E h0) h [(0, .ref k0), (1, .int x1)] [] 20) {k0 : Nat} {s0 : Int32} {h : AH} (hf : f_X12_readPeople_65 q20 k0 s0 h = some h0) (t_k0 : kd k0 = (0, 12)) : V E (d + 1) K_X12_readPeople (ZV E h0) h [(0, .ref k0)] [.int s0] 65 := by
  unfold f_X12_readPeople_65 at hf
  refine V_istore_n (L' := [(1, .int s0), (0, .ref k0)]) dX12_readPeople_65 rfl (Nat.le_of_ble_eq_true rfl) rfl rfl ?_
  refine V_iload_n 0 dX12_readPeople_66 rfl rfl ?_
  refine V_if_eq (tgt := 85) dX12_readPeople_67 (by decide) (fun c_1 => ?_) (fun c_1 => ?_)
  · have hf := it_s c_1 hf
    refine V_sub [1, 0] rfl ?_
    exact v_X12_readPeople_85 hd cq20 hf t_k0
  · have hf := if_s c_1 hf
    refine V_aload_n 1 dX12_readPeople_70 rfl rfl ?_
    refine V_getI F_X12_266 rfl t_k0 rfl dX12_readPeople_71 ?_
    refine V_bipush (v := 6) dX12_readPeople_74 (by decide) ?_
    refine V_ic_ne (tgt := 85) dX12_readPeople_76 (by decide) (fun c_2 => ?_) (fun c_2 => ?_)
    · have hf := if_s c_2 hf
      refine V_sub [1, 0] rfl ?_
      exact v_X12_readPeople_85 hd cq20 hf t_k0
    · have hf := it_s c_2 hf
      refine V_aload_n 1 dX12_readPeople_79 rfl rfl ?_
      obtain ⟨r_5, h_4, e_3, hf⟩ := ob_s hf
      refine V_cvi (As := []) (rest := []) (c_X12_fails (d := d) (Nat.le_trans (Nat.le_of_ble_eq_true rfl) hd) e_3 t_k0) ML_X12_159 MV_X12_fails rfl t_k0 rfl rfl (Nat.le_of_ble_eq_true rfl) dX12_readPeople_80 ?_
      refine V_pop dX12_readPeople_83 rfl ?_
      exact V_vret rfl (so_s hf) dX12_readPeople_84
set_option maxHeartbeats 4000000 in
set_option maxRecDepth 100000 in
theorem v_X12_readPeople_123 {E : EV} {d : Nat} (hd : 7 ≤ d) {h0 : AH}  {h : AH} (hf : f_X12_readPeople_123 h = some h0) : V E (d + 1) K_X12_readPeople (ZV E h0) h [] [] 123 := by
  unfold f_X12_readPeople_123 at hf
  exact V_vret rfl (so_s hf) dX12_readPeople_123
set_option maxHeartbeats 4000000 in
set_option maxRecDepth 100000 in
theorem v_X12_readPeople_118 {E : EV} {d : Nat} (hd : 7 ≤ d) {h0 : AH} {k0 : Nat} {h : AH} (hf : f_X12_readPeople_118 k0 h = some h0) (t_k0 : kd k0 = (0, 12)) : V E (d + 1) K_X12_readPeople (ZV E h0) h [(0, .ref k0)] [] 118 := by
  unfold f_X12_readPeople_118 at hf
  refine V_aload_n 0 dX12_readPeople_118 rfl rfl ?_
  obtain ⟨r_3, h_2, e_1, hf⟩ := ob_s hf
  refine V_cvi (As := []) (rest := []) (c_X12_fails (d := d) (Nat.le_trans (Nat.le_of_ble_eq_true rfl) hd) e_1 t_k0) ML_X12_159 MV_X12_fails rfl t_k0 rfl rfl (Nat.le_of_ble_eq_true rfl) dX12_readPeople_119 ?_
  refine V_pop dX12_readPeople_122 rfl ?_
  refine V_sub [] rfl ?_
  exact v_X12_readPeople_123 hd hf
set_option maxHeartbeats 4000000 in
set_option maxRecDepth 100000 in
theorem v_X12_readPeople_20 {E : EV} {d : Nat} (hd : 7 ≤ d) {h0 : AH} : ∀ (n : Nat) (k0 : Nat) (x1 : Int32) (h : AH), f_X12_readPeople_20 n k0 x1 h = some h0 → kd k0 = (0, 12) → V E (d + 1) K_X12_readPeople (ZV E h0) h [(0, .ref k0), (1, .int x1)] [] 20 := by
  intro n
  induction n with
  | zero =>
    intro k0 x1 h hf
    rw [f_X12_readPeople_20] at hf
    cases hf
  | succ n ih =>
    intro k0 x1 h hf t_k0
    rw [f_X12_readPeople_20] at hf
    refine V_iload_n 1 dX12_readPeople_20 rfl rfl ?_
    refine V_if_eq (tgt := 102) dX12_readPeople_21 (by decide) (fun c_1 => ?_) (fun c_1 => ?_)
    · have hf := it_s c_1 hf
      refine V_aload_n 0 dX12_readPeople_102 rfl rfl ?_
      obtain ⟨r_4, h_3, e_2, hf⟩ := ob_s hf
      refine V_cvi (As := []) (rest := []) (c_X12_look (d := d) (Nat.le_trans (Nat.le_of_ble_eq_true rfl) hd) e_2 t_k0) ML_X12_163 MV_X12_look rfl t_k0 rfl rfl (Nat.le_of_ble_eq_true rfl) dX12_readPeople_103 ?_
      refine V_iconst (v := (-1)) dX12_readPeople_106 (by decide) ?_
      refine V_ic_ne (tgt := 118) dX12_readPeople_107 (by decide) (fun c_5 => ?_) (fun c_5 => ?_)
      · have hf := if_s c_5 hf
        refine V_sub [0] rfl ?_
        exact v_X12_readPeople_118 hd hf t_k0
      · have hf := it_s c_5 hf
        refine V_aload_n 0 dX12_readPeople_110 rfl rfl ?_
        refine V_getI F_X12_266 rfl t_k0 rfl dX12_readPeople_111 ?_
        refine V_iconst (v := 2) dX12_readPeople_114 (by decide) ?_
        refine V_ic_ge (tgt := 123) dX12_readPeople_115 (by decide) (fun c_6 => ?_) (fun c_6 => ?_)
        · have hf := it_s c_6 hf
          refine V_sub [] rfl ?_
          exact v_X12_readPeople_123 hd hf
        · have hf := if_s c_6 hf
          refine V_sub [0] rfl ?_
          exact v_X12_readPeople_118 hd hf t_k0
    · have hf := if_s c_1 hf
      refine V_aload_n 0 dX12_readPeople_24 rfl rfl ?_
      refine V_aload_n 0 dX12_readPeople_25 rfl rfl ?_
      refine V_getI F_X12_266 rfl t_k0 rfl dX12_readPeople_26 ?_
      obtain ⟨h_8, e_7, hf⟩ := ov_s hf
      refine V_cvv (As := [.int (h.1 k0 21)]) (rest := []) (c_X12_readPerson (d := d) (Nat.le_trans (Nat.le_of_ble_eq_true rfl) hd) e_7 t_k0) ML_X12_269 MV_X12_readPerson rfl t_k0 rfl rfl (Nat.le_of_ble_eq_true rfl) dX12_readPeople_29 ?_
      refine V_aload_n 0 dX12_readPeople_32 rfl rfl ?_
      refine V_getI F_X12_153 rfl t_k0 rfl dX12_readPeople_33 ?_
      refine V_iconst (v := (-1)) dX12_readPeople_36 (by decide) ?_
      refine V_ic_eq (tgt := 41) dX12_readPeople_37 (by decide) (fun c_9 => ?_) (fun c_9 => ?_)
      · have hf := it_s c_9 hf
        refine V_aload_n 0 dX12_readPeople_41 rfl rfl ?_
        refine V_dup dX12_readPeople_42 rfl ?_
        refine V_getI F_X12_266 rfl t_k0 rfl dX12_readPeople_43 ?_
        refine V_iconst (v := 1) dX12_readPeople_46 (by decide) ?_
        refine V_iadd dX12_readPeople_47 ?_
        obtain ⟨h_10, e_11, hf⟩ := nm_s hf
        refine V_putI P_X12_266 rfl t_k0 rfl e_11 dX12_readPeople_48 ?_
        refine V_aload_n 0 dX12_readPeople_51 rfl rfl ?_
        obtain ⟨r_14, h_13, e_12, hf⟩ := ob_s hf
        refine V_cvi (As := []) (rest := []) (c_X12_look (d := d) (Nat.le_trans (Nat.le_of_ble_eq_true rfl) hd) e_12 t_k0) ML_X12_163 MV_X12_look rfl t_k0 rfl rfl (Nat.le_of_ble_eq_true rfl) dX12_readPeople_52 ?_
        refine V_bipush (v := 59) dX12_readPeople_55 (by decide) ?_
        refine V_ic_ne (tgt := 64) dX12_readPeople_57 (by decide) (fun c_15 => ?_) (fun c_15 => ?_)
        · have hf := if_s c_15 hf
          refine V_iconst (v := 0) dX12_readPeople_64 (by decide) ?_
          refine V_sub [0] rfl ?_
          exact v_X12_readPeople_65 hd ih hf t_k0
        · have hf := it_s c_15 hf
          refine V_iconst (v := 1) dX12_readPeople_60 (by decide) ?_
          refine V_goto (tgt := 65) dX12_readPeople_61 (by decide) ?_
          refine V_sub [0] rfl ?_
          exact v_X12_readPeople_65 hd ih hf t_k0
      · have hf := if_s c_9 hf
        exact V_vret rfl (so_s hf) dX12_readPeople_40
set_option maxHeartbeats 4000000 in
set_option maxRecDepth 100000 in
theorem c_X12_readPeople {E : EV} {d : Nat} (hd : 7 + 1 ≤ d) {k0 : Nat} {h : AH} {h0 : AH} (hf : f_X12_readPeople k0 h = some h0) (t_k0 : kd k0 = (0, 12)) : Con E d K_X12_readPeople (ZV E h0) [.ref k0] h := by
  obtain ⟨d, rfl⟩ : ∃ d', d = d' + 1 := ⟨d - 1, by omega⟩
  have hd := Nat.le_of_succ_le_succ hd
  refine Con.ofV rfl (Nat.le_of_ble_eq_true rfl) ?_
  unfold f_X12_readPeople at hf
  show V E (d + 1) K_X12_readPeople (ZV E h0) h [(0, .ref k0)] [] 0
  refine V_aload_n 0 dX12_readPeople_0 rfl rfl ?_
  refine V_aload_n 0 dX12_readPeople_1 rfl rfl ?_
  refine V_getR F_X12_9 rfl t_k0 rfl dX12_readPeople_2 ?_
  refine V_iconst (v := 0) dX12_readPeople_5 (by decide) ?_
  refine V_aload_n 0 dX12_readPeople_6 rfl rfl ?_
  refine V_getI F_X12_134 rfl t_k0 rfl dX12_readPeople_7 ?_
  obtain ⟨h_2, e_1, hf⟩ := ov_s hf
  refine V_cvv (As := [.ref (rf k0 1), .int 0, .int (h.1 k0 6)]) (rest := []) (c_X12_opens (d := d) (Nat.le_trans (Nat.le_of_ble_eq_true rfl) hd) e_1 t_k0 (rfA t_k0 (Nat.le_of_ble_eq_true rfl) rfl rfl (by decide))) ML_X12_232 MV_X12_opens rfl t_k0 rfl rfl (Nat.le_of_ble_eq_true rfl) dX12_readPeople_10 ?_
  refine V_aload_n 0 dX12_readPeople_13 rfl rfl ?_
  refine V_iconst (v := 0) dX12_readPeople_14 (by decide) ?_
  obtain ⟨h_3, e_4, hf⟩ := nm_s hf
  refine V_putI P_X12_266 rfl t_k0 rfl e_4 dX12_readPeople_15 ?_
  refine V_iconst (v := 1) dX12_readPeople_18 (by decide) ?_
  refine V_istore_n (L' := [(1, .int 1), (0, .ref k0)]) dX12_readPeople_19 rfl (Nat.le_of_ble_eq_true rfl) rfl rfl ?_
  refine V_sub [1, 0] rfl ?_
  exact v_X12_readPeople_20 hd FU _ _ _ hf t_k0
theorem dX12_fault_0 : decode cX12_fault 0 = .ok (.aload_n 0, 1) := by decide +kernel
theorem dX12_fault_1 : decode cX12_fault 1 = .ok (.iconst 0, 1) := by decide +kernel
theorem dX12_fault_2 : decode cX12_fault 2 = .ok (.putfield 120, 3) := by decide +kernel
theorem dX12_fault_5 : decode cX12_fault 5 = .ok (.iload_n 1, 1) := by decide +kernel
theorem dX12_fault_6 : decode cX12_fault 6 = .ok (.i2l, 1) := by decide +kernel
theorem dX12_fault_7 : decode cX12_fault 7 = .ok (.lconst 0, 1) := by decide +kernel
theorem dX12_fault_8 : decode cX12_fault 8 = .ok (.lconst 1, 1) := by decide +kernel
theorem dX12_fault_9 : decode cX12_fault 9 = .ok (.invokestatic 247, 3) := by decide +kernel
theorem dX12_fault_12 : decode cX12_fault 12 = .ok (.ifCond .ne 6, 3) := by decide +kernel
theorem dX12_fault_15 : decode cX12_fault 15 = .ok (.bipush (-2), 2) := by decide +kernel
theorem dX12_fault_17 : decode cX12_fault 17 = .ok (.ireturn, 1) := by decide +kernel
theorem dX12_fault_18 : decode cX12_fault 18 = .ok (.iload_n 1, 1) := by decide +kernel
theorem dX12_fault_19 : decode cX12_fault 19 = .ok (.ifCond .ne 10, 3) := by decide +kernel
theorem dX12_fault_22 : decode cX12_fault 22 = .ok (.aload_n 0, 1) := by decide +kernel
theorem dX12_fault_23 : decode cX12_fault 23 = .ok (.invokevirtual 272, 3) := by decide +kernel
theorem dX12_fault_26 : decode cX12_fault 26 = .ok (.goto 16, 3) := by decide +kernel
theorem dX12_fault_29 : decode cX12_fault 29 = .ok (.aload_n 0, 1) := by decide +kernel
theorem dX12_fault_30 : decode cX12_fault 30 = .ok (.aload_n 0, 1) := by decide +kernel
theorem dX12_fault_31 : decode cX12_fault 31 = .ok (.getfield 9, 3) := by decide +kernel
theorem dX12_fault_34 : decode cX12_fault 34 = .ok (.iconst 0, 1) := by decide +kernel
theorem dX12_fault_35 : decode cX12_fault 35 = .ok (.aload_n 0, 1) := by decide +kernel
theorem dX12_fault_36 : decode cX12_fault 36 = .ok (.getfield 134, 3) := by decide +kernel
theorem dX12_fault_39 : decode cX12_fault 39 = .ok (.invokevirtual 275, 3) := by decide +kernel
theorem dX12_fault_42 : decode cX12_fault 42 = .ok (.aload_n 0, 1) := by decide +kernel
theorem dX12_fault_43 : decode cX12_fault 43 = .ok (.getfield 153, 3) := by decide +kernel
theorem dX12_fault_46 : decode cX12_fault 46 = .ok (.ireturn, 1) := by decide +kernel
theorem ML_X12_272 : MLk RX12 272 yX12_readPeople := Or.inl ml_X12_272
theorem MV_X12_readPeople : MVk K_X12_readPeople 0 12 := ⟨⟨cd_X12_readPeople, in_X12, ⟨by decide, by decide, by decide +kernel⟩, by decide⟩, im_X12_readPeople, se_X12_readPeople, _, _, rfl⟩
def f_X12_fault_42 (k0 : Nat) (h : AH) : Option (Int32 × AH) :=
  some ((h.1 k0 11), h)
def f_X12_fault (k0 : Nat) (x1 : Int32) (h : AH) : Option (Int32 × AH) :=
  nm (sI h k0 0 0) fun h_1 =>
  ob (f_X12_isIn ((x1).toInt64) 0 1 h_1) fun r_5 h_4 =>
  if r_5 = 0 then (
    some ((-2), h_4)
  ) else (
    if x1 = 0 then (
      ov (f_X12_readPeople k0 h_4) fun h_11 =>
      f_X12_fault_42 k0 h_11
    ) else (
      ov (f_X12_goThrough k0 (rf k0 1) 0 (h_4.1 k0 6) h_4) fun h_9 =>
      f_X12_fault_42 k0 h_9
    )
  )
set_option maxHeartbeats 4000000 in
set_option maxRecDepth 100000 in
theorem v_X12_fault_42 {E : EV} {d : Nat} (hd : 1457 ≤ d) {r0 : Int32} {h0 : AH} {k0 : Nat} {h : AH} (hf : f_X12_fault_42 k0 h = some (r0, h0)) (t_k0 : kd k0 = (0, 12)) : V E (d + 1) K_X12_fault (ZI E r0 h0) h [(0, .ref k0)] [] 42 := by
  unfold f_X12_fault_42 at hf
  refine V_aload_n 0 dX12_fault_42 rfl rfl ?_
  refine V_getI F_X12_153 rfl t_k0 rfl dX12_fault_43 ?_
  exact V_iret rfl (so_s hf) dX12_fault_46
set_option maxHeartbeats 4000000 in
set_option maxRecDepth 100000 in
theorem c_X12_fault {E : EV} {d : Nat} (hd : 1457 + 1 ≤ d) {k0 : Nat} {x1 : Int32} {h : AH} {r0 : Int32} {h0 : AH} (hf : f_X12_fault k0 x1 h = some (r0, h0)) (t_k0 : kd k0 = (0, 12)) : Con E d K_X12_fault (ZI E r0 h0) [.ref k0, .int x1] h := by
  obtain ⟨d, rfl⟩ : ∃ d', d = d' + 1 := ⟨d - 1, by omega⟩
  have hd := Nat.le_of_succ_le_succ hd
  refine Con.ofV rfl (Nat.le_of_ble_eq_true rfl) ?_
  unfold f_X12_fault at hf
  show V E (d + 1) K_X12_fault (ZI E r0 h0) h [(0, .ref k0), (1, .int x1)] [] 0
  refine V_aload_n 0 dX12_fault_0 rfl rfl ?_
  refine V_iconst (v := 0) dX12_fault_1 (by decide) ?_
  obtain ⟨h_1, e_2, hf⟩ := nm_s hf
  refine V_putI P_X12_120 rfl t_k0 rfl e_2 dX12_fault_2 ?_
  refine V_iload_n 1 dX12_fault_5 rfl rfl ?_
  refine V_i2l dX12_fault_6 ?_
  refine V_lconst (v := 0) dX12_fault_7 (by decide) ?_
  refine V_lconst (v := 1) dX12_fault_8 (by decide) ?_
  obtain ⟨r_5, h_4, e_3, hf⟩ := ob_s hf
  refine V_csi (As := [.long ((x1).toInt64), .long 0, .long 1]) (rest := []) (c_X12_isIn (d := d) (Nat.le_trans (Nat.le_of_ble_eq_true rfl) hd) e_3) ML_X12_247 MS_X12_isIn rfl rfl rfl (Nat.le_of_ble_eq_true rfl) dX12_fault_9 ?_
  refine V_if_ne (tgt := 18) dX12_fault_12 (by decide) (fun c_6 => ?_) (fun c_6 => ?_)
  · have hf := if_s c_6 hf
    refine V_iload_n 1 dX12_fault_18 rfl rfl ?_
    refine V_if_ne (tgt := 29) dX12_fault_19 (by decide) (fun c_7 => ?_) (fun c_7 => ?_)
    · have hf := if_s c_7 hf
      refine V_aload_n 0 dX12_fault_29 rfl rfl ?_
      refine V_aload_n 0 dX12_fault_30 rfl rfl ?_
      refine V_getR F_X12_9 rfl t_k0 rfl dX12_fault_31 ?_
      refine V_iconst (v := 0) dX12_fault_34 (by decide) ?_
      refine V_aload_n 0 dX12_fault_35 rfl rfl ?_
      refine V_getI F_X12_134 rfl t_k0 rfl dX12_fault_36 ?_
      obtain ⟨h_9, e_8, hf⟩ := ov_s hf
      refine V_cvv (As := [.ref (rf k0 1), .int 0, .int (h_4.1 k0 6)]) (rest := []) (c_X12_goThrough (d := d) (Nat.le_trans (Nat.le_of_ble_eq_true rfl) hd) e_8 t_k0 (rfA t_k0 (Nat.le_of_ble_eq_true rfl) rfl rfl (by decide))) ML_X12_275 MV_X12_goThrough rfl t_k0 rfl rfl (Nat.le_of_ble_eq_true rfl) dX12_fault_39 ?_
      refine V_sub [0] rfl ?_
      exact v_X12_fault_42 hd hf t_k0
    · have hf := it_s c_7 hf
      refine V_aload_n 0 dX12_fault_22 rfl rfl ?_
      obtain ⟨h_11, e_10, hf⟩ := ov_s hf
      refine V_cvv (As := []) (rest := []) (c_X12_readPeople (d := d) (Nat.le_trans (Nat.le_of_ble_eq_true rfl) hd) e_10 t_k0) ML_X12_272 MV_X12_readPeople rfl t_k0 rfl rfl (Nat.le_of_ble_eq_true rfl) dX12_fault_23 ?_
      refine V_goto (tgt := 42) dX12_fault_26 (by decide) ?_
      refine V_sub [0] rfl ?_
      exact v_X12_fault_42 hd hf t_k0
  · have hf := it_s c_6 hf
    refine V_bipush (v := (-2)) dX12_fault_15 (by decide) ?_
    exact V_iret rfl (so_s hf) dX12_fault_17
theorem dX12_put_0 : decode cX12_put 0 = .ok (.bipush 24, 2) := by decide +kernel
theorem dX12_put_2 : decode cX12_put 2 = .ok (.istore_n 2, 1) := by decide +kernel
theorem dX12_put_3 : decode cX12_put 3 = .ok (.iload_n 2, 1) := by decide +kernel
theorem dX12_put_4 : decode cX12_put 4 = .ok (.ifCond .lt 45, 3) := by decide +kernel
theorem dX12_put_7 : decode cX12_put 7 = .ok (.iload_n 1, 1) := by decide +kernel
theorem dX12_put_8 : decode cX12_put 8 = .ok (.iload_n 2, 1) := by decide +kernel
theorem dX12_put_9 : decode cX12_put 9 = .ok (.ishr, 1) := by decide +kernel
theorem dX12_put_10 : decode cX12_put 10 = .ok (.sipush 255, 3) := by decide +kernel
theorem dX12_put_13 : decode cX12_put 13 = .ok (.iand, 1) := by decide +kernel
theorem dX12_put_14 : decode cX12_put 14 = .ok (.ifCond .ne 6, 3) := by decide +kernel
theorem dX12_put_17 : decode cX12_put 17 = .ok (.goto 26, 3) := by decide +kernel
theorem dX12_put_20 : decode cX12_put 20 = .ok (.aload_n 0, 1) := by decide +kernel
theorem dX12_put_21 : decode cX12_put 21 = .ok (.getfield 9, 3) := by decide +kernel
theorem dX12_put_24 : decode cX12_put 24 = .ok (.aload_n 0, 1) := by decide +kernel
theorem dX12_put_25 : decode cX12_put 25 = .ok (.getfield 134, 3) := by decide +kernel
theorem dX12_put_28 : decode cX12_put 28 = .ok (.iload_n 1, 1) := by decide +kernel
theorem dX12_put_29 : decode cX12_put 29 = .ok (.iload_n 2, 1) := by decide +kernel
theorem dX12_put_30 : decode cX12_put 30 = .ok (.ishr, 1) := by decide +kernel
theorem dX12_put_31 : decode cX12_put 31 = .ok (.i2b, 1) := by decide +kernel
theorem dX12_put_32 : decode cX12_put 32 = .ok (.bastore, 1) := by decide +kernel
theorem dX12_put_33 : decode cX12_put 33 = .ok (.aload_n 0, 1) := by decide +kernel
theorem dX12_put_34 : decode cX12_put 34 = .ok (.dup, 1) := by decide +kernel
theorem dX12_put_35 : decode cX12_put 35 = .ok (.getfield 134, 3) := by decide +kernel
theorem dX12_put_38 : decode cX12_put 38 = .ok (.iconst 1, 1) := by decide +kernel
theorem dX12_put_39 : decode cX12_put 39 = .ok (.iadd, 1) := by decide +kernel
theorem dX12_put_40 : decode cX12_put 40 = .ok (.putfield 134, 3) := by decide +kernel
theorem dX12_put_43 : decode cX12_put 43 = .ok (.iinc 2 (-8), 3) := by decide +kernel
theorem dX12_put_46 : decode cX12_put 46 = .ok (.goto (-43), 3) := by decide +kernel
theorem dX12_put_49 : decode cX12_put 49 = .ok (.return_, 1) := by decide +kernel
def f_X12_put_43 (q3 : Nat → Int32 → Int32 → AH → Option AH) (k0 : Nat) (x1 : Int32) (x2 : Int32) (h : AH) : Option AH :=
  nm (x2 + (-8)) fun x2_1 =>
  q3 k0 x1 x2_1 h
def f_X12_put_3 : Nat → Nat → Int32 → Int32 → AH → Option AH
  | 0, _, _, _, _ => none
  | n + 1, k0, x1, x2, h =>
    if x2 < 0 then (
      some h
    ) else (
      if ((x1 >>> (x2 &&& 31)) &&& 255) = 0 then (
        f_X12_put_43 (f_X12_put_3 n) k0 x1 x2 h
      ) else (
        og (ix (h.1 k0 6) (an (rf k0 1))) <|
        nm (sI h (rf k0 1) (h.1 k0 6).toNatClampNeg (vp_nar .byte (((x1 >>> (x2 &&& 31))).toInt8.toInt32))) fun h_4 =>
        nm (sI h_4 k0 6 ((h_4.1 k0 6) + 1)) fun h_6 =>
        f_X12_put_43 (f_X12_put_3 n) k0 x1 x2 h_6
      )
    )
def f_X12_put (k0 : Nat) (x1 : Int32) (h : AH) : Option AH :=
  f_X12_put_3 FU k0 x1 24 h
set_option maxHeartbeats 4000000 in
set_option maxRecDepth 100000 in
theorem v_X12_put_43 {E : EV} {d : Nat} (hd : 0 ≤ d) {h0 : AH} {q3 : Nat → Int32 → Int32 → AH → Option AH} (cq3 : ∀ (k0 : Nat) (x1 : Int32) (x2 : Int32) (h : AH), q3 k0 x1 x2 h = some h0 → kd k0 = (0, 12) → V E (d + 1) K_X12_put (ZV E h0) h [(0, .ref k0), (1, .int x1), (2, .int x2)] [] 3) {k0 : Nat} {x1 : Int32} {x2 : Int32} {h : AH} (hf : f_X12_put_43 q3 k0 x1 x2 h = some h0) (t_k0 : kd k0 = (0, 12)) : V E (d + 1) K_X12_put (ZV E h0) h [(0, .ref k0), (1, .int x1), (2, .int x2)] [] 43 := by
  unfold f_X12_put_43 at hf
  obtain ⟨x2_1, e_2, hf⟩ := nm_s hf
  refine V_iinc (a := (-8)) (L' := [(2, .int x2_1), (0, .ref k0), (1, .int x1)]) 2 dX12_put_43 rfl (by decide) (Nat.le_of_ble_eq_true rfl) e_2 rfl ?_
  refine V_goto (tgt := 3) dX12_put_46 (by decide) ?_
  refine V_sub [1, 2, 0] rfl ?_
  exact cq3 _ _ _ _ hf t_k0
set_option maxHeartbeats 4000000 in
set_option maxRecDepth 100000 in
theorem v_X12_put_3 {E : EV} {d : Nat} (hd : 0 ≤ d) {h0 : AH} : ∀ (n : Nat) (k0 : Nat) (x1 : Int32) (x2 : Int32) (h : AH), f_X12_put_3 n k0 x1 x2 h = some h0 → kd k0 = (0, 12) → V E (d + 1) K_X12_put (ZV E h0) h [(0, .ref k0), (1, .int x1), (2, .int x2)] [] 3 := by
  intro n
  induction n with
  | zero =>
    intro k0 x1 x2 h hf
    rw [f_X12_put_3] at hf
    cases hf
  | succ n ih =>
    intro k0 x1 x2 h hf t_k0
    rw [f_X12_put_3] at hf
    refine V_iload_n 2 dX12_put_3 rfl rfl ?_
    refine V_if_lt (tgt := 49) dX12_put_4 (by decide) (fun c_1 => ?_) (fun c_1 => ?_)
    · have hf := it_s c_1 hf
      exact V_vret rfl (so_s hf) dX12_put_49
    · have hf := if_s c_1 hf
      refine V_iload_n 1 dX12_put_7 rfl rfl ?_
      refine V_iload_n 2 dX12_put_8 rfl rfl ?_
      refine V_ishr dX12_put_9 ?_
      refine V_sipush (v := 255) dX12_put_10 (by decide) ?_
      refine V_iand dX12_put_13 ?_
      refine V_if_ne (tgt := 20) dX12_put_14 (by decide) (fun c_2 => ?_) (fun c_2 => ?_)
      · have hf := if_s c_2 hf
        refine V_aload_n 0 dX12_put_20 rfl rfl ?_
        refine V_getR F_X12_9 rfl t_k0 rfl dX12_put_21 ?_
        refine V_aload_n 0 dX12_put_24 rfl rfl ?_
        refine V_getI F_X12_134 rfl t_k0 rfl dX12_put_25 ?_
        refine V_iload_n 1 dX12_put_28 rfl rfl ?_
        refine V_iload_n 2 dX12_put_29 rfl rfl ?_
        refine V_ishr dX12_put_30 ?_
        refine V_i2b dX12_put_31 ?_
        obtain ⟨b_3, hf⟩ := og_s hf
        obtain ⟨h_4, e_5, hf⟩ := nm_s hf
        refine V_bast (rfA t_k0 (Nat.le_of_ble_eq_true rfl) rfl rfl (by decide)) b_3 e_5 dX12_put_32 ?_
        refine V_aload_n 0 dX12_put_33 rfl rfl ?_
        refine V_dup dX12_put_34 rfl ?_
        refine V_getI F_X12_134 rfl t_k0 rfl dX12_put_35 ?_
        refine V_iconst (v := 1) dX12_put_38 (by decide) ?_
        refine V_iadd dX12_put_39 ?_
        obtain ⟨h_6, e_7, hf⟩ := nm_s hf
        refine V_putI P_X12_134 rfl t_k0 rfl e_7 dX12_put_40 ?_
        exact v_X12_put_43 hd ih hf t_k0
      · have hf := it_s c_2 hf
        refine V_goto (tgt := 43) dX12_put_17 (by decide) ?_
        exact v_X12_put_43 hd ih hf t_k0
set_option maxHeartbeats 4000000 in
set_option maxRecDepth 100000 in
theorem c_X12_put {E : EV} {d : Nat} (hd : 0 + 1 ≤ d) {k0 : Nat} {x1 : Int32} {h : AH} {h0 : AH} (hf : f_X12_put k0 x1 h = some h0) (t_k0 : kd k0 = (0, 12)) : Con E d K_X12_put (ZV E h0) [.ref k0, .int x1] h := by
  obtain ⟨d, rfl⟩ : ∃ d', d = d' + 1 := ⟨d - 1, by omega⟩
  have hd := Nat.le_of_succ_le_succ hd
  refine Con.ofV rfl (Nat.le_of_ble_eq_true rfl) ?_
  unfold f_X12_put at hf
  show V E (d + 1) K_X12_put (ZV E h0) h [(0, .ref k0), (1, .int x1)] [] 0
  refine V_bipush (v := 24) dX12_put_0 (by decide) ?_
  refine V_istore_n (L' := [(2, .int 24), (0, .ref k0), (1, .int x1)]) dX12_put_2 rfl (Nat.le_of_ble_eq_true rfl) rfl rfl ?_
  refine V_sub [1, 2, 0] rfl ?_
  exact v_X12_put_3 hd FU _ _ _ _ hf t_k0
theorem dX12_feed_0 : decode cX12_feed 0 = .ok (.aload_n 0, 1) := by decide +kernel
theorem dX12_feed_1 : decode cX12_feed 1 = .ok (.iconst 0, 1) := by decide +kernel
theorem dX12_feed_2 : decode cX12_feed 2 = .ok (.putfield 120, 3) := by decide +kernel
theorem dX12_feed_5 : decode cX12_feed 5 = .ok (.aload_n 0, 1) := by decide +kernel
theorem dX12_feed_6 : decode cX12_feed 6 = .ok (.getfield 134, 3) := by decide +kernel
theorem dX12_feed_9 : decode cX12_feed 9 = .ok (.iload_n 1, 1) := by decide +kernel
theorem dX12_feed_10 : decode cX12_feed 10 = .ok (.invokestatic 136, 3) := by decide +kernel
theorem dX12_feed_13 : decode cX12_feed 13 = .ok (.iadd, 1) := by decide +kernel
theorem dX12_feed_14 : decode cX12_feed 14 = .ok (.iload_n 2, 1) := by decide +kernel
theorem dX12_feed_15 : decode cX12_feed 15 = .ok (.invokestatic 136, 3) := by decide +kernel
theorem dX12_feed_18 : decode cX12_feed 18 = .ok (.iadd, 1) := by decide +kernel
theorem dX12_feed_19 : decode cX12_feed 19 = .ok (.iload_n 3, 1) := by decide +kernel
theorem dX12_feed_20 : decode cX12_feed 20 = .ok (.invokestatic 136, 3) := by decide +kernel
theorem dX12_feed_23 : decode cX12_feed 23 = .ok (.iadd, 1) := by decide +kernel
theorem dX12_feed_24 : decode cX12_feed 24 = .ok (.iload 4, 2) := by decide +kernel
theorem dX12_feed_26 : decode cX12_feed 26 = .ok (.invokestatic 136, 3) := by decide +kernel
theorem dX12_feed_29 : decode cX12_feed 29 = .ok (.iadd, 1) := by decide +kernel
theorem dX12_feed_30 : decode cX12_feed 30 = .ok (.iload 5, 2) := by decide +kernel
theorem dX12_feed_32 : decode cX12_feed 32 = .ok (.invokestatic 136, 3) := by decide +kernel
theorem dX12_feed_35 : decode cX12_feed 35 = .ok (.iadd, 1) := by decide +kernel
theorem dX12_feed_36 : decode cX12_feed 36 = .ok (.sipush 160, 3) := by decide +kernel
theorem dX12_feed_39 : decode cX12_feed 39 = .ok (.if_icmp .le 5, 3) := by decide +kernel
theorem dX12_feed_42 : decode cX12_feed 42 = .ok (.iconst (-1), 1) := by decide +kernel
theorem dX12_feed_43 : decode cX12_feed 43 = .ok (.ireturn, 1) := by decide +kernel
theorem dX12_feed_44 : decode cX12_feed 44 = .ok (.aload_n 0, 1) := by decide +kernel
theorem dX12_feed_45 : decode cX12_feed 45 = .ok (.iload_n 1, 1) := by decide +kernel
theorem dX12_feed_46 : decode cX12_feed 46 = .ok (.invokevirtual 140, 3) := by decide +kernel
theorem dX12_feed_49 : decode cX12_feed 49 = .ok (.aload_n 0, 1) := by decide +kernel
theorem dX12_feed_50 : decode cX12_feed 50 = .ok (.iload_n 2, 1) := by decide +kernel
theorem dX12_feed_51 : decode cX12_feed 51 = .ok (.invokevirtual 140, 3) := by decide +kernel
theorem dX12_feed_54 : decode cX12_feed 54 = .ok (.aload_n 0, 1) := by decide +kernel
theorem dX12_feed_55 : decode cX12_feed 55 = .ok (.iload_n 3, 1) := by decide +kernel
theorem dX12_feed_56 : decode cX12_feed 56 = .ok (.invokevirtual 140, 3) := by decide +kernel
theorem dX12_feed_59 : decode cX12_feed 59 = .ok (.aload_n 0, 1) := by decide +kernel
theorem dX12_feed_60 : decode cX12_feed 60 = .ok (.iload 4, 2) := by decide +kernel
theorem dX12_feed_62 : decode cX12_feed 62 = .ok (.invokevirtual 140, 3) := by decide +kernel
theorem dX12_feed_65 : decode cX12_feed 65 = .ok (.aload_n 0, 1) := by decide +kernel
theorem dX12_feed_66 : decode cX12_feed 66 = .ok (.iload 5, 2) := by decide +kernel
theorem dX12_feed_68 : decode cX12_feed 68 = .ok (.invokevirtual 140, 3) := by decide +kernel
theorem dX12_feed_71 : decode cX12_feed 71 = .ok (.aload_n 0, 1) := by decide +kernel
theorem dX12_feed_72 : decode cX12_feed 72 = .ok (.getfield 134, 3) := by decide +kernel
theorem dX12_feed_75 : decode cX12_feed 75 = .ok (.ireturn, 1) := by decide +kernel
theorem ML_X12_136 : MLk RX12 136 yX12_bytesIn := Or.inl ml_X12_136
theorem MS_X12_bytesIn : MSk K_X12_bytesIn 1 := ⟨⟨cd_X12_bytesIn, in_X12, ⟨by decide, by decide, by decide +kernel⟩, by decide⟩, st_X12_bytesIn⟩
theorem ML_X12_140 : MLk RX12 140 yX12_put := Or.inl ml_X12_140
theorem MV_X12_put : MVk K_X12_put 1 12 := ⟨⟨cd_X12_put, in_X12, ⟨by decide, by decide, by decide +kernel⟩, by decide⟩, im_X12_put, se_X12_put, _, _, rfl⟩
def f_X12_feed (k0 : Nat) (x1 : Int32) (x2 : Int32) (x3 : Int32) (x4 : Int32) (x5 : Int32) (h : AH) : Option (Int32 × AH) :=
  nm (sI h k0 0 0) fun h_1 =>
  ob (f_X12_bytesIn x1 h_1) fun r_5 h_4 =>
  ob (f_X12_bytesIn x2 h_4) fun r_8 h_7 =>
  ob (f_X12_bytesIn x3 h_7) fun r_11 h_10 =>
  ob (f_X12_bytesIn x4 h_10) fun r_14 h_13 =>
  ob (f_X12_bytesIn x5 h_13) fun r_17 h_16 =>
  if ((((((h_1.1 k0 6) + r_5) + r_8) + r_11) + r_14) + r_17) ≤ 160 then (
    ov (f_X12_put k0 x1 h_16) fun h_20 =>
    ov (f_X12_put k0 x2 h_20) fun h_22 =>
    ov (f_X12_put k0 x3 h_22) fun h_24 =>
    ov (f_X12_put k0 x4 h_24) fun h_26 =>
    ov (f_X12_put k0 x5 h_26) fun h_28 =>
    some ((h_28.1 k0 6), h_28)
  ) else (
    some ((-1), h_16)
  )
set_option maxHeartbeats 4000000 in
set_option maxRecDepth 100000 in
theorem c_X12_feed {E : EV} {d : Nat} (hd : 1 + 1 ≤ d) {k0 : Nat} {x1 : Int32} {x2 : Int32} {x3 : Int32} {x4 : Int32} {x5 : Int32} {h : AH} {r0 : Int32} {h0 : AH} (hf : f_X12_feed k0 x1 x2 x3 x4 x5 h = some (r0, h0)) (t_k0 : kd k0 = (0, 12)) : Con E d K_X12_feed (ZI E r0 h0) [.ref k0, .int x1, .int x2, .int x3, .int x4, .int x5] h := by
  obtain ⟨d, rfl⟩ : ∃ d', d = d' + 1 := ⟨d - 1, by omega⟩
  have hd := Nat.le_of_succ_le_succ hd
  refine Con.ofV rfl (Nat.le_of_ble_eq_true rfl) ?_
  unfold f_X12_feed at hf
  show V E (d + 1) K_X12_feed (ZI E r0 h0) h [(0, .ref k0), (1, .int x1), (2, .int x2), (3, .int x3), (4, .int x4), (5, .int x5)] [] 0
  refine V_aload_n 0 dX12_feed_0 rfl rfl ?_
  refine V_iconst (v := 0) dX12_feed_1 (by decide) ?_
  obtain ⟨h_1, e_2, hf⟩ := nm_s hf
  refine V_putI P_X12_120 rfl t_k0 rfl e_2 dX12_feed_2 ?_
  refine V_aload_n 0 dX12_feed_5 rfl rfl ?_
  refine V_getI F_X12_134 rfl t_k0 rfl dX12_feed_6 ?_
  refine V_iload_n 1 dX12_feed_9 rfl rfl ?_
  obtain ⟨r_5, h_4, e_3, hf⟩ := ob_s hf
  refine V_csi (As := [.int x1]) (rest := [.int (h_1.1 k0 6)]) (c_X12_bytesIn (d := d) (Nat.le_trans (Nat.le_of_ble_eq_true rfl) hd) e_3) ML_X12_136 MS_X12_bytesIn rfl rfl rfl (Nat.le_of_ble_eq_true rfl) dX12_feed_10 ?_
  refine V_iadd dX12_feed_13 ?_
  refine V_iload_n 2 dX12_feed_14 rfl rfl ?_
  obtain ⟨r_8, h_7, e_6, hf⟩ := ob_s hf
  refine V_csi (As := [.int x2]) (rest := [.int ((h_1.1 k0 6) + r_5)]) (c_X12_bytesIn (d := d) (Nat.le_trans (Nat.le_of_ble_eq_true rfl) hd) e_6) ML_X12_136 MS_X12_bytesIn rfl rfl rfl (Nat.le_of_ble_eq_true rfl) dX12_feed_15 ?_
  refine V_iadd dX12_feed_18 ?_
  refine V_iload_n 3 dX12_feed_19 rfl rfl ?_
  obtain ⟨r_11, h_10, e_9, hf⟩ := ob_s hf
  refine V_csi (As := [.int x3]) (rest := [.int (((h_1.1 k0 6) + r_5) + r_8)]) (c_X12_bytesIn (d := d) (Nat.le_trans (Nat.le_of_ble_eq_true rfl) hd) e_9) ML_X12_136 MS_X12_bytesIn rfl rfl rfl (Nat.le_of_ble_eq_true rfl) dX12_feed_20 ?_
  refine V_iadd dX12_feed_23 ?_
  refine V_iload 4 dX12_feed_24 rfl ?_
  obtain ⟨r_14, h_13, e_12, hf⟩ := ob_s hf
  refine V_csi (As := [.int x4]) (rest := [.int ((((h_1.1 k0 6) + r_5) + r_8) + r_11)]) (c_X12_bytesIn (d := d) (Nat.le_trans (Nat.le_of_ble_eq_true rfl) hd) e_12) ML_X12_136 MS_X12_bytesIn rfl rfl rfl (Nat.le_of_ble_eq_true rfl) dX12_feed_26 ?_
  refine V_iadd dX12_feed_29 ?_
  refine V_iload 5 dX12_feed_30 rfl ?_
  obtain ⟨r_17, h_16, e_15, hf⟩ := ob_s hf
  refine V_csi (As := [.int x5]) (rest := [.int (((((h_1.1 k0 6) + r_5) + r_8) + r_11) + r_14)]) (c_X12_bytesIn (d := d) (Nat.le_trans (Nat.le_of_ble_eq_true rfl) hd) e_15) ML_X12_136 MS_X12_bytesIn rfl rfl rfl (Nat.le_of_ble_eq_true rfl) dX12_feed_32 ?_
  refine V_iadd dX12_feed_35 ?_
  refine V_sipush (v := 160) dX12_feed_36 (by decide) ?_
  refine V_ic_le (tgt := 44) dX12_feed_39 (by decide) (fun c_18 => ?_) (fun c_18 => ?_)
  · have hf := it_s c_18 hf
    refine V_aload_n 0 dX12_feed_44 rfl rfl ?_
    refine V_iload_n 1 dX12_feed_45 rfl rfl ?_
    obtain ⟨h_20, e_19, hf⟩ := ov_s hf
    refine V_cvv (As := [.int x1]) (rest := []) (c_X12_put (d := d) (Nat.le_trans (Nat.le_of_ble_eq_true rfl) hd) e_19 t_k0) ML_X12_140 MV_X12_put rfl t_k0 rfl rfl (Nat.le_of_ble_eq_true rfl) dX12_feed_46 ?_
    refine V_aload_n 0 dX12_feed_49 rfl rfl ?_
    refine V_iload_n 2 dX12_feed_50 rfl rfl ?_
    obtain ⟨h_22, e_21, hf⟩ := ov_s hf
    refine V_cvv (As := [.int x2]) (rest := []) (c_X12_put (d := d) (Nat.le_trans (Nat.le_of_ble_eq_true rfl) hd) e_21 t_k0) ML_X12_140 MV_X12_put rfl t_k0 rfl rfl (Nat.le_of_ble_eq_true rfl) dX12_feed_51 ?_
    refine V_aload_n 0 dX12_feed_54 rfl rfl ?_
    refine V_iload_n 3 dX12_feed_55 rfl rfl ?_
    obtain ⟨h_24, e_23, hf⟩ := ov_s hf
    refine V_cvv (As := [.int x3]) (rest := []) (c_X12_put (d := d) (Nat.le_trans (Nat.le_of_ble_eq_true rfl) hd) e_23 t_k0) ML_X12_140 MV_X12_put rfl t_k0 rfl rfl (Nat.le_of_ble_eq_true rfl) dX12_feed_56 ?_
    refine V_aload_n 0 dX12_feed_59 rfl rfl ?_
    refine V_iload 4 dX12_feed_60 rfl ?_
    obtain ⟨h_26, e_25, hf⟩ := ov_s hf
    refine V_cvv (As := [.int x4]) (rest := []) (c_X12_put (d := d) (Nat.le_trans (Nat.le_of_ble_eq_true rfl) hd) e_25 t_k0) ML_X12_140 MV_X12_put rfl t_k0 rfl rfl (Nat.le_of_ble_eq_true rfl) dX12_feed_62 ?_
    refine V_aload_n 0 dX12_feed_65 rfl rfl ?_
    refine V_iload 5 dX12_feed_66 rfl ?_
    obtain ⟨h_28, e_27, hf⟩ := ov_s hf
    refine V_cvv (As := [.int x5]) (rest := []) (c_X12_put (d := d) (Nat.le_trans (Nat.le_of_ble_eq_true rfl) hd) e_27 t_k0) ML_X12_140 MV_X12_put rfl t_k0 rfl rfl (Nat.le_of_ble_eq_true rfl) dX12_feed_68 ?_
    refine V_aload_n 0 dX12_feed_71 rfl rfl ?_
    refine V_getI F_X12_134 rfl t_k0 rfl dX12_feed_72 ?_
    exact V_iret rfl (so_s hf) dX12_feed_75
  · have hf := if_s c_18 hf
    refine V_iconst (v := (-1)) dX12_feed_42 (by decide) ?_
    exact V_iret rfl (so_s hf) dX12_feed_43
theorem dX12_fits_0 : decode cX12_fits 0 = .ok (.aload_n 0, 1) := by decide +kernel
theorem dX12_fits_1 : decode cX12_fits 1 = .ok (.iconst 0, 1) := by decide +kernel
theorem dX12_fits_2 : decode cX12_fits 2 = .ok (.putfield 120, 3) := by decide +kernel
theorem dX12_fits_5 : decode cX12_fits 5 = .ok (.aload_n 0, 1) := by decide +kernel
theorem dX12_fits_6 : decode cX12_fits 6 = .ok (.iload_n 1, 1) := by decide +kernel
theorem dX12_fits_7 : decode cX12_fits 7 = .ok (.invokevirtual 295, 3) := by decide +kernel
theorem dX12_fits_10 : decode cX12_fits 10 = .ok (.ifCond .eq 11, 3) := by decide +kernel
theorem dX12_fits_13 : decode cX12_fits 13 = .ok (.aload_n 0, 1) := by decide +kernel
theorem dX12_fits_14 : decode cX12_fits 14 = .ok (.iload_n 2, 1) := by decide +kernel
theorem dX12_fits_15 : decode cX12_fits 15 = .ok (.invokevirtual 295, 3) := by decide +kernel
theorem dX12_fits_18 : decode cX12_fits 18 = .ok (.ifCond .ne 7, 3) := by decide +kernel
theorem dX12_fits_21 : decode cX12_fits 21 = .ok (.iconst (-1), 1) := by decide +kernel
theorem dX12_fits_22 : decode cX12_fits 22 = .ok (.goto 17, 3) := by decide +kernel
theorem dX12_fits_25 : decode cX12_fits 25 = .ok (.aload_n 0, 1) := by decide +kernel
theorem dX12_fits_26 : decode cX12_fits 26 = .ok (.iload_n 1, 1) := by decide +kernel
theorem dX12_fits_27 : decode cX12_fits 27 = .ok (.iload_n 2, 1) := by decide +kernel
theorem dX12_fits_28 : decode cX12_fits 28 = .ok (.invokevirtual 306, 3) := by decide +kernel
theorem dX12_fits_31 : decode cX12_fits 31 = .ok (.ifCond .eq 7, 3) := by decide +kernel
theorem dX12_fits_34 : decode cX12_fits 34 = .ok (.iconst 1, 1) := by decide +kernel
theorem dX12_fits_35 : decode cX12_fits 35 = .ok (.goto 4, 3) := by decide +kernel
theorem dX12_fits_38 : decode cX12_fits 38 = .ok (.iconst 0, 1) := by decide +kernel
theorem dX12_fits_39 : decode cX12_fits 39 = .ok (.ireturn, 1) := by decide +kernel
def f_X12_fits_39 (s0 : Int32) (h : AH) : Option (Int32 × AH) :=
  some (s0, h)
def f_X12_fits_21  (h : AH) : Option (Int32 × AH) :=
  f_X12_fits_39 (-1) h
def f_X12_fits (k0 : Nat) (x1 : Int32) (x2 : Int32) (h : AH) : Option (Int32 × AH) :=
  nm (sI h k0 0 0) fun h_1 =>
  ob (f_X12_isPerson k0 x1 h_1) fun r_5 h_4 =>
  if r_5 = 0 then (
    f_X12_fits_21 h_4
  ) else (
    ob (f_X12_isPerson k0 x2 h_4) fun r_9 h_8 =>
    if r_9 = 0 then (
      f_X12_fits_21 h_8
    ) else (
      ob (f_X12_doesFit k0 x1 x2 h_8) fun r_13 h_12 =>
      if r_13 = 0 then (
        f_X12_fits_39 0 h_12
      ) else (
        f_X12_fits_39 1 h_12
      )
    )
  )
set_option maxHeartbeats 4000000 in
set_option maxRecDepth 100000 in
theorem v_X12_fits_39 {E : EV} {d : Nat} (hd : 2 ≤ d) {r0 : Int32} {h0 : AH} {s0 : Int32} {h : AH} (hf : f_X12_fits_39 s0 h = some (r0, h0)) : V E (d + 1) K_X12_fits (ZI E r0 h0) h [] [.int s0] 39 := by
  unfold f_X12_fits_39 at hf
  exact V_iret rfl (so_s hf) dX12_fits_39
set_option maxHeartbeats 4000000 in
set_option maxRecDepth 100000 in
theorem v_X12_fits_21 {E : EV} {d : Nat} (hd : 2 ≤ d) {r0 : Int32} {h0 : AH}  {h : AH} (hf : f_X12_fits_21 h = some (r0, h0)) : V E (d + 1) K_X12_fits (ZI E r0 h0) h [] [] 21 := by
  unfold f_X12_fits_21 at hf
  refine V_iconst (v := (-1)) dX12_fits_21 (by decide) ?_
  refine V_goto (tgt := 39) dX12_fits_22 (by decide) ?_
  exact v_X12_fits_39 hd hf
set_option maxHeartbeats 4000000 in
set_option maxRecDepth 100000 in
theorem c_X12_fits {E : EV} {d : Nat} (hd : 2 + 1 ≤ d) {k0 : Nat} {x1 : Int32} {x2 : Int32} {h : AH} {r0 : Int32} {h0 : AH} (hf : f_X12_fits k0 x1 x2 h = some (r0, h0)) (t_k0 : kd k0 = (0, 12)) : Con E d K_X12_fits (ZI E r0 h0) [.ref k0, .int x1, .int x2] h := by
  obtain ⟨d, rfl⟩ : ∃ d', d = d' + 1 := ⟨d - 1, by omega⟩
  have hd := Nat.le_of_succ_le_succ hd
  refine Con.ofV rfl (Nat.le_of_ble_eq_true rfl) ?_
  unfold f_X12_fits at hf
  show V E (d + 1) K_X12_fits (ZI E r0 h0) h [(0, .ref k0), (1, .int x1), (2, .int x2)] [] 0
  refine V_aload_n 0 dX12_fits_0 rfl rfl ?_
  refine V_iconst (v := 0) dX12_fits_1 (by decide) ?_
  obtain ⟨h_1, e_2, hf⟩ := nm_s hf
  refine V_putI P_X12_120 rfl t_k0 rfl e_2 dX12_fits_2 ?_
  refine V_aload_n 0 dX12_fits_5 rfl rfl ?_
  refine V_iload_n 1 dX12_fits_6 rfl rfl ?_
  obtain ⟨r_5, h_4, e_3, hf⟩ := ob_s hf
  refine V_cvi (As := [.int x1]) (rest := []) (c_X12_isPerson (d := d) (Nat.le_trans (Nat.le_of_ble_eq_true rfl) hd) e_3 t_k0) ML_X12_295 MV_X12_isPerson rfl t_k0 rfl rfl (Nat.le_of_ble_eq_true rfl) dX12_fits_7 ?_
  refine V_if_eq (tgt := 21) dX12_fits_10 (by decide) (fun c_6 => ?_) (fun c_6 => ?_)
  · have hf := it_s c_6 hf
    refine V_sub [] rfl ?_
    exact v_X12_fits_21 hd hf
  · have hf := if_s c_6 hf
    refine V_aload_n 0 dX12_fits_13 rfl rfl ?_
    refine V_iload_n 2 dX12_fits_14 rfl rfl ?_
    obtain ⟨r_9, h_8, e_7, hf⟩ := ob_s hf
    refine V_cvi (As := [.int x2]) (rest := []) (c_X12_isPerson (d := d) (Nat.le_trans (Nat.le_of_ble_eq_true rfl) hd) e_7 t_k0) ML_X12_295 MV_X12_isPerson rfl t_k0 rfl rfl (Nat.le_of_ble_eq_true rfl) dX12_fits_15 ?_
    refine V_if_ne (tgt := 25) dX12_fits_18 (by decide) (fun c_10 => ?_) (fun c_10 => ?_)
    · have hf := if_s c_10 hf
      refine V_aload_n 0 dX12_fits_25 rfl rfl ?_
      refine V_iload_n 1 dX12_fits_26 rfl rfl ?_
      refine V_iload_n 2 dX12_fits_27 rfl rfl ?_
      obtain ⟨r_13, h_12, e_11, hf⟩ := ob_s hf
      refine V_cvi (As := [.int x1, .int x2]) (rest := []) (c_X12_doesFit (d := d) (Nat.le_trans (Nat.le_of_ble_eq_true rfl) hd) e_11 t_k0) ML_X12_306 MV_X12_doesFit rfl t_k0 rfl rfl (Nat.le_of_ble_eq_true rfl) dX12_fits_28 ?_
      refine V_if_eq (tgt := 38) dX12_fits_31 (by decide) (fun c_14 => ?_) (fun c_14 => ?_)
      · have hf := it_s c_14 hf
        refine V_iconst (v := 0) dX12_fits_38 (by decide) ?_
        refine V_sub [] rfl ?_
        exact v_X12_fits_39 hd hf
      · have hf := if_s c_14 hf
        refine V_iconst (v := 1) dX12_fits_34 (by decide) ?_
        refine V_goto (tgt := 39) dX12_fits_35 (by decide) ?_
        refine V_sub [] rfl ?_
        exact v_X12_fits_39 hd hf
    · have hf := it_s c_10 hf
      refine V_sub [] rfl ?_
      exact v_X12_fits_21 hd hf
theorem dX12_orderByRounds_0 : decode cX12_orderByRounds 0 = .ok (.aload_n 0, 1) := by decide +kernel
theorem dX12_orderByRounds_1 : decode cX12_orderByRounds 1 = .ok (.iconst 0, 1) := by decide +kernel
theorem dX12_orderByRounds_2 : decode cX12_orderByRounds 2 = .ok (.putfield 321, 3) := by decide +kernel
theorem dX12_orderByRounds_5 : decode cX12_orderByRounds 5 = .ok (.iconst 0, 1) := by decide +kernel
theorem dX12_orderByRounds_6 : decode cX12_orderByRounds 6 = .ok (.istore_n 2, 1) := by decide +kernel
theorem dX12_orderByRounds_7 : decode cX12_orderByRounds 7 = .ok (.iload_n 2, 1) := by decide +kernel
theorem dX12_orderByRounds_8 : decode cX12_orderByRounds 8 = .ok (.iconst 4, 1) := by decide +kernel
theorem dX12_orderByRounds_9 : decode cX12_orderByRounds 9 = .ok (.if_icmp .ge 66, 3) := by decide +kernel
theorem dX12_orderByRounds_12 : decode cX12_orderByRounds 12 = .ok (.iconst 0, 1) := by decide +kernel
theorem dX12_orderByRounds_13 : decode cX12_orderByRounds 13 = .ok (.istore_n 3, 1) := by decide +kernel
theorem dX12_orderByRounds_14 : decode cX12_orderByRounds 14 = .ok (.iload_n 3, 1) := by decide +kernel
theorem dX12_orderByRounds_15 : decode cX12_orderByRounds 15 = .ok (.aload_n 0, 1) := by decide +kernel
theorem dX12_orderByRounds_16 : decode cX12_orderByRounds 16 = .ok (.getfield 283, 3) := by decide +kernel
theorem dX12_orderByRounds_19 : decode cX12_orderByRounds 19 = .ok (.if_icmp .ge 50, 3) := by decide +kernel
theorem dX12_orderByRounds_22 : decode cX12_orderByRounds 22 = .ok (.iload_n 1, 1) := by decide +kernel
theorem dX12_orderByRounds_23 : decode cX12_orderByRounds 23 = .ok (.iload_n 3, 1) := by decide +kernel
theorem dX12_orderByRounds_24 : decode cX12_orderByRounds 24 = .ok (.invokestatic 258, 3) := by decide +kernel
theorem dX12_orderByRounds_27 : decode cX12_orderByRounds 27 = .ok (.ifCond .eq 36, 3) := by decide +kernel
theorem dX12_orderByRounds_30 : decode cX12_orderByRounds 30 = .ok (.aload_n 0, 1) := by decide +kernel
theorem dX12_orderByRounds_31 : decode cX12_orderByRounds 31 = .ok (.getfield 75, 3) := by decide +kernel
theorem dX12_orderByRounds_34 : decode cX12_orderByRounds 34 = .ok (.iload_n 3, 1) := by decide +kernel
theorem dX12_orderByRounds_35 : decode cX12_orderByRounds 35 = .ok (.iaload, 1) := by decide +kernel
theorem dX12_orderByRounds_36 : decode cX12_orderByRounds 36 = .ok (.iload_n 2, 1) := by decide +kernel
theorem dX12_orderByRounds_37 : decode cX12_orderByRounds 37 = .ok (.if_icmp .eq 6, 3) := by decide +kernel
theorem dX12_orderByRounds_40 : decode cX12_orderByRounds 40 = .ok (.goto 23, 3) := by decide +kernel
theorem dX12_orderByRounds_43 : decode cX12_orderByRounds 43 = .ok (.aload_n 0, 1) := by decide +kernel
theorem dX12_orderByRounds_44 : decode cX12_orderByRounds 44 = .ok (.getfield 60, 3) := by decide +kernel
theorem dX12_orderByRounds_47 : decode cX12_orderByRounds 47 = .ok (.aload_n 0, 1) := by decide +kernel
theorem dX12_orderByRounds_48 : decode cX12_orderByRounds 48 = .ok (.getfield 321, 3) := by decide +kernel
theorem dX12_orderByRounds_51 : decode cX12_orderByRounds 51 = .ok (.iload_n 3, 1) := by decide +kernel
theorem dX12_orderByRounds_52 : decode cX12_orderByRounds 52 = .ok (.iastore, 1) := by decide +kernel
theorem dX12_orderByRounds_53 : decode cX12_orderByRounds 53 = .ok (.aload_n 0, 1) := by decide +kernel
theorem dX12_orderByRounds_54 : decode cX12_orderByRounds 54 = .ok (.dup, 1) := by decide +kernel
theorem dX12_orderByRounds_55 : decode cX12_orderByRounds 55 = .ok (.getfield 321, 3) := by decide +kernel
theorem dX12_orderByRounds_58 : decode cX12_orderByRounds 58 = .ok (.iconst 1, 1) := by decide +kernel
theorem dX12_orderByRounds_59 : decode cX12_orderByRounds 59 = .ok (.iadd, 1) := by decide +kernel
theorem dX12_orderByRounds_60 : decode cX12_orderByRounds 60 = .ok (.putfield 321, 3) := by decide +kernel
theorem dX12_orderByRounds_63 : decode cX12_orderByRounds 63 = .ok (.iinc 3 1, 3) := by decide +kernel
theorem dX12_orderByRounds_66 : decode cX12_orderByRounds 66 = .ok (.goto (-52), 3) := by decide +kernel
theorem dX12_orderByRounds_69 : decode cX12_orderByRounds 69 = .ok (.iinc 2 1, 3) := by decide +kernel
theorem dX12_orderByRounds_72 : decode cX12_orderByRounds 72 = .ok (.goto (-65), 3) := by decide +kernel
theorem dX12_orderByRounds_75 : decode cX12_orderByRounds 75 = .ok (.return_, 1) := by decide +kernel
theorem F_X12_75 : FLk RX12 75 12 36 := ⟨RX12, TX12, 58, rfl, rfl, iw_X12, by decide, Or.inl fl_X12_75⟩
def f_X12_orderByRounds_63 (q14 : Nat → Int32 → Int32 → Int32 → AH → Option AH) (k0 : Nat) (x1 : Int32) (x2 : Int32) (x3 : Int32) (h : AH) : Option AH :=
  nm (x3 + 1) fun x3_1 =>
  q14 k0 x1 x2 x3_1 h
def f_X12_orderByRounds_14 (q7 : Nat → Int32 → Int32 → AH → Option AH) : Nat → Nat → Int32 → Int32 → Int32 → AH → Option AH
  | 0, _, _, _, _, _ => none
  | n + 1, k0, x1, x2, x3, h =>
    if (h.1 k0 20) ≤ x3 then (
      nm (x2 + 1) fun x2_2 =>
      q7 k0 x1 x2_2 h
    ) else (
      ob (f_X12_has x1 x3 h) fun r_6 h_5 =>
      if r_6 = 0 then (
        f_X12_orderByRounds_63 (f_X12_orderByRounds_14 q7 n) k0 x1 x2 x3 h_5
      ) else (
        og (ix x3 (an (rf k0 36))) <|
        if (h_5.1 (rf k0 36) x3.toNatClampNeg) = x2 then (
          og (ix (h_5.1 k0 29) (an (rf k0 27))) <|
          nm (sI h_5 (rf k0 27) (h_5.1 k0 29).toNatClampNeg x3) fun h_11 =>
          nm (sI h_11 k0 29 ((h_11.1 k0 29) + 1)) fun h_13 =>
          f_X12_orderByRounds_63 (f_X12_orderByRounds_14 q7 n) k0 x1 x2 x3 h_13
        ) else (
          f_X12_orderByRounds_63 (f_X12_orderByRounds_14 q7 n) k0 x1 x2 x3 h_5
        )
      )
    )
def f_X12_orderByRounds_7 : Nat → Nat → Int32 → Int32 → AH → Option AH
  | 0, _, _, _, _ => none
  | n + 1, k0, x1, x2, h =>
    if 4 ≤ x2 then (
      some h
    ) else (
      f_X12_orderByRounds_14 (f_X12_orderByRounds_7 n) FU k0 x1 x2 0 h
    )
def f_X12_orderByRounds (k0 : Nat) (x1 : Int32) (h : AH) : Option AH :=
  nm (sI h k0 29 0) fun h_1 =>
  f_X12_orderByRounds_7 FU k0 x1 0 h_1
set_option maxHeartbeats 4000000 in
set_option maxRecDepth 100000 in
theorem v_X12_orderByRounds_63 {E : EV} {d : Nat} (hd : 1 ≤ d) {h0 : AH} {q14 : Nat → Int32 → Int32 → Int32 → AH → Option AH} (cq14 : ∀ (k0 : Nat) (x1 : Int32) (x2 : Int32) (x3 : Int32) (h : AH), q14 k0 x1 x2 x3 h = some h0 → kd k0 = (0, 12) → V E (d + 1) K_X12_orderByRounds (ZV E h0) h [(0, .ref k0), (1, .int x1), (2, .int x2), (3, .int x3)] [] 14) {k0 : Nat} {x1 : Int32} {x2 : Int32} {x3 : Int32} {h : AH} (hf : f_X12_orderByRounds_63 q14 k0 x1 x2 x3 h = some h0) (t_k0 : kd k0 = (0, 12)) : V E (d + 1) K_X12_orderByRounds (ZV E h0) h [(0, .ref k0), (1, .int x1), (2, .int x2), (3, .int x3)] [] 63 := by
  unfold f_X12_orderByRounds_63 at hf
  obtain ⟨x3_1, e_2, hf⟩ := nm_s hf
  refine V_iinc (a := 1) (L' := [(3, .int x3_1), (0, .ref k0), (1, .int x1), (2, .int x2)]) 3 dX12_orderByRounds_63 rfl (by decide) (Nat.le_of_ble_eq_true rfl) e_2 rfl ?_
  refine V_goto (tgt := 14) dX12_orderByRounds_66 (by decide) ?_
  refine V_sub [1, 2, 3, 0] rfl ?_
  exact cq14 _ _ _ _ _ hf t_k0
set_option maxHeartbeats 4000000 in
set_option maxRecDepth 100000 in
theorem v_X12_orderByRounds_14 {E : EV} {d : Nat} (hd : 1 ≤ d) {h0 : AH} {q7 : Nat → Int32 → Int32 → AH → Option AH} (cq7 : ∀ (k0 : Nat) (x1 : Int32) (x2 : Int32) (h : AH), q7 k0 x1 x2 h = some h0 → kd k0 = (0, 12) → V E (d + 1) K_X12_orderByRounds (ZV E h0) h [(0, .ref k0), (1, .int x1), (2, .int x2)] [] 7) : ∀ (n : Nat) (k0 : Nat) (x1 : Int32) (x2 : Int32) (x3 : Int32) (h : AH), f_X12_orderByRounds_14 q7 n k0 x1 x2 x3 h = some h0 → kd k0 = (0, 12) → V E (d + 1) K_X12_orderByRounds (ZV E h0) h [(0, .ref k0), (1, .int x1), (2, .int x2), (3, .int x3)] [] 14 := by
  intro n
  induction n with
  | zero =>
    intro k0 x1 x2 x3 h hf
    rw [f_X12_orderByRounds_14] at hf
    cases hf
  | succ n ih =>
    intro k0 x1 x2 x3 h hf t_k0
    rw [f_X12_orderByRounds_14] at hf
    refine V_iload_n 3 dX12_orderByRounds_14 rfl rfl ?_
    refine V_aload_n 0 dX12_orderByRounds_15 rfl rfl ?_
    refine V_getI F_X12_283 rfl t_k0 rfl dX12_orderByRounds_16 ?_
    refine V_ic_ge (tgt := 69) dX12_orderByRounds_19 (by decide) (fun c_1 => ?_) (fun c_1 => ?_)
    · have hf := it_s c_1 hf
      obtain ⟨x2_2, e_3, hf⟩ := nm_s hf
      refine V_iinc (a := 1) (L' := [(2, .int x2_2), (0, .ref k0), (1, .int x1), (3, .int x3)]) 2 dX12_orderByRounds_69 rfl (by decide) (Nat.le_of_ble_eq_true rfl) e_3 rfl ?_
      refine V_goto (tgt := 7) dX12_orderByRounds_72 (by decide) ?_
      refine V_sub [1, 2, 0] rfl ?_
      exact cq7 _ _ _ _ hf t_k0
    · have hf := if_s c_1 hf
      refine V_iload_n 1 dX12_orderByRounds_22 rfl rfl ?_
      refine V_iload_n 3 dX12_orderByRounds_23 rfl rfl ?_
      obtain ⟨r_6, h_5, e_4, hf⟩ := ob_s hf
      refine V_csi (As := [.int x1, .int x3]) (rest := []) (c_X12_has (d := d) (Nat.le_trans (Nat.le_of_ble_eq_true rfl) hd) e_4) ML_X12_258 MS_X12_has rfl rfl rfl (Nat.le_of_ble_eq_true rfl) dX12_orderByRounds_24 ?_
      refine V_if_eq (tgt := 63) dX12_orderByRounds_27 (by decide) (fun c_7 => ?_) (fun c_7 => ?_)
      · have hf := it_s c_7 hf
        exact v_X12_orderByRounds_63 hd ih hf t_k0
      · have hf := if_s c_7 hf
        refine V_aload_n 0 dX12_orderByRounds_30 rfl rfl ?_
        refine V_getR F_X12_75 rfl t_k0 rfl dX12_orderByRounds_31 ?_
        refine V_iload_n 3 dX12_orderByRounds_34 rfl rfl ?_
        obtain ⟨b_8, hf⟩ := og_s hf
        refine V_iald (rfA t_k0 (Nat.le_of_ble_eq_true rfl) rfl rfl (by decide)) b_8 dX12_orderByRounds_35 ?_
        refine V_iload_n 2 dX12_orderByRounds_36 rfl rfl ?_
        refine V_ic_eq (tgt := 43) dX12_orderByRounds_37 (by decide) (fun c_9 => ?_) (fun c_9 => ?_)
        · have hf := it_s c_9 hf
          refine V_aload_n 0 dX12_orderByRounds_43 rfl rfl ?_
          refine V_getR F_X12_60 rfl t_k0 rfl dX12_orderByRounds_44 ?_
          refine V_aload_n 0 dX12_orderByRounds_47 rfl rfl ?_
          refine V_getI F_X12_321 rfl t_k0 rfl dX12_orderByRounds_48 ?_
          refine V_iload_n 3 dX12_orderByRounds_51 rfl rfl ?_
          obtain ⟨b_10, hf⟩ := og_s hf
          obtain ⟨h_11, e_12, hf⟩ := nm_s hf
          refine V_iast (rfA t_k0 (Nat.le_of_ble_eq_true rfl) rfl rfl (by decide)) b_10 e_12 dX12_orderByRounds_52 ?_
          refine V_aload_n 0 dX12_orderByRounds_53 rfl rfl ?_
          refine V_dup dX12_orderByRounds_54 rfl ?_
          refine V_getI F_X12_321 rfl t_k0 rfl dX12_orderByRounds_55 ?_
          refine V_iconst (v := 1) dX12_orderByRounds_58 (by decide) ?_
          refine V_iadd dX12_orderByRounds_59 ?_
          obtain ⟨h_13, e_14, hf⟩ := nm_s hf
          refine V_putI P_X12_321 rfl t_k0 rfl e_14 dX12_orderByRounds_60 ?_
          exact v_X12_orderByRounds_63 hd ih hf t_k0
        · have hf := if_s c_9 hf
          refine V_goto (tgt := 63) dX12_orderByRounds_40 (by decide) ?_
          exact v_X12_orderByRounds_63 hd ih hf t_k0
set_option maxHeartbeats 4000000 in
set_option maxRecDepth 100000 in
theorem v_X12_orderByRounds_7 {E : EV} {d : Nat} (hd : 1 ≤ d) {h0 : AH} : ∀ (n : Nat) (k0 : Nat) (x1 : Int32) (x2 : Int32) (h : AH), f_X12_orderByRounds_7 n k0 x1 x2 h = some h0 → kd k0 = (0, 12) → V E (d + 1) K_X12_orderByRounds (ZV E h0) h [(0, .ref k0), (1, .int x1), (2, .int x2)] [] 7 := by
  intro n
  induction n with
  | zero =>
    intro k0 x1 x2 h hf
    rw [f_X12_orderByRounds_7] at hf
    cases hf
  | succ n ih =>
    intro k0 x1 x2 h hf t_k0
    rw [f_X12_orderByRounds_7] at hf
    refine V_iload_n 2 dX12_orderByRounds_7 rfl rfl ?_
    refine V_iconst (v := 4) dX12_orderByRounds_8 (by decide) ?_
    refine V_ic_ge (tgt := 75) dX12_orderByRounds_9 (by decide) (fun c_1 => ?_) (fun c_1 => ?_)
    · have hf := it_s c_1 hf
      exact V_vret rfl (so_s hf) dX12_orderByRounds_75
    · have hf := if_s c_1 hf
      refine V_iconst (v := 0) dX12_orderByRounds_12 (by decide) ?_
      refine V_istore_n (L' := [(3, .int 0), (0, .ref k0), (1, .int x1), (2, .int x2)]) dX12_orderByRounds_13 rfl (Nat.le_of_ble_eq_true rfl) rfl rfl ?_
      refine V_sub [1, 2, 3, 0] rfl ?_
      exact v_X12_orderByRounds_14 hd ih FU _ _ _ _ _ hf t_k0
set_option maxHeartbeats 4000000 in
set_option maxRecDepth 100000 in
theorem c_X12_orderByRounds {E : EV} {d : Nat} (hd : 1 + 1 ≤ d) {k0 : Nat} {x1 : Int32} {h : AH} {h0 : AH} (hf : f_X12_orderByRounds k0 x1 h = some h0) (t_k0 : kd k0 = (0, 12)) : Con E d K_X12_orderByRounds (ZV E h0) [.ref k0, .int x1] h := by
  obtain ⟨d, rfl⟩ : ∃ d', d = d' + 1 := ⟨d - 1, by omega⟩
  have hd := Nat.le_of_succ_le_succ hd
  refine Con.ofV rfl (Nat.le_of_ble_eq_true rfl) ?_
  unfold f_X12_orderByRounds at hf
  show V E (d + 1) K_X12_orderByRounds (ZV E h0) h [(0, .ref k0), (1, .int x1)] [] 0
  refine V_aload_n 0 dX12_orderByRounds_0 rfl rfl ?_
  refine V_iconst (v := 0) dX12_orderByRounds_1 (by decide) ?_
  obtain ⟨h_1, e_2, hf⟩ := nm_s hf
  refine V_putI P_X12_321 rfl t_k0 rfl e_2 dX12_orderByRounds_2 ?_
  refine V_iconst (v := 0) dX12_orderByRounds_5 (by decide) ?_
  refine V_istore_n (L' := [(2, .int 0), (0, .ref k0), (1, .int x1)]) dX12_orderByRounds_6 rfl (Nat.le_of_ble_eq_true rfl) rfl rfl ?_
  refine V_sub [1, 2, 0] rfl ?_
  exact v_X12_orderByRounds_7 hd FU _ _ _ _ hf t_k0
theorem dX12_worthOf_0 : decode cX12_worthOf 0 = .ok (.aload_n 0, 1) := by decide +kernel
theorem dX12_worthOf_1 : decode cX12_worthOf 1 = .ok (.getfield 63, 3) := by decide +kernel
theorem dX12_worthOf_4 : decode cX12_worthOf 4 = .ok (.iload_n 1, 1) := by decide +kernel
theorem dX12_worthOf_5 : decode cX12_worthOf 5 = .ok (.iaload, 1) := by decide +kernel
theorem dX12_worthOf_6 : decode cX12_worthOf 6 = .ok (.iconst (-1), 1) := by decide +kernel
theorem dX12_worthOf_7 : decode cX12_worthOf 7 = .ok (.if_icmp .ne 7, 3) := by decide +kernel
theorem dX12_worthOf_10 : decode cX12_worthOf 10 = .ok (.iconst 0, 1) := by decide +kernel
theorem dX12_worthOf_11 : decode cX12_worthOf 11 = .ok (.goto 14, 3) := by decide +kernel
theorem dX12_worthOf_14 : decode cX12_worthOf 14 = .ok (.aload_n 0, 1) := by decide +kernel
theorem dX12_worthOf_15 : decode cX12_worthOf 15 = .ok (.getfield 54, 3) := by decide +kernel
theorem dX12_worthOf_18 : decode cX12_worthOf 18 = .ok (.aload_n 0, 1) := by decide +kernel
theorem dX12_worthOf_19 : decode cX12_worthOf 19 = .ok (.getfield 63, 3) := by decide +kernel
theorem dX12_worthOf_22 : decode cX12_worthOf 22 = .ok (.iload_n 1, 1) := by decide +kernel
theorem dX12_worthOf_23 : decode cX12_worthOf 23 = .ok (.iaload, 1) := by decide +kernel
theorem dX12_worthOf_24 : decode cX12_worthOf 24 = .ok (.iaload, 1) := by decide +kernel
theorem dX12_worthOf_25 : decode cX12_worthOf 25 = .ok (.ireturn, 1) := by decide +kernel
def f_X12_worthOf_25 (s0 : Int32) (h : AH) : Option (Int32 × AH) :=
  some (s0, h)
def f_X12_worthOf (k0 : Nat) (x1 : Int32) (h : AH) : Option (Int32 × AH) :=
  og (ix x1 (an (rf k0 28))) <|
  if (h.1 (rf k0 28) x1.toNatClampNeg) = (-1) then (
    f_X12_worthOf_25 0 h
  ) else (
    og (ix x1 (an (rf k0 28))) <|
    og (ix (h.1 (rf k0 28) x1.toNatClampNeg) (an (rf k0 25))) <|
    f_X12_worthOf_25 (h.1 (rf k0 25) (h.1 (rf k0 28) x1.toNatClampNeg).toNatClampNeg) h
  )
set_option maxHeartbeats 4000000 in
set_option maxRecDepth 100000 in
theorem v_X12_worthOf_25 {E : EV} {d : Nat} (hd : 0 ≤ d) {r0 : Int32} {h0 : AH} {s0 : Int32} {h : AH} (hf : f_X12_worthOf_25 s0 h = some (r0, h0)) : V E (d + 1) K_X12_worthOf (ZI E r0 h0) h [] [.int s0] 25 := by
  unfold f_X12_worthOf_25 at hf
  exact V_iret rfl (so_s hf) dX12_worthOf_25
set_option maxHeartbeats 4000000 in
set_option maxRecDepth 100000 in
theorem c_X12_worthOf {E : EV} {d : Nat} (hd : 0 + 1 ≤ d) {k0 : Nat} {x1 : Int32} {h : AH} {r0 : Int32} {h0 : AH} (hf : f_X12_worthOf k0 x1 h = some (r0, h0)) (t_k0 : kd k0 = (0, 12)) : Con E d K_X12_worthOf (ZI E r0 h0) [.ref k0, .int x1] h := by
  obtain ⟨d, rfl⟩ : ∃ d', d = d' + 1 := ⟨d - 1, by omega⟩
  have hd := Nat.le_of_succ_le_succ hd
  refine Con.ofV rfl (Nat.le_of_ble_eq_true rfl) ?_
  unfold f_X12_worthOf at hf
  show V E (d + 1) K_X12_worthOf (ZI E r0 h0) h [(0, .ref k0), (1, .int x1)] [] 0
  refine V_aload_n 0 dX12_worthOf_0 rfl rfl ?_
  refine V_getR F_X12_63 rfl t_k0 rfl dX12_worthOf_1 ?_
  refine V_iload_n 1 dX12_worthOf_4 rfl rfl ?_
  obtain ⟨b_1, hf⟩ := og_s hf
  refine V_iald (rfA t_k0 (Nat.le_of_ble_eq_true rfl) rfl rfl (by decide)) b_1 dX12_worthOf_5 ?_
  refine V_iconst (v := (-1)) dX12_worthOf_6 (by decide) ?_
  refine V_ic_ne (tgt := 14) dX12_worthOf_7 (by decide) (fun c_2 => ?_) (fun c_2 => ?_)
  · have hf := if_s c_2 hf
    refine V_aload_n 0 dX12_worthOf_14 rfl rfl ?_
    refine V_getR F_X12_54 rfl t_k0 rfl dX12_worthOf_15 ?_
    refine V_aload_n 0 dX12_worthOf_18 rfl rfl ?_
    refine V_getR F_X12_63 rfl t_k0 rfl dX12_worthOf_19 ?_
    refine V_iload_n 1 dX12_worthOf_22 rfl rfl ?_
    obtain ⟨b_3, hf⟩ := og_s hf
    refine V_iald (rfA t_k0 (Nat.le_of_ble_eq_true rfl) rfl rfl (by decide)) b_3 dX12_worthOf_23 ?_
    obtain ⟨b_4, hf⟩ := og_s hf
    refine V_iald (rfA t_k0 (Nat.le_of_ble_eq_true rfl) rfl rfl (by decide)) b_4 dX12_worthOf_24 ?_
    refine V_sub [] rfl ?_
    exact v_X12_worthOf_25 hd hf
  · have hf := it_s c_2 hf
    refine V_iconst (v := 0) dX12_worthOf_10 (by decide) ?_
    refine V_goto (tgt := 25) dX12_worthOf_11 (by decide) ?_
    refine V_sub [] rfl ?_
    exact v_X12_worthOf_25 hd hf
theorem dX12_gainOf_0 : decode cX12_gainOf 0 = .ok (.aload_n 0, 1) := by decide +kernel
theorem dX12_gainOf_1 : decode cX12_gainOf 1 = .ok (.iload_n 3, 1) := by decide +kernel
theorem dX12_gainOf_2 : decode cX12_gainOf 2 = .ok (.invokevirtual 382, 3) := by decide +kernel
theorem dX12_gainOf_5 : decode cX12_gainOf 5 = .ok (.aload_n 0, 1) := by decide +kernel
theorem dX12_gainOf_6 : decode cX12_gainOf 6 = .ok (.aload_n 0, 1) := by decide +kernel
theorem dX12_gainOf_7 : decode cX12_gainOf 7 = .ok (.iload_n 2, 1) := by decide +kernel
theorem dX12_gainOf_8 : decode cX12_gainOf 8 = .ok (.iload_n 3, 1) := by decide +kernel
theorem dX12_gainOf_9 : decode cX12_gainOf 9 = .ok (.invokevirtual 335, 3) := by decide +kernel
theorem dX12_gainOf_12 : decode cX12_gainOf 12 = .ok (.invokevirtual 338, 3) := by decide +kernel
theorem dX12_gainOf_15 : decode cX12_gainOf 15 = .ok (.aload_n 0, 1) := by decide +kernel
theorem dX12_gainOf_16 : decode cX12_gainOf 16 = .ok (.iload_n 1, 1) := by decide +kernel
theorem dX12_gainOf_17 : decode cX12_gainOf 17 = .ok (.bipush 6, 2) := by decide +kernel
theorem dX12_gainOf_19 : decode cX12_gainOf 19 = .ok (.invokevirtual 300, 3) := by decide +kernel
theorem dX12_gainOf_22 : decode cX12_gainOf 22 = .ok (.aload_n 0, 1) := by decide +kernel
theorem dX12_gainOf_23 : decode cX12_gainOf 23 = .ok (.getfield 75, 3) := by decide +kernel
theorem dX12_gainOf_26 : decode cX12_gainOf 26 = .ok (.iload_n 1, 1) := by decide +kernel
theorem dX12_gainOf_27 : decode cX12_gainOf 27 = .ok (.iaload, 1) := by decide +kernel
theorem dX12_gainOf_28 : decode cX12_gainOf 28 = .ok (.imul, 1) := by decide +kernel
theorem dX12_gainOf_29 : decode cX12_gainOf 29 = .ok (.aload_n 0, 1) := by decide +kernel
theorem dX12_gainOf_30 : decode cX12_gainOf 30 = .ok (.iload_n 1, 1) := by decide +kernel
theorem dX12_gainOf_31 : decode cX12_gainOf 31 = .ok (.invokevirtual 373, 3) := by decide +kernel
theorem dX12_gainOf_34 : decode cX12_gainOf 34 = .ok (.iadd, 1) := by decide +kernel
theorem dX12_gainOf_35 : decode cX12_gainOf 35 = .ok (.ireturn, 1) := by decide +kernel
theorem ML_X12_382 : MLk RX12 382 yX12_orderByRounds := Or.inl ml_X12_382
theorem MV_X12_orderByRounds : MVk K_X12_orderByRounds 1 12 := ⟨⟨cd_X12_orderByRounds, in_X12, ⟨by decide, by decide, by decide +kernel⟩, by decide⟩, im_X12_orderByRounds, se_X12_orderByRounds, _, _, rfl⟩
theorem ML_X12_373 : MLk RX12 373 yX12_worthOf := Or.inl ml_X12_373
theorem MV_X12_worthOf : MVk K_X12_worthOf 1 12 := ⟨⟨cd_X12_worthOf, in_X12, ⟨by decide, by decide, by decide +kernel⟩, by decide⟩, im_X12_worthOf, se_X12_worthOf, _, _, rfl⟩
def f_X12_gainOf (k0 : Nat) (x1 : Int32) (x2 : Int32) (x3 : Int32) (h : AH) : Option (Int32 × AH) :=
  ov (f_X12_orderByRounds k0 x3 h) fun h_2 =>
  ob (f_X12_doorOf k0 x2 x3 h_2) fun r_5 h_4 =>
  ov (f_X12_go k0 r_5 h_4) fun h_7 =>
  ob (f_X12_partOf k0 x1 6 h_7) fun r_10 h_9 =>
  og (ix x1 (an (rf k0 36))) <|
  ob (f_X12_worthOf k0 x1 h_9) fun r_14 h_13 =>
  some (((r_10 * (h_9.1 (rf k0 36) x1.toNatClampNeg)) + r_14), h_13)
set_option maxHeartbeats 4000000 in
set_option maxRecDepth 100000 in
theorem c_X12_gainOf {E : EV} {d : Nat} (hd : 1460 + 1 ≤ d) {k0 : Nat} {x1 : Int32} {x2 : Int32} {x3 : Int32} {h : AH} {r0 : Int32} {h0 : AH} (hf : f_X12_gainOf k0 x1 x2 x3 h = some (r0, h0)) (t_k0 : kd k0 = (0, 12)) : Con E d K_X12_gainOf (ZI E r0 h0) [.ref k0, .int x1, .int x2, .int x3] h := by
  obtain ⟨d, rfl⟩ : ∃ d', d = d' + 1 := ⟨d - 1, by omega⟩
  have hd := Nat.le_of_succ_le_succ hd
  refine Con.ofV rfl (Nat.le_of_ble_eq_true rfl) ?_
  unfold f_X12_gainOf at hf
  show V E (d + 1) K_X12_gainOf (ZI E r0 h0) h [(0, .ref k0), (1, .int x1), (2, .int x2), (3, .int x3)] [] 0
  refine V_aload_n 0 dX12_gainOf_0 rfl rfl ?_
  refine V_iload_n 3 dX12_gainOf_1 rfl rfl ?_
  obtain ⟨h_2, e_1, hf⟩ := ov_s hf
  refine V_cvv (As := [.int x3]) (rest := []) (c_X12_orderByRounds (d := d) (Nat.le_trans (Nat.le_of_ble_eq_true rfl) hd) e_1 t_k0) ML_X12_382 MV_X12_orderByRounds rfl t_k0 rfl rfl (Nat.le_of_ble_eq_true rfl) dX12_gainOf_2 ?_
  refine V_aload_n 0 dX12_gainOf_5 rfl rfl ?_
  refine V_aload_n 0 dX12_gainOf_6 rfl rfl ?_
  refine V_iload_n 2 dX12_gainOf_7 rfl rfl ?_
  refine V_iload_n 3 dX12_gainOf_8 rfl rfl ?_
  obtain ⟨r_5, h_4, e_3, hf⟩ := ob_s hf
  refine V_cvi (As := [.int x2, .int x3]) (rest := [.ref k0]) (c_X12_doorOf (d := d) (Nat.le_trans (Nat.le_of_ble_eq_true rfl) hd) e_3 t_k0) ML_X12_335 MV_X12_doorOf rfl t_k0 rfl rfl (Nat.le_of_ble_eq_true rfl) dX12_gainOf_9 ?_
  obtain ⟨h_7, e_6, hf⟩ := ov_s hf
  refine V_cvv (As := [.int r_5]) (rest := []) (c_X12_go (d := d) (Nat.le_trans (Nat.le_of_ble_eq_true rfl) hd) e_6 t_k0) ML_X12_338 MV_X12_go rfl t_k0 rfl rfl (Nat.le_of_ble_eq_true rfl) dX12_gainOf_12 ?_
  refine V_aload_n 0 dX12_gainOf_15 rfl rfl ?_
  refine V_iload_n 1 dX12_gainOf_16 rfl rfl ?_
  refine V_bipush (v := 6) dX12_gainOf_17 (by decide) ?_
  obtain ⟨r_10, h_9, e_8, hf⟩ := ob_s hf
  refine V_cvi (As := [.int x1, .int 6]) (rest := []) (c_X12_partOf (d := d) (Nat.le_trans (Nat.le_of_ble_eq_true rfl) hd) e_8 t_k0) ML_X12_300 MV_X12_partOf rfl t_k0 rfl rfl (Nat.le_of_ble_eq_true rfl) dX12_gainOf_19 ?_
  refine V_aload_n 0 dX12_gainOf_22 rfl rfl ?_
  refine V_getR F_X12_75 rfl t_k0 rfl dX12_gainOf_23 ?_
  refine V_iload_n 1 dX12_gainOf_26 rfl rfl ?_
  obtain ⟨b_11, hf⟩ := og_s hf
  refine V_iald (rfA t_k0 (Nat.le_of_ble_eq_true rfl) rfl rfl (by decide)) b_11 dX12_gainOf_27 ?_
  refine V_imul dX12_gainOf_28 ?_
  refine V_aload_n 0 dX12_gainOf_29 rfl rfl ?_
  refine V_iload_n 1 dX12_gainOf_30 rfl rfl ?_
  obtain ⟨r_14, h_13, e_12, hf⟩ := ob_s hf
  refine V_cvi (As := [.int x1]) (rest := [.int (r_10 * (h_9.1 (rf k0 36) x1.toNatClampNeg))]) (c_X12_worthOf (d := d) (Nat.le_trans (Nat.le_of_ble_eq_true rfl) hd) e_12 t_k0) ML_X12_373 MV_X12_worthOf rfl t_k0 rfl rfl (Nat.le_of_ble_eq_true rfl) dX12_gainOf_31 ?_
  refine V_iadd dX12_gainOf_34 ?_
  exact V_iret rfl (so_s hf) dX12_gainOf_35
theorem dX12_rowOf_0 : decode cX12_rowOf 0 = .ok (.iconst 0, 1) := by decide +kernel
theorem dX12_rowOf_1 : decode cX12_rowOf 1 = .ok (.istore_n 2, 1) := by decide +kernel
theorem dX12_rowOf_2 : decode cX12_rowOf 2 = .ok (.iconst 0, 1) := by decide +kernel
theorem dX12_rowOf_3 : decode cX12_rowOf 3 = .ok (.istore_n 3, 1) := by decide +kernel
theorem dX12_rowOf_4 : decode cX12_rowOf 4 = .ok (.iload_n 3, 1) := by decide +kernel
theorem dX12_rowOf_5 : decode cX12_rowOf 5 = .ok (.iload_n 1, 1) := by decide +kernel
theorem dX12_rowOf_6 : decode cX12_rowOf 6 = .ok (.if_icmp .ge 17, 3) := by decide +kernel
theorem dX12_rowOf_9 : decode cX12_rowOf 9 = .ok (.iconst 5, 1) := by decide +kernel
theorem dX12_rowOf_10 : decode cX12_rowOf 10 = .ok (.iload_n 2, 1) := by decide +kernel
theorem dX12_rowOf_11 : decode cX12_rowOf 11 = .ok (.imul, 1) := by decide +kernel
theorem dX12_rowOf_12 : decode cX12_rowOf 12 = .ok (.aload_n 0, 1) := by decide +kernel
theorem dX12_rowOf_13 : decode cX12_rowOf 13 = .ok (.iload_n 3, 1) := by decide +kernel
theorem dX12_rowOf_14 : decode cX12_rowOf 14 = .ok (.iaload, 1) := by decide +kernel
theorem dX12_rowOf_15 : decode cX12_rowOf 15 = .ok (.iadd, 1) := by decide +kernel
theorem dX12_rowOf_16 : decode cX12_rowOf 16 = .ok (.istore_n 2, 1) := by decide +kernel
theorem dX12_rowOf_17 : decode cX12_rowOf 17 = .ok (.iinc 3 1, 3) := by decide +kernel
theorem dX12_rowOf_20 : decode cX12_rowOf 20 = .ok (.goto (-16), 3) := by decide +kernel
theorem dX12_rowOf_23 : decode cX12_rowOf 23 = .ok (.iload_n 2, 1) := by decide +kernel
theorem dX12_rowOf_24 : decode cX12_rowOf 24 = .ok (.ireturn, 1) := by decide +kernel
def f_X12_rowOf_4 : Nat → Nat → Int32 → Int32 → Int32 → AH → Option (Int32 × AH)
  | 0, _, _, _, _, _ => none
  | n + 1, k0, x1, x2, x3, h =>
    if x1 ≤ x3 then (
      some (x2, h)
    ) else (
      og (ix x3 (an k0)) <|
      nm (((5 * x2) + (h.1 k0 x3.toNatClampNeg))) fun x2_3 =>
      nm (x3 + 1) fun x3_5 =>
      f_X12_rowOf_4 n k0 x1 x2_3 x3_5 h
    )
def f_X12_rowOf (k0 : Nat) (x1 : Int32) (h : AH) : Option (Int32 × AH) :=
  f_X12_rowOf_4 FU k0 x1 0 0 h
set_option maxHeartbeats 4000000 in
set_option maxRecDepth 100000 in
theorem v_X12_rowOf_4 {E : EV} {d : Nat} (hd : 0 ≤ d) {r0 : Int32} {h0 : AH} : ∀ (n : Nat) (k0 : Nat) (x1 : Int32) (x2 : Int32) (x3 : Int32) (h : AH), f_X12_rowOf_4 n k0 x1 x2 x3 h = some (r0, h0) → (kd k0).1 = 1 → V E (d + 1) K_X12_rowOf (ZI E r0 h0) h [(0, .ref k0), (1, .int x1), (2, .int x2), (3, .int x3)] [] 4 := by
  intro n
  induction n with
  | zero =>
    intro k0 x1 x2 x3 h hf
    rw [f_X12_rowOf_4] at hf
    cases hf
  | succ n ih =>
    intro k0 x1 x2 x3 h hf t_k0
    rw [f_X12_rowOf_4] at hf
    refine V_iload_n 3 dX12_rowOf_4 rfl rfl ?_
    refine V_iload_n 1 dX12_rowOf_5 rfl rfl ?_
    refine V_ic_ge (tgt := 23) dX12_rowOf_6 (by decide) (fun c_1 => ?_) (fun c_1 => ?_)
    · have hf := it_s c_1 hf
      refine V_iload_n 2 dX12_rowOf_23 rfl rfl ?_
      exact V_iret rfl (so_s hf) dX12_rowOf_24
    · have hf := if_s c_1 hf
      refine V_iconst (v := 5) dX12_rowOf_9 (by decide) ?_
      refine V_iload_n 2 dX12_rowOf_10 rfl rfl ?_
      refine V_imul dX12_rowOf_11 ?_
      refine V_aload_n 0 dX12_rowOf_12 rfl rfl ?_
      refine V_iload_n 3 dX12_rowOf_13 rfl rfl ?_
      obtain ⟨b_2, hf⟩ := og_s hf
      refine V_iald t_k0 b_2 dX12_rowOf_14 ?_
      refine V_iadd dX12_rowOf_15 ?_
      obtain ⟨x2_3, e_4, hf⟩ := nm_s hf
      refine V_istore_n (L' := [(2, .int x2_3), (0, .ref k0), (1, .int x1), (3, .int x3)]) dX12_rowOf_16 rfl (Nat.le_of_ble_eq_true rfl) e_4 rfl ?_
      obtain ⟨x3_5, e_6, hf⟩ := nm_s hf
      refine V_iinc (a := 1) (L' := [(3, .int x3_5), (2, .int x2_3), (0, .ref k0), (1, .int x1)]) 3 dX12_rowOf_17 rfl (by decide) (Nat.le_of_ble_eq_true rfl) e_6 rfl ?_
      refine V_goto (tgt := 4) dX12_rowOf_20 (by decide) ?_
      refine V_sub [2, 3, 1, 0] rfl ?_
      exact ih _ _ _ _ _ hf t_k0
set_option maxHeartbeats 4000000 in
set_option maxRecDepth 100000 in
theorem c_X12_rowOf {E : EV} {d : Nat} (hd : 0 + 1 ≤ d) {k0 : Nat} {x1 : Int32} {h : AH} {r0 : Int32} {h0 : AH} (hf : f_X12_rowOf k0 x1 h = some (r0, h0)) (t_k0 : (kd k0).1 = 1) : Con E d K_X12_rowOf (ZI E r0 h0) [.ref k0, .int x1] h := by
  obtain ⟨d, rfl⟩ : ∃ d', d = d' + 1 := ⟨d - 1, by omega⟩
  have hd := Nat.le_of_succ_le_succ hd
  refine Con.ofV rfl (Nat.le_of_ble_eq_true rfl) ?_
  unfold f_X12_rowOf at hf
  show V E (d + 1) K_X12_rowOf (ZI E r0 h0) h [(0, .ref k0), (1, .int x1)] [] 0
  refine V_iconst (v := 0) dX12_rowOf_0 (by decide) ?_
  refine V_istore_n (L' := [(2, .int 0), (0, .ref k0), (1, .int x1)]) dX12_rowOf_1 rfl (Nat.le_of_ble_eq_true rfl) rfl rfl ?_
  refine V_iconst (v := 0) dX12_rowOf_2 (by decide) ?_
  refine V_istore_n (L' := [(3, .int 0), (2, .int 0), (0, .ref k0), (1, .int x1)]) dX12_rowOf_3 rfl (Nat.le_of_ble_eq_true rfl) rfl rfl ?_
  refine V_sub [2, 3, 1, 0] rfl ?_
  exact v_X12_rowOf_4 hd FU _ _ _ _ _ hf t_k0
theorem dX12_giveRound_0 : decode cX12_giveRound 0 = .ok (.iload_n 3, 1) := by decide +kernel
theorem dX12_giveRound_1 : decode cX12_giveRound 1 = .ok (.iload_n 1, 1) := by decide +kernel
theorem dX12_giveRound_2 : decode cX12_giveRound 2 = .ok (.if_icmp .ne 40, 3) := by decide +kernel
theorem dX12_giveRound_5 : decode cX12_giveRound 5 = .ok (.aload_n 0, 1) := by decide +kernel
theorem dX12_giveRound_6 : decode cX12_giveRound 6 = .ok (.getfield 93, 3) := by decide +kernel
theorem dX12_giveRound_9 : decode cX12_giveRound 9 = .ok (.iload_n 1, 1) := by decide +kernel
theorem dX12_giveRound_10 : decode cX12_giveRound 10 = .ok (.invokestatic 421, 3) := by decide +kernel
theorem dX12_giveRound_13 : decode cX12_giveRound 13 = .ok (.istore 7, 2) := by decide +kernel
theorem dX12_giveRound_15 : decode cX12_giveRound 15 = .ok (.aload_n 0, 1) := by decide +kernel
theorem dX12_giveRound_16 : decode cX12_giveRound 16 = .ok (.getfield 96, 3) := by decide +kernel
theorem dX12_giveRound_19 : decode cX12_giveRound 19 = .ok (.iload 7, 2) := by decide +kernel
theorem dX12_giveRound_21 : decode cX12_giveRound 21 = .ok (.iaload, 1) := by decide +kernel
theorem dX12_giveRound_22 : decode cX12_giveRound 22 = .ok (.iconst (-1), 1) := by decide +kernel
theorem dX12_giveRound_23 : decode cX12_giveRound 23 = .ok (.if_icmp .eq 4, 3) := by decide +kernel
theorem dX12_giveRound_26 : decode cX12_giveRound 26 = .ok (.return_, 1) := by decide +kernel
theorem dX12_giveRound_27 : decode cX12_giveRound 27 = .ok (.aload_n 0, 1) := by decide +kernel
theorem dX12_giveRound_28 : decode cX12_giveRound 28 = .ok (.getfield 96, 3) := by decide +kernel
theorem dX12_giveRound_31 : decode cX12_giveRound 31 = .ok (.iload 7, 2) := by decide +kernel
theorem dX12_giveRound_33 : decode cX12_giveRound 33 = .ok (.iload 6, 2) := by decide +kernel
theorem dX12_giveRound_35 : decode cX12_giveRound 35 = .ok (.iastore, 1) := by decide +kernel
theorem dX12_giveRound_36 : decode cX12_giveRound 36 = .ok (.aload_n 0, 1) := by decide +kernel
theorem dX12_giveRound_37 : decode cX12_giveRound 37 = .ok (.iconst 1, 1) := by decide +kernel
theorem dX12_giveRound_38 : decode cX12_giveRound 38 = .ok (.putfield 425, 3) := by decide +kernel
theorem dX12_giveRound_41 : decode cX12_giveRound 41 = .ok (.return_, 1) := by decide +kernel
theorem dX12_giveRound_42 : decode cX12_giveRound 42 = .ok (.iload_n 2, 1) := by decide +kernel
theorem dX12_giveRound_43 : decode cX12_giveRound 43 = .ok (.iload_n 3, 1) := by decide +kernel
theorem dX12_giveRound_44 : decode cX12_giveRound 44 = .ok (.invokestatic 258, 3) := by decide +kernel
theorem dX12_giveRound_47 : decode cX12_giveRound 47 = .ok (.ifCond .ne 29, 3) := by decide +kernel
theorem dX12_giveRound_50 : decode cX12_giveRound 50 = .ok (.aload_n 0, 1) := by decide +kernel
theorem dX12_giveRound_51 : decode cX12_giveRound 51 = .ok (.getfield 93, 3) := by decide +kernel
theorem dX12_giveRound_54 : decode cX12_giveRound 54 = .ok (.iload_n 3, 1) := by decide +kernel
theorem dX12_giveRound_55 : decode cX12_giveRound 55 = .ok (.aload 5, 2) := by decide +kernel
theorem dX12_giveRound_57 : decode cX12_giveRound 57 = .ok (.iload_n 3, 1) := by decide +kernel
theorem dX12_giveRound_58 : decode cX12_giveRound 58 = .ok (.iaload, 1) := by decide +kernel
theorem dX12_giveRound_59 : decode cX12_giveRound 59 = .ok (.iastore, 1) := by decide +kernel
theorem dX12_giveRound_60 : decode cX12_giveRound 60 = .ok (.aload_n 0, 1) := by decide +kernel
theorem dX12_giveRound_61 : decode cX12_giveRound 61 = .ok (.iload_n 1, 1) := by decide +kernel
theorem dX12_giveRound_62 : decode cX12_giveRound 62 = .ok (.iload_n 2, 1) := by decide +kernel
theorem dX12_giveRound_63 : decode cX12_giveRound 63 = .ok (.iload_n 3, 1) := by decide +kernel
theorem dX12_giveRound_64 : decode cX12_giveRound 64 = .ok (.iconst 1, 1) := by decide +kernel
theorem dX12_giveRound_65 : decode cX12_giveRound 65 = .ok (.iadd, 1) := by decide +kernel
theorem dX12_giveRound_66 : decode cX12_giveRound 66 = .ok (.iload 4, 2) := by decide +kernel
theorem dX12_giveRound_68 : decode cX12_giveRound 68 = .ok (.aload 5, 2) := by decide +kernel
theorem dX12_giveRound_70 : decode cX12_giveRound 70 = .ok (.iload 6, 2) := by decide +kernel
theorem dX12_giveRound_72 : decode cX12_giveRound 72 = .ok (.invokevirtual 428, 3) := by decide +kernel
theorem dX12_giveRound_75 : decode cX12_giveRound 75 = .ok (.return_, 1) := by decide +kernel
theorem dX12_giveRound_76 : decode cX12_giveRound 76 = .ok (.iconst 0, 1) := by decide +kernel
theorem dX12_giveRound_77 : decode cX12_giveRound 77 = .ok (.istore 7, 2) := by decide +kernel
theorem dX12_giveRound_79 : decode cX12_giveRound 79 = .ok (.iload 7, 2) := by decide +kernel
theorem dX12_giveRound_81 : decode cX12_giveRound 81 = .ok (.iload_n 1, 1) := by decide +kernel
theorem dX12_giveRound_82 : decode cX12_giveRound 82 = .ok (.if_icmp .ge 62, 3) := by decide +kernel
theorem dX12_giveRound_85 : decode cX12_giveRound 85 = .ok (.iload_n 2, 1) := by decide +kernel
theorem dX12_giveRound_86 : decode cX12_giveRound 86 = .ok (.iload 7, 2) := by decide +kernel
theorem dX12_giveRound_88 : decode cX12_giveRound 88 = .ok (.invokestatic 258, 3) := by decide +kernel
theorem dX12_giveRound_91 : decode cX12_giveRound 91 = .ok (.ifCond .eq 47, 3) := by decide +kernel
theorem dX12_giveRound_94 : decode cX12_giveRound 94 = .ok (.iload 4, 2) := by decide +kernel
theorem dX12_giveRound_96 : decode cX12_giveRound 96 = .ok (.iload 7, 2) := by decide +kernel
theorem dX12_giveRound_98 : decode cX12_giveRound 98 = .ok (.invokestatic 258, 3) := by decide +kernel
theorem dX12_giveRound_101 : decode cX12_giveRound 101 = .ok (.ifCond .eq 6, 3) := by decide +kernel
theorem dX12_giveRound_104 : decode cX12_giveRound 104 = .ok (.goto 34, 3) := by decide +kernel
theorem dX12_giveRound_107 : decode cX12_giveRound 107 = .ok (.aload_n 0, 1) := by decide +kernel
theorem dX12_giveRound_108 : decode cX12_giveRound 108 = .ok (.getfield 93, 3) := by decide +kernel
theorem dX12_giveRound_111 : decode cX12_giveRound 111 = .ok (.iload_n 3, 1) := by decide +kernel
theorem dX12_giveRound_112 : decode cX12_giveRound 112 = .ok (.aload 5, 2) := by decide +kernel
theorem dX12_giveRound_114 : decode cX12_giveRound 114 = .ok (.iload 7, 2) := by decide +kernel
theorem dX12_giveRound_116 : decode cX12_giveRound 116 = .ok (.iaload, 1) := by decide +kernel
theorem dX12_giveRound_117 : decode cX12_giveRound 117 = .ok (.iastore, 1) := by decide +kernel
theorem dX12_giveRound_118 : decode cX12_giveRound 118 = .ok (.aload_n 0, 1) := by decide +kernel
theorem dX12_giveRound_119 : decode cX12_giveRound 119 = .ok (.iload_n 1, 1) := by decide +kernel
theorem dX12_giveRound_120 : decode cX12_giveRound 120 = .ok (.iload_n 2, 1) := by decide +kernel
theorem dX12_giveRound_121 : decode cX12_giveRound 121 = .ok (.iload_n 3, 1) := by decide +kernel
theorem dX12_giveRound_122 : decode cX12_giveRound 122 = .ok (.iconst 1, 1) := by decide +kernel
theorem dX12_giveRound_123 : decode cX12_giveRound 123 = .ok (.iadd, 1) := by decide +kernel
theorem dX12_giveRound_124 : decode cX12_giveRound 124 = .ok (.iload 4, 2) := by decide +kernel
theorem dX12_giveRound_126 : decode cX12_giveRound 126 = .ok (.iconst 1, 1) := by decide +kernel
theorem dX12_giveRound_127 : decode cX12_giveRound 127 = .ok (.iload 7, 2) := by decide +kernel
theorem dX12_giveRound_129 : decode cX12_giveRound 129 = .ok (.ishl, 1) := by decide +kernel
theorem dX12_giveRound_130 : decode cX12_giveRound 130 = .ok (.ior, 1) := by decide +kernel
theorem dX12_giveRound_131 : decode cX12_giveRound 131 = .ok (.aload 5, 2) := by decide +kernel
theorem dX12_giveRound_133 : decode cX12_giveRound 133 = .ok (.iload 6, 2) := by decide +kernel
theorem dX12_giveRound_135 : decode cX12_giveRound 135 = .ok (.invokevirtual 428, 3) := by decide +kernel
theorem dX12_giveRound_138 : decode cX12_giveRound 138 = .ok (.iinc 7 1, 3) := by decide +kernel
theorem dX12_giveRound_141 : decode cX12_giveRound 141 = .ok (.goto (-62), 3) := by decide +kernel
theorem dX12_giveRound_144 : decode cX12_giveRound 144 = .ok (.return_, 1) := by decide +kernel
theorem F_X12_93 : FLk RX12 93 12 43 := ⟨RX12, TX12, 58, rfl, rfl, iw_X12, by decide, Or.inl fl_X12_93⟩
theorem ML_X12_428 : MLk RX12 428 yX12_giveRound := Or.inl ml_X12_428
theorem MV_X12_giveRound : MVk K_X12_giveRound 6 12 := ⟨⟨cd_X12_giveRound, in_X12, ⟨by decide, by decide, by decide +kernel⟩, by decide⟩, im_X12_giveRound, se_X12_giveRound, _, _, rfl⟩
theorem ML_X12_421 : MLk RX12 421 yX12_rowOf := Or.inl ml_X12_421
theorem MS_X12_rowOf : MSk K_X12_rowOf 2 := ⟨⟨cd_X12_rowOf, in_X12, ⟨by decide, by decide, by decide +kernel⟩, by decide⟩, st_X12_rowOf⟩
theorem F_X12_96 : FLk RX12 96 12 44 := ⟨RX12, TX12, 58, rfl, rfl, iw_X12, by decide, Or.inl fl_X12_96⟩
theorem F_X12_425 : FLk RX12 425 12 45 := ⟨RX12, TX12, 58, rfl, rfl, iw_X12, by decide, Or.inl fl_X12_425⟩
theorem P_X12_425 : FPk RX12 425 12 45 .boolean := ⟨RX12, TX12, 58, tyX12, rfl, rfl, iw_X12, by decide, Or.inl fl_X12_425, tyX12_ok, nmX12, rfl, by decide +kernel⟩
def f_X12_giveRound_138 (cb : Nat → Int32 → Int32 → Int32 → Int32 → Nat → Int32 → AH → Option AH) (q79 : Nat → Int32 → Int32 → Int32 → Int32 → Nat → Int32 → Int32 → AH → Option AH) (k0 : Nat) (x1 : Int32) (x2 : Int32) (x3 : Int32) (x4 : Int32) (k5 : Nat) (x6 : Int32) (x7 : Int32) (h : AH) : Option AH :=
  nm (x7 + 1) fun x7_1 =>
  q79 k0 x1 x2 x3 x4 k5 x6 x7_1 h
def f_X12_giveRound_79 (cb : Nat → Int32 → Int32 → Int32 → Int32 → Nat → Int32 → AH → Option AH) : Nat → Nat → Int32 → Int32 → Int32 → Int32 → Nat → Int32 → Int32 → AH → Option AH
  | 0, _, _, _, _, _, _, _, _, _ => none
  | n + 1, k0, x1, x2, x3, x4, k5, x6, x7, h =>
    if x1 ≤ x7 then (
      some h
    ) else (
      ob (f_X12_has x2 x7 h) fun r_4 h_3 =>
      if r_4 = 0 then (
        f_X12_giveRound_138 cb (f_X12_giveRound_79 cb n) k0 x1 x2 x3 x4 k5 x6 x7 h_3
      ) else (
        ob (f_X12_has x4 x7 h_3) fun r_8 h_7 =>
        if r_8 = 0 then (
          og (ix x7 (an k5)) <|
          og (ix x3 (an (rf k0 43))) <|
          nm (sI h_7 (rf k0 43) x3.toNatClampNeg (h_7.1 k5 x7.toNatClampNeg)) fun h_12 =>
          ov (cb k0 x1 x2 (x3 + 1) (x4 ||| ((1 : Int32) <<< (x7 &&& 31))) k5 x6 h_12) fun h_15 =>
          f_X12_giveRound_138 cb (f_X12_giveRound_79 cb n) k0 x1 x2 x3 x4 k5 x6 x7 h_15
        ) else (
          f_X12_giveRound_138 cb (f_X12_giveRound_79 cb n) k0 x1 x2 x3 x4 k5 x6 x7 h_7
        )
      )
    )
def f_X12_giveRound (cb : Nat → Int32 → Int32 → Int32 → Int32 → Nat → Int32 → AH → Option AH) (k0 : Nat) (x1 : Int32) (x2 : Int32) (x3 : Int32) (x4 : Int32) (k5 : Nat) (x6 : Int32) (h : AH) : Option AH :=
  if x3 = x1 then (
    ob (f_X12_rowOf (rf k0 43) x1 h) fun r_14 h_13 =>
    og (ix r_14 (an (rf k0 44))) <|
    if (h_13.1 (rf k0 44) r_14.toNatClampNeg) = (-1) then (
      og (ix r_14 (an (rf k0 44))) <|
      nm (sI h_13 (rf k0 44) r_14.toNatClampNeg x6) fun h_18 =>
      nm (sI h_18 k0 45 1) fun h_20 =>
      some h_20
    ) else (
      some h_13
    )
  ) else (
    ob (f_X12_has x2 x3 h) fun r_4 h_3 =>
    if r_4 = 0 then (
      og (ix x3 (an k5)) <|
      og (ix x3 (an (rf k0 43))) <|
      nm (sI h_3 (rf k0 43) x3.toNatClampNeg (h_3.1 k5 x3.toNatClampNeg)) fun h_8 =>
      ov (cb k0 x1 x2 (x3 + 1) x4 k5 x6 h_8) fun h_11 =>
      some h_11
    ) else (
      f_X12_giveRound_79 cb FU k0 x1 x2 x3 x4 k5 x6 0 h_3
    )
  )
def r_X12_giveRound : Nat → Nat → Int32 → Int32 → Int32 → Int32 → Nat → Int32 → AH → Option AH
  | 0, _, _, _, _, _, _, _, _ => none
  | n + 1, k0, x1, x2, x3, x4, k5, x6, h => f_X12_giveRound (r_X12_giveRound n) k0 x1 x2 x3 x4 k5 x6 h
set_option maxHeartbeats 4000000 in
set_option maxRecDepth 100000 in
theorem v_X12_giveRound_138 {E : EV} {d : Nat} {cb : Nat → Int32 → Int32 → Int32 → Int32 → Nat → Int32 → AH → Option AH} {dc : Nat} (hcb : ∀ {d : Nat}, dc ≤ d → ∀ {k0 : Nat} {x1 : Int32} {x2 : Int32} {x3 : Int32} {x4 : Int32} {k5 : Nat} {x6 : Int32} {h : AH} {h0 : AH}, cb k0 x1 x2 x3 x4 k5 x6 h = some h0 → kd k0 = (0, 12) → (kd k5).1 = 1 → Con E d K_X12_giveRound (ZV E h0) [.ref k0, .int x1, .int x2, .int x3, .int x4, .ref k5, .int x6] h) (hd : 1 + dc ≤ d) {h0 : AH} {q79 : Nat → Int32 → Int32 → Int32 → Int32 → Nat → Int32 → Int32 → AH → Option AH} (cq79 : ∀ (k0 : Nat) (x1 : Int32) (x2 : Int32) (x3 : Int32) (x4 : Int32) (k5 : Nat) (x6 : Int32) (x7 : Int32) (h : AH), q79 k0 x1 x2 x3 x4 k5 x6 x7 h = some h0 → kd k0 = (0, 12) → (kd k5).1 = 1 → V E (d + 1) K_X12_giveRound (ZV E h0) h [(0, .ref k0), (1, .int x1), (2, .int x2), (3, .int x3), (4, .int x4), (5, .ref k5), (6, .int x6), (7, .int x7)] [] 79) {k0 : Nat} {x1 : Int32} {x2 : Int32} {x3 : Int32} {x4 : Int32} {k5 : Nat} {x6 : Int32} {x7 : Int32} {h : AH} (hf : f_X12_giveRound_138 cb q79 k0 x1 x2 x3 x4 k5 x6 x7 h = some h0) (t_k0 : kd k0 = (0, 12)) (t_k5 : (kd k5).1 = 1) : V E (d + 1) K_X12_giveRound (ZV E h0) h [(0, .ref k0), (1, .int x1), (2, .int x2), (3, .int x3), (4, .int x4), (5, .ref k5), (6, .int x6), (7, .int x7)] [] 138 := by
  unfold f_X12_giveRound_138 at hf
  obtain ⟨x7_1, e_2, hf⟩ := nm_s hf
  refine V_iinc (a := 1) (L' := [(7, .int x7_1), (0, .ref k0), (1, .int x1), (2, .int x2), (3, .int x3), (4, .int x4), (5, .ref k5), (6, .int x6)]) 7 dX12_giveRound_138 rfl (by decide) (Nat.le_of_ble_eq_true rfl) e_2 rfl ?_
  refine V_goto (tgt := 79) dX12_giveRound_141 (by decide) ?_
  refine V_sub [1, 2, 3, 4, 5, 6, 7, 0] rfl ?_
  exact cq79 _ _ _ _ _ _ _ _ _ hf t_k0 t_k5
set_option maxHeartbeats 4000000 in
set_option maxRecDepth 100000 in
theorem v_X12_giveRound_79 {E : EV} {d : Nat} {cb : Nat → Int32 → Int32 → Int32 → Int32 → Nat → Int32 → AH → Option AH} {dc : Nat} (hcb : ∀ {d : Nat}, dc ≤ d → ∀ {k0 : Nat} {x1 : Int32} {x2 : Int32} {x3 : Int32} {x4 : Int32} {k5 : Nat} {x6 : Int32} {h : AH} {h0 : AH}, cb k0 x1 x2 x3 x4 k5 x6 h = some h0 → kd k0 = (0, 12) → (kd k5).1 = 1 → Con E d K_X12_giveRound (ZV E h0) [.ref k0, .int x1, .int x2, .int x3, .int x4, .ref k5, .int x6] h) (hd : 1 + dc ≤ d) {h0 : AH} : ∀ (n : Nat) (k0 : Nat) (x1 : Int32) (x2 : Int32) (x3 : Int32) (x4 : Int32) (k5 : Nat) (x6 : Int32) (x7 : Int32) (h : AH), f_X12_giveRound_79 cb n k0 x1 x2 x3 x4 k5 x6 x7 h = some h0 → kd k0 = (0, 12) → (kd k5).1 = 1 → V E (d + 1) K_X12_giveRound (ZV E h0) h [(0, .ref k0), (1, .int x1), (2, .int x2), (3, .int x3), (4, .int x4), (5, .ref k5), (6, .int x6), (7, .int x7)] [] 79 := by
  intro n
  induction n with
  | zero =>
    intro k0 x1 x2 x3 x4 k5 x6 x7 h hf
    rw [f_X12_giveRound_79] at hf
    cases hf
  | succ n ih =>
    intro k0 x1 x2 x3 x4 k5 x6 x7 h hf t_k0 t_k5
    rw [f_X12_giveRound_79] at hf
    refine V_iload 7 dX12_giveRound_79 rfl ?_
    refine V_iload_n 1 dX12_giveRound_81 rfl rfl ?_
    refine V_ic_ge (tgt := 144) dX12_giveRound_82 (by decide) (fun c_1 => ?_) (fun c_1 => ?_)
    · have hf := it_s c_1 hf
      exact V_vret rfl (so_s hf) dX12_giveRound_144
    · have hf := if_s c_1 hf
      refine V_iload_n 2 dX12_giveRound_85 rfl rfl ?_
      refine V_iload 7 dX12_giveRound_86 rfl ?_
      obtain ⟨r_4, h_3, e_2, hf⟩ := ob_s hf
      refine V_csi (As := [.int x2, .int x7]) (rest := []) (c_X12_has (d := d) (by omega) e_2) ML_X12_258 MS_X12_has rfl rfl rfl (Nat.le_of_ble_eq_true rfl) dX12_giveRound_88 ?_
      refine V_if_eq (tgt := 138) dX12_giveRound_91 (by decide) (fun c_5 => ?_) (fun c_5 => ?_)
      · have hf := it_s c_5 hf
        exact v_X12_giveRound_138 hcb hd ih hf t_k0 t_k5
      · have hf := if_s c_5 hf
        refine V_iload 4 dX12_giveRound_94 rfl ?_
        refine V_iload 7 dX12_giveRound_96 rfl ?_
        obtain ⟨r_8, h_7, e_6, hf⟩ := ob_s hf
        refine V_csi (As := [.int x4, .int x7]) (rest := []) (c_X12_has (d := d) (by omega) e_6) ML_X12_258 MS_X12_has rfl rfl rfl (Nat.le_of_ble_eq_true rfl) dX12_giveRound_98 ?_
        refine V_if_eq (tgt := 107) dX12_giveRound_101 (by decide) (fun c_9 => ?_) (fun c_9 => ?_)
        · have hf := it_s c_9 hf
          refine V_aload_n 0 dX12_giveRound_107 rfl rfl ?_
          refine V_getR F_X12_93 rfl t_k0 rfl dX12_giveRound_108 ?_
          refine V_iload_n 3 dX12_giveRound_111 rfl rfl ?_
          refine V_aload 5 dX12_giveRound_112 rfl ?_
          refine V_iload 7 dX12_giveRound_114 rfl ?_
          obtain ⟨b_10, hf⟩ := og_s hf
          refine V_iald t_k5 b_10 dX12_giveRound_116 ?_
          obtain ⟨b_11, hf⟩ := og_s hf
          obtain ⟨h_12, e_13, hf⟩ := nm_s hf
          refine V_iast (rfA t_k0 (Nat.le_of_ble_eq_true rfl) rfl rfl (by decide)) b_11 e_13 dX12_giveRound_117 ?_
          refine V_aload_n 0 dX12_giveRound_118 rfl rfl ?_
          refine V_iload_n 1 dX12_giveRound_119 rfl rfl ?_
          refine V_iload_n 2 dX12_giveRound_120 rfl rfl ?_
          refine V_iload_n 3 dX12_giveRound_121 rfl rfl ?_
          refine V_iconst (v := 1) dX12_giveRound_122 (by decide) ?_
          refine V_iadd dX12_giveRound_123 ?_
          refine V_iload 4 dX12_giveRound_124 rfl ?_
          refine V_iconst (v := 1) dX12_giveRound_126 (by decide) ?_
          refine V_iload 7 dX12_giveRound_127 rfl ?_
          refine V_ishl dX12_giveRound_129 ?_
          refine V_ior dX12_giveRound_130 ?_
          refine V_aload 5 dX12_giveRound_131 rfl ?_
          refine V_iload 6 dX12_giveRound_133 rfl ?_
          obtain ⟨h_15, e_14, hf⟩ := ov_s hf
          refine V_cvv (As := [.int x1, .int x2, .int (x3 + 1), .int (x4 ||| ((1 : Int32) <<< (x7 &&& 31))), .ref k5, .int x6]) (rest := []) (hcb (d := d) (by omega) e_14 t_k0 t_k5) ML_X12_428 MV_X12_giveRound rfl t_k0 rfl rfl (Nat.le_of_ble_eq_true rfl) dX12_giveRound_135 ?_
          exact v_X12_giveRound_138 hcb hd ih hf t_k0 t_k5
        · have hf := if_s c_9 hf
          refine V_goto (tgt := 138) dX12_giveRound_104 (by decide) ?_
          exact v_X12_giveRound_138 hcb hd ih hf t_k0 t_k5
set_option maxHeartbeats 4000000 in
set_option maxRecDepth 100000 in
theorem c_X12_giveRound {E : EV} {d : Nat} {cb : Nat → Int32 → Int32 → Int32 → Int32 → Nat → Int32 → AH → Option AH} {dc : Nat} (hcb : ∀ {d : Nat}, dc ≤ d → ∀ {k0 : Nat} {x1 : Int32} {x2 : Int32} {x3 : Int32} {x4 : Int32} {k5 : Nat} {x6 : Int32} {h : AH} {h0 : AH}, cb k0 x1 x2 x3 x4 k5 x6 h = some h0 → kd k0 = (0, 12) → (kd k5).1 = 1 → Con E d K_X12_giveRound (ZV E h0) [.ref k0, .int x1, .int x2, .int x3, .int x4, .ref k5, .int x6] h) (hd : 1 + dc + 1 ≤ d) {k0 : Nat} {x1 : Int32} {x2 : Int32} {x3 : Int32} {x4 : Int32} {k5 : Nat} {x6 : Int32} {h : AH} {h0 : AH} (hf : f_X12_giveRound cb k0 x1 x2 x3 x4 k5 x6 h = some h0) (t_k0 : kd k0 = (0, 12)) (t_k5 : (kd k5).1 = 1) : Con E d K_X12_giveRound (ZV E h0) [.ref k0, .int x1, .int x2, .int x3, .int x4, .ref k5, .int x6] h := by
  obtain ⟨d, rfl⟩ : ∃ d', d = d' + 1 := ⟨d - 1, by omega⟩
  have hd := Nat.le_of_succ_le_succ hd
  refine Con.ofV rfl (Nat.le_of_ble_eq_true rfl) ?_
  unfold f_X12_giveRound at hf
  show V E (d + 1) K_X12_giveRound (ZV E h0) h [(0, .ref k0), (1, .int x1), (2, .int x2), (3, .int x3), (4, .int x4), (5, .ref k5), (6, .int x6)] [] 0
  refine V_iload_n 3 dX12_giveRound_0 rfl rfl ?_
  refine V_iload_n 1 dX12_giveRound_1 rfl rfl ?_
  refine V_ic_ne (tgt := 42) dX12_giveRound_2 (by decide) (fun c_1 => ?_) (fun c_1 => ?_)
  · have hf := if_s c_1 hf
    refine V_iload_n 2 dX12_giveRound_42 rfl rfl ?_
    refine V_iload_n 3 dX12_giveRound_43 rfl rfl ?_
    obtain ⟨r_4, h_3, e_2, hf⟩ := ob_s hf
    refine V_csi (As := [.int x2, .int x3]) (rest := []) (c_X12_has (d := d) (by omega) e_2) ML_X12_258 MS_X12_has rfl rfl rfl (Nat.le_of_ble_eq_true rfl) dX12_giveRound_44 ?_
    refine V_if_ne (tgt := 76) dX12_giveRound_47 (by decide) (fun c_5 => ?_) (fun c_5 => ?_)
    · have hf := if_s c_5 hf
      refine V_iconst (v := 0) dX12_giveRound_76 (by decide) ?_
      refine V_istore (L' := [(7, .int 0), (0, .ref k0), (1, .int x1), (2, .int x2), (3, .int x3), (4, .int x4), (5, .ref k5), (6, .int x6)]) dX12_giveRound_77 (Nat.le_of_ble_eq_true rfl) rfl rfl ?_
      refine V_sub [1, 2, 3, 4, 5, 6, 7, 0] rfl ?_
      exact v_X12_giveRound_79 hcb hd FU _ _ _ _ _ _ _ _ _ hf t_k0 t_k5
    · have hf := it_s c_5 hf
      refine V_aload_n 0 dX12_giveRound_50 rfl rfl ?_
      refine V_getR F_X12_93 rfl t_k0 rfl dX12_giveRound_51 ?_
      refine V_iload_n 3 dX12_giveRound_54 rfl rfl ?_
      refine V_aload 5 dX12_giveRound_55 rfl ?_
      refine V_iload_n 3 dX12_giveRound_57 rfl rfl ?_
      obtain ⟨b_6, hf⟩ := og_s hf
      refine V_iald t_k5 b_6 dX12_giveRound_58 ?_
      obtain ⟨b_7, hf⟩ := og_s hf
      obtain ⟨h_8, e_9, hf⟩ := nm_s hf
      refine V_iast (rfA t_k0 (Nat.le_of_ble_eq_true rfl) rfl rfl (by decide)) b_7 e_9 dX12_giveRound_59 ?_
      refine V_aload_n 0 dX12_giveRound_60 rfl rfl ?_
      refine V_iload_n 1 dX12_giveRound_61 rfl rfl ?_
      refine V_iload_n 2 dX12_giveRound_62 rfl rfl ?_
      refine V_iload_n 3 dX12_giveRound_63 rfl rfl ?_
      refine V_iconst (v := 1) dX12_giveRound_64 (by decide) ?_
      refine V_iadd dX12_giveRound_65 ?_
      refine V_iload 4 dX12_giveRound_66 rfl ?_
      refine V_aload 5 dX12_giveRound_68 rfl ?_
      refine V_iload 6 dX12_giveRound_70 rfl ?_
      obtain ⟨h_11, e_10, hf⟩ := ov_s hf
      refine V_cvv (As := [.int x1, .int x2, .int (x3 + 1), .int x4, .ref k5, .int x6]) (rest := []) (hcb (d := d) (by omega) e_10 t_k0 t_k5) ML_X12_428 MV_X12_giveRound rfl t_k0 rfl rfl (Nat.le_of_ble_eq_true rfl) dX12_giveRound_72 ?_
      exact V_vret rfl (so_s hf) dX12_giveRound_75
  · have hf := it_s c_1 hf
    refine V_aload_n 0 dX12_giveRound_5 rfl rfl ?_
    refine V_getR F_X12_93 rfl t_k0 rfl dX12_giveRound_6 ?_
    refine V_iload_n 1 dX12_giveRound_9 rfl rfl ?_
    obtain ⟨r_14, h_13, e_12, hf⟩ := ob_s hf
    refine V_csi (As := [.ref (rf k0 43), .int x1]) (rest := []) (c_X12_rowOf (d := d) (by omega) e_12 (rfA t_k0 (Nat.le_of_ble_eq_true rfl) rfl rfl (by decide))) ML_X12_421 MS_X12_rowOf rfl rfl rfl (Nat.le_of_ble_eq_true rfl) dX12_giveRound_10 ?_
    refine V_istore (L' := [(7, .int r_14), (0, .ref k0), (1, .int x1), (2, .int x2), (3, .int x3), (4, .int x4), (5, .ref k5), (6, .int x6)]) dX12_giveRound_13 (Nat.le_of_ble_eq_true rfl) rfl rfl ?_
    refine V_aload_n 1 dX12_giveRound_15 rfl rfl ?_
    refine V_getR F_X12_96 rfl t_k0 rfl dX12_giveRound_16 ?_
    refine V_iload 0 dX12_giveRound_19 rfl ?_
    obtain ⟨b_15, hf⟩ := og_s hf
    refine V_iald (rfA t_k0 (Nat.le_of_ble_eq_true rfl) rfl rfl (by decide)) b_15 dX12_giveRound_21 ?_
    refine V_iconst (v := (-1)) dX12_giveRound_22 (by decide) ?_
    refine V_ic_eq (tgt := 27) dX12_giveRound_23 (by decide) (fun c_16 => ?_) (fun c_16 => ?_)
    · have hf := it_s c_16 hf
      refine V_aload_n 1 dX12_giveRound_27 rfl rfl ?_
      refine V_getR F_X12_96 rfl t_k0 rfl dX12_giveRound_28 ?_
      refine V_iload 0 dX12_giveRound_31 rfl ?_
      refine V_iload 7 dX12_giveRound_33 rfl ?_
      obtain ⟨b_17, hf⟩ := og_s hf
      obtain ⟨h_18, e_19, hf⟩ := nm_s hf
      refine V_iast (rfA t_k0 (Nat.le_of_ble_eq_true rfl) rfl rfl (by decide)) b_17 e_19 dX12_giveRound_35 ?_
      refine V_aload_n 1 dX12_giveRound_36 rfl rfl ?_
      refine V_iconst (v := 1) dX12_giveRound_37 (by decide) ?_
      obtain ⟨h_20, e_21, hf⟩ := nm_s hf
      refine V_putZ P_X12_425 rfl t_k0 rfl (by decide) e_21 dX12_giveRound_38 ?_
      exact V_vret rfl (so_s hf) dX12_giveRound_41
    · have hf := if_s c_16 hf
      exact V_vret rfl (so_s hf) dX12_giveRound_26
set_option maxHeartbeats 4000000 in
set_option maxRecDepth 100000 in
theorem cr_X12_giveRound {E : EV} : ∀ (n : Nat) {d : Nat}, n * 2 ≤ d → ∀ {k0 : Nat} {x1 : Int32} {x2 : Int32} {x3 : Int32} {x4 : Int32} {k5 : Nat} {x6 : Int32} {h : AH} {h0 : AH}, r_X12_giveRound n k0 x1 x2 x3 x4 k5 x6 h = some h0 → kd k0 = (0, 12) → (kd k5).1 = 1 → Con E d K_X12_giveRound (ZV E h0) [.ref k0, .int x1, .int x2, .int x3, .int x4, .ref k5, .int x6] h := by
  intro n
  induction n with
  | zero =>
    intro d hd k0 x1 x2 x3 x4 k5 x6 h h0 hf
    rw [r_X12_giveRound] at hf
    cases hf
  | succ n ih =>
    intro d hd k0 x1 x2 x3 x4 k5 x6 h h0 hf t_k0 t_k5
    rw [r_X12_giveRound] at hf
    exact c_X12_giveRound (dc := n * 2) ih (by omega) hf t_k0 t_k5
theorem dX12_hasComing_0 : decode cX12_hasComing 0 = .ok (.iconst 0, 1) := by decide +kernel
theorem dX12_hasComing_1 : decode cX12_hasComing 1 = .ok (.istore 4, 2) := by decide +kernel
theorem dX12_hasComing_3 : decode cX12_hasComing 3 = .ok (.iload 4, 2) := by decide +kernel
theorem dX12_hasComing_5 : decode cX12_hasComing 5 = .ok (.aload_n 0, 1) := by decide +kernel
theorem dX12_hasComing_6 : decode cX12_hasComing 6 = .ok (.getfield 283, 3) := by decide +kernel
theorem dX12_hasComing_9 : decode cX12_hasComing 9 = .ok (.if_icmp .ge 56, 3) := by decide +kernel
theorem dX12_hasComing_12 : decode cX12_hasComing 12 = .ok (.aload_n 0, 1) := by decide +kernel
theorem dX12_hasComing_13 : decode cX12_hasComing 13 = .ok (.getfield 78, 3) := by decide +kernel
theorem dX12_hasComing_16 : decode cX12_hasComing 16 = .ok (.iload 4, 2) := by decide +kernel
theorem dX12_hasComing_18 : decode cX12_hasComing 18 = .ok (.aload_n 0, 1) := by decide +kernel
theorem dX12_hasComing_19 : decode cX12_hasComing 19 = .ok (.getfield 54, 3) := by decide +kernel
theorem dX12_hasComing_22 : decode cX12_hasComing 22 = .ok (.iload 4, 2) := by decide +kernel
theorem dX12_hasComing_24 : decode cX12_hasComing 24 = .ok (.iaload, 1) := by decide +kernel
theorem dX12_hasComing_25 : decode cX12_hasComing 25 = .ok (.iastore, 1) := by decide +kernel
theorem dX12_hasComing_26 : decode cX12_hasComing 26 = .ok (.aload_n 0, 1) := by decide +kernel
theorem dX12_hasComing_27 : decode cX12_hasComing 27 = .ok (.getfield 54, 3) := by decide +kernel
theorem dX12_hasComing_30 : decode cX12_hasComing 30 = .ok (.iload 4, 2) := by decide +kernel
theorem dX12_hasComing_32 : decode cX12_hasComing 32 = .ok (.iload_n 3, 1) := by decide +kernel
theorem dX12_hasComing_33 : decode cX12_hasComing 33 = .ok (.iload 4, 2) := by decide +kernel
theorem dX12_hasComing_35 : decode cX12_hasComing 35 = .ok (.invokestatic 258, 3) := by decide +kernel
theorem dX12_hasComing_38 : decode cX12_hasComing 38 = .ok (.ifCond .eq 13, 3) := by decide +kernel
theorem dX12_hasComing_41 : decode cX12_hasComing 41 = .ok (.aload_n 0, 1) := by decide +kernel
theorem dX12_hasComing_42 : decode cX12_hasComing 42 = .ok (.iload 4, 2) := by decide +kernel
theorem dX12_hasComing_44 : decode cX12_hasComing 44 = .ok (.iconst 4, 1) := by decide +kernel
theorem dX12_hasComing_45 : decode cX12_hasComing 45 = .ok (.invokevirtual 300, 3) := by decide +kernel
theorem dX12_hasComing_48 : decode cX12_hasComing 48 = .ok (.goto 10, 3) := by decide +kernel
theorem dX12_hasComing_51 : decode cX12_hasComing 51 = .ok (.aload_n 0, 1) := by decide +kernel
theorem dX12_hasComing_52 : decode cX12_hasComing 52 = .ok (.getfield 54, 3) := by decide +kernel
theorem dX12_hasComing_55 : decode cX12_hasComing 55 = .ok (.iload 4, 2) := by decide +kernel
theorem dX12_hasComing_57 : decode cX12_hasComing 57 = .ok (.iaload, 1) := by decide +kernel
theorem dX12_hasComing_58 : decode cX12_hasComing 58 = .ok (.iastore, 1) := by decide +kernel
theorem dX12_hasComing_59 : decode cX12_hasComing 59 = .ok (.iinc 4 1, 3) := by decide +kernel
theorem dX12_hasComing_62 : decode cX12_hasComing 62 = .ok (.goto (-59), 3) := by decide +kernel
theorem dX12_hasComing_65 : decode cX12_hasComing 65 = .ok (.aload_n 0, 1) := by decide +kernel
theorem dX12_hasComing_66 : decode cX12_hasComing 66 = .ok (.iconst 0, 1) := by decide +kernel
theorem dX12_hasComing_67 : decode cX12_hasComing 67 = .ok (.putfield 321, 3) := by decide +kernel
theorem dX12_hasComing_70 : decode cX12_hasComing 70 = .ok (.iconst 0, 1) := by decide +kernel
theorem dX12_hasComing_71 : decode cX12_hasComing 71 = .ok (.istore 4, 2) := by decide +kernel
theorem dX12_hasComing_73 : decode cX12_hasComing 73 = .ok (.iload 4, 2) := by decide +kernel
theorem dX12_hasComing_75 : decode cX12_hasComing 75 = .ok (.aload_n 0, 1) := by decide +kernel
theorem dX12_hasComing_76 : decode cX12_hasComing 76 = .ok (.getfield 283, 3) := by decide +kernel
theorem dX12_hasComing_79 : decode cX12_hasComing 79 = .ok (.if_icmp .ge 42, 3) := by decide +kernel
theorem dX12_hasComing_82 : decode cX12_hasComing 82 = .ok (.iload_n 2, 1) := by decide +kernel
theorem dX12_hasComing_83 : decode cX12_hasComing 83 = .ok (.iload 4, 2) := by decide +kernel
theorem dX12_hasComing_85 : decode cX12_hasComing 85 = .ok (.invokestatic 258, 3) := by decide +kernel
theorem dX12_hasComing_88 : decode cX12_hasComing 88 = .ok (.ifCond .ne 6, 3) := by decide +kernel
theorem dX12_hasComing_91 : decode cX12_hasComing 91 = .ok (.goto 24, 3) := by decide +kernel
theorem dX12_hasComing_94 : decode cX12_hasComing 94 = .ok (.aload_n 0, 1) := by decide +kernel
theorem dX12_hasComing_95 : decode cX12_hasComing 95 = .ok (.getfield 60, 3) := by decide +kernel
theorem dX12_hasComing_98 : decode cX12_hasComing 98 = .ok (.aload_n 0, 1) := by decide +kernel
theorem dX12_hasComing_99 : decode cX12_hasComing 99 = .ok (.getfield 321, 3) := by decide +kernel
theorem dX12_hasComing_102 : decode cX12_hasComing 102 = .ok (.iload 4, 2) := by decide +kernel
theorem dX12_hasComing_104 : decode cX12_hasComing 104 = .ok (.iastore, 1) := by decide +kernel
theorem dX12_hasComing_105 : decode cX12_hasComing 105 = .ok (.aload_n 0, 1) := by decide +kernel
theorem dX12_hasComing_106 : decode cX12_hasComing 106 = .ok (.dup, 1) := by decide +kernel
theorem dX12_hasComing_107 : decode cX12_hasComing 107 = .ok (.getfield 321, 3) := by decide +kernel
theorem dX12_hasComing_110 : decode cX12_hasComing 110 = .ok (.iconst 1, 1) := by decide +kernel
theorem dX12_hasComing_111 : decode cX12_hasComing 111 = .ok (.iadd, 1) := by decide +kernel
theorem dX12_hasComing_112 : decode cX12_hasComing 112 = .ok (.putfield 321, 3) := by decide +kernel
theorem dX12_hasComing_115 : decode cX12_hasComing 115 = .ok (.iinc 4 1, 3) := by decide +kernel
theorem dX12_hasComing_118 : decode cX12_hasComing 118 = .ok (.goto (-45), 3) := by decide +kernel
theorem dX12_hasComing_121 : decode cX12_hasComing 121 = .ok (.aload_n 0, 1) := by decide +kernel
theorem dX12_hasComing_122 : decode cX12_hasComing 122 = .ok (.iload_n 2, 1) := by decide +kernel
theorem dX12_hasComing_123 : decode cX12_hasComing 123 = .ok (.invokevirtual 338, 3) := by decide +kernel
theorem dX12_hasComing_126 : decode cX12_hasComing 126 = .ok (.aload_n 0, 1) := by decide +kernel
theorem dX12_hasComing_127 : decode cX12_hasComing 127 = .ok (.iload_n 1, 1) := by decide +kernel
theorem dX12_hasComing_128 : decode cX12_hasComing 128 = .ok (.invokevirtual 373, 3) := by decide +kernel
theorem dX12_hasComing_131 : decode cX12_hasComing 131 = .ok (.iload_n 3, 1) := by decide +kernel
theorem dX12_hasComing_132 : decode cX12_hasComing 132 = .ok (.iload_n 1, 1) := by decide +kernel
theorem dX12_hasComing_133 : decode cX12_hasComing 133 = .ok (.invokestatic 258, 3) := by decide +kernel
theorem dX12_hasComing_136 : decode cX12_hasComing 136 = .ok (.ifCond .eq 12, 3) := by decide +kernel
theorem dX12_hasComing_139 : decode cX12_hasComing 139 = .ok (.aload_n 0, 1) := by decide +kernel
theorem dX12_hasComing_140 : decode cX12_hasComing 140 = .ok (.getfield 78, 3) := by decide +kernel
theorem dX12_hasComing_143 : decode cX12_hasComing 143 = .ok (.iload_n 1, 1) := by decide +kernel
theorem dX12_hasComing_144 : decode cX12_hasComing 144 = .ok (.iaload, 1) := by decide +kernel
theorem dX12_hasComing_145 : decode cX12_hasComing 145 = .ok (.goto 9, 3) := by decide +kernel
theorem dX12_hasComing_148 : decode cX12_hasComing 148 = .ok (.aload_n 0, 1) := by decide +kernel
theorem dX12_hasComing_149 : decode cX12_hasComing 149 = .ok (.iload_n 1, 1) := by decide +kernel
theorem dX12_hasComing_150 : decode cX12_hasComing 150 = .ok (.iconst 4, 1) := by decide +kernel
theorem dX12_hasComing_151 : decode cX12_hasComing 151 = .ok (.invokevirtual 300, 3) := by decide +kernel
theorem dX12_hasComing_154 : decode cX12_hasComing 154 = .ok (.iadd, 1) := by decide +kernel
theorem dX12_hasComing_155 : decode cX12_hasComing 155 = .ok (.istore 4, 2) := by decide +kernel
theorem dX12_hasComing_157 : decode cX12_hasComing 157 = .ok (.iconst 0, 1) := by decide +kernel
theorem dX12_hasComing_158 : decode cX12_hasComing 158 = .ok (.istore 5, 2) := by decide +kernel
theorem dX12_hasComing_160 : decode cX12_hasComing 160 = .ok (.iload 5, 2) := by decide +kernel
theorem dX12_hasComing_162 : decode cX12_hasComing 162 = .ok (.aload_n 0, 1) := by decide +kernel
theorem dX12_hasComing_163 : decode cX12_hasComing 163 = .ok (.getfield 283, 3) := by decide +kernel
theorem dX12_hasComing_166 : decode cX12_hasComing 166 = .ok (.if_icmp .ge 23, 3) := by decide +kernel
theorem dX12_hasComing_169 : decode cX12_hasComing 169 = .ok (.aload_n 0, 1) := by decide +kernel
theorem dX12_hasComing_170 : decode cX12_hasComing 170 = .ok (.getfield 54, 3) := by decide +kernel
theorem dX12_hasComing_173 : decode cX12_hasComing 173 = .ok (.iload 5, 2) := by decide +kernel
theorem dX12_hasComing_175 : decode cX12_hasComing 175 = .ok (.aload_n 0, 1) := by decide +kernel
theorem dX12_hasComing_176 : decode cX12_hasComing 176 = .ok (.getfield 78, 3) := by decide +kernel
theorem dX12_hasComing_179 : decode cX12_hasComing 179 = .ok (.iload 5, 2) := by decide +kernel
theorem dX12_hasComing_181 : decode cX12_hasComing 181 = .ok (.iaload, 1) := by decide +kernel
theorem dX12_hasComing_182 : decode cX12_hasComing 182 = .ok (.iastore, 1) := by decide +kernel
theorem dX12_hasComing_183 : decode cX12_hasComing 183 = .ok (.iinc 5 1, 3) := by decide +kernel
theorem dX12_hasComing_186 : decode cX12_hasComing 186 = .ok (.goto (-26), 3) := by decide +kernel
theorem dX12_hasComing_189 : decode cX12_hasComing 189 = .ok (.iload 4, 2) := by decide +kernel
theorem dX12_hasComing_191 : decode cX12_hasComing 191 = .ok (.ireturn, 1) := by decide +kernel
theorem F_X12_78 : FLk RX12 78 12 37 := ⟨RX12, TX12, 58, rfl, rfl, iw_X12, by decide, Or.inl fl_X12_78⟩
def f_X12_hasComing_58 (q3 : Nat → Int32 → Int32 → Int32 → Int32 → AH → Option (Int32 × AH)) (k0 : Nat) (x1 : Int32) (x2 : Int32) (x3 : Int32) (x4 : Int32) (s0 : Int32) (s1 : Int32) (sk2 : Nat) (h : AH) : Option (Int32 × AH) :=
  og (ix s1 (an sk2)) <|
  nm (sI h sk2 s1.toNatClampNeg s0) fun h_2 =>
  nm (x4 + 1) fun x4_4 =>
  q3 k0 x1 x2 x3 x4_4 h_2
def f_X12_hasComing_115 (q73 : Nat → Int32 → Int32 → Int32 → Int32 → AH → Option (Int32 × AH)) (k0 : Nat) (x1 : Int32) (x2 : Int32) (x3 : Int32) (x4 : Int32) (h : AH) : Option (Int32 × AH) :=
  nm (x4 + 1) fun x4_1 =>
  q73 k0 x1 x2 x3 x4_1 h
def f_X12_hasComing_160 : Nat → Nat → Int32 → Int32 → AH → Option (Int32 × AH)
  | 0, _, _, _, _ => none
  | n + 1, k0, x4, x5, h =>
    if (h.1 k0 20) ≤ x5 then (
      some (x4, h)
    ) else (
      og (ix x5 (an (rf k0 37))) <|
      og (ix x5 (an (rf k0 25))) <|
      nm (sI h (rf k0 25) x5.toNatClampNeg (h.1 (rf k0 37) x5.toNatClampNeg)) fun h_4 =>
      nm (x5 + 1) fun x5_6 =>
      f_X12_hasComing_160 n k0 x4 x5_6 h_4
    )
def f_X12_hasComing_154 (k0 : Nat) (s0 : Int32) (s1 : Int32) (h : AH) : Option (Int32 × AH) :=
  nm ((s1 + s0)) fun x4_1 =>
  f_X12_hasComing_160 FU k0 x4_1 0 h
def f_X12_hasComing_73 : Nat → Nat → Int32 → Int32 → Int32 → Int32 → AH → Option (Int32 × AH)
  | 0, _, _, _, _, _, _ => none
  | n + 1, k0, x1, x2, x3, x4, h =>
    if (h.1 k0 20) ≤ x4 then (
      ov (f_X12_go k0 x2 h) fun h_3 =>
      ob (f_X12_worthOf k0 x1 h_3) fun r_6 h_5 =>
      ob (f_X12_has x3 x1 h_5) fun r_9 h_8 =>
      if r_9 = 0 then (
        ob (f_X12_partOf k0 x1 4 h_8) fun r_13 h_12 =>
        f_X12_hasComing_154 k0 r_13 r_6 h_12
      ) else (
        og (ix x1 (an (rf k0 37))) <|
        f_X12_hasComing_154 k0 (h_8.1 (rf k0 37) x1.toNatClampNeg) r_6 h_8
      )
    ) else (
      ob (f_X12_has x2 x4 h) fun r_17 h_16 =>
      if r_17 = 0 then (
        f_X12_hasComing_115 (f_X12_hasComing_73 n) k0 x1 x2 x3 x4 h_16
      ) else (
        og (ix (h_16.1 k0 29) (an (rf k0 27))) <|
        nm (sI h_16 (rf k0 27) (h_16.1 k0 29).toNatClampNeg x4) fun h_20 =>
        nm (sI h_20 k0 29 ((h_20.1 k0 29) + 1)) fun h_22 =>
        f_X12_hasComing_115 (f_X12_hasComing_73 n) k0 x1 x2 x3 x4 h_22
      )
    )
def f_X12_hasComing_3 : Nat → Nat → Int32 → Int32 → Int32 → Int32 → AH → Option (Int32 × AH)
  | 0, _, _, _, _, _, _ => none
  | n + 1, k0, x1, x2, x3, x4, h =>
    if (h.1 k0 20) ≤ x4 then (
      nm (sI h k0 29 0) fun h_2 =>
      f_X12_hasComing_73 FU k0 x1 x2 x3 0 h_2
    ) else (
      og (ix x4 (an (rf k0 25))) <|
      og (ix x4 (an (rf k0 37))) <|
      nm (sI h (rf k0 37) x4.toNatClampNeg (h.1 (rf k0 25) x4.toNatClampNeg)) fun h_6 =>
      ob (f_X12_has x3 x4 h_6) fun r_10 h_9 =>
      if r_10 = 0 then (
        og (ix x4 (an (rf k0 25))) <|
        f_X12_hasComing_58 (f_X12_hasComing_3 n) k0 x1 x2 x3 x4 (h_9.1 (rf k0 25) x4.toNatClampNeg) x4 (rf k0 25) h_9
      ) else (
        ob (f_X12_partOf k0 x4 4 h_9) fun r_15 h_14 =>
        f_X12_hasComing_58 (f_X12_hasComing_3 n) k0 x1 x2 x3 x4 r_15 x4 (rf k0 25) h_14
      )
    )
def f_X12_hasComing (k0 : Nat) (x1 : Int32) (x2 : Int32) (x3 : Int32) (h : AH) : Option (Int32 × AH) :=
  f_X12_hasComing_3 FU k0 x1 x2 x3 0 h
set_option maxHeartbeats 4000000 in
set_option maxRecDepth 100000 in
theorem v_X12_hasComing_58 {E : EV} {d : Nat} (hd : 1460 ≤ d) {r0 : Int32} {h0 : AH} {q3 : Nat → Int32 → Int32 → Int32 → Int32 → AH → Option (Int32 × AH)} (cq3 : ∀ (k0 : Nat) (x1 : Int32) (x2 : Int32) (x3 : Int32) (x4 : Int32) (h : AH), q3 k0 x1 x2 x3 x4 h = some (r0, h0) → kd k0 = (0, 12) → V E (d + 1) K_X12_hasComing (ZI E r0 h0) h [(0, .ref k0), (1, .int x1), (2, .int x2), (3, .int x3), (4, .int x4)] [] 3) {k0 : Nat} {x1 : Int32} {x2 : Int32} {x3 : Int32} {x4 : Int32} {s0 : Int32} {s1 : Int32} {sk2 : Nat} {h : AH} (hf : f_X12_hasComing_58 q3 k0 x1 x2 x3 x4 s0 s1 sk2 h = some (r0, h0)) (t_k0 : kd k0 = (0, 12)) (t_sk2 : (kd sk2).1 = 1) : V E (d + 1) K_X12_hasComing (ZI E r0 h0) h [(0, .ref k0), (1, .int x1), (2, .int x2), (3, .int x3), (4, .int x4)] [.int s0, .int s1, .ref sk2] 58 := by
  unfold f_X12_hasComing_58 at hf
  obtain ⟨b_1, hf⟩ := og_s hf
  obtain ⟨h_2, e_3, hf⟩ := nm_s hf
  refine V_iast t_sk2 b_1 e_3 dX12_hasComing_58 ?_
  obtain ⟨x4_4, e_5, hf⟩ := nm_s hf
  refine V_iinc (a := 1) (L' := [(4, .int x4_4), (0, .ref k0), (1, .int x1), (2, .int x2), (3, .int x3)]) 4 dX12_hasComing_59 rfl (by decide) (Nat.le_of_ble_eq_true rfl) e_5 rfl ?_
  refine V_goto (tgt := 3) dX12_hasComing_62 (by decide) ?_
  refine V_sub [1, 2, 3, 4, 0] rfl ?_
  exact cq3 _ _ _ _ _ _ hf t_k0
set_option maxHeartbeats 4000000 in
set_option maxRecDepth 100000 in
theorem v_X12_hasComing_115 {E : EV} {d : Nat} (hd : 1460 ≤ d) {r0 : Int32} {h0 : AH} {q73 : Nat → Int32 → Int32 → Int32 → Int32 → AH → Option (Int32 × AH)} (cq73 : ∀ (k0 : Nat) (x1 : Int32) (x2 : Int32) (x3 : Int32) (x4 : Int32) (h : AH), q73 k0 x1 x2 x3 x4 h = some (r0, h0) → kd k0 = (0, 12) → V E (d + 1) K_X12_hasComing (ZI E r0 h0) h [(0, .ref k0), (1, .int x1), (2, .int x2), (3, .int x3), (4, .int x4)] [] 73) {k0 : Nat} {x1 : Int32} {x2 : Int32} {x3 : Int32} {x4 : Int32} {h : AH} (hf : f_X12_hasComing_115 q73 k0 x1 x2 x3 x4 h = some (r0, h0)) (t_k0 : kd k0 = (0, 12)) : V E (d + 1) K_X12_hasComing (ZI E r0 h0) h [(0, .ref k0), (1, .int x1), (2, .int x2), (3, .int x3), (4, .int x4)] [] 115 := by
  unfold f_X12_hasComing_115 at hf
  obtain ⟨x4_1, e_2, hf⟩ := nm_s hf
  refine V_iinc (a := 1) (L' := [(4, .int x4_1), (0, .ref k0), (1, .int x1), (2, .int x2), (3, .int x3)]) 4 dX12_hasComing_115 rfl (by decide) (Nat.le_of_ble_eq_true rfl) e_2 rfl ?_
  refine V_goto (tgt := 73) dX12_hasComing_118 (by decide) ?_
  refine V_sub [1, 2, 3, 4, 0] rfl ?_
  exact cq73 _ _ _ _ _ _ hf t_k0
set_option maxHeartbeats 4000000 in
set_option maxRecDepth 100000 in
theorem v_X12_hasComing_160 {E : EV} {d : Nat} (hd : 1460 ≤ d) {r0 : Int32} {h0 : AH} : ∀ (n : Nat) (k0 : Nat) (x4 : Int32) (x5 : Int32) (h : AH), f_X12_hasComing_160 n k0 x4 x5 h = some (r0, h0) → kd k0 = (0, 12) → V E (d + 1) K_X12_hasComing (ZI E r0 h0) h [(0, .ref k0), (4, .int x4), (5, .int x5)] [] 160 := by
  intro n
  induction n with
  | zero =>
    intro k0 x4 x5 h hf
    rw [f_X12_hasComing_160] at hf
    cases hf
  | succ n ih =>
    intro k0 x4 x5 h hf t_k0
    rw [f_X12_hasComing_160] at hf
    refine V_iload 2 dX12_hasComing_160 rfl ?_
    refine V_aload_n 0 dX12_hasComing_162 rfl rfl ?_
    refine V_getI F_X12_283 rfl t_k0 rfl dX12_hasComing_163 ?_
    refine V_ic_ge (tgt := 189) dX12_hasComing_166 (by decide) (fun c_1 => ?_) (fun c_1 => ?_)
    · have hf := it_s c_1 hf
      refine V_iload 1 dX12_hasComing_189 rfl ?_
      exact V_iret rfl (so_s hf) dX12_hasComing_191
    · have hf := if_s c_1 hf
      refine V_aload_n 0 dX12_hasComing_169 rfl rfl ?_
      refine V_getR F_X12_54 rfl t_k0 rfl dX12_hasComing_170 ?_
      refine V_iload 2 dX12_hasComing_173 rfl ?_
      refine V_aload_n 0 dX12_hasComing_175 rfl rfl ?_
      refine V_getR F_X12_78 rfl t_k0 rfl dX12_hasComing_176 ?_
      refine V_iload 2 dX12_hasComing_179 rfl ?_
      obtain ⟨b_2, hf⟩ := og_s hf
      refine V_iald (rfA t_k0 (Nat.le_of_ble_eq_true rfl) rfl rfl (by decide)) b_2 dX12_hasComing_181 ?_
      obtain ⟨b_3, hf⟩ := og_s hf
      obtain ⟨h_4, e_5, hf⟩ := nm_s hf
      refine V_iast (rfA t_k0 (Nat.le_of_ble_eq_true rfl) rfl rfl (by decide)) b_3 e_5 dX12_hasComing_182 ?_
      obtain ⟨x5_6, e_7, hf⟩ := nm_s hf
      refine V_iinc (a := 1) (L' := [(5, .int x5_6), (0, .ref k0), (4, .int x4)]) 2 dX12_hasComing_183 rfl (by decide) (Nat.le_of_ble_eq_true rfl) e_7 rfl ?_
      refine V_goto (tgt := 160) dX12_hasComing_186 (by decide) ?_
      refine V_sub [1, 2, 0] rfl ?_
      exact ih _ _ _ _ hf t_k0
set_option maxHeartbeats 4000000 in
set_option maxRecDepth 100000 in
theorem v_X12_hasComing_154 {E : EV} {d : Nat} (hd : 1460 ≤ d) {r0 : Int32} {h0 : AH} {k0 : Nat} {s0 : Int32} {s1 : Int32} {h : AH} (hf : f_X12_hasComing_154 k0 s0 s1 h = some (r0, h0)) (t_k0 : kd k0 = (0, 12)) : V E (d + 1) K_X12_hasComing (ZI E r0 h0) h [(0, .ref k0)] [.int s0, .int s1] 154 := by
  unfold f_X12_hasComing_154 at hf
  refine V_iadd dX12_hasComing_154 ?_
  obtain ⟨x4_1, e_2, hf⟩ := nm_s hf
  refine V_istore (L' := [(4, .int x4_1), (0, .ref k0)]) dX12_hasComing_155 (Nat.le_of_ble_eq_true rfl) e_2 rfl ?_
  refine V_iconst (v := 0) dX12_hasComing_157 (by decide) ?_
  refine V_istore (L' := [(5, .int 0), (4, .int x4_1), (0, .ref k0)]) dX12_hasComing_158 (Nat.le_of_ble_eq_true rfl) rfl rfl ?_
  refine V_sub [2, 1, 0] rfl ?_
  exact v_X12_hasComing_160 hd FU _ _ _ _ hf t_k0
set_option maxHeartbeats 4000000 in
set_option maxRecDepth 100000 in
theorem v_X12_hasComing_73 {E : EV} {d : Nat} (hd : 1460 ≤ d) {r0 : Int32} {h0 : AH} : ∀ (n : Nat) (k0 : Nat) (x1 : Int32) (x2 : Int32) (x3 : Int32) (x4 : Int32) (h : AH), f_X12_hasComing_73 n k0 x1 x2 x3 x4 h = some (r0, h0) → kd k0 = (0, 12) → V E (d + 1) K_X12_hasComing (ZI E r0 h0) h [(0, .ref k0), (1, .int x1), (2, .int x2), (3, .int x3), (4, .int x4)] [] 73 := by
  intro n
  induction n with
  | zero =>
    intro k0 x1 x2 x3 x4 h hf
    rw [f_X12_hasComing_73] at hf
    cases hf
  | succ n ih =>
    intro k0 x1 x2 x3 x4 h hf t_k0
    rw [f_X12_hasComing_73] at hf
    refine V_iload 4 dX12_hasComing_73 rfl ?_
    refine V_aload_n 0 dX12_hasComing_75 rfl rfl ?_
    refine V_getI F_X12_283 rfl t_k0 rfl dX12_hasComing_76 ?_
    refine V_ic_ge (tgt := 121) dX12_hasComing_79 (by decide) (fun c_1 => ?_) (fun c_1 => ?_)
    · have hf := it_s c_1 hf
      refine V_aload_n 0 dX12_hasComing_121 rfl rfl ?_
      refine V_iload_n 2 dX12_hasComing_122 rfl rfl ?_
      obtain ⟨h_3, e_2, hf⟩ := ov_s hf
      refine V_cvv (As := [.int x2]) (rest := []) (c_X12_go (d := d) (Nat.le_trans (Nat.le_of_ble_eq_true rfl) hd) e_2 t_k0) ML_X12_338 MV_X12_go rfl t_k0 rfl rfl (Nat.le_of_ble_eq_true rfl) dX12_hasComing_123 ?_
      refine V_aload_n 0 dX12_hasComing_126 rfl rfl ?_
      refine V_iload_n 1 dX12_hasComing_127 rfl rfl ?_
      obtain ⟨r_6, h_5, e_4, hf⟩ := ob_s hf
      refine V_cvi (As := [.int x1]) (rest := []) (c_X12_worthOf (d := d) (Nat.le_trans (Nat.le_of_ble_eq_true rfl) hd) e_4 t_k0) ML_X12_373 MV_X12_worthOf rfl t_k0 rfl rfl (Nat.le_of_ble_eq_true rfl) dX12_hasComing_128 ?_
      refine V_iload_n 3 dX12_hasComing_131 rfl rfl ?_
      refine V_iload_n 1 dX12_hasComing_132 rfl rfl ?_
      obtain ⟨r_9, h_8, e_7, hf⟩ := ob_s hf
      refine V_csi (As := [.int x3, .int x1]) (rest := [.int r_6]) (c_X12_has (d := d) (Nat.le_trans (Nat.le_of_ble_eq_true rfl) hd) e_7) ML_X12_258 MS_X12_has rfl rfl rfl (Nat.le_of_ble_eq_true rfl) dX12_hasComing_133 ?_
      refine V_if_eq (tgt := 148) dX12_hasComing_136 (by decide) (fun c_10 => ?_) (fun c_10 => ?_)
      · have hf := it_s c_10 hf
        refine V_aload_n 0 dX12_hasComing_148 rfl rfl ?_
        refine V_iload_n 1 dX12_hasComing_149 rfl rfl ?_
        refine V_iconst (v := 4) dX12_hasComing_150 (by decide) ?_
        obtain ⟨r_13, h_12, e_11, hf⟩ := ob_s hf
        refine V_cvi (As := [.int x1, .int 4]) (rest := [.int r_6]) (c_X12_partOf (d := d) (Nat.le_trans (Nat.le_of_ble_eq_true rfl) hd) e_11 t_k0) ML_X12_300 MV_X12_partOf rfl t_k0 rfl rfl (Nat.le_of_ble_eq_true rfl) dX12_hasComing_151 ?_
        refine V_sub [0] rfl ?_
        exact v_X12_hasComing_154 hd hf t_k0
      · have hf := if_s c_10 hf
        refine V_aload_n 0 dX12_hasComing_139 rfl rfl ?_
        refine V_getR F_X12_78 rfl t_k0 rfl dX12_hasComing_140 ?_
        refine V_iload_n 1 dX12_hasComing_143 rfl rfl ?_
        obtain ⟨b_14, hf⟩ := og_s hf
        refine V_iald (rfA t_k0 (Nat.le_of_ble_eq_true rfl) rfl rfl (by decide)) b_14 dX12_hasComing_144 ?_
        refine V_goto (tgt := 154) dX12_hasComing_145 (by decide) ?_
        refine V_sub [0] rfl ?_
        exact v_X12_hasComing_154 hd hf t_k0
    · have hf := if_s c_1 hf
      refine V_iload_n 2 dX12_hasComing_82 rfl rfl ?_
      refine V_iload 4 dX12_hasComing_83 rfl ?_
      obtain ⟨r_17, h_16, e_15, hf⟩ := ob_s hf
      refine V_csi (As := [.int x2, .int x4]) (rest := []) (c_X12_has (d := d) (Nat.le_trans (Nat.le_of_ble_eq_true rfl) hd) e_15) ML_X12_258 MS_X12_has rfl rfl rfl (Nat.le_of_ble_eq_true rfl) dX12_hasComing_85 ?_
      refine V_if_ne (tgt := 94) dX12_hasComing_88 (by decide) (fun c_18 => ?_) (fun c_18 => ?_)
      · have hf := if_s c_18 hf
        refine V_aload_n 0 dX12_hasComing_94 rfl rfl ?_
        refine V_getR F_X12_60 rfl t_k0 rfl dX12_hasComing_95 ?_
        refine V_aload_n 0 dX12_hasComing_98 rfl rfl ?_
        refine V_getI F_X12_321 rfl t_k0 rfl dX12_hasComing_99 ?_
        refine V_iload 4 dX12_hasComing_102 rfl ?_
        obtain ⟨b_19, hf⟩ := og_s hf
        obtain ⟨h_20, e_21, hf⟩ := nm_s hf
        refine V_iast (rfA t_k0 (Nat.le_of_ble_eq_true rfl) rfl rfl (by decide)) b_19 e_21 dX12_hasComing_104 ?_
        refine V_aload_n 0 dX12_hasComing_105 rfl rfl ?_
        refine V_dup dX12_hasComing_106 rfl ?_
        refine V_getI F_X12_321 rfl t_k0 rfl dX12_hasComing_107 ?_
        refine V_iconst (v := 1) dX12_hasComing_110 (by decide) ?_
        refine V_iadd dX12_hasComing_111 ?_
        obtain ⟨h_22, e_23, hf⟩ := nm_s hf
        refine V_putI P_X12_321 rfl t_k0 rfl e_23 dX12_hasComing_112 ?_
        exact v_X12_hasComing_115 hd ih hf t_k0
      · have hf := it_s c_18 hf
        refine V_goto (tgt := 115) dX12_hasComing_91 (by decide) ?_
        exact v_X12_hasComing_115 hd ih hf t_k0
set_option maxHeartbeats 4000000 in
set_option maxRecDepth 100000 in
theorem v_X12_hasComing_3 {E : EV} {d : Nat} (hd : 1460 ≤ d) {r0 : Int32} {h0 : AH} : ∀ (n : Nat) (k0 : Nat) (x1 : Int32) (x2 : Int32) (x3 : Int32) (x4 : Int32) (h : AH), f_X12_hasComing_3 n k0 x1 x2 x3 x4 h = some (r0, h0) → kd k0 = (0, 12) → V E (d + 1) K_X12_hasComing (ZI E r0 h0) h [(0, .ref k0), (1, .int x1), (2, .int x2), (3, .int x3), (4, .int x4)] [] 3 := by
  intro n
  induction n with
  | zero =>
    intro k0 x1 x2 x3 x4 h hf
    rw [f_X12_hasComing_3] at hf
    cases hf
  | succ n ih =>
    intro k0 x1 x2 x3 x4 h hf t_k0
    rw [f_X12_hasComing_3] at hf
    refine V_iload 4 dX12_hasComing_3 rfl ?_
    refine V_aload_n 0 dX12_hasComing_5 rfl rfl ?_
    refine V_getI F_X12_283 rfl t_k0 rfl dX12_hasComing_6 ?_
    refine V_ic_ge (tgt := 65) dX12_hasComing_9 (by decide) (fun c_1 => ?_) (fun c_1 => ?_)
    · have hf := it_s c_1 hf
      refine V_aload_n 0 dX12_hasComing_65 rfl rfl ?_
      refine V_iconst (v := 0) dX12_hasComing_66 (by decide) ?_
      obtain ⟨h_2, e_3, hf⟩ := nm_s hf
      refine V_putI P_X12_321 rfl t_k0 rfl e_3 dX12_hasComing_67 ?_
      refine V_iconst (v := 0) dX12_hasComing_70 (by decide) ?_
      refine V_istore (L' := [(4, .int 0), (0, .ref k0), (1, .int x1), (2, .int x2), (3, .int x3)]) dX12_hasComing_71 (Nat.le_of_ble_eq_true rfl) rfl rfl ?_
      refine V_sub [1, 2, 3, 4, 0] rfl ?_
      exact v_X12_hasComing_73 hd FU _ _ _ _ _ _ hf t_k0
    · have hf := if_s c_1 hf
      refine V_aload_n 0 dX12_hasComing_12 rfl rfl ?_
      refine V_getR F_X12_78 rfl t_k0 rfl dX12_hasComing_13 ?_
      refine V_iload 4 dX12_hasComing_16 rfl ?_
      refine V_aload_n 0 dX12_hasComing_18 rfl rfl ?_
      refine V_getR F_X12_54 rfl t_k0 rfl dX12_hasComing_19 ?_
      refine V_iload 4 dX12_hasComing_22 rfl ?_
      obtain ⟨b_4, hf⟩ := og_s hf
      refine V_iald (rfA t_k0 (Nat.le_of_ble_eq_true rfl) rfl rfl (by decide)) b_4 dX12_hasComing_24 ?_
      obtain ⟨b_5, hf⟩ := og_s hf
      obtain ⟨h_6, e_7, hf⟩ := nm_s hf
      refine V_iast (rfA t_k0 (Nat.le_of_ble_eq_true rfl) rfl rfl (by decide)) b_5 e_7 dX12_hasComing_25 ?_
      refine V_aload_n 0 dX12_hasComing_26 rfl rfl ?_
      refine V_getR F_X12_54 rfl t_k0 rfl dX12_hasComing_27 ?_
      refine V_iload 4 dX12_hasComing_30 rfl ?_
      refine V_iload_n 3 dX12_hasComing_32 rfl rfl ?_
      refine V_iload 4 dX12_hasComing_33 rfl ?_
      obtain ⟨r_10, h_9, e_8, hf⟩ := ob_s hf
      refine V_csi (As := [.int x3, .int x4]) (rest := [.int x4, .ref (rf k0 25)]) (c_X12_has (d := d) (Nat.le_trans (Nat.le_of_ble_eq_true rfl) hd) e_8) ML_X12_258 MS_X12_has rfl rfl rfl (Nat.le_of_ble_eq_true rfl) dX12_hasComing_35 ?_
      refine V_if_eq (tgt := 51) dX12_hasComing_38 (by decide) (fun c_11 => ?_) (fun c_11 => ?_)
      · have hf := it_s c_11 hf
        refine V_aload_n 0 dX12_hasComing_51 rfl rfl ?_
        refine V_getR F_X12_54 rfl t_k0 rfl dX12_hasComing_52 ?_
        refine V_iload 4 dX12_hasComing_55 rfl ?_
        obtain ⟨b_12, hf⟩ := og_s hf
        refine V_iald (rfA t_k0 (Nat.le_of_ble_eq_true rfl) rfl rfl (by decide)) b_12 dX12_hasComing_57 ?_
        exact v_X12_hasComing_58 hd ih hf t_k0 (rfA t_k0 (Nat.le_of_ble_eq_true rfl) rfl rfl (by decide))
      · have hf := if_s c_11 hf
        refine V_aload_n 0 dX12_hasComing_41 rfl rfl ?_
        refine V_iload 4 dX12_hasComing_42 rfl ?_
        refine V_iconst (v := 4) dX12_hasComing_44 (by decide) ?_
        obtain ⟨r_15, h_14, e_13, hf⟩ := ob_s hf
        refine V_cvi (As := [.int x4, .int 4]) (rest := [.int x4, .ref (rf k0 25)]) (c_X12_partOf (d := d) (Nat.le_trans (Nat.le_of_ble_eq_true rfl) hd) e_13 t_k0) ML_X12_300 MV_X12_partOf rfl t_k0 rfl rfl (Nat.le_of_ble_eq_true rfl) dX12_hasComing_45 ?_
        refine V_goto (tgt := 58) dX12_hasComing_48 (by decide) ?_
        exact v_X12_hasComing_58 hd ih hf t_k0 (rfA t_k0 (Nat.le_of_ble_eq_true rfl) rfl rfl (by decide))
set_option maxHeartbeats 4000000 in
set_option maxRecDepth 100000 in
theorem c_X12_hasComing {E : EV} {d : Nat} (hd : 1460 + 1 ≤ d) {k0 : Nat} {x1 : Int32} {x2 : Int32} {x3 : Int32} {h : AH} {r0 : Int32} {h0 : AH} (hf : f_X12_hasComing k0 x1 x2 x3 h = some (r0, h0)) (t_k0 : kd k0 = (0, 12)) : Con E d K_X12_hasComing (ZI E r0 h0) [.ref k0, .int x1, .int x2, .int x3] h := by
  obtain ⟨d, rfl⟩ : ∃ d', d = d' + 1 := ⟨d - 1, by omega⟩
  have hd := Nat.le_of_succ_le_succ hd
  refine Con.ofV rfl (Nat.le_of_ble_eq_true rfl) ?_
  unfold f_X12_hasComing at hf
  show V E (d + 1) K_X12_hasComing (ZI E r0 h0) h [(0, .ref k0), (1, .int x1), (2, .int x2), (3, .int x3)] [] 0
  refine V_iconst (v := 0) dX12_hasComing_0 (by decide) ?_
  refine V_istore (L' := [(4, .int 0), (0, .ref k0), (1, .int x1), (2, .int x2), (3, .int x3)]) dX12_hasComing_1 (Nat.le_of_ble_eq_true rfl) rfl rfl ?_
  refine V_sub [1, 2, 3, 4, 0] rfl ?_
  exact v_X12_hasComing_3 hd FU _ _ _ _ _ _ hf t_k0
theorem dX12_isPair_0 : decode cX12_isPair 0 = .ok (.iload_n 1, 1) := by decide +kernel
theorem dX12_isPair_1 : decode cX12_isPair 1 = .ok (.iconst (-1), 1) := by decide +kernel
theorem dX12_isPair_2 : decode cX12_isPair 2 = .ok (.if_icmp .eq 11, 3) := by decide +kernel
theorem dX12_isPair_5 : decode cX12_isPair 5 = .ok (.aload_n 0, 1) := by decide +kernel
theorem dX12_isPair_6 : decode cX12_isPair 6 = .ok (.iload_n 1, 1) := by decide +kernel
theorem dX12_isPair_7 : decode cX12_isPair 7 = .ok (.invokevirtual 295, 3) := by decide +kernel
theorem dX12_isPair_10 : decode cX12_isPair 10 = .ok (.ifCond .eq 7, 3) := by decide +kernel
theorem dX12_isPair_13 : decode cX12_isPair 13 = .ok (.iconst 1, 1) := by decide +kernel
theorem dX12_isPair_14 : decode cX12_isPair 14 = .ok (.goto 4, 3) := by decide +kernel
theorem dX12_isPair_17 : decode cX12_isPair 17 = .ok (.iconst 0, 1) := by decide +kernel
theorem dX12_isPair_18 : decode cX12_isPair 18 = .ok (.ireturn, 1) := by decide +kernel
def f_X12_isPair_18 (s0 : Int32) (h : AH) : Option (Int32 × AH) :=
  og (bz s0) <|
  some (s0, h)
def f_X12_isPair_13  (h : AH) : Option (Int32 × AH) :=
  f_X12_isPair_18 1 h
def f_X12_isPair (k0 : Nat) (x1 : Int32) (h : AH) : Option (Int32 × AH) :=
  if x1 = (-1) then (
    f_X12_isPair_13 h
  ) else (
    ob (f_X12_isPerson k0 x1 h) fun r_4 h_3 =>
    if r_4 = 0 then (
      f_X12_isPair_18 0 h_3
    ) else (
      f_X12_isPair_13 h_3
    )
  )
set_option maxHeartbeats 4000000 in
set_option maxRecDepth 100000 in
theorem v_X12_isPair_18 {E : EV} {d : Nat} (hd : 1 ≤ d) {r0 : Int32} {h0 : AH} {s0 : Int32} {h : AH} (hf : f_X12_isPair_18 s0 h = some (r0, h0)) : V E (d + 1) K_X12_isPair (ZI E r0 h0) h [] [.int s0] 18 := by
  unfold f_X12_isPair_18 at hf
  obtain ⟨b_1, hf⟩ := og_s hf
  exact V_zret rfl b_1 (so_s hf) dX12_isPair_18
set_option maxHeartbeats 4000000 in
set_option maxRecDepth 100000 in
theorem v_X12_isPair_13 {E : EV} {d : Nat} (hd : 1 ≤ d) {r0 : Int32} {h0 : AH}  {h : AH} (hf : f_X12_isPair_13 h = some (r0, h0)) : V E (d + 1) K_X12_isPair (ZI E r0 h0) h [] [] 13 := by
  unfold f_X12_isPair_13 at hf
  refine V_iconst (v := 1) dX12_isPair_13 (by decide) ?_
  refine V_goto (tgt := 18) dX12_isPair_14 (by decide) ?_
  exact v_X12_isPair_18 hd hf
set_option maxHeartbeats 4000000 in
set_option maxRecDepth 100000 in
theorem c_X12_isPair {E : EV} {d : Nat} (hd : 1 + 1 ≤ d) {k0 : Nat} {x1 : Int32} {h : AH} {r0 : Int32} {h0 : AH} (hf : f_X12_isPair k0 x1 h = some (r0, h0)) (t_k0 : kd k0 = (0, 12)) : Con E d K_X12_isPair (ZI E r0 h0) [.ref k0, .int x1] h := by
  obtain ⟨d, rfl⟩ : ∃ d', d = d' + 1 := ⟨d - 1, by omega⟩
  have hd := Nat.le_of_succ_le_succ hd
  refine Con.ofV rfl (Nat.le_of_ble_eq_true rfl) ?_
  unfold f_X12_isPair at hf
  show V E (d + 1) K_X12_isPair (ZI E r0 h0) h [(0, .ref k0), (1, .int x1)] [] 0
  refine V_iload_n 1 dX12_isPair_0 rfl rfl ?_
  refine V_iconst (v := (-1)) dX12_isPair_1 (by decide) ?_
  refine V_ic_eq (tgt := 13) dX12_isPair_2 (by decide) (fun c_1 => ?_) (fun c_1 => ?_)
  · have hf := it_s c_1 hf
    refine V_sub [] rfl ?_
    exact v_X12_isPair_13 hd hf
  · have hf := if_s c_1 hf
    refine V_aload_n 0 dX12_isPair_5 rfl rfl ?_
    refine V_iload_n 1 dX12_isPair_6 rfl rfl ?_
    obtain ⟨r_4, h_3, e_2, hf⟩ := ob_s hf
    refine V_cvi (As := [.int x1]) (rest := []) (c_X12_isPerson (d := d) (Nat.le_trans (Nat.le_of_ble_eq_true rfl) hd) e_2 t_k0) ML_X12_295 MV_X12_isPerson rfl t_k0 rfl rfl (Nat.le_of_ble_eq_true rfl) dX12_isPair_7 ?_
    refine V_if_eq (tgt := 17) dX12_isPair_10 (by decide) (fun c_5 => ?_) (fun c_5 => ?_)
    · have hf := it_s c_5 hf
      refine V_iconst (v := 0) dX12_isPair_17 (by decide) ?_
      refine V_sub [] rfl ?_
      exact v_X12_isPair_18 hd hf
    · have hf := if_s c_5 hf
      refine V_sub [] rfl ?_
      exact v_X12_isPair_13 hd hf
theorem dX12_hide_0 : decode cX12_hide 0 = .ok (.aload_n 0, 1) := by decide +kernel
theorem dX12_hide_1 : decode cX12_hide 1 = .ok (.iconst 0, 1) := by decide +kernel
theorem dX12_hide_2 : decode cX12_hide 2 = .ok (.putfield 120, 3) := by decide +kernel
theorem dX12_hide_5 : decode cX12_hide 5 = .ok (.aload_n 0, 1) := by decide +kernel
theorem dX12_hide_6 : decode cX12_hide 6 = .ok (.iload_n 1, 1) := by decide +kernel
theorem dX12_hide_7 : decode cX12_hide 7 = .ok (.iload_n 2, 1) := by decide +kernel
theorem dX12_hide_8 : decode cX12_hide 8 = .ok (.iload 4, 2) := by decide +kernel
theorem dX12_hide_10 : decode cX12_hide 10 = .ok (.invokevirtual 360, 3) := by decide +kernel
theorem dX12_hide_13 : decode cX12_hide 13 = .ok (.ifCond .eq 21, 3) := by decide +kernel
theorem dX12_hide_16 : decode cX12_hide 16 = .ok (.aload_n 0, 1) := by decide +kernel
theorem dX12_hide_17 : decode cX12_hide 17 = .ok (.iload 5, 2) := by decide +kernel
theorem dX12_hide_19 : decode cX12_hide 19 = .ok (.invokevirtual 364, 3) := by decide +kernel
theorem dX12_hide_22 : decode cX12_hide 22 = .ok (.ifCond .eq 12, 3) := by decide +kernel
theorem dX12_hide_25 : decode cX12_hide 25 = .ok (.aload_n 0, 1) := by decide +kernel
theorem dX12_hide_26 : decode cX12_hide 26 = .ok (.iload_n 2, 1) := by decide +kernel
theorem dX12_hide_27 : decode cX12_hide 27 = .ok (.iload_n 3, 1) := by decide +kernel
theorem dX12_hide_28 : decode cX12_hide 28 = .ok (.invokevirtual 346, 3) := by decide +kernel
theorem dX12_hide_31 : decode cX12_hide 31 = .ok (.ifCond .ne 5, 3) := by decide +kernel
theorem dX12_hide_34 : decode cX12_hide 34 = .ok (.iconst (-1), 1) := by decide +kernel
theorem dX12_hide_35 : decode cX12_hide 35 = .ok (.ireturn, 1) := by decide +kernel
theorem dX12_hide_36 : decode cX12_hide 36 = .ok (.aload_n 0, 1) := by decide +kernel
theorem dX12_hide_37 : decode cX12_hide 37 = .ok (.iload_n 1, 1) := by decide +kernel
theorem dX12_hide_38 : decode cX12_hide 38 = .ok (.iload_n 2, 1) := by decide +kernel
theorem dX12_hide_39 : decode cX12_hide 39 = .ok (.invokevirtual 335, 3) := by decide +kernel
theorem dX12_hide_42 : decode cX12_hide 42 = .ok (.istore 6, 2) := by decide +kernel
theorem dX12_hide_44 : decode cX12_hide 44 = .ok (.iconst 0, 1) := by decide +kernel
theorem dX12_hide_45 : decode cX12_hide 45 = .ok (.istore 7, 2) := by decide +kernel
theorem dX12_hide_47 : decode cX12_hide 47 = .ok (.iconst 0, 1) := by decide +kernel
theorem dX12_hide_48 : decode cX12_hide 48 = .ok (.istore 8, 2) := by decide +kernel
theorem dX12_hide_50 : decode cX12_hide 50 = .ok (.iload 8, 2) := by decide +kernel
theorem dX12_hide_52 : decode cX12_hide 52 = .ok (.aload_n 0, 1) := by decide +kernel
theorem dX12_hide_53 : decode cX12_hide 53 = .ok (.getfield 283, 3) := by decide +kernel
theorem dX12_hide_56 : decode cX12_hide 56 = .ok (.if_icmp .ge 60, 3) := by decide +kernel
theorem dX12_hide_59 : decode cX12_hide 59 = .ok (.iload 6, 2) := by decide +kernel
theorem dX12_hide_61 : decode cX12_hide 61 = .ok (.iload 8, 2) := by decide +kernel
theorem dX12_hide_63 : decode cX12_hide 63 = .ok (.invokestatic 258, 3) := by decide +kernel
theorem dX12_hide_66 : decode cX12_hide 66 = .ok (.ifCond .ne 6, 3) := by decide +kernel
theorem dX12_hide_69 : decode cX12_hide 69 = .ok (.goto 41, 3) := by decide +kernel
theorem dX12_hide_72 : decode cX12_hide 72 = .ok (.aload_n 0, 1) := by decide +kernel
theorem dX12_hide_73 : decode cX12_hide 73 = .ok (.iload 6, 2) := by decide +kernel
theorem dX12_hide_75 : decode cX12_hide 75 = .ok (.iconst 1, 1) := by decide +kernel
theorem dX12_hide_76 : decode cX12_hide 76 = .ok (.iload 8, 2) := by decide +kernel
theorem dX12_hide_78 : decode cX12_hide 78 = .ok (.ishl, 1) := by decide +kernel
theorem dX12_hide_79 : decode cX12_hide 79 = .ok (.iconst (-1), 1) := by decide +kernel
theorem dX12_hide_80 : decode cX12_hide 80 = .ok (.ixor, 1) := by decide +kernel
theorem dX12_hide_81 : decode cX12_hide 81 = .ok (.iand, 1) := by decide +kernel
theorem dX12_hide_82 : decode cX12_hide 82 = .ok (.invokevirtual 338, 3) := by decide +kernel
theorem dX12_hide_85 : decode cX12_hide 85 = .ok (.iload 7, 2) := by decide +kernel
theorem dX12_hide_87 : decode cX12_hide 87 = .ok (.aload_n 0, 1) := by decide +kernel
theorem dX12_hide_88 : decode cX12_hide 88 = .ok (.getfield 63, 3) := by decide +kernel
theorem dX12_hide_91 : decode cX12_hide 91 = .ok (.iload 4, 2) := by decide +kernel
theorem dX12_hide_93 : decode cX12_hide 93 = .ok (.iaload, 1) := by decide +kernel
theorem dX12_hide_94 : decode cX12_hide 94 = .ok (.iload 5, 2) := by decide +kernel
theorem dX12_hide_96 : decode cX12_hide 96 = .ok (.if_icmp .ne 10, 3) := by decide +kernel
theorem dX12_hide_99 : decode cX12_hide 99 = .ok (.iconst 1, 1) := by decide +kernel
theorem dX12_hide_100 : decode cX12_hide 100 = .ok (.iload 8, 2) := by decide +kernel
theorem dX12_hide_102 : decode cX12_hide 102 = .ok (.ishl, 1) := by decide +kernel
theorem dX12_hide_103 : decode cX12_hide 103 = .ok (.goto 4, 3) := by decide +kernel
theorem dX12_hide_106 : decode cX12_hide 106 = .ok (.iconst 0, 1) := by decide +kernel
theorem dX12_hide_107 : decode cX12_hide 107 = .ok (.ior, 1) := by decide +kernel
theorem dX12_hide_108 : decode cX12_hide 108 = .ok (.istore 7, 2) := by decide +kernel
theorem dX12_hide_110 : decode cX12_hide 110 = .ok (.iinc 8 1, 3) := by decide +kernel
theorem dX12_hide_113 : decode cX12_hide 113 = .ok (.goto (-63), 3) := by decide +kernel
theorem dX12_hide_116 : decode cX12_hide 116 = .ok (.iload 7, 2) := by decide +kernel
theorem dX12_hide_118 : decode cX12_hide 118 = .ok (.ireturn, 1) := by decide +kernel
theorem ML_X12_364 : MLk RX12 364 yX12_isPair := Or.inl ml_X12_364
theorem MV_X12_isPair : MVk K_X12_isPair 1 12 := ⟨⟨cd_X12_isPair, in_X12, ⟨by decide, by decide, by decide +kernel⟩, by decide⟩, im_X12_isPair, se_X12_isPair, _, _, rfl⟩
def f_X12_hide_34  (h : AH) : Option (Int32 × AH) :=
  some ((-1), h)
def f_X12_hide_110 (q50 : Nat → Int32 → Int32 → Int32 → Int32 → Int32 → AH → Option (Int32 × AH)) (k0 : Nat) (x4 : Int32) (x5 : Int32) (x6 : Int32) (x7 : Int32) (x8 : Int32) (h : AH) : Option (Int32 × AH) :=
  nm (x8 + 1) fun x8_1 =>
  q50 k0 x4 x5 x6 x7 x8_1 h
def f_X12_hide_107 (q50 : Nat → Int32 → Int32 → Int32 → Int32 → Int32 → AH → Option (Int32 × AH)) (k0 : Nat) (x4 : Int32) (x5 : Int32) (x6 : Int32) (x8 : Int32) (s0 : Int32) (s1 : Int32) (h : AH) : Option (Int32 × AH) :=
  nm ((s1 ||| s0)) fun x7_1 =>
  f_X12_hide_110 q50 k0 x4 x5 x6 x7_1 x8 h
def f_X12_hide_50 : Nat → Nat → Int32 → Int32 → Int32 → Int32 → Int32 → AH → Option (Int32 × AH)
  | 0, _, _, _, _, _, _, _ => none
  | n + 1, k0, x4, x5, x6, x7, x8, h =>
    if (h.1 k0 20) ≤ x8 then (
      some (x7, h)
    ) else (
      ob (f_X12_has x6 x8 h) fun r_4 h_3 =>
      if r_4 = 0 then (
        f_X12_hide_110 (f_X12_hide_50 n) k0 x4 x5 x6 x7 x8 h_3
      ) else (
        ov (f_X12_go k0 (x6 &&& (((1 : Int32) <<< (x8 &&& 31)) ^^^ (-1))) h_3) fun h_7 =>
        og (ix x4 (an (rf k0 28))) <|
        if (h_7.1 (rf k0 28) x4.toNatClampNeg) = x5 then (
          f_X12_hide_107 (f_X12_hide_50 n) k0 x4 x5 x6 x8 ((1 : Int32) <<< (x8 &&& 31)) x7 h_7
        ) else (
          f_X12_hide_107 (f_X12_hide_50 n) k0 x4 x5 x6 x8 0 x7 h_7
        )
      )
    )
def f_X12_hide (k0 : Nat) (x1 : Int32) (x2 : Int32) (x3 : Int32) (x4 : Int32) (x5 : Int32) (h : AH) : Option (Int32 × AH) :=
  nm (sI h k0 0 0) fun h_1 =>
  ob (f_X12_isGuest k0 x1 x2 x4 h_1) fun r_5 h_4 =>
  if r_5 = 0 then (
    f_X12_hide_34 h_4
  ) else (
    ob (f_X12_isPair k0 x5 h_4) fun r_9 h_8 =>
    if r_9 = 0 then (
      f_X12_hide_34 h_8
    ) else (
      ob (f_X12_layOrder k0 x2 x3 h_8) fun r_13 h_12 =>
      if r_13 = 0 then (
        f_X12_hide_34 h_12
      ) else (
        ob (f_X12_doorOf k0 x1 x2 h_12) fun r_17 h_16 =>
        f_X12_hide_50 FU k0 x4 x5 r_17 0 0 h_16
      )
    )
  )
set_option maxHeartbeats 4000000 in
set_option maxRecDepth 100000 in
theorem v_X12_hide_34 {E : EV} {d : Nat} (hd : 1460 ≤ d) {r0 : Int32} {h0 : AH}  {h : AH} (hf : f_X12_hide_34 h = some (r0, h0)) : V E (d + 1) K_X12_hide (ZI E r0 h0) h [] [] 34 := by
  unfold f_X12_hide_34 at hf
  refine V_iconst (v := (-1)) dX12_hide_34 (by decide) ?_
  exact V_iret rfl (so_s hf) dX12_hide_35
set_option maxHeartbeats 4000000 in
set_option maxRecDepth 100000 in
theorem v_X12_hide_110 {E : EV} {d : Nat} (hd : 1460 ≤ d) {r0 : Int32} {h0 : AH} {q50 : Nat → Int32 → Int32 → Int32 → Int32 → Int32 → AH → Option (Int32 × AH)} (cq50 : ∀ (k0 : Nat) (x4 : Int32) (x5 : Int32) (x6 : Int32) (x7 : Int32) (x8 : Int32) (h : AH), q50 k0 x4 x5 x6 x7 x8 h = some (r0, h0) → kd k0 = (0, 12) → V E (d + 1) K_X12_hide (ZI E r0 h0) h [(0, .ref k0), (4, .int x4), (5, .int x5), (6, .int x6), (7, .int x7), (8, .int x8)] [] 50) {k0 : Nat} {x4 : Int32} {x5 : Int32} {x6 : Int32} {x7 : Int32} {x8 : Int32} {h : AH} (hf : f_X12_hide_110 q50 k0 x4 x5 x6 x7 x8 h = some (r0, h0)) (t_k0 : kd k0 = (0, 12)) : V E (d + 1) K_X12_hide (ZI E r0 h0) h [(0, .ref k0), (4, .int x4), (5, .int x5), (6, .int x6), (7, .int x7), (8, .int x8)] [] 110 := by
  unfold f_X12_hide_110 at hf
  obtain ⟨x8_1, e_2, hf⟩ := nm_s hf
  refine V_iinc (a := 1) (L' := [(8, .int x8_1), (0, .ref k0), (4, .int x4), (5, .int x5), (6, .int x6), (7, .int x7)]) 5 dX12_hide_110 rfl (by decide) (Nat.le_of_ble_eq_true rfl) e_2 rfl ?_
  refine V_goto (tgt := 50) dX12_hide_113 (by decide) ?_
  refine V_sub [1, 2, 3, 4, 5, 0] rfl ?_
  exact cq50 _ _ _ _ _ _ _ hf t_k0
set_option maxHeartbeats 4000000 in
set_option maxRecDepth 100000 in
theorem v_X12_hide_107 {E : EV} {d : Nat} (hd : 1460 ≤ d) {r0 : Int32} {h0 : AH} {q50 : Nat → Int32 → Int32 → Int32 → Int32 → Int32 → AH → Option (Int32 × AH)} (cq50 : ∀ (k0 : Nat) (x4 : Int32) (x5 : Int32) (x6 : Int32) (x7 : Int32) (x8 : Int32) (h : AH), q50 k0 x4 x5 x6 x7 x8 h = some (r0, h0) → kd k0 = (0, 12) → V E (d + 1) K_X12_hide (ZI E r0 h0) h [(0, .ref k0), (4, .int x4), (5, .int x5), (6, .int x6), (7, .int x7), (8, .int x8)] [] 50) {k0 : Nat} {x4 : Int32} {x5 : Int32} {x6 : Int32} {x8 : Int32} {s0 : Int32} {s1 : Int32} {h : AH} (hf : f_X12_hide_107 q50 k0 x4 x5 x6 x8 s0 s1 h = some (r0, h0)) (t_k0 : kd k0 = (0, 12)) : V E (d + 1) K_X12_hide (ZI E r0 h0) h [(0, .ref k0), (4, .int x4), (5, .int x5), (6, .int x6), (8, .int x8)] [.int s0, .int s1] 107 := by
  unfold f_X12_hide_107 at hf
  refine V_ior dX12_hide_107 ?_
  obtain ⟨x7_1, e_2, hf⟩ := nm_s hf
  refine V_istore (L' := [(7, .int x7_1), (0, .ref k0), (4, .int x4), (5, .int x5), (6, .int x6), (8, .int x8)]) dX12_hide_108 (Nat.le_of_ble_eq_true rfl) e_2 rfl ?_
  refine V_sub [1, 2, 3, 4, 0, 5] rfl ?_
  exact v_X12_hide_110 hd cq50 hf t_k0
set_option maxHeartbeats 4000000 in
set_option maxRecDepth 100000 in
theorem v_X12_hide_50 {E : EV} {d : Nat} (hd : 1460 ≤ d) {r0 : Int32} {h0 : AH} : ∀ (n : Nat) (k0 : Nat) (x4 : Int32) (x5 : Int32) (x6 : Int32) (x7 : Int32) (x8 : Int32) (h : AH), f_X12_hide_50 n k0 x4 x5 x6 x7 x8 h = some (r0, h0) → kd k0 = (0, 12) → V E (d + 1) K_X12_hide (ZI E r0 h0) h [(0, .ref k0), (4, .int x4), (5, .int x5), (6, .int x6), (7, .int x7), (8, .int x8)] [] 50 := by
  intro n
  induction n with
  | zero =>
    intro k0 x4 x5 x6 x7 x8 h hf
    rw [f_X12_hide_50] at hf
    cases hf
  | succ n ih =>
    intro k0 x4 x5 x6 x7 x8 h hf t_k0
    rw [f_X12_hide_50] at hf
    refine V_iload 5 dX12_hide_50 rfl ?_
    refine V_aload_n 0 dX12_hide_52 rfl rfl ?_
    refine V_getI F_X12_283 rfl t_k0 rfl dX12_hide_53 ?_
    refine V_ic_ge (tgt := 116) dX12_hide_56 (by decide) (fun c_1 => ?_) (fun c_1 => ?_)
    · have hf := it_s c_1 hf
      refine V_iload 4 dX12_hide_116 rfl ?_
      exact V_iret rfl (so_s hf) dX12_hide_118
    · have hf := if_s c_1 hf
      refine V_iload 3 dX12_hide_59 rfl ?_
      refine V_iload 5 dX12_hide_61 rfl ?_
      obtain ⟨r_4, h_3, e_2, hf⟩ := ob_s hf
      refine V_csi (As := [.int x6, .int x8]) (rest := []) (c_X12_has (d := d) (Nat.le_trans (Nat.le_of_ble_eq_true rfl) hd) e_2) ML_X12_258 MS_X12_has rfl rfl rfl (Nat.le_of_ble_eq_true rfl) dX12_hide_63 ?_
      refine V_if_ne (tgt := 72) dX12_hide_66 (by decide) (fun c_5 => ?_) (fun c_5 => ?_)
      · have hf := if_s c_5 hf
        refine V_aload_n 0 dX12_hide_72 rfl rfl ?_
        refine V_iload 3 dX12_hide_73 rfl ?_
        refine V_iconst (v := 1) dX12_hide_75 (by decide) ?_
        refine V_iload 5 dX12_hide_76 rfl ?_
        refine V_ishl dX12_hide_78 ?_
        refine V_iconst (v := (-1)) dX12_hide_79 (by decide) ?_
        refine V_ixor dX12_hide_80 ?_
        refine V_iand dX12_hide_81 ?_
        obtain ⟨h_7, e_6, hf⟩ := ov_s hf
        refine V_cvv (As := [.int (x6 &&& (((1 : Int32) <<< (x8 &&& 31)) ^^^ (-1)))]) (rest := []) (c_X12_go (d := d) (Nat.le_trans (Nat.le_of_ble_eq_true rfl) hd) e_6 t_k0) ML_X12_338 MV_X12_go rfl t_k0 rfl rfl (Nat.le_of_ble_eq_true rfl) dX12_hide_82 ?_
        refine V_iload 4 dX12_hide_85 rfl ?_
        refine V_aload_n 0 dX12_hide_87 rfl rfl ?_
        refine V_getR F_X12_63 rfl t_k0 rfl dX12_hide_88 ?_
        refine V_iload 1 dX12_hide_91 rfl ?_
        obtain ⟨b_8, hf⟩ := og_s hf
        refine V_iald (rfA t_k0 (Nat.le_of_ble_eq_true rfl) rfl rfl (by decide)) b_8 dX12_hide_93 ?_
        refine V_iload 2 dX12_hide_94 rfl ?_
        refine V_ic_ne (tgt := 106) dX12_hide_96 (by decide) (fun c_9 => ?_) (fun c_9 => ?_)
        · have hf := if_s c_9 hf
          refine V_iconst (v := 0) dX12_hide_106 (by decide) ?_
          refine V_sub [0, 1, 2, 3, 5] rfl ?_
          exact v_X12_hide_107 hd ih hf t_k0
        · have hf := it_s c_9 hf
          refine V_iconst (v := 1) dX12_hide_99 (by decide) ?_
          refine V_iload 5 dX12_hide_100 rfl ?_
          refine V_ishl dX12_hide_102 ?_
          refine V_goto (tgt := 107) dX12_hide_103 (by decide) ?_
          refine V_sub [0, 1, 2, 3, 5] rfl ?_
          exact v_X12_hide_107 hd ih hf t_k0
      · have hf := it_s c_5 hf
        refine V_goto (tgt := 110) dX12_hide_69 (by decide) ?_
        exact v_X12_hide_110 hd ih hf t_k0
set_option maxHeartbeats 4000000 in
set_option maxRecDepth 100000 in
theorem c_X12_hide {E : EV} {d : Nat} (hd : 1460 + 1 ≤ d) {k0 : Nat} {x1 : Int32} {x2 : Int32} {x3 : Int32} {x4 : Int32} {x5 : Int32} {h : AH} {r0 : Int32} {h0 : AH} (hf : f_X12_hide k0 x1 x2 x3 x4 x5 h = some (r0, h0)) (t_k0 : kd k0 = (0, 12)) : Con E d K_X12_hide (ZI E r0 h0) [.ref k0, .int x1, .int x2, .int x3, .int x4, .int x5] h := by
  obtain ⟨d, rfl⟩ : ∃ d', d = d' + 1 := ⟨d - 1, by omega⟩
  have hd := Nat.le_of_succ_le_succ hd
  refine Con.ofV rfl (Nat.le_of_ble_eq_true rfl) ?_
  unfold f_X12_hide at hf
  show V E (d + 1) K_X12_hide (ZI E r0 h0) h [(0, .ref k0), (1, .int x1), (2, .int x2), (3, .int x3), (4, .int x4), (5, .int x5)] [] 0
  refine V_aload_n 0 dX12_hide_0 rfl rfl ?_
  refine V_iconst (v := 0) dX12_hide_1 (by decide) ?_
  obtain ⟨h_1, e_2, hf⟩ := nm_s hf
  refine V_putI P_X12_120 rfl t_k0 rfl e_2 dX12_hide_2 ?_
  refine V_aload_n 0 dX12_hide_5 rfl rfl ?_
  refine V_iload_n 1 dX12_hide_6 rfl rfl ?_
  refine V_iload_n 2 dX12_hide_7 rfl rfl ?_
  refine V_iload 4 dX12_hide_8 rfl ?_
  obtain ⟨r_5, h_4, e_3, hf⟩ := ob_s hf
  refine V_cvi (As := [.int x1, .int x2, .int x4]) (rest := []) (c_X12_isGuest (d := d) (Nat.le_trans (Nat.le_of_ble_eq_true rfl) hd) e_3 t_k0) ML_X12_360 MV_X12_isGuest rfl t_k0 rfl rfl (Nat.le_of_ble_eq_true rfl) dX12_hide_10 ?_
  refine V_if_eq (tgt := 34) dX12_hide_13 (by decide) (fun c_6 => ?_) (fun c_6 => ?_)
  · have hf := it_s c_6 hf
    refine V_sub [] rfl ?_
    exact v_X12_hide_34 hd hf
  · have hf := if_s c_6 hf
    refine V_aload_n 0 dX12_hide_16 rfl rfl ?_
    refine V_iload 5 dX12_hide_17 rfl ?_
    obtain ⟨r_9, h_8, e_7, hf⟩ := ob_s hf
    refine V_cvi (As := [.int x5]) (rest := []) (c_X12_isPair (d := d) (Nat.le_trans (Nat.le_of_ble_eq_true rfl) hd) e_7 t_k0) ML_X12_364 MV_X12_isPair rfl t_k0 rfl rfl (Nat.le_of_ble_eq_true rfl) dX12_hide_19 ?_
    refine V_if_eq (tgt := 34) dX12_hide_22 (by decide) (fun c_10 => ?_) (fun c_10 => ?_)
    · have hf := it_s c_10 hf
      refine V_sub [] rfl ?_
      exact v_X12_hide_34 hd hf
    · have hf := if_s c_10 hf
      refine V_aload_n 0 dX12_hide_25 rfl rfl ?_
      refine V_iload_n 2 dX12_hide_26 rfl rfl ?_
      refine V_iload_n 3 dX12_hide_27 rfl rfl ?_
      obtain ⟨r_13, h_12, e_11, hf⟩ := ob_s hf
      refine V_cvi (As := [.int x2, .int x3]) (rest := []) (c_X12_layOrder (d := d) (Nat.le_trans (Nat.le_of_ble_eq_true rfl) hd) e_11 t_k0) ML_X12_346 MV_X12_layOrder rfl t_k0 rfl rfl (Nat.le_of_ble_eq_true rfl) dX12_hide_28 ?_
      refine V_if_ne (tgt := 36) dX12_hide_31 (by decide) (fun c_14 => ?_) (fun c_14 => ?_)
      · have hf := if_s c_14 hf
        refine V_aload_n 0 dX12_hide_36 rfl rfl ?_
        refine V_iload_n 1 dX12_hide_37 rfl rfl ?_
        refine V_iload_n 2 dX12_hide_38 rfl rfl ?_
        obtain ⟨r_17, h_16, e_15, hf⟩ := ob_s hf
        refine V_cvi (As := [.int x1, .int x2]) (rest := []) (c_X12_doorOf (d := d) (Nat.le_trans (Nat.le_of_ble_eq_true rfl) hd) e_15 t_k0) ML_X12_335 MV_X12_doorOf rfl t_k0 rfl rfl (Nat.le_of_ble_eq_true rfl) dX12_hide_39 ?_
        refine V_istore (L' := [(6, .int r_17), (0, .ref k0), (1, .int x1), (2, .int x2), (3, .int x3), (4, .int x4), (5, .int x5)]) dX12_hide_42 (Nat.le_of_ble_eq_true rfl) rfl rfl ?_
        refine V_iconst (v := 0) dX12_hide_44 (by decide) ?_
        refine V_istore (L' := [(7, .int 0), (6, .int r_17), (0, .ref k0), (1, .int x1), (2, .int x2), (3, .int x3), (4, .int x4), (5, .int x5)]) dX12_hide_45 (Nat.le_of_ble_eq_true rfl) rfl rfl ?_
        refine V_iconst (v := 0) dX12_hide_47 (by decide) ?_
        refine V_istore (L' := [(8, .int 0), (7, .int 0), (6, .int r_17), (0, .ref k0), (1, .int x1), (2, .int x2), (3, .int x3), (4, .int x4), (5, .int x5)]) dX12_hide_48 (Nat.le_of_ble_eq_true rfl) rfl rfl ?_
        refine V_sub [3, 7, 8, 2, 1, 0] rfl ?_
        exact v_X12_hide_50 hd FU _ _ _ _ _ _ _ hf t_k0
      · have hf := it_s c_14 hf
        refine V_sub [] rfl ?_
        exact v_X12_hide_34 hd hf
theorem dX12_hostCounts_0 : decode cX12_hostCounts 0 = .ok (.iconst 0, 1) := by decide +kernel
theorem dX12_hostCounts_1 : decode cX12_hostCounts 1 = .ok (.istore_n 2, 1) := by decide +kernel
theorem dX12_hostCounts_2 : decode cX12_hostCounts 2 = .ok (.iconst 0, 1) := by decide +kernel
theorem dX12_hostCounts_3 : decode cX12_hostCounts 3 = .ok (.istore_n 3, 1) := by decide +kernel
theorem dX12_hostCounts_4 : decode cX12_hostCounts 4 = .ok (.iconst 0, 1) := by decide +kernel
theorem dX12_hostCounts_5 : decode cX12_hostCounts 5 = .ok (.istore 4, 2) := by decide +kernel
theorem dX12_hostCounts_7 : decode cX12_hostCounts 7 = .ok (.ldc_w 376, 3) := by decide +kernel
theorem dX12_hostCounts_10 : decode cX12_hostCounts 10 = .ok (.istore 5, 2) := by decide +kernel
theorem dX12_hostCounts_12 : decode cX12_hostCounts 12 = .ok (.iconst 0, 1) := by decide +kernel
theorem dX12_hostCounts_13 : decode cX12_hostCounts 13 = .ok (.istore 6, 2) := by decide +kernel
theorem dX12_hostCounts_15 : decode cX12_hostCounts 15 = .ok (.iload 6, 2) := by decide +kernel
theorem dX12_hostCounts_17 : decode cX12_hostCounts 17 = .ok (.aload_n 0, 1) := by decide +kernel
theorem dX12_hostCounts_18 : decode cX12_hostCounts 18 = .ok (.getfield 321, 3) := by decide +kernel
theorem dX12_hostCounts_21 : decode cX12_hostCounts 21 = .ok (.if_icmp .ge 81, 3) := by decide +kernel
theorem dX12_hostCounts_24 : decode cX12_hostCounts 24 = .ok (.aload_n 0, 1) := by decide +kernel
theorem dX12_hostCounts_25 : decode cX12_hostCounts 25 = .ok (.getfield 60, 3) := by decide +kernel
theorem dX12_hostCounts_28 : decode cX12_hostCounts 28 = .ok (.iload 6, 2) := by decide +kernel
theorem dX12_hostCounts_30 : decode cX12_hostCounts 30 = .ok (.iaload, 1) := by decide +kernel
theorem dX12_hostCounts_31 : decode cX12_hostCounts 31 = .ok (.istore 7, 2) := by decide +kernel
theorem dX12_hostCounts_33 : decode cX12_hostCounts 33 = .ok (.iload_n 2, 1) := by decide +kernel
theorem dX12_hostCounts_34 : decode cX12_hostCounts 34 = .ok (.aload_n 0, 1) := by decide +kernel
theorem dX12_hostCounts_35 : decode cX12_hostCounts 35 = .ok (.getfield 63, 3) := by decide +kernel
theorem dX12_hostCounts_38 : decode cX12_hostCounts 38 = .ok (.iload 7, 2) := by decide +kernel
theorem dX12_hostCounts_40 : decode cX12_hostCounts 40 = .ok (.iaload, 1) := by decide +kernel
theorem dX12_hostCounts_41 : decode cX12_hostCounts 41 = .ok (.iconst (-1), 1) := by decide +kernel
theorem dX12_hostCounts_42 : decode cX12_hostCounts 42 = .ok (.if_icmp .ne 7, 3) := by decide +kernel
theorem dX12_hostCounts_45 : decode cX12_hostCounts 45 = .ok (.iconst 1, 1) := by decide +kernel
theorem dX12_hostCounts_46 : decode cX12_hostCounts 46 = .ok (.goto 4, 3) := by decide +kernel
theorem dX12_hostCounts_49 : decode cX12_hostCounts 49 = .ok (.iconst 0, 1) := by decide +kernel
theorem dX12_hostCounts_50 : decode cX12_hostCounts 50 = .ok (.iadd, 1) := by decide +kernel
theorem dX12_hostCounts_51 : decode cX12_hostCounts 51 = .ok (.istore_n 2, 1) := by decide +kernel
theorem dX12_hostCounts_52 : decode cX12_hostCounts 52 = .ok (.iload_n 3, 1) := by decide +kernel
theorem dX12_hostCounts_53 : decode cX12_hostCounts 53 = .ok (.aload_n 0, 1) := by decide +kernel
theorem dX12_hostCounts_54 : decode cX12_hostCounts 54 = .ok (.iload 7, 2) := by decide +kernel
theorem dX12_hostCounts_56 : decode cX12_hostCounts 56 = .ok (.invokevirtual 373, 3) := by decide +kernel
theorem dX12_hostCounts_59 : decode cX12_hostCounts 59 = .ok (.iadd, 1) := by decide +kernel
theorem dX12_hostCounts_60 : decode cX12_hostCounts 60 = .ok (.istore_n 3, 1) := by decide +kernel
theorem dX12_hostCounts_61 : decode cX12_hostCounts 61 = .ok (.iload 4, 2) := by decide +kernel
theorem dX12_hostCounts_63 : decode cX12_hostCounts 63 = .ok (.aload_n 0, 1) := by decide +kernel
theorem dX12_hostCounts_64 : decode cX12_hostCounts 64 = .ok (.getfield 63, 3) := by decide +kernel
theorem dX12_hostCounts_67 : decode cX12_hostCounts 67 = .ok (.iload 7, 2) := by decide +kernel
theorem dX12_hostCounts_69 : decode cX12_hostCounts 69 = .ok (.iaload, 1) := by decide +kernel
theorem dX12_hostCounts_70 : decode cX12_hostCounts 70 = .ok (.iload 7, 2) := by decide +kernel
theorem dX12_hostCounts_72 : decode cX12_hostCounts 72 = .ok (.if_icmp .ne 7, 3) := by decide +kernel
theorem dX12_hostCounts_75 : decode cX12_hostCounts 75 = .ok (.iconst 1, 1) := by decide +kernel
theorem dX12_hostCounts_76 : decode cX12_hostCounts 76 = .ok (.goto 4, 3) := by decide +kernel
theorem dX12_hostCounts_79 : decode cX12_hostCounts 79 = .ok (.iconst 0, 1) := by decide +kernel
theorem dX12_hostCounts_80 : decode cX12_hostCounts 80 = .ok (.iadd, 1) := by decide +kernel
theorem dX12_hostCounts_81 : decode cX12_hostCounts 81 = .ok (.istore 4, 2) := by decide +kernel
theorem dX12_hostCounts_83 : decode cX12_hostCounts 83 = .ok (.iload 5, 2) := by decide +kernel
theorem dX12_hostCounts_85 : decode cX12_hostCounts 85 = .ok (.aload_n 0, 1) := by decide +kernel
theorem dX12_hostCounts_86 : decode cX12_hostCounts 86 = .ok (.iload 7, 2) := by decide +kernel
theorem dX12_hostCounts_88 : decode cX12_hostCounts 88 = .ok (.invokevirtual 373, 3) := by decide +kernel
theorem dX12_hostCounts_91 : decode cX12_hostCounts 91 = .ok (.invokestatic 377, 3) := by decide +kernel
theorem dX12_hostCounts_94 : decode cX12_hostCounts 94 = .ok (.istore 5, 2) := by decide +kernel
theorem dX12_hostCounts_96 : decode cX12_hostCounts 96 = .ok (.iinc 6 1, 3) := by decide +kernel
theorem dX12_hostCounts_99 : decode cX12_hostCounts 99 = .ok (.goto (-84), 3) := by decide +kernel
theorem dX12_hostCounts_102 : decode cX12_hostCounts 102 = .ok (.iload_n 1, 1) := by decide +kernel
theorem dX12_hostCounts_103 : decode cX12_hostCounts 103 = .ok (.ifCond .ne 8, 3) := by decide +kernel
theorem dX12_hostCounts_106 : decode cX12_hostCounts 106 = .ok (.iload_n 2, 1) := by decide +kernel
theorem dX12_hostCounts_107 : decode cX12_hostCounts 107 = .ok (.ineg, 1) := by decide +kernel
theorem dX12_hostCounts_108 : decode cX12_hostCounts 108 = .ok (.goto 24, 3) := by decide +kernel
theorem dX12_hostCounts_111 : decode cX12_hostCounts 111 = .ok (.iload_n 1, 1) := by decide +kernel
theorem dX12_hostCounts_112 : decode cX12_hostCounts 112 = .ok (.iconst 1, 1) := by decide +kernel
theorem dX12_hostCounts_113 : decode cX12_hostCounts 113 = .ok (.if_icmp .ne 7, 3) := by decide +kernel
theorem dX12_hostCounts_116 : decode cX12_hostCounts 116 = .ok (.iload_n 3, 1) := by decide +kernel
theorem dX12_hostCounts_117 : decode cX12_hostCounts 117 = .ok (.goto 15, 3) := by decide +kernel
theorem dX12_hostCounts_120 : decode cX12_hostCounts 120 = .ok (.iload_n 1, 1) := by decide +kernel
theorem dX12_hostCounts_121 : decode cX12_hostCounts 121 = .ok (.iconst 2, 1) := by decide +kernel
theorem dX12_hostCounts_122 : decode cX12_hostCounts 122 = .ok (.if_icmp .ne 8, 3) := by decide +kernel
theorem dX12_hostCounts_125 : decode cX12_hostCounts 125 = .ok (.iload 4, 2) := by decide +kernel
theorem dX12_hostCounts_127 : decode cX12_hostCounts 127 = .ok (.goto 5, 3) := by decide +kernel
theorem dX12_hostCounts_130 : decode cX12_hostCounts 130 = .ok (.iload 5, 2) := by decide +kernel
theorem dX12_hostCounts_132 : decode cX12_hostCounts 132 = .ok (.ireturn, 1) := by decide +kernel
def f_X12_hostCounts_80 (q15 : Nat → Int32 → Int32 → Int32 → Int32 → Int32 → Int32 → AH → Option (Int32 × AH)) (k0 : Nat) (x1 : Int32) (x2 : Int32) (x3 : Int32) (x5 : Int32) (x6 : Int32) (x7 : Int32) (s0 : Int32) (s1 : Int32) (h : AH) : Option (Int32 × AH) :=
  nm ((s1 + s0)) fun x4_1 =>
  ob (f_X12_worthOf k0 x7 h) fun r_5 h_4 =>
  nm ((if r_5 < x5 then r_5 else x5)) fun x5_6 =>
  nm (x6 + 1) fun x6_8 =>
  q15 k0 x1 x2 x3 x4_1 x5_6 x6_8 h_4
def f_X12_hostCounts_50 (q15 : Nat → Int32 → Int32 → Int32 → Int32 → Int32 → Int32 → AH → Option (Int32 × AH)) (k0 : Nat) (x1 : Int32) (x3 : Int32) (x4 : Int32) (x5 : Int32) (x6 : Int32) (x7 : Int32) (s0 : Int32) (s1 : Int32) (h : AH) : Option (Int32 × AH) :=
  nm ((s1 + s0)) fun x2_1 =>
  ob (f_X12_worthOf k0 x7 h) fun r_5 h_4 =>
  nm ((x3 + r_5)) fun x3_6 =>
  og (ix x7 (an (rf k0 28))) <|
  if (h_4.1 (rf k0 28) x7.toNatClampNeg) = x7 then (
    f_X12_hostCounts_80 q15 k0 x1 x2_1 x3_6 x5 x6 x7 1 x4 h_4
  ) else (
    f_X12_hostCounts_80 q15 k0 x1 x2_1 x3_6 x5 x6 x7 0 x4 h_4
  )
def f_X12_hostCounts_132 (s0 : Int32) (h : AH) : Option (Int32 × AH) :=
  some (s0, h)
def f_X12_hostCounts_15 : Nat → Nat → Int32 → Int32 → Int32 → Int32 → Int32 → Int32 → AH → Option (Int32 × AH)
  | 0, _, _, _, _, _, _, _, _ => none
  | n + 1, k0, x1, x2, x3, x4, x5, x6, h =>
    if (h.1 k0 29) ≤ x6 then (
      if x1 = 0 then (
        f_X12_hostCounts_132 (-x2) h
      ) else (
        if x1 = 1 then (
          f_X12_hostCounts_132 x3 h
        ) else (
          if x1 = 2 then (
            f_X12_hostCounts_132 x4 h
          ) else (
            f_X12_hostCounts_132 x5 h
          )
        )
      )
    ) else (
      og (ix x6 (an (rf k0 27))) <|
      nm ((h.1 (rf k0 27) x6.toNatClampNeg)) fun x7_6 =>
      og (ix x7_6 (an (rf k0 28))) <|
      if (h.1 (rf k0 28) x7_6.toNatClampNeg) = (-1) then (
        f_X12_hostCounts_50 (f_X12_hostCounts_15 n) k0 x1 x3 x4 x5 x6 x7_6 1 x2 h
      ) else (
        f_X12_hostCounts_50 (f_X12_hostCounts_15 n) k0 x1 x3 x4 x5 x6 x7_6 0 x2 h
      )
    )
def f_X12_hostCounts (k0 : Nat) (x1 : Int32) (h : AH) : Option (Int32 × AH) :=
  f_X12_hostCounts_15 FU k0 x1 0 0 0 1000000000 0 h
set_option maxHeartbeats 4000000 in
set_option maxRecDepth 100000 in
theorem v_X12_hostCounts_80 {E : EV} {d : Nat} (hd : 1 ≤ d) {r0 : Int32} {h0 : AH} {q15 : Nat → Int32 → Int32 → Int32 → Int32 → Int32 → Int32 → AH → Option (Int32 × AH)} (cq15 : ∀ (k0 : Nat) (x1 : Int32) (x2 : Int32) (x3 : Int32) (x4 : Int32) (x5 : Int32) (x6 : Int32) (h : AH), q15 k0 x1 x2 x3 x4 x5 x6 h = some (r0, h0) → kd k0 = (0, 12) → V E (d + 1) K_X12_hostCounts (ZI E r0 h0) h [(0, .ref k0), (1, .int x1), (2, .int x2), (3, .int x3), (4, .int x4), (5, .int x5), (6, .int x6)] [] 15) {k0 : Nat} {x1 : Int32} {x2 : Int32} {x3 : Int32} {x5 : Int32} {x6 : Int32} {x7 : Int32} {s0 : Int32} {s1 : Int32} {h : AH} (hf : f_X12_hostCounts_80 q15 k0 x1 x2 x3 x5 x6 x7 s0 s1 h = some (r0, h0)) (t_k0 : kd k0 = (0, 12)) : V E (d + 1) K_X12_hostCounts (ZI E r0 h0) h [(0, .ref k0), (1, .int x1), (2, .int x2), (3, .int x3), (5, .int x5), (6, .int x6), (7, .int x7)] [.int s0, .int s1] 80 := by
  unfold f_X12_hostCounts_80 at hf
  refine V_iadd dX12_hostCounts_80 ?_
  obtain ⟨x4_1, e_2, hf⟩ := nm_s hf
  refine V_istore (L' := [(4, .int x4_1), (0, .ref k0), (1, .int x1), (2, .int x2), (3, .int x3), (5, .int x5), (6, .int x6), (7, .int x7)]) dX12_hostCounts_81 (Nat.le_of_ble_eq_true rfl) e_2 rfl ?_
  refine V_iload 5 dX12_hostCounts_83 rfl ?_
  refine V_aload_n 1 dX12_hostCounts_85 rfl rfl ?_
  refine V_iload 7 dX12_hostCounts_86 rfl ?_
  obtain ⟨r_5, h_4, e_3, hf⟩ := ob_s hf
  refine V_cvi (As := [.int x7]) (rest := [.int x5]) (c_X12_worthOf (d := d) (Nat.le_trans (Nat.le_of_ble_eq_true rfl) hd) e_3 t_k0) ML_X12_373 MV_X12_worthOf rfl t_k0 rfl rfl (Nat.le_of_ble_eq_true rfl) dX12_hostCounts_88 ?_
  refine V_mmin ml_X12_377 rfl (Nat.le_of_ble_eq_true rfl) dX12_hostCounts_91 ?_
  obtain ⟨x5_6, e_7, hf⟩ := nm_s hf
  refine V_istore (L' := [(5, .int x5_6), (4, .int x4_1), (0, .ref k0), (1, .int x1), (2, .int x2), (3, .int x3), (6, .int x6), (7, .int x7)]) dX12_hostCounts_94 (Nat.le_of_ble_eq_true rfl) e_7 rfl ?_
  obtain ⟨x6_8, e_9, hf⟩ := nm_s hf
  refine V_iinc (a := 1) (L' := [(6, .int x6_8), (5, .int x5_6), (4, .int x4_1), (0, .ref k0), (1, .int x1), (2, .int x2), (3, .int x3), (7, .int x7)]) 6 dX12_hostCounts_96 rfl (by decide) (Nat.le_of_ble_eq_true rfl) e_9 rfl ?_
  refine V_goto (tgt := 15) dX12_hostCounts_99 (by decide) ?_
  refine V_sub [3, 4, 5, 6, 2, 1, 0] rfl ?_
  exact cq15 _ _ _ _ _ _ _ _ hf t_k0
set_option maxHeartbeats 4000000 in
set_option maxRecDepth 100000 in
theorem v_X12_hostCounts_50 {E : EV} {d : Nat} (hd : 1 ≤ d) {r0 : Int32} {h0 : AH} {q15 : Nat → Int32 → Int32 → Int32 → Int32 → Int32 → Int32 → AH → Option (Int32 × AH)} (cq15 : ∀ (k0 : Nat) (x1 : Int32) (x2 : Int32) (x3 : Int32) (x4 : Int32) (x5 : Int32) (x6 : Int32) (h : AH), q15 k0 x1 x2 x3 x4 x5 x6 h = some (r0, h0) → kd k0 = (0, 12) → V E (d + 1) K_X12_hostCounts (ZI E r0 h0) h [(0, .ref k0), (1, .int x1), (2, .int x2), (3, .int x3), (4, .int x4), (5, .int x5), (6, .int x6)] [] 15) {k0 : Nat} {x1 : Int32} {x3 : Int32} {x4 : Int32} {x5 : Int32} {x6 : Int32} {x7 : Int32} {s0 : Int32} {s1 : Int32} {h : AH} (hf : f_X12_hostCounts_50 q15 k0 x1 x3 x4 x5 x6 x7 s0 s1 h = some (r0, h0)) (t_k0 : kd k0 = (0, 12)) : V E (d + 1) K_X12_hostCounts (ZI E r0 h0) h [(0, .ref k0), (1, .int x1), (3, .int x3), (4, .int x4), (5, .int x5), (6, .int x6), (7, .int x7)] [.int s0, .int s1] 50 := by
  unfold f_X12_hostCounts_50 at hf
  refine V_iadd dX12_hostCounts_50 ?_
  obtain ⟨x2_1, e_2, hf⟩ := nm_s hf
  refine V_istore_n (L' := [(2, .int x2_1), (0, .ref k0), (1, .int x1), (3, .int x3), (4, .int x4), (5, .int x5), (6, .int x6), (7, .int x7)]) dX12_hostCounts_51 rfl (Nat.le_of_ble_eq_true rfl) e_2 rfl ?_
  refine V_iload_n 3 dX12_hostCounts_52 rfl rfl ?_
  refine V_aload_n 1 dX12_hostCounts_53 rfl rfl ?_
  refine V_iload 7 dX12_hostCounts_54 rfl ?_
  obtain ⟨r_5, h_4, e_3, hf⟩ := ob_s hf
  refine V_cvi (As := [.int x7]) (rest := [.int x3]) (c_X12_worthOf (d := d) (Nat.le_trans (Nat.le_of_ble_eq_true rfl) hd) e_3 t_k0) ML_X12_373 MV_X12_worthOf rfl t_k0 rfl rfl (Nat.le_of_ble_eq_true rfl) dX12_hostCounts_56 ?_
  refine V_iadd dX12_hostCounts_59 ?_
  obtain ⟨x3_6, e_7, hf⟩ := nm_s hf
  refine V_istore_n (L' := [(3, .int x3_6), (2, .int x2_1), (0, .ref k0), (1, .int x1), (4, .int x4), (5, .int x5), (6, .int x6), (7, .int x7)]) dX12_hostCounts_60 rfl (Nat.le_of_ble_eq_true rfl) e_7 rfl ?_
  refine V_iload 4 dX12_hostCounts_61 rfl ?_
  refine V_aload_n 2 dX12_hostCounts_63 rfl rfl ?_
  refine V_getR F_X12_63 rfl t_k0 rfl dX12_hostCounts_64 ?_
  refine V_iload 7 dX12_hostCounts_67 rfl ?_
  obtain ⟨b_8, hf⟩ := og_s hf
  refine V_iald (rfA t_k0 (Nat.le_of_ble_eq_true rfl) rfl rfl (by decide)) b_8 dX12_hostCounts_69 ?_
  refine V_iload 7 dX12_hostCounts_70 rfl ?_
  refine V_ic_ne (tgt := 79) dX12_hostCounts_72 (by decide) (fun c_9 => ?_) (fun c_9 => ?_)
  · have hf := if_s c_9 hf
    refine V_iconst (v := 0) dX12_hostCounts_79 (by decide) ?_
    refine V_sub [2, 3, 1, 0, 5, 6, 7] rfl ?_
    exact v_X12_hostCounts_80 hd cq15 hf t_k0
  · have hf := it_s c_9 hf
    refine V_iconst (v := 1) dX12_hostCounts_75 (by decide) ?_
    refine V_goto (tgt := 80) dX12_hostCounts_76 (by decide) ?_
    refine V_sub [2, 3, 1, 0, 5, 6, 7] rfl ?_
    exact v_X12_hostCounts_80 hd cq15 hf t_k0
set_option maxHeartbeats 4000000 in
set_option maxRecDepth 100000 in
theorem v_X12_hostCounts_132 {E : EV} {d : Nat} (hd : 1 ≤ d) {r0 : Int32} {h0 : AH} {s0 : Int32} {h : AH} (hf : f_X12_hostCounts_132 s0 h = some (r0, h0)) : V E (d + 1) K_X12_hostCounts (ZI E r0 h0) h [] [.int s0] 132 := by
  unfold f_X12_hostCounts_132 at hf
  exact V_iret rfl (so_s hf) dX12_hostCounts_132
set_option maxHeartbeats 4000000 in
set_option maxRecDepth 100000 in
theorem v_X12_hostCounts_15 {E : EV} {d : Nat} (hd : 1 ≤ d) {r0 : Int32} {h0 : AH} : ∀ (n : Nat) (k0 : Nat) (x1 : Int32) (x2 : Int32) (x3 : Int32) (x4 : Int32) (x5 : Int32) (x6 : Int32) (h : AH), f_X12_hostCounts_15 n k0 x1 x2 x3 x4 x5 x6 h = some (r0, h0) → kd k0 = (0, 12) → V E (d + 1) K_X12_hostCounts (ZI E r0 h0) h [(0, .ref k0), (1, .int x1), (2, .int x2), (3, .int x3), (4, .int x4), (5, .int x5), (6, .int x6)] [] 15 := by
  intro n
  induction n with
  | zero =>
    intro k0 x1 x2 x3 x4 x5 x6 h hf
    rw [f_X12_hostCounts_15] at hf
    cases hf
  | succ n ih =>
    intro k0 x1 x2 x3 x4 x5 x6 h hf t_k0
    rw [f_X12_hostCounts_15] at hf
    refine V_iload 6 dX12_hostCounts_15 rfl ?_
    refine V_aload_n 0 dX12_hostCounts_17 rfl rfl ?_
    refine V_getI F_X12_321 rfl t_k0 rfl dX12_hostCounts_18 ?_
    refine V_ic_ge (tgt := 102) dX12_hostCounts_21 (by decide) (fun c_1 => ?_) (fun c_1 => ?_)
    · have hf := it_s c_1 hf
      refine V_iload_n 1 dX12_hostCounts_102 rfl rfl ?_
      refine V_if_ne (tgt := 111) dX12_hostCounts_103 (by decide) (fun c_2 => ?_) (fun c_2 => ?_)
      · have hf := if_s c_2 hf
        refine V_iload_n 1 dX12_hostCounts_111 rfl rfl ?_
        refine V_iconst (v := 1) dX12_hostCounts_112 (by decide) ?_
        refine V_ic_ne (tgt := 120) dX12_hostCounts_113 (by decide) (fun c_3 => ?_) (fun c_3 => ?_)
        · have hf := if_s c_3 hf
          refine V_iload_n 1 dX12_hostCounts_120 rfl rfl ?_
          refine V_iconst (v := 2) dX12_hostCounts_121 (by decide) ?_
          refine V_ic_ne (tgt := 130) dX12_hostCounts_122 (by decide) (fun c_4 => ?_) (fun c_4 => ?_)
          · have hf := if_s c_4 hf
            refine V_iload 5 dX12_hostCounts_130 rfl ?_
            refine V_sub [] rfl ?_
            exact v_X12_hostCounts_132 hd hf
          · have hf := it_s c_4 hf
            refine V_iload 4 dX12_hostCounts_125 rfl ?_
            refine V_goto (tgt := 132) dX12_hostCounts_127 (by decide) ?_
            refine V_sub [] rfl ?_
            exact v_X12_hostCounts_132 hd hf
        · have hf := it_s c_3 hf
          refine V_iload_n 3 dX12_hostCounts_116 rfl rfl ?_
          refine V_goto (tgt := 132) dX12_hostCounts_117 (by decide) ?_
          refine V_sub [] rfl ?_
          exact v_X12_hostCounts_132 hd hf
      · have hf := it_s c_2 hf
        refine V_iload_n 2 dX12_hostCounts_106 rfl rfl ?_
        refine V_ineg dX12_hostCounts_107 ?_
        refine V_goto (tgt := 132) dX12_hostCounts_108 (by decide) ?_
        refine V_sub [] rfl ?_
        exact v_X12_hostCounts_132 hd hf
    · have hf := if_s c_1 hf
      refine V_aload_n 0 dX12_hostCounts_24 rfl rfl ?_
      refine V_getR F_X12_60 rfl t_k0 rfl dX12_hostCounts_25 ?_
      refine V_iload 6 dX12_hostCounts_28 rfl ?_
      obtain ⟨b_5, hf⟩ := og_s hf
      refine V_iald (rfA t_k0 (Nat.le_of_ble_eq_true rfl) rfl rfl (by decide)) b_5 dX12_hostCounts_30 ?_
      obtain ⟨x7_6, e_7, hf⟩ := nm_s hf
      refine V_istore (L' := [(7, .int x7_6), (0, .ref k0), (1, .int x1), (2, .int x2), (3, .int x3), (4, .int x4), (5, .int x5), (6, .int x6)]) dX12_hostCounts_31 (Nat.le_of_ble_eq_true rfl) e_7 rfl ?_
      refine V_iload_n 3 dX12_hostCounts_33 rfl rfl ?_
      refine V_aload_n 1 dX12_hostCounts_34 rfl rfl ?_
      refine V_getR F_X12_63 rfl t_k0 rfl dX12_hostCounts_35 ?_
      refine V_iload 0 dX12_hostCounts_38 rfl ?_
      obtain ⟨b_8, hf⟩ := og_s hf
      refine V_iald (rfA t_k0 (Nat.le_of_ble_eq_true rfl) rfl rfl (by decide)) b_8 dX12_hostCounts_40 ?_
      refine V_iconst (v := (-1)) dX12_hostCounts_41 (by decide) ?_
      refine V_ic_ne (tgt := 49) dX12_hostCounts_42 (by decide) (fun c_9 => ?_) (fun c_9 => ?_)
      · have hf := if_s c_9 hf
        refine V_iconst (v := 0) dX12_hostCounts_49 (by decide) ?_
        refine V_sub [1, 2, 4, 5, 6, 7, 0] rfl ?_
        exact v_X12_hostCounts_50 hd ih hf t_k0
      · have hf := it_s c_9 hf
        refine V_iconst (v := 1) dX12_hostCounts_45 (by decide) ?_
        refine V_goto (tgt := 50) dX12_hostCounts_46 (by decide) ?_
        refine V_sub [1, 2, 4, 5, 6, 7, 0] rfl ?_
        exact v_X12_hostCounts_50 hd ih hf t_k0
set_option maxHeartbeats 4000000 in
set_option maxRecDepth 100000 in
theorem c_X12_hostCounts {E : EV} {d : Nat} (hd : 1 + 1 ≤ d) {k0 : Nat} {x1 : Int32} {h : AH} {r0 : Int32} {h0 : AH} (hf : f_X12_hostCounts k0 x1 h = some (r0, h0)) (t_k0 : kd k0 = (0, 12)) : Con E d K_X12_hostCounts (ZI E r0 h0) [.ref k0, .int x1] h := by
  obtain ⟨d, rfl⟩ : ∃ d', d = d' + 1 := ⟨d - 1, by omega⟩
  have hd := Nat.le_of_succ_le_succ hd
  refine Con.ofV rfl (Nat.le_of_ble_eq_true rfl) ?_
  unfold f_X12_hostCounts at hf
  show V E (d + 1) K_X12_hostCounts (ZI E r0 h0) h [(0, .ref k0), (1, .int x1)] [] 0
  refine V_iconst (v := 0) dX12_hostCounts_0 (by decide) ?_
  refine V_istore_n (L' := [(2, .int 0), (0, .ref k0), (1, .int x1)]) dX12_hostCounts_1 rfl (Nat.le_of_ble_eq_true rfl) rfl rfl ?_
  refine V_iconst (v := 0) dX12_hostCounts_2 (by decide) ?_
  refine V_istore_n (L' := [(3, .int 0), (2, .int 0), (0, .ref k0), (1, .int x1)]) dX12_hostCounts_3 rfl (Nat.le_of_ble_eq_true rfl) rfl rfl ?_
  refine V_iconst (v := 0) dX12_hostCounts_4 (by decide) ?_
  refine V_istore (L' := [(4, .int 0), (3, .int 0), (2, .int 0), (0, .ref k0), (1, .int x1)]) dX12_hostCounts_5 (Nat.le_of_ble_eq_true rfl) rfl rfl ?_
  refine V_ldcw (v := 1000000000) rfl kc_X12_376 dX12_hostCounts_7 ?_
  refine V_istore (L' := [(5, .int 1000000000), (4, .int 0), (3, .int 0), (2, .int 0), (0, .ref k0), (1, .int x1)]) dX12_hostCounts_10 (Nat.le_of_ble_eq_true rfl) rfl rfl ?_
  refine V_iconst (v := 0) dX12_hostCounts_12 (by decide) ?_
  refine V_istore (L' := [(6, .int 0), (5, .int 1000000000), (4, .int 0), (3, .int 0), (2, .int 0), (0, .ref k0), (1, .int x1)]) dX12_hostCounts_13 (Nat.le_of_ble_eq_true rfl) rfl rfl ?_
  refine V_sub [5, 6, 4, 3, 2, 1, 0] rfl ?_
  exact v_X12_hostCounts_15 hd FU _ _ _ _ _ _ _ _ hf t_k0
theorem dX12_host_0 : decode cX12_host 0 = .ok (.aload_n 0, 1) := by decide +kernel
theorem dX12_host_1 : decode cX12_host 1 = .ok (.iconst 0, 1) := by decide +kernel
theorem dX12_host_2 : decode cX12_host 2 = .ok (.putfield 120, 3) := by decide +kernel
theorem dX12_host_5 : decode cX12_host 5 = .ok (.aload_n 0, 1) := by decide +kernel
theorem dX12_host_6 : decode cX12_host 6 = .ok (.iload_n 1, 1) := by decide +kernel
theorem dX12_host_7 : decode cX12_host 7 = .ok (.iload_n 2, 1) := by decide +kernel
theorem dX12_host_8 : decode cX12_host 8 = .ok (.invokevirtual 343, 3) := by decide +kernel
theorem dX12_host_11 : decode cX12_host 11 = .ok (.ifCond .eq 26, 3) := by decide +kernel
theorem dX12_host_14 : decode cX12_host 14 = .ok (.iload_n 3, 1) := by decide +kernel
theorem dX12_host_15 : decode cX12_host 15 = .ok (.i2l, 1) := by decide +kernel
theorem dX12_host_16 : decode cX12_host 16 = .ok (.lconst 0, 1) := by decide +kernel
theorem dX12_host_17 : decode cX12_host 17 = .ok (.ldc2_w 327, 3) := by decide +kernel
theorem dX12_host_20 : decode cX12_host 20 = .ok (.invokestatic 247, 3) := by decide +kernel
theorem dX12_host_23 : decode cX12_host 23 = .ok (.ifCond .eq 14, 3) := by decide +kernel
theorem dX12_host_26 : decode cX12_host 26 = .ok (.iload 4, 2) := by decide +kernel
theorem dX12_host_28 : decode cX12_host 28 = .ok (.i2l, 1) := by decide +kernel
theorem dX12_host_29 : decode cX12_host 29 = .ok (.lconst 0, 1) := by decide +kernel
theorem dX12_host_30 : decode cX12_host 30 = .ok (.lconst 1, 1) := by decide +kernel
theorem dX12_host_31 : decode cX12_host 31 = .ok (.invokestatic 247, 3) := by decide +kernel
theorem dX12_host_34 : decode cX12_host 34 = .ok (.ifCond .ne 5, 3) := by decide +kernel
theorem dX12_host_37 : decode cX12_host 37 = .ok (.iconst (-1), 1) := by decide +kernel
theorem dX12_host_38 : decode cX12_host 38 = .ok (.ireturn, 1) := by decide +kernel
theorem dX12_host_39 : decode cX12_host 39 = .ok (.aload_n 0, 1) := by decide +kernel
theorem dX12_host_40 : decode cX12_host 40 = .ok (.iload_n 2, 1) := by decide +kernel
theorem dX12_host_41 : decode cX12_host 41 = .ok (.invokevirtual 367, 3) := by decide +kernel
theorem dX12_host_44 : decode cX12_host 44 = .ok (.iconst (-1), 1) := by decide +kernel
theorem dX12_host_45 : decode cX12_host 45 = .ok (.istore 5, 2) := by decide +kernel
theorem dX12_host_47 : decode cX12_host 47 = .ok (.iconst 0, 1) := by decide +kernel
theorem dX12_host_48 : decode cX12_host 48 = .ok (.istore 6, 2) := by decide +kernel
theorem dX12_host_50 : decode cX12_host 50 = .ok (.iconst 0, 1) := by decide +kernel
theorem dX12_host_51 : decode cX12_host 51 = .ok (.istore 7, 2) := by decide +kernel
theorem dX12_host_53 : decode cX12_host 53 = .ok (.iload 7, 2) := by decide +kernel
theorem dX12_host_55 : decode cX12_host 55 = .ok (.aload_n 0, 1) := by decide +kernel
theorem dX12_host_56 : decode cX12_host 56 = .ok (.getfield 353, 3) := by decide +kernel
theorem dX12_host_59 : decode cX12_host 59 = .ok (.if_icmp .ge 58, 3) := by decide +kernel
theorem dX12_host_62 : decode cX12_host 62 = .ok (.aload_n 0, 1) := by decide +kernel
theorem dX12_host_63 : decode cX12_host 63 = .ok (.iload 7, 2) := by decide +kernel
theorem dX12_host_65 : decode cX12_host 65 = .ok (.iload_n 2, 1) := by decide +kernel
theorem dX12_host_66 : decode cX12_host 66 = .ok (.aload_n 0, 1) := by decide +kernel
theorem dX12_host_67 : decode cX12_host 67 = .ok (.iload_n 1, 1) := by decide +kernel
theorem dX12_host_68 : decode cX12_host 68 = .ok (.iload_n 2, 1) := by decide +kernel
theorem dX12_host_69 : decode cX12_host 69 = .ok (.invokevirtual 335, 3) := by decide +kernel
theorem dX12_host_72 : decode cX12_host 72 = .ok (.invokevirtual 370, 3) := by decide +kernel
theorem dX12_host_75 : decode cX12_host 75 = .ok (.aload_n 0, 1) := by decide +kernel
theorem dX12_host_76 : decode cX12_host 76 = .ok (.iload_n 3, 1) := by decide +kernel
theorem dX12_host_77 : decode cX12_host 77 = .ok (.invokevirtual 379, 3) := by decide +kernel
theorem dX12_host_80 : decode cX12_host 80 = .ok (.istore 8, 2) := by decide +kernel
theorem dX12_host_82 : decode cX12_host 82 = .ok (.iload 5, 2) := by decide +kernel
theorem dX12_host_84 : decode cX12_host 84 = .ok (.iconst (-1), 1) := by decide +kernel
theorem dX12_host_85 : decode cX12_host 85 = .ok (.if_icmp .eq 13, 3) := by decide +kernel
theorem dX12_host_88 : decode cX12_host 88 = .ok (.iload 8, 2) := by decide +kernel
theorem dX12_host_90 : decode cX12_host 90 = .ok (.iload 6, 2) := by decide +kernel
theorem dX12_host_92 : decode cX12_host 92 = .ok (.if_icmp .gt 6, 3) := by decide +kernel
theorem dX12_host_95 : decode cX12_host 95 = .ok (.goto 16, 3) := by decide +kernel
theorem dX12_host_98 : decode cX12_host 98 = .ok (.aload_n 0, 1) := by decide +kernel
theorem dX12_host_99 : decode cX12_host 99 = .ok (.getfield 69, 3) := by decide +kernel
theorem dX12_host_102 : decode cX12_host 102 = .ok (.iload 7, 2) := by decide +kernel
theorem dX12_host_104 : decode cX12_host 104 = .ok (.iaload, 1) := by decide +kernel
theorem dX12_host_105 : decode cX12_host 105 = .ok (.istore 5, 2) := by decide +kernel
theorem dX12_host_107 : decode cX12_host 107 = .ok (.iload 8, 2) := by decide +kernel
theorem dX12_host_109 : decode cX12_host 109 = .ok (.istore 6, 2) := by decide +kernel
theorem dX12_host_111 : decode cX12_host 111 = .ok (.iinc 7 1, 3) := by decide +kernel
theorem dX12_host_114 : decode cX12_host 114 = .ok (.goto (-61), 3) := by decide +kernel
theorem dX12_host_117 : decode cX12_host 117 = .ok (.iload 4, 2) := by decide +kernel
theorem dX12_host_119 : decode cX12_host 119 = .ok (.ifCond .ne 8, 3) := by decide +kernel
theorem dX12_host_122 : decode cX12_host 122 = .ok (.iload 5, 2) := by decide +kernel
theorem dX12_host_124 : decode cX12_host 124 = .ok (.goto 15, 3) := by decide +kernel
theorem dX12_host_127 : decode cX12_host 127 = .ok (.iload_n 3, 1) := by decide +kernel
theorem dX12_host_128 : decode cX12_host 128 = .ok (.ifCond .ne 9, 3) := by decide +kernel
theorem dX12_host_131 : decode cX12_host 131 = .ok (.iload 6, 2) := by decide +kernel
theorem dX12_host_133 : decode cX12_host 133 = .ok (.ineg, 1) := by decide +kernel
theorem dX12_host_134 : decode cX12_host 134 = .ok (.goto 5, 3) := by decide +kernel
theorem dX12_host_137 : decode cX12_host 137 = .ok (.iload 6, 2) := by decide +kernel
theorem dX12_host_139 : decode cX12_host 139 = .ok (.ireturn, 1) := by decide +kernel
theorem ML_X12_379 : MLk RX12 379 yX12_hostCounts := Or.inl ml_X12_379
theorem MV_X12_hostCounts : MVk K_X12_hostCounts 1 12 := ⟨⟨cd_X12_hostCounts, in_X12, ⟨by decide, by decide, by decide +kernel⟩, by decide⟩, im_X12_hostCounts, se_X12_hostCounts, _, _, rfl⟩
def f_X12_host_37  (h : AH) : Option (Int32 × AH) :=
  some ((-1), h)
def f_X12_host_111 (q53 : Nat → Int32 → Int32 → Int32 → Int32 → Int32 → Int32 → Int32 → AH → Option (Int32 × AH)) (k0 : Nat) (x1 : Int32) (x2 : Int32) (x3 : Int32) (x4 : Int32) (x5 : Int32) (x6 : Int32) (x7 : Int32) (h : AH) : Option (Int32 × AH) :=
  nm (x7 + 1) fun x7_1 =>
  q53 k0 x1 x2 x3 x4 x5 x6 x7_1 h
def f_X12_host_98 (q53 : Nat → Int32 → Int32 → Int32 → Int32 → Int32 → Int32 → Int32 → AH → Option (Int32 × AH)) (k0 : Nat) (x1 : Int32) (x2 : Int32) (x3 : Int32) (x4 : Int32) (x7 : Int32) (x8 : Int32) (h : AH) : Option (Int32 × AH) :=
  og (ix x7 (an (rf k0 33))) <|
  nm ((h.1 (rf k0 33) x7.toNatClampNeg)) fun x5_2 =>
  f_X12_host_111 q53 k0 x1 x2 x3 x4 x5_2 x8 x7 h
def f_X12_host_139 (s0 : Int32) (h : AH) : Option (Int32 × AH) :=
  some (s0, h)
def f_X12_host_53 : Nat → Nat → Int32 → Int32 → Int32 → Int32 → Int32 → Int32 → Int32 → AH → Option (Int32 × AH)
  | 0, _, _, _, _, _, _, _, _, _ => none
  | n + 1, k0, x1, x2, x3, x4, x5, x6, x7, h =>
    if (h.1 k0 34) ≤ x7 then (
      if x4 = 0 then (
        f_X12_host_139 x5 h
      ) else (
        if x3 = 0 then (
          f_X12_host_139 (-x6) h
        ) else (
          f_X12_host_139 x6 h
        )
      )
    ) else (
      ob (f_X12_doorOf k0 x1 x2 h) fun r_6 h_5 =>
      ov (f_X12_goWay k0 x7 x2 r_6 h_5) fun h_8 =>
      ob (f_X12_hostCounts k0 x3 h_8) fun r_11 h_10 =>
      if x5 = (-1) then (
        f_X12_host_98 (f_X12_host_53 n) k0 x1 x2 x3 x4 x7 r_11 h_10
      ) else (
        if x6 < r_11 then (
          f_X12_host_98 (f_X12_host_53 n) k0 x1 x2 x3 x4 x7 r_11 h_10
        ) else (
          f_X12_host_111 (f_X12_host_53 n) k0 x1 x2 x3 x4 x5 x6 x7 h_10
        )
      )
    )
def f_X12_host (k0 : Nat) (x1 : Int32) (x2 : Int32) (x3 : Int32) (x4 : Int32) (h : AH) : Option (Int32 × AH) :=
  nm (sI h k0 0 0) fun h_1 =>
  ob (f_X12_isVisit k0 x1 x2 h_1) fun r_5 h_4 =>
  if r_5 = 0 then (
    f_X12_host_37 h_4
  ) else (
    ob (f_X12_isIn ((x3).toInt64) 0 3 h_4) fun r_9 h_8 =>
    if r_9 = 0 then (
      f_X12_host_37 h_8
    ) else (
      ob (f_X12_isIn ((x4).toInt64) 0 1 h_8) fun r_13 h_12 =>
      if r_13 = 0 then (
        f_X12_host_37 h_12
      ) else (
        ov (f_X12_allWays k0 x2 h_12) fun h_16 =>
        f_X12_host_53 FU k0 x1 x2 x3 x4 (-1) 0 0 h_16
      )
    )
  )
set_option maxHeartbeats 4000000 in
set_option maxRecDepth 100000 in
theorem v_X12_host_37 {E : EV} {d : Nat} (hd : 1461 ≤ d) {r0 : Int32} {h0 : AH}  {h : AH} (hf : f_X12_host_37 h = some (r0, h0)) : V E (d + 1) K_X12_host (ZI E r0 h0) h [] [] 37 := by
  unfold f_X12_host_37 at hf
  refine V_iconst (v := (-1)) dX12_host_37 (by decide) ?_
  exact V_iret rfl (so_s hf) dX12_host_38
set_option maxHeartbeats 4000000 in
set_option maxRecDepth 100000 in
theorem v_X12_host_111 {E : EV} {d : Nat} (hd : 1461 ≤ d) {r0 : Int32} {h0 : AH} {q53 : Nat → Int32 → Int32 → Int32 → Int32 → Int32 → Int32 → Int32 → AH → Option (Int32 × AH)} (cq53 : ∀ (k0 : Nat) (x1 : Int32) (x2 : Int32) (x3 : Int32) (x4 : Int32) (x5 : Int32) (x6 : Int32) (x7 : Int32) (h : AH), q53 k0 x1 x2 x3 x4 x5 x6 x7 h = some (r0, h0) → kd k0 = (0, 12) → V E (d + 1) K_X12_host (ZI E r0 h0) h [(0, .ref k0), (1, .int x1), (2, .int x2), (3, .int x3), (4, .int x4), (5, .int x5), (6, .int x6), (7, .int x7)] [] 53) {k0 : Nat} {x1 : Int32} {x2 : Int32} {x3 : Int32} {x4 : Int32} {x5 : Int32} {x6 : Int32} {x7 : Int32} {h : AH} (hf : f_X12_host_111 q53 k0 x1 x2 x3 x4 x5 x6 x7 h = some (r0, h0)) (t_k0 : kd k0 = (0, 12)) : V E (d + 1) K_X12_host (ZI E r0 h0) h [(0, .ref k0), (1, .int x1), (2, .int x2), (3, .int x3), (4, .int x4), (5, .int x5), (6, .int x6), (7, .int x7)] [] 111 := by
  unfold f_X12_host_111 at hf
  obtain ⟨x7_1, e_2, hf⟩ := nm_s hf
  refine V_iinc (a := 1) (L' := [(7, .int x7_1), (0, .ref k0), (1, .int x1), (2, .int x2), (3, .int x3), (4, .int x4), (5, .int x5), (6, .int x6)]) 7 dX12_host_111 rfl (by decide) (Nat.le_of_ble_eq_true rfl) e_2 rfl ?_
  refine V_goto (tgt := 53) dX12_host_114 (by decide) ?_
  refine V_sub [1, 2, 3, 4, 5, 6, 7, 0] rfl ?_
  exact cq53 _ _ _ _ _ _ _ _ _ hf t_k0
set_option maxHeartbeats 4000000 in
set_option maxRecDepth 100000 in
theorem v_X12_host_98 {E : EV} {d : Nat} (hd : 1461 ≤ d) {r0 : Int32} {h0 : AH} {q53 : Nat → Int32 → Int32 → Int32 → Int32 → Int32 → Int32 → Int32 → AH → Option (Int32 × AH)} (cq53 : ∀ (k0 : Nat) (x1 : Int32) (x2 : Int32) (x3 : Int32) (x4 : Int32) (x5 : Int32) (x6 : Int32) (x7 : Int32) (h : AH), q53 k0 x1 x2 x3 x4 x5 x6 x7 h = some (r0, h0) → kd k0 = (0, 12) → V E (d + 1) K_X12_host (ZI E r0 h0) h [(0, .ref k0), (1, .int x1), (2, .int x2), (3, .int x3), (4, .int x4), (5, .int x5), (6, .int x6), (7, .int x7)] [] 53) {k0 : Nat} {x1 : Int32} {x2 : Int32} {x3 : Int32} {x4 : Int32} {x7 : Int32} {x8 : Int32} {h : AH} (hf : f_X12_host_98 q53 k0 x1 x2 x3 x4 x7 x8 h = some (r0, h0)) (t_k0 : kd k0 = (0, 12)) : V E (d + 1) K_X12_host (ZI E r0 h0) h [(0, .ref k0), (1, .int x1), (2, .int x2), (3, .int x3), (4, .int x4), (7, .int x7), (8, .int x8)] [] 98 := by
  unfold f_X12_host_98 at hf
  refine V_aload_n 0 dX12_host_98 rfl rfl ?_
  refine V_getR F_X12_69 rfl t_k0 rfl dX12_host_99 ?_
  refine V_iload 5 dX12_host_102 rfl ?_
  obtain ⟨b_1, hf⟩ := og_s hf
  refine V_iald (rfA t_k0 (Nat.le_of_ble_eq_true rfl) rfl rfl (by decide)) b_1 dX12_host_104 ?_
  obtain ⟨x5_2, e_3, hf⟩ := nm_s hf
  refine V_istore (L' := [(5, .int x5_2), (0, .ref k0), (1, .int x1), (2, .int x2), (3, .int x3), (4, .int x4), (7, .int x7), (8, .int x8)]) dX12_host_105 (Nat.le_of_ble_eq_true rfl) e_3 rfl ?_
  refine V_iload 7 dX12_host_107 rfl ?_
  refine V_istore (L' := [(6, .int x8), (5, .int x5_2), (0, .ref k0), (1, .int x1), (2, .int x2), (3, .int x3), (4, .int x4), (7, .int x7), (8, .int x8)]) dX12_host_109 (Nat.le_of_ble_eq_true rfl) rfl rfl ?_
  refine V_sub [2, 3, 4, 5, 6, 1, 0, 7] rfl ?_
  exact v_X12_host_111 hd cq53 hf t_k0
set_option maxHeartbeats 4000000 in
set_option maxRecDepth 100000 in
theorem v_X12_host_139 {E : EV} {d : Nat} (hd : 1461 ≤ d) {r0 : Int32} {h0 : AH} {s0 : Int32} {h : AH} (hf : f_X12_host_139 s0 h = some (r0, h0)) : V E (d + 1) K_X12_host (ZI E r0 h0) h [] [.int s0] 139 := by
  unfold f_X12_host_139 at hf
  exact V_iret rfl (so_s hf) dX12_host_139
set_option maxHeartbeats 4000000 in
set_option maxRecDepth 100000 in
theorem v_X12_host_53 {E : EV} {d : Nat} (hd : 1461 ≤ d) {r0 : Int32} {h0 : AH} : ∀ (n : Nat) (k0 : Nat) (x1 : Int32) (x2 : Int32) (x3 : Int32) (x4 : Int32) (x5 : Int32) (x6 : Int32) (x7 : Int32) (h : AH), f_X12_host_53 n k0 x1 x2 x3 x4 x5 x6 x7 h = some (r0, h0) → kd k0 = (0, 12) → V E (d + 1) K_X12_host (ZI E r0 h0) h [(0, .ref k0), (1, .int x1), (2, .int x2), (3, .int x3), (4, .int x4), (5, .int x5), (6, .int x6), (7, .int x7)] [] 53 := by
  intro n
  induction n with
  | zero =>
    intro k0 x1 x2 x3 x4 x5 x6 x7 h hf
    rw [f_X12_host_53] at hf
    cases hf
  | succ n ih =>
    intro k0 x1 x2 x3 x4 x5 x6 x7 h hf t_k0
    rw [f_X12_host_53] at hf
    refine V_iload 7 dX12_host_53 rfl ?_
    refine V_aload_n 0 dX12_host_55 rfl rfl ?_
    refine V_getI F_X12_353 rfl t_k0 rfl dX12_host_56 ?_
    refine V_ic_ge (tgt := 117) dX12_host_59 (by decide) (fun c_1 => ?_) (fun c_1 => ?_)
    · have hf := it_s c_1 hf
      refine V_iload 4 dX12_host_117 rfl ?_
      refine V_if_ne (tgt := 127) dX12_host_119 (by decide) (fun c_2 => ?_) (fun c_2 => ?_)
      · have hf := if_s c_2 hf
        refine V_iload_n 3 dX12_host_127 rfl rfl ?_
        refine V_if_ne (tgt := 137) dX12_host_128 (by decide) (fun c_3 => ?_) (fun c_3 => ?_)
        · have hf := if_s c_3 hf
          refine V_iload 6 dX12_host_137 rfl ?_
          refine V_sub [] rfl ?_
          exact v_X12_host_139 hd hf
        · have hf := it_s c_3 hf
          refine V_iload 6 dX12_host_131 rfl ?_
          refine V_ineg dX12_host_133 ?_
          refine V_goto (tgt := 139) dX12_host_134 (by decide) ?_
          refine V_sub [] rfl ?_
          exact v_X12_host_139 hd hf
      · have hf := it_s c_2 hf
        refine V_iload 5 dX12_host_122 rfl ?_
        refine V_goto (tgt := 139) dX12_host_124 (by decide) ?_
        refine V_sub [] rfl ?_
        exact v_X12_host_139 hd hf
    · have hf := if_s c_1 hf
      refine V_aload_n 0 dX12_host_62 rfl rfl ?_
      refine V_iload 7 dX12_host_63 rfl ?_
      refine V_iload_n 2 dX12_host_65 rfl rfl ?_
      refine V_aload_n 0 dX12_host_66 rfl rfl ?_
      refine V_iload_n 1 dX12_host_67 rfl rfl ?_
      refine V_iload_n 2 dX12_host_68 rfl rfl ?_
      obtain ⟨r_6, h_5, e_4, hf⟩ := ob_s hf
      refine V_cvi (As := [.int x1, .int x2]) (rest := [.int x2, .int x7, .ref k0]) (c_X12_doorOf (d := d) (Nat.le_trans (Nat.le_of_ble_eq_true rfl) hd) e_4 t_k0) ML_X12_335 MV_X12_doorOf rfl t_k0 rfl rfl (Nat.le_of_ble_eq_true rfl) dX12_host_69 ?_
      obtain ⟨h_8, e_7, hf⟩ := ov_s hf
      refine V_cvv (As := [.int x7, .int x2, .int r_6]) (rest := []) (c_X12_goWay (d := d) (Nat.le_trans (Nat.le_of_ble_eq_true rfl) hd) e_7 t_k0) ML_X12_370 MV_X12_goWay rfl t_k0 rfl rfl (Nat.le_of_ble_eq_true rfl) dX12_host_72 ?_
      refine V_aload_n 0 dX12_host_75 rfl rfl ?_
      refine V_iload_n 3 dX12_host_76 rfl rfl ?_
      obtain ⟨r_11, h_10, e_9, hf⟩ := ob_s hf
      refine V_cvi (As := [.int x3]) (rest := []) (c_X12_hostCounts (d := d) (Nat.le_trans (Nat.le_of_ble_eq_true rfl) hd) e_9 t_k0) ML_X12_379 MV_X12_hostCounts rfl t_k0 rfl rfl (Nat.le_of_ble_eq_true rfl) dX12_host_77 ?_
      refine V_istore (L' := [(8, .int r_11), (0, .ref k0), (1, .int x1), (2, .int x2), (3, .int x3), (4, .int x4), (5, .int x5), (6, .int x6), (7, .int x7)]) dX12_host_80 (Nat.le_of_ble_eq_true rfl) rfl rfl ?_
      refine V_iload 6 dX12_host_82 rfl ?_
      refine V_iconst (v := (-1)) dX12_host_84 (by decide) ?_
      refine V_ic_eq (tgt := 98) dX12_host_85 (by decide) (fun c_12 => ?_) (fun c_12 => ?_)
      · have hf := it_s c_12 hf
        refine V_sub [1, 2, 3, 4, 5, 8, 0] rfl ?_
        exact v_X12_host_98 hd ih hf t_k0
      · have hf := if_s c_12 hf
        refine V_iload 0 dX12_host_88 rfl ?_
        refine V_iload 7 dX12_host_90 rfl ?_
        refine V_ic_gt (tgt := 98) dX12_host_92 (by decide) (fun c_13 => ?_) (fun c_13 => ?_)
        · have hf := it_s c_13 hf
          refine V_sub [1, 2, 3, 4, 5, 8, 0] rfl ?_
          exact v_X12_host_98 hd ih hf t_k0
        · have hf := if_s c_13 hf
          refine V_goto (tgt := 111) dX12_host_95 (by decide) ?_
          refine V_sub [1, 2, 3, 4, 5, 6, 7, 8] rfl ?_
          exact v_X12_host_111 hd ih hf t_k0
set_option maxHeartbeats 4000000 in
set_option maxRecDepth 100000 in
theorem c_X12_host {E : EV} {d : Nat} (hd : 1461 + 1 ≤ d) {k0 : Nat} {x1 : Int32} {x2 : Int32} {x3 : Int32} {x4 : Int32} {h : AH} {r0 : Int32} {h0 : AH} (hf : f_X12_host k0 x1 x2 x3 x4 h = some (r0, h0)) (t_k0 : kd k0 = (0, 12)) : Con E d K_X12_host (ZI E r0 h0) [.ref k0, .int x1, .int x2, .int x3, .int x4] h := by
  obtain ⟨d, rfl⟩ : ∃ d', d = d' + 1 := ⟨d - 1, by omega⟩
  have hd := Nat.le_of_succ_le_succ hd
  refine Con.ofV rfl (Nat.le_of_ble_eq_true rfl) ?_
  unfold f_X12_host at hf
  show V E (d + 1) K_X12_host (ZI E r0 h0) h [(0, .ref k0), (1, .int x1), (2, .int x2), (3, .int x3), (4, .int x4)] [] 0
  refine V_aload_n 0 dX12_host_0 rfl rfl ?_
  refine V_iconst (v := 0) dX12_host_1 (by decide) ?_
  obtain ⟨h_1, e_2, hf⟩ := nm_s hf
  refine V_putI P_X12_120 rfl t_k0 rfl e_2 dX12_host_2 ?_
  refine V_aload_n 0 dX12_host_5 rfl rfl ?_
  refine V_iload_n 1 dX12_host_6 rfl rfl ?_
  refine V_iload_n 2 dX12_host_7 rfl rfl ?_
  obtain ⟨r_5, h_4, e_3, hf⟩ := ob_s hf
  refine V_cvi (As := [.int x1, .int x2]) (rest := []) (c_X12_isVisit (d := d) (Nat.le_trans (Nat.le_of_ble_eq_true rfl) hd) e_3 t_k0) ML_X12_343 MV_X12_isVisit rfl t_k0 rfl rfl (Nat.le_of_ble_eq_true rfl) dX12_host_8 ?_
  refine V_if_eq (tgt := 37) dX12_host_11 (by decide) (fun c_6 => ?_) (fun c_6 => ?_)
  · have hf := it_s c_6 hf
    refine V_sub [] rfl ?_
    exact v_X12_host_37 hd hf
  · have hf := if_s c_6 hf
    refine V_iload_n 3 dX12_host_14 rfl rfl ?_
    refine V_i2l dX12_host_15 ?_
    refine V_lconst (v := 0) dX12_host_16 (by decide) ?_
    refine V_ldc2 (v := 3) rfl kl_X12_327 dX12_host_17 ?_
    obtain ⟨r_9, h_8, e_7, hf⟩ := ob_s hf
    refine V_csi (As := [.long ((x3).toInt64), .long 0, .long 3]) (rest := []) (c_X12_isIn (d := d) (Nat.le_trans (Nat.le_of_ble_eq_true rfl) hd) e_7) ML_X12_247 MS_X12_isIn rfl rfl rfl (Nat.le_of_ble_eq_true rfl) dX12_host_20 ?_
    refine V_if_eq (tgt := 37) dX12_host_23 (by decide) (fun c_10 => ?_) (fun c_10 => ?_)
    · have hf := it_s c_10 hf
      refine V_sub [] rfl ?_
      exact v_X12_host_37 hd hf
    · have hf := if_s c_10 hf
      refine V_iload 4 dX12_host_26 rfl ?_
      refine V_i2l dX12_host_28 ?_
      refine V_lconst (v := 0) dX12_host_29 (by decide) ?_
      refine V_lconst (v := 1) dX12_host_30 (by decide) ?_
      obtain ⟨r_13, h_12, e_11, hf⟩ := ob_s hf
      refine V_csi (As := [.long ((x4).toInt64), .long 0, .long 1]) (rest := []) (c_X12_isIn (d := d) (Nat.le_trans (Nat.le_of_ble_eq_true rfl) hd) e_11) ML_X12_247 MS_X12_isIn rfl rfl rfl (Nat.le_of_ble_eq_true rfl) dX12_host_31 ?_
      refine V_if_ne (tgt := 39) dX12_host_34 (by decide) (fun c_14 => ?_) (fun c_14 => ?_)
      · have hf := if_s c_14 hf
        refine V_aload_n 0 dX12_host_39 rfl rfl ?_
        refine V_iload_n 2 dX12_host_40 rfl rfl ?_
        obtain ⟨h_16, e_15, hf⟩ := ov_s hf
        refine V_cvv (As := [.int x2]) (rest := []) (c_X12_allWays (d := d) (Nat.le_trans (Nat.le_of_ble_eq_true rfl) hd) e_15 t_k0) ML_X12_367 MV_X12_allWays rfl t_k0 rfl rfl (Nat.le_of_ble_eq_true rfl) dX12_host_41 ?_
        refine V_iconst (v := (-1)) dX12_host_44 (by decide) ?_
        refine V_istore (L' := [(5, .int (-1)), (0, .ref k0), (1, .int x1), (2, .int x2), (3, .int x3), (4, .int x4)]) dX12_host_45 (Nat.le_of_ble_eq_true rfl) rfl rfl ?_
        refine V_iconst (v := 0) dX12_host_47 (by decide) ?_
        refine V_istore (L' := [(6, .int 0), (5, .int (-1)), (0, .ref k0), (1, .int x1), (2, .int x2), (3, .int x3), (4, .int x4)]) dX12_host_48 (Nat.le_of_ble_eq_true rfl) rfl rfl ?_
        refine V_iconst (v := 0) dX12_host_50 (by decide) ?_
        refine V_istore (L' := [(7, .int 0), (6, .int 0), (5, .int (-1)), (0, .ref k0), (1, .int x1), (2, .int x2), (3, .int x3), (4, .int x4)]) dX12_host_51 (Nat.le_of_ble_eq_true rfl) rfl rfl ?_
        refine V_sub [3, 4, 5, 6, 7, 2, 1, 0] rfl ?_
        exact v_X12_host_53 hd FU _ _ _ _ _ _ _ _ _ hf t_k0
      · have hf := it_s c_14 hf
        refine V_sub [] rfl ?_
        exact v_X12_host_37 hd hf
