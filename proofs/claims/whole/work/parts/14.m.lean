theorem dX12_back_0 : decode cX12_back 0 = .ok (.aload_n 0, 1) := by decide +kernel
theorem dX12_back_1 : decode cX12_back 1 = .ok (.iconst 0, 1) := by decide +kernel
theorem dX12_back_2 : decode cX12_back 2 = .ok (.putfield 120, 3) := by decide +kernel
theorem dX12_back_5 : decode cX12_back 5 = .ok (.aload_n 0, 1) := by decide +kernel
theorem dX12_back_6 : decode cX12_back 6 = .ok (.getfield 292, 3) := by decide +kernel
theorem dX12_back_9 : decode cX12_back 9 = .ok (.ifCond .ne 5, 3) := by decide +kernel
theorem dX12_back_12 : decode cX12_back 12 = .ok (.iconst (-1), 1) := by decide +kernel
theorem dX12_back_13 : decode cX12_back 13 = .ok (.ireturn, 1) := by decide +kernel
theorem dX12_back_14 : decode cX12_back 14 = .ok (.iconst 0, 1) := by decide +kernel
theorem dX12_back_15 : decode cX12_back 15 = .ok (.istore_n 1, 1) := by decide +kernel
theorem dX12_back_16 : decode cX12_back 16 = .ok (.iload_n 1, 1) := by decide +kernel
theorem dX12_back_17 : decode cX12_back 17 = .ok (.bipush 6, 2) := by decide +kernel
theorem dX12_back_19 : decode cX12_back 19 = .ok (.if_icmp .ge 55, 3) := by decide +kernel
theorem dX12_back_22 : decode cX12_back 22 = .ok (.aload_n 0, 1) := by decide +kernel
theorem dX12_back_23 : decode cX12_back 23 = .ok (.getfield 45, 3) := by decide +kernel
theorem dX12_back_26 : decode cX12_back 26 = .ok (.iload_n 1, 1) := by decide +kernel
theorem dX12_back_27 : decode cX12_back 27 = .ok (.aload_n 0, 1) := by decide +kernel
theorem dX12_back_28 : decode cX12_back 28 = .ok (.getfield 117, 3) := by decide +kernel
theorem dX12_back_31 : decode cX12_back 31 = .ok (.iconst 3, 1) := by decide +kernel
theorem dX12_back_32 : decode cX12_back 32 = .ok (.iload_n 1, 1) := by decide +kernel
theorem dX12_back_33 : decode cX12_back 33 = .ok (.imul, 1) := by decide +kernel
theorem dX12_back_34 : decode cX12_back 34 = .ok (.iaload, 1) := by decide +kernel
theorem dX12_back_35 : decode cX12_back 35 = .ok (.iastore, 1) := by decide +kernel
theorem dX12_back_36 : decode cX12_back 36 = .ok (.aload_n 0, 1) := by decide +kernel
theorem dX12_back_37 : decode cX12_back 37 = .ok (.getfield 48, 3) := by decide +kernel
theorem dX12_back_40 : decode cX12_back 40 = .ok (.iload_n 1, 1) := by decide +kernel
theorem dX12_back_41 : decode cX12_back 41 = .ok (.aload_n 0, 1) := by decide +kernel
theorem dX12_back_42 : decode cX12_back 42 = .ok (.getfield 117, 3) := by decide +kernel
theorem dX12_back_45 : decode cX12_back 45 = .ok (.iconst 3, 1) := by decide +kernel
theorem dX12_back_46 : decode cX12_back 46 = .ok (.iload_n 1, 1) := by decide +kernel
theorem dX12_back_47 : decode cX12_back 47 = .ok (.imul, 1) := by decide +kernel
theorem dX12_back_48 : decode cX12_back 48 = .ok (.iconst 1, 1) := by decide +kernel
theorem dX12_back_49 : decode cX12_back 49 = .ok (.iadd, 1) := by decide +kernel
theorem dX12_back_50 : decode cX12_back 50 = .ok (.iaload, 1) := by decide +kernel
theorem dX12_back_51 : decode cX12_back 51 = .ok (.iastore, 1) := by decide +kernel
theorem dX12_back_52 : decode cX12_back 52 = .ok (.aload_n 0, 1) := by decide +kernel
theorem dX12_back_53 : decode cX12_back 53 = .ok (.getfield 54, 3) := by decide +kernel
theorem dX12_back_56 : decode cX12_back 56 = .ok (.iload_n 1, 1) := by decide +kernel
theorem dX12_back_57 : decode cX12_back 57 = .ok (.aload_n 0, 1) := by decide +kernel
theorem dX12_back_58 : decode cX12_back 58 = .ok (.getfield 117, 3) := by decide +kernel
theorem dX12_back_61 : decode cX12_back 61 = .ok (.iconst 3, 1) := by decide +kernel
theorem dX12_back_62 : decode cX12_back 62 = .ok (.iload_n 1, 1) := by decide +kernel
theorem dX12_back_63 : decode cX12_back 63 = .ok (.imul, 1) := by decide +kernel
theorem dX12_back_64 : decode cX12_back 64 = .ok (.iconst 2, 1) := by decide +kernel
theorem dX12_back_65 : decode cX12_back 65 = .ok (.iadd, 1) := by decide +kernel
theorem dX12_back_66 : decode cX12_back 66 = .ok (.iaload, 1) := by decide +kernel
theorem dX12_back_67 : decode cX12_back 67 = .ok (.iastore, 1) := by decide +kernel
theorem dX12_back_68 : decode cX12_back 68 = .ok (.iinc 1 1, 3) := by decide +kernel
theorem dX12_back_71 : decode cX12_back 71 = .ok (.goto (-55), 3) := by decide +kernel
theorem dX12_back_74 : decode cX12_back 74 = .ok (.iconst 0, 1) := by decide +kernel
theorem dX12_back_75 : decode cX12_back 75 = .ok (.istore_n 1, 1) := by decide +kernel
theorem dX12_back_76 : decode cX12_back 76 = .ok (.iload_n 1, 1) := by decide +kernel
theorem dX12_back_77 : decode cX12_back 77 = .ok (.sipush 180, 3) := by decide +kernel
theorem dX12_back_80 : decode cX12_back 80 = .ok (.if_icmp .ge 24, 3) := by decide +kernel
theorem dX12_back_83 : decode cX12_back 83 = .ok (.aload_n 0, 1) := by decide +kernel
theorem dX12_back_84 : decode cX12_back 84 = .ok (.getfield 66, 3) := by decide +kernel
theorem dX12_back_87 : decode cX12_back 87 = .ok (.iload_n 1, 1) := by decide +kernel
theorem dX12_back_88 : decode cX12_back 88 = .ok (.aload_n 0, 1) := by decide +kernel
theorem dX12_back_89 : decode cX12_back 89 = .ok (.getfield 117, 3) := by decide +kernel
theorem dX12_back_92 : decode cX12_back 92 = .ok (.bipush 18, 2) := by decide +kernel
theorem dX12_back_94 : decode cX12_back 94 = .ok (.iload_n 1, 1) := by decide +kernel
theorem dX12_back_95 : decode cX12_back 95 = .ok (.iadd, 1) := by decide +kernel
theorem dX12_back_96 : decode cX12_back 96 = .ok (.iaload, 1) := by decide +kernel
theorem dX12_back_97 : decode cX12_back 97 = .ok (.iastore, 1) := by decide +kernel
theorem dX12_back_98 : decode cX12_back 98 = .ok (.iinc 1 1, 3) := by decide +kernel
theorem dX12_back_101 : decode cX12_back 101 = .ok (.goto (-25), 3) := by decide +kernel
theorem dX12_back_104 : decode cX12_back 104 = .ok (.iconst 0, 1) := by decide +kernel
theorem dX12_back_105 : decode cX12_back 105 = .ok (.istore_n 1, 1) := by decide +kernel
theorem dX12_back_106 : decode cX12_back 106 = .ok (.iload_n 1, 1) := by decide +kernel
theorem dX12_back_107 : decode cX12_back 107 = .ok (.bipush 20, 2) := by decide +kernel
theorem dX12_back_109 : decode cX12_back 109 = .ok (.if_icmp .ge 57, 3) := by decide +kernel
theorem dX12_back_112 : decode cX12_back 112 = .ok (.sipush 198, 3) := by decide +kernel
theorem dX12_back_115 : decode cX12_back 115 = .ok (.iconst 3, 1) := by decide +kernel
theorem dX12_back_116 : decode cX12_back 116 = .ok (.iload_n 1, 1) := by decide +kernel
theorem dX12_back_117 : decode cX12_back 117 = .ok (.imul, 1) := by decide +kernel
theorem dX12_back_118 : decode cX12_back 118 = .ok (.iadd, 1) := by decide +kernel
theorem dX12_back_119 : decode cX12_back 119 = .ok (.istore_n 2, 1) := by decide +kernel
theorem dX12_back_120 : decode cX12_back 120 = .ok (.aload_n 0, 1) := by decide +kernel
theorem dX12_back_121 : decode cX12_back 121 = .ok (.getfield 102, 3) := by decide +kernel
theorem dX12_back_124 : decode cX12_back 124 = .ok (.iload_n 1, 1) := by decide +kernel
theorem dX12_back_125 : decode cX12_back 125 = .ok (.aload_n 0, 1) := by decide +kernel
theorem dX12_back_126 : decode cX12_back 126 = .ok (.getfield 117, 3) := by decide +kernel
theorem dX12_back_129 : decode cX12_back 129 = .ok (.iload_n 2, 1) := by decide +kernel
theorem dX12_back_130 : decode cX12_back 130 = .ok (.iaload, 1) := by decide +kernel
theorem dX12_back_131 : decode cX12_back 131 = .ok (.iastore, 1) := by decide +kernel
theorem dX12_back_132 : decode cX12_back 132 = .ok (.aload_n 0, 1) := by decide +kernel
theorem dX12_back_133 : decode cX12_back 133 = .ok (.getfield 105, 3) := by decide +kernel
theorem dX12_back_136 : decode cX12_back 136 = .ok (.iload_n 1, 1) := by decide +kernel
theorem dX12_back_137 : decode cX12_back 137 = .ok (.aload_n 0, 1) := by decide +kernel
theorem dX12_back_138 : decode cX12_back 138 = .ok (.getfield 117, 3) := by decide +kernel
theorem dX12_back_141 : decode cX12_back 141 = .ok (.iload_n 2, 1) := by decide +kernel
theorem dX12_back_142 : decode cX12_back 142 = .ok (.iconst 1, 1) := by decide +kernel
theorem dX12_back_143 : decode cX12_back 143 = .ok (.iadd, 1) := by decide +kernel
theorem dX12_back_144 : decode cX12_back 144 = .ok (.iaload, 1) := by decide +kernel
theorem dX12_back_145 : decode cX12_back 145 = .ok (.iastore, 1) := by decide +kernel
theorem dX12_back_146 : decode cX12_back 146 = .ok (.aload_n 0, 1) := by decide +kernel
theorem dX12_back_147 : decode cX12_back 147 = .ok (.getfield 108, 3) := by decide +kernel
theorem dX12_back_150 : decode cX12_back 150 = .ok (.iload_n 1, 1) := by decide +kernel
theorem dX12_back_151 : decode cX12_back 151 = .ok (.aload_n 0, 1) := by decide +kernel
theorem dX12_back_152 : decode cX12_back 152 = .ok (.getfield 117, 3) := by decide +kernel
theorem dX12_back_155 : decode cX12_back 155 = .ok (.iload_n 2, 1) := by decide +kernel
theorem dX12_back_156 : decode cX12_back 156 = .ok (.iconst 2, 1) := by decide +kernel
theorem dX12_back_157 : decode cX12_back 157 = .ok (.iadd, 1) := by decide +kernel
theorem dX12_back_158 : decode cX12_back 158 = .ok (.iaload, 1) := by decide +kernel
theorem dX12_back_159 : decode cX12_back 159 = .ok (.iastore, 1) := by decide +kernel
theorem dX12_back_160 : decode cX12_back 160 = .ok (.iinc 1 1, 3) := by decide +kernel
theorem dX12_back_163 : decode cX12_back 163 = .ok (.goto (-57), 3) := by decide +kernel
theorem dX12_back_166 : decode cX12_back 166 = .ok (.aload_n 0, 1) := by decide +kernel
theorem dX12_back_167 : decode cX12_back 167 = .ok (.aload_n 0, 1) := by decide +kernel
theorem dX12_back_168 : decode cX12_back 168 = .ok (.getfield 462, 3) := by decide +kernel
theorem dX12_back_171 : decode cX12_back 171 = .ok (.putfield 286, 3) := by decide +kernel
theorem dX12_back_174 : decode cX12_back 174 = .ok (.aload_n 0, 1) := by decide +kernel
theorem dX12_back_175 : decode cX12_back 175 = .ok (.aload_n 0, 1) := by decide +kernel
theorem dX12_back_176 : decode cX12_back 176 = .ok (.getfield 465, 3) := by decide +kernel
theorem dX12_back_179 : decode cX12_back 179 = .ok (.putfield 289, 3) := by decide +kernel
theorem dX12_back_182 : decode cX12_back 182 = .ok (.aload_n 0, 1) := by decide +kernel
theorem dX12_back_183 : decode cX12_back 183 = .ok (.getfield 286, 3) := by decide +kernel
theorem dX12_back_186 : decode cX12_back 186 = .ok (.ireturn, 1) := by decide +kernel
theorem F_X12_462 : FLk RX12 462 12 55 := ⟨RX12, TX12, 58, rfl, rfl, iw_X12, by decide, Or.inl fl_X12_462⟩
theorem F_X12_286 : FLk RX12 286 12 32 := ⟨RX12, TX12, 58, rfl, rfl, iw_X12, by decide, Or.inl fl_X12_286⟩
theorem P_X12_286 : FPk RX12 286 12 32 .int := ⟨RX12, TX12, 58, tyX12, rfl, rfl, iw_X12, by decide, Or.inl fl_X12_286, tyX12_ok, nmX12, rfl, by decide +kernel⟩
theorem F_X12_465 : FLk RX12 465 12 56 := ⟨RX12, TX12, 58, rfl, rfl, iw_X12, by decide, Or.inl fl_X12_465⟩
theorem P_X12_289 : FPk RX12 289 12 50 .int := ⟨RX12, TX12, 58, tyX12, rfl, rfl, iw_X12, by decide, Or.inl fl_X12_289, tyX12_ok, nmX12, rfl, by decide +kernel⟩
theorem F_X12_117 : FLk RX12 117 12 54 := ⟨RX12, TX12, 58, rfl, rfl, iw_X12, by decide, Or.inl fl_X12_117⟩
theorem F_X12_45 : FLk RX12 45 12 22 := ⟨RX12, TX12, 58, rfl, rfl, iw_X12, by decide, Or.inl fl_X12_45⟩
theorem F_X12_48 : FLk RX12 48 12 23 := ⟨RX12, TX12, 58, rfl, rfl, iw_X12, by decide, Or.inl fl_X12_48⟩
theorem F_X12_54 : FLk RX12 54 12 25 := ⟨RX12, TX12, 58, rfl, rfl, iw_X12, by decide, Or.inl fl_X12_54⟩
theorem F_X12_292 : FLk RX12 292 12 57 := ⟨RX12, TX12, 58, rfl, rfl, iw_X12, by decide, Or.inl fl_X12_292⟩
def f_X12_back_106 : Nat → Nat → Int32 → AH → Option (Int32 × AH)
  | 0, _, _, _ => none
  | n + 1, k0, x1, h =>
    if 20 ≤ x1 then (
      nm (sI h k0 32 (h.1 k0 55)) fun h_2 =>
      nm (sI h_2 k0 50 (h_2.1 k0 56)) fun h_4 =>
      some ((h_4.1 k0 32), h_4)
    ) else (
      nm ((198 + (3 * x1))) fun x2_6 =>
      og (ix x2_6 (an (rf k0 54))) <|
      og (ix x1 (an (rf k0 47))) <|
      nm (sI h (rf k0 47) x1.toNatClampNeg (h.1 (rf k0 54) x2_6.toNatClampNeg)) fun h_10 =>
      og (ix (x2_6 + 1) (an (rf k0 54))) <|
      og (ix x1 (an (rf k0 48))) <|
      nm (sI h_10 (rf k0 48) x1.toNatClampNeg (h_10.1 (rf k0 54) (x2_6 + 1).toNatClampNeg)) fun h_14 =>
      og (ix (x2_6 + 2) (an (rf k0 54))) <|
      og (ix x1 (an (rf k0 49))) <|
      nm (sI h_14 (rf k0 49) x1.toNatClampNeg (h_14.1 (rf k0 54) (x2_6 + 2).toNatClampNeg)) fun h_18 =>
      nm (x1 + 1) fun x1_20 =>
      f_X12_back_106 n k0 x1_20 h_18
    )
def f_X12_back_76 : Nat → Nat → Int32 → AH → Option (Int32 × AH)
  | 0, _, _, _ => none
  | n + 1, k0, x1, h =>
    if 180 ≤ x1 then (
      f_X12_back_106 FU k0 0 h
    ) else (
      og (ix (18 + x1) (an (rf k0 54))) <|
      og (ix x1 (an (rf k0 31))) <|
      nm (sI h (rf k0 31) x1.toNatClampNeg (h.1 (rf k0 54) (18 + x1).toNatClampNeg)) fun h_4 =>
      nm (x1 + 1) fun x1_6 =>
      f_X12_back_76 n k0 x1_6 h_4
    )
def f_X12_back_16 : Nat → Nat → Int32 → AH → Option (Int32 × AH)
  | 0, _, _, _ => none
  | n + 1, k0, x1, h =>
    if 6 ≤ x1 then (
      f_X12_back_76 FU k0 0 h
    ) else (
      og (ix (3 * x1) (an (rf k0 54))) <|
      og (ix x1 (an (rf k0 22))) <|
      nm (sI h (rf k0 22) x1.toNatClampNeg (h.1 (rf k0 54) (3 * x1).toNatClampNeg)) fun h_4 =>
      og (ix ((3 * x1) + 1) (an (rf k0 54))) <|
      og (ix x1 (an (rf k0 23))) <|
      nm (sI h_4 (rf k0 23) x1.toNatClampNeg (h_4.1 (rf k0 54) ((3 * x1) + 1).toNatClampNeg)) fun h_8 =>
      og (ix ((3 * x1) + 2) (an (rf k0 54))) <|
      og (ix x1 (an (rf k0 25))) <|
      nm (sI h_8 (rf k0 25) x1.toNatClampNeg (h_8.1 (rf k0 54) ((3 * x1) + 2).toNatClampNeg)) fun h_12 =>
      nm (x1 + 1) fun x1_14 =>
      f_X12_back_16 n k0 x1_14 h_12
    )
def f_X12_back (k0 : Nat) (h : AH) : Option (Int32 × AH) :=
  nm (sI h k0 0 0) fun h_1 =>
  if (h_1.1 k0 57) = 0 then (
    some ((-1), h_1)
  ) else (
    f_X12_back_16 FU k0 0 h_1
  )
set_option maxHeartbeats 4000000 in
set_option maxRecDepth 100000 in
theorem v_X12_back_106 {E : EV} {d : Nat} (hd : 0 ≤ d) {r0 : Int32} {h0 : AH} : ∀ (n : Nat) (k0 : Nat) (x1 : Int32) (h : AH), f_X12_back_106 n k0 x1 h = some (r0, h0) → kd k0 = (0, 12) → V E (d + 1) K_X12_back (ZI E r0 h0) h [(0, .ref k0), (1, .int x1)] [] 106 := by
  intro n
  induction n with
  | zero =>
    intro k0 x1 h hf
    rw [f_X12_back_106] at hf
    cases hf
  | succ n ih =>
    intro k0 x1 h hf t_k0
    rw [f_X12_back_106] at hf
    refine V_iload_n 1 dX12_back_106 rfl rfl ?_
    refine V_bipush (v := 20) dX12_back_107 (by decide) ?_
    refine V_ic_ge (tgt := 166) dX12_back_109 (by decide) (fun c_1 => ?_) (fun c_1 => ?_)
    · have hf := it_s c_1 hf
      refine V_aload_n 0 dX12_back_166 rfl rfl ?_
      refine V_aload_n 0 dX12_back_167 rfl rfl ?_
      refine V_getI F_X12_462 rfl t_k0 rfl dX12_back_168 ?_
      obtain ⟨h_2, e_3, hf⟩ := nm_s hf
      refine V_putI P_X12_286 rfl t_k0 rfl e_3 dX12_back_171 ?_
      refine V_aload_n 0 dX12_back_174 rfl rfl ?_
      refine V_aload_n 0 dX12_back_175 rfl rfl ?_
      refine V_getI F_X12_465 rfl t_k0 rfl dX12_back_176 ?_
      obtain ⟨h_4, e_5, hf⟩ := nm_s hf
      refine V_putI P_X12_289 rfl t_k0 rfl e_5 dX12_back_179 ?_
      refine V_aload_n 0 dX12_back_182 rfl rfl ?_
      refine V_getI F_X12_286 rfl t_k0 rfl dX12_back_183 ?_
      exact V_iret rfl (so_s hf) dX12_back_186
    · have hf := if_s c_1 hf
      refine V_sipush (v := 198) dX12_back_112 (by decide) ?_
      refine V_iconst (v := 3) dX12_back_115 (by decide) ?_
      refine V_iload_n 1 dX12_back_116 rfl rfl ?_
      refine V_imul dX12_back_117 ?_
      refine V_iadd dX12_back_118 ?_
      obtain ⟨x2_6, e_7, hf⟩ := nm_s hf
      refine V_istore_n (L' := [(2, .int x2_6), (0, .ref k0), (1, .int x1)]) dX12_back_119 rfl (Nat.le_of_ble_eq_true rfl) e_7 rfl ?_
      refine V_aload_n 1 dX12_back_120 rfl rfl ?_
      refine V_getR F_X12_102 rfl t_k0 rfl dX12_back_121 ?_
      refine V_iload_n 2 dX12_back_124 rfl rfl ?_
      refine V_aload_n 1 dX12_back_125 rfl rfl ?_
      refine V_getR F_X12_117 rfl t_k0 rfl dX12_back_126 ?_
      refine V_iload_n 0 dX12_back_129 rfl rfl ?_
      obtain ⟨b_8, hf⟩ := og_s hf
      refine V_iald (rfA t_k0 (Nat.le_of_ble_eq_true rfl) rfl rfl (by decide)) b_8 dX12_back_130 ?_
      obtain ⟨b_9, hf⟩ := og_s hf
      obtain ⟨h_10, e_11, hf⟩ := nm_s hf
      refine V_iast (rfA t_k0 (Nat.le_of_ble_eq_true rfl) rfl rfl (by decide)) b_9 e_11 dX12_back_131 ?_
      refine V_aload_n 1 dX12_back_132 rfl rfl ?_
      refine V_getR F_X12_105 rfl t_k0 rfl dX12_back_133 ?_
      refine V_iload_n 2 dX12_back_136 rfl rfl ?_
      refine V_aload_n 1 dX12_back_137 rfl rfl ?_
      refine V_getR F_X12_117 rfl t_k0 rfl dX12_back_138 ?_
      refine V_iload_n 0 dX12_back_141 rfl rfl ?_
      refine V_iconst (v := 1) dX12_back_142 (by decide) ?_
      refine V_iadd dX12_back_143 ?_
      obtain ⟨b_12, hf⟩ := og_s hf
      refine V_iald (rfA t_k0 (Nat.le_of_ble_eq_true rfl) rfl rfl (by decide)) b_12 dX12_back_144 ?_
      obtain ⟨b_13, hf⟩ := og_s hf
      obtain ⟨h_14, e_15, hf⟩ := nm_s hf
      refine V_iast (rfA t_k0 (Nat.le_of_ble_eq_true rfl) rfl rfl (by decide)) b_13 e_15 dX12_back_145 ?_
      refine V_aload_n 1 dX12_back_146 rfl rfl ?_
      refine V_getR F_X12_108 rfl t_k0 rfl dX12_back_147 ?_
      refine V_iload_n 2 dX12_back_150 rfl rfl ?_
      refine V_aload_n 1 dX12_back_151 rfl rfl ?_
      refine V_getR F_X12_117 rfl t_k0 rfl dX12_back_152 ?_
      refine V_iload_n 0 dX12_back_155 rfl rfl ?_
      refine V_iconst (v := 2) dX12_back_156 (by decide) ?_
      refine V_iadd dX12_back_157 ?_
      obtain ⟨b_16, hf⟩ := og_s hf
      refine V_iald (rfA t_k0 (Nat.le_of_ble_eq_true rfl) rfl rfl (by decide)) b_16 dX12_back_158 ?_
      obtain ⟨b_17, hf⟩ := og_s hf
      obtain ⟨h_18, e_19, hf⟩ := nm_s hf
      refine V_iast (rfA t_k0 (Nat.le_of_ble_eq_true rfl) rfl rfl (by decide)) b_17 e_19 dX12_back_159 ?_
      obtain ⟨x1_20, e_21, hf⟩ := nm_s hf
      refine V_iinc (a := 1) (L' := [(1, .int x1_20), (2, .int x2_6), (0, .ref k0)]) 2 dX12_back_160 rfl (by decide) (Nat.le_of_ble_eq_true rfl) e_21 rfl ?_
      refine V_goto (tgt := 106) dX12_back_163 (by decide) ?_
      refine V_sub [2, 0] rfl ?_
      exact ih _ _ _ hf t_k0
set_option maxHeartbeats 4000000 in
set_option maxRecDepth 100000 in
theorem v_X12_back_76 {E : EV} {d : Nat} (hd : 0 ≤ d) {r0 : Int32} {h0 : AH} : ∀ (n : Nat) (k0 : Nat) (x1 : Int32) (h : AH), f_X12_back_76 n k0 x1 h = some (r0, h0) → kd k0 = (0, 12) → V E (d + 1) K_X12_back (ZI E r0 h0) h [(0, .ref k0), (1, .int x1)] [] 76 := by
  intro n
  induction n with
  | zero =>
    intro k0 x1 h hf
    rw [f_X12_back_76] at hf
    cases hf
  | succ n ih =>
    intro k0 x1 h hf t_k0
    rw [f_X12_back_76] at hf
    refine V_iload_n 1 dX12_back_76 rfl rfl ?_
    refine V_sipush (v := 180) dX12_back_77 (by decide) ?_
    refine V_ic_ge (tgt := 104) dX12_back_80 (by decide) (fun c_1 => ?_) (fun c_1 => ?_)
    · have hf := it_s c_1 hf
      refine V_iconst (v := 0) dX12_back_104 (by decide) ?_
      refine V_istore_n (L' := [(1, .int 0), (0, .ref k0)]) dX12_back_105 rfl (Nat.le_of_ble_eq_true rfl) rfl rfl ?_
      refine V_sub [1, 0] rfl ?_
      exact v_X12_back_106 hd FU _ _ _ hf t_k0
    · have hf := if_s c_1 hf
      refine V_aload_n 0 dX12_back_83 rfl rfl ?_
      refine V_getR F_X12_66 rfl t_k0 rfl dX12_back_84 ?_
      refine V_iload_n 1 dX12_back_87 rfl rfl ?_
      refine V_aload_n 0 dX12_back_88 rfl rfl ?_
      refine V_getR F_X12_117 rfl t_k0 rfl dX12_back_89 ?_
      refine V_bipush (v := 18) dX12_back_92 (by decide) ?_
      refine V_iload_n 1 dX12_back_94 rfl rfl ?_
      refine V_iadd dX12_back_95 ?_
      obtain ⟨b_2, hf⟩ := og_s hf
      refine V_iald (rfA t_k0 (Nat.le_of_ble_eq_true rfl) rfl rfl (by decide)) b_2 dX12_back_96 ?_
      obtain ⟨b_3, hf⟩ := og_s hf
      obtain ⟨h_4, e_5, hf⟩ := nm_s hf
      refine V_iast (rfA t_k0 (Nat.le_of_ble_eq_true rfl) rfl rfl (by decide)) b_3 e_5 dX12_back_97 ?_
      obtain ⟨x1_6, e_7, hf⟩ := nm_s hf
      refine V_iinc (a := 1) (L' := [(1, .int x1_6), (0, .ref k0)]) 1 dX12_back_98 rfl (by decide) (Nat.le_of_ble_eq_true rfl) e_7 rfl ?_
      refine V_goto (tgt := 76) dX12_back_101 (by decide) ?_
      refine V_sub [1, 0] rfl ?_
      exact ih _ _ _ hf t_k0
set_option maxHeartbeats 4000000 in
set_option maxRecDepth 100000 in
theorem v_X12_back_16 {E : EV} {d : Nat} (hd : 0 ≤ d) {r0 : Int32} {h0 : AH} : ∀ (n : Nat) (k0 : Nat) (x1 : Int32) (h : AH), f_X12_back_16 n k0 x1 h = some (r0, h0) → kd k0 = (0, 12) → V E (d + 1) K_X12_back (ZI E r0 h0) h [(0, .ref k0), (1, .int x1)] [] 16 := by
  intro n
  induction n with
  | zero =>
    intro k0 x1 h hf
    rw [f_X12_back_16] at hf
    cases hf
  | succ n ih =>
    intro k0 x1 h hf t_k0
    rw [f_X12_back_16] at hf
    refine V_iload_n 1 dX12_back_16 rfl rfl ?_
    refine V_bipush (v := 6) dX12_back_17 (by decide) ?_
    refine V_ic_ge (tgt := 74) dX12_back_19 (by decide) (fun c_1 => ?_) (fun c_1 => ?_)
    · have hf := it_s c_1 hf
      refine V_iconst (v := 0) dX12_back_74 (by decide) ?_
      refine V_istore_n (L' := [(1, .int 0), (0, .ref k0)]) dX12_back_75 rfl (Nat.le_of_ble_eq_true rfl) rfl rfl ?_
      refine V_sub [1, 0] rfl ?_
      exact v_X12_back_76 hd FU _ _ _ hf t_k0
    · have hf := if_s c_1 hf
      refine V_aload_n 0 dX12_back_22 rfl rfl ?_
      refine V_getR F_X12_45 rfl t_k0 rfl dX12_back_23 ?_
      refine V_iload_n 1 dX12_back_26 rfl rfl ?_
      refine V_aload_n 0 dX12_back_27 rfl rfl ?_
      refine V_getR F_X12_117 rfl t_k0 rfl dX12_back_28 ?_
      refine V_iconst (v := 3) dX12_back_31 (by decide) ?_
      refine V_iload_n 1 dX12_back_32 rfl rfl ?_
      refine V_imul dX12_back_33 ?_
      obtain ⟨b_2, hf⟩ := og_s hf
      refine V_iald (rfA t_k0 (Nat.le_of_ble_eq_true rfl) rfl rfl (by decide)) b_2 dX12_back_34 ?_
      obtain ⟨b_3, hf⟩ := og_s hf
      obtain ⟨h_4, e_5, hf⟩ := nm_s hf
      refine V_iast (rfA t_k0 (Nat.le_of_ble_eq_true rfl) rfl rfl (by decide)) b_3 e_5 dX12_back_35 ?_
      refine V_aload_n 0 dX12_back_36 rfl rfl ?_
      refine V_getR F_X12_48 rfl t_k0 rfl dX12_back_37 ?_
      refine V_iload_n 1 dX12_back_40 rfl rfl ?_
      refine V_aload_n 0 dX12_back_41 rfl rfl ?_
      refine V_getR F_X12_117 rfl t_k0 rfl dX12_back_42 ?_
      refine V_iconst (v := 3) dX12_back_45 (by decide) ?_
      refine V_iload_n 1 dX12_back_46 rfl rfl ?_
      refine V_imul dX12_back_47 ?_
      refine V_iconst (v := 1) dX12_back_48 (by decide) ?_
      refine V_iadd dX12_back_49 ?_
      obtain ⟨b_6, hf⟩ := og_s hf
      refine V_iald (rfA t_k0 (Nat.le_of_ble_eq_true rfl) rfl rfl (by decide)) b_6 dX12_back_50 ?_
      obtain ⟨b_7, hf⟩ := og_s hf
      obtain ⟨h_8, e_9, hf⟩ := nm_s hf
      refine V_iast (rfA t_k0 (Nat.le_of_ble_eq_true rfl) rfl rfl (by decide)) b_7 e_9 dX12_back_51 ?_
      refine V_aload_n 0 dX12_back_52 rfl rfl ?_
      refine V_getR F_X12_54 rfl t_k0 rfl dX12_back_53 ?_
      refine V_iload_n 1 dX12_back_56 rfl rfl ?_
      refine V_aload_n 0 dX12_back_57 rfl rfl ?_
      refine V_getR F_X12_117 rfl t_k0 rfl dX12_back_58 ?_
      refine V_iconst (v := 3) dX12_back_61 (by decide) ?_
      refine V_iload_n 1 dX12_back_62 rfl rfl ?_
      refine V_imul dX12_back_63 ?_
      refine V_iconst (v := 2) dX12_back_64 (by decide) ?_
      refine V_iadd dX12_back_65 ?_
      obtain ⟨b_10, hf⟩ := og_s hf
      refine V_iald (rfA t_k0 (Nat.le_of_ble_eq_true rfl) rfl rfl (by decide)) b_10 dX12_back_66 ?_
      obtain ⟨b_11, hf⟩ := og_s hf
      obtain ⟨h_12, e_13, hf⟩ := nm_s hf
      refine V_iast (rfA t_k0 (Nat.le_of_ble_eq_true rfl) rfl rfl (by decide)) b_11 e_13 dX12_back_67 ?_
      obtain ⟨x1_14, e_15, hf⟩ := nm_s hf
      refine V_iinc (a := 1) (L' := [(1, .int x1_14), (0, .ref k0)]) 1 dX12_back_68 rfl (by decide) (Nat.le_of_ble_eq_true rfl) e_15 rfl ?_
      refine V_goto (tgt := 16) dX12_back_71 (by decide) ?_
      refine V_sub [1, 0] rfl ?_
      exact ih _ _ _ hf t_k0
set_option maxHeartbeats 4000000 in
set_option maxRecDepth 100000 in
theorem c_X12_back {E : EV} {d : Nat} (hd : 0 + 1 ≤ d) {k0 : Nat} {h : AH} {r0 : Int32} {h0 : AH} (hf : f_X12_back k0 h = some (r0, h0)) (t_k0 : kd k0 = (0, 12)) : Con E d K_X12_back (ZI E r0 h0) [.ref k0] h := by
  obtain ⟨d, rfl⟩ : ∃ d', d = d' + 1 := ⟨d - 1, by omega⟩
  have hd := Nat.le_of_succ_le_succ hd
  refine Con.ofV rfl (Nat.le_of_ble_eq_true rfl) ?_
  unfold f_X12_back at hf
  show V E (d + 1) K_X12_back (ZI E r0 h0) h [(0, .ref k0)] [] 0
  refine V_aload_n 0 dX12_back_0 rfl rfl ?_
  refine V_iconst (v := 0) dX12_back_1 (by decide) ?_
  obtain ⟨h_1, e_2, hf⟩ := nm_s hf
  refine V_putI P_X12_120 rfl t_k0 rfl e_2 dX12_back_2 ?_
  refine V_aload_n 0 dX12_back_5 rfl rfl ?_
  refine V_getI F_X12_292 rfl t_k0 rfl dX12_back_6 ?_
  refine V_if_ne (tgt := 14) dX12_back_9 (by decide) (fun c_3 => ?_) (fun c_3 => ?_)
  · have hf := if_s c_3 hf
    refine V_iconst (v := 0) dX12_back_14 (by decide) ?_
    refine V_istore_n (L' := [(1, .int 0), (0, .ref k0)]) dX12_back_15 rfl (Nat.le_of_ble_eq_true rfl) rfl rfl ?_
    refine V_sub [1, 0] rfl ?_
    exact v_X12_back_16 hd FU _ _ _ hf t_k0
  · have hf := it_s c_3 hf
    refine V_iconst (v := (-1)) dX12_back_12 (by decide) ?_
    exact V_iret rfl (so_s hf) dX12_back_13
theorem dX12_isPerson_0 : decode cX12_isPerson 0 = .ok (.iload_n 1, 1) := by decide +kernel
theorem dX12_isPerson_1 : decode cX12_isPerson 1 = .ok (.ifCond .lt 15, 3) := by decide +kernel
theorem dX12_isPerson_4 : decode cX12_isPerson 4 = .ok (.iload_n 1, 1) := by decide +kernel
theorem dX12_isPerson_5 : decode cX12_isPerson 5 = .ok (.aload_n 0, 1) := by decide +kernel
theorem dX12_isPerson_6 : decode cX12_isPerson 6 = .ok (.getfield 283, 3) := by decide +kernel
theorem dX12_isPerson_9 : decode cX12_isPerson 9 = .ok (.if_icmp .ge 7, 3) := by decide +kernel
theorem dX12_isPerson_12 : decode cX12_isPerson 12 = .ok (.iconst 1, 1) := by decide +kernel
theorem dX12_isPerson_13 : decode cX12_isPerson 13 = .ok (.goto 4, 3) := by decide +kernel
theorem dX12_isPerson_16 : decode cX12_isPerson 16 = .ok (.iconst 0, 1) := by decide +kernel
theorem dX12_isPerson_17 : decode cX12_isPerson 17 = .ok (.ireturn, 1) := by decide +kernel
def f_X12_isPerson_17 (s0 : Int32) (h : AH) : Option (Int32 × AH) :=
  og (bz s0) <|
  some (s0, h)
def f_X12_isPerson_16  (h : AH) : Option (Int32 × AH) :=
  f_X12_isPerson_17 0 h
def f_X12_isPerson (k0 : Nat) (x1 : Int32) (h : AH) : Option (Int32 × AH) :=
  if x1 < 0 then (
    f_X12_isPerson_16 h
  ) else (
    if (h.1 k0 20) ≤ x1 then (
      f_X12_isPerson_16 h
    ) else (
      f_X12_isPerson_17 1 h
    )
  )
set_option maxHeartbeats 4000000 in
set_option maxRecDepth 100000 in
theorem v_X12_isPerson_17 {E : EV} {d : Nat} (hd : 0 ≤ d) {r0 : Int32} {h0 : AH} {s0 : Int32} {h : AH} (hf : f_X12_isPerson_17 s0 h = some (r0, h0)) : V E (d + 1) K_X12_isPerson (ZI E r0 h0) h [] [.int s0] 17 := by
  unfold f_X12_isPerson_17 at hf
  obtain ⟨b_1, hf⟩ := og_s hf
  exact V_zret rfl b_1 (so_s hf) dX12_isPerson_17
set_option maxHeartbeats 4000000 in
set_option maxRecDepth 100000 in
theorem v_X12_isPerson_16 {E : EV} {d : Nat} (hd : 0 ≤ d) {r0 : Int32} {h0 : AH}  {h : AH} (hf : f_X12_isPerson_16 h = some (r0, h0)) : V E (d + 1) K_X12_isPerson (ZI E r0 h0) h [] [] 16 := by
  unfold f_X12_isPerson_16 at hf
  refine V_iconst (v := 0) dX12_isPerson_16 (by decide) ?_
  exact v_X12_isPerson_17 hd hf
set_option maxHeartbeats 4000000 in
set_option maxRecDepth 100000 in
theorem c_X12_isPerson {E : EV} {d : Nat} (hd : 0 + 1 ≤ d) {k0 : Nat} {x1 : Int32} {h : AH} {r0 : Int32} {h0 : AH} (hf : f_X12_isPerson k0 x1 h = some (r0, h0)) (t_k0 : kd k0 = (0, 12)) : Con E d K_X12_isPerson (ZI E r0 h0) [.ref k0, .int x1] h := by
  obtain ⟨d, rfl⟩ : ∃ d', d = d' + 1 := ⟨d - 1, by omega⟩
  have hd := Nat.le_of_succ_le_succ hd
  refine Con.ofV rfl (Nat.le_of_ble_eq_true rfl) ?_
  unfold f_X12_isPerson at hf
  show V E (d + 1) K_X12_isPerson (ZI E r0 h0) h [(0, .ref k0), (1, .int x1)] [] 0
  refine V_iload_n 1 dX12_isPerson_0 rfl rfl ?_
  refine V_if_lt (tgt := 16) dX12_isPerson_1 (by decide) (fun c_1 => ?_) (fun c_1 => ?_)
  · have hf := it_s c_1 hf
    refine V_sub [] rfl ?_
    exact v_X12_isPerson_16 hd hf
  · have hf := if_s c_1 hf
    refine V_iload_n 1 dX12_isPerson_4 rfl rfl ?_
    refine V_aload_n 0 dX12_isPerson_5 rfl rfl ?_
    refine V_getI F_X12_283 rfl t_k0 rfl dX12_isPerson_6 ?_
    refine V_ic_ge (tgt := 16) dX12_isPerson_9 (by decide) (fun c_2 => ?_) (fun c_2 => ?_)
    · have hf := it_s c_2 hf
      refine V_sub [] rfl ?_
      exact v_X12_isPerson_16 hd hf
    · have hf := if_s c_2 hf
      refine V_iconst (v := 1) dX12_isPerson_12 (by decide) ?_
      refine V_goto (tgt := 17) dX12_isPerson_13 (by decide) ?_
      refine V_sub [] rfl ?_
      exact v_X12_isPerson_17 hd hf
theorem dX12_isIn_0 : decode cX12_isIn 0 = .ok (.lload_n 0, 1) := by decide +kernel
theorem dX12_isIn_1 : decode cX12_isIn 1 = .ok (.lload_n 2, 1) := by decide +kernel
theorem dX12_isIn_2 : decode cX12_isIn 2 = .ok (.lcmp, 1) := by decide +kernel
theorem dX12_isIn_3 : decode cX12_isIn 3 = .ok (.ifCond .lt 14, 3) := by decide +kernel
theorem dX12_isIn_6 : decode cX12_isIn 6 = .ok (.lload_n 0, 1) := by decide +kernel
theorem dX12_isIn_7 : decode cX12_isIn 7 = .ok (.lload 4, 2) := by decide +kernel
theorem dX12_isIn_9 : decode cX12_isIn 9 = .ok (.lcmp, 1) := by decide +kernel
theorem dX12_isIn_10 : decode cX12_isIn 10 = .ok (.ifCond .gt 7, 3) := by decide +kernel
theorem dX12_isIn_13 : decode cX12_isIn 13 = .ok (.iconst 1, 1) := by decide +kernel
theorem dX12_isIn_14 : decode cX12_isIn 14 = .ok (.goto 4, 3) := by decide +kernel
theorem dX12_isIn_17 : decode cX12_isIn 17 = .ok (.iconst 0, 1) := by decide +kernel
theorem dX12_isIn_18 : decode cX12_isIn 18 = .ok (.ireturn, 1) := by decide +kernel
def f_X12_isIn_18 (s0 : Int32) (h : AH) : Option (Int32 × AH) :=
  og (bz s0) <|
  some (s0, h)
def f_X12_isIn_17  (h : AH) : Option (Int32 × AH) :=
  f_X12_isIn_18 0 h
def f_X12_isIn (l0 : Int64) (l2 : Int64) (l4 : Int64) (h : AH) : Option (Int32 × AH) :=
  if (lg_cmp l0 l2) < 0 then (
    f_X12_isIn_17 h
  ) else (
    if 0 < (lg_cmp l0 l4) then (
      f_X12_isIn_17 h
    ) else (
      f_X12_isIn_18 1 h
    )
  )
set_option maxHeartbeats 4000000 in
set_option maxRecDepth 100000 in
theorem v_X12_isIn_18 {E : EV} {d : Nat} (hd : 0 ≤ d) {r0 : Int32} {h0 : AH} {s0 : Int32} {h : AH} (hf : f_X12_isIn_18 s0 h = some (r0, h0)) : V E (d + 1) K_X12_isIn (ZI E r0 h0) h [] [.int s0] 18 := by
  unfold f_X12_isIn_18 at hf
  obtain ⟨b_1, hf⟩ := og_s hf
  exact V_zret rfl b_1 (so_s hf) dX12_isIn_18
set_option maxHeartbeats 4000000 in
set_option maxRecDepth 100000 in
theorem v_X12_isIn_17 {E : EV} {d : Nat} (hd : 0 ≤ d) {r0 : Int32} {h0 : AH}  {h : AH} (hf : f_X12_isIn_17 h = some (r0, h0)) : V E (d + 1) K_X12_isIn (ZI E r0 h0) h [] [] 17 := by
  unfold f_X12_isIn_17 at hf
  refine V_iconst (v := 0) dX12_isIn_17 (by decide) ?_
  exact v_X12_isIn_18 hd hf
set_option maxHeartbeats 4000000 in
set_option maxRecDepth 100000 in
theorem c_X12_isIn {E : EV} {d : Nat} (hd : 0 + 1 ≤ d) {l0 : Int64} {l2 : Int64} {l4 : Int64} {h : AH} {r0 : Int32} {h0 : AH} (hf : f_X12_isIn l0 l2 l4 h = some (r0, h0)) : Con E d K_X12_isIn (ZI E r0 h0) [.long l0, .long l2, .long l4] h := by
  obtain ⟨d, rfl⟩ : ∃ d', d = d' + 1 := ⟨d - 1, by omega⟩
  have hd := Nat.le_of_succ_le_succ hd
  refine Con.ofV rfl (Nat.le_of_ble_eq_true rfl) ?_
  unfold f_X12_isIn at hf
  show V E (d + 1) K_X12_isIn (ZI E r0 h0) h [(0, .long l0), (2, .long l2), (4, .long l4)] [] 0
  refine V_lload_n 0 dX12_isIn_0 rfl rfl ?_
  refine V_lload_n 1 dX12_isIn_1 rfl rfl ?_
  refine V_lcmp dX12_isIn_2 ?_
  refine V_if_lt (tgt := 17) dX12_isIn_3 (by decide) (fun c_1 => ?_) (fun c_1 => ?_)
  · have hf := it_s c_1 hf
    refine V_sub [] rfl ?_
    exact v_X12_isIn_17 hd hf
  · have hf := if_s c_1 hf
    refine V_lload_n 0 dX12_isIn_6 rfl rfl ?_
    refine V_lload 2 dX12_isIn_7 rfl ?_
    refine V_lcmp dX12_isIn_9 ?_
    refine V_if_gt (tgt := 17) dX12_isIn_10 (by decide) (fun c_2 => ?_) (fun c_2 => ?_)
    · have hf := it_s c_2 hf
      refine V_sub [] rfl ?_
      exact v_X12_isIn_17 hd hf
    · have hf := if_s c_2 hf
      refine V_iconst (v := 1) dX12_isIn_13 (by decide) ?_
      refine V_goto (tgt := 18) dX12_isIn_14 (by decide) ?_
      refine V_sub [] rfl ?_
      exact v_X12_isIn_18 hd hf
theorem dX12_been_0 : decode cX12_been 0 = .ok (.aload_n 0, 1) := by decide +kernel
theorem dX12_been_1 : decode cX12_been 1 = .ok (.iconst 0, 1) := by decide +kernel
theorem dX12_been_2 : decode cX12_been 2 = .ok (.putfield 120, 3) := by decide +kernel
theorem dX12_been_5 : decode cX12_been 5 = .ok (.aload_n 0, 1) := by decide +kernel
theorem dX12_been_6 : decode cX12_been 6 = .ok (.iload_n 1, 1) := by decide +kernel
theorem dX12_been_7 : decode cX12_been 7 = .ok (.invokevirtual 295, 3) := by decide +kernel
theorem dX12_been_10 : decode cX12_been 10 = .ok (.ifCond .eq 24, 3) := by decide +kernel
theorem dX12_been_13 : decode cX12_been 13 = .ok (.iload_n 2, 1) := by decide +kernel
theorem dX12_been_14 : decode cX12_been 14 = .ok (.iconst (-1), 1) := by decide +kernel
theorem dX12_been_15 : decode cX12_been 15 = .ok (.if_icmp .eq 21, 3) := by decide +kernel
theorem dX12_been_18 : decode cX12_been 18 = .ok (.iload_n 2, 1) := by decide +kernel
theorem dX12_been_19 : decode cX12_been 19 = .ok (.i2l, 1) := by decide +kernel
theorem dX12_been_20 : decode cX12_been 20 = .ok (.lconst 0, 1) := by decide +kernel
theorem dX12_been_21 : decode cX12_been 21 = .ok (.aload_n 0, 1) := by decide +kernel
theorem dX12_been_22 : decode cX12_been 22 = .ok (.getfield 286, 3) := by decide +kernel
theorem dX12_been_25 : decode cX12_been 25 = .ok (.iconst 1, 1) := by decide +kernel
theorem dX12_been_26 : decode cX12_been 26 = .ok (.isub, 1) := by decide +kernel
theorem dX12_been_27 : decode cX12_been 27 = .ok (.i2l, 1) := by decide +kernel
theorem dX12_been_28 : decode cX12_been 28 = .ok (.invokestatic 247, 3) := by decide +kernel
theorem dX12_been_31 : decode cX12_been 31 = .ok (.ifCond .ne 5, 3) := by decide +kernel
theorem dX12_been_34 : decode cX12_been 34 = .ok (.iconst (-1), 1) := by decide +kernel
theorem dX12_been_35 : decode cX12_been 35 = .ok (.ireturn, 1) := by decide +kernel
theorem dX12_been_36 : decode cX12_been 36 = .ok (.iload_n 2, 1) := by decide +kernel
theorem dX12_been_37 : decode cX12_been 37 = .ok (.iconst (-1), 1) := by decide +kernel
theorem dX12_been_38 : decode cX12_been 38 = .ok (.if_icmp .eq 15, 3) := by decide +kernel
theorem dX12_been_41 : decode cX12_been 41 = .ok (.aload_n 0, 1) := by decide +kernel
theorem dX12_been_42 : decode cX12_been 42 = .ok (.getfield 66, 3) := by decide +kernel
theorem dX12_been_45 : decode cX12_been 45 = .ok (.bipush 6, 2) := by decide +kernel
theorem dX12_been_47 : decode cX12_been 47 = .ok (.iload_n 2, 1) := by decide +kernel
theorem dX12_been_48 : decode cX12_been 48 = .ok (.imul, 1) := by decide +kernel
theorem dX12_been_49 : decode cX12_been 49 = .ok (.iload_n 1, 1) := by decide +kernel
theorem dX12_been_50 : decode cX12_been 50 = .ok (.iadd, 1) := by decide +kernel
theorem dX12_been_51 : decode cX12_been 51 = .ok (.iaload, 1) := by decide +kernel
theorem dX12_been_52 : decode cX12_been 52 = .ok (.ireturn, 1) := by decide +kernel
theorem dX12_been_53 : decode cX12_been 53 = .ok (.iconst 0, 1) := by decide +kernel
theorem dX12_been_54 : decode cX12_been 54 = .ok (.istore_n 3, 1) := by decide +kernel
theorem dX12_been_55 : decode cX12_been 55 = .ok (.iconst 0, 1) := by decide +kernel
theorem dX12_been_56 : decode cX12_been 56 = .ok (.istore 4, 2) := by decide +kernel
theorem dX12_been_58 : decode cX12_been 58 = .ok (.iload 4, 2) := by decide +kernel
theorem dX12_been_60 : decode cX12_been 60 = .ok (.aload_n 0, 1) := by decide +kernel
theorem dX12_been_61 : decode cX12_been 61 = .ok (.getfield 286, 3) := by decide +kernel
theorem dX12_been_64 : decode cX12_been 64 = .ok (.if_icmp .ge 26, 3) := by decide +kernel
theorem dX12_been_67 : decode cX12_been 67 = .ok (.iload_n 3, 1) := by decide +kernel
theorem dX12_been_68 : decode cX12_been 68 = .ok (.iconst 1, 1) := by decide +kernel
theorem dX12_been_69 : decode cX12_been 69 = .ok (.aload_n 0, 1) := by decide +kernel
theorem dX12_been_70 : decode cX12_been 70 = .ok (.getfield 66, 3) := by decide +kernel
theorem dX12_been_73 : decode cX12_been 73 = .ok (.bipush 6, 2) := by decide +kernel
theorem dX12_been_75 : decode cX12_been 75 = .ok (.iload 4, 2) := by decide +kernel
theorem dX12_been_77 : decode cX12_been 77 = .ok (.imul, 1) := by decide +kernel
theorem dX12_been_78 : decode cX12_been 78 = .ok (.iload_n 1, 1) := by decide +kernel
theorem dX12_been_79 : decode cX12_been 79 = .ok (.iadd, 1) := by decide +kernel
theorem dX12_been_80 : decode cX12_been 80 = .ok (.iaload, 1) := by decide +kernel
theorem dX12_been_81 : decode cX12_been 81 = .ok (.ishl, 1) := by decide +kernel
theorem dX12_been_82 : decode cX12_been 82 = .ok (.ior, 1) := by decide +kernel
theorem dX12_been_83 : decode cX12_been 83 = .ok (.istore_n 3, 1) := by decide +kernel
theorem dX12_been_84 : decode cX12_been 84 = .ok (.iinc 4 1, 3) := by decide +kernel
theorem dX12_been_87 : decode cX12_been 87 = .ok (.goto (-29), 3) := by decide +kernel
theorem dX12_been_90 : decode cX12_been 90 = .ok (.iload_n 3, 1) := by decide +kernel
theorem dX12_been_91 : decode cX12_been 91 = .ok (.invokestatic 309, 3) := by decide +kernel
theorem dX12_been_94 : decode cX12_been 94 = .ok (.ireturn, 1) := by decide +kernel
theorem ML_X12_309 : MLk RX12 309 yJ6_bitCount_0f7a4 := Or.inl ml_X12_309
theorem ML_X12_295 : MLk RX12 295 yX12_isPerson := Or.inl ml_X12_295
theorem MV_X12_isPerson : MVk K_X12_isPerson 1 12 := ⟨⟨cd_X12_isPerson, in_X12, ⟨by decide, by decide, by decide +kernel⟩, by decide⟩, im_X12_isPerson, se_X12_isPerson, _, _, rfl⟩
theorem ML_X12_247 : MLk RX12 247 yX12_isIn := Or.inl ml_X12_247
theorem MS_X12_isIn : MSk K_X12_isIn 3 := ⟨⟨cd_X12_isIn, in_X12, ⟨by decide, by decide, by decide +kernel⟩, by decide⟩, st_X12_isIn⟩
def f_X12_been_34  (h : AH) : Option (Int32 × AH) :=
  some ((-1), h)
def f_X12_been_58 : Nat → Nat → Int32 → Int32 → Int32 → AH → Option (Int32 × AH)
  | 0, _, _, _, _, _ => none
  | n + 1, k0, x1, x3, x4, h =>
    if (h.1 k0 32) ≤ x4 then (
      ob (f_J6_bitCount_0f7a4 x3 h) fun r_4 h_3 =>
      some (r_4, h_3)
    ) else (
      og (ix ((6 * x4) + x1) (an (rf k0 31))) <|
      nm ((x3 ||| ((1 : Int32) <<< ((h.1 (rf k0 31) ((6 * x4) + x1).toNatClampNeg) &&& 31)))) fun x3_6 =>
      nm (x4 + 1) fun x4_8 =>
      f_X12_been_58 n k0 x1 x3_6 x4_8 h
    )
def f_X12_been_36 (k0 : Nat) (x1 : Int32) (x2 : Int32) (h : AH) : Option (Int32 × AH) :=
  if x2 = (-1) then (
    f_X12_been_58 FU k0 x1 0 0 h
  ) else (
    og (ix ((6 * x2) + x1) (an (rf k0 31))) <|
    some ((h.1 (rf k0 31) ((6 * x2) + x1).toNatClampNeg), h)
  )
def f_X12_been (k0 : Nat) (x1 : Int32) (x2 : Int32) (h : AH) : Option (Int32 × AH) :=
  nm (sI h k0 0 0) fun h_1 =>
  ob (f_X12_isPerson k0 x1 h_1) fun r_5 h_4 =>
  if r_5 = 0 then (
    f_X12_been_34 h_4
  ) else (
    if x2 = (-1) then (
      f_X12_been_36 k0 x1 x2 h_4
    ) else (
      ob (f_X12_isIn ((x2).toInt64) 0 ((((h_4.1 k0 32) - 1)).toInt64) h_4) fun r_10 h_9 =>
      if r_10 = 0 then (
        f_X12_been_34 h_9
      ) else (
        f_X12_been_36 k0 x1 x2 h_9
      )
    )
  )
set_option maxHeartbeats 4000000 in
set_option maxRecDepth 100000 in
theorem v_X12_been_34 {E : EV} {d : Nat} (hd : 1 ≤ d) {r0 : Int32} {h0 : AH}  {h : AH} (hf : f_X12_been_34 h = some (r0, h0)) : V E (d + 1) K_X12_been (ZI E r0 h0) h [] [] 34 := by
  unfold f_X12_been_34 at hf
  refine V_iconst (v := (-1)) dX12_been_34 (by decide) ?_
  exact V_iret rfl (so_s hf) dX12_been_35
set_option maxHeartbeats 4000000 in
set_option maxRecDepth 100000 in
theorem v_X12_been_58 {E : EV} {d : Nat} (hd : 1 ≤ d) {r0 : Int32} {h0 : AH} : ∀ (n : Nat) (k0 : Nat) (x1 : Int32) (x3 : Int32) (x4 : Int32) (h : AH), f_X12_been_58 n k0 x1 x3 x4 h = some (r0, h0) → kd k0 = (0, 12) → V E (d + 1) K_X12_been (ZI E r0 h0) h [(0, .ref k0), (1, .int x1), (3, .int x3), (4, .int x4)] [] 58 := by
  intro n
  induction n with
  | zero =>
    intro k0 x1 x3 x4 h hf
    rw [f_X12_been_58] at hf
    cases hf
  | succ n ih =>
    intro k0 x1 x3 x4 h hf t_k0
    rw [f_X12_been_58] at hf
    refine V_iload 3 dX12_been_58 rfl ?_
    refine V_aload_n 0 dX12_been_60 rfl rfl ?_
    refine V_getI F_X12_286 rfl t_k0 rfl dX12_been_61 ?_
    refine V_ic_ge (tgt := 90) dX12_been_64 (by decide) (fun c_1 => ?_) (fun c_1 => ?_)
    · have hf := it_s c_1 hf
      refine V_iload_n 2 dX12_been_90 rfl rfl ?_
      obtain ⟨r_4, h_3, e_2, hf⟩ := ob_s hf
      refine V_csi (As := [.int x3]) (rest := []) (c_J6_bitCount_0f7a4 (d := d) (Nat.le_trans (Nat.le_of_ble_eq_true rfl) hd) e_2) ML_X12_309 MS_J6_bitCount_0f7a4 rfl rfl rfl (Nat.le_of_ble_eq_true rfl) dX12_been_91 ?_
      exact V_iret rfl (so_s hf) dX12_been_94
    · have hf := if_s c_1 hf
      refine V_iload_n 2 dX12_been_67 rfl rfl ?_
      refine V_iconst (v := 1) dX12_been_68 (by decide) ?_
      refine V_aload_n 0 dX12_been_69 rfl rfl ?_
      refine V_getR F_X12_66 rfl t_k0 rfl dX12_been_70 ?_
      refine V_bipush (v := 6) dX12_been_73 (by decide) ?_
      refine V_iload 3 dX12_been_75 rfl ?_
      refine V_imul dX12_been_77 ?_
      refine V_iload_n 1 dX12_been_78 rfl rfl ?_
      refine V_iadd dX12_been_79 ?_
      obtain ⟨b_5, hf⟩ := og_s hf
      refine V_iald (rfA t_k0 (Nat.le_of_ble_eq_true rfl) rfl rfl (by decide)) b_5 dX12_been_80 ?_
      refine V_ishl dX12_been_81 ?_
      refine V_ior dX12_been_82 ?_
      obtain ⟨x3_6, e_7, hf⟩ := nm_s hf
      refine V_istore_n (L' := [(3, .int x3_6), (0, .ref k0), (1, .int x1), (4, .int x4)]) dX12_been_83 rfl (Nat.le_of_ble_eq_true rfl) e_7 rfl ?_
      obtain ⟨x4_8, e_9, hf⟩ := nm_s hf
      refine V_iinc (a := 1) (L' := [(4, .int x4_8), (3, .int x3_6), (0, .ref k0), (1, .int x1)]) 3 dX12_been_84 rfl (by decide) (Nat.le_of_ble_eq_true rfl) e_9 rfl ?_
      refine V_goto (tgt := 58) dX12_been_87 (by decide) ?_
      refine V_sub [2, 3, 1, 0] rfl ?_
      exact ih _ _ _ _ _ hf t_k0
set_option maxHeartbeats 4000000 in
set_option maxRecDepth 100000 in
theorem v_X12_been_36 {E : EV} {d : Nat} (hd : 1 ≤ d) {r0 : Int32} {h0 : AH} {k0 : Nat} {x1 : Int32} {x2 : Int32} {h : AH} (hf : f_X12_been_36 k0 x1 x2 h = some (r0, h0)) (t_k0 : kd k0 = (0, 12)) : V E (d + 1) K_X12_been (ZI E r0 h0) h [(0, .ref k0), (1, .int x1), (2, .int x2)] [] 36 := by
  unfold f_X12_been_36 at hf
  refine V_iload_n 2 dX12_been_36 rfl rfl ?_
  refine V_iconst (v := (-1)) dX12_been_37 (by decide) ?_
  refine V_ic_eq (tgt := 53) dX12_been_38 (by decide) (fun c_1 => ?_) (fun c_1 => ?_)
  · have hf := it_s c_1 hf
    refine V_iconst (v := 0) dX12_been_53 (by decide) ?_
    refine V_istore_n (L' := [(3, .int 0), (0, .ref k0), (1, .int x1), (2, .int x2)]) dX12_been_54 rfl (Nat.le_of_ble_eq_true rfl) rfl rfl ?_
    refine V_iconst (v := 0) dX12_been_55 (by decide) ?_
    refine V_istore (L' := [(4, .int 0), (3, .int 0), (0, .ref k0), (1, .int x1), (2, .int x2)]) dX12_been_56 (Nat.le_of_ble_eq_true rfl) rfl rfl ?_
    refine V_sub [2, 3, 1, 0] rfl ?_
    exact v_X12_been_58 hd FU _ _ _ _ _ hf t_k0
  · have hf := if_s c_1 hf
    refine V_aload_n 0 dX12_been_41 rfl rfl ?_
    refine V_getR F_X12_66 rfl t_k0 rfl dX12_been_42 ?_
    refine V_bipush (v := 6) dX12_been_45 (by decide) ?_
    refine V_iload_n 2 dX12_been_47 rfl rfl ?_
    refine V_imul dX12_been_48 ?_
    refine V_iload_n 1 dX12_been_49 rfl rfl ?_
    refine V_iadd dX12_been_50 ?_
    obtain ⟨b_2, hf⟩ := og_s hf
    refine V_iald (rfA t_k0 (Nat.le_of_ble_eq_true rfl) rfl rfl (by decide)) b_2 dX12_been_51 ?_
    exact V_iret rfl (so_s hf) dX12_been_52
set_option maxHeartbeats 4000000 in
set_option maxRecDepth 100000 in
theorem c_X12_been {E : EV} {d : Nat} (hd : 1 + 1 ≤ d) {k0 : Nat} {x1 : Int32} {x2 : Int32} {h : AH} {r0 : Int32} {h0 : AH} (hf : f_X12_been k0 x1 x2 h = some (r0, h0)) (t_k0 : kd k0 = (0, 12)) : Con E d K_X12_been (ZI E r0 h0) [.ref k0, .int x1, .int x2] h := by
  obtain ⟨d, rfl⟩ : ∃ d', d = d' + 1 := ⟨d - 1, by omega⟩
  have hd := Nat.le_of_succ_le_succ hd
  refine Con.ofV rfl (Nat.le_of_ble_eq_true rfl) ?_
  unfold f_X12_been at hf
  show V E (d + 1) K_X12_been (ZI E r0 h0) h [(0, .ref k0), (1, .int x1), (2, .int x2)] [] 0
  refine V_aload_n 0 dX12_been_0 rfl rfl ?_
  refine V_iconst (v := 0) dX12_been_1 (by decide) ?_
  obtain ⟨h_1, e_2, hf⟩ := nm_s hf
  refine V_putI P_X12_120 rfl t_k0 rfl e_2 dX12_been_2 ?_
  refine V_aload_n 0 dX12_been_5 rfl rfl ?_
  refine V_iload_n 1 dX12_been_6 rfl rfl ?_
  obtain ⟨r_5, h_4, e_3, hf⟩ := ob_s hf
  refine V_cvi (As := [.int x1]) (rest := []) (c_X12_isPerson (d := d) (Nat.le_trans (Nat.le_of_ble_eq_true rfl) hd) e_3 t_k0) ML_X12_295 MV_X12_isPerson rfl t_k0 rfl rfl (Nat.le_of_ble_eq_true rfl) dX12_been_7 ?_
  refine V_if_eq (tgt := 34) dX12_been_10 (by decide) (fun c_6 => ?_) (fun c_6 => ?_)
  · have hf := it_s c_6 hf
    refine V_sub [] rfl ?_
    exact v_X12_been_34 hd hf
  · have hf := if_s c_6 hf
    refine V_iload_n 2 dX12_been_13 rfl rfl ?_
    refine V_iconst (v := (-1)) dX12_been_14 (by decide) ?_
    refine V_ic_eq (tgt := 36) dX12_been_15 (by decide) (fun c_7 => ?_) (fun c_7 => ?_)
    · have hf := it_s c_7 hf
      exact v_X12_been_36 hd hf t_k0
    · have hf := if_s c_7 hf
      refine V_iload_n 2 dX12_been_18 rfl rfl ?_
      refine V_i2l dX12_been_19 ?_
      refine V_lconst (v := 0) dX12_been_20 (by decide) ?_
      refine V_aload_n 0 dX12_been_21 rfl rfl ?_
      refine V_getI F_X12_286 rfl t_k0 rfl dX12_been_22 ?_
      refine V_iconst (v := 1) dX12_been_25 (by decide) ?_
      refine V_isub dX12_been_26 ?_
      refine V_i2l dX12_been_27 ?_
      obtain ⟨r_10, h_9, e_8, hf⟩ := ob_s hf
      refine V_csi (As := [.long ((x2).toInt64), .long 0, .long ((((h_4.1 k0 32) - 1)).toInt64)]) (rest := []) (c_X12_isIn (d := d) (Nat.le_trans (Nat.le_of_ble_eq_true rfl) hd) e_8) ML_X12_247 MS_X12_isIn rfl rfl rfl (Nat.le_of_ble_eq_true rfl) dX12_been_28 ?_
      refine V_if_ne (tgt := 36) dX12_been_31 (by decide) (fun c_11 => ?_) (fun c_11 => ?_)
      · have hf := if_s c_11 hf
        exact v_X12_been_36 hd hf t_k0
      · have hf := it_s c_11 hf
        refine V_sub [] rfl ?_
        exact v_X12_been_34 hd hf
theorem dX12_keepHaving_0 : decode cX12_keepHaving 0 = .ok (.iconst 0, 1) := by decide +kernel
theorem dX12_keepHaving_1 : decode cX12_keepHaving 1 = .ok (.istore_n 1, 1) := by decide +kernel
theorem dX12_keepHaving_2 : decode cX12_keepHaving 2 = .ok (.iload_n 1, 1) := by decide +kernel
theorem dX12_keepHaving_3 : decode cX12_keepHaving 3 = .ok (.aload_n 0, 1) := by decide +kernel
theorem dX12_keepHaving_4 : decode cX12_keepHaving 4 = .ok (.getfield 283, 3) := by decide +kernel
theorem dX12_keepHaving_7 : decode cX12_keepHaving 7 = .ok (.if_icmp .ge 33, 3) := by decide +kernel
theorem dX12_keepHaving_10 : decode cX12_keepHaving 10 = .ok (.aload_n 0, 1) := by decide +kernel
theorem dX12_keepHaving_11 : decode cX12_keepHaving 11 = .ok (.getfield 87, 3) := by decide +kernel
theorem dX12_keepHaving_14 : decode cX12_keepHaving 14 = .ok (.iload_n 1, 1) := by decide +kernel
theorem dX12_keepHaving_15 : decode cX12_keepHaving 15 = .ok (.aload_n 0, 1) := by decide +kernel
theorem dX12_keepHaving_16 : decode cX12_keepHaving 16 = .ok (.getfield 48, 3) := by decide +kernel
theorem dX12_keepHaving_19 : decode cX12_keepHaving 19 = .ok (.iload_n 1, 1) := by decide +kernel
theorem dX12_keepHaving_20 : decode cX12_keepHaving 20 = .ok (.iaload, 1) := by decide +kernel
theorem dX12_keepHaving_21 : decode cX12_keepHaving 21 = .ok (.iastore, 1) := by decide +kernel
theorem dX12_keepHaving_22 : decode cX12_keepHaving 22 = .ok (.aload_n 0, 1) := by decide +kernel
theorem dX12_keepHaving_23 : decode cX12_keepHaving 23 = .ok (.getfield 90, 3) := by decide +kernel
theorem dX12_keepHaving_26 : decode cX12_keepHaving 26 = .ok (.iload_n 1, 1) := by decide +kernel
theorem dX12_keepHaving_27 : decode cX12_keepHaving 27 = .ok (.aload_n 0, 1) := by decide +kernel
theorem dX12_keepHaving_28 : decode cX12_keepHaving 28 = .ok (.getfield 45, 3) := by decide +kernel
theorem dX12_keepHaving_31 : decode cX12_keepHaving 31 = .ok (.iload_n 1, 1) := by decide +kernel
theorem dX12_keepHaving_32 : decode cX12_keepHaving 32 = .ok (.iaload, 1) := by decide +kernel
theorem dX12_keepHaving_33 : decode cX12_keepHaving 33 = .ok (.iastore, 1) := by decide +kernel
theorem dX12_keepHaving_34 : decode cX12_keepHaving 34 = .ok (.iinc 1 1, 3) := by decide +kernel
theorem dX12_keepHaving_37 : decode cX12_keepHaving 37 = .ok (.goto (-35), 3) := by decide +kernel
theorem dX12_keepHaving_40 : decode cX12_keepHaving 40 = .ok (.return_, 1) := by decide +kernel
theorem F_X12_87 : FLk RX12 87 12 41 := ⟨RX12, TX12, 58, rfl, rfl, iw_X12, by decide, Or.inl fl_X12_87⟩
theorem F_X12_90 : FLk RX12 90 12 42 := ⟨RX12, TX12, 58, rfl, rfl, iw_X12, by decide, Or.inl fl_X12_90⟩
def f_X12_keepHaving_2 : Nat → Nat → Int32 → AH → Option AH
  | 0, _, _, _ => none
  | n + 1, k0, x1, h =>
    if (h.1 k0 20) ≤ x1 then (
      some h
    ) else (
      og (ix x1 (an (rf k0 23))) <|
      og (ix x1 (an (rf k0 41))) <|
      nm (sI h (rf k0 41) x1.toNatClampNeg (h.1 (rf k0 23) x1.toNatClampNeg)) fun h_4 =>
      og (ix x1 (an (rf k0 22))) <|
      og (ix x1 (an (rf k0 42))) <|
      nm (sI h_4 (rf k0 42) x1.toNatClampNeg (h_4.1 (rf k0 22) x1.toNatClampNeg)) fun h_8 =>
      nm (x1 + 1) fun x1_10 =>
      f_X12_keepHaving_2 n k0 x1_10 h_8
    )
def f_X12_keepHaving (k0 : Nat) (h : AH) : Option AH :=
  f_X12_keepHaving_2 FU k0 0 h
set_option maxHeartbeats 4000000 in
set_option maxRecDepth 100000 in
theorem v_X12_keepHaving_2 {E : EV} {d : Nat} (hd : 0 ≤ d) {h0 : AH} : ∀ (n : Nat) (k0 : Nat) (x1 : Int32) (h : AH), f_X12_keepHaving_2 n k0 x1 h = some h0 → kd k0 = (0, 12) → V E (d + 1) K_X12_keepHaving (ZV E h0) h [(0, .ref k0), (1, .int x1)] [] 2 := by
  intro n
  induction n with
  | zero =>
    intro k0 x1 h hf
    rw [f_X12_keepHaving_2] at hf
    cases hf
  | succ n ih =>
    intro k0 x1 h hf t_k0
    rw [f_X12_keepHaving_2] at hf
    refine V_iload_n 1 dX12_keepHaving_2 rfl rfl ?_
    refine V_aload_n 0 dX12_keepHaving_3 rfl rfl ?_
    refine V_getI F_X12_283 rfl t_k0 rfl dX12_keepHaving_4 ?_
    refine V_ic_ge (tgt := 40) dX12_keepHaving_7 (by decide) (fun c_1 => ?_) (fun c_1 => ?_)
    · have hf := it_s c_1 hf
      exact V_vret rfl (so_s hf) dX12_keepHaving_40
    · have hf := if_s c_1 hf
      refine V_aload_n 0 dX12_keepHaving_10 rfl rfl ?_
      refine V_getR F_X12_87 rfl t_k0 rfl dX12_keepHaving_11 ?_
      refine V_iload_n 1 dX12_keepHaving_14 rfl rfl ?_
      refine V_aload_n 0 dX12_keepHaving_15 rfl rfl ?_
      refine V_getR F_X12_48 rfl t_k0 rfl dX12_keepHaving_16 ?_
      refine V_iload_n 1 dX12_keepHaving_19 rfl rfl ?_
      obtain ⟨b_2, hf⟩ := og_s hf
      refine V_iald (rfA t_k0 (Nat.le_of_ble_eq_true rfl) rfl rfl (by decide)) b_2 dX12_keepHaving_20 ?_
      obtain ⟨b_3, hf⟩ := og_s hf
      obtain ⟨h_4, e_5, hf⟩ := nm_s hf
      refine V_iast (rfA t_k0 (Nat.le_of_ble_eq_true rfl) rfl rfl (by decide)) b_3 e_5 dX12_keepHaving_21 ?_
      refine V_aload_n 0 dX12_keepHaving_22 rfl rfl ?_
      refine V_getR F_X12_90 rfl t_k0 rfl dX12_keepHaving_23 ?_
      refine V_iload_n 1 dX12_keepHaving_26 rfl rfl ?_
      refine V_aload_n 0 dX12_keepHaving_27 rfl rfl ?_
      refine V_getR F_X12_45 rfl t_k0 rfl dX12_keepHaving_28 ?_
      refine V_iload_n 1 dX12_keepHaving_31 rfl rfl ?_
      obtain ⟨b_6, hf⟩ := og_s hf
      refine V_iald (rfA t_k0 (Nat.le_of_ble_eq_true rfl) rfl rfl (by decide)) b_6 dX12_keepHaving_32 ?_
      obtain ⟨b_7, hf⟩ := og_s hf
      obtain ⟨h_8, e_9, hf⟩ := nm_s hf
      refine V_iast (rfA t_k0 (Nat.le_of_ble_eq_true rfl) rfl rfl (by decide)) b_7 e_9 dX12_keepHaving_33 ?_
      obtain ⟨x1_10, e_11, hf⟩ := nm_s hf
      refine V_iinc (a := 1) (L' := [(1, .int x1_10), (0, .ref k0)]) 1 dX12_keepHaving_34 rfl (by decide) (Nat.le_of_ble_eq_true rfl) e_11 rfl ?_
      refine V_goto (tgt := 2) dX12_keepHaving_37 (by decide) ?_
      refine V_sub [1, 0] rfl ?_
      exact ih _ _ _ hf t_k0
set_option maxHeartbeats 4000000 in
set_option maxRecDepth 100000 in
theorem c_X12_keepHaving {E : EV} {d : Nat} (hd : 0 + 1 ≤ d) {k0 : Nat} {h : AH} {h0 : AH} (hf : f_X12_keepHaving k0 h = some h0) (t_k0 : kd k0 = (0, 12)) : Con E d K_X12_keepHaving (ZV E h0) [.ref k0] h := by
  obtain ⟨d, rfl⟩ : ∃ d', d = d' + 1 := ⟨d - 1, by omega⟩
  have hd := Nat.le_of_succ_le_succ hd
  refine Con.ofV rfl (Nat.le_of_ble_eq_true rfl) ?_
  unfold f_X12_keepHaving at hf
  show V E (d + 1) K_X12_keepHaving (ZV E h0) h [(0, .ref k0)] [] 0
  refine V_iconst (v := 0) dX12_keepHaving_0 (by decide) ?_
  refine V_istore_n (L' := [(1, .int 0), (0, .ref k0)]) dX12_keepHaving_1 rfl (Nat.le_of_ble_eq_true rfl) rfl rfl ?_
  refine V_sub [1, 0] rfl ?_
  exact v_X12_keepHaving_2 hd FU _ _ _ hf t_k0
theorem dX12_havingNow_0 : decode cX12_havingNow 0 = .ok (.iconst 0, 1) := by decide +kernel
theorem dX12_havingNow_1 : decode cX12_havingNow 1 = .ok (.istore_n 1, 1) := by decide +kernel
theorem dX12_havingNow_2 : decode cX12_havingNow 2 = .ok (.aload_n 0, 1) := by decide +kernel
theorem dX12_havingNow_3 : decode cX12_havingNow 3 = .ok (.getfield 283, 3) := by decide +kernel
theorem dX12_havingNow_6 : decode cX12_havingNow 6 = .ok (.iconst 1, 1) := by decide +kernel
theorem dX12_havingNow_7 : decode cX12_havingNow 7 = .ok (.isub, 1) := by decide +kernel
theorem dX12_havingNow_8 : decode cX12_havingNow 8 = .ok (.istore_n 2, 1) := by decide +kernel
theorem dX12_havingNow_9 : decode cX12_havingNow 9 = .ok (.iload_n 2, 1) := by decide +kernel
theorem dX12_havingNow_10 : decode cX12_havingNow 10 = .ok (.ifCond .lt 22, 3) := by decide +kernel
theorem dX12_havingNow_13 : decode cX12_havingNow 13 = .ok (.iconst 5, 1) := by decide +kernel
theorem dX12_havingNow_14 : decode cX12_havingNow 14 = .ok (.iload_n 1, 1) := by decide +kernel
theorem dX12_havingNow_15 : decode cX12_havingNow 15 = .ok (.imul, 1) := by decide +kernel
theorem dX12_havingNow_16 : decode cX12_havingNow 16 = .ok (.aload_n 0, 1) := by decide +kernel
theorem dX12_havingNow_17 : decode cX12_havingNow 17 = .ok (.getfield 45, 3) := by decide +kernel
theorem dX12_havingNow_20 : decode cX12_havingNow 20 = .ok (.iload_n 2, 1) := by decide +kernel
theorem dX12_havingNow_21 : decode cX12_havingNow 21 = .ok (.iaload, 1) := by decide +kernel
theorem dX12_havingNow_22 : decode cX12_havingNow 22 = .ok (.iadd, 1) := by decide +kernel
theorem dX12_havingNow_23 : decode cX12_havingNow 23 = .ok (.iconst 1, 1) := by decide +kernel
theorem dX12_havingNow_24 : decode cX12_havingNow 24 = .ok (.iadd, 1) := by decide +kernel
theorem dX12_havingNow_25 : decode cX12_havingNow 25 = .ok (.istore_n 1, 1) := by decide +kernel
theorem dX12_havingNow_26 : decode cX12_havingNow 26 = .ok (.iinc 2 (-1), 3) := by decide +kernel
theorem dX12_havingNow_29 : decode cX12_havingNow 29 = .ok (.goto (-20), 3) := by decide +kernel
theorem dX12_havingNow_32 : decode cX12_havingNow 32 = .ok (.iload_n 1, 1) := by decide +kernel
theorem dX12_havingNow_33 : decode cX12_havingNow 33 = .ok (.ireturn, 1) := by decide +kernel
def f_X12_havingNow_9 : Nat → Nat → Int32 → Int32 → AH → Option (Int32 × AH)
  | 0, _, _, _, _ => none
  | n + 1, k0, x1, x2, h =>
    if x2 < 0 then (
      some (x1, h)
    ) else (
      og (ix x2 (an (rf k0 22))) <|
      nm ((((5 * x1) + (h.1 (rf k0 22) x2.toNatClampNeg)) + 1)) fun x1_3 =>
      nm (x2 + (-1)) fun x2_5 =>
      f_X12_havingNow_9 n k0 x1_3 x2_5 h
    )
def f_X12_havingNow (k0 : Nat) (h : AH) : Option (Int32 × AH) :=
  nm (((h.1 k0 20) - 1)) fun x2_1 =>
  f_X12_havingNow_9 FU k0 0 x2_1 h
set_option maxHeartbeats 4000000 in
set_option maxRecDepth 100000 in
theorem v_X12_havingNow_9 {E : EV} {d : Nat} (hd : 0 ≤ d) {r0 : Int32} {h0 : AH} : ∀ (n : Nat) (k0 : Nat) (x1 : Int32) (x2 : Int32) (h : AH), f_X12_havingNow_9 n k0 x1 x2 h = some (r0, h0) → kd k0 = (0, 12) → V E (d + 1) K_X12_havingNow (ZI E r0 h0) h [(0, .ref k0), (1, .int x1), (2, .int x2)] [] 9 := by
  intro n
  induction n with
  | zero =>
    intro k0 x1 x2 h hf
    rw [f_X12_havingNow_9] at hf
    cases hf
  | succ n ih =>
    intro k0 x1 x2 h hf t_k0
    rw [f_X12_havingNow_9] at hf
    refine V_iload_n 2 dX12_havingNow_9 rfl rfl ?_
    refine V_if_lt (tgt := 32) dX12_havingNow_10 (by decide) (fun c_1 => ?_) (fun c_1 => ?_)
    · have hf := it_s c_1 hf
      refine V_iload_n 1 dX12_havingNow_32 rfl rfl ?_
      exact V_iret rfl (so_s hf) dX12_havingNow_33
    · have hf := if_s c_1 hf
      refine V_iconst (v := 5) dX12_havingNow_13 (by decide) ?_
      refine V_iload_n 1 dX12_havingNow_14 rfl rfl ?_
      refine V_imul dX12_havingNow_15 ?_
      refine V_aload_n 0 dX12_havingNow_16 rfl rfl ?_
      refine V_getR F_X12_45 rfl t_k0 rfl dX12_havingNow_17 ?_
      refine V_iload_n 2 dX12_havingNow_20 rfl rfl ?_
      obtain ⟨b_2, hf⟩ := og_s hf
      refine V_iald (rfA t_k0 (Nat.le_of_ble_eq_true rfl) rfl rfl (by decide)) b_2 dX12_havingNow_21 ?_
      refine V_iadd dX12_havingNow_22 ?_
      refine V_iconst (v := 1) dX12_havingNow_23 (by decide) ?_
      refine V_iadd dX12_havingNow_24 ?_
      obtain ⟨x1_3, e_4, hf⟩ := nm_s hf
      refine V_istore_n (L' := [(1, .int x1_3), (0, .ref k0), (2, .int x2)]) dX12_havingNow_25 rfl (Nat.le_of_ble_eq_true rfl) e_4 rfl ?_
      obtain ⟨x2_5, e_6, hf⟩ := nm_s hf
      refine V_iinc (a := (-1)) (L' := [(2, .int x2_5), (1, .int x1_3), (0, .ref k0)]) 2 dX12_havingNow_26 rfl (by decide) (Nat.le_of_ble_eq_true rfl) e_6 rfl ?_
      refine V_goto (tgt := 9) dX12_havingNow_29 (by decide) ?_
      refine V_sub [2, 1, 0] rfl ?_
      exact ih _ _ _ _ hf t_k0
set_option maxHeartbeats 4000000 in
set_option maxRecDepth 100000 in
theorem c_X12_havingNow {E : EV} {d : Nat} (hd : 0 + 1 ≤ d) {k0 : Nat} {h : AH} {r0 : Int32} {h0 : AH} (hf : f_X12_havingNow k0 h = some (r0, h0)) (t_k0 : kd k0 = (0, 12)) : Con E d K_X12_havingNow (ZI E r0 h0) [.ref k0] h := by
  obtain ⟨d, rfl⟩ : ∃ d', d = d' + 1 := ⟨d - 1, by omega⟩
  have hd := Nat.le_of_succ_le_succ hd
  refine Con.ofV rfl (Nat.le_of_ble_eq_true rfl) ?_
  unfold f_X12_havingNow at hf
  show V E (d + 1) K_X12_havingNow (ZI E r0 h0) h [(0, .ref k0)] [] 0
  refine V_iconst (v := 0) dX12_havingNow_0 (by decide) ?_
  refine V_istore_n (L' := [(1, .int 0), (0, .ref k0)]) dX12_havingNow_1 rfl (Nat.le_of_ble_eq_true rfl) rfl rfl ?_
  refine V_aload_n 1 dX12_havingNow_2 rfl rfl ?_
  refine V_getI F_X12_283 rfl t_k0 rfl dX12_havingNow_3 ?_
  refine V_iconst (v := 1) dX12_havingNow_6 (by decide) ?_
  refine V_isub dX12_havingNow_7 ?_
  obtain ⟨x2_1, e_2, hf⟩ := nm_s hf
  refine V_istore_n (L' := [(2, .int x2_1), (1, .int 0), (0, .ref k0)]) dX12_havingNow_8 rfl (Nat.le_of_ble_eq_true rfl) e_2 rfl ?_
  refine V_sub [2, 1, 0] rfl ?_
  exact v_X12_havingNow_9 hd FU _ _ _ _ hf t_k0
theorem dX12_hadBy_0 : decode cX12_hadBy 0 = .ok (.iload_n 1, 1) := by decide +kernel
theorem dX12_hadBy_1 : decode cX12_hadBy 1 = .ok (.istore_n 3, 1) := by decide +kernel
theorem dX12_hadBy_2 : decode cX12_hadBy 2 = .ok (.iconst 0, 1) := by decide +kernel
theorem dX12_hadBy_3 : decode cX12_hadBy 3 = .ok (.istore 4, 2) := by decide +kernel
theorem dX12_hadBy_5 : decode cX12_hadBy 5 = .ok (.iload 4, 2) := by decide +kernel
theorem dX12_hadBy_7 : decode cX12_hadBy 7 = .ok (.iload_n 2, 1) := by decide +kernel
theorem dX12_hadBy_8 : decode cX12_hadBy 8 = .ok (.if_icmp .ge 13, 3) := by decide +kernel
theorem dX12_hadBy_11 : decode cX12_hadBy 11 = .ok (.iload_n 3, 1) := by decide +kernel
theorem dX12_hadBy_12 : decode cX12_hadBy 12 = .ok (.iconst 5, 1) := by decide +kernel
theorem dX12_hadBy_13 : decode cX12_hadBy 13 = .ok (.idiv, 1) := by decide +kernel
theorem dX12_hadBy_14 : decode cX12_hadBy 14 = .ok (.istore_n 3, 1) := by decide +kernel
theorem dX12_hadBy_15 : decode cX12_hadBy 15 = .ok (.iinc 4 1, 3) := by decide +kernel
theorem dX12_hadBy_18 : decode cX12_hadBy 18 = .ok (.goto (-13), 3) := by decide +kernel
theorem dX12_hadBy_21 : decode cX12_hadBy 21 = .ok (.iload_n 3, 1) := by decide +kernel
theorem dX12_hadBy_22 : decode cX12_hadBy 22 = .ok (.iconst 5, 1) := by decide +kernel
theorem dX12_hadBy_23 : decode cX12_hadBy 23 = .ok (.irem, 1) := by decide +kernel
theorem dX12_hadBy_24 : decode cX12_hadBy 24 = .ok (.iconst 1, 1) := by decide +kernel
theorem dX12_hadBy_25 : decode cX12_hadBy 25 = .ok (.isub, 1) := by decide +kernel
theorem dX12_hadBy_26 : decode cX12_hadBy 26 = .ok (.ireturn, 1) := by decide +kernel
def f_X12_hadBy_5 : Nat → Int32 → Int32 → Int32 → AH → Option (Int32 × AH)
  | 0, _, _, _, _ => none
  | n + 1, x2, x3, x4, h =>
    if x2 ≤ x4 then (
      some (((jirem x3 5) - 1), h)
    ) else (
      nm ((x3 / 5)) fun x3_2 =>
      nm (x4 + 1) fun x4_4 =>
      f_X12_hadBy_5 n x2 x3_2 x4_4 h
    )
def f_X12_hadBy (k0 : Nat) (x1 : Int32) (x2 : Int32) (h : AH) : Option (Int32 × AH) :=
  f_X12_hadBy_5 FU x2 x1 0 h
set_option maxHeartbeats 4000000 in
set_option maxRecDepth 100000 in
theorem v_X12_hadBy_5 {E : EV} {d : Nat} (hd : 0 ≤ d) {r0 : Int32} {h0 : AH} : ∀ (n : Nat) (x2 : Int32) (x3 : Int32) (x4 : Int32) (h : AH), f_X12_hadBy_5 n x2 x3 x4 h = some (r0, h0) → V E (d + 1) K_X12_hadBy (ZI E r0 h0) h [(2, .int x2), (3, .int x3), (4, .int x4)] [] 5 := by
  intro n
  induction n with
  | zero =>
    intro x2 x3 x4 h hf
    rw [f_X12_hadBy_5] at hf
    cases hf
  | succ n ih =>
    intro x2 x3 x4 h hf
    rw [f_X12_hadBy_5] at hf
    refine V_iload 2 dX12_hadBy_5 rfl ?_
    refine V_iload_n 0 dX12_hadBy_7 rfl rfl ?_
    refine V_ic_ge (tgt := 21) dX12_hadBy_8 (by decide) (fun c_1 => ?_) (fun c_1 => ?_)
    · have hf := it_s c_1 hf
      refine V_iload_n 1 dX12_hadBy_21 rfl rfl ?_
      refine V_iconst (v := 5) dX12_hadBy_22 (by decide) ?_
      refine V_irem dX12_hadBy_23 (by decide) ?_
      refine V_iconst (v := 1) dX12_hadBy_24 (by decide) ?_
      refine V_isub dX12_hadBy_25 ?_
      exact V_iret rfl (so_s hf) dX12_hadBy_26
    · have hf := if_s c_1 hf
      refine V_iload_n 1 dX12_hadBy_11 rfl rfl ?_
      refine V_iconst (v := 5) dX12_hadBy_12 (by decide) ?_
      refine V_idiv dX12_hadBy_13 (by decide) ?_
      obtain ⟨x3_2, e_3, hf⟩ := nm_s hf
      refine V_istore_n (L' := [(3, .int x3_2), (2, .int x2), (4, .int x4)]) dX12_hadBy_14 rfl (Nat.le_of_ble_eq_true rfl) e_3 rfl ?_
      obtain ⟨x4_4, e_5, hf⟩ := nm_s hf
      refine V_iinc (a := 1) (L' := [(4, .int x4_4), (3, .int x3_2), (2, .int x2)]) 2 dX12_hadBy_15 rfl (by decide) (Nat.le_of_ble_eq_true rfl) e_5 rfl ?_
      refine V_goto (tgt := 5) dX12_hadBy_18 (by decide) ?_
      refine V_sub [2, 1, 0] rfl ?_
      exact ih _ _ _ _ hf
set_option maxHeartbeats 4000000 in
set_option maxRecDepth 100000 in
theorem c_X12_hadBy {E : EV} {d : Nat} (hd : 0 + 1 ≤ d) {k0 : Nat} {x1 : Int32} {x2 : Int32} {h : AH} {r0 : Int32} {h0 : AH} (hf : f_X12_hadBy k0 x1 x2 h = some (r0, h0)) (t_k0 : kd k0 = (0, 12)) : Con E d K_X12_hadBy (ZI E r0 h0) [.ref k0, .int x1, .int x2] h := by
  obtain ⟨d, rfl⟩ : ∃ d', d = d' + 1 := ⟨d - 1, by omega⟩
  have hd := Nat.le_of_succ_le_succ hd
  refine Con.ofV rfl (Nat.le_of_ble_eq_true rfl) ?_
  unfold f_X12_hadBy at hf
  show V E (d + 1) K_X12_hadBy (ZI E r0 h0) h [(0, .ref k0), (1, .int x1), (2, .int x2)] [] 0
  refine V_iload_n 1 dX12_hadBy_0 rfl rfl ?_
  refine V_istore_n (L' := [(3, .int x1), (0, .ref k0), (1, .int x1), (2, .int x2)]) dX12_hadBy_1 rfl (Nat.le_of_ble_eq_true rfl) rfl rfl ?_
  refine V_iconst (v := 0) dX12_hadBy_2 (by decide) ?_
  refine V_istore (L' := [(4, .int 0), (3, .int x1), (0, .ref k0), (1, .int x1), (2, .int x2)]) dX12_hadBy_3 (Nat.le_of_ble_eq_true rfl) rfl rfl ?_
  refine V_sub [4, 1, 0] rfl ?_
  exact v_X12_hadBy_5 hd FU _ _ _ _ hf
theorem dX12_have_0 : decode cX12_have 0 = .ok (.iload_n 1, 1) := by decide +kernel
theorem dX12_have_1 : decode cX12_have 1 = .ok (.istore_n 2, 1) := by decide +kernel
theorem dX12_have_2 : decode cX12_have 2 = .ok (.iconst 0, 1) := by decide +kernel
theorem dX12_have_3 : decode cX12_have 3 = .ok (.istore_n 3, 1) := by decide +kernel
theorem dX12_have_4 : decode cX12_have 4 = .ok (.iload_n 3, 1) := by decide +kernel
theorem dX12_have_5 : decode cX12_have 5 = .ok (.aload_n 0, 1) := by decide +kernel
theorem dX12_have_6 : decode cX12_have 6 = .ok (.getfield 283, 3) := by decide +kernel
theorem dX12_have_9 : decode cX12_have 9 = .ok (.if_icmp .ge 37, 3) := by decide +kernel
theorem dX12_have_12 : decode cX12_have 12 = .ok (.aload_n 0, 1) := by decide +kernel
theorem dX12_have_13 : decode cX12_have 13 = .ok (.getfield 48, 3) := by decide +kernel
theorem dX12_have_16 : decode cX12_have 16 = .ok (.iload_n 3, 1) := by decide +kernel
theorem dX12_have_17 : decode cX12_have 17 = .ok (.aload_n 0, 1) := by decide +kernel
theorem dX12_have_18 : decode cX12_have 18 = .ok (.getfield 87, 3) := by decide +kernel
theorem dX12_have_21 : decode cX12_have 21 = .ok (.iload_n 3, 1) := by decide +kernel
theorem dX12_have_22 : decode cX12_have 22 = .ok (.iaload, 1) := by decide +kernel
theorem dX12_have_23 : decode cX12_have 23 = .ok (.bipush 10, 2) := by decide +kernel
theorem dX12_have_25 : decode cX12_have 25 = .ok (.if_icmp .le 12, 3) := by decide +kernel
theorem dX12_have_28 : decode cX12_have 28 = .ok (.aload_n 0, 1) := by decide +kernel
theorem dX12_have_29 : decode cX12_have 29 = .ok (.getfield 87, 3) := by decide +kernel
theorem dX12_have_32 : decode cX12_have 32 = .ok (.iload_n 3, 1) := by decide +kernel
theorem dX12_have_33 : decode cX12_have 33 = .ok (.iaload, 1) := by decide +kernel
theorem dX12_have_34 : decode cX12_have 34 = .ok (.goto 5, 3) := by decide +kernel
theorem dX12_have_37 : decode cX12_have 37 = .ok (.bipush 10, 2) := by decide +kernel
theorem dX12_have_39 : decode cX12_have 39 = .ok (.iastore, 1) := by decide +kernel
theorem dX12_have_40 : decode cX12_have 40 = .ok (.iinc 3 1, 3) := by decide +kernel
theorem dX12_have_43 : decode cX12_have 43 = .ok (.goto (-39), 3) := by decide +kernel
theorem dX12_have_46 : decode cX12_have 46 = .ok (.iconst 0, 1) := by decide +kernel
theorem dX12_have_47 : decode cX12_have 47 = .ok (.istore_n 3, 1) := by decide +kernel
theorem dX12_have_48 : decode cX12_have 48 = .ok (.iload_n 3, 1) := by decide +kernel
theorem dX12_have_49 : decode cX12_have 49 = .ok (.aload_n 0, 1) := by decide +kernel
theorem dX12_have_50 : decode cX12_have 50 = .ok (.getfield 283, 3) := by decide +kernel
theorem dX12_have_53 : decode cX12_have 53 = .ok (.if_icmp .ge 46, 3) := by decide +kernel
theorem dX12_have_56 : decode cX12_have 56 = .ok (.aload_n 0, 1) := by decide +kernel
theorem dX12_have_57 : decode cX12_have 57 = .ok (.getfield 45, 3) := by decide +kernel
theorem dX12_have_60 : decode cX12_have 60 = .ok (.iload_n 3, 1) := by decide +kernel
theorem dX12_have_61 : decode cX12_have 61 = .ok (.iload_n 2, 1) := by decide +kernel
theorem dX12_have_62 : decode cX12_have 62 = .ok (.iconst 5, 1) := by decide +kernel
theorem dX12_have_63 : decode cX12_have 63 = .ok (.irem, 1) := by decide +kernel
theorem dX12_have_64 : decode cX12_have 64 = .ok (.iconst 1, 1) := by decide +kernel
theorem dX12_have_65 : decode cX12_have 65 = .ok (.isub, 1) := by decide +kernel
theorem dX12_have_66 : decode cX12_have 66 = .ok (.iastore, 1) := by decide +kernel
theorem dX12_have_67 : decode cX12_have 67 = .ok (.iload_n 2, 1) := by decide +kernel
theorem dX12_have_68 : decode cX12_have 68 = .ok (.iconst 5, 1) := by decide +kernel
theorem dX12_have_69 : decode cX12_have 69 = .ok (.idiv, 1) := by decide +kernel
theorem dX12_have_70 : decode cX12_have 70 = .ok (.istore_n 2, 1) := by decide +kernel
theorem dX12_have_71 : decode cX12_have 71 = .ok (.aload_n 0, 1) := by decide +kernel
theorem dX12_have_72 : decode cX12_have 72 = .ok (.getfield 45, 3) := by decide +kernel
theorem dX12_have_75 : decode cX12_have 75 = .ok (.iload_n 3, 1) := by decide +kernel
theorem dX12_have_76 : decode cX12_have 76 = .ok (.iaload, 1) := by decide +kernel
theorem dX12_have_77 : decode cX12_have 77 = .ok (.iconst (-1), 1) := by decide +kernel
theorem dX12_have_78 : decode cX12_have 78 = .ok (.if_icmp .eq 15, 3) := by decide +kernel
theorem dX12_have_81 : decode cX12_have 81 = .ok (.aload_n 0, 1) := by decide +kernel
theorem dX12_have_82 : decode cX12_have 82 = .ok (.getfield 48, 3) := by decide +kernel
theorem dX12_have_85 : decode cX12_have 85 = .ok (.aload_n 0, 1) := by decide +kernel
theorem dX12_have_86 : decode cX12_have 86 = .ok (.getfield 45, 3) := by decide +kernel
theorem dX12_have_89 : decode cX12_have 89 = .ok (.iload_n 3, 1) := by decide +kernel
theorem dX12_have_90 : decode cX12_have 90 = .ok (.iaload, 1) := by decide +kernel
theorem dX12_have_91 : decode cX12_have 91 = .ok (.iload_n 3, 1) := by decide +kernel
theorem dX12_have_92 : decode cX12_have 92 = .ok (.iastore, 1) := by decide +kernel
theorem dX12_have_93 : decode cX12_have 93 = .ok (.iinc 3 1, 3) := by decide +kernel
theorem dX12_have_96 : decode cX12_have 96 = .ok (.goto (-48), 3) := by decide +kernel
theorem dX12_have_99 : decode cX12_have 99 = .ok (.return_, 1) := by decide +kernel
def f_X12_have_39 (q4 : Nat → Int32 → Int32 → AH → Option AH) (k0 : Nat) (x2 : Int32) (x3 : Int32) (s0 : Int32) (s1 : Int32) (sk2 : Nat) (h : AH) : Option AH :=
  og (ix s1 (an sk2)) <|
  nm (sI h sk2 s1.toNatClampNeg s0) fun h_2 =>
  nm (x3 + 1) fun x3_4 =>
  q4 k0 x2 x3_4 h_2
def f_X12_have_93 (q48 : Nat → Int32 → Int32 → AH → Option AH) (k0 : Nat) (x2 : Int32) (x3 : Int32) (h : AH) : Option AH :=
  nm (x3 + 1) fun x3_1 =>
  q48 k0 x2 x3_1 h
def f_X12_have_48 : Nat → Nat → Int32 → Int32 → AH → Option AH
  | 0, _, _, _, _ => none
  | n + 1, k0, x2, x3, h =>
    if (h.1 k0 20) ≤ x3 then (
      some h
    ) else (
      og (ix x3 (an (rf k0 22))) <|
      nm (sI h (rf k0 22) x3.toNatClampNeg ((jirem x2 5) - 1)) fun h_3 =>
      nm ((x2 / 5)) fun x2_5 =>
      og (ix x3 (an (rf k0 22))) <|
      if (h_3.1 (rf k0 22) x3.toNatClampNeg) = (-1) then (
        f_X12_have_93 (f_X12_have_48 n) k0 x2_5 x3 h_3
      ) else (
        og (ix x3 (an (rf k0 22))) <|
        og (ix (h_3.1 (rf k0 22) x3.toNatClampNeg) (an (rf k0 23))) <|
        nm (sI h_3 (rf k0 23) (h_3.1 (rf k0 22) x3.toNatClampNeg).toNatClampNeg x3) fun h_11 =>
        f_X12_have_93 (f_X12_have_48 n) k0 x2_5 x3 h_11
      )
    )
def f_X12_have_4 : Nat → Nat → Int32 → Int32 → AH → Option AH
  | 0, _, _, _, _ => none
  | n + 1, k0, x2, x3, h =>
    if (h.1 k0 20) ≤ x3 then (
      f_X12_have_48 FU k0 x2 0 h
    ) else (
      og (ix x3 (an (rf k0 41))) <|
      if (h.1 (rf k0 41) x3.toNatClampNeg) ≤ 10 then (
        f_X12_have_39 (f_X12_have_4 n) k0 x2 x3 10 x3 (rf k0 23) h
      ) else (
        og (ix x3 (an (rf k0 41))) <|
        f_X12_have_39 (f_X12_have_4 n) k0 x2 x3 (h.1 (rf k0 41) x3.toNatClampNeg) x3 (rf k0 23) h
      )
    )
def f_X12_have (k0 : Nat) (x1 : Int32) (h : AH) : Option AH :=
  f_X12_have_4 FU k0 x1 0 h
set_option maxHeartbeats 4000000 in
set_option maxRecDepth 100000 in
theorem v_X12_have_39 {E : EV} {d : Nat} (hd : 0 ≤ d) {h0 : AH} {q4 : Nat → Int32 → Int32 → AH → Option AH} (cq4 : ∀ (k0 : Nat) (x2 : Int32) (x3 : Int32) (h : AH), q4 k0 x2 x3 h = some h0 → kd k0 = (0, 12) → V E (d + 1) K_X12_have (ZV E h0) h [(0, .ref k0), (2, .int x2), (3, .int x3)] [] 4) {k0 : Nat} {x2 : Int32} {x3 : Int32} {s0 : Int32} {s1 : Int32} {sk2 : Nat} {h : AH} (hf : f_X12_have_39 q4 k0 x2 x3 s0 s1 sk2 h = some h0) (t_k0 : kd k0 = (0, 12)) (t_sk2 : (kd sk2).1 = 1) : V E (d + 1) K_X12_have (ZV E h0) h [(0, .ref k0), (2, .int x2), (3, .int x3)] [.int s0, .int s1, .ref sk2] 39 := by
  unfold f_X12_have_39 at hf
  obtain ⟨b_1, hf⟩ := og_s hf
  obtain ⟨h_2, e_3, hf⟩ := nm_s hf
  refine V_iast t_sk2 b_1 e_3 dX12_have_39 ?_
  obtain ⟨x3_4, e_5, hf⟩ := nm_s hf
  refine V_iinc (a := 1) (L' := [(3, .int x3_4), (0, .ref k0), (2, .int x2)]) 2 dX12_have_40 rfl (by decide) (Nat.le_of_ble_eq_true rfl) e_5 rfl ?_
  refine V_goto (tgt := 4) dX12_have_43 (by decide) ?_
  refine V_sub [1, 2, 0] rfl ?_
  exact cq4 _ _ _ _ hf t_k0
set_option maxHeartbeats 4000000 in
set_option maxRecDepth 100000 in
theorem v_X12_have_93 {E : EV} {d : Nat} (hd : 0 ≤ d) {h0 : AH} {q48 : Nat → Int32 → Int32 → AH → Option AH} (cq48 : ∀ (k0 : Nat) (x2 : Int32) (x3 : Int32) (h : AH), q48 k0 x2 x3 h = some h0 → kd k0 = (0, 12) → V E (d + 1) K_X12_have (ZV E h0) h [(0, .ref k0), (2, .int x2), (3, .int x3)] [] 48) {k0 : Nat} {x2 : Int32} {x3 : Int32} {h : AH} (hf : f_X12_have_93 q48 k0 x2 x3 h = some h0) (t_k0 : kd k0 = (0, 12)) : V E (d + 1) K_X12_have (ZV E h0) h [(0, .ref k0), (2, .int x2), (3, .int x3)] [] 93 := by
  unfold f_X12_have_93 at hf
  obtain ⟨x3_1, e_2, hf⟩ := nm_s hf
  refine V_iinc (a := 1) (L' := [(3, .int x3_1), (0, .ref k0), (2, .int x2)]) 2 dX12_have_93 rfl (by decide) (Nat.le_of_ble_eq_true rfl) e_2 rfl ?_
  refine V_goto (tgt := 48) dX12_have_96 (by decide) ?_
  refine V_sub [1, 2, 0] rfl ?_
  exact cq48 _ _ _ _ hf t_k0
set_option maxHeartbeats 4000000 in
set_option maxRecDepth 100000 in
theorem v_X12_have_48 {E : EV} {d : Nat} (hd : 0 ≤ d) {h0 : AH} : ∀ (n : Nat) (k0 : Nat) (x2 : Int32) (x3 : Int32) (h : AH), f_X12_have_48 n k0 x2 x3 h = some h0 → kd k0 = (0, 12) → V E (d + 1) K_X12_have (ZV E h0) h [(0, .ref k0), (2, .int x2), (3, .int x3)] [] 48 := by
  intro n
  induction n with
  | zero =>
    intro k0 x2 x3 h hf
    rw [f_X12_have_48] at hf
    cases hf
  | succ n ih =>
    intro k0 x2 x3 h hf t_k0
    rw [f_X12_have_48] at hf
    refine V_iload_n 2 dX12_have_48 rfl rfl ?_
    refine V_aload_n 0 dX12_have_49 rfl rfl ?_
    refine V_getI F_X12_283 rfl t_k0 rfl dX12_have_50 ?_
    refine V_ic_ge (tgt := 99) dX12_have_53 (by decide) (fun c_1 => ?_) (fun c_1 => ?_)
    · have hf := it_s c_1 hf
      exact V_vret rfl (so_s hf) dX12_have_99
    · have hf := if_s c_1 hf
      refine V_aload_n 0 dX12_have_56 rfl rfl ?_
      refine V_getR F_X12_45 rfl t_k0 rfl dX12_have_57 ?_
      refine V_iload_n 2 dX12_have_60 rfl rfl ?_
      refine V_iload_n 1 dX12_have_61 rfl rfl ?_
      refine V_iconst (v := 5) dX12_have_62 (by decide) ?_
      refine V_irem dX12_have_63 (by decide) ?_
      refine V_iconst (v := 1) dX12_have_64 (by decide) ?_
      refine V_isub dX12_have_65 ?_
      obtain ⟨b_2, hf⟩ := og_s hf
      obtain ⟨h_3, e_4, hf⟩ := nm_s hf
      refine V_iast (rfA t_k0 (Nat.le_of_ble_eq_true rfl) rfl rfl (by decide)) b_2 e_4 dX12_have_66 ?_
      refine V_iload_n 1 dX12_have_67 rfl rfl ?_
      refine V_iconst (v := 5) dX12_have_68 (by decide) ?_
      refine V_idiv dX12_have_69 (by decide) ?_
      obtain ⟨x2_5, e_6, hf⟩ := nm_s hf
      refine V_istore_n (L' := [(2, .int x2_5), (0, .ref k0), (3, .int x3)]) dX12_have_70 rfl (Nat.le_of_ble_eq_true rfl) e_6 rfl ?_
      refine V_aload_n 1 dX12_have_71 rfl rfl ?_
      refine V_getR F_X12_45 rfl t_k0 rfl dX12_have_72 ?_
      refine V_iload_n 2 dX12_have_75 rfl rfl ?_
      obtain ⟨b_7, hf⟩ := og_s hf
      refine V_iald (rfA t_k0 (Nat.le_of_ble_eq_true rfl) rfl rfl (by decide)) b_7 dX12_have_76 ?_
      refine V_iconst (v := (-1)) dX12_have_77 (by decide) ?_
      refine V_ic_eq (tgt := 93) dX12_have_78 (by decide) (fun c_8 => ?_) (fun c_8 => ?_)
      · have hf := it_s c_8 hf
        refine V_sub [1, 0, 2] rfl ?_
        exact v_X12_have_93 hd ih hf t_k0
      · have hf := if_s c_8 hf
        refine V_aload_n 1 dX12_have_81 rfl rfl ?_
        refine V_getR F_X12_48 rfl t_k0 rfl dX12_have_82 ?_
        refine V_aload_n 1 dX12_have_85 rfl rfl ?_
        refine V_getR F_X12_45 rfl t_k0 rfl dX12_have_86 ?_
        refine V_iload_n 2 dX12_have_89 rfl rfl ?_
        obtain ⟨b_9, hf⟩ := og_s hf
        refine V_iald (rfA t_k0 (Nat.le_of_ble_eq_true rfl) rfl rfl (by decide)) b_9 dX12_have_90 ?_
        refine V_iload_n 2 dX12_have_91 rfl rfl ?_
        obtain ⟨b_10, hf⟩ := og_s hf
        obtain ⟨h_11, e_12, hf⟩ := nm_s hf
        refine V_iast (rfA t_k0 (Nat.le_of_ble_eq_true rfl) rfl rfl (by decide)) b_10 e_12 dX12_have_92 ?_
        refine V_sub [1, 0, 2] rfl ?_
        exact v_X12_have_93 hd ih hf t_k0
set_option maxHeartbeats 4000000 in
set_option maxRecDepth 100000 in
theorem v_X12_have_4 {E : EV} {d : Nat} (hd : 0 ≤ d) {h0 : AH} : ∀ (n : Nat) (k0 : Nat) (x2 : Int32) (x3 : Int32) (h : AH), f_X12_have_4 n k0 x2 x3 h = some h0 → kd k0 = (0, 12) → V E (d + 1) K_X12_have (ZV E h0) h [(0, .ref k0), (2, .int x2), (3, .int x3)] [] 4 := by
  intro n
  induction n with
  | zero =>
    intro k0 x2 x3 h hf
    rw [f_X12_have_4] at hf
    cases hf
  | succ n ih =>
    intro k0 x2 x3 h hf t_k0
    rw [f_X12_have_4] at hf
    refine V_iload_n 2 dX12_have_4 rfl rfl ?_
    refine V_aload_n 0 dX12_have_5 rfl rfl ?_
    refine V_getI F_X12_283 rfl t_k0 rfl dX12_have_6 ?_
    refine V_ic_ge (tgt := 46) dX12_have_9 (by decide) (fun c_1 => ?_) (fun c_1 => ?_)
    · have hf := it_s c_1 hf
      refine V_iconst (v := 0) dX12_have_46 (by decide) ?_
      refine V_istore_n (L' := [(3, .int 0), (0, .ref k0), (2, .int x2)]) dX12_have_47 rfl (Nat.le_of_ble_eq_true rfl) rfl rfl ?_
      refine V_sub [1, 2, 0] rfl ?_
      exact v_X12_have_48 hd FU _ _ _ _ hf t_k0
    · have hf := if_s c_1 hf
      refine V_aload_n 0 dX12_have_12 rfl rfl ?_
      refine V_getR F_X12_48 rfl t_k0 rfl dX12_have_13 ?_
      refine V_iload_n 2 dX12_have_16 rfl rfl ?_
      refine V_aload_n 0 dX12_have_17 rfl rfl ?_
      refine V_getR F_X12_87 rfl t_k0 rfl dX12_have_18 ?_
      refine V_iload_n 2 dX12_have_21 rfl rfl ?_
      obtain ⟨b_2, hf⟩ := og_s hf
      refine V_iald (rfA t_k0 (Nat.le_of_ble_eq_true rfl) rfl rfl (by decide)) b_2 dX12_have_22 ?_
      refine V_bipush (v := 10) dX12_have_23 (by decide) ?_
      refine V_ic_le (tgt := 37) dX12_have_25 (by decide) (fun c_3 => ?_) (fun c_3 => ?_)
      · have hf := it_s c_3 hf
        refine V_bipush (v := 10) dX12_have_37 (by decide) ?_
        exact v_X12_have_39 hd ih hf t_k0 (rfA t_k0 (Nat.le_of_ble_eq_true rfl) rfl rfl (by decide))
      · have hf := if_s c_3 hf
        refine V_aload_n 0 dX12_have_28 rfl rfl ?_
        refine V_getR F_X12_87 rfl t_k0 rfl dX12_have_29 ?_
        refine V_iload_n 2 dX12_have_32 rfl rfl ?_
        obtain ⟨b_4, hf⟩ := og_s hf
        refine V_iald (rfA t_k0 (Nat.le_of_ble_eq_true rfl) rfl rfl (by decide)) b_4 dX12_have_33 ?_
        refine V_goto (tgt := 39) dX12_have_34 (by decide) ?_
        exact v_X12_have_39 hd ih hf t_k0 (rfA t_k0 (Nat.le_of_ble_eq_true rfl) rfl rfl (by decide))
set_option maxHeartbeats 4000000 in
set_option maxRecDepth 100000 in
theorem c_X12_have {E : EV} {d : Nat} (hd : 0 + 1 ≤ d) {k0 : Nat} {x1 : Int32} {h : AH} {h0 : AH} (hf : f_X12_have k0 x1 h = some h0) (t_k0 : kd k0 = (0, 12)) : Con E d K_X12_have (ZV E h0) [.ref k0, .int x1] h := by
  obtain ⟨d, rfl⟩ : ∃ d', d = d' + 1 := ⟨d - 1, by omega⟩
  have hd := Nat.le_of_succ_le_succ hd
  refine Con.ofV rfl (Nat.le_of_ble_eq_true rfl) ?_
  unfold f_X12_have at hf
  show V E (d + 1) K_X12_have (ZV E h0) h [(0, .ref k0), (1, .int x1)] [] 0
  refine V_iload_n 1 dX12_have_0 rfl rfl ?_
  refine V_istore_n (L' := [(2, .int x1), (0, .ref k0), (1, .int x1)]) dX12_have_1 rfl (Nat.le_of_ble_eq_true rfl) rfl rfl ?_
  refine V_iconst (v := 0) dX12_have_2 (by decide) ?_
  refine V_istore_n (L' := [(3, .int 0), (2, .int x1), (0, .ref k0), (1, .int x1)]) dX12_have_3 rfl (Nat.le_of_ble_eq_true rfl) rfl rfl ?_
  refine V_sub [2, 1, 0] rfl ?_
  exact v_X12_have_4 hd FU _ _ _ _ hf t_k0
theorem dX12_doorOf_0 : decode cX12_doorOf 0 = .ok (.iconst 0, 1) := by decide +kernel
theorem dX12_doorOf_1 : decode cX12_doorOf 1 = .ok (.istore_n 3, 1) := by decide +kernel
theorem dX12_doorOf_2 : decode cX12_doorOf 2 = .ok (.iconst 0, 1) := by decide +kernel
theorem dX12_doorOf_3 : decode cX12_doorOf 3 = .ok (.istore 4, 2) := by decide +kernel
theorem dX12_doorOf_5 : decode cX12_doorOf 5 = .ok (.iload 4, 2) := by decide +kernel
theorem dX12_doorOf_7 : decode cX12_doorOf 7 = .ok (.aload_n 0, 1) := by decide +kernel
theorem dX12_doorOf_8 : decode cX12_doorOf 8 = .ok (.getfield 283, 3) := by decide +kernel
theorem dX12_doorOf_11 : decode cX12_doorOf 11 = .ok (.if_icmp .ge 56, 3) := by decide +kernel
theorem dX12_doorOf_14 : decode cX12_doorOf 14 = .ok (.aload_n 0, 1) := by decide +kernel
theorem dX12_doorOf_15 : decode cX12_doorOf 15 = .ok (.getfield 48, 3) := by decide +kernel
theorem dX12_doorOf_18 : decode cX12_doorOf 18 = .ok (.iload 4, 2) := by decide +kernel
theorem dX12_doorOf_20 : decode cX12_doorOf 20 = .ok (.iaload, 1) := by decide +kernel
theorem dX12_doorOf_21 : decode cX12_doorOf 21 = .ok (.bipush 10, 2) := by decide +kernel
theorem dX12_doorOf_23 : decode cX12_doorOf 23 = .ok (.iload_n 1, 1) := by decide +kernel
theorem dX12_doorOf_24 : decode cX12_doorOf 24 = .ok (.iadd, 1) := by decide +kernel
theorem dX12_doorOf_25 : decode cX12_doorOf 25 = .ok (.if_icmp .eq 29, 3) := by decide +kernel
theorem dX12_doorOf_28 : decode cX12_doorOf 28 = .ok (.aload_n 0, 1) := by decide +kernel
theorem dX12_doorOf_29 : decode cX12_doorOf 29 = .ok (.getfield 48, 3) := by decide +kernel
theorem dX12_doorOf_32 : decode cX12_doorOf 32 = .ok (.iload 4, 2) := by decide +kernel
theorem dX12_doorOf_34 : decode cX12_doorOf 34 = .ok (.iaload, 1) := by decide +kernel
theorem dX12_doorOf_35 : decode cX12_doorOf 35 = .ok (.bipush 10, 2) := by decide +kernel
theorem dX12_doorOf_37 : decode cX12_doorOf 37 = .ok (.if_icmp .ge 24, 3) := by decide +kernel
theorem dX12_doorOf_40 : decode cX12_doorOf 40 = .ok (.iload_n 2, 1) := by decide +kernel
theorem dX12_doorOf_41 : decode cX12_doorOf 41 = .ok (.aload_n 0, 1) := by decide +kernel
theorem dX12_doorOf_42 : decode cX12_doorOf 42 = .ok (.getfield 48, 3) := by decide +kernel
theorem dX12_doorOf_45 : decode cX12_doorOf 45 = .ok (.iload 4, 2) := by decide +kernel
theorem dX12_doorOf_47 : decode cX12_doorOf 47 = .ok (.iaload, 1) := by decide +kernel
theorem dX12_doorOf_48 : decode cX12_doorOf 48 = .ok (.invokestatic 258, 3) := by decide +kernel
theorem dX12_doorOf_51 : decode cX12_doorOf 51 = .ok (.ifCond .eq 10, 3) := by decide +kernel
theorem dX12_doorOf_54 : decode cX12_doorOf 54 = .ok (.iload_n 3, 1) := by decide +kernel
theorem dX12_doorOf_55 : decode cX12_doorOf 55 = .ok (.iconst 1, 1) := by decide +kernel
theorem dX12_doorOf_56 : decode cX12_doorOf 56 = .ok (.iload 4, 2) := by decide +kernel
theorem dX12_doorOf_58 : decode cX12_doorOf 58 = .ok (.ishl, 1) := by decide +kernel
theorem dX12_doorOf_59 : decode cX12_doorOf 59 = .ok (.ior, 1) := by decide +kernel
theorem dX12_doorOf_60 : decode cX12_doorOf 60 = .ok (.istore_n 3, 1) := by decide +kernel
theorem dX12_doorOf_61 : decode cX12_doorOf 61 = .ok (.iinc 4 1, 3) := by decide +kernel
theorem dX12_doorOf_64 : decode cX12_doorOf 64 = .ok (.goto (-59), 3) := by decide +kernel
theorem dX12_doorOf_67 : decode cX12_doorOf 67 = .ok (.iload_n 3, 1) := by decide +kernel
theorem dX12_doorOf_68 : decode cX12_doorOf 68 = .ok (.ireturn, 1) := by decide +kernel
def f_X12_doorOf_61 (q5 : Nat → Int32 → Int32 → Int32 → Int32 → AH → Option (Int32 × AH)) (k0 : Nat) (x1 : Int32) (x2 : Int32) (x3 : Int32) (x4 : Int32) (h : AH) : Option (Int32 × AH) :=
  nm (x4 + 1) fun x4_1 =>
  q5 k0 x1 x2 x3 x4_1 h
def f_X12_doorOf_54 (q5 : Nat → Int32 → Int32 → Int32 → Int32 → AH → Option (Int32 × AH)) (k0 : Nat) (x1 : Int32) (x2 : Int32) (x3 : Int32) (x4 : Int32) (h : AH) : Option (Int32 × AH) :=
  nm ((x3 ||| ((1 : Int32) <<< (x4 &&& 31)))) fun x3_1 =>
  f_X12_doorOf_61 q5 k0 x1 x2 x3_1 x4 h
def f_X12_doorOf_5 : Nat → Nat → Int32 → Int32 → Int32 → Int32 → AH → Option (Int32 × AH)
  | 0, _, _, _, _, _, _ => none
  | n + 1, k0, x1, x2, x3, x4, h =>
    if (h.1 k0 20) ≤ x4 then (
      some (x3, h)
    ) else (
      og (ix x4 (an (rf k0 23))) <|
      if (h.1 (rf k0 23) x4.toNatClampNeg) = (10 + x1) then (
        f_X12_doorOf_54 (f_X12_doorOf_5 n) k0 x1 x2 x3 x4 h
      ) else (
        og (ix x4 (an (rf k0 23))) <|
        if 10 ≤ (h.1 (rf k0 23) x4.toNatClampNeg) then (
          f_X12_doorOf_61 (f_X12_doorOf_5 n) k0 x1 x2 x3 x4 h
        ) else (
          og (ix x4 (an (rf k0 23))) <|
          ob (f_X12_has x2 (h.1 (rf k0 23) x4.toNatClampNeg) h) fun r_9 h_8 =>
          if r_9 = 0 then (
            f_X12_doorOf_61 (f_X12_doorOf_5 n) k0 x1 x2 x3 x4 h_8
          ) else (
            f_X12_doorOf_54 (f_X12_doorOf_5 n) k0 x1 x2 x3 x4 h_8
          )
        )
      )
    )
def f_X12_doorOf (k0 : Nat) (x1 : Int32) (x2 : Int32) (h : AH) : Option (Int32 × AH) :=
  f_X12_doorOf_5 FU k0 x1 x2 0 0 h
set_option maxHeartbeats 4000000 in
set_option maxRecDepth 100000 in
theorem v_X12_doorOf_61 {E : EV} {d : Nat} (hd : 1 ≤ d) {r0 : Int32} {h0 : AH} {q5 : Nat → Int32 → Int32 → Int32 → Int32 → AH → Option (Int32 × AH)} (cq5 : ∀ (k0 : Nat) (x1 : Int32) (x2 : Int32) (x3 : Int32) (x4 : Int32) (h : AH), q5 k0 x1 x2 x3 x4 h = some (r0, h0) → kd k0 = (0, 12) → V E (d + 1) K_X12_doorOf (ZI E r0 h0) h [(0, .ref k0), (1, .int x1), (2, .int x2), (3, .int x3), (4, .int x4)] [] 5) {k0 : Nat} {x1 : Int32} {x2 : Int32} {x3 : Int32} {x4 : Int32} {h : AH} (hf : f_X12_doorOf_61 q5 k0 x1 x2 x3 x4 h = some (r0, h0)) (t_k0 : kd k0 = (0, 12)) : V E (d + 1) K_X12_doorOf (ZI E r0 h0) h [(0, .ref k0), (1, .int x1), (2, .int x2), (3, .int x3), (4, .int x4)] [] 61 := by
  unfold f_X12_doorOf_61 at hf
  obtain ⟨x4_1, e_2, hf⟩ := nm_s hf
  refine V_iinc (a := 1) (L' := [(4, .int x4_1), (0, .ref k0), (1, .int x1), (2, .int x2), (3, .int x3)]) 4 dX12_doorOf_61 rfl (by decide) (Nat.le_of_ble_eq_true rfl) e_2 rfl ?_
  refine V_goto (tgt := 5) dX12_doorOf_64 (by decide) ?_
  refine V_sub [1, 2, 3, 4, 0] rfl ?_
  exact cq5 _ _ _ _ _ _ hf t_k0
set_option maxHeartbeats 4000000 in
set_option maxRecDepth 100000 in
theorem v_X12_doorOf_54 {E : EV} {d : Nat} (hd : 1 ≤ d) {r0 : Int32} {h0 : AH} {q5 : Nat → Int32 → Int32 → Int32 → Int32 → AH → Option (Int32 × AH)} (cq5 : ∀ (k0 : Nat) (x1 : Int32) (x2 : Int32) (x3 : Int32) (x4 : Int32) (h : AH), q5 k0 x1 x2 x3 x4 h = some (r0, h0) → kd k0 = (0, 12) → V E (d + 1) K_X12_doorOf (ZI E r0 h0) h [(0, .ref k0), (1, .int x1), (2, .int x2), (3, .int x3), (4, .int x4)] [] 5) {k0 : Nat} {x1 : Int32} {x2 : Int32} {x3 : Int32} {x4 : Int32} {h : AH} (hf : f_X12_doorOf_54 q5 k0 x1 x2 x3 x4 h = some (r0, h0)) (t_k0 : kd k0 = (0, 12)) : V E (d + 1) K_X12_doorOf (ZI E r0 h0) h [(0, .ref k0), (1, .int x1), (2, .int x2), (3, .int x3), (4, .int x4)] [] 54 := by
  unfold f_X12_doorOf_54 at hf
  refine V_iload_n 3 dX12_doorOf_54 rfl rfl ?_
  refine V_iconst (v := 1) dX12_doorOf_55 (by decide) ?_
  refine V_iload 4 dX12_doorOf_56 rfl ?_
  refine V_ishl dX12_doorOf_58 ?_
  refine V_ior dX12_doorOf_59 ?_
  obtain ⟨x3_1, e_2, hf⟩ := nm_s hf
  refine V_istore_n (L' := [(3, .int x3_1), (0, .ref k0), (1, .int x1), (2, .int x2), (4, .int x4)]) dX12_doorOf_60 rfl (Nat.le_of_ble_eq_true rfl) e_2 rfl ?_
  refine V_sub [1, 2, 3, 0, 4] rfl ?_
  exact v_X12_doorOf_61 hd cq5 hf t_k0
set_option maxHeartbeats 4000000 in
set_option maxRecDepth 100000 in
theorem v_X12_doorOf_5 {E : EV} {d : Nat} (hd : 1 ≤ d) {r0 : Int32} {h0 : AH} : ∀ (n : Nat) (k0 : Nat) (x1 : Int32) (x2 : Int32) (x3 : Int32) (x4 : Int32) (h : AH), f_X12_doorOf_5 n k0 x1 x2 x3 x4 h = some (r0, h0) → kd k0 = (0, 12) → V E (d + 1) K_X12_doorOf (ZI E r0 h0) h [(0, .ref k0), (1, .int x1), (2, .int x2), (3, .int x3), (4, .int x4)] [] 5 := by
  intro n
  induction n with
  | zero =>
    intro k0 x1 x2 x3 x4 h hf
    rw [f_X12_doorOf_5] at hf
    cases hf
  | succ n ih =>
    intro k0 x1 x2 x3 x4 h hf t_k0
    rw [f_X12_doorOf_5] at hf
    refine V_iload 4 dX12_doorOf_5 rfl ?_
    refine V_aload_n 0 dX12_doorOf_7 rfl rfl ?_
    refine V_getI F_X12_283 rfl t_k0 rfl dX12_doorOf_8 ?_
    refine V_ic_ge (tgt := 67) dX12_doorOf_11 (by decide) (fun c_1 => ?_) (fun c_1 => ?_)
    · have hf := it_s c_1 hf
      refine V_iload_n 3 dX12_doorOf_67 rfl rfl ?_
      exact V_iret rfl (so_s hf) dX12_doorOf_68
    · have hf := if_s c_1 hf
      refine V_aload_n 0 dX12_doorOf_14 rfl rfl ?_
      refine V_getR F_X12_48 rfl t_k0 rfl dX12_doorOf_15 ?_
      refine V_iload 4 dX12_doorOf_18 rfl ?_
      obtain ⟨b_2, hf⟩ := og_s hf
      refine V_iald (rfA t_k0 (Nat.le_of_ble_eq_true rfl) rfl rfl (by decide)) b_2 dX12_doorOf_20 ?_
      refine V_bipush (v := 10) dX12_doorOf_21 (by decide) ?_
      refine V_iload_n 1 dX12_doorOf_23 rfl rfl ?_
      refine V_iadd dX12_doorOf_24 ?_
      refine V_ic_eq (tgt := 54) dX12_doorOf_25 (by decide) (fun c_3 => ?_) (fun c_3 => ?_)
      · have hf := it_s c_3 hf
        exact v_X12_doorOf_54 hd ih hf t_k0
      · have hf := if_s c_3 hf
        refine V_aload_n 0 dX12_doorOf_28 rfl rfl ?_
        refine V_getR F_X12_48 rfl t_k0 rfl dX12_doorOf_29 ?_
        refine V_iload 4 dX12_doorOf_32 rfl ?_
        obtain ⟨b_4, hf⟩ := og_s hf
        refine V_iald (rfA t_k0 (Nat.le_of_ble_eq_true rfl) rfl rfl (by decide)) b_4 dX12_doorOf_34 ?_
        refine V_bipush (v := 10) dX12_doorOf_35 (by decide) ?_
        refine V_ic_ge (tgt := 61) dX12_doorOf_37 (by decide) (fun c_5 => ?_) (fun c_5 => ?_)
        · have hf := it_s c_5 hf
          exact v_X12_doorOf_61 hd ih hf t_k0
        · have hf := if_s c_5 hf
          refine V_iload_n 2 dX12_doorOf_40 rfl rfl ?_
          refine V_aload_n 0 dX12_doorOf_41 rfl rfl ?_
          refine V_getR F_X12_48 rfl t_k0 rfl dX12_doorOf_42 ?_
          refine V_iload 4 dX12_doorOf_45 rfl ?_
          obtain ⟨b_6, hf⟩ := og_s hf
          refine V_iald (rfA t_k0 (Nat.le_of_ble_eq_true rfl) rfl rfl (by decide)) b_6 dX12_doorOf_47 ?_
          obtain ⟨r_9, h_8, e_7, hf⟩ := ob_s hf
          refine V_csi (As := [.int x2, .int (h.1 (rf k0 23) x4.toNatClampNeg)]) (rest := []) (c_X12_has (d := d) (Nat.le_trans (Nat.le_of_ble_eq_true rfl) hd) e_7) ML_X12_258 MS_X12_has rfl rfl rfl (Nat.le_of_ble_eq_true rfl) dX12_doorOf_48 ?_
          refine V_if_eq (tgt := 61) dX12_doorOf_51 (by decide) (fun c_10 => ?_) (fun c_10 => ?_)
          · have hf := it_s c_10 hf
            exact v_X12_doorOf_61 hd ih hf t_k0
          · have hf := if_s c_10 hf
            exact v_X12_doorOf_54 hd ih hf t_k0
set_option maxHeartbeats 4000000 in
set_option maxRecDepth 100000 in
theorem c_X12_doorOf {E : EV} {d : Nat} (hd : 1 + 1 ≤ d) {k0 : Nat} {x1 : Int32} {x2 : Int32} {h : AH} {r0 : Int32} {h0 : AH} (hf : f_X12_doorOf k0 x1 x2 h = some (r0, h0)) (t_k0 : kd k0 = (0, 12)) : Con E d K_X12_doorOf (ZI E r0 h0) [.ref k0, .int x1, .int x2] h := by
  obtain ⟨d, rfl⟩ : ∃ d', d = d' + 1 := ⟨d - 1, by omega⟩
  have hd := Nat.le_of_succ_le_succ hd
  refine Con.ofV rfl (Nat.le_of_ble_eq_true rfl) ?_
  unfold f_X12_doorOf at hf
  show V E (d + 1) K_X12_doorOf (ZI E r0 h0) h [(0, .ref k0), (1, .int x1), (2, .int x2)] [] 0
  refine V_iconst (v := 0) dX12_doorOf_0 (by decide) ?_
  refine V_istore_n (L' := [(3, .int 0), (0, .ref k0), (1, .int x1), (2, .int x2)]) dX12_doorOf_1 rfl (Nat.le_of_ble_eq_true rfl) rfl rfl ?_
  refine V_iconst (v := 0) dX12_doorOf_2 (by decide) ?_
  refine V_istore (L' := [(4, .int 0), (3, .int 0), (0, .ref k0), (1, .int x1), (2, .int x2)]) dX12_doorOf_3 (Nat.le_of_ble_eq_true rfl) rfl rfl ?_
  refine V_sub [2, 3, 4, 1, 0] rfl ?_
  exact v_X12_doorOf_5 hd FU _ _ _ _ _ _ hf t_k0
theorem dX12_layOrder_0 : decode cX12_layOrder 0 = .ok (.aload_n 0, 1) := by decide +kernel
theorem dX12_layOrder_1 : decode cX12_layOrder 1 = .ok (.iload_n 1, 1) := by decide +kernel
theorem dX12_layOrder_2 : decode cX12_layOrder 2 = .ok (.invokestatic 309, 3) := by decide +kernel
theorem dX12_layOrder_5 : decode cX12_layOrder 5 = .ok (.putfield 321, 3) := by decide +kernel
theorem dX12_layOrder_8 : decode cX12_layOrder 8 = .ok (.iload_n 2, 1) := by decide +kernel
theorem dX12_layOrder_9 : decode cX12_layOrder 9 = .ok (.istore_n 3, 1) := by decide +kernel
theorem dX12_layOrder_10 : decode cX12_layOrder 10 = .ok (.iconst 0, 1) := by decide +kernel
theorem dX12_layOrder_11 : decode cX12_layOrder 11 = .ok (.istore 4, 2) := by decide +kernel
theorem dX12_layOrder_13 : decode cX12_layOrder 13 = .ok (.aload_n 0, 1) := by decide +kernel
theorem dX12_layOrder_14 : decode cX12_layOrder 14 = .ok (.getfield 321, 3) := by decide +kernel
theorem dX12_layOrder_17 : decode cX12_layOrder 17 = .ok (.iconst 1, 1) := by decide +kernel
theorem dX12_layOrder_18 : decode cX12_layOrder 18 = .ok (.isub, 1) := by decide +kernel
theorem dX12_layOrder_19 : decode cX12_layOrder 19 = .ok (.istore 5, 2) := by decide +kernel
theorem dX12_layOrder_21 : decode cX12_layOrder 21 = .ok (.iload 5, 2) := by decide +kernel
theorem dX12_layOrder_23 : decode cX12_layOrder 23 = .ok (.ifCond .lt 98, 3) := by decide +kernel
theorem dX12_layOrder_26 : decode cX12_layOrder 26 = .ok (.aload_n 0, 1) := by decide +kernel
theorem dX12_layOrder_27 : decode cX12_layOrder 27 = .ok (.getfield 60, 3) := by decide +kernel
theorem dX12_layOrder_30 : decode cX12_layOrder 30 = .ok (.iload 5, 2) := by decide +kernel
theorem dX12_layOrder_32 : decode cX12_layOrder 32 = .ok (.iload_n 3, 1) := by decide +kernel
theorem dX12_layOrder_33 : decode cX12_layOrder 33 = .ok (.bipush 10, 2) := by decide +kernel
theorem dX12_layOrder_35 : decode cX12_layOrder 35 = .ok (.irem, 1) := by decide +kernel
theorem dX12_layOrder_36 : decode cX12_layOrder 36 = .ok (.iastore, 1) := by decide +kernel
theorem dX12_layOrder_37 : decode cX12_layOrder 37 = .ok (.iload_n 3, 1) := by decide +kernel
theorem dX12_layOrder_38 : decode cX12_layOrder 38 = .ok (.bipush 10, 2) := by decide +kernel
theorem dX12_layOrder_40 : decode cX12_layOrder 40 = .ok (.idiv, 1) := by decide +kernel
theorem dX12_layOrder_41 : decode cX12_layOrder 41 = .ok (.istore_n 3, 1) := by decide +kernel
theorem dX12_layOrder_42 : decode cX12_layOrder 42 = .ok (.iload_n 3, 1) := by decide +kernel
theorem dX12_layOrder_43 : decode cX12_layOrder 43 = .ok (.ifCond .lt 56, 3) := by decide +kernel
theorem dX12_layOrder_46 : decode cX12_layOrder 46 = .ok (.aload_n 0, 1) := by decide +kernel
theorem dX12_layOrder_47 : decode cX12_layOrder 47 = .ok (.getfield 60, 3) := by decide +kernel
theorem dX12_layOrder_50 : decode cX12_layOrder 50 = .ok (.iload 5, 2) := by decide +kernel
theorem dX12_layOrder_52 : decode cX12_layOrder 52 = .ok (.iaload, 1) := by decide +kernel
theorem dX12_layOrder_53 : decode cX12_layOrder 53 = .ok (.ifCond .lt 46, 3) := by decide +kernel
theorem dX12_layOrder_56 : decode cX12_layOrder 56 = .ok (.aload_n 0, 1) := by decide +kernel
theorem dX12_layOrder_57 : decode cX12_layOrder 57 = .ok (.getfield 60, 3) := by decide +kernel
theorem dX12_layOrder_60 : decode cX12_layOrder 60 = .ok (.iload 5, 2) := by decide +kernel
theorem dX12_layOrder_62 : decode cX12_layOrder 62 = .ok (.iaload, 1) := by decide +kernel
theorem dX12_layOrder_63 : decode cX12_layOrder 63 = .ok (.aload_n 0, 1) := by decide +kernel
theorem dX12_layOrder_64 : decode cX12_layOrder 64 = .ok (.getfield 283, 3) := by decide +kernel
theorem dX12_layOrder_67 : decode cX12_layOrder 67 = .ok (.if_icmp .ge 32, 3) := by decide +kernel
theorem dX12_layOrder_70 : decode cX12_layOrder 70 = .ok (.iload_n 1, 1) := by decide +kernel
theorem dX12_layOrder_71 : decode cX12_layOrder 71 = .ok (.aload_n 0, 1) := by decide +kernel
theorem dX12_layOrder_72 : decode cX12_layOrder 72 = .ok (.getfield 60, 3) := by decide +kernel
theorem dX12_layOrder_75 : decode cX12_layOrder 75 = .ok (.iload 5, 2) := by decide +kernel
theorem dX12_layOrder_77 : decode cX12_layOrder 77 = .ok (.iaload, 1) := by decide +kernel
theorem dX12_layOrder_78 : decode cX12_layOrder 78 = .ok (.invokestatic 258, 3) := by decide +kernel
theorem dX12_layOrder_81 : decode cX12_layOrder 81 = .ok (.ifCond .eq 18, 3) := by decide +kernel
theorem dX12_layOrder_84 : decode cX12_layOrder 84 = .ok (.iload 4, 2) := by decide +kernel
theorem dX12_layOrder_86 : decode cX12_layOrder 86 = .ok (.aload_n 0, 1) := by decide +kernel
theorem dX12_layOrder_87 : decode cX12_layOrder 87 = .ok (.getfield 60, 3) := by decide +kernel
theorem dX12_layOrder_90 : decode cX12_layOrder 90 = .ok (.iload 5, 2) := by decide +kernel
theorem dX12_layOrder_92 : decode cX12_layOrder 92 = .ok (.iaload, 1) := by decide +kernel
theorem dX12_layOrder_93 : decode cX12_layOrder 93 = .ok (.invokestatic 258, 3) := by decide +kernel
theorem dX12_layOrder_96 : decode cX12_layOrder 96 = .ok (.ifCond .eq 5, 3) := by decide +kernel
theorem dX12_layOrder_99 : decode cX12_layOrder 99 = .ok (.iconst 0, 1) := by decide +kernel
theorem dX12_layOrder_100 : decode cX12_layOrder 100 = .ok (.ireturn, 1) := by decide +kernel
theorem dX12_layOrder_101 : decode cX12_layOrder 101 = .ok (.iload 4, 2) := by decide +kernel
theorem dX12_layOrder_103 : decode cX12_layOrder 103 = .ok (.iconst 1, 1) := by decide +kernel
theorem dX12_layOrder_104 : decode cX12_layOrder 104 = .ok (.aload_n 0, 1) := by decide +kernel
theorem dX12_layOrder_105 : decode cX12_layOrder 105 = .ok (.getfield 60, 3) := by decide +kernel
theorem dX12_layOrder_108 : decode cX12_layOrder 108 = .ok (.iload 5, 2) := by decide +kernel
theorem dX12_layOrder_110 : decode cX12_layOrder 110 = .ok (.iaload, 1) := by decide +kernel
theorem dX12_layOrder_111 : decode cX12_layOrder 111 = .ok (.ishl, 1) := by decide +kernel
theorem dX12_layOrder_112 : decode cX12_layOrder 112 = .ok (.ior, 1) := by decide +kernel
theorem dX12_layOrder_113 : decode cX12_layOrder 113 = .ok (.istore 4, 2) := by decide +kernel
theorem dX12_layOrder_115 : decode cX12_layOrder 115 = .ok (.iinc 5 (-1), 3) := by decide +kernel
theorem dX12_layOrder_118 : decode cX12_layOrder 118 = .ok (.goto (-97), 3) := by decide +kernel
theorem dX12_layOrder_121 : decode cX12_layOrder 121 = .ok (.iload_n 3, 1) := by decide +kernel
theorem dX12_layOrder_122 : decode cX12_layOrder 122 = .ok (.ifCond .ne 7, 3) := by decide +kernel
theorem dX12_layOrder_125 : decode cX12_layOrder 125 = .ok (.iconst 1, 1) := by decide +kernel
theorem dX12_layOrder_126 : decode cX12_layOrder 126 = .ok (.goto 4, 3) := by decide +kernel
theorem dX12_layOrder_129 : decode cX12_layOrder 129 = .ok (.iconst 0, 1) := by decide +kernel
theorem dX12_layOrder_130 : decode cX12_layOrder 130 = .ok (.ireturn, 1) := by decide +kernel
theorem F_X12_60 : FLk RX12 60 12 27 := ⟨RX12, TX12, 58, rfl, rfl, iw_X12, by decide, Or.inl fl_X12_60⟩
theorem F_X12_321 : FLk RX12 321 12 29 := ⟨RX12, TX12, 58, rfl, rfl, iw_X12, by decide, Or.inl fl_X12_321⟩
theorem P_X12_321 : FPk RX12 321 12 29 .int := ⟨RX12, TX12, 58, tyX12, rfl, rfl, iw_X12, by decide, Or.inl fl_X12_321, tyX12_ok, nmX12, rfl, by decide +kernel⟩
def f_X12_layOrder_99  (h : AH) : Option (Int32 × AH) :=
  some (0, h)
def f_X12_layOrder_130 (s0 : Int32) (h : AH) : Option (Int32 × AH) :=
  og (bz s0) <|
  some (s0, h)
def f_X12_layOrder_21 : Nat → Nat → Int32 → Int32 → Int32 → Int32 → AH → Option (Int32 × AH)
  | 0, _, _, _, _, _, _ => none
  | n + 1, k0, x1, x3, x4, x5, h =>
    if x5 < 0 then (
      if x3 = 0 then (
        f_X12_layOrder_130 1 h
      ) else (
        f_X12_layOrder_130 0 h
      )
    ) else (
      og (ix x5 (an (rf k0 27))) <|
      nm (sI h (rf k0 27) x5.toNatClampNeg (jirem x3 10)) fun h_4 =>
      nm ((x3 / 10)) fun x3_6 =>
      if x3_6 < 0 then (
        f_X12_layOrder_99 h_4
      ) else (
        og (ix x5 (an (rf k0 27))) <|
        if (h_4.1 (rf k0 27) x5.toNatClampNeg) < 0 then (
          f_X12_layOrder_99 h_4
        ) else (
          og (ix x5 (an (rf k0 27))) <|
          if (h_4.1 k0 20) ≤ (h_4.1 (rf k0 27) x5.toNatClampNeg) then (
            f_X12_layOrder_99 h_4
          ) else (
            og (ix x5 (an (rf k0 27))) <|
            ob (f_X12_has x1 (h_4.1 (rf k0 27) x5.toNatClampNeg) h_4) fun r_16 h_15 =>
            if r_16 = 0 then (
              f_X12_layOrder_99 h_15
            ) else (
              og (ix x5 (an (rf k0 27))) <|
              ob (f_X12_has x4 (h_15.1 (rf k0 27) x5.toNatClampNeg) h_15) fun r_21 h_20 =>
              if r_21 = 0 then (
                og (ix x5 (an (rf k0 27))) <|
                nm ((x4 ||| ((1 : Int32) <<< ((h_20.1 (rf k0 27) x5.toNatClampNeg) &&& 31)))) fun x4_24 =>
                nm (x5 + (-1)) fun x5_26 =>
                f_X12_layOrder_21 n k0 x1 x3_6 x4_24 x5_26 h_20
              ) else (
                f_X12_layOrder_99 h_20
              )
            )
          )
        )
      )
    )
def f_X12_layOrder (k0 : Nat) (x1 : Int32) (x2 : Int32) (h : AH) : Option (Int32 × AH) :=
  ob (f_J6_bitCount_0f7a4 x1 h) fun r_3 h_2 =>
  nm (sI h_2 k0 29 r_3) fun h_4 =>
  nm (((h_4.1 k0 29) - 1)) fun x5_6 =>
  f_X12_layOrder_21 FU k0 x1 x2 0 x5_6 h_4
set_option maxHeartbeats 4000000 in
set_option maxRecDepth 100000 in
theorem v_X12_layOrder_99 {E : EV} {d : Nat} (hd : 1 ≤ d) {r0 : Int32} {h0 : AH}  {h : AH} (hf : f_X12_layOrder_99 h = some (r0, h0)) : V E (d + 1) K_X12_layOrder (ZI E r0 h0) h [] [] 99 := by
  unfold f_X12_layOrder_99 at hf
  refine V_iconst (v := 0) dX12_layOrder_99 (by decide) ?_
  exact V_zret rfl (by decide) (so_s hf) dX12_layOrder_100
set_option maxHeartbeats 4000000 in
set_option maxRecDepth 100000 in
theorem v_X12_layOrder_130 {E : EV} {d : Nat} (hd : 1 ≤ d) {r0 : Int32} {h0 : AH} {s0 : Int32} {h : AH} (hf : f_X12_layOrder_130 s0 h = some (r0, h0)) : V E (d + 1) K_X12_layOrder (ZI E r0 h0) h [] [.int s0] 130 := by
  unfold f_X12_layOrder_130 at hf
  obtain ⟨b_1, hf⟩ := og_s hf
  exact V_zret rfl b_1 (so_s hf) dX12_layOrder_130
set_option maxHeartbeats 4000000 in
set_option maxRecDepth 100000 in
theorem v_X12_layOrder_21 {E : EV} {d : Nat} (hd : 1 ≤ d) {r0 : Int32} {h0 : AH} : ∀ (n : Nat) (k0 : Nat) (x1 : Int32) (x3 : Int32) (x4 : Int32) (x5 : Int32) (h : AH), f_X12_layOrder_21 n k0 x1 x3 x4 x5 h = some (r0, h0) → kd k0 = (0, 12) → V E (d + 1) K_X12_layOrder (ZI E r0 h0) h [(0, .ref k0), (1, .int x1), (3, .int x3), (4, .int x4), (5, .int x5)] [] 21 := by
  intro n
  induction n with
  | zero =>
    intro k0 x1 x3 x4 x5 h hf
    rw [f_X12_layOrder_21] at hf
    cases hf
  | succ n ih =>
    intro k0 x1 x3 x4 x5 h hf t_k0
    rw [f_X12_layOrder_21] at hf
    refine V_iload 4 dX12_layOrder_21 rfl ?_
    refine V_if_lt (tgt := 121) dX12_layOrder_23 (by decide) (fun c_1 => ?_) (fun c_1 => ?_)
    · have hf := it_s c_1 hf
      refine V_iload_n 2 dX12_layOrder_121 rfl rfl ?_
      refine V_if_ne (tgt := 129) dX12_layOrder_122 (by decide) (fun c_2 => ?_) (fun c_2 => ?_)
      · have hf := if_s c_2 hf
        refine V_iconst (v := 0) dX12_layOrder_129 (by decide) ?_
        refine V_sub [] rfl ?_
        exact v_X12_layOrder_130 hd hf
      · have hf := it_s c_2 hf
        refine V_iconst (v := 1) dX12_layOrder_125 (by decide) ?_
        refine V_goto (tgt := 130) dX12_layOrder_126 (by decide) ?_
        refine V_sub [] rfl ?_
        exact v_X12_layOrder_130 hd hf
    · have hf := if_s c_1 hf
      refine V_aload_n 0 dX12_layOrder_26 rfl rfl ?_
      refine V_getR F_X12_60 rfl t_k0 rfl dX12_layOrder_27 ?_
      refine V_iload 4 dX12_layOrder_30 rfl ?_
      refine V_iload_n 2 dX12_layOrder_32 rfl rfl ?_
      refine V_bipush (v := 10) dX12_layOrder_33 (by decide) ?_
      refine V_irem dX12_layOrder_35 (by decide) ?_
      obtain ⟨b_3, hf⟩ := og_s hf
      obtain ⟨h_4, e_5, hf⟩ := nm_s hf
      refine V_iast (rfA t_k0 (Nat.le_of_ble_eq_true rfl) rfl rfl (by decide)) b_3 e_5 dX12_layOrder_36 ?_
      refine V_iload_n 2 dX12_layOrder_37 rfl rfl ?_
      refine V_bipush (v := 10) dX12_layOrder_38 (by decide) ?_
      refine V_idiv dX12_layOrder_40 (by decide) ?_
      obtain ⟨x3_6, e_7, hf⟩ := nm_s hf
      refine V_istore_n (L' := [(3, .int x3_6), (0, .ref k0), (1, .int x1), (4, .int x4), (5, .int x5)]) dX12_layOrder_41 rfl (Nat.le_of_ble_eq_true rfl) e_7 rfl ?_
      refine V_iload_n 0 dX12_layOrder_42 rfl rfl ?_
      refine V_if_lt (tgt := 99) dX12_layOrder_43 (by decide) (fun c_8 => ?_) (fun c_8 => ?_)
      · have hf := it_s c_8 hf
        refine V_sub [] rfl ?_
        exact v_X12_layOrder_99 hd hf
      · have hf := if_s c_8 hf
        refine V_aload_n 1 dX12_layOrder_46 rfl rfl ?_
        refine V_getR F_X12_60 rfl t_k0 rfl dX12_layOrder_47 ?_
        refine V_iload 4 dX12_layOrder_50 rfl ?_
        obtain ⟨b_9, hf⟩ := og_s hf
        refine V_iald (rfA t_k0 (Nat.le_of_ble_eq_true rfl) rfl rfl (by decide)) b_9 dX12_layOrder_52 ?_
        refine V_if_lt (tgt := 99) dX12_layOrder_53 (by decide) (fun c_10 => ?_) (fun c_10 => ?_)
        · have hf := it_s c_10 hf
          refine V_sub [] rfl ?_
          exact v_X12_layOrder_99 hd hf
        · have hf := if_s c_10 hf
          refine V_aload_n 1 dX12_layOrder_56 rfl rfl ?_
          refine V_getR F_X12_60 rfl t_k0 rfl dX12_layOrder_57 ?_
          refine V_iload 4 dX12_layOrder_60 rfl ?_
          obtain ⟨b_11, hf⟩ := og_s hf
          refine V_iald (rfA t_k0 (Nat.le_of_ble_eq_true rfl) rfl rfl (by decide)) b_11 dX12_layOrder_62 ?_
          refine V_aload_n 1 dX12_layOrder_63 rfl rfl ?_
          refine V_getI F_X12_283 rfl t_k0 rfl dX12_layOrder_64 ?_
          refine V_ic_ge (tgt := 99) dX12_layOrder_67 (by decide) (fun c_12 => ?_) (fun c_12 => ?_)
          · have hf := it_s c_12 hf
            refine V_sub [] rfl ?_
            exact v_X12_layOrder_99 hd hf
          · have hf := if_s c_12 hf
            refine V_iload_n 2 dX12_layOrder_70 rfl rfl ?_
            refine V_aload_n 1 dX12_layOrder_71 rfl rfl ?_
            refine V_getR F_X12_60 rfl t_k0 rfl dX12_layOrder_72 ?_
            refine V_iload 4 dX12_layOrder_75 rfl ?_
            obtain ⟨b_13, hf⟩ := og_s hf
            refine V_iald (rfA t_k0 (Nat.le_of_ble_eq_true rfl) rfl rfl (by decide)) b_13 dX12_layOrder_77 ?_
            obtain ⟨r_16, h_15, e_14, hf⟩ := ob_s hf
            refine V_csi (As := [.int x1, .int (h_4.1 (rf k0 27) x5.toNatClampNeg)]) (rest := []) (c_X12_has (d := d) (Nat.le_trans (Nat.le_of_ble_eq_true rfl) hd) e_14) ML_X12_258 MS_X12_has rfl rfl rfl (Nat.le_of_ble_eq_true rfl) dX12_layOrder_78 ?_
            refine V_if_eq (tgt := 99) dX12_layOrder_81 (by decide) (fun c_17 => ?_) (fun c_17 => ?_)
            · have hf := it_s c_17 hf
              refine V_sub [] rfl ?_
              exact v_X12_layOrder_99 hd hf
            · have hf := if_s c_17 hf
              refine V_iload 3 dX12_layOrder_84 rfl ?_
              refine V_aload_n 1 dX12_layOrder_86 rfl rfl ?_
              refine V_getR F_X12_60 rfl t_k0 rfl dX12_layOrder_87 ?_
              refine V_iload 4 dX12_layOrder_90 rfl ?_
              obtain ⟨b_18, hf⟩ := og_s hf
              refine V_iald (rfA t_k0 (Nat.le_of_ble_eq_true rfl) rfl rfl (by decide)) b_18 dX12_layOrder_92 ?_
              obtain ⟨r_21, h_20, e_19, hf⟩ := ob_s hf
              refine V_csi (As := [.int x4, .int (h_15.1 (rf k0 27) x5.toNatClampNeg)]) (rest := []) (c_X12_has (d := d) (Nat.le_trans (Nat.le_of_ble_eq_true rfl) hd) e_19) ML_X12_258 MS_X12_has rfl rfl rfl (Nat.le_of_ble_eq_true rfl) dX12_layOrder_93 ?_
              refine V_if_eq (tgt := 101) dX12_layOrder_96 (by decide) (fun c_22 => ?_) (fun c_22 => ?_)
              · have hf := it_s c_22 hf
                refine V_iload 3 dX12_layOrder_101 rfl ?_
                refine V_iconst (v := 1) dX12_layOrder_103 (by decide) ?_
                refine V_aload_n 1 dX12_layOrder_104 rfl rfl ?_
                refine V_getR F_X12_60 rfl t_k0 rfl dX12_layOrder_105 ?_
                refine V_iload 4 dX12_layOrder_108 rfl ?_
                obtain ⟨b_23, hf⟩ := og_s hf
                refine V_iald (rfA t_k0 (Nat.le_of_ble_eq_true rfl) rfl rfl (by decide)) b_23 dX12_layOrder_110 ?_
                refine V_ishl dX12_layOrder_111 ?_
                refine V_ior dX12_layOrder_112 ?_
                obtain ⟨x4_24, e_25, hf⟩ := nm_s hf
                refine V_istore (L' := [(4, .int x4_24), (3, .int x3_6), (0, .ref k0), (1, .int x1), (5, .int x5)]) dX12_layOrder_113 (Nat.le_of_ble_eq_true rfl) e_25 rfl ?_
                obtain ⟨x5_26, e_27, hf⟩ := nm_s hf
                refine V_iinc (a := (-1)) (L' := [(5, .int x5_26), (4, .int x4_24), (3, .int x3_6), (0, .ref k0), (1, .int x1)]) 4 dX12_layOrder_115 rfl (by decide) (Nat.le_of_ble_eq_true rfl) e_27 rfl ?_
                refine V_goto (tgt := 21) dX12_layOrder_118 (by decide) ?_
                refine V_sub [3, 4, 2, 1, 0] rfl ?_
                exact ih _ _ _ _ _ _ hf t_k0
              · have hf := if_s c_22 hf
                refine V_sub [] rfl ?_
                exact v_X12_layOrder_99 hd hf
set_option maxHeartbeats 4000000 in
set_option maxRecDepth 100000 in
theorem c_X12_layOrder {E : EV} {d : Nat} (hd : 1 + 1 ≤ d) {k0 : Nat} {x1 : Int32} {x2 : Int32} {h : AH} {r0 : Int32} {h0 : AH} (hf : f_X12_layOrder k0 x1 x2 h = some (r0, h0)) (t_k0 : kd k0 = (0, 12)) : Con E d K_X12_layOrder (ZI E r0 h0) [.ref k0, .int x1, .int x2] h := by
  obtain ⟨d, rfl⟩ : ∃ d', d = d' + 1 := ⟨d - 1, by omega⟩
  have hd := Nat.le_of_succ_le_succ hd
  refine Con.ofV rfl (Nat.le_of_ble_eq_true rfl) ?_
  unfold f_X12_layOrder at hf
  show V E (d + 1) K_X12_layOrder (ZI E r0 h0) h [(0, .ref k0), (1, .int x1), (2, .int x2)] [] 0
  refine V_aload_n 0 dX12_layOrder_0 rfl rfl ?_
  refine V_iload_n 1 dX12_layOrder_1 rfl rfl ?_
  obtain ⟨r_3, h_2, e_1, hf⟩ := ob_s hf
  refine V_csi (As := [.int x1]) (rest := [.ref k0]) (c_J6_bitCount_0f7a4 (d := d) (Nat.le_trans (Nat.le_of_ble_eq_true rfl) hd) e_1) ML_X12_309 MS_J6_bitCount_0f7a4 rfl rfl rfl (Nat.le_of_ble_eq_true rfl) dX12_layOrder_2 ?_
  obtain ⟨h_4, e_5, hf⟩ := nm_s hf
  refine V_putI P_X12_321 rfl t_k0 rfl e_5 dX12_layOrder_5 ?_
  refine V_iload_n 2 dX12_layOrder_8 rfl rfl ?_
  refine V_istore_n (L' := [(3, .int x2), (0, .ref k0), (1, .int x1), (2, .int x2)]) dX12_layOrder_9 rfl (Nat.le_of_ble_eq_true rfl) rfl rfl ?_
  refine V_iconst (v := 0) dX12_layOrder_10 (by decide) ?_
  refine V_istore (L' := [(4, .int 0), (3, .int x2), (0, .ref k0), (1, .int x1), (2, .int x2)]) dX12_layOrder_11 (Nat.le_of_ble_eq_true rfl) rfl rfl ?_
  refine V_aload_n 2 dX12_layOrder_13 rfl rfl ?_
  refine V_getI F_X12_321 rfl t_k0 rfl dX12_layOrder_14 ?_
  refine V_iconst (v := 1) dX12_layOrder_17 (by decide) ?_
  refine V_isub dX12_layOrder_18 ?_
  obtain ⟨x5_6, e_7, hf⟩ := nm_s hf
  refine V_istore (L' := [(5, .int x5_6), (4, .int 0), (3, .int x2), (0, .ref k0), (1, .int x1), (2, .int x2)]) dX12_layOrder_19 (Nat.le_of_ble_eq_true rfl) e_7 rfl ?_
  refine V_sub [3, 4, 2, 1, 0] rfl ?_
  exact v_X12_layOrder_21 hd FU _ _ _ _ _ _ hf t_k0
theorem dX12_partOf_0 : decode cX12_partOf 0 = .ok (.aload_n 0, 1) := by decide +kernel
theorem dX12_partOf_1 : decode cX12_partOf 1 = .ok (.getfield 42, 3) := by decide +kernel
theorem dX12_partOf_4 : decode cX12_partOf 4 = .ok (.bipush 7, 2) := by decide +kernel
theorem dX12_partOf_6 : decode cX12_partOf 6 = .ok (.iload_n 1, 1) := by decide +kernel
theorem dX12_partOf_7 : decode cX12_partOf 7 = .ok (.imul, 1) := by decide +kernel
theorem dX12_partOf_8 : decode cX12_partOf 8 = .ok (.iload_n 2, 1) := by decide +kernel
theorem dX12_partOf_9 : decode cX12_partOf 9 = .ok (.iadd, 1) := by decide +kernel
theorem dX12_partOf_10 : decode cX12_partOf 10 = .ok (.iaload, 1) := by decide +kernel
theorem dX12_partOf_11 : decode cX12_partOf 11 = .ok (.ireturn, 1) := by decide +kernel
theorem F_X12_42 : FLk RX12 42 12 19 := ⟨RX12, TX12, 58, rfl, rfl, iw_X12, by decide, Or.inl fl_X12_42⟩
def f_X12_partOf (k0 : Nat) (x1 : Int32) (x2 : Int32) (h : AH) : Option (Int32 × AH) :=
  og (ix ((7 * x1) + x2) (an (rf k0 19))) <|
  some ((h.1 (rf k0 19) ((7 * x1) + x2).toNatClampNeg), h)
set_option maxHeartbeats 4000000 in
set_option maxRecDepth 100000 in
theorem c_X12_partOf {E : EV} {d : Nat} (hd : 0 + 1 ≤ d) {k0 : Nat} {x1 : Int32} {x2 : Int32} {h : AH} {r0 : Int32} {h0 : AH} (hf : f_X12_partOf k0 x1 x2 h = some (r0, h0)) (t_k0 : kd k0 = (0, 12)) : Con E d K_X12_partOf (ZI E r0 h0) [.ref k0, .int x1, .int x2] h := by
  obtain ⟨d, rfl⟩ : ∃ d', d = d' + 1 := ⟨d - 1, by omega⟩
  have hd := Nat.le_of_succ_le_succ hd
  refine Con.ofV rfl (Nat.le_of_ble_eq_true rfl) ?_
  unfold f_X12_partOf at hf
  show V E (d + 1) K_X12_partOf (ZI E r0 h0) h [(0, .ref k0), (1, .int x1), (2, .int x2)] [] 0
  refine V_aload_n 0 dX12_partOf_0 rfl rfl ?_
  refine V_getR F_X12_42 rfl t_k0 rfl dX12_partOf_1 ?_
  refine V_bipush (v := 7) dX12_partOf_4 (by decide) ?_
  refine V_iload_n 1 dX12_partOf_6 rfl rfl ?_
  refine V_imul dX12_partOf_7 ?_
  refine V_iload_n 2 dX12_partOf_8 rfl rfl ?_
  refine V_iadd dX12_partOf_9 ?_
  obtain ⟨b_1, hf⟩ := og_s hf
  refine V_iald (rfA t_k0 (Nat.le_of_ble_eq_true rfl) rfl rfl (by decide)) b_1 dX12_partOf_10 ?_
  exact V_iret rfl (so_s hf) dX12_partOf_11
theorem dX12_doesFit_0 : decode cX12_doesFit 0 = .ok (.aload_n 0, 1) := by decide +kernel
theorem dX12_doesFit_1 : decode cX12_doesFit 1 = .ok (.getfield 51, 3) := by decide +kernel
theorem dX12_doesFit_4 : decode cX12_doesFit 4 = .ok (.iload_n 2, 1) := by decide +kernel
theorem dX12_doesFit_5 : decode cX12_doesFit 5 = .ok (.iaload, 1) := by decide +kernel
theorem dX12_doesFit_6 : decode cX12_doesFit 6 = .ok (.i2l, 1) := by decide +kernel
theorem dX12_doesFit_7 : decode cX12_doesFit 7 = .ok (.aload_n 0, 1) := by decide +kernel
theorem dX12_doesFit_8 : decode cX12_doesFit 8 = .ok (.iload_n 1, 1) := by decide +kernel
theorem dX12_doesFit_9 : decode cX12_doesFit 9 = .ok (.iconst 0, 1) := by decide +kernel
theorem dX12_doesFit_10 : decode cX12_doesFit 10 = .ok (.invokevirtual 300, 3) := by decide +kernel
theorem dX12_doesFit_13 : decode cX12_doesFit 13 = .ok (.i2l, 1) := by decide +kernel
theorem dX12_doesFit_14 : decode cX12_doesFit 14 = .ok (.aload_n 0, 1) := by decide +kernel
theorem dX12_doesFit_15 : decode cX12_doesFit 15 = .ok (.iload_n 1, 1) := by decide +kernel
theorem dX12_doesFit_16 : decode cX12_doesFit 16 = .ok (.iconst 0, 1) := by decide +kernel
theorem dX12_doesFit_17 : decode cX12_doesFit 17 = .ok (.invokevirtual 300, 3) := by decide +kernel
theorem dX12_doesFit_20 : decode cX12_doesFit 20 = .ok (.aload_n 0, 1) := by decide +kernel
theorem dX12_doesFit_21 : decode cX12_doesFit 21 = .ok (.iload_n 1, 1) := by decide +kernel
theorem dX12_doesFit_22 : decode cX12_doesFit 22 = .ok (.iconst 1, 1) := by decide +kernel
theorem dX12_doesFit_23 : decode cX12_doesFit 23 = .ok (.invokevirtual 300, 3) := by decide +kernel
theorem dX12_doesFit_26 : decode cX12_doesFit 26 = .ok (.iadd, 1) := by decide +kernel
theorem dX12_doesFit_27 : decode cX12_doesFit 27 = .ok (.i2l, 1) := by decide +kernel
theorem dX12_doesFit_28 : decode cX12_doesFit 28 = .ok (.invokestatic 247, 3) := by decide +kernel
theorem dX12_doesFit_31 : decode cX12_doesFit 31 = .ok (.ireturn, 1) := by decide +kernel
theorem ML_X12_300 : MLk RX12 300 yX12_partOf := Or.inl ml_X12_300
theorem MV_X12_partOf : MVk K_X12_partOf 2 12 := ⟨⟨cd_X12_partOf, in_X12, ⟨by decide, by decide, by decide +kernel⟩, by decide⟩, im_X12_partOf, se_X12_partOf, _, _, rfl⟩
def f_X12_doesFit (k0 : Nat) (x1 : Int32) (x2 : Int32) (h : AH) : Option (Int32 × AH) :=
  og (ix x2 (an (rf k0 24))) <|
  ob (f_X12_partOf k0 x1 0 h) fun r_4 h_3 =>
  ob (f_X12_partOf k0 x1 0 h_3) fun r_7 h_6 =>
  ob (f_X12_partOf k0 x1 1 h_6) fun r_10 h_9 =>
  ob (f_X12_isIn (((h.1 (rf k0 24) x2.toNatClampNeg)).toInt64) ((r_4).toInt64) (((r_7 + r_10)).toInt64) h_9) fun r_13 h_12 =>
  og (bz r_13) <|
  some (r_13, h_12)
set_option maxHeartbeats 4000000 in
set_option maxRecDepth 100000 in
theorem c_X12_doesFit {E : EV} {d : Nat} (hd : 1 + 1 ≤ d) {k0 : Nat} {x1 : Int32} {x2 : Int32} {h : AH} {r0 : Int32} {h0 : AH} (hf : f_X12_doesFit k0 x1 x2 h = some (r0, h0)) (t_k0 : kd k0 = (0, 12)) : Con E d K_X12_doesFit (ZI E r0 h0) [.ref k0, .int x1, .int x2] h := by
  obtain ⟨d, rfl⟩ : ∃ d', d = d' + 1 := ⟨d - 1, by omega⟩
  have hd := Nat.le_of_succ_le_succ hd
  refine Con.ofV rfl (Nat.le_of_ble_eq_true rfl) ?_
  unfold f_X12_doesFit at hf
  show V E (d + 1) K_X12_doesFit (ZI E r0 h0) h [(0, .ref k0), (1, .int x1), (2, .int x2)] [] 0
  refine V_aload_n 0 dX12_doesFit_0 rfl rfl ?_
  refine V_getR F_X12_51 rfl t_k0 rfl dX12_doesFit_1 ?_
  refine V_iload_n 2 dX12_doesFit_4 rfl rfl ?_
  obtain ⟨b_1, hf⟩ := og_s hf
  refine V_iald (rfA t_k0 (Nat.le_of_ble_eq_true rfl) rfl rfl (by decide)) b_1 dX12_doesFit_5 ?_
  refine V_i2l dX12_doesFit_6 ?_
  refine V_aload_n 0 dX12_doesFit_7 rfl rfl ?_
  refine V_iload_n 1 dX12_doesFit_8 rfl rfl ?_
  refine V_iconst (v := 0) dX12_doesFit_9 (by decide) ?_
  obtain ⟨r_4, h_3, e_2, hf⟩ := ob_s hf
  refine V_cvi (As := [.int x1, .int 0]) (rest := [.long (((h.1 (rf k0 24) x2.toNatClampNeg)).toInt64)]) (c_X12_partOf (d := d) (Nat.le_trans (Nat.le_of_ble_eq_true rfl) hd) e_2 t_k0) ML_X12_300 MV_X12_partOf rfl t_k0 rfl rfl (Nat.le_of_ble_eq_true rfl) dX12_doesFit_10 ?_
  refine V_i2l dX12_doesFit_13 ?_
  refine V_aload_n 0 dX12_doesFit_14 rfl rfl ?_
  refine V_iload_n 1 dX12_doesFit_15 rfl rfl ?_
  refine V_iconst (v := 0) dX12_doesFit_16 (by decide) ?_
  obtain ⟨r_7, h_6, e_5, hf⟩ := ob_s hf
  refine V_cvi (As := [.int x1, .int 0]) (rest := [.long ((r_4).toInt64), .long (((h.1 (rf k0 24) x2.toNatClampNeg)).toInt64)]) (c_X12_partOf (d := d) (Nat.le_trans (Nat.le_of_ble_eq_true rfl) hd) e_5 t_k0) ML_X12_300 MV_X12_partOf rfl t_k0 rfl rfl (Nat.le_of_ble_eq_true rfl) dX12_doesFit_17 ?_
  refine V_aload_n 0 dX12_doesFit_20 rfl rfl ?_
  refine V_iload_n 1 dX12_doesFit_21 rfl rfl ?_
  refine V_iconst (v := 1) dX12_doesFit_22 (by decide) ?_
  obtain ⟨r_10, h_9, e_8, hf⟩ := ob_s hf
  refine V_cvi (As := [.int x1, .int 1]) (rest := [.int r_7, .long ((r_4).toInt64), .long (((h.1 (rf k0 24) x2.toNatClampNeg)).toInt64)]) (c_X12_partOf (d := d) (Nat.le_trans (Nat.le_of_ble_eq_true rfl) hd) e_8 t_k0) ML_X12_300 MV_X12_partOf rfl t_k0 rfl rfl (Nat.le_of_ble_eq_true rfl) dX12_doesFit_23 ?_
  refine V_iadd dX12_doesFit_26 ?_
  refine V_i2l dX12_doesFit_27 ?_
  obtain ⟨r_13, h_12, e_11, hf⟩ := ob_s hf
  refine V_csi (As := [.long (((h.1 (rf k0 24) x2.toNatClampNeg)).toInt64), .long ((r_4).toInt64), .long (((r_7 + r_10)).toInt64)]) (rest := []) (c_X12_isIn (d := d) (Nat.le_trans (Nat.le_of_ble_eq_true rfl) hd) e_11) ML_X12_247 MS_X12_isIn rfl rfl rfl (Nat.le_of_ble_eq_true rfl) dX12_doesFit_28 ?_
  obtain ⟨b_14, hf⟩ := og_s hf
  exact V_zret rfl b_14 (so_s hf) dX12_doesFit_31
theorem dX12_opens_0 : decode cX12_opens 0 = .ok (.aload_n 0, 1) := by decide +kernel
theorem dX12_opens_1 : decode cX12_opens 1 = .ok (.aload_n 1, 1) := by decide +kernel
theorem dX12_opens_2 : decode cX12_opens 2 = .ok (.putfield 23, 3) := by decide +kernel
theorem dX12_opens_5 : decode cX12_opens 5 = .ok (.aload_n 0, 1) := by decide +kernel
theorem dX12_opens_6 : decode cX12_opens 6 = .ok (.iload_n 2, 1) := by decide +kernel
theorem dX12_opens_7 : decode cX12_opens 7 = .ok (.putfield 150, 3) := by decide +kernel
theorem dX12_opens_10 : decode cX12_opens 10 = .ok (.aload_n 0, 1) := by decide +kernel
theorem dX12_opens_11 : decode cX12_opens 11 = .ok (.iload_n 3, 1) := by decide +kernel
theorem dX12_opens_12 : decode cX12_opens 12 = .ok (.putfield 147, 3) := by decide +kernel
theorem dX12_opens_15 : decode cX12_opens 15 = .ok (.aload_n 0, 1) := by decide +kernel
theorem dX12_opens_16 : decode cX12_opens 16 = .ok (.iconst 0, 1) := by decide +kernel
theorem dX12_opens_17 : decode cX12_opens 17 = .ok (.putfield 144, 3) := by decide +kernel
theorem dX12_opens_20 : decode cX12_opens 20 = .ok (.aload_n 0, 1) := by decide +kernel
theorem dX12_opens_21 : decode cX12_opens 21 = .ok (.iconst (-1), 1) := by decide +kernel
theorem dX12_opens_22 : decode cX12_opens 22 = .ok (.putfield 153, 3) := by decide +kernel
theorem dX12_opens_25 : decode cX12_opens 25 = .ok (.return_, 1) := by decide +kernel
theorem P_X12_23 : FPk RX12 23 12 5 (.array .byte) := ⟨RX12, TX12, 58, tyX12, rfl, rfl, iw_X12, by decide, Or.inl fl_X12_23, tyX12_ok, nmX12, rfl, by decide +kernel⟩
theorem P_X12_150 : FPk RX12 150 12 8 .int := ⟨RX12, TX12, 58, tyX12, rfl, rfl, iw_X12, by decide, Or.inl fl_X12_150, tyX12_ok, nmX12, rfl, by decide +kernel⟩
theorem P_X12_147 : FPk RX12 147 12 9 .int := ⟨RX12, TX12, 58, tyX12, rfl, rfl, iw_X12, by decide, Or.inl fl_X12_147, tyX12_ok, nmX12, rfl, by decide +kernel⟩
def f_X12_opens (k0 : Nat) (k1 : Nat) (x2 : Int32) (x3 : Int32) (h : AH) : Option AH :=
  nm (sR h k0 k1) fun h_1 =>
  nm (sI h_1 k0 8 x2) fun h_3 =>
  nm (sI h_3 k0 9 x3) fun h_5 =>
  nm (sI h_5 k0 10 0) fun h_7 =>
  nm (sI h_7 k0 11 (-1)) fun h_9 =>
  some h_9
set_option maxHeartbeats 4000000 in
set_option maxRecDepth 100000 in
theorem c_X12_opens {E : EV} {d : Nat} (hd : 0 + 1 ≤ d) {k0 : Nat} {k1 : Nat} {x2 : Int32} {x3 : Int32} {h : AH} {h0 : AH} (hf : f_X12_opens k0 k1 x2 x3 h = some h0) (t_k0 : kd k0 = (0, 12)) (t_k1 : (kd k1).1 = 3) : Con E d K_X12_opens (ZV E h0) [.ref k0, .ref k1, .int x2, .int x3] h := by
  obtain ⟨d, rfl⟩ : ∃ d', d = d' + 1 := ⟨d - 1, by omega⟩
  have hd := Nat.le_of_succ_le_succ hd
  refine Con.ofV rfl (Nat.le_of_ble_eq_true rfl) ?_
  unfold f_X12_opens at hf
  show V E (d + 1) K_X12_opens (ZV E h0) h [(0, .ref k0), (1, .ref k1), (2, .int x2), (3, .int x3)] [] 0
  refine V_aload_n 0 dX12_opens_0 rfl rfl ?_
  refine V_aload_n 1 dX12_opens_1 rfl rfl ?_
  obtain ⟨h_1, e_2, hf⟩ := nm_s hf
  refine V_putM P_X12_23 rfl t_k0 rfl (by decide) (by decide) e_2 dX12_opens_2 ?_
  refine V_aload_n 0 dX12_opens_5 rfl rfl ?_
  refine V_iload_n 2 dX12_opens_6 rfl rfl ?_
  obtain ⟨h_3, e_4, hf⟩ := nm_s hf
  refine V_putI P_X12_150 rfl t_k0 rfl e_4 dX12_opens_7 ?_
  refine V_aload_n 0 dX12_opens_10 rfl rfl ?_
  refine V_iload_n 3 dX12_opens_11 rfl rfl ?_
  obtain ⟨h_5, e_6, hf⟩ := nm_s hf
  refine V_putI P_X12_147 rfl t_k0 rfl e_6 dX12_opens_12 ?_
  refine V_aload_n 0 dX12_opens_15 rfl rfl ?_
  refine V_iconst (v := 0) dX12_opens_16 (by decide) ?_
  obtain ⟨h_7, e_8, hf⟩ := nm_s hf
  refine V_putI P_X12_144 rfl t_k0 rfl e_8 dX12_opens_17 ?_
  refine V_aload_n 0 dX12_opens_20 rfl rfl ?_
  refine V_iconst (v := (-1)) dX12_opens_21 (by decide) ?_
  obtain ⟨h_9, e_10, hf⟩ := nm_s hf
  refine V_putI P_X12_153 rfl t_k0 rfl e_10 dX12_opens_22 ?_
  exact V_vret rfl (so_s hf) dX12_opens_25
theorem dX12_isSign_0 : decode cX12_isSign 0 = .ok (.iload_n 0, 1) := by decide +kernel
theorem dX12_isSign_1 : decode cX12_isSign 1 = .ok (.bipush 61, 2) := by decide +kernel
theorem dX12_isSign_3 : decode cX12_isSign 3 = .ok (.if_icmp .eq 15, 3) := by decide +kernel
theorem dX12_isSign_6 : decode cX12_isSign 6 = .ok (.iload_n 0, 1) := by decide +kernel
theorem dX12_isSign_7 : decode cX12_isSign 7 = .ok (.bipush 60, 2) := by decide +kernel
theorem dX12_isSign_9 : decode cX12_isSign 9 = .ok (.if_icmp .eq 9, 3) := by decide +kernel
theorem dX12_isSign_12 : decode cX12_isSign 12 = .ok (.iload_n 0, 1) := by decide +kernel
theorem dX12_isSign_13 : decode cX12_isSign 13 = .ok (.bipush 62, 2) := by decide +kernel
theorem dX12_isSign_15 : decode cX12_isSign 15 = .ok (.if_icmp .ne 7, 3) := by decide +kernel
theorem dX12_isSign_18 : decode cX12_isSign 18 = .ok (.iconst 1, 1) := by decide +kernel
theorem dX12_isSign_19 : decode cX12_isSign 19 = .ok (.goto 4, 3) := by decide +kernel
theorem dX12_isSign_22 : decode cX12_isSign 22 = .ok (.iconst 0, 1) := by decide +kernel
theorem dX12_isSign_23 : decode cX12_isSign 23 = .ok (.ireturn, 1) := by decide +kernel
def f_X12_isSign_23 (s0 : Int32) (h : AH) : Option (Int32 × AH) :=
  og (bz s0) <|
  some (s0, h)
def f_X12_isSign_18  (h : AH) : Option (Int32 × AH) :=
  f_X12_isSign_23 1 h
def f_X12_isSign (x0 : Int32) (h : AH) : Option (Int32 × AH) :=
  if x0 = 61 then (
    f_X12_isSign_18 h
  ) else (
    if x0 = 60 then (
      f_X12_isSign_18 h
    ) else (
      if x0 = 62 then (
        f_X12_isSign_18 h
      ) else (
        f_X12_isSign_23 0 h
      )
    )
  )
set_option maxHeartbeats 4000000 in
set_option maxRecDepth 100000 in
theorem v_X12_isSign_23 {E : EV} {d : Nat} (hd : 0 ≤ d) {r0 : Int32} {h0 : AH} {s0 : Int32} {h : AH} (hf : f_X12_isSign_23 s0 h = some (r0, h0)) : V E (d + 1) K_X12_isSign (ZI E r0 h0) h [] [.int s0] 23 := by
  unfold f_X12_isSign_23 at hf
  obtain ⟨b_1, hf⟩ := og_s hf
  exact V_zret rfl b_1 (so_s hf) dX12_isSign_23
set_option maxHeartbeats 4000000 in
set_option maxRecDepth 100000 in
theorem v_X12_isSign_18 {E : EV} {d : Nat} (hd : 0 ≤ d) {r0 : Int32} {h0 : AH}  {h : AH} (hf : f_X12_isSign_18 h = some (r0, h0)) : V E (d + 1) K_X12_isSign (ZI E r0 h0) h [] [] 18 := by
  unfold f_X12_isSign_18 at hf
  refine V_iconst (v := 1) dX12_isSign_18 (by decide) ?_
  refine V_goto (tgt := 23) dX12_isSign_19 (by decide) ?_
  exact v_X12_isSign_23 hd hf
set_option maxHeartbeats 4000000 in
set_option maxRecDepth 100000 in
theorem c_X12_isSign {E : EV} {d : Nat} (hd : 0 + 1 ≤ d) {x0 : Int32} {h : AH} {r0 : Int32} {h0 : AH} (hf : f_X12_isSign x0 h = some (r0, h0)) : Con E d K_X12_isSign (ZI E r0 h0) [.int x0] h := by
  obtain ⟨d, rfl⟩ : ∃ d', d = d' + 1 := ⟨d - 1, by omega⟩
  have hd := Nat.le_of_succ_le_succ hd
  refine Con.ofV rfl (Nat.le_of_ble_eq_true rfl) ?_
  unfold f_X12_isSign at hf
  show V E (d + 1) K_X12_isSign (ZI E r0 h0) h [(0, .int x0)] [] 0
  refine V_iload_n 0 dX12_isSign_0 rfl rfl ?_
  refine V_bipush (v := 61) dX12_isSign_1 (by decide) ?_
  refine V_ic_eq (tgt := 18) dX12_isSign_3 (by decide) (fun c_1 => ?_) (fun c_1 => ?_)
  · have hf := it_s c_1 hf
    refine V_sub [] rfl ?_
    exact v_X12_isSign_18 hd hf
  · have hf := if_s c_1 hf
    refine V_iload_n 0 dX12_isSign_6 rfl rfl ?_
    refine V_bipush (v := 60) dX12_isSign_7 (by decide) ?_
    refine V_ic_eq (tgt := 18) dX12_isSign_9 (by decide) (fun c_2 => ?_) (fun c_2 => ?_)
    · have hf := it_s c_2 hf
      refine V_sub [] rfl ?_
      exact v_X12_isSign_18 hd hf
    · have hf := if_s c_2 hf
      refine V_iload_n 0 dX12_isSign_12 rfl rfl ?_
      refine V_bipush (v := 62) dX12_isSign_13 (by decide) ?_
      refine V_ic_ne (tgt := 22) dX12_isSign_15 (by decide) (fun c_3 => ?_) (fun c_3 => ?_)
      · have hf := if_s c_3 hf
        refine V_iconst (v := 0) dX12_isSign_22 (by decide) ?_
        refine V_sub [] rfl ?_
        exact v_X12_isSign_23 hd hf
      · have hf := it_s c_3 hf
        refine V_sub [] rfl ?_
        exact v_X12_isSign_18 hd hf
theorem dX12_compares_0 : decode cX12_compares 0 = .ok (.iload_n 1, 1) := by decide +kernel
theorem dX12_compares_1 : decode cX12_compares 1 = .ok (.ifCond .eq 7, 3) := by decide +kernel
theorem dX12_compares_4 : decode cX12_compares 4 = .ok (.iload_n 2, 1) := by decide +kernel
theorem dX12_compares_5 : decode cX12_compares 5 = .ok (.goto 7, 3) := by decide +kernel
theorem dX12_compares_8 : decode cX12_compares 8 = .ok (.aload_n 0, 1) := by decide +kernel
theorem dX12_compares_9 : decode cX12_compares 9 = .ok (.invokevirtual 186, 3) := by decide +kernel
theorem dX12_compares_12 : decode cX12_compares 12 = .ok (.istore_n 3, 1) := by decide +kernel
theorem dX12_compares_13 : decode cX12_compares 13 = .ok (.aload_n 0, 1) := by decide +kernel
theorem dX12_compares_14 : decode cX12_compares 14 = .ok (.getfield 153, 3) := by decide +kernel
theorem dX12_compares_17 : decode cX12_compares 17 = .ok (.iconst (-1), 1) := by decide +kernel
theorem dX12_compares_18 : decode cX12_compares 18 = .ok (.if_icmp .eq 5, 3) := by decide +kernel
theorem dX12_compares_21 : decode cX12_compares 21 = .ok (.iconst 0, 1) := by decide +kernel
theorem dX12_compares_22 : decode cX12_compares 22 = .ok (.ireturn, 1) := by decide +kernel
theorem dX12_compares_23 : decode cX12_compares 23 = .ok (.aload_n 0, 1) := by decide +kernel
theorem dX12_compares_24 : decode cX12_compares 24 = .ok (.invokevirtual 163, 3) := by decide +kernel
theorem dX12_compares_27 : decode cX12_compares 27 = .ok (.istore 4, 2) := by decide +kernel
theorem dX12_compares_29 : decode cX12_compares 29 = .ok (.iload 4, 2) := by decide +kernel
theorem dX12_compares_31 : decode cX12_compares 31 = .ok (.invokestatic 206, 3) := by decide +kernel
theorem dX12_compares_34 : decode cX12_compares 34 = .ok (.ifCond .ne 8, 3) := by decide +kernel
theorem dX12_compares_37 : decode cX12_compares 37 = .ok (.aload_n 0, 1) := by decide +kernel
theorem dX12_compares_38 : decode cX12_compares 38 = .ok (.invokevirtual 159, 3) := by decide +kernel
theorem dX12_compares_41 : decode cX12_compares 41 = .ok (.ireturn, 1) := by decide +kernel
theorem dX12_compares_42 : decode cX12_compares 42 = .ok (.aload_n 0, 1) := by decide +kernel
theorem dX12_compares_43 : decode cX12_compares 43 = .ok (.dup, 1) := by decide +kernel
theorem dX12_compares_44 : decode cX12_compares 44 = .ok (.getfield 144, 3) := by decide +kernel
theorem dX12_compares_47 : decode cX12_compares 47 = .ok (.iconst 1, 1) := by decide +kernel
theorem dX12_compares_48 : decode cX12_compares 48 = .ok (.iadd, 1) := by decide +kernel
theorem dX12_compares_49 : decode cX12_compares 49 = .ok (.putfield 144, 3) := by decide +kernel
theorem dX12_compares_52 : decode cX12_compares 52 = .ok (.aload_n 0, 1) := by decide +kernel
theorem dX12_compares_53 : decode cX12_compares 53 = .ok (.invokevirtual 186, 3) := by decide +kernel
theorem dX12_compares_56 : decode cX12_compares 56 = .ok (.istore 5, 2) := by decide +kernel
theorem dX12_compares_58 : decode cX12_compares 58 = .ok (.iload 4, 2) := by decide +kernel
theorem dX12_compares_60 : decode cX12_compares 60 = .ok (.bipush 61, 2) := by decide +kernel
theorem dX12_compares_62 : decode cX12_compares 62 = .ok (.if_icmp .ne 17, 3) := by decide +kernel
theorem dX12_compares_65 : decode cX12_compares 65 = .ok (.iload_n 3, 1) := by decide +kernel
theorem dX12_compares_66 : decode cX12_compares 66 = .ok (.iload 5, 2) := by decide +kernel
theorem dX12_compares_68 : decode cX12_compares 68 = .ok (.if_icmp .ne 7, 3) := by decide +kernel
theorem dX12_compares_71 : decode cX12_compares 71 = .ok (.iconst 1, 1) := by decide +kernel
theorem dX12_compares_72 : decode cX12_compares 72 = .ok (.goto 39, 3) := by decide +kernel
theorem dX12_compares_75 : decode cX12_compares 75 = .ok (.iconst 0, 1) := by decide +kernel
theorem dX12_compares_76 : decode cX12_compares 76 = .ok (.goto 35, 3) := by decide +kernel
theorem dX12_compares_79 : decode cX12_compares 79 = .ok (.iload 4, 2) := by decide +kernel
theorem dX12_compares_81 : decode cX12_compares 81 = .ok (.bipush 60, 2) := by decide +kernel
theorem dX12_compares_83 : decode cX12_compares 83 = .ok (.if_icmp .ne 17, 3) := by decide +kernel
theorem dX12_compares_86 : decode cX12_compares 86 = .ok (.iload_n 3, 1) := by decide +kernel
theorem dX12_compares_87 : decode cX12_compares 87 = .ok (.iload 5, 2) := by decide +kernel
theorem dX12_compares_89 : decode cX12_compares 89 = .ok (.if_icmp .ge 7, 3) := by decide +kernel
theorem dX12_compares_92 : decode cX12_compares 92 = .ok (.iconst 1, 1) := by decide +kernel
theorem dX12_compares_93 : decode cX12_compares 93 = .ok (.goto 18, 3) := by decide +kernel
theorem dX12_compares_96 : decode cX12_compares 96 = .ok (.iconst 0, 1) := by decide +kernel
theorem dX12_compares_97 : decode cX12_compares 97 = .ok (.goto 14, 3) := by decide +kernel
theorem dX12_compares_100 : decode cX12_compares 100 = .ok (.iload_n 3, 1) := by decide +kernel
theorem dX12_compares_101 : decode cX12_compares 101 = .ok (.iload 5, 2) := by decide +kernel
theorem dX12_compares_103 : decode cX12_compares 103 = .ok (.if_icmp .le 7, 3) := by decide +kernel
theorem dX12_compares_106 : decode cX12_compares 106 = .ok (.iconst 1, 1) := by decide +kernel
theorem dX12_compares_107 : decode cX12_compares 107 = .ok (.goto 4, 3) := by decide +kernel
theorem dX12_compares_110 : decode cX12_compares 110 = .ok (.iconst 0, 1) := by decide +kernel
theorem dX12_compares_111 : decode cX12_compares 111 = .ok (.ireturn, 1) := by decide +kernel
theorem ML_X12_206 : MLk RX12 206 yX12_isSign := Or.inl ml_X12_206
theorem MS_X12_isSign : MSk K_X12_isSign 1 := ⟨⟨cd_X12_isSign, in_X12, ⟨by decide, by decide, by decide +kernel⟩, by decide⟩, st_X12_isSign⟩
def f_X12_compares_111 (s0 : Int32) (h : AH) : Option (Int32 × AH) :=
  og (bz s0) <|
  some (s0, h)
def f_X12_compares_12 (k0 : Nat) (s0 : Int32) (h : AH) : Option (Int32 × AH) :=
  if (h.1 k0 11) = (-1) then (
    ob (f_X12_look k0 h) fun r_4 h_3 =>
    ob (f_X12_isSign r_4 h_3) fun r_7 h_6 =>
    if r_7 = 0 then (
      ob (f_X12_fails k0 h_6) fun r_21 h_20 =>
      og (bz r_21) <|
      some (r_21, h_20)
    ) else (
      nm (sI h_6 k0 10 ((h_6.1 k0 10) + 1)) fun h_9 =>
      ob (r_X12_sum 12 k0 h_9) fun r_13 h_12 =>
      if r_4 = 61 then (
        if s0 = r_13 then (
          f_X12_compares_111 1 h_12
        ) else (
          f_X12_compares_111 0 h_12
        )
      ) else (
        if r_4 = 60 then (
          if r_13 ≤ s0 then (
            f_X12_compares_111 0 h_12
          ) else (
            f_X12_compares_111 1 h_12
          )
        ) else (
          if s0 ≤ r_13 then (
            f_X12_compares_111 0 h_12
          ) else (
            f_X12_compares_111 1 h_12
          )
        )
      )
    )
  ) else (
    some (0, h)
  )
def f_X12_compares (k0 : Nat) (x1 : Int32) (x2 : Int32) (h : AH) : Option (Int32 × AH) :=
  if x1 = 0 then (
    ob (r_X12_sum 12 k0 h) fun r_4 h_3 =>
    f_X12_compares_12 k0 r_4 h_3
  ) else (
    f_X12_compares_12 k0 x2 h
  )
set_option maxHeartbeats 4000000 in
set_option maxRecDepth 100000 in
theorem v_X12_compares_111 {E : EV} {d : Nat} (hd : 108 ≤ d) {r0 : Int32} {h0 : AH} {s0 : Int32} {h : AH} (hf : f_X12_compares_111 s0 h = some (r0, h0)) : V E (d + 1) K_X12_compares (ZI E r0 h0) h [] [.int s0] 111 := by
  unfold f_X12_compares_111 at hf
  obtain ⟨b_1, hf⟩ := og_s hf
  exact V_zret rfl b_1 (so_s hf) dX12_compares_111
set_option maxHeartbeats 4000000 in
set_option maxRecDepth 100000 in
theorem v_X12_compares_12 {E : EV} {d : Nat} (hd : 108 ≤ d) {r0 : Int32} {h0 : AH} {k0 : Nat} {s0 : Int32} {h : AH} (hf : f_X12_compares_12 k0 s0 h = some (r0, h0)) (t_k0 : kd k0 = (0, 12)) : V E (d + 1) K_X12_compares (ZI E r0 h0) h [(0, .ref k0)] [.int s0] 12 := by
  unfold f_X12_compares_12 at hf
  refine V_istore_n (L' := [(3, .int s0), (0, .ref k0)]) dX12_compares_12 rfl (Nat.le_of_ble_eq_true rfl) rfl rfl ?_
  refine V_aload_n 1 dX12_compares_13 rfl rfl ?_
  refine V_getI F_X12_153 rfl t_k0 rfl dX12_compares_14 ?_
  refine V_iconst (v := (-1)) dX12_compares_17 (by decide) ?_
  refine V_ic_eq (tgt := 23) dX12_compares_18 (by decide) (fun c_1 => ?_) (fun c_1 => ?_)
  · have hf := it_s c_1 hf
    refine V_aload_n 1 dX12_compares_23 rfl rfl ?_
    obtain ⟨r_4, h_3, e_2, hf⟩ := ob_s hf
    refine V_cvi (As := []) (rest := []) (c_X12_look (d := d) (Nat.le_trans (Nat.le_of_ble_eq_true rfl) hd) e_2 t_k0) ML_X12_163 MV_X12_look rfl t_k0 rfl rfl (Nat.le_of_ble_eq_true rfl) dX12_compares_24 ?_
    refine V_istore (L' := [(4, .int r_4), (3, .int s0), (0, .ref k0)]) dX12_compares_27 (Nat.le_of_ble_eq_true rfl) rfl rfl ?_
    refine V_iload 0 dX12_compares_29 rfl ?_
    obtain ⟨r_7, h_6, e_5, hf⟩ := ob_s hf
    refine V_csi (As := [.int r_4]) (rest := []) (c_X12_isSign (d := d) (Nat.le_trans (Nat.le_of_ble_eq_true rfl) hd) e_5) ML_X12_206 MS_X12_isSign rfl rfl rfl (Nat.le_of_ble_eq_true rfl) dX12_compares_31 ?_
    refine V_if_ne (tgt := 42) dX12_compares_34 (by decide) (fun c_8 => ?_) (fun c_8 => ?_)
    · have hf := if_s c_8 hf
      refine V_aload_n 2 dX12_compares_42 rfl rfl ?_
      refine V_dup dX12_compares_43 rfl ?_
      refine V_getI F_X12_144 rfl t_k0 rfl dX12_compares_44 ?_
      refine V_iconst (v := 1) dX12_compares_47 (by decide) ?_
      refine V_iadd dX12_compares_48 ?_
      obtain ⟨h_9, e_10, hf⟩ := nm_s hf
      refine V_putI P_X12_144 rfl t_k0 rfl e_10 dX12_compares_49 ?_
      refine V_aload_n 2 dX12_compares_52 rfl rfl ?_
      obtain ⟨r_13, h_12, e_11, hf⟩ := ob_s hf
      refine V_cvi (As := []) (rest := []) (cr_X12_sum 12 (d := d) (Nat.le_trans (Nat.le_of_ble_eq_true rfl) hd) e_11 t_k0) ML_X12_186 MV_X12_sum rfl t_k0 rfl rfl (Nat.le_of_ble_eq_true rfl) dX12_compares_53 ?_
      refine V_istore (L' := [(5, .int r_13), (4, .int r_4), (3, .int s0), (0, .ref k0)]) dX12_compares_56 (Nat.le_of_ble_eq_true rfl) rfl rfl ?_
      refine V_iload 1 dX12_compares_58 rfl ?_
      refine V_bipush (v := 61) dX12_compares_60 (by decide) ?_
      refine V_ic_ne (tgt := 79) dX12_compares_62 (by decide) (fun c_14 => ?_) (fun c_14 => ?_)
      · have hf := if_s c_14 hf
        refine V_iload 1 dX12_compares_79 rfl ?_
        refine V_bipush (v := 60) dX12_compares_81 (by decide) ?_
        refine V_ic_ne (tgt := 100) dX12_compares_83 (by decide) (fun c_15 => ?_) (fun c_15 => ?_)
        · have hf := if_s c_15 hf
          refine V_iload_n 2 dX12_compares_100 rfl rfl ?_
          refine V_iload 0 dX12_compares_101 rfl ?_
          refine V_ic_le (tgt := 110) dX12_compares_103 (by decide) (fun c_16 => ?_) (fun c_16 => ?_)
          · have hf := it_s c_16 hf
            refine V_iconst (v := 0) dX12_compares_110 (by decide) ?_
            refine V_sub [] rfl ?_
            exact v_X12_compares_111 hd hf
          · have hf := if_s c_16 hf
            refine V_iconst (v := 1) dX12_compares_106 (by decide) ?_
            refine V_goto (tgt := 111) dX12_compares_107 (by decide) ?_
            refine V_sub [] rfl ?_
            exact v_X12_compares_111 hd hf
        · have hf := it_s c_15 hf
          refine V_iload_n 2 dX12_compares_86 rfl rfl ?_
          refine V_iload 0 dX12_compares_87 rfl ?_
          refine V_ic_ge (tgt := 96) dX12_compares_89 (by decide) (fun c_17 => ?_) (fun c_17 => ?_)
          · have hf := it_s c_17 hf
            refine V_iconst (v := 0) dX12_compares_96 (by decide) ?_
            refine V_goto (tgt := 111) dX12_compares_97 (by decide) ?_
            refine V_sub [] rfl ?_
            exact v_X12_compares_111 hd hf
          · have hf := if_s c_17 hf
            refine V_iconst (v := 1) dX12_compares_92 (by decide) ?_
            refine V_goto (tgt := 111) dX12_compares_93 (by decide) ?_
            refine V_sub [] rfl ?_
            exact v_X12_compares_111 hd hf
      · have hf := it_s c_14 hf
        refine V_iload_n 2 dX12_compares_65 rfl rfl ?_
        refine V_iload 0 dX12_compares_66 rfl ?_
        refine V_ic_ne (tgt := 75) dX12_compares_68 (by decide) (fun c_18 => ?_) (fun c_18 => ?_)
        · have hf := if_s c_18 hf
          refine V_iconst (v := 0) dX12_compares_75 (by decide) ?_
          refine V_goto (tgt := 111) dX12_compares_76 (by decide) ?_
          refine V_sub [] rfl ?_
          exact v_X12_compares_111 hd hf
        · have hf := it_s c_18 hf
          refine V_iconst (v := 1) dX12_compares_71 (by decide) ?_
          refine V_goto (tgt := 111) dX12_compares_72 (by decide) ?_
          refine V_sub [] rfl ?_
          exact v_X12_compares_111 hd hf
    · have hf := it_s c_8 hf
      refine V_aload_n 2 dX12_compares_37 rfl rfl ?_
      obtain ⟨r_21, h_20, e_19, hf⟩ := ob_s hf
      refine V_cvi (As := []) (rest := []) (c_X12_fails (d := d) (Nat.le_trans (Nat.le_of_ble_eq_true rfl) hd) e_19 t_k0) ML_X12_159 MV_X12_fails rfl t_k0 rfl rfl (Nat.le_of_ble_eq_true rfl) dX12_compares_38 ?_
      obtain ⟨b_22, hf⟩ := og_s hf
      exact V_zret rfl b_22 (so_s hf) dX12_compares_41
  · have hf := if_s c_1 hf
    refine V_iconst (v := 0) dX12_compares_21 (by decide) ?_
    exact V_zret rfl (by decide) (so_s hf) dX12_compares_22
set_option maxHeartbeats 4000000 in
set_option maxRecDepth 100000 in
theorem c_X12_compares {E : EV} {d : Nat} (hd : 108 + 1 ≤ d) {k0 : Nat} {x1 : Int32} {x2 : Int32} {h : AH} {r0 : Int32} {h0 : AH} (hf : f_X12_compares k0 x1 x2 h = some (r0, h0)) (t_k0 : kd k0 = (0, 12)) : Con E d K_X12_compares (ZI E r0 h0) [.ref k0, .int x1, .int x2] h := by
  obtain ⟨d, rfl⟩ : ∃ d', d = d' + 1 := ⟨d - 1, by omega⟩
  have hd := Nat.le_of_succ_le_succ hd
  refine Con.ofV rfl (Nat.le_of_ble_eq_true rfl) ?_
  unfold f_X12_compares at hf
  show V E (d + 1) K_X12_compares (ZI E r0 h0) h [(0, .ref k0), (1, .int x1), (2, .int x2)] [] 0
  refine V_iload_n 1 dX12_compares_0 rfl rfl ?_
  refine V_if_eq (tgt := 8) dX12_compares_1 (by decide) (fun c_1 => ?_) (fun c_1 => ?_)
  · have hf := it_s c_1 hf
    refine V_aload_n 0 dX12_compares_8 rfl rfl ?_
    obtain ⟨r_4, h_3, e_2, hf⟩ := ob_s hf
    refine V_cvi (As := []) (rest := []) (cr_X12_sum 12 (d := d) (Nat.le_trans (Nat.le_of_ble_eq_true rfl) hd) e_2 t_k0) ML_X12_186 MV_X12_sum rfl t_k0 rfl rfl (Nat.le_of_ble_eq_true rfl) dX12_compares_9 ?_
    refine V_sub [0] rfl ?_
    exact v_X12_compares_12 hd hf t_k0
  · have hf := if_s c_1 hf
    refine V_iload_n 2 dX12_compares_4 rfl rfl ?_
    refine V_goto (tgt := 12) dX12_compares_5 (by decide) ?_
    refine V_sub [0] rfl ?_
    exact v_X12_compares_12 hd hf t_k0
theorem dX12_part_0 : decode cX12_part 0 = .ok (.iload_n 1, 1) := by decide +kernel
theorem dX12_part_1 : decode cX12_part 1 = .ok (.ifCond .eq 12, 3) := by decide +kernel
theorem dX12_part_4 : decode cX12_part 4 = .ok (.aload_n 0, 1) := by decide +kernel
theorem dX12_part_5 : decode cX12_part 5 = .ok (.iconst 1, 1) := by decide +kernel
theorem dX12_part_6 : decode cX12_part 6 = .ok (.iload_n 2, 1) := by decide +kernel
theorem dX12_part_7 : decode cX12_part 7 = .ok (.invokevirtual 216, 3) := by decide +kernel
theorem dX12_part_10 : decode cX12_part 10 = .ok (.goto 7, 3) := by decide +kernel
theorem dX12_part_13 : decode cX12_part 13 = .ok (.aload_n 0, 1) := by decide +kernel
theorem dX12_part_14 : decode cX12_part 14 = .ok (.invokevirtual 209, 3) := by decide +kernel
theorem dX12_part_17 : decode cX12_part 17 = .ok (.istore_n 3, 1) := by decide +kernel
theorem dX12_part_18 : decode cX12_part 18 = .ok (.aload_n 0, 1) := by decide +kernel
theorem dX12_part_19 : decode cX12_part 19 = .ok (.getfield 153, 3) := by decide +kernel
theorem dX12_part_22 : decode cX12_part 22 = .ok (.iconst (-1), 1) := by decide +kernel
theorem dX12_part_23 : decode cX12_part 23 = .ok (.if_icmp .ne 46, 3) := by decide +kernel
theorem dX12_part_26 : decode cX12_part 26 = .ok (.aload_n 0, 1) := by decide +kernel
theorem dX12_part_27 : decode cX12_part 27 = .ok (.invokevirtual 163, 3) := by decide +kernel
theorem dX12_part_30 : decode cX12_part 30 = .ok (.bipush 38, 2) := by decide +kernel
theorem dX12_part_32 : decode cX12_part 32 = .ok (.if_icmp .ne 37, 3) := by decide +kernel
theorem dX12_part_35 : decode cX12_part 35 = .ok (.aload_n 0, 1) := by decide +kernel
theorem dX12_part_36 : decode cX12_part 36 = .ok (.dup, 1) := by decide +kernel
theorem dX12_part_37 : decode cX12_part 37 = .ok (.getfield 144, 3) := by decide +kernel
theorem dX12_part_40 : decode cX12_part 40 = .ok (.iconst 1, 1) := by decide +kernel
theorem dX12_part_41 : decode cX12_part 41 = .ok (.iadd, 1) := by decide +kernel
theorem dX12_part_42 : decode cX12_part 42 = .ok (.putfield 144, 3) := by decide +kernel
theorem dX12_part_45 : decode cX12_part 45 = .ok (.aload_n 0, 1) := by decide +kernel
theorem dX12_part_46 : decode cX12_part 46 = .ok (.invokevirtual 209, 3) := by decide +kernel
theorem dX12_part_49 : decode cX12_part 49 = .ok (.istore 4, 2) := by decide +kernel
theorem dX12_part_51 : decode cX12_part 51 = .ok (.iload_n 3, 1) := by decide +kernel
theorem dX12_part_52 : decode cX12_part 52 = .ok (.ifCond .eq 12, 3) := by decide +kernel
theorem dX12_part_55 : decode cX12_part 55 = .ok (.iload 4, 2) := by decide +kernel
theorem dX12_part_57 : decode cX12_part 57 = .ok (.ifCond .eq 7, 3) := by decide +kernel
theorem dX12_part_60 : decode cX12_part 60 = .ok (.iconst 1, 1) := by decide +kernel
theorem dX12_part_61 : decode cX12_part 61 = .ok (.goto 4, 3) := by decide +kernel
theorem dX12_part_64 : decode cX12_part 64 = .ok (.iconst 0, 1) := by decide +kernel
theorem dX12_part_65 : decode cX12_part 65 = .ok (.istore_n 3, 1) := by decide +kernel
theorem dX12_part_66 : decode cX12_part 66 = .ok (.goto (-48), 3) := by decide +kernel
theorem dX12_part_69 : decode cX12_part 69 = .ok (.iload_n 3, 1) := by decide +kernel
theorem dX12_part_70 : decode cX12_part 70 = .ok (.ireturn, 1) := by decide +kernel
theorem ML_X12_209 : MLk RX12 209 yX12_unit := Or.inl ml_X12_209
theorem MV_X12_unit : MVk K_X12_unit 0 12 := ⟨⟨cd_X12_unit, in_X12, ⟨by decide, by decide, by decide +kernel⟩, by decide⟩, im_X12_unit, se_X12_unit, _, _, rfl⟩
theorem ML_X12_216 : MLk RX12 216 yX12_compares := Or.inl ml_X12_216
theorem MV_X12_compares : MVk K_X12_compares 2 12 := ⟨⟨cd_X12_compares, in_X12, ⟨by decide, by decide, by decide +kernel⟩, by decide⟩, im_X12_compares, se_X12_compares, _, _, rfl⟩
def f_X12_part_65 (cb : Nat → AH → Option (Int32 × AH)) (q18 : Nat → Int32 → AH → Option (Int32 × AH)) (k0 : Nat) (s0 : Int32) (h : AH) : Option (Int32 × AH) :=
  q18 k0 s0 h
def f_X12_part_64 (cb : Nat → AH → Option (Int32 × AH)) (q18 : Nat → Int32 → AH → Option (Int32 × AH)) (k0 : Nat) (h : AH) : Option (Int32 × AH) :=
  f_X12_part_65 cb q18 k0 0 h
def f_X12_part_69 (cb : Nat → AH → Option (Int32 × AH)) (x3 : Int32) (h : AH) : Option (Int32 × AH) :=
  og (bz x3) <|
  some (x3, h)
def f_X12_part_18 (cb : Nat → AH → Option (Int32 × AH)) : Nat → Nat → Int32 → AH → Option (Int32 × AH)
  | 0, _, _, _ => none
  | n + 1, k0, x3, h =>
    if (h.1 k0 11) = (-1) then (
      ob (f_X12_look k0 h) fun r_4 h_3 =>
      if r_4 = 38 then (
        nm (sI h_3 k0 10 ((h_3.1 k0 10) + 1)) fun h_6 =>
        ob (cb k0 h_6) fun r_10 h_9 =>
        if x3 = 0 then (
          f_X12_part_64 cb (f_X12_part_18 cb n) k0 h_9
        ) else (
          if r_10 = 0 then (
            f_X12_part_64 cb (f_X12_part_18 cb n) k0 h_9
          ) else (
            f_X12_part_65 cb (f_X12_part_18 cb n) k0 1 h_9
          )
        )
      ) else (
        f_X12_part_69 cb x3 h_3
      )
    ) else (
      f_X12_part_69 cb x3 h
    )
def f_X12_part_17 (cb : Nat → AH → Option (Int32 × AH)) (k0 : Nat) (s0 : Int32) (h : AH) : Option (Int32 × AH) :=
  f_X12_part_18 cb FU k0 s0 h
def f_X12_part (cb : Nat → AH → Option (Int32 × AH)) (k0 : Nat) (x1 : Int32) (x2 : Int32) (h : AH) : Option (Int32 × AH) :=
  if x1 = 0 then (
    ob (cb k0 h) fun r_4 h_3 =>
    f_X12_part_17 cb k0 r_4 h_3
  ) else (
    ob (f_X12_compares k0 1 x2 h) fun r_7 h_6 =>
    f_X12_part_17 cb k0 r_7 h_6
  )
set_option maxHeartbeats 4000000 in
set_option maxRecDepth 100000 in
theorem v_X12_part_65 {E : EV} {d : Nat} {cb : Nat → AH → Option (Int32 × AH)} {dc : Nat} (hcb : ∀ {d : Nat}, dc ≤ d → ∀ {k0 : Nat} {h : AH} {r0 : Int32} {h0 : AH}, cb k0 h = some (r0, h0) → kd k0 = (0, 12) → Con E d K_X12_unit (ZI E r0 h0) [.ref k0] h) (hd : 109 + dc ≤ d) {r0 : Int32} {h0 : AH} {q18 : Nat → Int32 → AH → Option (Int32 × AH)} (cq18 : ∀ (k0 : Nat) (x3 : Int32) (h : AH), q18 k0 x3 h = some (r0, h0) → kd k0 = (0, 12) → V E (d + 1) K_X12_part (ZI E r0 h0) h [(0, .ref k0), (3, .int x3)] [] 18) {k0 : Nat} {s0 : Int32} {h : AH} (hf : f_X12_part_65 cb q18 k0 s0 h = some (r0, h0)) (t_k0 : kd k0 = (0, 12)) : V E (d + 1) K_X12_part (ZI E r0 h0) h [(0, .ref k0)] [.int s0] 65 := by
  unfold f_X12_part_65 at hf
  refine V_istore_n (L' := [(3, .int s0), (0, .ref k0)]) dX12_part_65 rfl (Nat.le_of_ble_eq_true rfl) rfl rfl ?_
  refine V_goto (tgt := 18) dX12_part_66 (by decide) ?_
  refine V_sub [1, 0] rfl ?_
  exact cq18 _ _ _ hf t_k0
set_option maxHeartbeats 4000000 in
set_option maxRecDepth 100000 in
theorem v_X12_part_64 {E : EV} {d : Nat} {cb : Nat → AH → Option (Int32 × AH)} {dc : Nat} (hcb : ∀ {d : Nat}, dc ≤ d → ∀ {k0 : Nat} {h : AH} {r0 : Int32} {h0 : AH}, cb k0 h = some (r0, h0) → kd k0 = (0, 12) → Con E d K_X12_unit (ZI E r0 h0) [.ref k0] h) (hd : 109 + dc ≤ d) {r0 : Int32} {h0 : AH} {q18 : Nat → Int32 → AH → Option (Int32 × AH)} (cq18 : ∀ (k0 : Nat) (x3 : Int32) (h : AH), q18 k0 x3 h = some (r0, h0) → kd k0 = (0, 12) → V E (d + 1) K_X12_part (ZI E r0 h0) h [(0, .ref k0), (3, .int x3)] [] 18) {k0 : Nat} {h : AH} (hf : f_X12_part_64 cb q18 k0 h = some (r0, h0)) (t_k0 : kd k0 = (0, 12)) : V E (d + 1) K_X12_part (ZI E r0 h0) h [(0, .ref k0)] [] 64 := by
  unfold f_X12_part_64 at hf
  refine V_iconst (v := 0) dX12_part_64 (by decide) ?_
  exact v_X12_part_65 hcb hd cq18 hf t_k0
set_option maxHeartbeats 4000000 in
set_option maxRecDepth 100000 in
theorem v_X12_part_69 {E : EV} {d : Nat} {cb : Nat → AH → Option (Int32 × AH)} {dc : Nat} (hcb : ∀ {d : Nat}, dc ≤ d → ∀ {k0 : Nat} {h : AH} {r0 : Int32} {h0 : AH}, cb k0 h = some (r0, h0) → kd k0 = (0, 12) → Con E d K_X12_unit (ZI E r0 h0) [.ref k0] h) (hd : 109 + dc ≤ d) {r0 : Int32} {h0 : AH} {x3 : Int32} {h : AH} (hf : f_X12_part_69 cb x3 h = some (r0, h0)) : V E (d + 1) K_X12_part (ZI E r0 h0) h [(3, .int x3)] [] 69 := by
  unfold f_X12_part_69 at hf
  refine V_iload_n 0 dX12_part_69 rfl rfl ?_
  obtain ⟨b_1, hf⟩ := og_s hf
  exact V_zret rfl b_1 (so_s hf) dX12_part_70
set_option maxHeartbeats 4000000 in
set_option maxRecDepth 100000 in
theorem v_X12_part_18 {E : EV} {d : Nat} {cb : Nat → AH → Option (Int32 × AH)} {dc : Nat} (hcb : ∀ {d : Nat}, dc ≤ d → ∀ {k0 : Nat} {h : AH} {r0 : Int32} {h0 : AH}, cb k0 h = some (r0, h0) → kd k0 = (0, 12) → Con E d K_X12_unit (ZI E r0 h0) [.ref k0] h) (hd : 109 + dc ≤ d) {r0 : Int32} {h0 : AH} : ∀ (n : Nat) (k0 : Nat) (x3 : Int32) (h : AH), f_X12_part_18 cb n k0 x3 h = some (r0, h0) → kd k0 = (0, 12) → V E (d + 1) K_X12_part (ZI E r0 h0) h [(0, .ref k0), (3, .int x3)] [] 18 := by
  intro n
  induction n with
  | zero =>
    intro k0 x3 h hf
    rw [f_X12_part_18] at hf
    cases hf
  | succ n ih =>
    intro k0 x3 h hf t_k0
    rw [f_X12_part_18] at hf
    refine V_aload_n 0 dX12_part_18 rfl rfl ?_
    refine V_getI F_X12_153 rfl t_k0 rfl dX12_part_19 ?_
    refine V_iconst (v := (-1)) dX12_part_22 (by decide) ?_
    refine V_ic_ne (tgt := 69) dX12_part_23 (by decide) (fun c_1 => ?_) (fun c_1 => ?_)
    · have hf := if_s c_1 hf
      refine V_sub [1] rfl ?_
      exact v_X12_part_69 hcb hd hf
    · have hf := it_s c_1 hf
      refine V_aload_n 0 dX12_part_26 rfl rfl ?_
      obtain ⟨r_4, h_3, e_2, hf⟩ := ob_s hf
      refine V_cvi (As := []) (rest := []) (c_X12_look (d := d) (by omega) e_2 t_k0) ML_X12_163 MV_X12_look rfl t_k0 rfl rfl (Nat.le_of_ble_eq_true rfl) dX12_part_27 ?_
      refine V_bipush (v := 38) dX12_part_30 (by decide) ?_
      refine V_ic_ne (tgt := 69) dX12_part_32 (by decide) (fun c_5 => ?_) (fun c_5 => ?_)
      · have hf := if_s c_5 hf
        refine V_sub [1] rfl ?_
        exact v_X12_part_69 hcb hd hf
      · have hf := it_s c_5 hf
        refine V_aload_n 0 dX12_part_35 rfl rfl ?_
        refine V_dup dX12_part_36 rfl ?_
        refine V_getI F_X12_144 rfl t_k0 rfl dX12_part_37 ?_
        refine V_iconst (v := 1) dX12_part_40 (by decide) ?_
        refine V_iadd dX12_part_41 ?_
        obtain ⟨h_6, e_7, hf⟩ := nm_s hf
        refine V_putI P_X12_144 rfl t_k0 rfl e_7 dX12_part_42 ?_
        refine V_aload_n 0 dX12_part_45 rfl rfl ?_
        obtain ⟨r_10, h_9, e_8, hf⟩ := ob_s hf
        refine V_cvi (As := []) (rest := []) (hcb (d := d) (by omega) e_8 t_k0) ML_X12_209 MV_X12_unit rfl t_k0 rfl rfl (Nat.le_of_ble_eq_true rfl) dX12_part_46 ?_
        refine V_istore (L' := [(4, .int r_10), (0, .ref k0), (3, .int x3)]) dX12_part_49 (Nat.le_of_ble_eq_true rfl) rfl rfl ?_
        refine V_iload_n 2 dX12_part_51 rfl rfl ?_
        refine V_if_eq (tgt := 64) dX12_part_52 (by decide) (fun c_11 => ?_) (fun c_11 => ?_)
        · have hf := it_s c_11 hf
          refine V_sub [1] rfl ?_
          exact v_X12_part_64 hcb hd ih hf t_k0
        · have hf := if_s c_11 hf
          refine V_iload 0 dX12_part_55 rfl ?_
          refine V_if_eq (tgt := 64) dX12_part_57 (by decide) (fun c_12 => ?_) (fun c_12 => ?_)
          · have hf := it_s c_12 hf
            refine V_sub [1] rfl ?_
            exact v_X12_part_64 hcb hd ih hf t_k0
          · have hf := if_s c_12 hf
            refine V_iconst (v := 1) dX12_part_60 (by decide) ?_
            refine V_goto (tgt := 65) dX12_part_61 (by decide) ?_
            refine V_sub [1] rfl ?_
            exact v_X12_part_65 hcb hd ih hf t_k0
set_option maxHeartbeats 4000000 in
set_option maxRecDepth 100000 in
theorem v_X12_part_17 {E : EV} {d : Nat} {cb : Nat → AH → Option (Int32 × AH)} {dc : Nat} (hcb : ∀ {d : Nat}, dc ≤ d → ∀ {k0 : Nat} {h : AH} {r0 : Int32} {h0 : AH}, cb k0 h = some (r0, h0) → kd k0 = (0, 12) → Con E d K_X12_unit (ZI E r0 h0) [.ref k0] h) (hd : 109 + dc ≤ d) {r0 : Int32} {h0 : AH} {k0 : Nat} {s0 : Int32} {h : AH} (hf : f_X12_part_17 cb k0 s0 h = some (r0, h0)) (t_k0 : kd k0 = (0, 12)) : V E (d + 1) K_X12_part (ZI E r0 h0) h [(0, .ref k0)] [.int s0] 17 := by
  unfold f_X12_part_17 at hf
  refine V_istore_n (L' := [(3, .int s0), (0, .ref k0)]) dX12_part_17 rfl (Nat.le_of_ble_eq_true rfl) rfl rfl ?_
  refine V_sub [1, 0] rfl ?_
  exact v_X12_part_18 hcb hd FU _ _ _ hf t_k0
set_option maxHeartbeats 4000000 in
set_option maxRecDepth 100000 in
theorem c_X12_part {E : EV} {d : Nat} {cb : Nat → AH → Option (Int32 × AH)} {dc : Nat} (hcb : ∀ {d : Nat}, dc ≤ d → ∀ {k0 : Nat} {h : AH} {r0 : Int32} {h0 : AH}, cb k0 h = some (r0, h0) → kd k0 = (0, 12) → Con E d K_X12_unit (ZI E r0 h0) [.ref k0] h) (hd : 109 + dc + 1 ≤ d) {k0 : Nat} {x1 : Int32} {x2 : Int32} {h : AH} {r0 : Int32} {h0 : AH} (hf : f_X12_part cb k0 x1 x2 h = some (r0, h0)) (t_k0 : kd k0 = (0, 12)) : Con E d K_X12_part (ZI E r0 h0) [.ref k0, .int x1, .int x2] h := by
  obtain ⟨d, rfl⟩ : ∃ d', d = d' + 1 := ⟨d - 1, by omega⟩
  have hd := Nat.le_of_succ_le_succ hd
  refine Con.ofV rfl (Nat.le_of_ble_eq_true rfl) ?_
  unfold f_X12_part at hf
  show V E (d + 1) K_X12_part (ZI E r0 h0) h [(0, .ref k0), (1, .int x1), (2, .int x2)] [] 0
  refine V_iload_n 1 dX12_part_0 rfl rfl ?_
  refine V_if_eq (tgt := 13) dX12_part_1 (by decide) (fun c_1 => ?_) (fun c_1 => ?_)
  · have hf := it_s c_1 hf
    refine V_aload_n 0 dX12_part_13 rfl rfl ?_
    obtain ⟨r_4, h_3, e_2, hf⟩ := ob_s hf
    refine V_cvi (As := []) (rest := []) (hcb (d := d) (by omega) e_2 t_k0) ML_X12_209 MV_X12_unit rfl t_k0 rfl rfl (Nat.le_of_ble_eq_true rfl) dX12_part_14 ?_
    refine V_sub [0] rfl ?_
    exact v_X12_part_17 hcb hd hf t_k0
  · have hf := if_s c_1 hf
    refine V_aload_n 0 dX12_part_4 rfl rfl ?_
    refine V_iconst (v := 1) dX12_part_5 (by decide) ?_
    refine V_iload_n 2 dX12_part_6 rfl rfl ?_
    obtain ⟨r_7, h_6, e_5, hf⟩ := ob_s hf
    refine V_cvi (As := [.int 1, .int x2]) (rest := []) (c_X12_compares (d := d) (by omega) e_5 t_k0) ML_X12_216 MV_X12_compares rfl t_k0 rfl rfl (Nat.le_of_ble_eq_true rfl) dX12_part_7 ?_
    refine V_goto (tgt := 17) dX12_part_10 (by decide) ?_
    refine V_sub [0] rfl ?_
    exact v_X12_part_17 hcb hd hf t_k0
theorem dX12_condition_0 : decode cX12_condition 0 = .ok (.aload_n 0, 1) := by decide +kernel
theorem dX12_condition_1 : decode cX12_condition 1 = .ok (.iload_n 1, 1) := by decide +kernel
theorem dX12_condition_2 : decode cX12_condition 2 = .ok (.iload_n 2, 1) := by decide +kernel
theorem dX12_condition_3 : decode cX12_condition 3 = .ok (.invokevirtual 219, 3) := by decide +kernel
theorem dX12_condition_6 : decode cX12_condition 6 = .ok (.istore_n 3, 1) := by decide +kernel
theorem dX12_condition_7 : decode cX12_condition 7 = .ok (.aload_n 0, 1) := by decide +kernel
theorem dX12_condition_8 : decode cX12_condition 8 = .ok (.getfield 153, 3) := by decide +kernel
theorem dX12_condition_11 : decode cX12_condition 11 = .ok (.iconst (-1), 1) := by decide +kernel
theorem dX12_condition_12 : decode cX12_condition 12 = .ok (.if_icmp .ne 48, 3) := by decide +kernel
theorem dX12_condition_15 : decode cX12_condition 15 = .ok (.aload_n 0, 1) := by decide +kernel
theorem dX12_condition_16 : decode cX12_condition 16 = .ok (.invokevirtual 163, 3) := by decide +kernel
theorem dX12_condition_19 : decode cX12_condition 19 = .ok (.bipush 124, 2) := by decide +kernel
theorem dX12_condition_21 : decode cX12_condition 21 = .ok (.if_icmp .ne 39, 3) := by decide +kernel
theorem dX12_condition_24 : decode cX12_condition 24 = .ok (.aload_n 0, 1) := by decide +kernel
theorem dX12_condition_25 : decode cX12_condition 25 = .ok (.dup, 1) := by decide +kernel
theorem dX12_condition_26 : decode cX12_condition 26 = .ok (.getfield 144, 3) := by decide +kernel
theorem dX12_condition_29 : decode cX12_condition 29 = .ok (.iconst 1, 1) := by decide +kernel
theorem dX12_condition_30 : decode cX12_condition 30 = .ok (.iadd, 1) := by decide +kernel
theorem dX12_condition_31 : decode cX12_condition 31 = .ok (.putfield 144, 3) := by decide +kernel
theorem dX12_condition_34 : decode cX12_condition 34 = .ok (.aload_n 0, 1) := by decide +kernel
theorem dX12_condition_35 : decode cX12_condition 35 = .ok (.iconst 0, 1) := by decide +kernel
theorem dX12_condition_36 : decode cX12_condition 36 = .ok (.iconst 0, 1) := by decide +kernel
theorem dX12_condition_37 : decode cX12_condition 37 = .ok (.invokevirtual 219, 3) := by decide +kernel
theorem dX12_condition_40 : decode cX12_condition 40 = .ok (.istore 4, 2) := by decide +kernel
theorem dX12_condition_42 : decode cX12_condition 42 = .ok (.iload_n 3, 1) := by decide +kernel
theorem dX12_condition_43 : decode cX12_condition 43 = .ok (.ifCond .ne 8, 3) := by decide +kernel
theorem dX12_condition_46 : decode cX12_condition 46 = .ok (.iload 4, 2) := by decide +kernel
theorem dX12_condition_48 : decode cX12_condition 48 = .ok (.ifCond .eq 7, 3) := by decide +kernel
theorem dX12_condition_51 : decode cX12_condition 51 = .ok (.iconst 1, 1) := by decide +kernel
theorem dX12_condition_52 : decode cX12_condition 52 = .ok (.goto 4, 3) := by decide +kernel
theorem dX12_condition_55 : decode cX12_condition 55 = .ok (.iconst 0, 1) := by decide +kernel
theorem dX12_condition_56 : decode cX12_condition 56 = .ok (.istore_n 3, 1) := by decide +kernel
theorem dX12_condition_57 : decode cX12_condition 57 = .ok (.goto (-50), 3) := by decide +kernel
theorem dX12_condition_60 : decode cX12_condition 60 = .ok (.iload_n 3, 1) := by decide +kernel
theorem dX12_condition_61 : decode cX12_condition 61 = .ok (.ireturn, 1) := by decide +kernel
theorem ML_X12_219 : MLk RX12 219 yX12_part := Or.inl ml_X12_219
theorem MV_X12_part : MVk K_X12_part 2 12 := ⟨⟨cd_X12_part, in_X12, ⟨by decide, by decide, by decide +kernel⟩, by decide⟩, im_X12_part, se_X12_part, _, _, rfl⟩
def f_X12_condition_56 (cb : Nat → AH → Option (Int32 × AH)) (q7 : Nat → Int32 → AH → Option (Int32 × AH)) (k0 : Nat) (s0 : Int32) (h : AH) : Option (Int32 × AH) :=
  q7 k0 s0 h
def f_X12_condition_51 (cb : Nat → AH → Option (Int32 × AH)) (q7 : Nat → Int32 → AH → Option (Int32 × AH)) (k0 : Nat) (h : AH) : Option (Int32 × AH) :=
  f_X12_condition_56 cb q7 k0 1 h
def f_X12_condition_60 (cb : Nat → AH → Option (Int32 × AH)) (x3 : Int32) (h : AH) : Option (Int32 × AH) :=
  og (bz x3) <|
  some (x3, h)
def f_X12_condition_7 (cb : Nat → AH → Option (Int32 × AH)) : Nat → Nat → Int32 → AH → Option (Int32 × AH)
  | 0, _, _, _ => none
  | n + 1, k0, x3, h =>
    if (h.1 k0 11) = (-1) then (
      ob (f_X12_look k0 h) fun r_4 h_3 =>
      if r_4 = 124 then (
        nm (sI h_3 k0 10 ((h_3.1 k0 10) + 1)) fun h_6 =>
        ob (f_X12_part cb k0 0 0 h_6) fun r_10 h_9 =>
        if x3 = 0 then (
          if r_10 = 0 then (
            f_X12_condition_56 cb (f_X12_condition_7 cb n) k0 0 h_9
          ) else (
            f_X12_condition_51 cb (f_X12_condition_7 cb n) k0 h_9
          )
        ) else (
          f_X12_condition_51 cb (f_X12_condition_7 cb n) k0 h_9
        )
      ) else (
        f_X12_condition_60 cb x3 h_3
      )
    ) else (
      f_X12_condition_60 cb x3 h
    )
def f_X12_condition (cb : Nat → AH → Option (Int32 × AH)) (k0 : Nat) (x1 : Int32) (x2 : Int32) (h : AH) : Option (Int32 × AH) :=
  ob (f_X12_part cb k0 x1 x2 h) fun r_3 h_2 =>
  f_X12_condition_7 cb FU k0 r_3 h_2
set_option maxHeartbeats 4000000 in
set_option maxRecDepth 100000 in
theorem v_X12_condition_56 {E : EV} {d : Nat} {cb : Nat → AH → Option (Int32 × AH)} {dc : Nat} (hcb : ∀ {d : Nat}, dc ≤ d → ∀ {k0 : Nat} {h : AH} {r0 : Int32} {h0 : AH}, cb k0 h = some (r0, h0) → kd k0 = (0, 12) → Con E d K_X12_unit (ZI E r0 h0) [.ref k0] h) (hd : 110 + dc ≤ d) {r0 : Int32} {h0 : AH} {q7 : Nat → Int32 → AH → Option (Int32 × AH)} (cq7 : ∀ (k0 : Nat) (x3 : Int32) (h : AH), q7 k0 x3 h = some (r0, h0) → kd k0 = (0, 12) → V E (d + 1) K_X12_condition (ZI E r0 h0) h [(0, .ref k0), (3, .int x3)] [] 7) {k0 : Nat} {s0 : Int32} {h : AH} (hf : f_X12_condition_56 cb q7 k0 s0 h = some (r0, h0)) (t_k0 : kd k0 = (0, 12)) : V E (d + 1) K_X12_condition (ZI E r0 h0) h [(0, .ref k0)] [.int s0] 56 := by
  unfold f_X12_condition_56 at hf
  refine V_istore_n (L' := [(3, .int s0), (0, .ref k0)]) dX12_condition_56 rfl (Nat.le_of_ble_eq_true rfl) rfl rfl ?_
  refine V_goto (tgt := 7) dX12_condition_57 (by decide) ?_
  refine V_sub [1, 0] rfl ?_
  exact cq7 _ _ _ hf t_k0
set_option maxHeartbeats 4000000 in
set_option maxRecDepth 100000 in
theorem v_X12_condition_51 {E : EV} {d : Nat} {cb : Nat → AH → Option (Int32 × AH)} {dc : Nat} (hcb : ∀ {d : Nat}, dc ≤ d → ∀ {k0 : Nat} {h : AH} {r0 : Int32} {h0 : AH}, cb k0 h = some (r0, h0) → kd k0 = (0, 12) → Con E d K_X12_unit (ZI E r0 h0) [.ref k0] h) (hd : 110 + dc ≤ d) {r0 : Int32} {h0 : AH} {q7 : Nat → Int32 → AH → Option (Int32 × AH)} (cq7 : ∀ (k0 : Nat) (x3 : Int32) (h : AH), q7 k0 x3 h = some (r0, h0) → kd k0 = (0, 12) → V E (d + 1) K_X12_condition (ZI E r0 h0) h [(0, .ref k0), (3, .int x3)] [] 7) {k0 : Nat} {h : AH} (hf : f_X12_condition_51 cb q7 k0 h = some (r0, h0)) (t_k0 : kd k0 = (0, 12)) : V E (d + 1) K_X12_condition (ZI E r0 h0) h [(0, .ref k0)] [] 51 := by
  unfold f_X12_condition_51 at hf
  refine V_iconst (v := 1) dX12_condition_51 (by decide) ?_
  refine V_goto (tgt := 56) dX12_condition_52 (by decide) ?_
  exact v_X12_condition_56 hcb hd cq7 hf t_k0
set_option maxHeartbeats 4000000 in
set_option maxRecDepth 100000 in
theorem v_X12_condition_60 {E : EV} {d : Nat} {cb : Nat → AH → Option (Int32 × AH)} {dc : Nat} (hcb : ∀ {d : Nat}, dc ≤ d → ∀ {k0 : Nat} {h : AH} {r0 : Int32} {h0 : AH}, cb k0 h = some (r0, h0) → kd k0 = (0, 12) → Con E d K_X12_unit (ZI E r0 h0) [.ref k0] h) (hd : 110 + dc ≤ d) {r0 : Int32} {h0 : AH} {x3 : Int32} {h : AH} (hf : f_X12_condition_60 cb x3 h = some (r0, h0)) : V E (d + 1) K_X12_condition (ZI E r0 h0) h [(3, .int x3)] [] 60 := by
  unfold f_X12_condition_60 at hf
  refine V_iload_n 0 dX12_condition_60 rfl rfl ?_
  obtain ⟨b_1, hf⟩ := og_s hf
  exact V_zret rfl b_1 (so_s hf) dX12_condition_61
set_option maxHeartbeats 4000000 in
set_option maxRecDepth 100000 in
theorem v_X12_condition_7 {E : EV} {d : Nat} {cb : Nat → AH → Option (Int32 × AH)} {dc : Nat} (hcb : ∀ {d : Nat}, dc ≤ d → ∀ {k0 : Nat} {h : AH} {r0 : Int32} {h0 : AH}, cb k0 h = some (r0, h0) → kd k0 = (0, 12) → Con E d K_X12_unit (ZI E r0 h0) [.ref k0] h) (hd : 110 + dc ≤ d) {r0 : Int32} {h0 : AH} : ∀ (n : Nat) (k0 : Nat) (x3 : Int32) (h : AH), f_X12_condition_7 cb n k0 x3 h = some (r0, h0) → kd k0 = (0, 12) → V E (d + 1) K_X12_condition (ZI E r0 h0) h [(0, .ref k0), (3, .int x3)] [] 7 := by
  intro n
  induction n with
  | zero =>
    intro k0 x3 h hf
    rw [f_X12_condition_7] at hf
    cases hf
  | succ n ih =>
    intro k0 x3 h hf t_k0
    rw [f_X12_condition_7] at hf
    refine V_aload_n 0 dX12_condition_7 rfl rfl ?_
    refine V_getI F_X12_153 rfl t_k0 rfl dX12_condition_8 ?_
    refine V_iconst (v := (-1)) dX12_condition_11 (by decide) ?_
    refine V_ic_ne (tgt := 60) dX12_condition_12 (by decide) (fun c_1 => ?_) (fun c_1 => ?_)
    · have hf := if_s c_1 hf
      refine V_sub [1] rfl ?_
      exact v_X12_condition_60 hcb hd hf
    · have hf := it_s c_1 hf
      refine V_aload_n 0 dX12_condition_15 rfl rfl ?_
      obtain ⟨r_4, h_3, e_2, hf⟩ := ob_s hf
      refine V_cvi (As := []) (rest := []) (c_X12_look (d := d) (by omega) e_2 t_k0) ML_X12_163 MV_X12_look rfl t_k0 rfl rfl (Nat.le_of_ble_eq_true rfl) dX12_condition_16 ?_
      refine V_bipush (v := 124) dX12_condition_19 (by decide) ?_
      refine V_ic_ne (tgt := 60) dX12_condition_21 (by decide) (fun c_5 => ?_) (fun c_5 => ?_)
      · have hf := if_s c_5 hf
        refine V_sub [1] rfl ?_
        exact v_X12_condition_60 hcb hd hf
      · have hf := it_s c_5 hf
        refine V_aload_n 0 dX12_condition_24 rfl rfl ?_
        refine V_dup dX12_condition_25 rfl ?_
        refine V_getI F_X12_144 rfl t_k0 rfl dX12_condition_26 ?_
        refine V_iconst (v := 1) dX12_condition_29 (by decide) ?_
        refine V_iadd dX12_condition_30 ?_
        obtain ⟨h_6, e_7, hf⟩ := nm_s hf
        refine V_putI P_X12_144 rfl t_k0 rfl e_7 dX12_condition_31 ?_
        refine V_aload_n 0 dX12_condition_34 rfl rfl ?_
        refine V_iconst (v := 0) dX12_condition_35 (by decide) ?_
        refine V_iconst (v := 0) dX12_condition_36 (by decide) ?_
        obtain ⟨r_10, h_9, e_8, hf⟩ := ob_s hf
        refine V_cvi (As := [.int 0, .int 0]) (rest := []) (c_X12_part (d := d) hcb (by omega) e_8 t_k0) ML_X12_219 MV_X12_part rfl t_k0 rfl rfl (Nat.le_of_ble_eq_true rfl) dX12_condition_37 ?_
        refine V_istore (L' := [(4, .int r_10), (0, .ref k0), (3, .int x3)]) dX12_condition_40 (Nat.le_of_ble_eq_true rfl) rfl rfl ?_
        refine V_iload_n 2 dX12_condition_42 rfl rfl ?_
        refine V_if_ne (tgt := 51) dX12_condition_43 (by decide) (fun c_11 => ?_) (fun c_11 => ?_)
        · have hf := if_s c_11 hf
          refine V_sub [1] rfl ?_
          exact v_X12_condition_51 hcb hd ih hf t_k0
        · have hf := it_s c_11 hf
          refine V_iload 0 dX12_condition_46 rfl ?_
          refine V_if_eq (tgt := 55) dX12_condition_48 (by decide) (fun c_12 => ?_) (fun c_12 => ?_)
          · have hf := it_s c_12 hf
            refine V_iconst (v := 0) dX12_condition_55 (by decide) ?_
            refine V_sub [1] rfl ?_
            exact v_X12_condition_56 hcb hd ih hf t_k0
          · have hf := if_s c_12 hf
            refine V_sub [1] rfl ?_
            exact v_X12_condition_51 hcb hd ih hf t_k0
set_option maxHeartbeats 4000000 in
set_option maxRecDepth 100000 in
theorem c_X12_condition {E : EV} {d : Nat} {cb : Nat → AH → Option (Int32 × AH)} {dc : Nat} (hcb : ∀ {d : Nat}, dc ≤ d → ∀ {k0 : Nat} {h : AH} {r0 : Int32} {h0 : AH}, cb k0 h = some (r0, h0) → kd k0 = (0, 12) → Con E d K_X12_unit (ZI E r0 h0) [.ref k0] h) (hd : 110 + dc + 1 ≤ d) {k0 : Nat} {x1 : Int32} {x2 : Int32} {h : AH} {r0 : Int32} {h0 : AH} (hf : f_X12_condition cb k0 x1 x2 h = some (r0, h0)) (t_k0 : kd k0 = (0, 12)) : Con E d K_X12_condition (ZI E r0 h0) [.ref k0, .int x1, .int x2] h := by
  obtain ⟨d, rfl⟩ : ∃ d', d = d' + 1 := ⟨d - 1, by omega⟩
  have hd := Nat.le_of_succ_le_succ hd
  refine Con.ofV rfl (Nat.le_of_ble_eq_true rfl) ?_
  unfold f_X12_condition at hf
  show V E (d + 1) K_X12_condition (ZI E r0 h0) h [(0, .ref k0), (1, .int x1), (2, .int x2)] [] 0
  refine V_aload_n 0 dX12_condition_0 rfl rfl ?_
  refine V_iload_n 1 dX12_condition_1 rfl rfl ?_
  refine V_iload_n 2 dX12_condition_2 rfl rfl ?_
  obtain ⟨r_3, h_2, e_1, hf⟩ := ob_s hf
  refine V_cvi (As := [.int x1, .int x2]) (rest := []) (c_X12_part (d := d) hcb (by omega) e_1 t_k0) ML_X12_219 MV_X12_part rfl t_k0 rfl rfl (Nat.le_of_ble_eq_true rfl) dX12_condition_3 ?_
  refine V_istore_n (L' := [(3, .int r_3), (0, .ref k0), (1, .int x1), (2, .int x2)]) dX12_condition_6 rfl (Nat.le_of_ble_eq_true rfl) rfl rfl ?_
  refine V_sub [1, 0] rfl ?_
  exact v_X12_condition_7 hcb hd FU _ _ _ hf t_k0
theorem dX12_unit_0 : decode cX12_unit 0 = .ok (.aload_n 0, 1) := by decide +kernel
theorem dX12_unit_1 : decode cX12_unit 1 = .ok (.invokevirtual 163, 3) := by decide +kernel
theorem dX12_unit_4 : decode cX12_unit 4 = .ok (.istore_n 1, 1) := by decide +kernel
theorem dX12_unit_5 : decode cX12_unit 5 = .ok (.iload_n 1, 1) := by decide +kernel
theorem dX12_unit_6 : decode cX12_unit 6 = .ok (.bipush 33, 2) := by decide +kernel
theorem dX12_unit_8 : decode cX12_unit 8 = .ok (.if_icmp .ne 37, 3) := by decide +kernel
theorem dX12_unit_11 : decode cX12_unit 11 = .ok (.aload_n 0, 1) := by decide +kernel
theorem dX12_unit_12 : decode cX12_unit 12 = .ok (.invokevirtual 183, 3) := by decide +kernel
theorem dX12_unit_15 : decode cX12_unit 15 = .ok (.ifCond .ne 5, 3) := by decide +kernel
theorem dX12_unit_18 : decode cX12_unit 18 = .ok (.iconst 0, 1) := by decide +kernel
theorem dX12_unit_19 : decode cX12_unit 19 = .ok (.ireturn, 1) := by decide +kernel
theorem dX12_unit_20 : decode cX12_unit 20 = .ok (.aload_n 0, 1) := by decide +kernel
theorem dX12_unit_21 : decode cX12_unit 21 = .ok (.invokevirtual 209, 3) := by decide +kernel
theorem dX12_unit_24 : decode cX12_unit 24 = .ok (.istore_n 2, 1) := by decide +kernel
theorem dX12_unit_25 : decode cX12_unit 25 = .ok (.aload_n 0, 1) := by decide +kernel
theorem dX12_unit_26 : decode cX12_unit 26 = .ok (.dup, 1) := by decide +kernel
theorem dX12_unit_27 : decode cX12_unit 27 = .ok (.getfield 156, 3) := by decide +kernel
theorem dX12_unit_30 : decode cX12_unit 30 = .ok (.iconst 1, 1) := by decide +kernel
theorem dX12_unit_31 : decode cX12_unit 31 = .ok (.isub, 1) := by decide +kernel
theorem dX12_unit_32 : decode cX12_unit 32 = .ok (.putfield 156, 3) := by decide +kernel
theorem dX12_unit_35 : decode cX12_unit 35 = .ok (.iload_n 2, 1) := by decide +kernel
theorem dX12_unit_36 : decode cX12_unit 36 = .ok (.ifCond .ne 7, 3) := by decide +kernel
theorem dX12_unit_39 : decode cX12_unit 39 = .ok (.iconst 1, 1) := by decide +kernel
theorem dX12_unit_40 : decode cX12_unit 40 = .ok (.goto 4, 3) := by decide +kernel
theorem dX12_unit_43 : decode cX12_unit 43 = .ok (.iconst 0, 1) := by decide +kernel
theorem dX12_unit_44 : decode cX12_unit 44 = .ok (.ireturn, 1) := by decide +kernel
theorem dX12_unit_45 : decode cX12_unit 45 = .ok (.iload_n 1, 1) := by decide +kernel
theorem dX12_unit_46 : decode cX12_unit 46 = .ok (.bipush 40, 2) := by decide +kernel
theorem dX12_unit_48 : decode cX12_unit 48 = .ok (.if_icmp .ne 42, 3) := by decide +kernel
theorem dX12_unit_51 : decode cX12_unit 51 = .ok (.aload_n 0, 1) := by decide +kernel
theorem dX12_unit_52 : decode cX12_unit 52 = .ok (.invokevirtual 183, 3) := by decide +kernel
theorem dX12_unit_55 : decode cX12_unit 55 = .ok (.ifCond .ne 5, 3) := by decide +kernel
theorem dX12_unit_58 : decode cX12_unit 58 = .ok (.iconst 0, 1) := by decide +kernel
theorem dX12_unit_59 : decode cX12_unit 59 = .ok (.ireturn, 1) := by decide +kernel
theorem dX12_unit_60 : decode cX12_unit 60 = .ok (.aload_n 0, 1) := by decide +kernel
theorem dX12_unit_61 : decode cX12_unit 61 = .ok (.iconst 0, 1) := by decide +kernel
theorem dX12_unit_62 : decode cX12_unit 62 = .ok (.iconst 0, 1) := by decide +kernel
theorem dX12_unit_63 : decode cX12_unit 63 = .ok (.invokevirtual 212, 3) := by decide +kernel
theorem dX12_unit_66 : decode cX12_unit 66 = .ok (.istore_n 2, 1) := by decide +kernel
theorem dX12_unit_67 : decode cX12_unit 67 = .ok (.aload_n 0, 1) := by decide +kernel
theorem dX12_unit_68 : decode cX12_unit 68 = .ok (.bipush 41, 2) := by decide +kernel
theorem dX12_unit_70 : decode cX12_unit 70 = .ok (.invokevirtual 189, 3) := by decide +kernel
theorem dX12_unit_73 : decode cX12_unit 73 = .ok (.ifCond .ne 5, 3) := by decide +kernel
theorem dX12_unit_76 : decode cX12_unit 76 = .ok (.iconst 0, 1) := by decide +kernel
theorem dX12_unit_77 : decode cX12_unit 77 = .ok (.ireturn, 1) := by decide +kernel
theorem dX12_unit_78 : decode cX12_unit 78 = .ok (.aload_n 0, 1) := by decide +kernel
theorem dX12_unit_79 : decode cX12_unit 79 = .ok (.dup, 1) := by decide +kernel
theorem dX12_unit_80 : decode cX12_unit 80 = .ok (.getfield 156, 3) := by decide +kernel
theorem dX12_unit_83 : decode cX12_unit 83 = .ok (.iconst 1, 1) := by decide +kernel
theorem dX12_unit_84 : decode cX12_unit 84 = .ok (.isub, 1) := by decide +kernel
theorem dX12_unit_85 : decode cX12_unit 85 = .ok (.putfield 156, 3) := by decide +kernel
theorem dX12_unit_88 : decode cX12_unit 88 = .ok (.iload_n 2, 1) := by decide +kernel
theorem dX12_unit_89 : decode cX12_unit 89 = .ok (.ireturn, 1) := by decide +kernel
theorem dX12_unit_90 : decode cX12_unit 90 = .ok (.aload_n 0, 1) := by decide +kernel
theorem dX12_unit_91 : decode cX12_unit 91 = .ok (.iconst 0, 1) := by decide +kernel
theorem dX12_unit_92 : decode cX12_unit 92 = .ok (.iconst 0, 1) := by decide +kernel
theorem dX12_unit_93 : decode cX12_unit 93 = .ok (.invokevirtual 216, 3) := by decide +kernel
theorem dX12_unit_96 : decode cX12_unit 96 = .ok (.ireturn, 1) := by decide +kernel
theorem ML_X12_212 : MLk RX12 212 yX12_condition := Or.inl ml_X12_212
theorem MV_X12_condition : MVk K_X12_condition 2 12 := ⟨⟨cd_X12_condition, in_X12, ⟨by decide, by decide, by decide +kernel⟩, by decide⟩, im_X12_condition, se_X12_condition, _, _, rfl⟩
def f_X12_unit_44 (cb : Nat → AH → Option (Int32 × AH)) (s0 : Int32) (h : AH) : Option (Int32 × AH) :=
  og (bz s0) <|
  some (s0, h)
def f_X12_unit (cb : Nat → AH → Option (Int32 × AH)) (k0 : Nat) (h : AH) : Option (Int32 × AH) :=
  ob (f_X12_look k0 h) fun r_3 h_2 =>
  if r_3 = 33 then (
    ob (f_X12_goesIn k0 h_2) fun r_26 h_25 =>
    if r_26 = 0 then (
      some (0, h_25)
    ) else (
      ob (cb k0 h_25) fun r_30 h_29 =>
      nm (sI h_29 k0 12 ((h_29.1 k0 12) - 1)) fun h_31 =>
      if r_30 = 0 then (
        f_X12_unit_44 cb 1 h_31
      ) else (
        f_X12_unit_44 cb 0 h_31
      )
    )
  ) else (
    if r_3 = 40 then (
      ob (f_X12_goesIn k0 h_2) fun r_12 h_11 =>
      if r_12 = 0 then (
        some (0, h_11)
      ) else (
        ob (f_X12_condition cb k0 0 0 h_11) fun r_16 h_15 =>
        ob (f_X12_takes k0 41 h_15) fun r_19 h_18 =>
        if r_19 = 0 then (
          some (0, h_18)
        ) else (
          nm (sI h_18 k0 12 ((h_18.1 k0 12) - 1)) fun h_21 =>
          og (bz r_16) <|
          some (r_16, h_21)
        )
      )
    ) else (
      ob (f_X12_compares k0 0 0 h_2) fun r_8 h_7 =>
      og (bz r_8) <|
      some (r_8, h_7)
    )
  )
def r_X12_unit : Nat → Nat → AH → Option (Int32 × AH)
  | 0, _, _ => none
  | n + 1, k0, h => f_X12_unit (r_X12_unit n) k0 h
set_option maxHeartbeats 4000000 in
set_option maxRecDepth 100000 in
theorem v_X12_unit_44 {E : EV} {d : Nat} {cb : Nat → AH → Option (Int32 × AH)} {dc : Nat} (hcb : ∀ {d : Nat}, dc ≤ d → ∀ {k0 : Nat} {h : AH} {r0 : Int32} {h0 : AH}, cb k0 h = some (r0, h0) → kd k0 = (0, 12) → Con E d K_X12_unit (ZI E r0 h0) [.ref k0] h) (hd : 111 + dc ≤ d) {r0 : Int32} {h0 : AH} {s0 : Int32} {h : AH} (hf : f_X12_unit_44 cb s0 h = some (r0, h0)) : V E (d + 1) K_X12_unit (ZI E r0 h0) h [] [.int s0] 44 := by
  unfold f_X12_unit_44 at hf
  obtain ⟨b_1, hf⟩ := og_s hf
  exact V_zret rfl b_1 (so_s hf) dX12_unit_44
set_option maxHeartbeats 4000000 in
set_option maxRecDepth 100000 in
theorem c_X12_unit {E : EV} {d : Nat} {cb : Nat → AH → Option (Int32 × AH)} {dc : Nat} (hcb : ∀ {d : Nat}, dc ≤ d → ∀ {k0 : Nat} {h : AH} {r0 : Int32} {h0 : AH}, cb k0 h = some (r0, h0) → kd k0 = (0, 12) → Con E d K_X12_unit (ZI E r0 h0) [.ref k0] h) (hd : 111 + dc + 1 ≤ d) {k0 : Nat} {h : AH} {r0 : Int32} {h0 : AH} (hf : f_X12_unit cb k0 h = some (r0, h0)) (t_k0 : kd k0 = (0, 12)) : Con E d K_X12_unit (ZI E r0 h0) [.ref k0] h := by
  obtain ⟨d, rfl⟩ : ∃ d', d = d' + 1 := ⟨d - 1, by omega⟩
  have hd := Nat.le_of_succ_le_succ hd
  refine Con.ofV rfl (Nat.le_of_ble_eq_true rfl) ?_
  unfold f_X12_unit at hf
  show V E (d + 1) K_X12_unit (ZI E r0 h0) h [(0, .ref k0)] [] 0
  refine V_aload_n 0 dX12_unit_0 rfl rfl ?_
  obtain ⟨r_3, h_2, e_1, hf⟩ := ob_s hf
  refine V_cvi (As := []) (rest := []) (c_X12_look (d := d) (by omega) e_1 t_k0) ML_X12_163 MV_X12_look rfl t_k0 rfl rfl (Nat.le_of_ble_eq_true rfl) dX12_unit_1 ?_
  refine V_istore_n (L' := [(1, .int r_3), (0, .ref k0)]) dX12_unit_4 rfl (Nat.le_of_ble_eq_true rfl) rfl rfl ?_
  refine V_iload_n 0 dX12_unit_5 rfl rfl ?_
  refine V_bipush (v := 33) dX12_unit_6 (by decide) ?_
  refine V_ic_ne (tgt := 45) dX12_unit_8 (by decide) (fun c_4 => ?_) (fun c_4 => ?_)
  · have hf := if_s c_4 hf
    refine V_iload_n 0 dX12_unit_45 rfl rfl ?_
    refine V_bipush (v := 40) dX12_unit_46 (by decide) ?_
    refine V_ic_ne (tgt := 90) dX12_unit_48 (by decide) (fun c_5 => ?_) (fun c_5 => ?_)
    · have hf := if_s c_5 hf
      refine V_aload_n 1 dX12_unit_90 rfl rfl ?_
      refine V_iconst (v := 0) dX12_unit_91 (by decide) ?_
      refine V_iconst (v := 0) dX12_unit_92 (by decide) ?_
      obtain ⟨r_8, h_7, e_6, hf⟩ := ob_s hf
      refine V_cvi (As := [.int 0, .int 0]) (rest := []) (c_X12_compares (d := d) (by omega) e_6 t_k0) ML_X12_216 MV_X12_compares rfl t_k0 rfl rfl (Nat.le_of_ble_eq_true rfl) dX12_unit_93 ?_
      obtain ⟨b_9, hf⟩ := og_s hf
      exact V_zret rfl b_9 (so_s hf) dX12_unit_96
    · have hf := it_s c_5 hf
      refine V_aload_n 1 dX12_unit_51 rfl rfl ?_
      obtain ⟨r_12, h_11, e_10, hf⟩ := ob_s hf
      refine V_cvi (As := []) (rest := []) (c_X12_goesIn (d := d) (by omega) e_10 t_k0) ML_X12_183 MV_X12_goesIn rfl t_k0 rfl rfl (Nat.le_of_ble_eq_true rfl) dX12_unit_52 ?_
      refine V_if_ne (tgt := 60) dX12_unit_55 (by decide) (fun c_13 => ?_) (fun c_13 => ?_)
      · have hf := if_s c_13 hf
        refine V_aload_n 1 dX12_unit_60 rfl rfl ?_
        refine V_iconst (v := 0) dX12_unit_61 (by decide) ?_
        refine V_iconst (v := 0) dX12_unit_62 (by decide) ?_
        obtain ⟨r_16, h_15, e_14, hf⟩ := ob_s hf
        refine V_cvi (As := [.int 0, .int 0]) (rest := []) (c_X12_condition (d := d) hcb (by omega) e_14 t_k0) ML_X12_212 MV_X12_condition rfl t_k0 rfl rfl (Nat.le_of_ble_eq_true rfl) dX12_unit_63 ?_
        refine V_istore_n (L' := [(2, .int r_16), (1, .int r_3), (0, .ref k0)]) dX12_unit_66 rfl (Nat.le_of_ble_eq_true rfl) rfl rfl ?_
        refine V_aload_n 2 dX12_unit_67 rfl rfl ?_
        refine V_bipush (v := 41) dX12_unit_68 (by decide) ?_
        obtain ⟨r_19, h_18, e_17, hf⟩ := ob_s hf
        refine V_cvi (As := [.int 41]) (rest := []) (c_X12_takes (d := d) (by omega) e_17 t_k0) ML_X12_189 MV_X12_takes rfl t_k0 rfl rfl (Nat.le_of_ble_eq_true rfl) dX12_unit_70 ?_
        refine V_if_ne (tgt := 78) dX12_unit_73 (by decide) (fun c_20 => ?_) (fun c_20 => ?_)
        · have hf := if_s c_20 hf
          refine V_aload_n 2 dX12_unit_78 rfl rfl ?_
          refine V_dup dX12_unit_79 rfl ?_
          refine V_getI F_X12_156 rfl t_k0 rfl dX12_unit_80 ?_
          refine V_iconst (v := 1) dX12_unit_83 (by decide) ?_
          refine V_isub dX12_unit_84 ?_
          obtain ⟨h_21, e_22, hf⟩ := nm_s hf
          refine V_putI P_X12_156 rfl t_k0 rfl e_22 dX12_unit_85 ?_
          refine V_iload_n 0 dX12_unit_88 rfl rfl ?_
          obtain ⟨b_23, hf⟩ := og_s hf
          exact V_zret rfl b_23 (so_s hf) dX12_unit_89
        · have hf := it_s c_20 hf
          refine V_iconst (v := 0) dX12_unit_76 (by decide) ?_
          exact V_zret rfl (by decide) (so_s hf) dX12_unit_77
      · have hf := it_s c_13 hf
        refine V_iconst (v := 0) dX12_unit_58 (by decide) ?_
        exact V_zret rfl (by decide) (so_s hf) dX12_unit_59
  · have hf := it_s c_4 hf
    refine V_aload_n 1 dX12_unit_11 rfl rfl ?_
    obtain ⟨r_26, h_25, e_24, hf⟩ := ob_s hf
    refine V_cvi (As := []) (rest := []) (c_X12_goesIn (d := d) (by omega) e_24 t_k0) ML_X12_183 MV_X12_goesIn rfl t_k0 rfl rfl (Nat.le_of_ble_eq_true rfl) dX12_unit_12 ?_
    refine V_if_ne (tgt := 20) dX12_unit_15 (by decide) (fun c_27 => ?_) (fun c_27 => ?_)
    · have hf := if_s c_27 hf
      refine V_aload_n 1 dX12_unit_20 rfl rfl ?_
      obtain ⟨r_30, h_29, e_28, hf⟩ := ob_s hf
      refine V_cvi (As := []) (rest := []) (hcb (d := d) (by omega) e_28 t_k0) ML_X12_209 MV_X12_unit rfl t_k0 rfl rfl (Nat.le_of_ble_eq_true rfl) dX12_unit_21 ?_
      refine V_istore_n (L' := [(2, .int r_30), (1, .int r_3), (0, .ref k0)]) dX12_unit_24 rfl (Nat.le_of_ble_eq_true rfl) rfl rfl ?_
      refine V_aload_n 2 dX12_unit_25 rfl rfl ?_
      refine V_dup dX12_unit_26 rfl ?_
      refine V_getI F_X12_156 rfl t_k0 rfl dX12_unit_27 ?_
      refine V_iconst (v := 1) dX12_unit_30 (by decide) ?_
      refine V_isub dX12_unit_31 ?_
      obtain ⟨h_31, e_32, hf⟩ := nm_s hf
      refine V_putI P_X12_156 rfl t_k0 rfl e_32 dX12_unit_32 ?_
      refine V_iload_n 0 dX12_unit_35 rfl rfl ?_
      refine V_if_ne (tgt := 43) dX12_unit_36 (by decide) (fun c_33 => ?_) (fun c_33 => ?_)
      · have hf := if_s c_33 hf
        refine V_iconst (v := 0) dX12_unit_43 (by decide) ?_
        refine V_sub [] rfl ?_
        exact v_X12_unit_44 hcb hd hf
      · have hf := it_s c_33 hf
        refine V_iconst (v := 1) dX12_unit_39 (by decide) ?_
        refine V_goto (tgt := 44) dX12_unit_40 (by decide) ?_
        refine V_sub [] rfl ?_
        exact v_X12_unit_44 hcb hd hf
    · have hf := it_s c_27 hf
      refine V_iconst (v := 0) dX12_unit_18 (by decide) ?_
      exact V_zret rfl (by decide) (so_s hf) dX12_unit_19
set_option maxHeartbeats 4000000 in
set_option maxRecDepth 100000 in
theorem cr_X12_unit {E : EV} : ∀ (n : Nat) {d : Nat}, n * 112 ≤ d → ∀ {k0 : Nat} {h : AH} {r0 : Int32} {h0 : AH}, r_X12_unit n k0 h = some (r0, h0) → kd k0 = (0, 12) → Con E d K_X12_unit (ZI E r0 h0) [.ref k0] h := by
  intro n
  induction n with
  | zero =>
    intro d hd k0 h r0 h0 hf
    rw [r_X12_unit] at hf
    cases hf
  | succ n ih =>
    intro d hd k0 h r0 h0 hf t_k0
    rw [r_X12_unit] at hf
    exact c_X12_unit (dc := n * 112) ih (by omega) hf t_k0
theorem dX12_clause_0 : decode cX12_clause 0 = .ok (.aload_n 0, 1) := by decide +kernel
theorem dX12_clause_1 : decode cX12_clause 1 = .ok (.invokevirtual 163, 3) := by decide +kernel
theorem dX12_clause_4 : decode cX12_clause 4 = .ok (.istore_n 1, 1) := by decide +kernel
theorem dX12_clause_5 : decode cX12_clause 5 = .ok (.ldc 26, 2) := by decide +kernel
theorem dX12_clause_7 : decode cX12_clause 7 = .ok (.iload_n 1, 1) := by decide +kernel
theorem dX12_clause_8 : decode cX12_clause 8 = .ok (.invokestatic 179, 3) := by decide +kernel
theorem dX12_clause_11 : decode cX12_clause 11 = .ok (.ifCond .ne 9, 3) := by decide +kernel
theorem dX12_clause_14 : decode cX12_clause 14 = .ok (.aload_n 0, 1) := by decide +kernel
theorem dX12_clause_15 : decode cX12_clause 15 = .ok (.invokevirtual 159, 3) := by decide +kernel
theorem dX12_clause_18 : decode cX12_clause 18 = .ok (.pop, 1) := by decide +kernel
theorem dX12_clause_19 : decode cX12_clause 19 = .ok (.return_, 1) := by decide +kernel
theorem dX12_clause_20 : decode cX12_clause 20 = .ok (.aload_n 0, 1) := by decide +kernel
theorem dX12_clause_21 : decode cX12_clause 21 = .ok (.dup, 1) := by decide +kernel
theorem dX12_clause_22 : decode cX12_clause 22 = .ok (.getfield 144, 3) := by decide +kernel
theorem dX12_clause_25 : decode cX12_clause 25 = .ok (.iconst 1, 1) := by decide +kernel
theorem dX12_clause_26 : decode cX12_clause 26 = .ok (.iadd, 1) := by decide +kernel
theorem dX12_clause_27 : decode cX12_clause 27 = .ok (.putfield 144, 3) := by decide +kernel
theorem dX12_clause_30 : decode cX12_clause 30 = .ok (.aload_n 0, 1) := by decide +kernel
theorem dX12_clause_31 : decode cX12_clause 31 = .ok (.bipush 58, 2) := by decide +kernel
theorem dX12_clause_33 : decode cX12_clause 33 = .ok (.invokevirtual 189, 3) := by decide +kernel
theorem dX12_clause_36 : decode cX12_clause 36 = .ok (.ifCond .ne 4, 3) := by decide +kernel
theorem dX12_clause_39 : decode cX12_clause 39 = .ok (.return_, 1) := by decide +kernel
theorem dX12_clause_40 : decode cX12_clause 40 = .ok (.iconst 1, 1) := by decide +kernel
theorem dX12_clause_41 : decode cX12_clause 41 = .ok (.istore_n 2, 1) := by decide +kernel
theorem dX12_clause_42 : decode cX12_clause 42 = .ok (.iconst 0, 1) := by decide +kernel
theorem dX12_clause_43 : decode cX12_clause 43 = .ok (.istore_n 3, 1) := by decide +kernel
theorem dX12_clause_44 : decode cX12_clause 44 = .ok (.aload_n 0, 1) := by decide +kernel
theorem dX12_clause_45 : decode cX12_clause 45 = .ok (.invokevirtual 163, 3) := by decide +kernel
theorem dX12_clause_48 : decode cX12_clause 48 = .ok (.istore 4, 2) := by decide +kernel
theorem dX12_clause_50 : decode cX12_clause 50 = .ok (.iload 4, 2) := by decide +kernel
theorem dX12_clause_52 : decode cX12_clause 52 = .ok (.bipush 33, 2) := by decide +kernel
theorem dX12_clause_54 : decode cX12_clause 54 = .ok (.if_icmp .eq 10, 3) := by decide +kernel
theorem dX12_clause_57 : decode cX12_clause 57 = .ok (.iload 4, 2) := by decide +kernel
theorem dX12_clause_59 : decode cX12_clause 59 = .ok (.bipush 40, 2) := by decide +kernel
theorem dX12_clause_61 : decode cX12_clause 61 = .ok (.if_icmp .ne 28, 3) := by decide +kernel
theorem dX12_clause_64 : decode cX12_clause 64 = .ok (.aload_n 0, 1) := by decide +kernel
theorem dX12_clause_65 : decode cX12_clause 65 = .ok (.iconst 0, 1) := by decide +kernel
theorem dX12_clause_66 : decode cX12_clause 66 = .ok (.iconst 0, 1) := by decide +kernel
theorem dX12_clause_67 : decode cX12_clause 67 = .ok (.invokevirtual 212, 3) := by decide +kernel
theorem dX12_clause_70 : decode cX12_clause 70 = .ok (.istore_n 2, 1) := by decide +kernel
theorem dX12_clause_71 : decode cX12_clause 71 = .ok (.aload_n 0, 1) := by decide +kernel
theorem dX12_clause_72 : decode cX12_clause 72 = .ok (.bipush 63, 2) := by decide +kernel
theorem dX12_clause_74 : decode cX12_clause 74 = .ok (.invokevirtual 189, 3) := by decide +kernel
theorem dX12_clause_77 : decode cX12_clause 77 = .ok (.ifCond .ne 4, 3) := by decide +kernel
theorem dX12_clause_80 : decode cX12_clause 80 = .ok (.return_, 1) := by decide +kernel
theorem dX12_clause_81 : decode cX12_clause 81 = .ok (.aload_n 0, 1) := by decide +kernel
theorem dX12_clause_82 : decode cX12_clause 82 = .ok (.invokevirtual 186, 3) := by decide +kernel
theorem dX12_clause_85 : decode cX12_clause 85 = .ok (.istore_n 3, 1) := by decide +kernel
theorem dX12_clause_86 : decode cX12_clause 86 = .ok (.goto 48, 3) := by decide +kernel
theorem dX12_clause_89 : decode cX12_clause 89 = .ok (.aload_n 0, 1) := by decide +kernel
theorem dX12_clause_90 : decode cX12_clause 90 = .ok (.invokevirtual 186, 3) := by decide +kernel
theorem dX12_clause_93 : decode cX12_clause 93 = .ok (.istore_n 3, 1) := by decide +kernel
theorem dX12_clause_94 : decode cX12_clause 94 = .ok (.aload_n 0, 1) := by decide +kernel
theorem dX12_clause_95 : decode cX12_clause 95 = .ok (.getfield 153, 3) := by decide +kernel
theorem dX12_clause_98 : decode cX12_clause 98 = .ok (.iconst (-1), 1) := by decide +kernel
theorem dX12_clause_99 : decode cX12_clause 99 = .ok (.if_icmp .ne 35, 3) := by decide +kernel
theorem dX12_clause_102 : decode cX12_clause 102 = .ok (.aload_n 0, 1) := by decide +kernel
theorem dX12_clause_103 : decode cX12_clause 103 = .ok (.invokevirtual 163, 3) := by decide +kernel
theorem dX12_clause_106 : decode cX12_clause 106 = .ok (.invokestatic 206, 3) := by decide +kernel
theorem dX12_clause_109 : decode cX12_clause 109 = .ok (.ifCond .eq 25, 3) := by decide +kernel
theorem dX12_clause_112 : decode cX12_clause 112 = .ok (.aload_n 0, 1) := by decide +kernel
theorem dX12_clause_113 : decode cX12_clause 113 = .ok (.iconst 1, 1) := by decide +kernel
theorem dX12_clause_114 : decode cX12_clause 114 = .ok (.iload_n 3, 1) := by decide +kernel
theorem dX12_clause_115 : decode cX12_clause 115 = .ok (.invokevirtual 212, 3) := by decide +kernel
theorem dX12_clause_118 : decode cX12_clause 118 = .ok (.istore_n 2, 1) := by decide +kernel
theorem dX12_clause_119 : decode cX12_clause 119 = .ok (.aload_n 0, 1) := by decide +kernel
theorem dX12_clause_120 : decode cX12_clause 120 = .ok (.bipush 63, 2) := by decide +kernel
theorem dX12_clause_122 : decode cX12_clause 122 = .ok (.invokevirtual 189, 3) := by decide +kernel
theorem dX12_clause_125 : decode cX12_clause 125 = .ok (.ifCond .ne 4, 3) := by decide +kernel
theorem dX12_clause_128 : decode cX12_clause 128 = .ok (.return_, 1) := by decide +kernel
theorem dX12_clause_129 : decode cX12_clause 129 = .ok (.aload_n 0, 1) := by decide +kernel
theorem dX12_clause_130 : decode cX12_clause 130 = .ok (.invokevirtual 186, 3) := by decide +kernel
theorem dX12_clause_133 : decode cX12_clause 133 = .ok (.istore_n 3, 1) := by decide +kernel
theorem dX12_clause_134 : decode cX12_clause 134 = .ok (.aload_n 0, 1) := by decide +kernel
theorem dX12_clause_135 : decode cX12_clause 135 = .ok (.getfield 153, 3) := by decide +kernel
theorem dX12_clause_138 : decode cX12_clause 138 = .ok (.iconst (-1), 1) := by decide +kernel
theorem dX12_clause_139 : decode cX12_clause 139 = .ok (.if_icmp .ne 22, 3) := by decide +kernel
theorem dX12_clause_142 : decode cX12_clause 142 = .ok (.aload_n 0, 1) := by decide +kernel
theorem dX12_clause_143 : decode cX12_clause 143 = .ok (.getfield 222, 3) := by decide +kernel
theorem dX12_clause_146 : decode cX12_clause 146 = .ok (.ifCond .ne 15, 3) := by decide +kernel
theorem dX12_clause_149 : decode cX12_clause 149 = .ok (.iload_n 1, 1) := by decide +kernel
theorem dX12_clause_150 : decode cX12_clause 150 = .ok (.aload_n 0, 1) := by decide +kernel
theorem dX12_clause_151 : decode cX12_clause 151 = .ok (.getfield 226, 3) := by decide +kernel
theorem dX12_clause_154 : decode cX12_clause 154 = .ok (.if_icmp .ne 7, 3) := by decide +kernel
theorem dX12_clause_157 : decode cX12_clause 157 = .ok (.iload_n 2, 1) := by decide +kernel
theorem dX12_clause_158 : decode cX12_clause 158 = .ok (.ifCond .ne 4, 3) := by decide +kernel
theorem dX12_clause_161 : decode cX12_clause 161 = .ok (.return_, 1) := by decide +kernel
theorem dX12_clause_162 : decode cX12_clause 162 = .ok (.aload_n 0, 1) := by decide +kernel
theorem dX12_clause_163 : decode cX12_clause 163 = .ok (.iconst 1, 1) := by decide +kernel
theorem dX12_clause_164 : decode cX12_clause 164 = .ok (.putfield 222, 3) := by decide +kernel
theorem dX12_clause_167 : decode cX12_clause 167 = .ok (.aload_n 0, 1) := by decide +kernel
theorem dX12_clause_168 : decode cX12_clause 168 = .ok (.iload_n 3, 1) := by decide +kernel
theorem dX12_clause_169 : decode cX12_clause 169 = .ok (.putfield 229, 3) := by decide +kernel
theorem dX12_clause_172 : decode cX12_clause 172 = .ok (.return_, 1) := by decide +kernel
theorem F_X12_222 : FLk RX12 222 12 18 := ⟨RX12, TX12, 58, rfl, rfl, iw_X12, by decide, Or.inl fl_X12_222⟩
theorem F_X12_226 : FLk RX12 226 12 13 := ⟨RX12, TX12, 58, rfl, rfl, iw_X12, by decide, Or.inl fl_X12_226⟩
theorem P_X12_222 : FPk RX12 222 12 18 .boolean := ⟨RX12, TX12, 58, tyX12, rfl, rfl, iw_X12, by decide, Or.inl fl_X12_222, tyX12_ok, nmX12, rfl, by decide +kernel⟩
theorem F_X12_229 : FLk RX12 229 12 14 := ⟨RX12, TX12, 58, rfl, rfl, iw_X12, by decide, Or.inl fl_X12_229⟩
theorem P_X12_229 : FPk RX12 229 12 14 .int := ⟨RX12, TX12, 58, tyX12, rfl, rfl, iw_X12, by decide, Or.inl fl_X12_229, tyX12_ok, nmX12, rfl, by decide +kernel⟩
def f_X12_clause_161  (h : AH) : Option AH :=
  some h
def f_X12_clause_134 (k0 : Nat) (x1 : Int32) (x2 : Int32) (x3 : Int32) (h : AH) : Option AH :=
  if (h.1 k0 11) = (-1) then (
    if (h.1 k0 18) = 0 then (
      if x1 = (h.1 k0 13) then (
        if x2 = 0 then (
          f_X12_clause_161 h
        ) else (
          nm (sI h k0 18 1) fun h_5 =>
          nm (sI h_5 k0 14 x3) fun h_7 =>
          some h_7
        )
      ) else (
        f_X12_clause_161 h
      )
    ) else (
      f_X12_clause_161 h
    )
  ) else (
    f_X12_clause_161 h
  )
def f_X12_clause_64 (k0 : Nat) (x1 : Int32) (h : AH) : Option AH :=
  ob (f_X12_condition (r_X12_unit 12) k0 0 0 h) fun r_3 h_2 =>
  ob (f_X12_takes k0 63 h_2) fun r_6 h_5 =>
  if r_6 = 0 then (
    some h_5
  ) else (
    ob (r_X12_sum 12 k0 h_5) fun r_10 h_9 =>
    f_X12_clause_134 k0 x1 r_3 r_10 h_9
  )
def f_X12_clause (k0 : Nat) (h : AH) : Option AH :=
  ob (f_X12_look k0 h) fun r_3 h_2 =>
  ob (f_X12_isAmong 1002 r_3 h_2) fun r_6 h_5 =>
  if r_6 = 0 then (
    ob (f_X12_fails k0 h_5) fun r_42 h_41 =>
    some h_41
  ) else (
    nm (sI h_5 k0 10 ((h_5.1 k0 10) + 1)) fun h_8 =>
    ob (f_X12_takes k0 58 h_8) fun r_12 h_11 =>
    if r_12 = 0 then (
      some h_11
    ) else (
      ob (f_X12_look k0 h_11) fun r_16 h_15 =>
      if r_16 = 33 then (
        f_X12_clause_64 k0 r_3 h_15
      ) else (
        if r_16 = 40 then (
          f_X12_clause_64 k0 r_3 h_15
        ) else (
          ob (r_X12_sum 12 k0 h_15) fun r_21 h_20 =>
          if (h_20.1 k0 11) = (-1) then (
            ob (f_X12_look k0 h_20) fun r_25 h_24 =>
            ob (f_X12_isSign r_25 h_24) fun r_28 h_27 =>
            if r_28 = 0 then (
              f_X12_clause_134 k0 r_3 1 r_21 h_27
            ) else (
              ob (f_X12_condition (r_X12_unit 12) k0 1 r_21 h_27) fun r_32 h_31 =>
              ob (f_X12_takes k0 63 h_31) fun r_35 h_34 =>
              if r_35 = 0 then (
                some h_34
              ) else (
                ob (r_X12_sum 12 k0 h_34) fun r_39 h_38 =>
                f_X12_clause_134 k0 r_3 r_32 r_39 h_38
              )
            )
          ) else (
            f_X12_clause_134 k0 r_3 1 r_21 h_20
          )
        )
      )
    )
  )
set_option maxHeartbeats 4000000 in
set_option maxRecDepth 100000 in
theorem v_X12_clause_161 {E : EV} {d : Nat} (hd : 1455 ≤ d) {h0 : AH}  {h : AH} (hf : f_X12_clause_161 h = some h0) : V E (d + 1) K_X12_clause (ZV E h0) h [] [] 161 := by
  unfold f_X12_clause_161 at hf
  exact V_vret rfl (so_s hf) dX12_clause_161
set_option maxHeartbeats 4000000 in
set_option maxRecDepth 100000 in
theorem v_X12_clause_134 {E : EV} {d : Nat} (hd : 1455 ≤ d) {h0 : AH} {k0 : Nat} {x1 : Int32} {x2 : Int32} {x3 : Int32} {h : AH} (hf : f_X12_clause_134 k0 x1 x2 x3 h = some h0) (t_k0 : kd k0 = (0, 12)) : V E (d + 1) K_X12_clause (ZV E h0) h [(0, .ref k0), (1, .int x1), (2, .int x2), (3, .int x3)] [] 134 := by
  unfold f_X12_clause_134 at hf
  refine V_aload_n 0 dX12_clause_134 rfl rfl ?_
  refine V_getI F_X12_153 rfl t_k0 rfl dX12_clause_135 ?_
  refine V_iconst (v := (-1)) dX12_clause_138 (by decide) ?_
  refine V_ic_ne (tgt := 161) dX12_clause_139 (by decide) (fun c_1 => ?_) (fun c_1 => ?_)
  · have hf := if_s c_1 hf
    refine V_sub [] rfl ?_
    exact v_X12_clause_161 hd hf
  · have hf := it_s c_1 hf
    refine V_aload_n 0 dX12_clause_142 rfl rfl ?_
    refine V_getI F_X12_222 rfl t_k0 rfl dX12_clause_143 ?_
    refine V_if_ne (tgt := 161) dX12_clause_146 (by decide) (fun c_2 => ?_) (fun c_2 => ?_)
    · have hf := if_s c_2 hf
      refine V_sub [] rfl ?_
      exact v_X12_clause_161 hd hf
    · have hf := it_s c_2 hf
      refine V_iload_n 1 dX12_clause_149 rfl rfl ?_
      refine V_aload_n 0 dX12_clause_150 rfl rfl ?_
      refine V_getI F_X12_226 rfl t_k0 rfl dX12_clause_151 ?_
      refine V_ic_ne (tgt := 161) dX12_clause_154 (by decide) (fun c_3 => ?_) (fun c_3 => ?_)
      · have hf := if_s c_3 hf
        refine V_sub [] rfl ?_
        exact v_X12_clause_161 hd hf
      · have hf := it_s c_3 hf
        refine V_iload_n 2 dX12_clause_157 rfl rfl ?_
        refine V_if_ne (tgt := 162) dX12_clause_158 (by decide) (fun c_4 => ?_) (fun c_4 => ?_)
        · have hf := if_s c_4 hf
          refine V_aload_n 0 dX12_clause_162 rfl rfl ?_
          refine V_iconst (v := 1) dX12_clause_163 (by decide) ?_
          obtain ⟨h_5, e_6, hf⟩ := nm_s hf
          refine V_putZ P_X12_222 rfl t_k0 rfl (by decide) e_6 dX12_clause_164 ?_
          refine V_aload_n 0 dX12_clause_167 rfl rfl ?_
          refine V_iload_n 3 dX12_clause_168 rfl rfl ?_
          obtain ⟨h_7, e_8, hf⟩ := nm_s hf
          refine V_putI P_X12_229 rfl t_k0 rfl e_8 dX12_clause_169 ?_
          exact V_vret rfl (so_s hf) dX12_clause_172
        · have hf := it_s c_4 hf
          refine V_sub [] rfl ?_
          exact v_X12_clause_161 hd hf
set_option maxHeartbeats 4000000 in
set_option maxRecDepth 100000 in
theorem v_X12_clause_64 {E : EV} {d : Nat} (hd : 1455 ≤ d) {h0 : AH} {k0 : Nat} {x1 : Int32} {h : AH} (hf : f_X12_clause_64 k0 x1 h = some h0) (t_k0 : kd k0 = (0, 12)) : V E (d + 1) K_X12_clause (ZV E h0) h [(0, .ref k0), (1, .int x1)] [] 64 := by
  unfold f_X12_clause_64 at hf
  refine V_aload_n 0 dX12_clause_64 rfl rfl ?_
  refine V_iconst (v := 0) dX12_clause_65 (by decide) ?_
  refine V_iconst (v := 0) dX12_clause_66 (by decide) ?_
  obtain ⟨r_3, h_2, e_1, hf⟩ := ob_s hf
  refine V_cvi (As := [.int 0, .int 0]) (rest := []) (c_X12_condition (d := d) (dc := 12 * 112) (cr_X12_unit 12) (Nat.le_trans (Nat.le_of_ble_eq_true rfl) hd) e_1 t_k0) ML_X12_212 MV_X12_condition rfl t_k0 rfl rfl (Nat.le_of_ble_eq_true rfl) dX12_clause_67 ?_
  refine V_istore_n (L' := [(2, .int r_3), (0, .ref k0), (1, .int x1)]) dX12_clause_70 rfl (Nat.le_of_ble_eq_true rfl) rfl rfl ?_
  refine V_aload_n 1 dX12_clause_71 rfl rfl ?_
  refine V_bipush (v := 63) dX12_clause_72 (by decide) ?_
  obtain ⟨r_6, h_5, e_4, hf⟩ := ob_s hf
  refine V_cvi (As := [.int 63]) (rest := []) (c_X12_takes (d := d) (Nat.le_trans (Nat.le_of_ble_eq_true rfl) hd) e_4 t_k0) ML_X12_189 MV_X12_takes rfl t_k0 rfl rfl (Nat.le_of_ble_eq_true rfl) dX12_clause_74 ?_
  refine V_if_ne (tgt := 81) dX12_clause_77 (by decide) (fun c_7 => ?_) (fun c_7 => ?_)
  · have hf := if_s c_7 hf
    refine V_aload_n 1 dX12_clause_81 rfl rfl ?_
    obtain ⟨r_10, h_9, e_8, hf⟩ := ob_s hf
    refine V_cvi (As := []) (rest := []) (cr_X12_sum 12 (d := d) (Nat.le_trans (Nat.le_of_ble_eq_true rfl) hd) e_8 t_k0) ML_X12_186 MV_X12_sum rfl t_k0 rfl rfl (Nat.le_of_ble_eq_true rfl) dX12_clause_82 ?_
    refine V_istore_n (L' := [(3, .int r_10), (2, .int r_3), (0, .ref k0), (1, .int x1)]) dX12_clause_85 rfl (Nat.le_of_ble_eq_true rfl) rfl rfl ?_
    refine V_goto (tgt := 134) dX12_clause_86 (by decide) ?_
    refine V_sub [2, 3, 1, 0] rfl ?_
    exact v_X12_clause_134 hd hf t_k0
  · have hf := it_s c_7 hf
    exact V_vret rfl (so_s hf) dX12_clause_80
set_option maxHeartbeats 4000000 in
set_option maxRecDepth 100000 in
theorem c_X12_clause {E : EV} {d : Nat} (hd : 1455 + 1 ≤ d) {k0 : Nat} {h : AH} {h0 : AH} (hf : f_X12_clause k0 h = some h0) (t_k0 : kd k0 = (0, 12)) : Con E d K_X12_clause (ZV E h0) [.ref k0] h := by
  obtain ⟨d, rfl⟩ : ∃ d', d = d' + 1 := ⟨d - 1, by omega⟩
  have hd := Nat.le_of_succ_le_succ hd
  refine Con.ofV rfl (Nat.le_of_ble_eq_true rfl) ?_
  unfold f_X12_clause at hf
  show V E (d + 1) K_X12_clause (ZV E h0) h [(0, .ref k0)] [] 0
  refine V_aload_n 0 dX12_clause_0 rfl rfl ?_
  obtain ⟨r_3, h_2, e_1, hf⟩ := ob_s hf
  refine V_cvi (As := []) (rest := []) (c_X12_look (d := d) (Nat.le_trans (Nat.le_of_ble_eq_true rfl) hd) e_1 t_k0) ML_X12_163 MV_X12_look rfl t_k0 rfl rfl (Nat.le_of_ble_eq_true rfl) dX12_clause_1 ?_
  refine V_istore_n (L' := [(1, .int r_3), (0, .ref k0)]) dX12_clause_4 rfl (Nat.le_of_ble_eq_true rfl) rfl rfl ?_
  refine V_ldcS (a := 1002) (List.mem_of_getElem? (i := 3) rfl) rfl dX12_clause_5 ?_
  refine V_iload_n 0 dX12_clause_7 rfl rfl ?_
  obtain ⟨r_6, h_5, e_4, hf⟩ := ob_s hf
  refine V_csi (As := [.ref 1002, .int r_3]) (rest := []) (c_X12_isAmong (d := d) (Nat.le_trans (Nat.le_of_ble_eq_true rfl) hd) e_4) ML_X12_179 MS_X12_isAmong rfl rfl rfl (Nat.le_of_ble_eq_true rfl) dX12_clause_8 ?_
  refine V_if_ne (tgt := 20) dX12_clause_11 (by decide) (fun c_7 => ?_) (fun c_7 => ?_)
  · have hf := if_s c_7 hf
    refine V_aload_n 1 dX12_clause_20 rfl rfl ?_
    refine V_dup dX12_clause_21 rfl ?_
    refine V_getI F_X12_144 rfl t_k0 rfl dX12_clause_22 ?_
    refine V_iconst (v := 1) dX12_clause_25 (by decide) ?_
    refine V_iadd dX12_clause_26 ?_
    obtain ⟨h_8, e_9, hf⟩ := nm_s hf
    refine V_putI P_X12_144 rfl t_k0 rfl e_9 dX12_clause_27 ?_
    refine V_aload_n 1 dX12_clause_30 rfl rfl ?_
    refine V_bipush (v := 58) dX12_clause_31 (by decide) ?_
    obtain ⟨r_12, h_11, e_10, hf⟩ := ob_s hf
    refine V_cvi (As := [.int 58]) (rest := []) (c_X12_takes (d := d) (Nat.le_trans (Nat.le_of_ble_eq_true rfl) hd) e_10 t_k0) ML_X12_189 MV_X12_takes rfl t_k0 rfl rfl (Nat.le_of_ble_eq_true rfl) dX12_clause_33 ?_
    refine V_if_ne (tgt := 40) dX12_clause_36 (by decide) (fun c_13 => ?_) (fun c_13 => ?_)
    · have hf := if_s c_13 hf
      refine V_iconst (v := 1) dX12_clause_40 (by decide) ?_
      refine V_istore_n (L' := [(2, .int 1), (1, .int r_3), (0, .ref k0)]) dX12_clause_41 rfl (Nat.le_of_ble_eq_true rfl) rfl rfl ?_
      refine V_iconst (v := 0) dX12_clause_42 (by decide) ?_
      refine V_istore_n (L' := [(3, .int 0), (2, .int 1), (1, .int r_3), (0, .ref k0)]) dX12_clause_43 rfl (Nat.le_of_ble_eq_true rfl) rfl rfl ?_
      refine V_aload_n 3 dX12_clause_44 rfl rfl ?_
      obtain ⟨r_16, h_15, e_14, hf⟩ := ob_s hf
      refine V_cvi (As := []) (rest := []) (c_X12_look (d := d) (Nat.le_trans (Nat.le_of_ble_eq_true rfl) hd) e_14 t_k0) ML_X12_163 MV_X12_look rfl t_k0 rfl rfl (Nat.le_of_ble_eq_true rfl) dX12_clause_45 ?_
      refine V_istore (L' := [(4, .int r_16), (3, .int 0), (2, .int 1), (1, .int r_3), (0, .ref k0)]) dX12_clause_48 (Nat.le_of_ble_eq_true rfl) rfl rfl ?_
      refine V_iload 0 dX12_clause_50 rfl ?_
      refine V_bipush (v := 33) dX12_clause_52 (by decide) ?_
      refine V_ic_eq (tgt := 64) dX12_clause_54 (by decide) (fun c_17 => ?_) (fun c_17 => ?_)
      · have hf := it_s c_17 hf
        refine V_sub [4, 3] rfl ?_
        exact v_X12_clause_64 hd hf t_k0
      · have hf := if_s c_17 hf
        refine V_iload 0 dX12_clause_57 rfl ?_
        refine V_bipush (v := 40) dX12_clause_59 (by decide) ?_
        refine V_ic_ne (tgt := 89) dX12_clause_61 (by decide) (fun c_18 => ?_) (fun c_18 => ?_)
        · have hf := if_s c_18 hf
          refine V_aload_n 4 dX12_clause_89 rfl rfl ?_
          obtain ⟨r_21, h_20, e_19, hf⟩ := ob_s hf
          refine V_cvi (As := []) (rest := []) (cr_X12_sum 12 (d := d) (Nat.le_trans (Nat.le_of_ble_eq_true rfl) hd) e_19 t_k0) ML_X12_186 MV_X12_sum rfl t_k0 rfl rfl (Nat.le_of_ble_eq_true rfl) dX12_clause_90 ?_
          refine V_istore_n (L' := [(3, .int r_21), (4, .int r_16), (2, .int 1), (1, .int r_3), (0, .ref k0)]) dX12_clause_93 rfl (Nat.le_of_ble_eq_true rfl) rfl rfl ?_
          refine V_aload_n 4 dX12_clause_94 rfl rfl ?_
          refine V_getI F_X12_153 rfl t_k0 rfl dX12_clause_95 ?_
          refine V_iconst (v := (-1)) dX12_clause_98 (by decide) ?_
          refine V_ic_ne (tgt := 134) dX12_clause_99 (by decide) (fun c_22 => ?_) (fun c_22 => ?_)
          · have hf := if_s c_22 hf
            refine V_sub [4, 3, 2, 0] rfl ?_
            exact v_X12_clause_134 hd hf t_k0
          · have hf := it_s c_22 hf
            refine V_aload_n 4 dX12_clause_102 rfl rfl ?_
            obtain ⟨r_25, h_24, e_23, hf⟩ := ob_s hf
            refine V_cvi (As := []) (rest := []) (c_X12_look (d := d) (Nat.le_trans (Nat.le_of_ble_eq_true rfl) hd) e_23 t_k0) ML_X12_163 MV_X12_look rfl t_k0 rfl rfl (Nat.le_of_ble_eq_true rfl) dX12_clause_103 ?_
            obtain ⟨r_28, h_27, e_26, hf⟩ := ob_s hf
            refine V_csi (As := [.int r_25]) (rest := []) (c_X12_isSign (d := d) (Nat.le_trans (Nat.le_of_ble_eq_true rfl) hd) e_26) ML_X12_206 MS_X12_isSign rfl rfl rfl (Nat.le_of_ble_eq_true rfl) dX12_clause_106 ?_
            refine V_if_eq (tgt := 134) dX12_clause_109 (by decide) (fun c_29 => ?_) (fun c_29 => ?_)
            · have hf := it_s c_29 hf
              refine V_sub [4, 3, 2, 0] rfl ?_
              exact v_X12_clause_134 hd hf t_k0
            · have hf := if_s c_29 hf
              refine V_aload_n 4 dX12_clause_112 rfl rfl ?_
              refine V_iconst (v := 1) dX12_clause_113 (by decide) ?_
              refine V_iload_n 0 dX12_clause_114 rfl rfl ?_
              obtain ⟨r_32, h_31, e_30, hf⟩ := ob_s hf
              refine V_cvi (As := [.int 1, .int r_21]) (rest := []) (c_X12_condition (d := d) (dc := 12 * 112) (cr_X12_unit 12) (Nat.le_trans (Nat.le_of_ble_eq_true rfl) hd) e_30 t_k0) ML_X12_212 MV_X12_condition rfl t_k0 rfl rfl (Nat.le_of_ble_eq_true rfl) dX12_clause_115 ?_
              refine V_istore_n (L' := [(2, .int r_32), (3, .int r_21), (4, .int r_16), (1, .int r_3), (0, .ref k0)]) dX12_clause_118 rfl (Nat.le_of_ble_eq_true rfl) rfl rfl ?_
              refine V_aload_n 4 dX12_clause_119 rfl rfl ?_
              refine V_bipush (v := 63) dX12_clause_120 (by decide) ?_
              obtain ⟨r_35, h_34, e_33, hf⟩ := ob_s hf
              refine V_cvi (As := [.int 63]) (rest := []) (c_X12_takes (d := d) (Nat.le_trans (Nat.le_of_ble_eq_true rfl) hd) e_33 t_k0) ML_X12_189 MV_X12_takes rfl t_k0 rfl rfl (Nat.le_of_ble_eq_true rfl) dX12_clause_122 ?_
              refine V_if_ne (tgt := 129) dX12_clause_125 (by decide) (fun c_36 => ?_) (fun c_36 => ?_)
              · have hf := if_s c_36 hf
                refine V_aload_n 4 dX12_clause_129 rfl rfl ?_
                obtain ⟨r_39, h_38, e_37, hf⟩ := ob_s hf
                refine V_cvi (As := []) (rest := []) (cr_X12_sum 12 (d := d) (Nat.le_trans (Nat.le_of_ble_eq_true rfl) hd) e_37 t_k0) ML_X12_186 MV_X12_sum rfl t_k0 rfl rfl (Nat.le_of_ble_eq_true rfl) dX12_clause_130 ?_
                refine V_istore_n (L' := [(3, .int r_39), (2, .int r_32), (4, .int r_16), (1, .int r_3), (0, .ref k0)]) dX12_clause_133 rfl (Nat.le_of_ble_eq_true rfl) rfl rfl ?_
                refine V_sub [4, 3, 1, 0] rfl ?_
                exact v_X12_clause_134 hd hf t_k0
              · have hf := it_s c_36 hf
                exact V_vret rfl (so_s hf) dX12_clause_128
        · have hf := it_s c_18 hf
          refine V_sub [4, 3] rfl ?_
          exact v_X12_clause_64 hd hf t_k0
    · have hf := it_s c_13 hf
      exact V_vret rfl (so_s hf) dX12_clause_39
  · have hf := it_s c_7 hf
    refine V_aload_n 1 dX12_clause_14 rfl rfl ?_
    obtain ⟨r_42, h_41, e_40, hf⟩ := ob_s hf
    refine V_cvi (As := []) (rest := []) (c_X12_fails (d := d) (Nat.le_trans (Nat.le_of_ble_eq_true rfl) hd) e_40 t_k0) ML_X12_159 MV_X12_fails rfl t_k0 rfl rfl (Nat.le_of_ble_eq_true rfl) dX12_clause_15 ?_
    refine V_pop dX12_clause_18 rfl ?_
    exact V_vret rfl (so_s hf) dX12_clause_19
theorem dX12_goThrough_0 : decode cX12_goThrough 0 = .ok (.aload_n 0, 1) := by decide +kernel
theorem dX12_goThrough_1 : decode cX12_goThrough 1 = .ok (.aload_n 1, 1) := by decide +kernel
theorem dX12_goThrough_2 : decode cX12_goThrough 2 = .ok (.iload_n 2, 1) := by decide +kernel
theorem dX12_goThrough_3 : decode cX12_goThrough 3 = .ok (.iload_n 3, 1) := by decide +kernel
theorem dX12_goThrough_4 : decode cX12_goThrough 4 = .ok (.invokevirtual 232, 3) := by decide +kernel
theorem dX12_goThrough_7 : decode cX12_goThrough 7 = .ok (.aload_n 0, 1) := by decide +kernel
theorem dX12_goThrough_8 : decode cX12_goThrough 8 = .ok (.bipush 121, 2) := by decide +kernel
theorem dX12_goThrough_10 : decode cX12_goThrough 10 = .ok (.putfield 226, 3) := by decide +kernel
theorem dX12_goThrough_13 : decode cX12_goThrough 13 = .ok (.aload_n 0, 1) := by decide +kernel
theorem dX12_goThrough_14 : decode cX12_goThrough 14 = .ok (.iconst 0, 1) := by decide +kernel
theorem dX12_goThrough_15 : decode cX12_goThrough 15 = .ok (.putfield 156, 3) := by decide +kernel
theorem dX12_goThrough_18 : decode cX12_goThrough 18 = .ok (.aload_n 0, 1) := by decide +kernel
theorem dX12_goThrough_19 : decode cX12_goThrough 19 = .ok (.iconst 0, 1) := by decide +kernel
theorem dX12_goThrough_20 : decode cX12_goThrough 20 = .ok (.putfield 222, 3) := by decide +kernel
theorem dX12_goThrough_23 : decode cX12_goThrough 23 = .ok (.aload_n 0, 1) := by decide +kernel
theorem dX12_goThrough_24 : decode cX12_goThrough 24 = .ok (.iconst 0, 1) := by decide +kernel
theorem dX12_goThrough_25 : decode cX12_goThrough 25 = .ok (.putfield 229, 3) := by decide +kernel
theorem dX12_goThrough_28 : decode cX12_goThrough 28 = .ok (.aload_n 0, 1) := by decide +kernel
theorem dX12_goThrough_29 : decode cX12_goThrough 29 = .ok (.invokevirtual 236, 3) := by decide +kernel
theorem dX12_goThrough_32 : decode cX12_goThrough 32 = .ok (.aload_n 0, 1) := by decide +kernel
theorem dX12_goThrough_33 : decode cX12_goThrough 33 = .ok (.getfield 153, 3) := by decide +kernel
theorem dX12_goThrough_36 : decode cX12_goThrough 36 = .ok (.iconst (-1), 1) := by decide +kernel
theorem dX12_goThrough_37 : decode cX12_goThrough 37 = .ok (.if_icmp .ne 29, 3) := by decide +kernel
theorem dX12_goThrough_40 : decode cX12_goThrough 40 = .ok (.aload_n 0, 1) := by decide +kernel
theorem dX12_goThrough_41 : decode cX12_goThrough 41 = .ok (.invokevirtual 163, 3) := by decide +kernel
theorem dX12_goThrough_44 : decode cX12_goThrough 44 = .ok (.bipush 59, 2) := by decide +kernel
theorem dX12_goThrough_46 : decode cX12_goThrough 46 = .ok (.if_icmp .ne 20, 3) := by decide +kernel
theorem dX12_goThrough_49 : decode cX12_goThrough 49 = .ok (.aload_n 0, 1) := by decide +kernel
theorem dX12_goThrough_50 : decode cX12_goThrough 50 = .ok (.dup, 1) := by decide +kernel
theorem dX12_goThrough_51 : decode cX12_goThrough 51 = .ok (.getfield 144, 3) := by decide +kernel
theorem dX12_goThrough_54 : decode cX12_goThrough 54 = .ok (.iconst 1, 1) := by decide +kernel
theorem dX12_goThrough_55 : decode cX12_goThrough 55 = .ok (.iadd, 1) := by decide +kernel
theorem dX12_goThrough_56 : decode cX12_goThrough 56 = .ok (.putfield 144, 3) := by decide +kernel
theorem dX12_goThrough_59 : decode cX12_goThrough 59 = .ok (.aload_n 0, 1) := by decide +kernel
theorem dX12_goThrough_60 : decode cX12_goThrough 60 = .ok (.invokevirtual 236, 3) := by decide +kernel
theorem dX12_goThrough_63 : decode cX12_goThrough 63 = .ok (.goto (-31), 3) := by decide +kernel
theorem dX12_goThrough_66 : decode cX12_goThrough 66 = .ok (.aload_n 0, 1) := by decide +kernel
theorem dX12_goThrough_67 : decode cX12_goThrough 67 = .ok (.getfield 153, 3) := by decide +kernel
theorem dX12_goThrough_70 : decode cX12_goThrough 70 = .ok (.iconst (-1), 1) := by decide +kernel
theorem dX12_goThrough_71 : decode cX12_goThrough 71 = .ok (.if_icmp .ne 16, 3) := by decide +kernel
theorem dX12_goThrough_74 : decode cX12_goThrough 74 = .ok (.aload_n 0, 1) := by decide +kernel
theorem dX12_goThrough_75 : decode cX12_goThrough 75 = .ok (.invokevirtual 163, 3) := by decide +kernel
theorem dX12_goThrough_78 : decode cX12_goThrough 78 = .ok (.iconst (-1), 1) := by decide +kernel
theorem dX12_goThrough_79 : decode cX12_goThrough 79 = .ok (.if_icmp .eq 8, 3) := by decide +kernel
theorem dX12_goThrough_82 : decode cX12_goThrough 82 = .ok (.aload_n 0, 1) := by decide +kernel
theorem dX12_goThrough_83 : decode cX12_goThrough 83 = .ok (.invokevirtual 159, 3) := by decide +kernel
theorem dX12_goThrough_86 : decode cX12_goThrough 86 = .ok (.pop, 1) := by decide +kernel
theorem dX12_goThrough_87 : decode cX12_goThrough 87 = .ok (.return_, 1) := by decide +kernel
theorem ML_X12_236 : MLk RX12 236 yX12_clause := Or.inl ml_X12_236
theorem MV_X12_clause : MVk K_X12_clause 0 12 := ⟨⟨cd_X12_clause, in_X12, ⟨by decide, by decide, by decide +kernel⟩, by decide⟩, im_X12_clause, se_X12_clause, _, _, rfl⟩
theorem ML_X12_232 : MLk RX12 232 yX12_opens := Or.inl ml_X12_232
theorem MV_X12_opens : MVk K_X12_opens 3 12 := ⟨⟨cd_X12_opens, in_X12, ⟨by decide, by decide, by decide +kernel⟩, by decide⟩, im_X12_opens, se_X12_opens, _, _, rfl⟩
theorem P_X12_226 : FPk RX12 226 12 13 .int := ⟨RX12, TX12, 58, tyX12, rfl, rfl, iw_X12, by decide, Or.inl fl_X12_226, tyX12_ok, nmX12, rfl, by decide +kernel⟩
def f_X12_goThrough_87  (h : AH) : Option AH :=
  some h
def f_X12_goThrough_66 (k0 : Nat) (h : AH) : Option AH :=
  if (h.1 k0 11) = (-1) then (
    ob (f_X12_look k0 h) fun r_4 h_3 =>
    if r_4 = (-1) then (
      f_X12_goThrough_87 h_3
    ) else (
      ob (f_X12_fails k0 h_3) fun r_8 h_7 =>
      f_X12_goThrough_87 h_7
    )
  ) else (
    f_X12_goThrough_87 h
  )
def f_X12_goThrough_32 : Nat → Nat → AH → Option AH
  | 0, _, _ => none
  | n + 1, k0, h =>
    if (h.1 k0 11) = (-1) then (
      ob (f_X12_look k0 h) fun r_4 h_3 =>
      if r_4 = 59 then (
        nm (sI h_3 k0 10 ((h_3.1 k0 10) + 1)) fun h_6 =>
        ov (f_X12_clause k0 h_6) fun h_9 =>
        f_X12_goThrough_32 n k0 h_9
      ) else (
        f_X12_goThrough_66 k0 h_3
      )
    ) else (
      f_X12_goThrough_66 k0 h
    )
def f_X12_goThrough (k0 : Nat) (k1 : Nat) (x2 : Int32) (x3 : Int32) (h : AH) : Option AH :=
  ov (f_X12_opens k0 k1 x2 x3 h) fun h_2 =>
  nm (sI h_2 k0 13 121) fun h_3 =>
  nm (sI h_3 k0 12 0) fun h_5 =>
  nm (sI h_5 k0 18 0) fun h_7 =>
  nm (sI h_7 k0 14 0) fun h_9 =>
  ov (f_X12_clause k0 h_9) fun h_12 =>
  f_X12_goThrough_32 FU k0 h_12
set_option maxHeartbeats 4000000 in
set_option maxRecDepth 100000 in
theorem v_X12_goThrough_87 {E : EV} {d : Nat} (hd : 1456 ≤ d) {h0 : AH}  {h : AH} (hf : f_X12_goThrough_87 h = some h0) : V E (d + 1) K_X12_goThrough (ZV E h0) h [] [] 87 := by
  unfold f_X12_goThrough_87 at hf
  exact V_vret rfl (so_s hf) dX12_goThrough_87
set_option maxHeartbeats 4000000 in
set_option maxRecDepth 100000 in
theorem v_X12_goThrough_66 {E : EV} {d : Nat} (hd : 1456 ≤ d) {h0 : AH} {k0 : Nat} {h : AH} (hf : f_X12_goThrough_66 k0 h = some h0) (t_k0 : kd k0 = (0, 12)) : V E (d + 1) K_X12_goThrough (ZV E h0) h [(0, .ref k0)] [] 66 := by
  unfold f_X12_goThrough_66 at hf
  refine V_aload_n 0 dX12_goThrough_66 rfl rfl ?_
  refine V_getI F_X12_153 rfl t_k0 rfl dX12_goThrough_67 ?_
  refine V_iconst (v := (-1)) dX12_goThrough_70 (by decide) ?_
  refine V_ic_ne (tgt := 87) dX12_goThrough_71 (by decide) (fun c_1 => ?_) (fun c_1 => ?_)
  · have hf := if_s c_1 hf
    refine V_sub [] rfl ?_
    exact v_X12_goThrough_87 hd hf
  · have hf := it_s c_1 hf
    refine V_aload_n 0 dX12_goThrough_74 rfl rfl ?_
    obtain ⟨r_4, h_3, e_2, hf⟩ := ob_s hf
    refine V_cvi (As := []) (rest := []) (c_X12_look (d := d) (Nat.le_trans (Nat.le_of_ble_eq_true rfl) hd) e_2 t_k0) ML_X12_163 MV_X12_look rfl t_k0 rfl rfl (Nat.le_of_ble_eq_true rfl) dX12_goThrough_75 ?_
    refine V_iconst (v := (-1)) dX12_goThrough_78 (by decide) ?_
    refine V_ic_eq (tgt := 87) dX12_goThrough_79 (by decide) (fun c_5 => ?_) (fun c_5 => ?_)
    · have hf := it_s c_5 hf
      refine V_sub [] rfl ?_
      exact v_X12_goThrough_87 hd hf
    · have hf := if_s c_5 hf
      refine V_aload_n 0 dX12_goThrough_82 rfl rfl ?_
      obtain ⟨r_8, h_7, e_6, hf⟩ := ob_s hf
      refine V_cvi (As := []) (rest := []) (c_X12_fails (d := d) (Nat.le_trans (Nat.le_of_ble_eq_true rfl) hd) e_6 t_k0) ML_X12_159 MV_X12_fails rfl t_k0 rfl rfl (Nat.le_of_ble_eq_true rfl) dX12_goThrough_83 ?_
      refine V_pop dX12_goThrough_86 rfl ?_
      refine V_sub [] rfl ?_
      exact v_X12_goThrough_87 hd hf
set_option maxHeartbeats 4000000 in
set_option maxRecDepth 100000 in
theorem v_X12_goThrough_32 {E : EV} {d : Nat} (hd : 1456 ≤ d) {h0 : AH} : ∀ (n : Nat) (k0 : Nat) (h : AH), f_X12_goThrough_32 n k0 h = some h0 → kd k0 = (0, 12) → V E (d + 1) K_X12_goThrough (ZV E h0) h [(0, .ref k0)] [] 32 := by
  intro n
  induction n with
  | zero =>
    intro k0 h hf
    rw [f_X12_goThrough_32] at hf
    cases hf
  | succ n ih =>
    intro k0 h hf t_k0
    rw [f_X12_goThrough_32] at hf
    refine V_aload_n 0 dX12_goThrough_32 rfl rfl ?_
    refine V_getI F_X12_153 rfl t_k0 rfl dX12_goThrough_33 ?_
    refine V_iconst (v := (-1)) dX12_goThrough_36 (by decide) ?_
    refine V_ic_ne (tgt := 66) dX12_goThrough_37 (by decide) (fun c_1 => ?_) (fun c_1 => ?_)
    · have hf := if_s c_1 hf
      exact v_X12_goThrough_66 hd hf t_k0
    · have hf := it_s c_1 hf
      refine V_aload_n 0 dX12_goThrough_40 rfl rfl ?_
      obtain ⟨r_4, h_3, e_2, hf⟩ := ob_s hf
      refine V_cvi (As := []) (rest := []) (c_X12_look (d := d) (Nat.le_trans (Nat.le_of_ble_eq_true rfl) hd) e_2 t_k0) ML_X12_163 MV_X12_look rfl t_k0 rfl rfl (Nat.le_of_ble_eq_true rfl) dX12_goThrough_41 ?_
      refine V_bipush (v := 59) dX12_goThrough_44 (by decide) ?_
      refine V_ic_ne (tgt := 66) dX12_goThrough_46 (by decide) (fun c_5 => ?_) (fun c_5 => ?_)
      · have hf := if_s c_5 hf
        exact v_X12_goThrough_66 hd hf t_k0
      · have hf := it_s c_5 hf
        refine V_aload_n 0 dX12_goThrough_49 rfl rfl ?_
        refine V_dup dX12_goThrough_50 rfl ?_
        refine V_getI F_X12_144 rfl t_k0 rfl dX12_goThrough_51 ?_
        refine V_iconst (v := 1) dX12_goThrough_54 (by decide) ?_
        refine V_iadd dX12_goThrough_55 ?_
        obtain ⟨h_6, e_7, hf⟩ := nm_s hf
        refine V_putI P_X12_144 rfl t_k0 rfl e_7 dX12_goThrough_56 ?_
        refine V_aload_n 0 dX12_goThrough_59 rfl rfl ?_
        obtain ⟨h_9, e_8, hf⟩ := ov_s hf
        refine V_cvv (As := []) (rest := []) (c_X12_clause (d := d) (Nat.le_trans (Nat.le_of_ble_eq_true rfl) hd) e_8 t_k0) ML_X12_236 MV_X12_clause rfl t_k0 rfl rfl (Nat.le_of_ble_eq_true rfl) dX12_goThrough_60 ?_
        refine V_goto (tgt := 32) dX12_goThrough_63 (by decide) ?_
        exact ih _ _ hf t_k0
set_option maxHeartbeats 4000000 in
set_option maxRecDepth 100000 in
theorem c_X12_goThrough {E : EV} {d : Nat} (hd : 1456 + 1 ≤ d) {k0 : Nat} {k1 : Nat} {x2 : Int32} {x3 : Int32} {h : AH} {h0 : AH} (hf : f_X12_goThrough k0 k1 x2 x3 h = some h0) (t_k0 : kd k0 = (0, 12)) (t_k1 : (kd k1).1 = 3) : Con E d K_X12_goThrough (ZV E h0) [.ref k0, .ref k1, .int x2, .int x3] h := by
  obtain ⟨d, rfl⟩ : ∃ d', d = d' + 1 := ⟨d - 1, by omega⟩
  have hd := Nat.le_of_succ_le_succ hd
  refine Con.ofV rfl (Nat.le_of_ble_eq_true rfl) ?_
  unfold f_X12_goThrough at hf
  show V E (d + 1) K_X12_goThrough (ZV E h0) h [(0, .ref k0), (1, .ref k1), (2, .int x2), (3, .int x3)] [] 0
  refine V_aload_n 0 dX12_goThrough_0 rfl rfl ?_
  refine V_aload_n 1 dX12_goThrough_1 rfl rfl ?_
  refine V_iload_n 2 dX12_goThrough_2 rfl rfl ?_
  refine V_iload_n 3 dX12_goThrough_3 rfl rfl ?_
  obtain ⟨h_2, e_1, hf⟩ := ov_s hf
  refine V_cvv (As := [.ref k1, .int x2, .int x3]) (rest := []) (c_X12_opens (d := d) (Nat.le_trans (Nat.le_of_ble_eq_true rfl) hd) e_1 t_k0 t_k1) ML_X12_232 MV_X12_opens rfl t_k0 rfl rfl (Nat.le_of_ble_eq_true rfl) dX12_goThrough_4 ?_
  refine V_aload_n 0 dX12_goThrough_7 rfl rfl ?_
  refine V_bipush (v := 121) dX12_goThrough_8 (by decide) ?_
  obtain ⟨h_3, e_4, hf⟩ := nm_s hf
  refine V_putI P_X12_226 rfl t_k0 rfl e_4 dX12_goThrough_10 ?_
  refine V_aload_n 0 dX12_goThrough_13 rfl rfl ?_
  refine V_iconst (v := 0) dX12_goThrough_14 (by decide) ?_
  obtain ⟨h_5, e_6, hf⟩ := nm_s hf
  refine V_putI P_X12_156 rfl t_k0 rfl e_6 dX12_goThrough_15 ?_
  refine V_aload_n 0 dX12_goThrough_18 rfl rfl ?_
  refine V_iconst (v := 0) dX12_goThrough_19 (by decide) ?_
  obtain ⟨h_7, e_8, hf⟩ := nm_s hf
  refine V_putZ P_X12_222 rfl t_k0 rfl (by decide) e_8 dX12_goThrough_20 ?_
  refine V_aload_n 0 dX12_goThrough_23 rfl rfl ?_
  refine V_iconst (v := 0) dX12_goThrough_24 (by decide) ?_
  obtain ⟨h_9, e_10, hf⟩ := nm_s hf
  refine V_putI P_X12_229 rfl t_k0 rfl e_10 dX12_goThrough_25 ?_
  refine V_aload_n 0 dX12_goThrough_28 rfl rfl ?_
  obtain ⟨h_12, e_11, hf⟩ := ov_s hf
  refine V_cvv (As := []) (rest := []) (c_X12_clause (d := d) (Nat.le_trans (Nat.le_of_ble_eq_true rfl) hd) e_11 t_k0) ML_X12_236 MV_X12_clause rfl t_k0 rfl rfl (Nat.le_of_ble_eq_true rfl) dX12_goThrough_29 ?_
  refine V_sub [0] rfl ?_
  exact v_X12_goThrough_32 hd FU _ _ hf t_k0
theorem dX12_liking_0 : decode cX12_liking 0 = .ok (.aload_n 0, 1) := by decide +kernel
theorem dX12_liking_1 : decode cX12_liking 1 = .ok (.getfield 57, 3) := by decide +kernel
theorem dX12_liking_4 : decode cX12_liking 4 = .ok (.iload_n 1, 1) := by decide +kernel
theorem dX12_liking_5 : decode cX12_liking 5 = .ok (.iaload, 1) := by decide +kernel
theorem dX12_liking_6 : decode cX12_liking 6 = .ok (.iconst (-1), 1) := by decide +kernel
theorem dX12_liking_7 : decode cX12_liking 7 = .ok (.if_icmp .ne 25, 3) := by decide +kernel
theorem dX12_liking_10 : decode cX12_liking 10 = .ok (.aload_n 0, 1) := by decide +kernel
theorem dX12_liking_11 : decode cX12_liking 11 = .ok (.iload_n 1, 1) := by decide +kernel
theorem dX12_liking_12 : decode cX12_liking 12 = .ok (.iload_n 2, 1) := by decide +kernel
theorem dX12_liking_13 : decode cX12_liking 13 = .ok (.invokevirtual 306, 3) := by decide +kernel
theorem dX12_liking_16 : decode cX12_liking 16 = .ok (.ifCond .eq 14, 3) := by decide +kernel
theorem dX12_liking_19 : decode cX12_liking 19 = .ok (.aload_n 0, 1) := by decide +kernel
theorem dX12_liking_20 : decode cX12_liking 20 = .ok (.getfield 54, 3) := by decide +kernel
theorem dX12_liking_23 : decode cX12_liking 23 = .ok (.iload_n 2, 1) := by decide +kernel
theorem dX12_liking_24 : decode cX12_liking 24 = .ok (.iaload, 1) := by decide +kernel
theorem dX12_liking_25 : decode cX12_liking 25 = .ok (.iconst 1, 1) := by decide +kernel
theorem dX12_liking_26 : decode cX12_liking 26 = .ok (.iadd, 1) := by decide +kernel
theorem dX12_liking_27 : decode cX12_liking 27 = .ok (.goto 4, 3) := by decide +kernel
theorem dX12_liking_30 : decode cX12_liking 30 = .ok (.iconst 0, 1) := by decide +kernel
theorem dX12_liking_31 : decode cX12_liking 31 = .ok (.ireturn, 1) := by decide +kernel
theorem dX12_liking_32 : decode cX12_liking 32 = .ok (.aload_n 0, 1) := by decide +kernel
theorem dX12_liking_33 : decode cX12_liking 33 = .ok (.getfield 20, 3) := by decide +kernel
theorem dX12_liking_36 : decode cX12_liking 36 = .ok (.bipush 119, 2) := by decide +kernel
theorem dX12_liking_38 : decode cX12_liking 38 = .ok (.aload_n 0, 1) := by decide +kernel
theorem dX12_liking_39 : decode cX12_liking 39 = .ok (.getfield 54, 3) := by decide +kernel
theorem dX12_liking_42 : decode cX12_liking 42 = .ok (.iload_n 2, 1) := by decide +kernel
theorem dX12_liking_43 : decode cX12_liking 43 = .ok (.iaload, 1) := by decide +kernel
theorem dX12_liking_44 : decode cX12_liking 44 = .ok (.iastore, 1) := by decide +kernel
theorem dX12_liking_45 : decode cX12_liking 45 = .ok (.aload_n 0, 1) := by decide +kernel
theorem dX12_liking_46 : decode cX12_liking 46 = .ok (.getfield 20, 3) := by decide +kernel
theorem dX12_liking_49 : decode cX12_liking 49 = .ok (.bipush 102, 2) := by decide +kernel
theorem dX12_liking_51 : decode cX12_liking 51 = .ok (.aload_n 0, 1) := by decide +kernel
theorem dX12_liking_52 : decode cX12_liking 52 = .ok (.getfield 51, 3) := by decide +kernel
theorem dX12_liking_55 : decode cX12_liking 55 = .ok (.iload_n 2, 1) := by decide +kernel
theorem dX12_liking_56 : decode cX12_liking 56 = .ok (.iaload, 1) := by decide +kernel
theorem dX12_liking_57 : decode cX12_liking 57 = .ok (.aload_n 0, 1) := by decide +kernel
theorem dX12_liking_58 : decode cX12_liking 58 = .ok (.iload_n 1, 1) := by decide +kernel
theorem dX12_liking_59 : decode cX12_liking 59 = .ok (.iconst 0, 1) := by decide +kernel
theorem dX12_liking_60 : decode cX12_liking 60 = .ok (.invokevirtual 300, 3) := by decide +kernel
theorem dX12_liking_63 : decode cX12_liking 63 = .ok (.isub, 1) := by decide +kernel
theorem dX12_liking_64 : decode cX12_liking 64 = .ok (.iastore, 1) := by decide +kernel
theorem dX12_liking_65 : decode cX12_liking 65 = .ok (.aload_n 0, 1) := by decide +kernel
theorem dX12_liking_66 : decode cX12_liking 66 = .ok (.getfield 20, 3) := by decide +kernel
theorem dX12_liking_69 : decode cX12_liking 69 = .ok (.bipush 115, 2) := by decide +kernel
theorem dX12_liking_71 : decode cX12_liking 71 = .ok (.aload_n 0, 1) := by decide +kernel
theorem dX12_liking_72 : decode cX12_liking 72 = .ok (.iload_n 1, 1) := by decide +kernel
theorem dX12_liking_73 : decode cX12_liking 73 = .ok (.iconst 0, 1) := by decide +kernel
theorem dX12_liking_74 : decode cX12_liking 74 = .ok (.invokevirtual 300, 3) := by decide +kernel
theorem dX12_liking_77 : decode cX12_liking 77 = .ok (.iastore, 1) := by decide +kernel
theorem dX12_liking_78 : decode cX12_liking 78 = .ok (.aload_n 0, 1) := by decide +kernel
theorem dX12_liking_79 : decode cX12_liking 79 = .ok (.getfield 20, 3) := by decide +kernel
theorem dX12_liking_82 : decode cX12_liking 82 = .ok (.bipush 111, 2) := by decide +kernel
theorem dX12_liking_84 : decode cX12_liking 84 = .ok (.iload_n 2, 1) := by decide +kernel
theorem dX12_liking_85 : decode cX12_liking 85 = .ok (.iload_n 1, 1) := by decide +kernel
theorem dX12_liking_86 : decode cX12_liking 86 = .ok (.if_icmp .ne 7, 3) := by decide +kernel
theorem dX12_liking_89 : decode cX12_liking 89 = .ok (.iconst 1, 1) := by decide +kernel
theorem dX12_liking_90 : decode cX12_liking 90 = .ok (.goto 4, 3) := by decide +kernel
theorem dX12_liking_93 : decode cX12_liking 93 = .ok (.iconst 0, 1) := by decide +kernel
theorem dX12_liking_94 : decode cX12_liking 94 = .ok (.iastore, 1) := by decide +kernel
theorem dX12_liking_95 : decode cX12_liking 95 = .ok (.aload_n 0, 1) := by decide +kernel
theorem dX12_liking_96 : decode cX12_liking 96 = .ok (.getfield 20, 3) := by decide +kernel
theorem dX12_liking_99 : decode cX12_liking 99 = .ok (.bipush 110, 2) := by decide +kernel
theorem dX12_liking_101 : decode cX12_liking 101 = .ok (.iload_n 3, 1) := by decide +kernel
theorem dX12_liking_102 : decode cX12_liking 102 = .ok (.invokestatic 309, 3) := by decide +kernel
theorem dX12_liking_105 : decode cX12_liking 105 = .ok (.iastore, 1) := by decide +kernel
theorem dX12_liking_106 : decode cX12_liking 106 = .ok (.aload_n 0, 1) := by decide +kernel
theorem dX12_liking_107 : decode cX12_liking 107 = .ok (.getfield 20, 3) := by decide +kernel
theorem dX12_liking_110 : decode cX12_liking 110 = .ok (.bipush 112, 2) := by decide +kernel
theorem dX12_liking_112 : decode cX12_liking 112 = .ok (.iload_n 2, 1) := by decide +kernel
theorem dX12_liking_113 : decode cX12_liking 113 = .ok (.iastore, 1) := by decide +kernel
theorem dX12_liking_114 : decode cX12_liking 114 = .ok (.aload_n 0, 1) := by decide +kernel
theorem dX12_liking_115 : decode cX12_liking 115 = .ok (.aload_n 0, 1) := by decide +kernel
theorem dX12_liking_116 : decode cX12_liking 116 = .ok (.getfield 13, 3) := by decide +kernel
theorem dX12_liking_119 : decode cX12_liking 119 = .ok (.sipush 160, 3) := by decide +kernel
theorem dX12_liking_122 : decode cX12_liking 122 = .ok (.aload_n 0, 1) := by decide +kernel
theorem dX12_liking_123 : decode cX12_liking 123 = .ok (.getfield 57, 3) := by decide +kernel
theorem dX12_liking_126 : decode cX12_liking 126 = .ok (.iload_n 1, 1) := by decide +kernel
theorem dX12_liking_127 : decode cX12_liking 127 = .ok (.iaload, 1) := by decide +kernel
theorem dX12_liking_128 : decode cX12_liking 128 = .ok (.imul, 1) := by decide +kernel
theorem dX12_liking_129 : decode cX12_liking 129 = .ok (.aload_n 0, 1) := by decide +kernel
theorem dX12_liking_130 : decode cX12_liking 130 = .ok (.getfield 16, 3) := by decide +kernel
theorem dX12_liking_133 : decode cX12_liking 133 = .ok (.aload_n 0, 1) := by decide +kernel
theorem dX12_liking_134 : decode cX12_liking 134 = .ok (.getfield 57, 3) := by decide +kernel
theorem dX12_liking_137 : decode cX12_liking 137 = .ok (.iload_n 1, 1) := by decide +kernel
theorem dX12_liking_138 : decode cX12_liking 138 = .ok (.iaload, 1) := by decide +kernel
theorem dX12_liking_139 : decode cX12_liking 139 = .ok (.iaload, 1) := by decide +kernel
theorem dX12_liking_140 : decode cX12_liking 140 = .ok (.invokevirtual 275, 3) := by decide +kernel
theorem dX12_liking_143 : decode cX12_liking 143 = .ok (.aload_n 0, 1) := by decide +kernel
theorem dX12_liking_144 : decode cX12_liking 144 = .ok (.getfield 229, 3) := by decide +kernel
theorem dX12_liking_147 : decode cX12_liking 147 = .ok (.ireturn, 1) := by decide +kernel
theorem F_X12_13 : FLk RX12 13 12 2 := ⟨RX12, TX12, 58, rfl, rfl, iw_X12, by decide, Or.inl fl_X12_13⟩
theorem F_X12_57 : FLk RX12 57 12 26 := ⟨RX12, TX12, 58, rfl, rfl, iw_X12, by decide, Or.inl fl_X12_57⟩
theorem F_X12_16 : FLk RX12 16 12 3 := ⟨RX12, TX12, 58, rfl, rfl, iw_X12, by decide, Or.inl fl_X12_16⟩
theorem ML_X12_275 : MLk RX12 275 yX12_goThrough := Or.inl ml_X12_275
theorem MV_X12_goThrough : MVk K_X12_goThrough 3 12 := ⟨⟨cd_X12_goThrough, in_X12, ⟨by decide, by decide, by decide +kernel⟩, by decide⟩, im_X12_goThrough, se_X12_goThrough, _, _, rfl⟩
theorem ML_X12_306 : MLk RX12 306 yX12_doesFit := Or.inl ml_X12_306
theorem MV_X12_doesFit : MVk K_X12_doesFit 2 12 := ⟨⟨cd_X12_doesFit, in_X12, ⟨by decide, by decide, by decide +kernel⟩, by decide⟩, im_X12_doesFit, se_X12_doesFit, _, _, rfl⟩
def f_X12_liking_31 (s0 : Int32) (h : AH) : Option (Int32 × AH) :=
  some (s0, h)
def f_X12_liking_94 (k0 : Nat) (x1 : Int32) (x2 : Int32) (x3 : Int32) (s0 : Int32) (s1 : Int32) (sk2 : Nat) (h : AH) : Option (Int32 × AH) :=
  og (ix s1 (an sk2)) <|
  nm (sI h sk2 s1.toNatClampNeg s0) fun h_2 =>
  ob (f_J6_bitCount_0f7a4 x3 h_2) fun r_6 h_5 =>
  og (ix 110 (an (rf k0 4))) <|
  nm (sI h_5 (rf k0 4) (110 : Int32).toNatClampNeg r_6) fun h_8 =>
  og (ix 112 (an (rf k0 4))) <|
  nm (sI h_8 (rf k0 4) (112 : Int32).toNatClampNeg x2) fun h_11 =>
  og (ix x1 (an (rf k0 26))) <|
  og (ix x1 (an (rf k0 26))) <|
  og (ix (h_11.1 (rf k0 26) x1.toNatClampNeg) (an (rf k0 3))) <|
  ov (f_X12_goThrough k0 (rf k0 2) (160 * (h_11.1 (rf k0 26) x1.toNatClampNeg)) (h_11.1 (rf k0 3) (h_11.1 (rf k0 26) x1.toNatClampNeg).toNatClampNeg) h_11) fun h_17 =>
  some ((h_17.1 k0 14), h_17)
def f_X12_liking (k0 : Nat) (x1 : Int32) (x2 : Int32) (x3 : Int32) (h : AH) : Option (Int32 × AH) :=
  og (ix x1 (an (rf k0 26))) <|
  if (h.1 (rf k0 26) x1.toNatClampNeg) = (-1) then (
    ob (f_X12_doesFit k0 x1 x2 h) fun r_23 h_22 =>
    if r_23 = 0 then (
      f_X12_liking_31 0 h_22
    ) else (
      og (ix x2 (an (rf k0 25))) <|
      f_X12_liking_31 ((h_22.1 (rf k0 25) x2.toNatClampNeg) + 1) h_22
    )
  ) else (
    og (ix x2 (an (rf k0 25))) <|
    og (ix 119 (an (rf k0 4))) <|
    nm (sI h (rf k0 4) (119 : Int32).toNatClampNeg (h.1 (rf k0 25) x2.toNatClampNeg)) fun h_5 =>
    og (ix x2 (an (rf k0 24))) <|
    ob (f_X12_partOf k0 x1 0 h_5) fun r_10 h_9 =>
    og (ix 102 (an (rf k0 4))) <|
    nm (sI h_9 (rf k0 4) (102 : Int32).toNatClampNeg ((h_5.1 (rf k0 24) x2.toNatClampNeg) - r_10)) fun h_12 =>
    ob (f_X12_partOf k0 x1 0 h_12) fun r_16 h_15 =>
    og (ix 115 (an (rf k0 4))) <|
    nm (sI h_15 (rf k0 4) (115 : Int32).toNatClampNeg r_16) fun h_18 =>
    if x2 = x1 then (
      f_X12_liking_94 k0 x1 x2 x3 1 111 (rf k0 4) h_18
    ) else (
      f_X12_liking_94 k0 x1 x2 x3 0 111 (rf k0 4) h_18
    )
  )
set_option maxHeartbeats 4000000 in
set_option maxRecDepth 100000 in
theorem v_X12_liking_31 {E : EV} {d : Nat} (hd : 1457 ≤ d) {r0 : Int32} {h0 : AH} {s0 : Int32} {h : AH} (hf : f_X12_liking_31 s0 h = some (r0, h0)) : V E (d + 1) K_X12_liking (ZI E r0 h0) h [] [.int s0] 31 := by
  unfold f_X12_liking_31 at hf
  exact V_iret rfl (so_s hf) dX12_liking_31
set_option maxHeartbeats 4000000 in
set_option maxRecDepth 100000 in
theorem v_X12_liking_94 {E : EV} {d : Nat} (hd : 1457 ≤ d) {r0 : Int32} {h0 : AH} {k0 : Nat} {x1 : Int32} {x2 : Int32} {x3 : Int32} {s0 : Int32} {s1 : Int32} {sk2 : Nat} {h : AH} (hf : f_X12_liking_94 k0 x1 x2 x3 s0 s1 sk2 h = some (r0, h0)) (t_k0 : kd k0 = (0, 12)) (t_sk2 : (kd sk2).1 = 1) : V E (d + 1) K_X12_liking (ZI E r0 h0) h [(0, .ref k0), (1, .int x1), (2, .int x2), (3, .int x3)] [.int s0, .int s1, .ref sk2] 94 := by
  unfold f_X12_liking_94 at hf
  obtain ⟨b_1, hf⟩ := og_s hf
  obtain ⟨h_2, e_3, hf⟩ := nm_s hf
  refine V_iast t_sk2 b_1 e_3 dX12_liking_94 ?_
  refine V_aload_n 0 dX12_liking_95 rfl rfl ?_
  refine V_getR F_X12_20 rfl t_k0 rfl dX12_liking_96 ?_
  refine V_bipush (v := 110) dX12_liking_99 (by decide) ?_
  refine V_iload_n 3 dX12_liking_101 rfl rfl ?_
  obtain ⟨r_6, h_5, e_4, hf⟩ := ob_s hf
  refine V_csi (As := [.int x3]) (rest := [.int 110, .ref (rf k0 4)]) (c_J6_bitCount_0f7a4 (d := d) (Nat.le_trans (Nat.le_of_ble_eq_true rfl) hd) e_4) ML_X12_309 MS_J6_bitCount_0f7a4 rfl rfl rfl (Nat.le_of_ble_eq_true rfl) dX12_liking_102 ?_
  obtain ⟨b_7, hf⟩ := og_s hf
  obtain ⟨h_8, e_9, hf⟩ := nm_s hf
  refine V_iast (rfA t_k0 (Nat.le_of_ble_eq_true rfl) rfl rfl (by decide)) b_7 e_9 dX12_liking_105 ?_
  refine V_aload_n 0 dX12_liking_106 rfl rfl ?_
  refine V_getR F_X12_20 rfl t_k0 rfl dX12_liking_107 ?_
  refine V_bipush (v := 112) dX12_liking_110 (by decide) ?_
  refine V_iload_n 2 dX12_liking_112 rfl rfl ?_
  obtain ⟨b_10, hf⟩ := og_s hf
  obtain ⟨h_11, e_12, hf⟩ := nm_s hf
  refine V_iast (rfA t_k0 (Nat.le_of_ble_eq_true rfl) rfl rfl (by decide)) b_10 e_12 dX12_liking_113 ?_
  refine V_aload_n 0 dX12_liking_114 rfl rfl ?_
  refine V_aload_n 0 dX12_liking_115 rfl rfl ?_
  refine V_getR F_X12_13 rfl t_k0 rfl dX12_liking_116 ?_
  refine V_sipush (v := 160) dX12_liking_119 (by decide) ?_
  refine V_aload_n 0 dX12_liking_122 rfl rfl ?_
  refine V_getR F_X12_57 rfl t_k0 rfl dX12_liking_123 ?_
  refine V_iload_n 1 dX12_liking_126 rfl rfl ?_
  obtain ⟨b_13, hf⟩ := og_s hf
  refine V_iald (rfA t_k0 (Nat.le_of_ble_eq_true rfl) rfl rfl (by decide)) b_13 dX12_liking_127 ?_
  refine V_imul dX12_liking_128 ?_
  refine V_aload_n 0 dX12_liking_129 rfl rfl ?_
  refine V_getR F_X12_16 rfl t_k0 rfl dX12_liking_130 ?_
  refine V_aload_n 0 dX12_liking_133 rfl rfl ?_
  refine V_getR F_X12_57 rfl t_k0 rfl dX12_liking_134 ?_
  refine V_iload_n 1 dX12_liking_137 rfl rfl ?_
  obtain ⟨b_14, hf⟩ := og_s hf
  refine V_iald (rfA t_k0 (Nat.le_of_ble_eq_true rfl) rfl rfl (by decide)) b_14 dX12_liking_138 ?_
  obtain ⟨b_15, hf⟩ := og_s hf
  refine V_iald (rfA t_k0 (Nat.le_of_ble_eq_true rfl) rfl rfl (by decide)) b_15 dX12_liking_139 ?_
  obtain ⟨h_17, e_16, hf⟩ := ov_s hf
  refine V_cvv (As := [.ref (rf k0 2), .int (160 * (h_11.1 (rf k0 26) x1.toNatClampNeg)), .int (h_11.1 (rf k0 3) (h_11.1 (rf k0 26) x1.toNatClampNeg).toNatClampNeg)]) (rest := []) (c_X12_goThrough (d := d) (Nat.le_trans (Nat.le_of_ble_eq_true rfl) hd) e_16 t_k0 (rfA t_k0 (Nat.le_of_ble_eq_true rfl) rfl rfl (by decide))) ML_X12_275 MV_X12_goThrough rfl t_k0 rfl rfl (Nat.le_of_ble_eq_true rfl) dX12_liking_140 ?_
  refine V_aload_n 0 dX12_liking_143 rfl rfl ?_
  refine V_getI F_X12_229 rfl t_k0 rfl dX12_liking_144 ?_
  exact V_iret rfl (so_s hf) dX12_liking_147
set_option maxHeartbeats 4000000 in
set_option maxRecDepth 100000 in
theorem c_X12_liking {E : EV} {d : Nat} (hd : 1457 + 1 ≤ d) {k0 : Nat} {x1 : Int32} {x2 : Int32} {x3 : Int32} {h : AH} {r0 : Int32} {h0 : AH} (hf : f_X12_liking k0 x1 x2 x3 h = some (r0, h0)) (t_k0 : kd k0 = (0, 12)) : Con E d K_X12_liking (ZI E r0 h0) [.ref k0, .int x1, .int x2, .int x3] h := by
  obtain ⟨d, rfl⟩ : ∃ d', d = d' + 1 := ⟨d - 1, by omega⟩
  have hd := Nat.le_of_succ_le_succ hd
  refine Con.ofV rfl (Nat.le_of_ble_eq_true rfl) ?_
  unfold f_X12_liking at hf
  show V E (d + 1) K_X12_liking (ZI E r0 h0) h [(0, .ref k0), (1, .int x1), (2, .int x2), (3, .int x3)] [] 0
  refine V_aload_n 0 dX12_liking_0 rfl rfl ?_
  refine V_getR F_X12_57 rfl t_k0 rfl dX12_liking_1 ?_
  refine V_iload_n 1 dX12_liking_4 rfl rfl ?_
  obtain ⟨b_1, hf⟩ := og_s hf
  refine V_iald (rfA t_k0 (Nat.le_of_ble_eq_true rfl) rfl rfl (by decide)) b_1 dX12_liking_5 ?_
  refine V_iconst (v := (-1)) dX12_liking_6 (by decide) ?_
  refine V_ic_ne (tgt := 32) dX12_liking_7 (by decide) (fun c_2 => ?_) (fun c_2 => ?_)
  · have hf := if_s c_2 hf
    refine V_aload_n 0 dX12_liking_32 rfl rfl ?_
    refine V_getR F_X12_20 rfl t_k0 rfl dX12_liking_33 ?_
    refine V_bipush (v := 119) dX12_liking_36 (by decide) ?_
    refine V_aload_n 0 dX12_liking_38 rfl rfl ?_
    refine V_getR F_X12_54 rfl t_k0 rfl dX12_liking_39 ?_
    refine V_iload_n 2 dX12_liking_42 rfl rfl ?_
    obtain ⟨b_3, hf⟩ := og_s hf
    refine V_iald (rfA t_k0 (Nat.le_of_ble_eq_true rfl) rfl rfl (by decide)) b_3 dX12_liking_43 ?_
    obtain ⟨b_4, hf⟩ := og_s hf
    obtain ⟨h_5, e_6, hf⟩ := nm_s hf
    refine V_iast (rfA t_k0 (Nat.le_of_ble_eq_true rfl) rfl rfl (by decide)) b_4 e_6 dX12_liking_44 ?_
    refine V_aload_n 0 dX12_liking_45 rfl rfl ?_
    refine V_getR F_X12_20 rfl t_k0 rfl dX12_liking_46 ?_
    refine V_bipush (v := 102) dX12_liking_49 (by decide) ?_
    refine V_aload_n 0 dX12_liking_51 rfl rfl ?_
    refine V_getR F_X12_51 rfl t_k0 rfl dX12_liking_52 ?_
    refine V_iload_n 2 dX12_liking_55 rfl rfl ?_
    obtain ⟨b_7, hf⟩ := og_s hf
    refine V_iald (rfA t_k0 (Nat.le_of_ble_eq_true rfl) rfl rfl (by decide)) b_7 dX12_liking_56 ?_
    refine V_aload_n 0 dX12_liking_57 rfl rfl ?_
    refine V_iload_n 1 dX12_liking_58 rfl rfl ?_
    refine V_iconst (v := 0) dX12_liking_59 (by decide) ?_
    obtain ⟨r_10, h_9, e_8, hf⟩ := ob_s hf
    refine V_cvi (As := [.int x1, .int 0]) (rest := [.int (h_5.1 (rf k0 24) x2.toNatClampNeg), .int 102, .ref (rf k0 4)]) (c_X12_partOf (d := d) (Nat.le_trans (Nat.le_of_ble_eq_true rfl) hd) e_8 t_k0) ML_X12_300 MV_X12_partOf rfl t_k0 rfl rfl (Nat.le_of_ble_eq_true rfl) dX12_liking_60 ?_
    refine V_isub dX12_liking_63 ?_
    obtain ⟨b_11, hf⟩ := og_s hf
    obtain ⟨h_12, e_13, hf⟩ := nm_s hf
    refine V_iast (rfA t_k0 (Nat.le_of_ble_eq_true rfl) rfl rfl (by decide)) b_11 e_13 dX12_liking_64 ?_
    refine V_aload_n 0 dX12_liking_65 rfl rfl ?_
    refine V_getR F_X12_20 rfl t_k0 rfl dX12_liking_66 ?_
    refine V_bipush (v := 115) dX12_liking_69 (by decide) ?_
    refine V_aload_n 0 dX12_liking_71 rfl rfl ?_
    refine V_iload_n 1 dX12_liking_72 rfl rfl ?_
    refine V_iconst (v := 0) dX12_liking_73 (by decide) ?_
    obtain ⟨r_16, h_15, e_14, hf⟩ := ob_s hf
    refine V_cvi (As := [.int x1, .int 0]) (rest := [.int 115, .ref (rf k0 4)]) (c_X12_partOf (d := d) (Nat.le_trans (Nat.le_of_ble_eq_true rfl) hd) e_14 t_k0) ML_X12_300 MV_X12_partOf rfl t_k0 rfl rfl (Nat.le_of_ble_eq_true rfl) dX12_liking_74 ?_
    obtain ⟨b_17, hf⟩ := og_s hf
    obtain ⟨h_18, e_19, hf⟩ := nm_s hf
    refine V_iast (rfA t_k0 (Nat.le_of_ble_eq_true rfl) rfl rfl (by decide)) b_17 e_19 dX12_liking_77 ?_
    refine V_aload_n 0 dX12_liking_78 rfl rfl ?_
    refine V_getR F_X12_20 rfl t_k0 rfl dX12_liking_79 ?_
    refine V_bipush (v := 111) dX12_liking_82 (by decide) ?_
    refine V_iload_n 2 dX12_liking_84 rfl rfl ?_
    refine V_iload_n 1 dX12_liking_85 rfl rfl ?_
    refine V_ic_ne (tgt := 93) dX12_liking_86 (by decide) (fun c_20 => ?_) (fun c_20 => ?_)
    · have hf := if_s c_20 hf
      refine V_iconst (v := 0) dX12_liking_93 (by decide) ?_
      exact v_X12_liking_94 hd hf t_k0 (rfA t_k0 (Nat.le_of_ble_eq_true rfl) rfl rfl (by decide))
    · have hf := it_s c_20 hf
      refine V_iconst (v := 1) dX12_liking_89 (by decide) ?_
      refine V_goto (tgt := 94) dX12_liking_90 (by decide) ?_
      exact v_X12_liking_94 hd hf t_k0 (rfA t_k0 (Nat.le_of_ble_eq_true rfl) rfl rfl (by decide))
  · have hf := it_s c_2 hf
    refine V_aload_n 0 dX12_liking_10 rfl rfl ?_
    refine V_iload_n 1 dX12_liking_11 rfl rfl ?_
    refine V_iload_n 2 dX12_liking_12 rfl rfl ?_
    obtain ⟨r_23, h_22, e_21, hf⟩ := ob_s hf
    refine V_cvi (As := [.int x1, .int x2]) (rest := []) (c_X12_doesFit (d := d) (Nat.le_trans (Nat.le_of_ble_eq_true rfl) hd) e_21 t_k0) ML_X12_306 MV_X12_doesFit rfl t_k0 rfl rfl (Nat.le_of_ble_eq_true rfl) dX12_liking_13 ?_
    refine V_if_eq (tgt := 30) dX12_liking_16 (by decide) (fun c_24 => ?_) (fun c_24 => ?_)
    · have hf := it_s c_24 hf
      refine V_iconst (v := 0) dX12_liking_30 (by decide) ?_
      refine V_sub [] rfl ?_
      exact v_X12_liking_31 hd hf
    · have hf := if_s c_24 hf
      refine V_aload_n 0 dX12_liking_19 rfl rfl ?_
      refine V_getR F_X12_54 rfl t_k0 rfl dX12_liking_20 ?_
      refine V_iload_n 2 dX12_liking_23 rfl rfl ?_
      obtain ⟨b_25, hf⟩ := og_s hf
      refine V_iald (rfA t_k0 (Nat.le_of_ble_eq_true rfl) rfl rfl (by decide)) b_25 dX12_liking_24 ?_
      refine V_iconst (v := 1) dX12_liking_25 (by decide) ?_
      refine V_iadd dX12_liking_26 ?_
      refine V_goto (tgt := 31) dX12_liking_27 (by decide) ?_
      refine V_sub [] rfl ?_
      exact v_X12_liking_31 hd hf
theorem dX12_takesOf_0 : decode cX12_takesOf 0 = .ok (.iconst (-1), 1) := by decide +kernel
theorem dX12_takesOf_1 : decode cX12_takesOf 1 = .ok (.istore_n 3, 1) := by decide +kernel
theorem dX12_takesOf_2 : decode cX12_takesOf 2 = .ok (.iconst 0, 1) := by decide +kernel
theorem dX12_takesOf_3 : decode cX12_takesOf 3 = .ok (.istore 4, 2) := by decide +kernel
theorem dX12_takesOf_5 : decode cX12_takesOf 5 = .ok (.iconst 0, 1) := by decide +kernel
theorem dX12_takesOf_6 : decode cX12_takesOf 6 = .ok (.istore 5, 2) := by decide +kernel
theorem dX12_takesOf_8 : decode cX12_takesOf 8 = .ok (.iload 5, 2) := by decide +kernel
theorem dX12_takesOf_10 : decode cX12_takesOf 10 = .ok (.aload_n 0, 1) := by decide +kernel
theorem dX12_takesOf_11 : decode cX12_takesOf 11 = .ok (.getfield 283, 3) := by decide +kernel
theorem dX12_takesOf_14 : decode cX12_takesOf 14 = .ok (.if_icmp .ge 71, 3) := by decide +kernel
theorem dX12_takesOf_17 : decode cX12_takesOf 17 = .ok (.iload_n 2, 1) := by decide +kernel
theorem dX12_takesOf_18 : decode cX12_takesOf 18 = .ok (.iload 5, 2) := by decide +kernel
theorem dX12_takesOf_20 : decode cX12_takesOf 20 = .ok (.invokestatic 258, 3) := by decide +kernel
theorem dX12_takesOf_23 : decode cX12_takesOf 23 = .ok (.ifCond .ne 6, 3) := by decide +kernel
theorem dX12_takesOf_26 : decode cX12_takesOf 26 = .ok (.goto 53, 3) := by decide +kernel
theorem dX12_takesOf_29 : decode cX12_takesOf 29 = .ok (.aload_n 0, 1) := by decide +kernel
theorem dX12_takesOf_30 : decode cX12_takesOf 30 = .ok (.iload_n 1, 1) := by decide +kernel
theorem dX12_takesOf_31 : decode cX12_takesOf 31 = .ok (.iload 5, 2) := by decide +kernel
theorem dX12_takesOf_33 : decode cX12_takesOf 33 = .ok (.iload_n 2, 1) := by decide +kernel
theorem dX12_takesOf_34 : decode cX12_takesOf 34 = .ok (.invokevirtual 314, 3) := by decide +kernel
theorem dX12_takesOf_37 : decode cX12_takesOf 37 = .ok (.istore 6, 2) := by decide +kernel
theorem dX12_takesOf_39 : decode cX12_takesOf 39 = .ok (.iload 6, 2) := by decide +kernel
theorem dX12_takesOf_41 : decode cX12_takesOf 41 = .ok (.ifCond .le 38, 3) := by decide +kernel
theorem dX12_takesOf_44 : decode cX12_takesOf 44 = .ok (.iload_n 3, 1) := by decide +kernel
theorem dX12_takesOf_45 : decode cX12_takesOf 45 = .ok (.iconst (-1), 1) := by decide +kernel
theorem dX12_takesOf_46 : decode cX12_takesOf 46 = .ok (.if_icmp .eq 26, 3) := by decide +kernel
theorem dX12_takesOf_49 : decode cX12_takesOf 49 = .ok (.iload 6, 2) := by decide +kernel
theorem dX12_takesOf_51 : decode cX12_takesOf 51 = .ok (.iload 4, 2) := by decide +kernel
theorem dX12_takesOf_53 : decode cX12_takesOf 53 = .ok (.if_icmp .lt 26, 3) := by decide +kernel
theorem dX12_takesOf_56 : decode cX12_takesOf 56 = .ok (.iload 6, 2) := by decide +kernel
theorem dX12_takesOf_58 : decode cX12_takesOf 58 = .ok (.iload 4, 2) := by decide +kernel
theorem dX12_takesOf_60 : decode cX12_takesOf 60 = .ok (.if_icmp .ne 12, 3) := by decide +kernel
theorem dX12_takesOf_63 : decode cX12_takesOf 63 = .ok (.iload 5, 2) := by decide +kernel
theorem dX12_takesOf_65 : decode cX12_takesOf 65 = .ok (.iload_n 1, 1) := by decide +kernel
theorem dX12_takesOf_66 : decode cX12_takesOf 66 = .ok (.if_icmp .eq 6, 3) := by decide +kernel
theorem dX12_takesOf_69 : decode cX12_takesOf 69 = .ok (.goto 10, 3) := by decide +kernel
theorem dX12_takesOf_72 : decode cX12_takesOf 72 = .ok (.iload 5, 2) := by decide +kernel
theorem dX12_takesOf_74 : decode cX12_takesOf 74 = .ok (.istore_n 3, 1) := by decide +kernel
theorem dX12_takesOf_75 : decode cX12_takesOf 75 = .ok (.iload 6, 2) := by decide +kernel
theorem dX12_takesOf_77 : decode cX12_takesOf 77 = .ok (.istore 4, 2) := by decide +kernel
theorem dX12_takesOf_79 : decode cX12_takesOf 79 = .ok (.iinc 5 1, 3) := by decide +kernel
theorem dX12_takesOf_82 : decode cX12_takesOf 82 = .ok (.goto (-74), 3) := by decide +kernel
theorem dX12_takesOf_85 : decode cX12_takesOf 85 = .ok (.iload_n 3, 1) := by decide +kernel
theorem dX12_takesOf_86 : decode cX12_takesOf 86 = .ok (.ireturn, 1) := by decide +kernel
theorem ML_X12_314 : MLk RX12 314 yX12_liking := Or.inl ml_X12_314
theorem MV_X12_liking : MVk K_X12_liking 3 12 := ⟨⟨cd_X12_liking, in_X12, ⟨by decide, by decide, by decide +kernel⟩, by decide⟩, im_X12_liking, se_X12_liking, _, _, rfl⟩
def f_X12_takesOf_79 (q8 : Nat → Int32 → Int32 → Int32 → Int32 → Int32 → AH → Option (Int32 × AH)) (k0 : Nat) (x1 : Int32) (x2 : Int32) (x3 : Int32) (x4 : Int32) (x5 : Int32) (h : AH) : Option (Int32 × AH) :=
  nm (x5 + 1) fun x5_1 =>
  q8 k0 x1 x2 x3 x4 x5_1 h
def f_X12_takesOf_72 (q8 : Nat → Int32 → Int32 → Int32 → Int32 → Int32 → AH → Option (Int32 × AH)) (k0 : Nat) (x1 : Int32) (x2 : Int32) (x5 : Int32) (x6 : Int32) (h : AH) : Option (Int32 × AH) :=
  f_X12_takesOf_79 q8 k0 x1 x2 x5 x6 x5 h
def f_X12_takesOf_8 : Nat → Nat → Int32 → Int32 → Int32 → Int32 → Int32 → AH → Option (Int32 × AH)
  | 0, _, _, _, _, _, _, _ => none
  | n + 1, k0, x1, x2, x3, x4, x5, h =>
    if (h.1 k0 20) ≤ x5 then (
      some (x3, h)
    ) else (
      ob (f_X12_has x2 x5 h) fun r_4 h_3 =>
      if r_4 = 0 then (
        f_X12_takesOf_79 (f_X12_takesOf_8 n) k0 x1 x2 x3 x4 x5 h_3
      ) else (
        ob (f_X12_liking k0 x1 x5 x2 h_3) fun r_8 h_7 =>
        if r_8 ≤ 0 then (
          f_X12_takesOf_79 (f_X12_takesOf_8 n) k0 x1 x2 x3 x4 x5 h_7
        ) else (
          if x3 = (-1) then (
            f_X12_takesOf_72 (f_X12_takesOf_8 n) k0 x1 x2 x5 r_8 h_7
          ) else (
            if r_8 < x4 then (
              f_X12_takesOf_79 (f_X12_takesOf_8 n) k0 x1 x2 x3 x4 x5 h_7
            ) else (
              if r_8 = x4 then (
                if x5 = x1 then (
                  f_X12_takesOf_72 (f_X12_takesOf_8 n) k0 x1 x2 x5 r_8 h_7
                ) else (
                  f_X12_takesOf_79 (f_X12_takesOf_8 n) k0 x1 x2 x3 x4 x5 h_7
                )
              ) else (
                f_X12_takesOf_72 (f_X12_takesOf_8 n) k0 x1 x2 x5 r_8 h_7
              )
            )
          )
        )
      )
    )
def f_X12_takesOf (k0 : Nat) (x1 : Int32) (x2 : Int32) (h : AH) : Option (Int32 × AH) :=
  f_X12_takesOf_8 FU k0 x1 x2 (-1) 0 0 h
set_option maxHeartbeats 4000000 in
set_option maxRecDepth 100000 in
theorem v_X12_takesOf_79 {E : EV} {d : Nat} (hd : 1458 ≤ d) {r0 : Int32} {h0 : AH} {q8 : Nat → Int32 → Int32 → Int32 → Int32 → Int32 → AH → Option (Int32 × AH)} (cq8 : ∀ (k0 : Nat) (x1 : Int32) (x2 : Int32) (x3 : Int32) (x4 : Int32) (x5 : Int32) (h : AH), q8 k0 x1 x2 x3 x4 x5 h = some (r0, h0) → kd k0 = (0, 12) → V E (d + 1) K_X12_takesOf (ZI E r0 h0) h [(0, .ref k0), (1, .int x1), (2, .int x2), (3, .int x3), (4, .int x4), (5, .int x5)] [] 8) {k0 : Nat} {x1 : Int32} {x2 : Int32} {x3 : Int32} {x4 : Int32} {x5 : Int32} {h : AH} (hf : f_X12_takesOf_79 q8 k0 x1 x2 x3 x4 x5 h = some (r0, h0)) (t_k0 : kd k0 = (0, 12)) : V E (d + 1) K_X12_takesOf (ZI E r0 h0) h [(0, .ref k0), (1, .int x1), (2, .int x2), (3, .int x3), (4, .int x4), (5, .int x5)] [] 79 := by
  unfold f_X12_takesOf_79 at hf
  obtain ⟨x5_1, e_2, hf⟩ := nm_s hf
  refine V_iinc (a := 1) (L' := [(5, .int x5_1), (0, .ref k0), (1, .int x1), (2, .int x2), (3, .int x3), (4, .int x4)]) 5 dX12_takesOf_79 rfl (by decide) (Nat.le_of_ble_eq_true rfl) e_2 rfl ?_
  refine V_goto (tgt := 8) dX12_takesOf_82 (by decide) ?_
  refine V_sub [1, 2, 3, 4, 5, 0] rfl ?_
  exact cq8 _ _ _ _ _ _ _ hf t_k0
set_option maxHeartbeats 4000000 in
set_option maxRecDepth 100000 in
theorem v_X12_takesOf_72 {E : EV} {d : Nat} (hd : 1458 ≤ d) {r0 : Int32} {h0 : AH} {q8 : Nat → Int32 → Int32 → Int32 → Int32 → Int32 → AH → Option (Int32 × AH)} (cq8 : ∀ (k0 : Nat) (x1 : Int32) (x2 : Int32) (x3 : Int32) (x4 : Int32) (x5 : Int32) (h : AH), q8 k0 x1 x2 x3 x4 x5 h = some (r0, h0) → kd k0 = (0, 12) → V E (d + 1) K_X12_takesOf (ZI E r0 h0) h [(0, .ref k0), (1, .int x1), (2, .int x2), (3, .int x3), (4, .int x4), (5, .int x5)] [] 8) {k0 : Nat} {x1 : Int32} {x2 : Int32} {x5 : Int32} {x6 : Int32} {h : AH} (hf : f_X12_takesOf_72 q8 k0 x1 x2 x5 x6 h = some (r0, h0)) (t_k0 : kd k0 = (0, 12)) : V E (d + 1) K_X12_takesOf (ZI E r0 h0) h [(0, .ref k0), (1, .int x1), (2, .int x2), (5, .int x5), (6, .int x6)] [] 72 := by
  unfold f_X12_takesOf_72 at hf
  refine V_iload 3 dX12_takesOf_72 rfl ?_
  refine V_istore_n (L' := [(3, .int x5), (0, .ref k0), (1, .int x1), (2, .int x2), (5, .int x5), (6, .int x6)]) dX12_takesOf_74 rfl (Nat.le_of_ble_eq_true rfl) rfl rfl ?_
  refine V_iload 5 dX12_takesOf_75 rfl ?_
  refine V_istore (L' := [(4, .int x6), (3, .int x5), (0, .ref k0), (1, .int x1), (2, .int x2), (5, .int x5), (6, .int x6)]) dX12_takesOf_77 (Nat.le_of_ble_eq_true rfl) rfl rfl ?_
  refine V_sub [2, 3, 4, 1, 0, 5] rfl ?_
  exact v_X12_takesOf_79 hd cq8 hf t_k0
set_option maxHeartbeats 4000000 in
set_option maxRecDepth 100000 in
theorem v_X12_takesOf_8 {E : EV} {d : Nat} (hd : 1458 ≤ d) {r0 : Int32} {h0 : AH} : ∀ (n : Nat) (k0 : Nat) (x1 : Int32) (x2 : Int32) (x3 : Int32) (x4 : Int32) (x5 : Int32) (h : AH), f_X12_takesOf_8 n k0 x1 x2 x3 x4 x5 h = some (r0, h0) → kd k0 = (0, 12) → V E (d + 1) K_X12_takesOf (ZI E r0 h0) h [(0, .ref k0), (1, .int x1), (2, .int x2), (3, .int x3), (4, .int x4), (5, .int x5)] [] 8 := by
  intro n
  induction n with
  | zero =>
    intro k0 x1 x2 x3 x4 x5 h hf
    rw [f_X12_takesOf_8] at hf
    cases hf
  | succ n ih =>
    intro k0 x1 x2 x3 x4 x5 h hf t_k0
    rw [f_X12_takesOf_8] at hf
    refine V_iload 5 dX12_takesOf_8 rfl ?_
    refine V_aload_n 0 dX12_takesOf_10 rfl rfl ?_
    refine V_getI F_X12_283 rfl t_k0 rfl dX12_takesOf_11 ?_
    refine V_ic_ge (tgt := 85) dX12_takesOf_14 (by decide) (fun c_1 => ?_) (fun c_1 => ?_)
    · have hf := it_s c_1 hf
      refine V_iload_n 3 dX12_takesOf_85 rfl rfl ?_
      exact V_iret rfl (so_s hf) dX12_takesOf_86
    · have hf := if_s c_1 hf
      refine V_iload_n 2 dX12_takesOf_17 rfl rfl ?_
      refine V_iload 5 dX12_takesOf_18 rfl ?_
      obtain ⟨r_4, h_3, e_2, hf⟩ := ob_s hf
      refine V_csi (As := [.int x2, .int x5]) (rest := []) (c_X12_has (d := d) (Nat.le_trans (Nat.le_of_ble_eq_true rfl) hd) e_2) ML_X12_258 MS_X12_has rfl rfl rfl (Nat.le_of_ble_eq_true rfl) dX12_takesOf_20 ?_
      refine V_if_ne (tgt := 29) dX12_takesOf_23 (by decide) (fun c_5 => ?_) (fun c_5 => ?_)
      · have hf := if_s c_5 hf
        refine V_aload_n 0 dX12_takesOf_29 rfl rfl ?_
        refine V_iload_n 1 dX12_takesOf_30 rfl rfl ?_
        refine V_iload 5 dX12_takesOf_31 rfl ?_
        refine V_iload_n 2 dX12_takesOf_33 rfl rfl ?_
        obtain ⟨r_8, h_7, e_6, hf⟩ := ob_s hf
        refine V_cvi (As := [.int x1, .int x5, .int x2]) (rest := []) (c_X12_liking (d := d) (Nat.le_trans (Nat.le_of_ble_eq_true rfl) hd) e_6 t_k0) ML_X12_314 MV_X12_liking rfl t_k0 rfl rfl (Nat.le_of_ble_eq_true rfl) dX12_takesOf_34 ?_
        refine V_istore (L' := [(6, .int r_8), (0, .ref k0), (1, .int x1), (2, .int x2), (3, .int x3), (4, .int x4), (5, .int x5)]) dX12_takesOf_37 (Nat.le_of_ble_eq_true rfl) rfl rfl ?_
        refine V_iload 0 dX12_takesOf_39 rfl ?_
        refine V_if_le (tgt := 79) dX12_takesOf_41 (by decide) (fun c_9 => ?_) (fun c_9 => ?_)
        · have hf := it_s c_9 hf
          refine V_sub [1, 2, 3, 4, 5, 6] rfl ?_
          exact v_X12_takesOf_79 hd ih hf t_k0
        · have hf := if_s c_9 hf
          refine V_iload_n 4 dX12_takesOf_44 rfl rfl ?_
          refine V_iconst (v := (-1)) dX12_takesOf_45 (by decide) ?_
          refine V_ic_eq (tgt := 72) dX12_takesOf_46 (by decide) (fun c_10 => ?_) (fun c_10 => ?_)
          · have hf := it_s c_10 hf
            refine V_sub [1, 2, 3, 6, 0] rfl ?_
            exact v_X12_takesOf_72 hd ih hf t_k0
          · have hf := if_s c_10 hf
            refine V_iload 0 dX12_takesOf_49 rfl ?_
            refine V_iload 5 dX12_takesOf_51 rfl ?_
            refine V_ic_lt (tgt := 79) dX12_takesOf_53 (by decide) (fun c_11 => ?_) (fun c_11 => ?_)
            · have hf := it_s c_11 hf
              refine V_sub [1, 2, 3, 4, 5, 6] rfl ?_
              exact v_X12_takesOf_79 hd ih hf t_k0
            · have hf := if_s c_11 hf
              refine V_iload 0 dX12_takesOf_56 rfl ?_
              refine V_iload 5 dX12_takesOf_58 rfl ?_
              refine V_ic_ne (tgt := 72) dX12_takesOf_60 (by decide) (fun c_12 => ?_) (fun c_12 => ?_)
              · have hf := if_s c_12 hf
                refine V_sub [1, 2, 3, 6, 0] rfl ?_
                exact v_X12_takesOf_72 hd ih hf t_k0
              · have hf := it_s c_12 hf
                refine V_iload 6 dX12_takesOf_63 rfl ?_
                refine V_iload_n 2 dX12_takesOf_65 rfl rfl ?_
                refine V_ic_eq (tgt := 72) dX12_takesOf_66 (by decide) (fun c_13 => ?_) (fun c_13 => ?_)
                · have hf := it_s c_13 hf
                  refine V_sub [1, 2, 3, 6, 0] rfl ?_
                  exact v_X12_takesOf_72 hd ih hf t_k0
                · have hf := if_s c_13 hf
                  refine V_goto (tgt := 79) dX12_takesOf_69 (by decide) ?_
                  refine V_sub [1, 2, 3, 4, 5, 6] rfl ?_
                  exact v_X12_takesOf_79 hd ih hf t_k0
      · have hf := it_s c_5 hf
        refine V_goto (tgt := 79) dX12_takesOf_26 (by decide) ?_
        exact v_X12_takesOf_79 hd ih hf t_k0
set_option maxHeartbeats 4000000 in
set_option maxRecDepth 100000 in
theorem c_X12_takesOf {E : EV} {d : Nat} (hd : 1458 + 1 ≤ d) {k0 : Nat} {x1 : Int32} {x2 : Int32} {h : AH} {r0 : Int32} {h0 : AH} (hf : f_X12_takesOf k0 x1 x2 h = some (r0, h0)) (t_k0 : kd k0 = (0, 12)) : Con E d K_X12_takesOf (ZI E r0 h0) [.ref k0, .int x1, .int x2] h := by
  obtain ⟨d, rfl⟩ : ∃ d', d = d' + 1 := ⟨d - 1, by omega⟩
  have hd := Nat.le_of_succ_le_succ hd
  refine Con.ofV rfl (Nat.le_of_ble_eq_true rfl) ?_
  unfold f_X12_takesOf at hf
  show V E (d + 1) K_X12_takesOf (ZI E r0 h0) h [(0, .ref k0), (1, .int x1), (2, .int x2)] [] 0
  refine V_iconst (v := (-1)) dX12_takesOf_0 (by decide) ?_
  refine V_istore_n (L' := [(3, .int (-1)), (0, .ref k0), (1, .int x1), (2, .int x2)]) dX12_takesOf_1 rfl (Nat.le_of_ble_eq_true rfl) rfl rfl ?_
  refine V_iconst (v := 0) dX12_takesOf_2 (by decide) ?_
  refine V_istore (L' := [(4, .int 0), (3, .int (-1)), (0, .ref k0), (1, .int x1), (2, .int x2)]) dX12_takesOf_3 (Nat.le_of_ble_eq_true rfl) rfl rfl ?_
  refine V_iconst (v := 0) dX12_takesOf_5 (by decide) ?_
  refine V_istore (L' := [(5, .int 0), (4, .int 0), (3, .int (-1)), (0, .ref k0), (1, .int x1), (2, .int x2)]) dX12_takesOf_6 (Nat.le_of_ble_eq_true rfl) rfl rfl ?_
  refine V_sub [3, 4, 5, 2, 1, 0] rfl ?_
  exact v_X12_takesOf_8 hd FU _ _ _ _ _ _ _ hf t_k0
theorem dX12_go_0 : decode cX12_go 0 = .ok (.aload_n 0, 1) := by decide +kernel
theorem dX12_go_1 : decode cX12_go 1 = .ok (.iload_n 1, 1) := by decide +kernel
theorem dX12_go_2 : decode cX12_go 2 = .ok (.putfield 318, 3) := by decide +kernel
theorem dX12_go_5 : decode cX12_go 5 = .ok (.iconst 0, 1) := by decide +kernel
theorem dX12_go_6 : decode cX12_go 6 = .ok (.istore_n 2, 1) := by decide +kernel
theorem dX12_go_7 : decode cX12_go 7 = .ok (.iload_n 2, 1) := by decide +kernel
theorem dX12_go_8 : decode cX12_go 8 = .ok (.aload_n 0, 1) := by decide +kernel
theorem dX12_go_9 : decode cX12_go 9 = .ok (.getfield 321, 3) := by decide +kernel
theorem dX12_go_12 : decode cX12_go 12 = .ok (.if_icmp .ge 60, 3) := by decide +kernel
theorem dX12_go_15 : decode cX12_go 15 = .ok (.aload_n 0, 1) := by decide +kernel
theorem dX12_go_16 : decode cX12_go 16 = .ok (.getfield 60, 3) := by decide +kernel
theorem dX12_go_19 : decode cX12_go 19 = .ok (.iload_n 2, 1) := by decide +kernel
theorem dX12_go_20 : decode cX12_go 20 = .ok (.iaload, 1) := by decide +kernel
theorem dX12_go_21 : decode cX12_go 21 = .ok (.istore_n 3, 1) := by decide +kernel
theorem dX12_go_22 : decode cX12_go 22 = .ok (.aload_n 0, 1) := by decide +kernel
theorem dX12_go_23 : decode cX12_go 23 = .ok (.getfield 63, 3) := by decide +kernel
theorem dX12_go_26 : decode cX12_go 26 = .ok (.iload_n 3, 1) := by decide +kernel
theorem dX12_go_27 : decode cX12_go 27 = .ok (.aload_n 0, 1) := by decide +kernel
theorem dX12_go_28 : decode cX12_go 28 = .ok (.iload_n 3, 1) := by decide +kernel
theorem dX12_go_29 : decode cX12_go 29 = .ok (.aload_n 0, 1) := by decide +kernel
theorem dX12_go_30 : decode cX12_go 30 = .ok (.getfield 318, 3) := by decide +kernel
theorem dX12_go_33 : decode cX12_go 33 = .ok (.invokevirtual 324, 3) := by decide +kernel
theorem dX12_go_36 : decode cX12_go 36 = .ok (.iastore, 1) := by decide +kernel
theorem dX12_go_37 : decode cX12_go 37 = .ok (.aload_n 0, 1) := by decide +kernel
theorem dX12_go_38 : decode cX12_go 38 = .ok (.getfield 63, 3) := by decide +kernel
theorem dX12_go_41 : decode cX12_go 41 = .ok (.iload_n 3, 1) := by decide +kernel
theorem dX12_go_42 : decode cX12_go 42 = .ok (.iaload, 1) := by decide +kernel
theorem dX12_go_43 : decode cX12_go 43 = .ok (.iconst (-1), 1) := by decide +kernel
theorem dX12_go_44 : decode cX12_go 44 = .ok (.if_icmp .eq 22, 3) := by decide +kernel
theorem dX12_go_47 : decode cX12_go 47 = .ok (.aload_n 0, 1) := by decide +kernel
theorem dX12_go_48 : decode cX12_go 48 = .ok (.dup, 1) := by decide +kernel
theorem dX12_go_49 : decode cX12_go 49 = .ok (.getfield 318, 3) := by decide +kernel
theorem dX12_go_52 : decode cX12_go 52 = .ok (.iconst 1, 1) := by decide +kernel
theorem dX12_go_53 : decode cX12_go 53 = .ok (.aload_n 0, 1) := by decide +kernel
theorem dX12_go_54 : decode cX12_go 54 = .ok (.getfield 63, 3) := by decide +kernel
theorem dX12_go_57 : decode cX12_go 57 = .ok (.iload_n 3, 1) := by decide +kernel
theorem dX12_go_58 : decode cX12_go 58 = .ok (.iaload, 1) := by decide +kernel
theorem dX12_go_59 : decode cX12_go 59 = .ok (.ishl, 1) := by decide +kernel
theorem dX12_go_60 : decode cX12_go 60 = .ok (.iconst (-1), 1) := by decide +kernel
theorem dX12_go_61 : decode cX12_go 61 = .ok (.ixor, 1) := by decide +kernel
theorem dX12_go_62 : decode cX12_go 62 = .ok (.iand, 1) := by decide +kernel
theorem dX12_go_63 : decode cX12_go 63 = .ok (.putfield 318, 3) := by decide +kernel
theorem dX12_go_66 : decode cX12_go 66 = .ok (.iinc 2 1, 3) := by decide +kernel
theorem dX12_go_69 : decode cX12_go 69 = .ok (.goto (-62), 3) := by decide +kernel
theorem dX12_go_72 : decode cX12_go 72 = .ok (.return_, 1) := by decide +kernel
theorem F_X12_63 : FLk RX12 63 12 28 := ⟨RX12, TX12, 58, rfl, rfl, iw_X12, by decide, Or.inl fl_X12_63⟩
theorem F_X12_318 : FLk RX12 318 12 30 := ⟨RX12, TX12, 58, rfl, rfl, iw_X12, by decide, Or.inl fl_X12_318⟩
theorem ML_X12_324 : MLk RX12 324 yX12_takesOf := Or.inl ml_X12_324
theorem MV_X12_takesOf : MVk K_X12_takesOf 2 12 := ⟨⟨cd_X12_takesOf, in_X12, ⟨by decide, by decide, by decide +kernel⟩, by decide⟩, im_X12_takesOf, se_X12_takesOf, _, _, rfl⟩
theorem P_X12_318 : FPk RX12 318 12 30 .int := ⟨RX12, TX12, 58, tyX12, rfl, rfl, iw_X12, by decide, Or.inl fl_X12_318, tyX12_ok, nmX12, rfl, by decide +kernel⟩
def f_X12_go_66 (q7 : Nat → Int32 → AH → Option AH) (k0 : Nat) (x2 : Int32) (h : AH) : Option AH :=
  nm (x2 + 1) fun x2_1 =>
  q7 k0 x2_1 h
def f_X12_go_7 : Nat → Nat → Int32 → AH → Option AH
  | 0, _, _, _ => none
  | n + 1, k0, x2, h =>
    if (h.1 k0 29) ≤ x2 then (
      some h
    ) else (
      og (ix x2 (an (rf k0 27))) <|
      nm ((h.1 (rf k0 27) x2.toNatClampNeg)) fun x3_3 =>
      ob (f_X12_takesOf k0 x3_3 (h.1 k0 30) h) fun r_7 h_6 =>
      og (ix x3_3 (an (rf k0 28))) <|
      nm (sI h_6 (rf k0 28) x3_3.toNatClampNeg r_7) fun h_9 =>
      og (ix x3_3 (an (rf k0 28))) <|
      if (h_9.1 (rf k0 28) x3_3.toNatClampNeg) = (-1) then (
        f_X12_go_66 (f_X12_go_7 n) k0 x2 h_9
      ) else (
        og (ix x3_3 (an (rf k0 28))) <|
        nm (sI h_9 k0 30 ((h_9.1 k0 30) &&& (((1 : Int32) <<< ((h_9.1 (rf k0 28) x3_3.toNatClampNeg) &&& 31)) ^^^ (-1)))) fun h_14 =>
        f_X12_go_66 (f_X12_go_7 n) k0 x2 h_14
      )
    )
def f_X12_go (k0 : Nat) (x1 : Int32) (h : AH) : Option AH :=
  nm (sI h k0 30 x1) fun h_1 =>
  f_X12_go_7 FU k0 0 h_1
set_option maxHeartbeats 4000000 in
set_option maxRecDepth 100000 in
theorem v_X12_go_66 {E : EV} {d : Nat} (hd : 1459 ≤ d) {h0 : AH} {q7 : Nat → Int32 → AH → Option AH} (cq7 : ∀ (k0 : Nat) (x2 : Int32) (h : AH), q7 k0 x2 h = some h0 → kd k0 = (0, 12) → V E (d + 1) K_X12_go (ZV E h0) h [(0, .ref k0), (2, .int x2)] [] 7) {k0 : Nat} {x2 : Int32} {h : AH} (hf : f_X12_go_66 q7 k0 x2 h = some h0) (t_k0 : kd k0 = (0, 12)) : V E (d + 1) K_X12_go (ZV E h0) h [(0, .ref k0), (2, .int x2)] [] 66 := by
  unfold f_X12_go_66 at hf
  obtain ⟨x2_1, e_2, hf⟩ := nm_s hf
  refine V_iinc (a := 1) (L' := [(2, .int x2_1), (0, .ref k0)]) 1 dX12_go_66 rfl (by decide) (Nat.le_of_ble_eq_true rfl) e_2 rfl ?_
  refine V_goto (tgt := 7) dX12_go_69 (by decide) ?_
  refine V_sub [1, 0] rfl ?_
  exact cq7 _ _ _ hf t_k0
set_option maxHeartbeats 4000000 in
set_option maxRecDepth 100000 in
theorem v_X12_go_7 {E : EV} {d : Nat} (hd : 1459 ≤ d) {h0 : AH} : ∀ (n : Nat) (k0 : Nat) (x2 : Int32) (h : AH), f_X12_go_7 n k0 x2 h = some h0 → kd k0 = (0, 12) → V E (d + 1) K_X12_go (ZV E h0) h [(0, .ref k0), (2, .int x2)] [] 7 := by
  intro n
  induction n with
  | zero =>
    intro k0 x2 h hf
    rw [f_X12_go_7] at hf
    cases hf
  | succ n ih =>
    intro k0 x2 h hf t_k0
    rw [f_X12_go_7] at hf
    refine V_iload_n 1 dX12_go_7 rfl rfl ?_
    refine V_aload_n 0 dX12_go_8 rfl rfl ?_
    refine V_getI F_X12_321 rfl t_k0 rfl dX12_go_9 ?_
    refine V_ic_ge (tgt := 72) dX12_go_12 (by decide) (fun c_1 => ?_) (fun c_1 => ?_)
    · have hf := it_s c_1 hf
      exact V_vret rfl (so_s hf) dX12_go_72
    · have hf := if_s c_1 hf
      refine V_aload_n 0 dX12_go_15 rfl rfl ?_
      refine V_getR F_X12_60 rfl t_k0 rfl dX12_go_16 ?_
      refine V_iload_n 1 dX12_go_19 rfl rfl ?_
      obtain ⟨b_2, hf⟩ := og_s hf
      refine V_iald (rfA t_k0 (Nat.le_of_ble_eq_true rfl) rfl rfl (by decide)) b_2 dX12_go_20 ?_
      obtain ⟨x3_3, e_4, hf⟩ := nm_s hf
      refine V_istore_n (L' := [(3, .int x3_3), (0, .ref k0), (2, .int x2)]) dX12_go_21 rfl (Nat.le_of_ble_eq_true rfl) e_4 rfl ?_
      refine V_aload_n 1 dX12_go_22 rfl rfl ?_
      refine V_getR F_X12_63 rfl t_k0 rfl dX12_go_23 ?_
      refine V_iload_n 0 dX12_go_26 rfl rfl ?_
      refine V_aload_n 1 dX12_go_27 rfl rfl ?_
      refine V_iload_n 0 dX12_go_28 rfl rfl ?_
      refine V_aload_n 1 dX12_go_29 rfl rfl ?_
      refine V_getI F_X12_318 rfl t_k0 rfl dX12_go_30 ?_
      obtain ⟨r_7, h_6, e_5, hf⟩ := ob_s hf
      refine V_cvi (As := [.int x3_3, .int (h.1 k0 30)]) (rest := [.int x3_3, .ref (rf k0 28)]) (c_X12_takesOf (d := d) (Nat.le_trans (Nat.le_of_ble_eq_true rfl) hd) e_5 t_k0) ML_X12_324 MV_X12_takesOf rfl t_k0 rfl rfl (Nat.le_of_ble_eq_true rfl) dX12_go_33 ?_
      obtain ⟨b_8, hf⟩ := og_s hf
      obtain ⟨h_9, e_10, hf⟩ := nm_s hf
      refine V_iast (rfA t_k0 (Nat.le_of_ble_eq_true rfl) rfl rfl (by decide)) b_8 e_10 dX12_go_36 ?_
      refine V_aload_n 1 dX12_go_37 rfl rfl ?_
      refine V_getR F_X12_63 rfl t_k0 rfl dX12_go_38 ?_
      refine V_iload_n 0 dX12_go_41 rfl rfl ?_
      obtain ⟨b_11, hf⟩ := og_s hf
      refine V_iald (rfA t_k0 (Nat.le_of_ble_eq_true rfl) rfl rfl (by decide)) b_11 dX12_go_42 ?_
      refine V_iconst (v := (-1)) dX12_go_43 (by decide) ?_
      refine V_ic_eq (tgt := 66) dX12_go_44 (by decide) (fun c_12 => ?_) (fun c_12 => ?_)
      · have hf := it_s c_12 hf
        refine V_sub [1, 2] rfl ?_
        exact v_X12_go_66 hd ih hf t_k0
      · have hf := if_s c_12 hf
        refine V_aload_n 1 dX12_go_47 rfl rfl ?_
        refine V_dup dX12_go_48 rfl ?_
        refine V_getI F_X12_318 rfl t_k0 rfl dX12_go_49 ?_
        refine V_iconst (v := 1) dX12_go_52 (by decide) ?_
        refine V_aload_n 1 dX12_go_53 rfl rfl ?_
        refine V_getR F_X12_63 rfl t_k0 rfl dX12_go_54 ?_
        refine V_iload_n 0 dX12_go_57 rfl rfl ?_
        obtain ⟨b_13, hf⟩ := og_s hf
        refine V_iald (rfA t_k0 (Nat.le_of_ble_eq_true rfl) rfl rfl (by decide)) b_13 dX12_go_58 ?_
        refine V_ishl dX12_go_59 ?_
        refine V_iconst (v := (-1)) dX12_go_60 (by decide) ?_
        refine V_ixor dX12_go_61 ?_
        refine V_iand dX12_go_62 ?_
        obtain ⟨h_14, e_15, hf⟩ := nm_s hf
        refine V_putI P_X12_318 rfl t_k0 rfl e_15 dX12_go_63 ?_
        refine V_sub [1, 2] rfl ?_
        exact v_X12_go_66 hd ih hf t_k0
set_option maxHeartbeats 4000000 in
set_option maxRecDepth 100000 in
theorem c_X12_go {E : EV} {d : Nat} (hd : 1459 + 1 ≤ d) {k0 : Nat} {x1 : Int32} {h : AH} {h0 : AH} (hf : f_X12_go k0 x1 h = some h0) (t_k0 : kd k0 = (0, 12)) : Con E d K_X12_go (ZV E h0) [.ref k0, .int x1] h := by
  obtain ⟨d, rfl⟩ : ∃ d', d = d' + 1 := ⟨d - 1, by omega⟩
  have hd := Nat.le_of_succ_le_succ hd
  refine Con.ofV rfl (Nat.le_of_ble_eq_true rfl) ?_
  unfold f_X12_go at hf
  show V E (d + 1) K_X12_go (ZV E h0) h [(0, .ref k0), (1, .int x1)] [] 0
  refine V_aload_n 0 dX12_go_0 rfl rfl ?_
  refine V_iload_n 1 dX12_go_1 rfl rfl ?_
  obtain ⟨h_1, e_2, hf⟩ := nm_s hf
  refine V_putI P_X12_318 rfl t_k0 rfl e_2 dX12_go_2 ?_
  refine V_iconst (v := 0) dX12_go_5 (by decide) ?_
  refine V_istore_n (L' := [(2, .int 0), (0, .ref k0), (1, .int x1)]) dX12_go_6 rfl (Nat.le_of_ble_eq_true rfl) rfl rfl ?_
  refine V_sub [1, 0] rfl ?_
  exact v_X12_go_7 hd FU _ _ _ hf t_k0
theorem dX12_goWay_0 : decode cX12_goWay 0 = .ok (.aload_n 0, 1) := by decide +kernel
theorem dX12_goWay_1 : decode cX12_goWay 1 = .ok (.iload_n 2, 1) := by decide +kernel
theorem dX12_goWay_2 : decode cX12_goWay 2 = .ok (.aload_n 0, 1) := by decide +kernel
theorem dX12_goWay_3 : decode cX12_goWay 3 = .ok (.getfield 69, 3) := by decide +kernel
theorem dX12_goWay_6 : decode cX12_goWay 6 = .ok (.iload_n 1, 1) := by decide +kernel
theorem dX12_goWay_7 : decode cX12_goWay 7 = .ok (.iaload, 1) := by decide +kernel
theorem dX12_goWay_8 : decode cX12_goWay 8 = .ok (.invokevirtual 346, 3) := by decide +kernel
theorem dX12_goWay_11 : decode cX12_goWay 11 = .ok (.istore 4, 2) := by decide +kernel
theorem dX12_goWay_13 : decode cX12_goWay 13 = .ok (.aload_n 0, 1) := by decide +kernel
theorem dX12_goWay_14 : decode cX12_goWay 14 = .ok (.iload_n 3, 1) := by decide +kernel
theorem dX12_goWay_15 : decode cX12_goWay 15 = .ok (.invokevirtual 338, 3) := by decide +kernel
theorem dX12_goWay_18 : decode cX12_goWay 18 = .ok (.return_, 1) := by decide +kernel
theorem ML_X12_346 : MLk RX12 346 yX12_layOrder := Or.inl ml_X12_346
theorem MV_X12_layOrder : MVk K_X12_layOrder 2 12 := ⟨⟨cd_X12_layOrder, in_X12, ⟨by decide, by decide, by decide +kernel⟩, by decide⟩, im_X12_layOrder, se_X12_layOrder, _, _, rfl⟩
theorem ML_X12_338 : MLk RX12 338 yX12_go := Or.inl ml_X12_338
theorem MV_X12_go : MVk K_X12_go 1 12 := ⟨⟨cd_X12_go, in_X12, ⟨by decide, by decide, by decide +kernel⟩, by decide⟩, im_X12_go, se_X12_go, _, _, rfl⟩
def f_X12_goWay (k0 : Nat) (x1 : Int32) (x2 : Int32) (x3 : Int32) (h : AH) : Option AH :=
  og (ix x1 (an (rf k0 33))) <|
  ob (f_X12_layOrder k0 x2 (h.1 (rf k0 33) x1.toNatClampNeg) h) fun r_4 h_3 =>
  ov (f_X12_go k0 x3 h_3) fun h_6 =>
  some h_6
set_option maxHeartbeats 4000000 in
set_option maxRecDepth 100000 in
theorem c_X12_goWay {E : EV} {d : Nat} (hd : 1460 + 1 ≤ d) {k0 : Nat} {x1 : Int32} {x2 : Int32} {x3 : Int32} {h : AH} {h0 : AH} (hf : f_X12_goWay k0 x1 x2 x3 h = some h0) (t_k0 : kd k0 = (0, 12)) : Con E d K_X12_goWay (ZV E h0) [.ref k0, .int x1, .int x2, .int x3] h := by
  obtain ⟨d, rfl⟩ : ∃ d', d = d' + 1 := ⟨d - 1, by omega⟩
  have hd := Nat.le_of_succ_le_succ hd
  refine Con.ofV rfl (Nat.le_of_ble_eq_true rfl) ?_
  unfold f_X12_goWay at hf
  show V E (d + 1) K_X12_goWay (ZV E h0) h [(0, .ref k0), (1, .int x1), (2, .int x2), (3, .int x3)] [] 0
  refine V_aload_n 0 dX12_goWay_0 rfl rfl ?_
  refine V_iload_n 2 dX12_goWay_1 rfl rfl ?_
  refine V_aload_n 0 dX12_goWay_2 rfl rfl ?_
  refine V_getR F_X12_69 rfl t_k0 rfl dX12_goWay_3 ?_
  refine V_iload_n 1 dX12_goWay_6 rfl rfl ?_
  obtain ⟨b_1, hf⟩ := og_s hf
  refine V_iald (rfA t_k0 (Nat.le_of_ble_eq_true rfl) rfl rfl (by decide)) b_1 dX12_goWay_7 ?_
  obtain ⟨r_4, h_3, e_2, hf⟩ := ob_s hf
  refine V_cvi (As := [.int x2, .int (h.1 (rf k0 33) x1.toNatClampNeg)]) (rest := []) (c_X12_layOrder (d := d) (Nat.le_trans (Nat.le_of_ble_eq_true rfl) hd) e_2 t_k0) ML_X12_346 MV_X12_layOrder rfl t_k0 rfl rfl (Nat.le_of_ble_eq_true rfl) dX12_goWay_8 ?_
  refine V_istore (L' := [(4, .int r_4), (0, .ref k0), (1, .int x1), (2, .int x2), (3, .int x3)]) dX12_goWay_11 (Nat.le_of_ble_eq_true rfl) rfl rfl ?_
  refine V_aload_n 1 dX12_goWay_13 rfl rfl ?_
  refine V_iload_n 4 dX12_goWay_14 rfl rfl ?_
  obtain ⟨h_6, e_5, hf⟩ := ov_s hf
  refine V_cvv (As := [.int x3]) (rest := []) (c_X12_go (d := d) (Nat.le_trans (Nat.le_of_ble_eq_true rfl) hd) e_5 t_k0) ML_X12_338 MV_X12_go rfl t_k0 rfl rfl (Nat.le_of_ble_eq_true rfl) dX12_goWay_15 ?_
  exact V_vret rfl (so_s hf) dX12_goWay_18
theorem dX12_comes_0 : decode cX12_comes 0 = .ok (.iconst 0, 1) := by decide +kernel
theorem dX12_comes_1 : decode cX12_comes 1 = .ok (.istore 4, 2) := by decide +kernel
theorem dX12_comes_3 : decode cX12_comes 3 = .ok (.aload_n 0, 1) := by decide +kernel
theorem dX12_comes_4 : decode cX12_comes 4 = .ok (.iload_n 2, 1) := by decide +kernel
theorem dX12_comes_5 : decode cX12_comes 5 = .ok (.invokevirtual 367, 3) := by decide +kernel
theorem dX12_comes_8 : decode cX12_comes 8 = .ok (.iconst 0, 1) := by decide +kernel
theorem dX12_comes_9 : decode cX12_comes 9 = .ok (.istore 5, 2) := by decide +kernel
theorem dX12_comes_11 : decode cX12_comes 11 = .ok (.iload 5, 2) := by decide +kernel
theorem dX12_comes_13 : decode cX12_comes 13 = .ok (.aload_n 0, 1) := by decide +kernel
theorem dX12_comes_14 : decode cX12_comes 14 = .ok (.getfield 353, 3) := by decide +kernel
theorem dX12_comes_17 : decode cX12_comes 17 = .ok (.if_icmp .ge 99, 3) := by decide +kernel
theorem dX12_comes_20 : decode cX12_comes 20 = .ok (.aload_n 0, 1) := by decide +kernel
theorem dX12_comes_21 : decode cX12_comes 21 = .ok (.iload_n 1, 1) := by decide +kernel
theorem dX12_comes_22 : decode cX12_comes 22 = .ok (.invokevirtual 410, 3) := by decide +kernel
theorem dX12_comes_25 : decode cX12_comes 25 = .ok (.aload_n 0, 1) := by decide +kernel
theorem dX12_comes_26 : decode cX12_comes 26 = .ok (.iload 5, 2) := by decide +kernel
theorem dX12_comes_28 : decode cX12_comes 28 = .ok (.iload_n 2, 1) := by decide +kernel
theorem dX12_comes_29 : decode cX12_comes 29 = .ok (.aload_n 0, 1) := by decide +kernel
theorem dX12_comes_30 : decode cX12_comes 30 = .ok (.iconst 0, 1) := by decide +kernel
theorem dX12_comes_31 : decode cX12_comes 31 = .ok (.iload_n 2, 1) := by decide +kernel
theorem dX12_comes_32 : decode cX12_comes 32 = .ok (.invokevirtual 335, 3) := by decide +kernel
theorem dX12_comes_35 : decode cX12_comes 35 = .ok (.invokevirtual 370, 3) := by decide +kernel
theorem dX12_comes_38 : decode cX12_comes 38 = .ok (.iconst 0, 1) := by decide +kernel
theorem dX12_comes_39 : decode cX12_comes 39 = .ok (.istore 6, 2) := by decide +kernel
theorem dX12_comes_41 : decode cX12_comes 41 = .ok (.iload 6, 2) := by decide +kernel
theorem dX12_comes_43 : decode cX12_comes 43 = .ok (.aload_n 0, 1) := by decide +kernel
theorem dX12_comes_44 : decode cX12_comes 44 = .ok (.getfield 283, 3) := by decide +kernel
theorem dX12_comes_47 : decode cX12_comes 47 = .ok (.if_icmp .ge 32, 3) := by decide +kernel
theorem dX12_comes_50 : decode cX12_comes 50 = .ok (.iload_n 2, 1) := by decide +kernel
theorem dX12_comes_51 : decode cX12_comes 51 = .ok (.iload 6, 2) := by decide +kernel
theorem dX12_comes_53 : decode cX12_comes 53 = .ok (.invokestatic 258, 3) := by decide +kernel
theorem dX12_comes_56 : decode cX12_comes 56 = .ok (.ifCond .eq 17, 3) := by decide +kernel
theorem dX12_comes_59 : decode cX12_comes 59 = .ok (.aload_n 0, 1) := by decide +kernel
theorem dX12_comes_60 : decode cX12_comes 60 = .ok (.getfield 45, 3) := by decide +kernel
theorem dX12_comes_63 : decode cX12_comes 63 = .ok (.iload 6, 2) := by decide +kernel
theorem dX12_comes_65 : decode cX12_comes 65 = .ok (.aload_n 0, 1) := by decide +kernel
theorem dX12_comes_66 : decode cX12_comes 66 = .ok (.getfield 63, 3) := by decide +kernel
theorem dX12_comes_69 : decode cX12_comes 69 = .ok (.iload 6, 2) := by decide +kernel
theorem dX12_comes_71 : decode cX12_comes 71 = .ok (.iaload, 1) := by decide +kernel
theorem dX12_comes_72 : decode cX12_comes 72 = .ok (.iastore, 1) := by decide +kernel
theorem dX12_comes_73 : decode cX12_comes 73 = .ok (.iinc 6 1, 3) := by decide +kernel
theorem dX12_comes_76 : decode cX12_comes 76 = .ok (.goto (-35), 3) := by decide +kernel
theorem dX12_comes_79 : decode cX12_comes 79 = .ok (.aload_n 0, 1) := by decide +kernel
theorem dX12_comes_80 : decode cX12_comes 80 = .ok (.invokevirtual 413, 3) := by decide +kernel
theorem dX12_comes_83 : decode cX12_comes 83 = .ok (.istore 6, 2) := by decide +kernel
theorem dX12_comes_85 : decode cX12_comes 85 = .ok (.aload_n 0, 1) := by decide +kernel
theorem dX12_comes_86 : decode cX12_comes 86 = .ok (.getfield 81, 3) := by decide +kernel
theorem dX12_comes_89 : decode cX12_comes 89 = .ok (.iload 6, 2) := by decide +kernel
theorem dX12_comes_91 : decode cX12_comes 91 = .ok (.iaload, 1) := by decide +kernel
theorem dX12_comes_92 : decode cX12_comes 92 = .ok (.iconst (-1), 1) := by decide +kernel
theorem dX12_comes_93 : decode cX12_comes 93 = .ok (.if_icmp .eq 6, 3) := by decide +kernel
theorem dX12_comes_96 : decode cX12_comes 96 = .ok (.goto 14, 3) := by decide +kernel
theorem dX12_comes_99 : decode cX12_comes 99 = .ok (.aload_n 0, 1) := by decide +kernel
theorem dX12_comes_100 : decode cX12_comes 100 = .ok (.getfield 81, 3) := by decide +kernel
theorem dX12_comes_103 : decode cX12_comes 103 = .ok (.iload 6, 2) := by decide +kernel
theorem dX12_comes_105 : decode cX12_comes 105 = .ok (.iload_n 3, 1) := by decide +kernel
theorem dX12_comes_106 : decode cX12_comes 106 = .ok (.iastore, 1) := by decide +kernel
theorem dX12_comes_107 : decode cX12_comes 107 = .ok (.iconst 1, 1) := by decide +kernel
theorem dX12_comes_108 : decode cX12_comes 108 = .ok (.istore 4, 2) := by decide +kernel
theorem dX12_comes_110 : decode cX12_comes 110 = .ok (.iinc 5 1, 3) := by decide +kernel
theorem dX12_comes_113 : decode cX12_comes 113 = .ok (.goto (-102), 3) := by decide +kernel
theorem dX12_comes_116 : decode cX12_comes 116 = .ok (.iload 4, 2) := by decide +kernel
theorem dX12_comes_118 : decode cX12_comes 118 = .ok (.ireturn, 1) := by decide +kernel
theorem ML_X12_413 : MLk RX12 413 yX12_havingNow := Or.inl ml_X12_413
theorem MV_X12_havingNow : MVk K_X12_havingNow 0 12 := ⟨⟨cd_X12_havingNow, in_X12, ⟨by decide, by decide, by decide +kernel⟩, by decide⟩, im_X12_havingNow, se_X12_havingNow, _, _, rfl⟩
theorem F_X12_81 : FLk RX12 81 12 39 := ⟨RX12, TX12, 58, rfl, rfl, iw_X12, by decide, Or.inl fl_X12_81⟩
theorem ML_X12_410 : MLk RX12 410 yX12_have := Or.inl ml_X12_410
theorem MV_X12_have : MVk K_X12_have 1 12 := ⟨⟨cd_X12_have, in_X12, ⟨by decide, by decide, by decide +kernel⟩, by decide⟩, im_X12_have, se_X12_have, _, _, rfl⟩
theorem ML_X12_335 : MLk RX12 335 yX12_doorOf := Or.inl ml_X12_335
theorem MV_X12_doorOf : MVk K_X12_doorOf 2 12 := ⟨⟨cd_X12_doorOf, in_X12, ⟨by decide, by decide, by decide +kernel⟩, by decide⟩, im_X12_doorOf, se_X12_doorOf, _, _, rfl⟩
theorem ML_X12_370 : MLk RX12 370 yX12_goWay := Or.inl ml_X12_370
theorem MV_X12_goWay : MVk K_X12_goWay 3 12 := ⟨⟨cd_X12_goWay, in_X12, ⟨by decide, by decide, by decide +kernel⟩, by decide⟩, im_X12_goWay, se_X12_goWay, _, _, rfl⟩
theorem ML_X12_367 : MLk RX12 367 yX12_allWays := Or.inl ml_X12_367
theorem MV_X12_allWays : MVk K_X12_allWays 1 12 := ⟨⟨cd_X12_allWays, in_X12, ⟨by decide, by decide, by decide +kernel⟩, by decide⟩, im_X12_allWays, se_X12_allWays, _, _, rfl⟩
def f_X12_comes_73 (q41 : Nat → Int32 → Int32 → Int32 → Int32 → Int32 → Int32 → AH → Option (Int32 × AH)) (k0 : Nat) (x1 : Int32) (x2 : Int32) (x3 : Int32) (x4 : Int32) (x5 : Int32) (x6 : Int32) (h : AH) : Option (Int32 × AH) :=
  nm (x6 + 1) fun x6_1 =>
  q41 k0 x1 x2 x3 x4 x5 x6_1 h
def f_X12_comes_110 (q11 : Nat → Int32 → Int32 → Int32 → Int32 → Int32 → AH → Option (Int32 × AH)) (k0 : Nat) (x1 : Int32) (x2 : Int32) (x3 : Int32) (x4 : Int32) (x5 : Int32) (h : AH) : Option (Int32 × AH) :=
  nm (x5 + 1) fun x5_1 =>
  q11 k0 x1 x2 x3 x4 x5_1 h
def f_X12_comes_41 (q11 : Nat → Int32 → Int32 → Int32 → Int32 → Int32 → AH → Option (Int32 × AH)) : Nat → Nat → Int32 → Int32 → Int32 → Int32 → Int32 → Int32 → AH → Option (Int32 × AH)
  | 0, _, _, _, _, _, _, _, _ => none
  | n + 1, k0, x1, x2, x3, x4, x5, x6, h =>
    if (h.1 k0 20) ≤ x6 then (
      ob (f_X12_havingNow k0 h) fun r_4 h_3 =>
      og (ix r_4 (an (rf k0 39))) <|
      if (h_3.1 (rf k0 39) r_4.toNatClampNeg) = (-1) then (
        og (ix r_4 (an (rf k0 39))) <|
        nm (sI h_3 (rf k0 39) r_4.toNatClampNeg x3) fun h_8 =>
        f_X12_comes_110 q11 k0 x1 x2 x3 1 x5 h_8
      ) else (
        f_X12_comes_110 q11 k0 x1 x2 x3 x4 x5 h_3
      )
    ) else (
      ob (f_X12_has x2 x6 h) fun r_12 h_11 =>
      if r_12 = 0 then (
        f_X12_comes_73 (f_X12_comes_41 q11 n) k0 x1 x2 x3 x4 x5 x6 h_11
      ) else (
        og (ix x6 (an (rf k0 28))) <|
        og (ix x6 (an (rf k0 22))) <|
        nm (sI h_11 (rf k0 22) x6.toNatClampNeg (h_11.1 (rf k0 28) x6.toNatClampNeg)) fun h_16 =>
        f_X12_comes_73 (f_X12_comes_41 q11 n) k0 x1 x2 x3 x4 x5 x6 h_16
      )
    )
def f_X12_comes_11 : Nat → Nat → Int32 → Int32 → Int32 → Int32 → Int32 → AH → Option (Int32 × AH)
  | 0, _, _, _, _, _, _, _ => none
  | n + 1, k0, x1, x2, x3, x4, x5, h =>
    if (h.1 k0 34) ≤ x5 then (
      og (bz x4) <|
      some (x4, h)
    ) else (
      ov (f_X12_have k0 x1 h) fun h_4 =>
      ob (f_X12_doorOf k0 0 x2 h_4) fun r_7 h_6 =>
      ov (f_X12_goWay k0 x5 x2 r_7 h_6) fun h_9 =>
      f_X12_comes_41 (f_X12_comes_11 n) FU k0 x1 x2 x3 x4 x5 0 h_9
    )
def f_X12_comes (k0 : Nat) (x1 : Int32) (x2 : Int32) (x3 : Int32) (h : AH) : Option (Int32 × AH) :=
  ov (f_X12_allWays k0 x2 h) fun h_2 =>
  f_X12_comes_11 FU k0 x1 x2 x3 0 0 h_2
set_option maxHeartbeats 4000000 in
set_option maxRecDepth 100000 in
theorem v_X12_comes_73 {E : EV} {d : Nat} (hd : 1461 ≤ d) {r0 : Int32} {h0 : AH} {q41 : Nat → Int32 → Int32 → Int32 → Int32 → Int32 → Int32 → AH → Option (Int32 × AH)} (cq41 : ∀ (k0 : Nat) (x1 : Int32) (x2 : Int32) (x3 : Int32) (x4 : Int32) (x5 : Int32) (x6 : Int32) (h : AH), q41 k0 x1 x2 x3 x4 x5 x6 h = some (r0, h0) → kd k0 = (0, 12) → V E (d + 1) K_X12_comes (ZI E r0 h0) h [(0, .ref k0), (1, .int x1), (2, .int x2), (3, .int x3), (4, .int x4), (5, .int x5), (6, .int x6)] [] 41) {k0 : Nat} {x1 : Int32} {x2 : Int32} {x3 : Int32} {x4 : Int32} {x5 : Int32} {x6 : Int32} {h : AH} (hf : f_X12_comes_73 q41 k0 x1 x2 x3 x4 x5 x6 h = some (r0, h0)) (t_k0 : kd k0 = (0, 12)) : V E (d + 1) K_X12_comes (ZI E r0 h0) h [(0, .ref k0), (1, .int x1), (2, .int x2), (3, .int x3), (4, .int x4), (5, .int x5), (6, .int x6)] [] 73 := by
  unfold f_X12_comes_73 at hf
  obtain ⟨x6_1, e_2, hf⟩ := nm_s hf
  refine V_iinc (a := 1) (L' := [(6, .int x6_1), (0, .ref k0), (1, .int x1), (2, .int x2), (3, .int x3), (4, .int x4), (5, .int x5)]) 6 dX12_comes_73 rfl (by decide) (Nat.le_of_ble_eq_true rfl) e_2 rfl ?_
  refine V_goto (tgt := 41) dX12_comes_76 (by decide) ?_
  refine V_sub [1, 2, 3, 4, 5, 6, 0] rfl ?_
  exact cq41 _ _ _ _ _ _ _ _ hf t_k0
set_option maxHeartbeats 4000000 in
set_option maxRecDepth 100000 in
theorem v_X12_comes_110 {E : EV} {d : Nat} (hd : 1461 ≤ d) {r0 : Int32} {h0 : AH} {q11 : Nat → Int32 → Int32 → Int32 → Int32 → Int32 → AH → Option (Int32 × AH)} (cq11 : ∀ (k0 : Nat) (x1 : Int32) (x2 : Int32) (x3 : Int32) (x4 : Int32) (x5 : Int32) (h : AH), q11 k0 x1 x2 x3 x4 x5 h = some (r0, h0) → kd k0 = (0, 12) → V E (d + 1) K_X12_comes (ZI E r0 h0) h [(0, .ref k0), (1, .int x1), (2, .int x2), (3, .int x3), (4, .int x4), (5, .int x5)] [] 11) {k0 : Nat} {x1 : Int32} {x2 : Int32} {x3 : Int32} {x4 : Int32} {x5 : Int32} {h : AH} (hf : f_X12_comes_110 q11 k0 x1 x2 x3 x4 x5 h = some (r0, h0)) (t_k0 : kd k0 = (0, 12)) : V E (d + 1) K_X12_comes (ZI E r0 h0) h [(0, .ref k0), (1, .int x1), (2, .int x2), (3, .int x3), (4, .int x4), (5, .int x5)] [] 110 := by
  unfold f_X12_comes_110 at hf
  obtain ⟨x5_1, e_2, hf⟩ := nm_s hf
  refine V_iinc (a := 1) (L' := [(5, .int x5_1), (0, .ref k0), (1, .int x1), (2, .int x2), (3, .int x3), (4, .int x4)]) 5 dX12_comes_110 rfl (by decide) (Nat.le_of_ble_eq_true rfl) e_2 rfl ?_
  refine V_goto (tgt := 11) dX12_comes_113 (by decide) ?_
  refine V_sub [1, 2, 3, 4, 5, 0] rfl ?_
  exact cq11 _ _ _ _ _ _ _ hf t_k0
set_option maxHeartbeats 4000000 in
set_option maxRecDepth 100000 in
theorem v_X12_comes_41 {E : EV} {d : Nat} (hd : 1461 ≤ d) {r0 : Int32} {h0 : AH} {q11 : Nat → Int32 → Int32 → Int32 → Int32 → Int32 → AH → Option (Int32 × AH)} (cq11 : ∀ (k0 : Nat) (x1 : Int32) (x2 : Int32) (x3 : Int32) (x4 : Int32) (x5 : Int32) (h : AH), q11 k0 x1 x2 x3 x4 x5 h = some (r0, h0) → kd k0 = (0, 12) → V E (d + 1) K_X12_comes (ZI E r0 h0) h [(0, .ref k0), (1, .int x1), (2, .int x2), (3, .int x3), (4, .int x4), (5, .int x5)] [] 11) : ∀ (n : Nat) (k0 : Nat) (x1 : Int32) (x2 : Int32) (x3 : Int32) (x4 : Int32) (x5 : Int32) (x6 : Int32) (h : AH), f_X12_comes_41 q11 n k0 x1 x2 x3 x4 x5 x6 h = some (r0, h0) → kd k0 = (0, 12) → V E (d + 1) K_X12_comes (ZI E r0 h0) h [(0, .ref k0), (1, .int x1), (2, .int x2), (3, .int x3), (4, .int x4), (5, .int x5), (6, .int x6)] [] 41 := by
  intro n
  induction n with
  | zero =>
    intro k0 x1 x2 x3 x4 x5 x6 h hf
    rw [f_X12_comes_41] at hf
    cases hf
  | succ n ih =>
    intro k0 x1 x2 x3 x4 x5 x6 h hf t_k0
    rw [f_X12_comes_41] at hf
    refine V_iload 6 dX12_comes_41 rfl ?_
    refine V_aload_n 0 dX12_comes_43 rfl rfl ?_
    refine V_getI F_X12_283 rfl t_k0 rfl dX12_comes_44 ?_
    refine V_ic_ge (tgt := 79) dX12_comes_47 (by decide) (fun c_1 => ?_) (fun c_1 => ?_)
    · have hf := it_s c_1 hf
      refine V_aload_n 0 dX12_comes_79 rfl rfl ?_
      obtain ⟨r_4, h_3, e_2, hf⟩ := ob_s hf
      refine V_cvi (As := []) (rest := []) (c_X12_havingNow (d := d) (Nat.le_trans (Nat.le_of_ble_eq_true rfl) hd) e_2 t_k0) ML_X12_413 MV_X12_havingNow rfl t_k0 rfl rfl (Nat.le_of_ble_eq_true rfl) dX12_comes_80 ?_
      refine V_istore (L' := [(6, .int r_4), (0, .ref k0), (1, .int x1), (2, .int x2), (3, .int x3), (4, .int x4), (5, .int x5)]) dX12_comes_83 (Nat.le_of_ble_eq_true rfl) rfl rfl ?_
      refine V_aload_n 1 dX12_comes_85 rfl rfl ?_
      refine V_getR F_X12_81 rfl t_k0 rfl dX12_comes_86 ?_
      refine V_iload 0 dX12_comes_89 rfl ?_
      obtain ⟨b_5, hf⟩ := og_s hf
      refine V_iald (rfA t_k0 (Nat.le_of_ble_eq_true rfl) rfl rfl (by decide)) b_5 dX12_comes_91 ?_
      refine V_iconst (v := (-1)) dX12_comes_92 (by decide) ?_
      refine V_ic_eq (tgt := 99) dX12_comes_93 (by decide) (fun c_6 => ?_) (fun c_6 => ?_)
      · have hf := it_s c_6 hf
        refine V_aload_n 1 dX12_comes_99 rfl rfl ?_
        refine V_getR F_X12_81 rfl t_k0 rfl dX12_comes_100 ?_
        refine V_iload 0 dX12_comes_103 rfl ?_
        refine V_iload_n 4 dX12_comes_105 rfl rfl ?_
        obtain ⟨b_7, hf⟩ := og_s hf
        obtain ⟨h_8, e_9, hf⟩ := nm_s hf
        refine V_iast (rfA t_k0 (Nat.le_of_ble_eq_true rfl) rfl rfl (by decide)) b_7 e_9 dX12_comes_106 ?_
        refine V_iconst (v := 1) dX12_comes_107 (by decide) ?_
        refine V_istore (L' := [(4, .int 1), (6, .int r_4), (0, .ref k0), (1, .int x1), (2, .int x2), (3, .int x3), (5, .int x5)]) dX12_comes_108 (Nat.le_of_ble_eq_true rfl) rfl rfl ?_
        refine V_sub [2, 3, 4, 5, 0, 6] rfl ?_
        exact v_X12_comes_110 hd cq11 hf t_k0
      · have hf := if_s c_6 hf
        refine V_goto (tgt := 110) dX12_comes_96 (by decide) ?_
        refine V_sub [1, 2, 3, 4, 5, 6] rfl ?_
        exact v_X12_comes_110 hd cq11 hf t_k0
    · have hf := if_s c_1 hf
      refine V_iload_n 2 dX12_comes_50 rfl rfl ?_
      refine V_iload 6 dX12_comes_51 rfl ?_
      obtain ⟨r_12, h_11, e_10, hf⟩ := ob_s hf
      refine V_csi (As := [.int x2, .int x6]) (rest := []) (c_X12_has (d := d) (Nat.le_trans (Nat.le_of_ble_eq_true rfl) hd) e_10) ML_X12_258 MS_X12_has rfl rfl rfl (Nat.le_of_ble_eq_true rfl) dX12_comes_53 ?_
      refine V_if_eq (tgt := 73) dX12_comes_56 (by decide) (fun c_13 => ?_) (fun c_13 => ?_)
      · have hf := it_s c_13 hf
        exact v_X12_comes_73 hd ih hf t_k0
      · have hf := if_s c_13 hf
        refine V_aload_n 0 dX12_comes_59 rfl rfl ?_
        refine V_getR F_X12_45 rfl t_k0 rfl dX12_comes_60 ?_
        refine V_iload 6 dX12_comes_63 rfl ?_
        refine V_aload_n 0 dX12_comes_65 rfl rfl ?_
        refine V_getR F_X12_63 rfl t_k0 rfl dX12_comes_66 ?_
        refine V_iload 6 dX12_comes_69 rfl ?_
        obtain ⟨b_14, hf⟩ := og_s hf
        refine V_iald (rfA t_k0 (Nat.le_of_ble_eq_true rfl) rfl rfl (by decide)) b_14 dX12_comes_71 ?_
        obtain ⟨b_15, hf⟩ := og_s hf
        obtain ⟨h_16, e_17, hf⟩ := nm_s hf
        refine V_iast (rfA t_k0 (Nat.le_of_ble_eq_true rfl) rfl rfl (by decide)) b_15 e_17 dX12_comes_72 ?_
        exact v_X12_comes_73 hd ih hf t_k0
set_option maxHeartbeats 4000000 in
set_option maxRecDepth 100000 in
theorem v_X12_comes_11 {E : EV} {d : Nat} (hd : 1461 ≤ d) {r0 : Int32} {h0 : AH} : ∀ (n : Nat) (k0 : Nat) (x1 : Int32) (x2 : Int32) (x3 : Int32) (x4 : Int32) (x5 : Int32) (h : AH), f_X12_comes_11 n k0 x1 x2 x3 x4 x5 h = some (r0, h0) → kd k0 = (0, 12) → V E (d + 1) K_X12_comes (ZI E r0 h0) h [(0, .ref k0), (1, .int x1), (2, .int x2), (3, .int x3), (4, .int x4), (5, .int x5)] [] 11 := by
  intro n
  induction n with
  | zero =>
    intro k0 x1 x2 x3 x4 x5 h hf
    rw [f_X12_comes_11] at hf
    cases hf
  | succ n ih =>
    intro k0 x1 x2 x3 x4 x5 h hf t_k0
    rw [f_X12_comes_11] at hf
    refine V_iload 5 dX12_comes_11 rfl ?_
    refine V_aload_n 0 dX12_comes_13 rfl rfl ?_
    refine V_getI F_X12_353 rfl t_k0 rfl dX12_comes_14 ?_
    refine V_ic_ge (tgt := 116) dX12_comes_17 (by decide) (fun c_1 => ?_) (fun c_1 => ?_)
    · have hf := it_s c_1 hf
      refine V_iload 4 dX12_comes_116 rfl ?_
      obtain ⟨b_2, hf⟩ := og_s hf
      exact V_zret rfl b_2 (so_s hf) dX12_comes_118
    · have hf := if_s c_1 hf
      refine V_aload_n 0 dX12_comes_20 rfl rfl ?_
      refine V_iload_n 1 dX12_comes_21 rfl rfl ?_
      obtain ⟨h_4, e_3, hf⟩ := ov_s hf
      refine V_cvv (As := [.int x1]) (rest := []) (c_X12_have (d := d) (Nat.le_trans (Nat.le_of_ble_eq_true rfl) hd) e_3 t_k0) ML_X12_410 MV_X12_have rfl t_k0 rfl rfl (Nat.le_of_ble_eq_true rfl) dX12_comes_22 ?_
      refine V_aload_n 0 dX12_comes_25 rfl rfl ?_
      refine V_iload 5 dX12_comes_26 rfl ?_
      refine V_iload_n 2 dX12_comes_28 rfl rfl ?_
      refine V_aload_n 0 dX12_comes_29 rfl rfl ?_
      refine V_iconst (v := 0) dX12_comes_30 (by decide) ?_
      refine V_iload_n 2 dX12_comes_31 rfl rfl ?_
      obtain ⟨r_7, h_6, e_5, hf⟩ := ob_s hf
      refine V_cvi (As := [.int 0, .int x2]) (rest := [.int x2, .int x5, .ref k0]) (c_X12_doorOf (d := d) (Nat.le_trans (Nat.le_of_ble_eq_true rfl) hd) e_5 t_k0) ML_X12_335 MV_X12_doorOf rfl t_k0 rfl rfl (Nat.le_of_ble_eq_true rfl) dX12_comes_32 ?_
      obtain ⟨h_9, e_8, hf⟩ := ov_s hf
      refine V_cvv (As := [.int x5, .int x2, .int r_7]) (rest := []) (c_X12_goWay (d := d) (Nat.le_trans (Nat.le_of_ble_eq_true rfl) hd) e_8 t_k0) ML_X12_370 MV_X12_goWay rfl t_k0 rfl rfl (Nat.le_of_ble_eq_true rfl) dX12_comes_35 ?_
      refine V_iconst (v := 0) dX12_comes_38 (by decide) ?_
      refine V_istore (L' := [(6, .int 0), (0, .ref k0), (1, .int x1), (2, .int x2), (3, .int x3), (4, .int x4), (5, .int x5)]) dX12_comes_39 (Nat.le_of_ble_eq_true rfl) rfl rfl ?_
      refine V_sub [1, 2, 3, 4, 5, 6, 0] rfl ?_
      exact v_X12_comes_41 hd ih FU _ _ _ _ _ _ _ _ hf t_k0
set_option maxHeartbeats 4000000 in
set_option maxRecDepth 100000 in
theorem c_X12_comes {E : EV} {d : Nat} (hd : 1461 + 1 ≤ d) {k0 : Nat} {x1 : Int32} {x2 : Int32} {x3 : Int32} {h : AH} {r0 : Int32} {h0 : AH} (hf : f_X12_comes k0 x1 x2 x3 h = some (r0, h0)) (t_k0 : kd k0 = (0, 12)) : Con E d K_X12_comes (ZI E r0 h0) [.ref k0, .int x1, .int x2, .int x3] h := by
  obtain ⟨d, rfl⟩ : ∃ d', d = d' + 1 := ⟨d - 1, by omega⟩
  have hd := Nat.le_of_succ_le_succ hd
  refine Con.ofV rfl (Nat.le_of_ble_eq_true rfl) ?_
  unfold f_X12_comes at hf
  show V E (d + 1) K_X12_comes (ZI E r0 h0) h [(0, .ref k0), (1, .int x1), (2, .int x2), (3, .int x3)] [] 0
  refine V_iconst (v := 0) dX12_comes_0 (by decide) ?_
  refine V_istore (L' := [(4, .int 0), (0, .ref k0), (1, .int x1), (2, .int x2), (3, .int x3)]) dX12_comes_1 (Nat.le_of_ble_eq_true rfl) rfl rfl ?_
  refine V_aload_n 1 dX12_comes_3 rfl rfl ?_
  refine V_iload_n 3 dX12_comes_4 rfl rfl ?_
  obtain ⟨h_2, e_1, hf⟩ := ov_s hf
  refine V_cvv (As := [.int x2]) (rest := []) (c_X12_allWays (d := d) (Nat.le_trans (Nat.le_of_ble_eq_true rfl) hd) e_1 t_k0) ML_X12_367 MV_X12_allWays rfl t_k0 rfl rfl (Nat.le_of_ble_eq_true rfl) dX12_comes_5 ?_
  refine V_iconst (v := 0) dX12_comes_8 (by decide) ?_
  refine V_istore (L' := [(5, .int 0), (4, .int 0), (0, .ref k0), (1, .int x1), (2, .int x2), (3, .int x3)]) dX12_comes_9 (Nat.le_of_ble_eq_true rfl) rfl rfl ?_
  refine V_sub [2, 3, 4, 5, 1, 0] rfl ?_
  exact v_X12_comes_11 hd FU _ _ _ _ _ _ _ hf t_k0
theorem dX12_putBackHaving_0 : decode cX12_putBackHaving 0 = .ok (.iconst 0, 1) := by decide +kernel
theorem dX12_putBackHaving_1 : decode cX12_putBackHaving 1 = .ok (.istore_n 1, 1) := by decide +kernel
theorem dX12_putBackHaving_2 : decode cX12_putBackHaving 2 = .ok (.iload_n 1, 1) := by decide +kernel
theorem dX12_putBackHaving_3 : decode cX12_putBackHaving 3 = .ok (.aload_n 0, 1) := by decide +kernel
theorem dX12_putBackHaving_4 : decode cX12_putBackHaving 4 = .ok (.getfield 283, 3) := by decide +kernel
theorem dX12_putBackHaving_7 : decode cX12_putBackHaving 7 = .ok (.if_icmp .ge 33, 3) := by decide +kernel
theorem dX12_putBackHaving_10 : decode cX12_putBackHaving 10 = .ok (.aload_n 0, 1) := by decide +kernel
theorem dX12_putBackHaving_11 : decode cX12_putBackHaving 11 = .ok (.getfield 48, 3) := by decide +kernel
theorem dX12_putBackHaving_14 : decode cX12_putBackHaving 14 = .ok (.iload_n 1, 1) := by decide +kernel
theorem dX12_putBackHaving_15 : decode cX12_putBackHaving 15 = .ok (.aload_n 0, 1) := by decide +kernel
theorem dX12_putBackHaving_16 : decode cX12_putBackHaving 16 = .ok (.getfield 87, 3) := by decide +kernel
theorem dX12_putBackHaving_19 : decode cX12_putBackHaving 19 = .ok (.iload_n 1, 1) := by decide +kernel
theorem dX12_putBackHaving_20 : decode cX12_putBackHaving 20 = .ok (.iaload, 1) := by decide +kernel
theorem dX12_putBackHaving_21 : decode cX12_putBackHaving 21 = .ok (.iastore, 1) := by decide +kernel
theorem dX12_putBackHaving_22 : decode cX12_putBackHaving 22 = .ok (.aload_n 0, 1) := by decide +kernel
theorem dX12_putBackHaving_23 : decode cX12_putBackHaving 23 = .ok (.getfield 45, 3) := by decide +kernel
theorem dX12_putBackHaving_26 : decode cX12_putBackHaving 26 = .ok (.iload_n 1, 1) := by decide +kernel
theorem dX12_putBackHaving_27 : decode cX12_putBackHaving 27 = .ok (.aload_n 0, 1) := by decide +kernel
theorem dX12_putBackHaving_28 : decode cX12_putBackHaving 28 = .ok (.getfield 90, 3) := by decide +kernel
theorem dX12_putBackHaving_31 : decode cX12_putBackHaving 31 = .ok (.iload_n 1, 1) := by decide +kernel
theorem dX12_putBackHaving_32 : decode cX12_putBackHaving 32 = .ok (.iaload, 1) := by decide +kernel
theorem dX12_putBackHaving_33 : decode cX12_putBackHaving 33 = .ok (.iastore, 1) := by decide +kernel
theorem dX12_putBackHaving_34 : decode cX12_putBackHaving 34 = .ok (.iinc 1 1, 3) := by decide +kernel
theorem dX12_putBackHaving_37 : decode cX12_putBackHaving 37 = .ok (.goto (-35), 3) := by decide +kernel
theorem dX12_putBackHaving_40 : decode cX12_putBackHaving 40 = .ok (.return_, 1) := by decide +kernel
def f_X12_putBackHaving_2 : Nat → Nat → Int32 → AH → Option AH
  | 0, _, _, _ => none
  | n + 1, k0, x1, h =>
    if (h.1 k0 20) ≤ x1 then (
      some h
    ) else (
      og (ix x1 (an (rf k0 41))) <|
      og (ix x1 (an (rf k0 23))) <|
      nm (sI h (rf k0 23) x1.toNatClampNeg (h.1 (rf k0 41) x1.toNatClampNeg)) fun h_4 =>
      og (ix x1 (an (rf k0 42))) <|
      og (ix x1 (an (rf k0 22))) <|
      nm (sI h_4 (rf k0 22) x1.toNatClampNeg (h_4.1 (rf k0 42) x1.toNatClampNeg)) fun h_8 =>
      nm (x1 + 1) fun x1_10 =>
      f_X12_putBackHaving_2 n k0 x1_10 h_8
    )
def f_X12_putBackHaving (k0 : Nat) (h : AH) : Option AH :=
  f_X12_putBackHaving_2 FU k0 0 h
set_option maxHeartbeats 4000000 in
set_option maxRecDepth 100000 in
theorem v_X12_putBackHaving_2 {E : EV} {d : Nat} (hd : 0 ≤ d) {h0 : AH} : ∀ (n : Nat) (k0 : Nat) (x1 : Int32) (h : AH), f_X12_putBackHaving_2 n k0 x1 h = some h0 → kd k0 = (0, 12) → V E (d + 1) K_X12_putBackHaving (ZV E h0) h [(0, .ref k0), (1, .int x1)] [] 2 := by
  intro n
  induction n with
  | zero =>
    intro k0 x1 h hf
    rw [f_X12_putBackHaving_2] at hf
    cases hf
  | succ n ih =>
    intro k0 x1 h hf t_k0
    rw [f_X12_putBackHaving_2] at hf
    refine V_iload_n 1 dX12_putBackHaving_2 rfl rfl ?_
    refine V_aload_n 0 dX12_putBackHaving_3 rfl rfl ?_
    refine V_getI F_X12_283 rfl t_k0 rfl dX12_putBackHaving_4 ?_
    refine V_ic_ge (tgt := 40) dX12_putBackHaving_7 (by decide) (fun c_1 => ?_) (fun c_1 => ?_)
    · have hf := it_s c_1 hf
      exact V_vret rfl (so_s hf) dX12_putBackHaving_40
    · have hf := if_s c_1 hf
      refine V_aload_n 0 dX12_putBackHaving_10 rfl rfl ?_
      refine V_getR F_X12_48 rfl t_k0 rfl dX12_putBackHaving_11 ?_
      refine V_iload_n 1 dX12_putBackHaving_14 rfl rfl ?_
      refine V_aload_n 0 dX12_putBackHaving_15 rfl rfl ?_
      refine V_getR F_X12_87 rfl t_k0 rfl dX12_putBackHaving_16 ?_
      refine V_iload_n 1 dX12_putBackHaving_19 rfl rfl ?_
      obtain ⟨b_2, hf⟩ := og_s hf
      refine V_iald (rfA t_k0 (Nat.le_of_ble_eq_true rfl) rfl rfl (by decide)) b_2 dX12_putBackHaving_20 ?_
      obtain ⟨b_3, hf⟩ := og_s hf
      obtain ⟨h_4, e_5, hf⟩ := nm_s hf
      refine V_iast (rfA t_k0 (Nat.le_of_ble_eq_true rfl) rfl rfl (by decide)) b_3 e_5 dX12_putBackHaving_21 ?_
      refine V_aload_n 0 dX12_putBackHaving_22 rfl rfl ?_
      refine V_getR F_X12_45 rfl t_k0 rfl dX12_putBackHaving_23 ?_
      refine V_iload_n 1 dX12_putBackHaving_26 rfl rfl ?_
      refine V_aload_n 0 dX12_putBackHaving_27 rfl rfl ?_
      refine V_getR F_X12_90 rfl t_k0 rfl dX12_putBackHaving_28 ?_
      refine V_iload_n 1 dX12_putBackHaving_31 rfl rfl ?_
      obtain ⟨b_6, hf⟩ := og_s hf
      refine V_iald (rfA t_k0 (Nat.le_of_ble_eq_true rfl) rfl rfl (by decide)) b_6 dX12_putBackHaving_32 ?_
      obtain ⟨b_7, hf⟩ := og_s hf
      obtain ⟨h_8, e_9, hf⟩ := nm_s hf
      refine V_iast (rfA t_k0 (Nat.le_of_ble_eq_true rfl) rfl rfl (by decide)) b_7 e_9 dX12_putBackHaving_33 ?_
      obtain ⟨x1_10, e_11, hf⟩ := nm_s hf
      refine V_iinc (a := 1) (L' := [(1, .int x1_10), (0, .ref k0)]) 1 dX12_putBackHaving_34 rfl (by decide) (Nat.le_of_ble_eq_true rfl) e_11 rfl ?_
      refine V_goto (tgt := 2) dX12_putBackHaving_37 (by decide) ?_
      refine V_sub [1, 0] rfl ?_
      exact ih _ _ _ hf t_k0
set_option maxHeartbeats 4000000 in
set_option maxRecDepth 100000 in
theorem c_X12_putBackHaving {E : EV} {d : Nat} (hd : 0 + 1 ≤ d) {k0 : Nat} {h : AH} {h0 : AH} (hf : f_X12_putBackHaving k0 h = some h0) (t_k0 : kd k0 = (0, 12)) : Con E d K_X12_putBackHaving (ZV E h0) [.ref k0] h := by
  obtain ⟨d, rfl⟩ : ∃ d', d = d' + 1 := ⟨d - 1, by omega⟩
  have hd := Nat.le_of_succ_le_succ hd
  refine Con.ofV rfl (Nat.le_of_ble_eq_true rfl) ?_
  unfold f_X12_putBackHaving at hf
  show V E (d + 1) K_X12_putBackHaving (ZV E h0) h [(0, .ref k0)] [] 0
  refine V_iconst (v := 0) dX12_putBackHaving_0 (by decide) ?_
  refine V_istore_n (L' := [(1, .int 0), (0, .ref k0)]) dX12_putBackHaving_1 rfl (Nat.le_of_ble_eq_true rfl) rfl rfl ?_
  refine V_sub [1, 0] rfl ?_
  exact v_X12_putBackHaving_2 hd FU _ _ _ hf t_k0
theorem dX12_bring_0 : decode cX12_bring 0 = .ok (.aload_n 0, 1) := by decide +kernel
theorem dX12_bring_1 : decode cX12_bring 1 = .ok (.iconst 0, 1) := by decide +kernel
theorem dX12_bring_2 : decode cX12_bring 2 = .ok (.putfield 120, 3) := by decide +kernel
theorem dX12_bring_5 : decode cX12_bring 5 = .ok (.aload_n 0, 1) := by decide +kernel
theorem dX12_bring_6 : decode cX12_bring 6 = .ok (.getfield 283, 3) := by decide +kernel
theorem dX12_bring_9 : decode cX12_bring 9 = .ok (.iconst 4, 1) := by decide +kernel
theorem dX12_bring_10 : decode cX12_bring 10 = .ok (.if_icmp .gt 19, 3) := by decide +kernel
theorem dX12_bring_13 : decode cX12_bring 13 = .ok (.aload_n 0, 1) := by decide +kernel
theorem dX12_bring_14 : decode cX12_bring 14 = .ok (.iload_n 1, 1) := by decide +kernel
theorem dX12_bring_15 : decode cX12_bring 15 = .ok (.invokevirtual 295, 3) := by decide +kernel
theorem dX12_bring_18 : decode cX12_bring 18 = .ok (.ifCond .eq 11, 3) := by decide +kernel
theorem dX12_bring_21 : decode cX12_bring 21 = .ok (.aload_n 0, 1) := by decide +kernel
theorem dX12_bring_22 : decode cX12_bring 22 = .ok (.iload_n 2, 1) := by decide +kernel
theorem dX12_bring_23 : decode cX12_bring 23 = .ok (.invokevirtual 295, 3) := by decide +kernel
theorem dX12_bring_26 : decode cX12_bring 26 = .ok (.ifCond .ne 5, 3) := by decide +kernel
theorem dX12_bring_29 : decode cX12_bring 29 = .ok (.iconst (-1), 1) := by decide +kernel
theorem dX12_bring_30 : decode cX12_bring 30 = .ok (.ireturn, 1) := by decide +kernel
theorem dX12_bring_31 : decode cX12_bring 31 = .ok (.aload_n 0, 1) := by decide +kernel
theorem dX12_bring_32 : decode cX12_bring 32 = .ok (.invokevirtual 447, 3) := by decide +kernel
theorem dX12_bring_35 : decode cX12_bring 35 = .ok (.iconst 0, 1) := by decide +kernel
theorem dX12_bring_36 : decode cX12_bring 36 = .ok (.istore_n 3, 1) := by decide +kernel
theorem dX12_bring_37 : decode cX12_bring 37 = .ok (.iload_n 3, 1) := by decide +kernel
theorem dX12_bring_38 : decode cX12_bring 38 = .ok (.sipush 625, 3) := by decide +kernel
theorem dX12_bring_41 : decode cX12_bring 41 = .ok (.if_icmp .ge 16, 3) := by decide +kernel
theorem dX12_bring_44 : decode cX12_bring 44 = .ok (.aload_n 0, 1) := by decide +kernel
theorem dX12_bring_45 : decode cX12_bring 45 = .ok (.getfield 81, 3) := by decide +kernel
theorem dX12_bring_48 : decode cX12_bring 48 = .ok (.iload_n 3, 1) := by decide +kernel
theorem dX12_bring_49 : decode cX12_bring 49 = .ok (.iconst (-1), 1) := by decide +kernel
theorem dX12_bring_50 : decode cX12_bring 50 = .ok (.iastore, 1) := by decide +kernel
theorem dX12_bring_51 : decode cX12_bring 51 = .ok (.iinc 3 1, 3) := by decide +kernel
theorem dX12_bring_54 : decode cX12_bring 54 = .ok (.goto (-17), 3) := by decide +kernel
theorem dX12_bring_57 : decode cX12_bring 57 = .ok (.aload_n 0, 1) := by decide +kernel
theorem dX12_bring_58 : decode cX12_bring 58 = .ok (.getfield 81, 3) := by decide +kernel
theorem dX12_bring_61 : decode cX12_bring 61 = .ok (.aload_n 0, 1) := by decide +kernel
theorem dX12_bring_62 : decode cX12_bring 62 = .ok (.invokevirtual 413, 3) := by decide +kernel
theorem dX12_bring_65 : decode cX12_bring 65 = .ok (.iconst 0, 1) := by decide +kernel
theorem dX12_bring_66 : decode cX12_bring 66 = .ok (.iastore, 1) := by decide +kernel
theorem dX12_bring_67 : decode cX12_bring 67 = .ok (.iconst (-1), 1) := by decide +kernel
theorem dX12_bring_68 : decode cX12_bring 68 = .ok (.istore_n 3, 1) := by decide +kernel
theorem dX12_bring_69 : decode cX12_bring 69 = .ok (.iconst 1, 1) := by decide +kernel
theorem dX12_bring_70 : decode cX12_bring 70 = .ok (.istore 4, 2) := by decide +kernel
theorem dX12_bring_72 : decode cX12_bring 72 = .ok (.iconst 0, 1) := by decide +kernel
theorem dX12_bring_73 : decode cX12_bring 73 = .ok (.istore 5, 2) := by decide +kernel
theorem dX12_bring_75 : decode cX12_bring 75 = .ok (.iload 4, 2) := by decide +kernel
theorem dX12_bring_77 : decode cX12_bring 77 = .ok (.ifCond .eq 144, 3) := by decide +kernel
theorem dX12_bring_80 : decode cX12_bring 80 = .ok (.iload_n 3, 1) := by decide +kernel
theorem dX12_bring_81 : decode cX12_bring 81 = .ok (.iconst (-1), 1) := by decide +kernel
theorem dX12_bring_82 : decode cX12_bring 82 = .ok (.if_icmp .ne 139, 3) := by decide +kernel
theorem dX12_bring_85 : decode cX12_bring 85 = .ok (.iconst 0, 1) := by decide +kernel
theorem dX12_bring_86 : decode cX12_bring 86 = .ok (.istore 4, 2) := by decide +kernel
theorem dX12_bring_88 : decode cX12_bring 88 = .ok (.iconst 0, 1) := by decide +kernel
theorem dX12_bring_89 : decode cX12_bring 89 = .ok (.istore 6, 2) := by decide +kernel
theorem dX12_bring_91 : decode cX12_bring 91 = .ok (.iload 6, 2) := by decide +kernel
theorem dX12_bring_93 : decode cX12_bring 93 = .ok (.sipush 625, 3) := by decide +kernel
theorem dX12_bring_96 : decode cX12_bring 96 = .ok (.if_icmp .ge 35, 3) := by decide +kernel
theorem dX12_bring_99 : decode cX12_bring 99 = .ok (.aload_n 0, 1) := by decide +kernel
theorem dX12_bring_100 : decode cX12_bring 100 = .ok (.getfield 81, 3) := by decide +kernel
theorem dX12_bring_103 : decode cX12_bring 103 = .ok (.iload 6, 2) := by decide +kernel
theorem dX12_bring_105 : decode cX12_bring 105 = .ok (.iaload, 1) := by decide +kernel
theorem dX12_bring_106 : decode cX12_bring 106 = .ok (.iload 5, 2) := by decide +kernel
theorem dX12_bring_108 : decode cX12_bring 108 = .ok (.if_icmp .ne 17, 3) := by decide +kernel
theorem dX12_bring_111 : decode cX12_bring 111 = .ok (.aload_n 0, 1) := by decide +kernel
theorem dX12_bring_112 : decode cX12_bring 112 = .ok (.iload 6, 2) := by decide +kernel
theorem dX12_bring_114 : decode cX12_bring 114 = .ok (.iload_n 1, 1) := by decide +kernel
theorem dX12_bring_115 : decode cX12_bring 115 = .ok (.invokevirtual 450, 3) := by decide +kernel
theorem dX12_bring_118 : decode cX12_bring 118 = .ok (.iload_n 2, 1) := by decide +kernel
theorem dX12_bring_119 : decode cX12_bring 119 = .ok (.if_icmp .ne 6, 3) := by decide +kernel
theorem dX12_bring_122 : decode cX12_bring 122 = .ok (.iload 5, 2) := by decide +kernel
theorem dX12_bring_124 : decode cX12_bring 124 = .ok (.istore_n 3, 1) := by decide +kernel
theorem dX12_bring_125 : decode cX12_bring 125 = .ok (.iinc 6 1, 3) := by decide +kernel
theorem dX12_bring_128 : decode cX12_bring 128 = .ok (.goto (-37), 3) := by decide +kernel
theorem dX12_bring_131 : decode cX12_bring 131 = .ok (.iconst 0, 1) := by decide +kernel
theorem dX12_bring_132 : decode cX12_bring 132 = .ok (.istore 6, 2) := by decide +kernel
theorem dX12_bring_134 : decode cX12_bring 134 = .ok (.iload 6, 2) := by decide +kernel
theorem dX12_bring_136 : decode cX12_bring 136 = .ok (.sipush 625, 3) := by decide +kernel
theorem dX12_bring_139 : decode cX12_bring 139 = .ok (.if_icmp .ge 76, 3) := by decide +kernel
theorem dX12_bring_142 : decode cX12_bring 142 = .ok (.iload_n 3, 1) := by decide +kernel
theorem dX12_bring_143 : decode cX12_bring 143 = .ok (.iconst (-1), 1) := by decide +kernel
theorem dX12_bring_144 : decode cX12_bring 144 = .ok (.if_icmp .ne 71, 3) := by decide +kernel
theorem dX12_bring_147 : decode cX12_bring 147 = .ok (.aload_n 0, 1) := by decide +kernel
theorem dX12_bring_148 : decode cX12_bring 148 = .ok (.getfield 81, 3) := by decide +kernel
theorem dX12_bring_151 : decode cX12_bring 151 = .ok (.iload 6, 2) := by decide +kernel
theorem dX12_bring_153 : decode cX12_bring 153 = .ok (.iaload, 1) := by decide +kernel
theorem dX12_bring_154 : decode cX12_bring 154 = .ok (.iload 5, 2) := by decide +kernel
theorem dX12_bring_156 : decode cX12_bring 156 = .ok (.if_icmp .eq 6, 3) := by decide +kernel
theorem dX12_bring_159 : decode cX12_bring 159 = .ok (.goto 50, 3) := by decide +kernel
theorem dX12_bring_162 : decode cX12_bring 162 = .ok (.iconst 1, 1) := by decide +kernel
theorem dX12_bring_163 : decode cX12_bring 163 = .ok (.istore 7, 2) := by decide +kernel
theorem dX12_bring_165 : decode cX12_bring 165 = .ok (.iload 7, 2) := by decide +kernel
theorem dX12_bring_167 : decode cX12_bring 167 = .ok (.iconst 1, 1) := by decide +kernel
theorem dX12_bring_168 : decode cX12_bring 168 = .ok (.aload_n 0, 1) := by decide +kernel
theorem dX12_bring_169 : decode cX12_bring 169 = .ok (.getfield 283, 3) := by decide +kernel
theorem dX12_bring_172 : decode cX12_bring 172 = .ok (.ishl, 1) := by decide +kernel
theorem dX12_bring_173 : decode cX12_bring 173 = .ok (.if_icmp .ge 36, 3) := by decide +kernel
theorem dX12_bring_176 : decode cX12_bring 176 = .ok (.aload_n 0, 1) := by decide +kernel
theorem dX12_bring_177 : decode cX12_bring 177 = .ok (.iload 6, 2) := by decide +kernel
theorem dX12_bring_179 : decode cX12_bring 179 = .ok (.iload 7, 2) := by decide +kernel
theorem dX12_bring_181 : decode cX12_bring 181 = .ok (.iload 5, 2) := by decide +kernel
theorem dX12_bring_183 : decode cX12_bring 183 = .ok (.iconst 1, 1) := by decide +kernel
theorem dX12_bring_184 : decode cX12_bring 184 = .ok (.iadd, 1) := by decide +kernel
theorem dX12_bring_185 : decode cX12_bring 185 = .ok (.invokevirtual 453, 3) := by decide +kernel
theorem dX12_bring_188 : decode cX12_bring 188 = .ok (.ifCond .ne 8, 3) := by decide +kernel
theorem dX12_bring_191 : decode cX12_bring 191 = .ok (.iload 4, 2) := by decide +kernel
theorem dX12_bring_193 : decode cX12_bring 193 = .ok (.ifCond .eq 7, 3) := by decide +kernel
theorem dX12_bring_196 : decode cX12_bring 196 = .ok (.iconst 1, 1) := by decide +kernel
theorem dX12_bring_197 : decode cX12_bring 197 = .ok (.goto 4, 3) := by decide +kernel
theorem dX12_bring_200 : decode cX12_bring 200 = .ok (.iconst 0, 1) := by decide +kernel
theorem dX12_bring_201 : decode cX12_bring 201 = .ok (.istore 4, 2) := by decide +kernel
theorem dX12_bring_203 : decode cX12_bring 203 = .ok (.iinc 7 1, 3) := by decide +kernel
theorem dX12_bring_206 : decode cX12_bring 206 = .ok (.goto (-41), 3) := by decide +kernel
theorem dX12_bring_209 : decode cX12_bring 209 = .ok (.iinc 6 1, 3) := by decide +kernel
theorem dX12_bring_212 : decode cX12_bring 212 = .ok (.goto (-78), 3) := by decide +kernel
theorem dX12_bring_215 : decode cX12_bring 215 = .ok (.iinc 5 1, 3) := by decide +kernel
theorem dX12_bring_218 : decode cX12_bring 218 = .ok (.goto (-143), 3) := by decide +kernel
theorem dX12_bring_221 : decode cX12_bring 221 = .ok (.aload_n 0, 1) := by decide +kernel
theorem dX12_bring_222 : decode cX12_bring 222 = .ok (.invokevirtual 456, 3) := by decide +kernel
theorem dX12_bring_225 : decode cX12_bring 225 = .ok (.iload_n 3, 1) := by decide +kernel
theorem dX12_bring_226 : decode cX12_bring 226 = .ok (.ireturn, 1) := by decide +kernel
theorem ML_X12_453 : MLk RX12 453 yX12_comes := Or.inl ml_X12_453
theorem MV_X12_comes : MVk K_X12_comes 3 12 := ⟨⟨cd_X12_comes, in_X12, ⟨by decide, by decide, by decide +kernel⟩, by decide⟩, im_X12_comes, se_X12_comes, _, _, rfl⟩
theorem ML_X12_450 : MLk RX12 450 yX12_hadBy := Or.inl ml_X12_450
theorem MV_X12_hadBy : MVk K_X12_hadBy 2 12 := ⟨⟨cd_X12_hadBy, in_X12, ⟨by decide, by decide, by decide +kernel⟩, by decide⟩, im_X12_hadBy, se_X12_hadBy, _, _, rfl⟩
theorem ML_X12_456 : MLk RX12 456 yX12_putBackHaving := Or.inl ml_X12_456
theorem MV_X12_putBackHaving : MVk K_X12_putBackHaving 0 12 := ⟨⟨cd_X12_putBackHaving, in_X12, ⟨by decide, by decide, by decide +kernel⟩, by decide⟩, im_X12_putBackHaving, se_X12_putBackHaving, _, _, rfl⟩
theorem ML_X12_447 : MLk RX12 447 yX12_keepHaving := Or.inl ml_X12_447
theorem MV_X12_keepHaving : MVk K_X12_keepHaving 0 12 := ⟨⟨cd_X12_keepHaving, in_X12, ⟨by decide, by decide, by decide +kernel⟩, by decide⟩, im_X12_keepHaving, se_X12_keepHaving, _, _, rfl⟩
def f_X12_bring_29  (h : AH) : Option (Int32 × AH) :=
  some ((-1), h)
def f_X12_bring_125 (q91 : Nat → Int32 → Int32 → Int32 → Int32 → Int32 → Int32 → AH → Option (Int32 × AH)) (k0 : Nat) (x1 : Int32) (x2 : Int32) (x3 : Int32) (x4 : Int32) (x5 : Int32) (x6 : Int32) (h : AH) : Option (Int32 × AH) :=
  nm (x6 + 1) fun x6_1 =>
  q91 k0 x1 x2 x3 x4 x5 x6_1 h
def f_X12_bring_209 (q134 : Nat → Int32 → Int32 → Int32 → Int32 → Int32 → Int32 → AH → Option (Int32 × AH)) (k0 : Nat) (x1 : Int32) (x2 : Int32) (x3 : Int32) (x4 : Int32) (x5 : Int32) (x6 : Int32) (h : AH) : Option (Int32 × AH) :=
  nm (x6 + 1) fun x6_1 =>
  q134 k0 x1 x2 x3 x4 x5 x6_1 h
def f_X12_bring_201 (q165 : Nat → Int32 → Int32 → Int32 → Int32 → Int32 → Int32 → Int32 → AH → Option (Int32 × AH)) (k0 : Nat) (x1 : Int32) (x2 : Int32) (x3 : Int32) (x5 : Int32) (x6 : Int32) (x7 : Int32) (s0 : Int32) (h : AH) : Option (Int32 × AH) :=
  nm (x7 + 1) fun x7_1 =>
  q165 k0 x1 x2 x3 s0 x5 x6 x7_1 h
def f_X12_bring_196 (q165 : Nat → Int32 → Int32 → Int32 → Int32 → Int32 → Int32 → Int32 → AH → Option (Int32 × AH)) (k0 : Nat) (x1 : Int32) (x2 : Int32) (x3 : Int32) (x5 : Int32) (x6 : Int32) (x7 : Int32) (h : AH) : Option (Int32 × AH) :=
  f_X12_bring_201 q165 k0 x1 x2 x3 x5 x6 x7 1 h
def f_X12_bring_165 (q134 : Nat → Int32 → Int32 → Int32 → Int32 → Int32 → Int32 → AH → Option (Int32 × AH)) : Nat → Nat → Int32 → Int32 → Int32 → Int32 → Int32 → Int32 → Int32 → AH → Option (Int32 × AH)
  | 0, _, _, _, _, _, _, _, _, _ => none
  | n + 1, k0, x1, x2, x3, x4, x5, x6, x7, h =>
    if ((1 : Int32) <<< ((h.1 k0 20) &&& 31)) ≤ x7 then (
      f_X12_bring_209 q134 k0 x1 x2 x3 x4 x5 x6 h
    ) else (
      ob (f_X12_comes k0 x6 x7 (x5 + 1) h) fun r_4 h_3 =>
      if r_4 = 0 then (
        if x4 = 0 then (
          f_X12_bring_201 (f_X12_bring_165 q134 n) k0 x1 x2 x3 x5 x6 x7 0 h_3
        ) else (
          f_X12_bring_196 (f_X12_bring_165 q134 n) k0 x1 x2 x3 x5 x6 x7 h_3
        )
      ) else (
        f_X12_bring_196 (f_X12_bring_165 q134 n) k0 x1 x2 x3 x5 x6 x7 h_3
      )
    )
def f_X12_bring_215 (q75 : Nat → Int32 → Int32 → Int32 → Int32 → Int32 → AH → Option (Int32 × AH)) (k0 : Nat) (x1 : Int32) (x2 : Int32) (x3 : Int32) (x4 : Int32) (x5 : Int32) (h : AH) : Option (Int32 × AH) :=
  nm (x5 + 1) fun x5_1 =>
  q75 k0 x1 x2 x3 x4 x5_1 h
def f_X12_bring_134 (q75 : Nat → Int32 → Int32 → Int32 → Int32 → Int32 → AH → Option (Int32 × AH)) : Nat → Nat → Int32 → Int32 → Int32 → Int32 → Int32 → Int32 → AH → Option (Int32 × AH)
  | 0, _, _, _, _, _, _, _, _ => none
  | n + 1, k0, x1, x2, x3, x4, x5, x6, h =>
    if 625 ≤ x6 then (
      f_X12_bring_215 q75 k0 x1 x2 x3 x4 x5 h
    ) else (
      if x3 = (-1) then (
        og (ix x6 (an (rf k0 39))) <|
        if (h.1 (rf k0 39) x6.toNatClampNeg) = x5 then (
          f_X12_bring_165 (f_X12_bring_134 q75 n) FU k0 x1 x2 x3 x4 x5 x6 1 h
        ) else (
          f_X12_bring_209 (f_X12_bring_134 q75 n) k0 x1 x2 x3 x4 x5 x6 h
        )
      ) else (
        f_X12_bring_215 q75 k0 x1 x2 x3 x4 x5 h
      )
    )
def f_X12_bring_91 (q75 : Nat → Int32 → Int32 → Int32 → Int32 → Int32 → AH → Option (Int32 × AH)) : Nat → Nat → Int32 → Int32 → Int32 → Int32 → Int32 → Int32 → AH → Option (Int32 × AH)
  | 0, _, _, _, _, _, _, _, _ => none
  | n + 1, k0, x1, x2, x3, x4, x5, x6, h =>
    if 625 ≤ x6 then (
      f_X12_bring_134 q75 FU k0 x1 x2 x3 x4 x5 0 h
    ) else (
      og (ix x6 (an (rf k0 39))) <|
      if (h.1 (rf k0 39) x6.toNatClampNeg) = x5 then (
        ob (f_X12_hadBy k0 x6 x1 h) fun r_6 h_5 =>
        if r_6 = x2 then (
          f_X12_bring_125 (f_X12_bring_91 q75 n) k0 x1 x2 x5 x4 x5 x6 h_5
        ) else (
          f_X12_bring_125 (f_X12_bring_91 q75 n) k0 x1 x2 x3 x4 x5 x6 h_5
        )
      ) else (
        f_X12_bring_125 (f_X12_bring_91 q75 n) k0 x1 x2 x3 x4 x5 x6 h
      )
    )
def f_X12_bring_221 (k0 : Nat) (x3 : Int32) (h : AH) : Option (Int32 × AH) :=
  ov (f_X12_putBackHaving k0 h) fun h_2 =>
  some (x3, h_2)
def f_X12_bring_75 : Nat → Nat → Int32 → Int32 → Int32 → Int32 → Int32 → AH → Option (Int32 × AH)
  | 0, _, _, _, _, _, _, _ => none
  | n + 1, k0, x1, x2, x3, x4, x5, h =>
    if x4 = 0 then (
      f_X12_bring_221 k0 x3 h
    ) else (
      if x3 = (-1) then (
        f_X12_bring_91 (f_X12_bring_75 n) FU k0 x1 x2 x3 0 x5 0 h
      ) else (
        f_X12_bring_221 k0 x3 h
      )
    )
def f_X12_bring_37 : Nat → Nat → Int32 → Int32 → Int32 → AH → Option (Int32 × AH)
  | 0, _, _, _, _, _ => none
  | n + 1, k0, x1, x2, x3, h =>
    if 625 ≤ x3 then (
      ob (f_X12_havingNow k0 h) fun r_4 h_3 =>
      og (ix r_4 (an (rf k0 39))) <|
      nm (sI h_3 (rf k0 39) r_4.toNatClampNeg 0) fun h_6 =>
      f_X12_bring_75 FU k0 x1 x2 (-1) 1 0 h_6
    ) else (
      og (ix x3 (an (rf k0 39))) <|
      nm (sI h (rf k0 39) x3.toNatClampNeg (-1)) fun h_9 =>
      nm (x3 + 1) fun x3_11 =>
      f_X12_bring_37 n k0 x1 x2 x3_11 h_9
    )
def f_X12_bring (k0 : Nat) (x1 : Int32) (x2 : Int32) (h : AH) : Option (Int32 × AH) :=
  nm (sI h k0 0 0) fun h_1 =>
  if 4 < (h_1.1 k0 20) then (
    f_X12_bring_29 h_1
  ) else (
    ob (f_X12_isPerson k0 x1 h_1) fun r_6 h_5 =>
    if r_6 = 0 then (
      f_X12_bring_29 h_5
    ) else (
      ob (f_X12_isPerson k0 x2 h_5) fun r_10 h_9 =>
      if r_10 = 0 then (
        f_X12_bring_29 h_9
      ) else (
        ov (f_X12_keepHaving k0 h_9) fun h_13 =>
        f_X12_bring_37 FU k0 x1 x2 0 h_13
      )
    )
  )
set_option maxHeartbeats 4000000 in
set_option maxRecDepth 100000 in
theorem v_X12_bring_29 {E : EV} {d : Nat} (hd : 1462 ≤ d) {r0 : Int32} {h0 : AH}  {h : AH} (hf : f_X12_bring_29 h = some (r0, h0)) : V E (d + 1) K_X12_bring (ZI E r0 h0) h [] [] 29 := by
  unfold f_X12_bring_29 at hf
  refine V_iconst (v := (-1)) dX12_bring_29 (by decide) ?_
  exact V_iret rfl (so_s hf) dX12_bring_30
set_option maxHeartbeats 4000000 in
set_option maxRecDepth 100000 in
theorem v_X12_bring_125 {E : EV} {d : Nat} (hd : 1462 ≤ d) {r0 : Int32} {h0 : AH} {q91 : Nat → Int32 → Int32 → Int32 → Int32 → Int32 → Int32 → AH → Option (Int32 × AH)} (cq91 : ∀ (k0 : Nat) (x1 : Int32) (x2 : Int32) (x3 : Int32) (x4 : Int32) (x5 : Int32) (x6 : Int32) (h : AH), q91 k0 x1 x2 x3 x4 x5 x6 h = some (r0, h0) → kd k0 = (0, 12) → V E (d + 1) K_X12_bring (ZI E r0 h0) h [(0, .ref k0), (1, .int x1), (2, .int x2), (3, .int x3), (4, .int x4), (5, .int x5), (6, .int x6)] [] 91) {k0 : Nat} {x1 : Int32} {x2 : Int32} {x3 : Int32} {x4 : Int32} {x5 : Int32} {x6 : Int32} {h : AH} (hf : f_X12_bring_125 q91 k0 x1 x2 x3 x4 x5 x6 h = some (r0, h0)) (t_k0 : kd k0 = (0, 12)) : V E (d + 1) K_X12_bring (ZI E r0 h0) h [(0, .ref k0), (1, .int x1), (2, .int x2), (3, .int x3), (4, .int x4), (5, .int x5), (6, .int x6)] [] 125 := by
  unfold f_X12_bring_125 at hf
  obtain ⟨x6_1, e_2, hf⟩ := nm_s hf
  refine V_iinc (a := 1) (L' := [(6, .int x6_1), (0, .ref k0), (1, .int x1), (2, .int x2), (3, .int x3), (4, .int x4), (5, .int x5)]) 6 dX12_bring_125 rfl (by decide) (Nat.le_of_ble_eq_true rfl) e_2 rfl ?_
  refine V_goto (tgt := 91) dX12_bring_128 (by decide) ?_
  refine V_sub [1, 2, 3, 4, 5, 6, 0] rfl ?_
  exact cq91 _ _ _ _ _ _ _ _ hf t_k0
set_option maxHeartbeats 4000000 in
set_option maxRecDepth 100000 in
theorem v_X12_bring_209 {E : EV} {d : Nat} (hd : 1462 ≤ d) {r0 : Int32} {h0 : AH} {q134 : Nat → Int32 → Int32 → Int32 → Int32 → Int32 → Int32 → AH → Option (Int32 × AH)} (cq134 : ∀ (k0 : Nat) (x1 : Int32) (x2 : Int32) (x3 : Int32) (x4 : Int32) (x5 : Int32) (x6 : Int32) (h : AH), q134 k0 x1 x2 x3 x4 x5 x6 h = some (r0, h0) → kd k0 = (0, 12) → V E (d + 1) K_X12_bring (ZI E r0 h0) h [(0, .ref k0), (1, .int x1), (2, .int x2), (3, .int x3), (4, .int x4), (5, .int x5), (6, .int x6)] [] 134) {k0 : Nat} {x1 : Int32} {x2 : Int32} {x3 : Int32} {x4 : Int32} {x5 : Int32} {x6 : Int32} {h : AH} (hf : f_X12_bring_209 q134 k0 x1 x2 x3 x4 x5 x6 h = some (r0, h0)) (t_k0 : kd k0 = (0, 12)) : V E (d + 1) K_X12_bring (ZI E r0 h0) h [(0, .ref k0), (1, .int x1), (2, .int x2), (3, .int x3), (4, .int x4), (5, .int x5), (6, .int x6)] [] 209 := by
  unfold f_X12_bring_209 at hf
  obtain ⟨x6_1, e_2, hf⟩ := nm_s hf
  refine V_iinc (a := 1) (L' := [(6, .int x6_1), (0, .ref k0), (1, .int x1), (2, .int x2), (3, .int x3), (4, .int x4), (5, .int x5)]) 6 dX12_bring_209 rfl (by decide) (Nat.le_of_ble_eq_true rfl) e_2 rfl ?_
  refine V_goto (tgt := 134) dX12_bring_212 (by decide) ?_
  refine V_sub [1, 2, 3, 4, 5, 6, 0] rfl ?_
  exact cq134 _ _ _ _ _ _ _ _ hf t_k0
set_option maxHeartbeats 4000000 in
set_option maxRecDepth 100000 in
theorem v_X12_bring_201 {E : EV} {d : Nat} (hd : 1462 ≤ d) {r0 : Int32} {h0 : AH} {q165 : Nat → Int32 → Int32 → Int32 → Int32 → Int32 → Int32 → Int32 → AH → Option (Int32 × AH)} (cq165 : ∀ (k0 : Nat) (x1 : Int32) (x2 : Int32) (x3 : Int32) (x4 : Int32) (x5 : Int32) (x6 : Int32) (x7 : Int32) (h : AH), q165 k0 x1 x2 x3 x4 x5 x6 x7 h = some (r0, h0) → kd k0 = (0, 12) → V E (d + 1) K_X12_bring (ZI E r0 h0) h [(0, .ref k0), (1, .int x1), (2, .int x2), (3, .int x3), (4, .int x4), (5, .int x5), (6, .int x6), (7, .int x7)] [] 165) {k0 : Nat} {x1 : Int32} {x2 : Int32} {x3 : Int32} {x5 : Int32} {x6 : Int32} {x7 : Int32} {s0 : Int32} {h : AH} (hf : f_X12_bring_201 q165 k0 x1 x2 x3 x5 x6 x7 s0 h = some (r0, h0)) (t_k0 : kd k0 = (0, 12)) : V E (d + 1) K_X12_bring (ZI E r0 h0) h [(0, .ref k0), (1, .int x1), (2, .int x2), (3, .int x3), (5, .int x5), (6, .int x6), (7, .int x7)] [.int s0] 201 := by
  unfold f_X12_bring_201 at hf
  refine V_istore (L' := [(4, .int s0), (0, .ref k0), (1, .int x1), (2, .int x2), (3, .int x3), (5, .int x5), (6, .int x6), (7, .int x7)]) dX12_bring_201 (Nat.le_of_ble_eq_true rfl) rfl rfl ?_
  obtain ⟨x7_1, e_2, hf⟩ := nm_s hf
  refine V_iinc (a := 1) (L' := [(7, .int x7_1), (4, .int s0), (0, .ref k0), (1, .int x1), (2, .int x2), (3, .int x3), (5, .int x5), (6, .int x6)]) 7 dX12_bring_203 rfl (by decide) (Nat.le_of_ble_eq_true rfl) e_2 rfl ?_
  refine V_goto (tgt := 165) dX12_bring_206 (by decide) ?_
  refine V_sub [2, 3, 4, 5, 1, 6, 7, 0] rfl ?_
  exact cq165 _ _ _ _ _ _ _ _ _ hf t_k0
set_option maxHeartbeats 4000000 in
set_option maxRecDepth 100000 in
theorem v_X12_bring_196 {E : EV} {d : Nat} (hd : 1462 ≤ d) {r0 : Int32} {h0 : AH} {q165 : Nat → Int32 → Int32 → Int32 → Int32 → Int32 → Int32 → Int32 → AH → Option (Int32 × AH)} (cq165 : ∀ (k0 : Nat) (x1 : Int32) (x2 : Int32) (x3 : Int32) (x4 : Int32) (x5 : Int32) (x6 : Int32) (x7 : Int32) (h : AH), q165 k0 x1 x2 x3 x4 x5 x6 x7 h = some (r0, h0) → kd k0 = (0, 12) → V E (d + 1) K_X12_bring (ZI E r0 h0) h [(0, .ref k0), (1, .int x1), (2, .int x2), (3, .int x3), (4, .int x4), (5, .int x5), (6, .int x6), (7, .int x7)] [] 165) {k0 : Nat} {x1 : Int32} {x2 : Int32} {x3 : Int32} {x5 : Int32} {x6 : Int32} {x7 : Int32} {h : AH} (hf : f_X12_bring_196 q165 k0 x1 x2 x3 x5 x6 x7 h = some (r0, h0)) (t_k0 : kd k0 = (0, 12)) : V E (d + 1) K_X12_bring (ZI E r0 h0) h [(0, .ref k0), (1, .int x1), (2, .int x2), (3, .int x3), (5, .int x5), (6, .int x6), (7, .int x7)] [] 196 := by
  unfold f_X12_bring_196 at hf
  refine V_iconst (v := 1) dX12_bring_196 (by decide) ?_
  refine V_goto (tgt := 201) dX12_bring_197 (by decide) ?_
  exact v_X12_bring_201 hd cq165 hf t_k0
set_option maxHeartbeats 4000000 in
set_option maxRecDepth 100000 in
theorem v_X12_bring_165 {E : EV} {d : Nat} (hd : 1462 ≤ d) {r0 : Int32} {h0 : AH} {q134 : Nat → Int32 → Int32 → Int32 → Int32 → Int32 → Int32 → AH → Option (Int32 × AH)} (cq134 : ∀ (k0 : Nat) (x1 : Int32) (x2 : Int32) (x3 : Int32) (x4 : Int32) (x5 : Int32) (x6 : Int32) (h : AH), q134 k0 x1 x2 x3 x4 x5 x6 h = some (r0, h0) → kd k0 = (0, 12) → V E (d + 1) K_X12_bring (ZI E r0 h0) h [(0, .ref k0), (1, .int x1), (2, .int x2), (3, .int x3), (4, .int x4), (5, .int x5), (6, .int x6)] [] 134) : ∀ (n : Nat) (k0 : Nat) (x1 : Int32) (x2 : Int32) (x3 : Int32) (x4 : Int32) (x5 : Int32) (x6 : Int32) (x7 : Int32) (h : AH), f_X12_bring_165 q134 n k0 x1 x2 x3 x4 x5 x6 x7 h = some (r0, h0) → kd k0 = (0, 12) → V E (d + 1) K_X12_bring (ZI E r0 h0) h [(0, .ref k0), (1, .int x1), (2, .int x2), (3, .int x3), (4, .int x4), (5, .int x5), (6, .int x6), (7, .int x7)] [] 165 := by
  intro n
  induction n with
  | zero =>
    intro k0 x1 x2 x3 x4 x5 x6 x7 h hf
    rw [f_X12_bring_165] at hf
    cases hf
  | succ n ih =>
    intro k0 x1 x2 x3 x4 x5 x6 x7 h hf t_k0
    rw [f_X12_bring_165] at hf
    refine V_iload 7 dX12_bring_165 rfl ?_
    refine V_iconst (v := 1) dX12_bring_167 (by decide) ?_
    refine V_aload_n 0 dX12_bring_168 rfl rfl ?_
    refine V_getI F_X12_283 rfl t_k0 rfl dX12_bring_169 ?_
    refine V_ishl dX12_bring_172 ?_
    refine V_ic_ge (tgt := 209) dX12_bring_173 (by decide) (fun c_1 => ?_) (fun c_1 => ?_)
    · have hf := it_s c_1 hf
      refine V_sub [0, 1, 2, 3, 4, 5, 6] rfl ?_
      exact v_X12_bring_209 hd cq134 hf t_k0
    · have hf := if_s c_1 hf
      refine V_aload_n 0 dX12_bring_176 rfl rfl ?_
      refine V_iload 6 dX12_bring_177 rfl ?_
      refine V_iload 7 dX12_bring_179 rfl ?_
      refine V_iload 5 dX12_bring_181 rfl ?_
      refine V_iconst (v := 1) dX12_bring_183 (by decide) ?_
      refine V_iadd dX12_bring_184 ?_
      obtain ⟨r_4, h_3, e_2, hf⟩ := ob_s hf
      refine V_cvi (As := [.int x6, .int x7, .int (x5 + 1)]) (rest := []) (c_X12_comes (d := d) (Nat.le_trans (Nat.le_of_ble_eq_true rfl) hd) e_2 t_k0) ML_X12_453 MV_X12_comes rfl t_k0 rfl rfl (Nat.le_of_ble_eq_true rfl) dX12_bring_185 ?_
      refine V_if_ne (tgt := 196) dX12_bring_188 (by decide) (fun c_5 => ?_) (fun c_5 => ?_)
      · have hf := if_s c_5 hf
        refine V_sub [0, 1, 2, 3, 5, 6, 7] rfl ?_
        exact v_X12_bring_196 hd ih hf t_k0
      · have hf := it_s c_5 hf
        refine V_iload 4 dX12_bring_191 rfl ?_
        refine V_if_eq (tgt := 200) dX12_bring_193 (by decide) (fun c_6 => ?_) (fun c_6 => ?_)
        · have hf := it_s c_6 hf
          refine V_iconst (v := 0) dX12_bring_200 (by decide) ?_
          refine V_sub [0, 1, 2, 3, 5, 6, 7] rfl ?_
          exact v_X12_bring_201 hd ih hf t_k0
        · have hf := if_s c_6 hf
          refine V_sub [0, 1, 2, 3, 5, 6, 7] rfl ?_
          exact v_X12_bring_196 hd ih hf t_k0
set_option maxHeartbeats 4000000 in
set_option maxRecDepth 100000 in
theorem v_X12_bring_215 {E : EV} {d : Nat} (hd : 1462 ≤ d) {r0 : Int32} {h0 : AH} {q75 : Nat → Int32 → Int32 → Int32 → Int32 → Int32 → AH → Option (Int32 × AH)} (cq75 : ∀ (k0 : Nat) (x1 : Int32) (x2 : Int32) (x3 : Int32) (x4 : Int32) (x5 : Int32) (h : AH), q75 k0 x1 x2 x3 x4 x5 h = some (r0, h0) → kd k0 = (0, 12) → V E (d + 1) K_X12_bring (ZI E r0 h0) h [(0, .ref k0), (1, .int x1), (2, .int x2), (3, .int x3), (4, .int x4), (5, .int x5)] [] 75) {k0 : Nat} {x1 : Int32} {x2 : Int32} {x3 : Int32} {x4 : Int32} {x5 : Int32} {h : AH} (hf : f_X12_bring_215 q75 k0 x1 x2 x3 x4 x5 h = some (r0, h0)) (t_k0 : kd k0 = (0, 12)) : V E (d + 1) K_X12_bring (ZI E r0 h0) h [(0, .ref k0), (1, .int x1), (2, .int x2), (3, .int x3), (4, .int x4), (5, .int x5)] [] 215 := by
  unfold f_X12_bring_215 at hf
  obtain ⟨x5_1, e_2, hf⟩ := nm_s hf
  refine V_iinc (a := 1) (L' := [(5, .int x5_1), (0, .ref k0), (1, .int x1), (2, .int x2), (3, .int x3), (4, .int x4)]) 5 dX12_bring_215 rfl (by decide) (Nat.le_of_ble_eq_true rfl) e_2 rfl ?_
  refine V_goto (tgt := 75) dX12_bring_218 (by decide) ?_
  refine V_sub [1, 2, 3, 4, 5, 0] rfl ?_
  exact cq75 _ _ _ _ _ _ _ hf t_k0
set_option maxHeartbeats 4000000 in
set_option maxRecDepth 100000 in
theorem v_X12_bring_134 {E : EV} {d : Nat} (hd : 1462 ≤ d) {r0 : Int32} {h0 : AH} {q75 : Nat → Int32 → Int32 → Int32 → Int32 → Int32 → AH → Option (Int32 × AH)} (cq75 : ∀ (k0 : Nat) (x1 : Int32) (x2 : Int32) (x3 : Int32) (x4 : Int32) (x5 : Int32) (h : AH), q75 k0 x1 x2 x3 x4 x5 h = some (r0, h0) → kd k0 = (0, 12) → V E (d + 1) K_X12_bring (ZI E r0 h0) h [(0, .ref k0), (1, .int x1), (2, .int x2), (3, .int x3), (4, .int x4), (5, .int x5)] [] 75) : ∀ (n : Nat) (k0 : Nat) (x1 : Int32) (x2 : Int32) (x3 : Int32) (x4 : Int32) (x5 : Int32) (x6 : Int32) (h : AH), f_X12_bring_134 q75 n k0 x1 x2 x3 x4 x5 x6 h = some (r0, h0) → kd k0 = (0, 12) → V E (d + 1) K_X12_bring (ZI E r0 h0) h [(0, .ref k0), (1, .int x1), (2, .int x2), (3, .int x3), (4, .int x4), (5, .int x5), (6, .int x6)] [] 134 := by
  intro n
  induction n with
  | zero =>
    intro k0 x1 x2 x3 x4 x5 x6 h hf
    rw [f_X12_bring_134] at hf
    cases hf
  | succ n ih =>
    intro k0 x1 x2 x3 x4 x5 x6 h hf t_k0
    rw [f_X12_bring_134] at hf
    refine V_iload 6 dX12_bring_134 rfl ?_
    refine V_sipush (v := 625) dX12_bring_136 (by decide) ?_
    refine V_ic_ge (tgt := 215) dX12_bring_139 (by decide) (fun c_1 => ?_) (fun c_1 => ?_)
    · have hf := it_s c_1 hf
      refine V_sub [0, 1, 2, 3, 4, 5] rfl ?_
      exact v_X12_bring_215 hd cq75 hf t_k0
    · have hf := if_s c_1 hf
      refine V_iload_n 3 dX12_bring_142 rfl rfl ?_
      refine V_iconst (v := (-1)) dX12_bring_143 (by decide) ?_
      refine V_ic_ne (tgt := 215) dX12_bring_144 (by decide) (fun c_2 => ?_) (fun c_2 => ?_)
      · have hf := if_s c_2 hf
        refine V_sub [0, 1, 2, 3, 4, 5] rfl ?_
        exact v_X12_bring_215 hd cq75 hf t_k0
      · have hf := it_s c_2 hf
        refine V_aload_n 0 dX12_bring_147 rfl rfl ?_
        refine V_getR F_X12_81 rfl t_k0 rfl dX12_bring_148 ?_
        refine V_iload 6 dX12_bring_151 rfl ?_
        obtain ⟨b_3, hf⟩ := og_s hf
        refine V_iald (rfA t_k0 (Nat.le_of_ble_eq_true rfl) rfl rfl (by decide)) b_3 dX12_bring_153 ?_
        refine V_iload 5 dX12_bring_154 rfl ?_
        refine V_ic_eq (tgt := 162) dX12_bring_156 (by decide) (fun c_4 => ?_) (fun c_4 => ?_)
        · have hf := it_s c_4 hf
          refine V_iconst (v := 1) dX12_bring_162 (by decide) ?_
          refine V_istore (L' := [(7, .int 1), (0, .ref k0), (1, .int x1), (2, .int x2), (3, .int x3), (4, .int x4), (5, .int x5), (6, .int x6)]) dX12_bring_163 (Nat.le_of_ble_eq_true rfl) rfl rfl ?_
          refine V_sub [1, 2, 3, 4, 5, 6, 7, 0] rfl ?_
          exact v_X12_bring_165 hd ih FU _ _ _ _ _ _ _ _ _ hf t_k0
        · have hf := if_s c_4 hf
          refine V_goto (tgt := 209) dX12_bring_159 (by decide) ?_
          exact v_X12_bring_209 hd ih hf t_k0
set_option maxHeartbeats 4000000 in
set_option maxRecDepth 100000 in
theorem v_X12_bring_91 {E : EV} {d : Nat} (hd : 1462 ≤ d) {r0 : Int32} {h0 : AH} {q75 : Nat → Int32 → Int32 → Int32 → Int32 → Int32 → AH → Option (Int32 × AH)} (cq75 : ∀ (k0 : Nat) (x1 : Int32) (x2 : Int32) (x3 : Int32) (x4 : Int32) (x5 : Int32) (h : AH), q75 k0 x1 x2 x3 x4 x5 h = some (r0, h0) → kd k0 = (0, 12) → V E (d + 1) K_X12_bring (ZI E r0 h0) h [(0, .ref k0), (1, .int x1), (2, .int x2), (3, .int x3), (4, .int x4), (5, .int x5)] [] 75) : ∀ (n : Nat) (k0 : Nat) (x1 : Int32) (x2 : Int32) (x3 : Int32) (x4 : Int32) (x5 : Int32) (x6 : Int32) (h : AH), f_X12_bring_91 q75 n k0 x1 x2 x3 x4 x5 x6 h = some (r0, h0) → kd k0 = (0, 12) → V E (d + 1) K_X12_bring (ZI E r0 h0) h [(0, .ref k0), (1, .int x1), (2, .int x2), (3, .int x3), (4, .int x4), (5, .int x5), (6, .int x6)] [] 91 := by
  intro n
  induction n with
  | zero =>
    intro k0 x1 x2 x3 x4 x5 x6 h hf
    rw [f_X12_bring_91] at hf
    cases hf
  | succ n ih =>
    intro k0 x1 x2 x3 x4 x5 x6 h hf t_k0
    rw [f_X12_bring_91] at hf
    refine V_iload 6 dX12_bring_91 rfl ?_
    refine V_sipush (v := 625) dX12_bring_93 (by decide) ?_
    refine V_ic_ge (tgt := 131) dX12_bring_96 (by decide) (fun c_1 => ?_) (fun c_1 => ?_)
    · have hf := it_s c_1 hf
      refine V_iconst (v := 0) dX12_bring_131 (by decide) ?_
      refine V_istore (L' := [(6, .int 0), (0, .ref k0), (1, .int x1), (2, .int x2), (3, .int x3), (4, .int x4), (5, .int x5)]) dX12_bring_132 (Nat.le_of_ble_eq_true rfl) rfl rfl ?_
      refine V_sub [1, 2, 3, 4, 5, 6, 0] rfl ?_
      exact v_X12_bring_134 hd cq75 FU _ _ _ _ _ _ _ _ hf t_k0
    · have hf := if_s c_1 hf
      refine V_aload_n 0 dX12_bring_99 rfl rfl ?_
      refine V_getR F_X12_81 rfl t_k0 rfl dX12_bring_100 ?_
      refine V_iload 6 dX12_bring_103 rfl ?_
      obtain ⟨b_2, hf⟩ := og_s hf
      refine V_iald (rfA t_k0 (Nat.le_of_ble_eq_true rfl) rfl rfl (by decide)) b_2 dX12_bring_105 ?_
      refine V_iload 5 dX12_bring_106 rfl ?_
      refine V_ic_ne (tgt := 125) dX12_bring_108 (by decide) (fun c_3 => ?_) (fun c_3 => ?_)
      · have hf := if_s c_3 hf
        exact v_X12_bring_125 hd ih hf t_k0
      · have hf := it_s c_3 hf
        refine V_aload_n 0 dX12_bring_111 rfl rfl ?_
        refine V_iload 6 dX12_bring_112 rfl ?_
        refine V_iload_n 1 dX12_bring_114 rfl rfl ?_
        obtain ⟨r_6, h_5, e_4, hf⟩ := ob_s hf
        refine V_cvi (As := [.int x6, .int x1]) (rest := []) (c_X12_hadBy (d := d) (Nat.le_trans (Nat.le_of_ble_eq_true rfl) hd) e_4 t_k0) ML_X12_450 MV_X12_hadBy rfl t_k0 rfl rfl (Nat.le_of_ble_eq_true rfl) dX12_bring_115 ?_
        refine V_iload_n 2 dX12_bring_118 rfl rfl ?_
        refine V_ic_ne (tgt := 125) dX12_bring_119 (by decide) (fun c_7 => ?_) (fun c_7 => ?_)
        · have hf := if_s c_7 hf
          exact v_X12_bring_125 hd ih hf t_k0
        · have hf := it_s c_7 hf
          refine V_iload 5 dX12_bring_122 rfl ?_
          refine V_istore_n (L' := [(3, .int x5), (0, .ref k0), (1, .int x1), (2, .int x2), (4, .int x4), (5, .int x5), (6, .int x6)]) dX12_bring_124 rfl (Nat.le_of_ble_eq_true rfl) rfl rfl ?_
          refine V_sub [1, 2, 3, 0, 4, 5, 6] rfl ?_
          exact v_X12_bring_125 hd ih hf t_k0
set_option maxHeartbeats 4000000 in
set_option maxRecDepth 100000 in
theorem v_X12_bring_221 {E : EV} {d : Nat} (hd : 1462 ≤ d) {r0 : Int32} {h0 : AH} {k0 : Nat} {x3 : Int32} {h : AH} (hf : f_X12_bring_221 k0 x3 h = some (r0, h0)) (t_k0 : kd k0 = (0, 12)) : V E (d + 1) K_X12_bring (ZI E r0 h0) h [(0, .ref k0), (3, .int x3)] [] 221 := by
  unfold f_X12_bring_221 at hf
  refine V_aload_n 0 dX12_bring_221 rfl rfl ?_
  obtain ⟨h_2, e_1, hf⟩ := ov_s hf
  refine V_cvv (As := []) (rest := []) (c_X12_putBackHaving (d := d) (Nat.le_trans (Nat.le_of_ble_eq_true rfl) hd) e_1 t_k0) ML_X12_456 MV_X12_putBackHaving rfl t_k0 rfl rfl (Nat.le_of_ble_eq_true rfl) dX12_bring_222 ?_
  refine V_iload_n 1 dX12_bring_225 rfl rfl ?_
  exact V_iret rfl (so_s hf) dX12_bring_226
set_option maxHeartbeats 4000000 in
set_option maxRecDepth 100000 in
theorem v_X12_bring_75 {E : EV} {d : Nat} (hd : 1462 ≤ d) {r0 : Int32} {h0 : AH} : ∀ (n : Nat) (k0 : Nat) (x1 : Int32) (x2 : Int32) (x3 : Int32) (x4 : Int32) (x5 : Int32) (h : AH), f_X12_bring_75 n k0 x1 x2 x3 x4 x5 h = some (r0, h0) → kd k0 = (0, 12) → V E (d + 1) K_X12_bring (ZI E r0 h0) h [(0, .ref k0), (1, .int x1), (2, .int x2), (3, .int x3), (4, .int x4), (5, .int x5)] [] 75 := by
  intro n
  induction n with
  | zero =>
    intro k0 x1 x2 x3 x4 x5 h hf
    rw [f_X12_bring_75] at hf
    cases hf
  | succ n ih =>
    intro k0 x1 x2 x3 x4 x5 h hf t_k0
    rw [f_X12_bring_75] at hf
    refine V_iload 4 dX12_bring_75 rfl ?_
    refine V_if_eq (tgt := 221) dX12_bring_77 (by decide) (fun c_1 => ?_) (fun c_1 => ?_)
    · have hf := it_s c_1 hf
      refine V_sub [0, 3] rfl ?_
      exact v_X12_bring_221 hd hf t_k0
    · have hf := if_s c_1 hf
      refine V_iload_n 3 dX12_bring_80 rfl rfl ?_
      refine V_iconst (v := (-1)) dX12_bring_81 (by decide) ?_
      refine V_ic_ne (tgt := 221) dX12_bring_82 (by decide) (fun c_2 => ?_) (fun c_2 => ?_)
      · have hf := if_s c_2 hf
        refine V_sub [0, 3] rfl ?_
        exact v_X12_bring_221 hd hf t_k0
      · have hf := it_s c_2 hf
        refine V_iconst (v := 0) dX12_bring_85 (by decide) ?_
        refine V_istore (L' := [(4, .int 0), (0, .ref k0), (1, .int x1), (2, .int x2), (3, .int x3), (5, .int x5)]) dX12_bring_86 (Nat.le_of_ble_eq_true rfl) rfl rfl ?_
        refine V_iconst (v := 0) dX12_bring_88 (by decide) ?_
        refine V_istore (L' := [(6, .int 0), (4, .int 0), (0, .ref k0), (1, .int x1), (2, .int x2), (3, .int x3), (5, .int x5)]) dX12_bring_89 (Nat.le_of_ble_eq_true rfl) rfl rfl ?_
        refine V_sub [2, 3, 4, 5, 1, 6, 0] rfl ?_
        exact v_X12_bring_91 hd ih FU _ _ _ _ _ _ _ _ hf t_k0
set_option maxHeartbeats 4000000 in
set_option maxRecDepth 100000 in
theorem v_X12_bring_37 {E : EV} {d : Nat} (hd : 1462 ≤ d) {r0 : Int32} {h0 : AH} : ∀ (n : Nat) (k0 : Nat) (x1 : Int32) (x2 : Int32) (x3 : Int32) (h : AH), f_X12_bring_37 n k0 x1 x2 x3 h = some (r0, h0) → kd k0 = (0, 12) → V E (d + 1) K_X12_bring (ZI E r0 h0) h [(0, .ref k0), (1, .int x1), (2, .int x2), (3, .int x3)] [] 37 := by
  intro n
  induction n with
  | zero =>
    intro k0 x1 x2 x3 h hf
    rw [f_X12_bring_37] at hf
    cases hf
  | succ n ih =>
    intro k0 x1 x2 x3 h hf t_k0
    rw [f_X12_bring_37] at hf
    refine V_iload_n 3 dX12_bring_37 rfl rfl ?_
    refine V_sipush (v := 625) dX12_bring_38 (by decide) ?_
    refine V_ic_ge (tgt := 57) dX12_bring_41 (by decide) (fun c_1 => ?_) (fun c_1 => ?_)
    · have hf := it_s c_1 hf
      refine V_aload_n 0 dX12_bring_57 rfl rfl ?_
      refine V_getR F_X12_81 rfl t_k0 rfl dX12_bring_58 ?_
      refine V_aload_n 0 dX12_bring_61 rfl rfl ?_
      obtain ⟨r_4, h_3, e_2, hf⟩ := ob_s hf
      refine V_cvi (As := []) (rest := [.ref (rf k0 39)]) (c_X12_havingNow (d := d) (Nat.le_trans (Nat.le_of_ble_eq_true rfl) hd) e_2 t_k0) ML_X12_413 MV_X12_havingNow rfl t_k0 rfl rfl (Nat.le_of_ble_eq_true rfl) dX12_bring_62 ?_
      refine V_iconst (v := 0) dX12_bring_65 (by decide) ?_
      obtain ⟨b_5, hf⟩ := og_s hf
      obtain ⟨h_6, e_7, hf⟩ := nm_s hf
      refine V_iast (rfA t_k0 (Nat.le_of_ble_eq_true rfl) rfl rfl (by decide)) b_5 e_7 dX12_bring_66 ?_
      refine V_iconst (v := (-1)) dX12_bring_67 (by decide) ?_
      refine V_istore_n (L' := [(3, .int (-1)), (0, .ref k0), (1, .int x1), (2, .int x2)]) dX12_bring_68 rfl (Nat.le_of_ble_eq_true rfl) rfl rfl ?_
      refine V_iconst (v := 1) dX12_bring_69 (by decide) ?_
      refine V_istore (L' := [(4, .int 1), (3, .int (-1)), (0, .ref k0), (1, .int x1), (2, .int x2)]) dX12_bring_70 (Nat.le_of_ble_eq_true rfl) rfl rfl ?_
      refine V_iconst (v := 0) dX12_bring_72 (by decide) ?_
      refine V_istore (L' := [(5, .int 0), (4, .int 1), (3, .int (-1)), (0, .ref k0), (1, .int x1), (2, .int x2)]) dX12_bring_73 (Nat.le_of_ble_eq_true rfl) rfl rfl ?_
      refine V_sub [3, 4, 5, 2, 1, 0] rfl ?_
      exact v_X12_bring_75 hd FU _ _ _ _ _ _ _ hf t_k0
    · have hf := if_s c_1 hf
      refine V_aload_n 0 dX12_bring_44 rfl rfl ?_
      refine V_getR F_X12_81 rfl t_k0 rfl dX12_bring_45 ?_
      refine V_iload_n 3 dX12_bring_48 rfl rfl ?_
      refine V_iconst (v := (-1)) dX12_bring_49 (by decide) ?_
      obtain ⟨b_8, hf⟩ := og_s hf
      obtain ⟨h_9, e_10, hf⟩ := nm_s hf
      refine V_iast (rfA t_k0 (Nat.le_of_ble_eq_true rfl) rfl rfl (by decide)) b_8 e_10 dX12_bring_50 ?_
      obtain ⟨x3_11, e_12, hf⟩ := nm_s hf
      refine V_iinc (a := 1) (L' := [(3, .int x3_11), (0, .ref k0), (1, .int x1), (2, .int x2)]) 3 dX12_bring_51 rfl (by decide) (Nat.le_of_ble_eq_true rfl) e_12 rfl ?_
      refine V_goto (tgt := 37) dX12_bring_54 (by decide) ?_
      refine V_sub [1, 2, 3, 0] rfl ?_
      exact ih _ _ _ _ _ hf t_k0
set_option maxHeartbeats 4000000 in
set_option maxRecDepth 100000 in
theorem c_X12_bring {E : EV} {d : Nat} (hd : 1462 + 1 ≤ d) {k0 : Nat} {x1 : Int32} {x2 : Int32} {h : AH} {r0 : Int32} {h0 : AH} (hf : f_X12_bring k0 x1 x2 h = some (r0, h0)) (t_k0 : kd k0 = (0, 12)) : Con E d K_X12_bring (ZI E r0 h0) [.ref k0, .int x1, .int x2] h := by
  obtain ⟨d, rfl⟩ : ∃ d', d = d' + 1 := ⟨d - 1, by omega⟩
  have hd := Nat.le_of_succ_le_succ hd
  refine Con.ofV rfl (Nat.le_of_ble_eq_true rfl) ?_
  unfold f_X12_bring at hf
  show V E (d + 1) K_X12_bring (ZI E r0 h0) h [(0, .ref k0), (1, .int x1), (2, .int x2)] [] 0
  refine V_aload_n 0 dX12_bring_0 rfl rfl ?_
  refine V_iconst (v := 0) dX12_bring_1 (by decide) ?_
  obtain ⟨h_1, e_2, hf⟩ := nm_s hf
  refine V_putI P_X12_120 rfl t_k0 rfl e_2 dX12_bring_2 ?_
  refine V_aload_n 0 dX12_bring_5 rfl rfl ?_
  refine V_getI F_X12_283 rfl t_k0 rfl dX12_bring_6 ?_
  refine V_iconst (v := 4) dX12_bring_9 (by decide) ?_
  refine V_ic_gt (tgt := 29) dX12_bring_10 (by decide) (fun c_3 => ?_) (fun c_3 => ?_)
  · have hf := it_s c_3 hf
    refine V_sub [] rfl ?_
    exact v_X12_bring_29 hd hf
  · have hf := if_s c_3 hf
    refine V_aload_n 0 dX12_bring_13 rfl rfl ?_
    refine V_iload_n 1 dX12_bring_14 rfl rfl ?_
    obtain ⟨r_6, h_5, e_4, hf⟩ := ob_s hf
    refine V_cvi (As := [.int x1]) (rest := []) (c_X12_isPerson (d := d) (Nat.le_trans (Nat.le_of_ble_eq_true rfl) hd) e_4 t_k0) ML_X12_295 MV_X12_isPerson rfl t_k0 rfl rfl (Nat.le_of_ble_eq_true rfl) dX12_bring_15 ?_
    refine V_if_eq (tgt := 29) dX12_bring_18 (by decide) (fun c_7 => ?_) (fun c_7 => ?_)
    · have hf := it_s c_7 hf
      refine V_sub [] rfl ?_
      exact v_X12_bring_29 hd hf
    · have hf := if_s c_7 hf
      refine V_aload_n 0 dX12_bring_21 rfl rfl ?_
      refine V_iload_n 2 dX12_bring_22 rfl rfl ?_
      obtain ⟨r_10, h_9, e_8, hf⟩ := ob_s hf
      refine V_cvi (As := [.int x2]) (rest := []) (c_X12_isPerson (d := d) (Nat.le_trans (Nat.le_of_ble_eq_true rfl) hd) e_8 t_k0) ML_X12_295 MV_X12_isPerson rfl t_k0 rfl rfl (Nat.le_of_ble_eq_true rfl) dX12_bring_23 ?_
      refine V_if_ne (tgt := 31) dX12_bring_26 (by decide) (fun c_11 => ?_) (fun c_11 => ?_)
      · have hf := if_s c_11 hf
        refine V_aload_n 0 dX12_bring_31 rfl rfl ?_
        obtain ⟨h_13, e_12, hf⟩ := ov_s hf
        refine V_cvv (As := []) (rest := []) (c_X12_keepHaving (d := d) (Nat.le_trans (Nat.le_of_ble_eq_true rfl) hd) e_12 t_k0) ML_X12_447 MV_X12_keepHaving rfl t_k0 rfl rfl (Nat.le_of_ble_eq_true rfl) dX12_bring_32 ?_
        refine V_iconst (v := 0) dX12_bring_35 (by decide) ?_
        refine V_istore_n (L' := [(3, .int 0), (0, .ref k0), (1, .int x1), (2, .int x2)]) dX12_bring_36 rfl (Nat.le_of_ble_eq_true rfl) rfl rfl ?_
        refine V_sub [1, 2, 3, 0] rfl ?_
        exact v_X12_bring_37 hd FU _ _ _ _ _ hf t_k0
      · have hf := it_s c_11 hf
        refine V_sub [] rfl ?_
        exact v_X12_bring_29 hd hf
theorem dX12_bytesIn_0 : decode cX12_bytesIn 0 = .ok (.iconst 0, 1) := by decide +kernel
theorem dX12_bytesIn_1 : decode cX12_bytesIn 1 = .ok (.istore_n 1, 1) := by decide +kernel
theorem dX12_bytesIn_2 : decode cX12_bytesIn 2 = .ok (.bipush 24, 2) := by decide +kernel
theorem dX12_bytesIn_4 : decode cX12_bytesIn 4 = .ok (.istore_n 2, 1) := by decide +kernel
theorem dX12_bytesIn_5 : decode cX12_bytesIn 5 = .ok (.iload_n 2, 1) := by decide +kernel
theorem dX12_bytesIn_6 : decode cX12_bytesIn 6 = .ok (.ifCond .lt 27, 3) := by decide +kernel
theorem dX12_bytesIn_9 : decode cX12_bytesIn 9 = .ok (.iload_n 1, 1) := by decide +kernel
theorem dX12_bytesIn_10 : decode cX12_bytesIn 10 = .ok (.iload_n 0, 1) := by decide +kernel
theorem dX12_bytesIn_11 : decode cX12_bytesIn 11 = .ok (.iload_n 2, 1) := by decide +kernel
theorem dX12_bytesIn_12 : decode cX12_bytesIn 12 = .ok (.ishr, 1) := by decide +kernel
theorem dX12_bytesIn_13 : decode cX12_bytesIn 13 = .ok (.sipush 255, 3) := by decide +kernel
theorem dX12_bytesIn_16 : decode cX12_bytesIn 16 = .ok (.iand, 1) := by decide +kernel
theorem dX12_bytesIn_17 : decode cX12_bytesIn 17 = .ok (.ifCond .eq 7, 3) := by decide +kernel
theorem dX12_bytesIn_20 : decode cX12_bytesIn 20 = .ok (.iconst 1, 1) := by decide +kernel
theorem dX12_bytesIn_21 : decode cX12_bytesIn 21 = .ok (.goto 4, 3) := by decide +kernel
theorem dX12_bytesIn_24 : decode cX12_bytesIn 24 = .ok (.iconst 0, 1) := by decide +kernel
theorem dX12_bytesIn_25 : decode cX12_bytesIn 25 = .ok (.iadd, 1) := by decide +kernel
theorem dX12_bytesIn_26 : decode cX12_bytesIn 26 = .ok (.istore_n 1, 1) := by decide +kernel
theorem dX12_bytesIn_27 : decode cX12_bytesIn 27 = .ok (.iinc 2 (-8), 3) := by decide +kernel
theorem dX12_bytesIn_30 : decode cX12_bytesIn 30 = .ok (.goto (-25), 3) := by decide +kernel
theorem dX12_bytesIn_33 : decode cX12_bytesIn 33 = .ok (.iload_n 1, 1) := by decide +kernel
theorem dX12_bytesIn_34 : decode cX12_bytesIn 34 = .ok (.ireturn, 1) := by decide +kernel
def f_X12_bytesIn_25 (q5 : Int32 → Int32 → Int32 → AH → Option (Int32 × AH)) (x0 : Int32) (x2 : Int32) (s0 : Int32) (s1 : Int32) (h : AH) : Option (Int32 × AH) :=
  nm ((s1 + s0)) fun x1_1 =>
  nm (x2 + (-8)) fun x2_3 =>
  q5 x0 x1_1 x2_3 h
def f_X12_bytesIn_5 : Nat → Int32 → Int32 → Int32 → AH → Option (Int32 × AH)
  | 0, _, _, _, _ => none
  | n + 1, x0, x1, x2, h =>
    if x2 < 0 then (
      some (x1, h)
    ) else (
      if ((x0 >>> (x2 &&& 31)) &&& 255) = 0 then (
        f_X12_bytesIn_25 (f_X12_bytesIn_5 n) x0 x2 0 x1 h
      ) else (
        f_X12_bytesIn_25 (f_X12_bytesIn_5 n) x0 x2 1 x1 h
      )
    )
def f_X12_bytesIn (x0 : Int32) (h : AH) : Option (Int32 × AH) :=
  f_X12_bytesIn_5 FU x0 0 24 h
set_option maxHeartbeats 4000000 in
set_option maxRecDepth 100000 in
theorem v_X12_bytesIn_25 {E : EV} {d : Nat} (hd : 0 ≤ d) {r0 : Int32} {h0 : AH} {q5 : Int32 → Int32 → Int32 → AH → Option (Int32 × AH)} (cq5 : ∀ (x0 : Int32) (x1 : Int32) (x2 : Int32) (h : AH), q5 x0 x1 x2 h = some (r0, h0) → V E (d + 1) K_X12_bytesIn (ZI E r0 h0) h [(0, .int x0), (1, .int x1), (2, .int x2)] [] 5) {x0 : Int32} {x2 : Int32} {s0 : Int32} {s1 : Int32} {h : AH} (hf : f_X12_bytesIn_25 q5 x0 x2 s0 s1 h = some (r0, h0)) : V E (d + 1) K_X12_bytesIn (ZI E r0 h0) h [(0, .int x0), (2, .int x2)] [.int s0, .int s1] 25 := by
  unfold f_X12_bytesIn_25 at hf
  refine V_iadd dX12_bytesIn_25 ?_
  obtain ⟨x1_1, e_2, hf⟩ := nm_s hf
  refine V_istore_n (L' := [(1, .int x1_1), (0, .int x0), (2, .int x2)]) dX12_bytesIn_26 rfl (Nat.le_of_ble_eq_true rfl) e_2 rfl ?_
  obtain ⟨x2_3, e_4, hf⟩ := nm_s hf
  refine V_iinc (a := (-8)) (L' := [(2, .int x2_3), (1, .int x1_1), (0, .int x0)]) 2 dX12_bytesIn_27 rfl (by decide) (Nat.le_of_ble_eq_true rfl) e_4 rfl ?_
  refine V_goto (tgt := 5) dX12_bytesIn_30 (by decide) ?_
  refine V_sub [2, 1, 0] rfl ?_
  exact cq5 _ _ _ _ hf
set_option maxHeartbeats 4000000 in
set_option maxRecDepth 100000 in
theorem v_X12_bytesIn_5 {E : EV} {d : Nat} (hd : 0 ≤ d) {r0 : Int32} {h0 : AH} : ∀ (n : Nat) (x0 : Int32) (x1 : Int32) (x2 : Int32) (h : AH), f_X12_bytesIn_5 n x0 x1 x2 h = some (r0, h0) → V E (d + 1) K_X12_bytesIn (ZI E r0 h0) h [(0, .int x0), (1, .int x1), (2, .int x2)] [] 5 := by
  intro n
  induction n with
  | zero =>
    intro x0 x1 x2 h hf
    rw [f_X12_bytesIn_5] at hf
    cases hf
  | succ n ih =>
    intro x0 x1 x2 h hf
    rw [f_X12_bytesIn_5] at hf
    refine V_iload_n 2 dX12_bytesIn_5 rfl rfl ?_
    refine V_if_lt (tgt := 33) dX12_bytesIn_6 (by decide) (fun c_1 => ?_) (fun c_1 => ?_)
    · have hf := it_s c_1 hf
      refine V_iload_n 1 dX12_bytesIn_33 rfl rfl ?_
      exact V_iret rfl (so_s hf) dX12_bytesIn_34
    · have hf := if_s c_1 hf
      refine V_iload_n 1 dX12_bytesIn_9 rfl rfl ?_
      refine V_iload_n 0 dX12_bytesIn_10 rfl rfl ?_
      refine V_iload_n 2 dX12_bytesIn_11 rfl rfl ?_
      refine V_ishr dX12_bytesIn_12 ?_
      refine V_sipush (v := 255) dX12_bytesIn_13 (by decide) ?_
      refine V_iand dX12_bytesIn_16 ?_
      refine V_if_eq (tgt := 24) dX12_bytesIn_17 (by decide) (fun c_2 => ?_) (fun c_2 => ?_)
      · have hf := it_s c_2 hf
        refine V_iconst (v := 0) dX12_bytesIn_24 (by decide) ?_
        refine V_sub [0, 2] rfl ?_
        exact v_X12_bytesIn_25 hd ih hf
      · have hf := if_s c_2 hf
        refine V_iconst (v := 1) dX12_bytesIn_20 (by decide) ?_
        refine V_goto (tgt := 25) dX12_bytesIn_21 (by decide) ?_
        refine V_sub [0, 2] rfl ?_
        exact v_X12_bytesIn_25 hd ih hf
set_option maxHeartbeats 4000000 in
set_option maxRecDepth 100000 in
theorem c_X12_bytesIn {E : EV} {d : Nat} (hd : 0 + 1 ≤ d) {x0 : Int32} {h : AH} {r0 : Int32} {h0 : AH} (hf : f_X12_bytesIn x0 h = some (r0, h0)) : Con E d K_X12_bytesIn (ZI E r0 h0) [.int x0] h := by
  obtain ⟨d, rfl⟩ : ∃ d', d = d' + 1 := ⟨d - 1, by omega⟩
  have hd := Nat.le_of_succ_le_succ hd
  refine Con.ofV rfl (Nat.le_of_ble_eq_true rfl) ?_
  unfold f_X12_bytesIn at hf
  show V E (d + 1) K_X12_bytesIn (ZI E r0 h0) h [(0, .int x0)] [] 0
  refine V_iconst (v := 0) dX12_bytesIn_0 (by decide) ?_
  refine V_istore_n (L' := [(1, .int 0), (0, .int x0)]) dX12_bytesIn_1 rfl (Nat.le_of_ble_eq_true rfl) rfl rfl ?_
  refine V_bipush (v := 24) dX12_bytesIn_2 (by decide) ?_
  refine V_istore_n (L' := [(2, .int 24), (1, .int 0), (0, .int x0)]) dX12_bytesIn_4 rfl (Nat.le_of_ble_eq_true rfl) rfl rfl ?_
  refine V_sub [2, 1, 0] rfl ?_
  exact v_X12_bytesIn_5 hd FU _ _ _ _ hf
theorem dX12_isHouse_0 : decode cX12_isHouse 0 = .ok (.iload_n 0, 1) := by decide +kernel
theorem dX12_isHouse_1 : decode cX12_isHouse 1 = .ok (.i2l, 1) := by decide +kernel
theorem dX12_isHouse_2 : decode cX12_isHouse 2 = .ok (.lconst 0, 1) := by decide +kernel
theorem dX12_isHouse_3 : decode cX12_isHouse 3 = .ok (.ldc2_w 327, 3) := by decide +kernel
theorem dX12_isHouse_6 : decode cX12_isHouse 6 = .ok (.invokestatic 247, 3) := by decide +kernel
theorem dX12_isHouse_9 : decode cX12_isHouse 9 = .ok (.ireturn, 1) := by decide +kernel
def f_X12_isHouse (x0 : Int32) (h : AH) : Option (Int32 × AH) :=
  ob (f_X12_isIn ((x0).toInt64) 0 3 h) fun r_3 h_2 =>
  og (bz r_3) <|
  some (r_3, h_2)
set_option maxHeartbeats 4000000 in
set_option maxRecDepth 100000 in
theorem c_X12_isHouse {E : EV} {d : Nat} (hd : 1 + 1 ≤ d) {x0 : Int32} {h : AH} {r0 : Int32} {h0 : AH} (hf : f_X12_isHouse x0 h = some (r0, h0)) : Con E d K_X12_isHouse (ZI E r0 h0) [.int x0] h := by
  obtain ⟨d, rfl⟩ : ∃ d', d = d' + 1 := ⟨d - 1, by omega⟩
  have hd := Nat.le_of_succ_le_succ hd
  refine Con.ofV rfl (Nat.le_of_ble_eq_true rfl) ?_
  unfold f_X12_isHouse at hf
  show V E (d + 1) K_X12_isHouse (ZI E r0 h0) h [(0, .int x0)] [] 0
  refine V_iload_n 0 dX12_isHouse_0 rfl rfl ?_
  refine V_i2l dX12_isHouse_1 ?_
  refine V_lconst (v := 0) dX12_isHouse_2 (by decide) ?_
  refine V_ldc2 (v := 3) rfl kl_X12_327 dX12_isHouse_3 ?_
  obtain ⟨r_3, h_2, e_1, hf⟩ := ob_s hf
  refine V_csi (As := [.long ((x0).toInt64), .long 0, .long 3]) (rest := []) (c_X12_isIn (d := d) (Nat.le_trans (Nat.le_of_ble_eq_true rfl) hd) e_1) ML_X12_247 MS_X12_isIn rfl rfl rfl (Nat.le_of_ble_eq_true rfl) dX12_isHouse_6 ?_
  obtain ⟨b_4, hf⟩ := og_s hf
  exact V_zret rfl b_4 (so_s hf) dX12_isHouse_9
theorem dX12_isVisit_0 : decode cX12_isVisit 0 = .ok (.aload_n 0, 1) := by decide +kernel
theorem dX12_isVisit_1 : decode cX12_isVisit 1 = .ok (.getfield 283, 3) := by decide +kernel
theorem dX12_isVisit_4 : decode cX12_isVisit 4 = .ok (.ifCond .le 22, 3) := by decide +kernel
theorem dX12_isVisit_7 : decode cX12_isVisit 7 = .ok (.iload_n 1, 1) := by decide +kernel
theorem dX12_isVisit_8 : decode cX12_isVisit 8 = .ok (.invokestatic 329, 3) := by decide +kernel
theorem dX12_isVisit_11 : decode cX12_isVisit 11 = .ok (.ifCond .eq 15, 3) := by decide +kernel
theorem dX12_isVisit_14 : decode cX12_isVisit 14 = .ok (.aload_n 0, 1) := by decide +kernel
theorem dX12_isVisit_15 : decode cX12_isVisit 15 = .ok (.iload_n 2, 1) := by decide +kernel
theorem dX12_isVisit_16 : decode cX12_isVisit 16 = .ok (.invokevirtual 332, 3) := by decide +kernel
theorem dX12_isVisit_19 : decode cX12_isVisit 19 = .ok (.ifCond .eq 7, 3) := by decide +kernel
theorem dX12_isVisit_22 : decode cX12_isVisit 22 = .ok (.iconst 1, 1) := by decide +kernel
theorem dX12_isVisit_23 : decode cX12_isVisit 23 = .ok (.goto 4, 3) := by decide +kernel
theorem dX12_isVisit_26 : decode cX12_isVisit 26 = .ok (.iconst 0, 1) := by decide +kernel
theorem dX12_isVisit_27 : decode cX12_isVisit 27 = .ok (.ireturn, 1) := by decide +kernel
theorem ML_X12_329 : MLk RX12 329 yX12_isHouse := Or.inl ml_X12_329
theorem MS_X12_isHouse : MSk K_X12_isHouse 1 := ⟨⟨cd_X12_isHouse, in_X12, ⟨by decide, by decide, by decide +kernel⟩, by decide⟩, st_X12_isHouse⟩
theorem ML_X12_332 : MLk RX12 332 yX12_areGuests := Or.inl ml_X12_332
theorem MV_X12_areGuests : MVk K_X12_areGuests 1 12 := ⟨⟨cd_X12_areGuests, in_X12, ⟨by decide, by decide, by decide +kernel⟩, by decide⟩, im_X12_areGuests, se_X12_areGuests, _, _, rfl⟩
def f_X12_isVisit_27 (s0 : Int32) (h : AH) : Option (Int32 × AH) :=
  og (bz s0) <|
  some (s0, h)
def f_X12_isVisit_26  (h : AH) : Option (Int32 × AH) :=
  f_X12_isVisit_27 0 h
def f_X12_isVisit (k0 : Nat) (x1 : Int32) (x2 : Int32) (h : AH) : Option (Int32 × AH) :=
  if (h.1 k0 20) ≤ 0 then (
    f_X12_isVisit_26 h
  ) else (
    ob (f_X12_isHouse x1 h) fun r_4 h_3 =>
    if r_4 = 0 then (
      f_X12_isVisit_26 h_3
    ) else (
      ob (f_X12_areGuests k0 x2 h_3) fun r_8 h_7 =>
      if r_8 = 0 then (
        f_X12_isVisit_26 h_7
      ) else (
        f_X12_isVisit_27 1 h_7
      )
    )
  )
set_option maxHeartbeats 4000000 in
set_option maxRecDepth 100000 in
theorem v_X12_isVisit_27 {E : EV} {d : Nat} (hd : 2 ≤ d) {r0 : Int32} {h0 : AH} {s0 : Int32} {h : AH} (hf : f_X12_isVisit_27 s0 h = some (r0, h0)) : V E (d + 1) K_X12_isVisit (ZI E r0 h0) h [] [.int s0] 27 := by
  unfold f_X12_isVisit_27 at hf
  obtain ⟨b_1, hf⟩ := og_s hf
  exact V_zret rfl b_1 (so_s hf) dX12_isVisit_27
set_option maxHeartbeats 4000000 in
set_option maxRecDepth 100000 in
theorem v_X12_isVisit_26 {E : EV} {d : Nat} (hd : 2 ≤ d) {r0 : Int32} {h0 : AH}  {h : AH} (hf : f_X12_isVisit_26 h = some (r0, h0)) : V E (d + 1) K_X12_isVisit (ZI E r0 h0) h [] [] 26 := by
  unfold f_X12_isVisit_26 at hf
  refine V_iconst (v := 0) dX12_isVisit_26 (by decide) ?_
  exact v_X12_isVisit_27 hd hf
set_option maxHeartbeats 4000000 in
set_option maxRecDepth 100000 in
theorem c_X12_isVisit {E : EV} {d : Nat} (hd : 2 + 1 ≤ d) {k0 : Nat} {x1 : Int32} {x2 : Int32} {h : AH} {r0 : Int32} {h0 : AH} (hf : f_X12_isVisit k0 x1 x2 h = some (r0, h0)) (t_k0 : kd k0 = (0, 12)) : Con E d K_X12_isVisit (ZI E r0 h0) [.ref k0, .int x1, .int x2] h := by
  obtain ⟨d, rfl⟩ : ∃ d', d = d' + 1 := ⟨d - 1, by omega⟩
  have hd := Nat.le_of_succ_le_succ hd
  refine Con.ofV rfl (Nat.le_of_ble_eq_true rfl) ?_
  unfold f_X12_isVisit at hf
  show V E (d + 1) K_X12_isVisit (ZI E r0 h0) h [(0, .ref k0), (1, .int x1), (2, .int x2)] [] 0
  refine V_aload_n 0 dX12_isVisit_0 rfl rfl ?_
  refine V_getI F_X12_283 rfl t_k0 rfl dX12_isVisit_1 ?_
  refine V_if_le (tgt := 26) dX12_isVisit_4 (by decide) (fun c_1 => ?_) (fun c_1 => ?_)
  · have hf := it_s c_1 hf
    refine V_sub [] rfl ?_
    exact v_X12_isVisit_26 hd hf
  · have hf := if_s c_1 hf
    refine V_iload_n 1 dX12_isVisit_7 rfl rfl ?_
    obtain ⟨r_4, h_3, e_2, hf⟩ := ob_s hf
    refine V_csi (As := [.int x1]) (rest := []) (c_X12_isHouse (d := d) (Nat.le_trans (Nat.le_of_ble_eq_true rfl) hd) e_2) ML_X12_329 MS_X12_isHouse rfl rfl rfl (Nat.le_of_ble_eq_true rfl) dX12_isVisit_8 ?_
    refine V_if_eq (tgt := 26) dX12_isVisit_11 (by decide) (fun c_5 => ?_) (fun c_5 => ?_)
    · have hf := it_s c_5 hf
      refine V_sub [] rfl ?_
      exact v_X12_isVisit_26 hd hf
    · have hf := if_s c_5 hf
      refine V_aload_n 0 dX12_isVisit_14 rfl rfl ?_
      refine V_iload_n 2 dX12_isVisit_15 rfl rfl ?_
      obtain ⟨r_8, h_7, e_6, hf⟩ := ob_s hf
      refine V_cvi (As := [.int x2]) (rest := []) (c_X12_areGuests (d := d) (Nat.le_trans (Nat.le_of_ble_eq_true rfl) hd) e_6 t_k0) ML_X12_332 MV_X12_areGuests rfl t_k0 rfl rfl (Nat.le_of_ble_eq_true rfl) dX12_isVisit_16 ?_
      refine V_if_eq (tgt := 26) dX12_isVisit_19 (by decide) (fun c_9 => ?_) (fun c_9 => ?_)
      · have hf := it_s c_9 hf
        refine V_sub [] rfl ?_
        exact v_X12_isVisit_26 hd hf
      · have hf := if_s c_9 hf
        refine V_iconst (v := 1) dX12_isVisit_22 (by decide) ?_
        refine V_goto (tgt := 27) dX12_isVisit_23 (by decide) ?_
        refine V_sub [] rfl ?_
        exact v_X12_isVisit_27 hd hf
theorem dX12_isGuest_0 : decode cX12_isGuest 0 = .ok (.aload_n 0, 1) := by decide +kernel
theorem dX12_isGuest_1 : decode cX12_isGuest 1 = .ok (.iload_n 1, 1) := by decide +kernel
theorem dX12_isGuest_2 : decode cX12_isGuest 2 = .ok (.iload_n 2, 1) := by decide +kernel
theorem dX12_isGuest_3 : decode cX12_isGuest 3 = .ok (.invokevirtual 343, 3) := by decide +kernel
theorem dX12_isGuest_6 : decode cX12_isGuest 6 = .ok (.ifCond .eq 23, 3) := by decide +kernel
theorem dX12_isGuest_9 : decode cX12_isGuest 9 = .ok (.aload_n 0, 1) := by decide +kernel
theorem dX12_isGuest_10 : decode cX12_isGuest 10 = .ok (.iload_n 3, 1) := by decide +kernel
theorem dX12_isGuest_11 : decode cX12_isGuest 11 = .ok (.invokevirtual 295, 3) := by decide +kernel
theorem dX12_isGuest_14 : decode cX12_isGuest 14 = .ok (.ifCond .eq 15, 3) := by decide +kernel
theorem dX12_isGuest_17 : decode cX12_isGuest 17 = .ok (.iload_n 2, 1) := by decide +kernel
theorem dX12_isGuest_18 : decode cX12_isGuest 18 = .ok (.iload_n 3, 1) := by decide +kernel
theorem dX12_isGuest_19 : decode cX12_isGuest 19 = .ok (.invokestatic 258, 3) := by decide +kernel
theorem dX12_isGuest_22 : decode cX12_isGuest 22 = .ok (.ifCond .eq 7, 3) := by decide +kernel
theorem dX12_isGuest_25 : decode cX12_isGuest 25 = .ok (.iconst 1, 1) := by decide +kernel
theorem dX12_isGuest_26 : decode cX12_isGuest 26 = .ok (.goto 4, 3) := by decide +kernel
theorem dX12_isGuest_29 : decode cX12_isGuest 29 = .ok (.iconst 0, 1) := by decide +kernel
theorem dX12_isGuest_30 : decode cX12_isGuest 30 = .ok (.ireturn, 1) := by decide +kernel
theorem ML_X12_343 : MLk RX12 343 yX12_isVisit := Or.inl ml_X12_343
theorem MV_X12_isVisit : MVk K_X12_isVisit 2 12 := ⟨⟨cd_X12_isVisit, in_X12, ⟨by decide, by decide, by decide +kernel⟩, by decide⟩, im_X12_isVisit, se_X12_isVisit, _, _, rfl⟩
def f_X12_isGuest_30 (s0 : Int32) (h : AH) : Option (Int32 × AH) :=
  og (bz s0) <|
  some (s0, h)
def f_X12_isGuest_29  (h : AH) : Option (Int32 × AH) :=
  f_X12_isGuest_30 0 h
def f_X12_isGuest (k0 : Nat) (x1 : Int32) (x2 : Int32) (x3 : Int32) (h : AH) : Option (Int32 × AH) :=
  ob (f_X12_isVisit k0 x1 x2 h) fun r_3 h_2 =>
  if r_3 = 0 then (
    f_X12_isGuest_29 h_2
  ) else (
    ob (f_X12_isPerson k0 x3 h_2) fun r_7 h_6 =>
    if r_7 = 0 then (
      f_X12_isGuest_29 h_6
    ) else (
      ob (f_X12_has x2 x3 h_6) fun r_11 h_10 =>
      if r_11 = 0 then (
        f_X12_isGuest_29 h_10
      ) else (
        f_X12_isGuest_30 1 h_10
      )
    )
  )
set_option maxHeartbeats 4000000 in
set_option maxRecDepth 100000 in
theorem v_X12_isGuest_30 {E : EV} {d : Nat} (hd : 3 ≤ d) {r0 : Int32} {h0 : AH} {s0 : Int32} {h : AH} (hf : f_X12_isGuest_30 s0 h = some (r0, h0)) : V E (d + 1) K_X12_isGuest (ZI E r0 h0) h [] [.int s0] 30 := by
  unfold f_X12_isGuest_30 at hf
  obtain ⟨b_1, hf⟩ := og_s hf
  exact V_zret rfl b_1 (so_s hf) dX12_isGuest_30
set_option maxHeartbeats 4000000 in
set_option maxRecDepth 100000 in
theorem v_X12_isGuest_29 {E : EV} {d : Nat} (hd : 3 ≤ d) {r0 : Int32} {h0 : AH}  {h : AH} (hf : f_X12_isGuest_29 h = some (r0, h0)) : V E (d + 1) K_X12_isGuest (ZI E r0 h0) h [] [] 29 := by
  unfold f_X12_isGuest_29 at hf
  refine V_iconst (v := 0) dX12_isGuest_29 (by decide) ?_
  exact v_X12_isGuest_30 hd hf
set_option maxHeartbeats 4000000 in
set_option maxRecDepth 100000 in
theorem c_X12_isGuest {E : EV} {d : Nat} (hd : 3 + 1 ≤ d) {k0 : Nat} {x1 : Int32} {x2 : Int32} {x3 : Int32} {h : AH} {r0 : Int32} {h0 : AH} (hf : f_X12_isGuest k0 x1 x2 x3 h = some (r0, h0)) (t_k0 : kd k0 = (0, 12)) : Con E d K_X12_isGuest (ZI E r0 h0) [.ref k0, .int x1, .int x2, .int x3] h := by
  obtain ⟨d, rfl⟩ : ∃ d', d = d' + 1 := ⟨d - 1, by omega⟩
  have hd := Nat.le_of_succ_le_succ hd
  refine Con.ofV rfl (Nat.le_of_ble_eq_true rfl) ?_
  unfold f_X12_isGuest at hf
  show V E (d + 1) K_X12_isGuest (ZI E r0 h0) h [(0, .ref k0), (1, .int x1), (2, .int x2), (3, .int x3)] [] 0
  refine V_aload_n 0 dX12_isGuest_0 rfl rfl ?_
  refine V_iload_n 1 dX12_isGuest_1 rfl rfl ?_
  refine V_iload_n 2 dX12_isGuest_2 rfl rfl ?_
  obtain ⟨r_3, h_2, e_1, hf⟩ := ob_s hf
  refine V_cvi (As := [.int x1, .int x2]) (rest := []) (c_X12_isVisit (d := d) (Nat.le_trans (Nat.le_of_ble_eq_true rfl) hd) e_1 t_k0) ML_X12_343 MV_X12_isVisit rfl t_k0 rfl rfl (Nat.le_of_ble_eq_true rfl) dX12_isGuest_3 ?_
  refine V_if_eq (tgt := 29) dX12_isGuest_6 (by decide) (fun c_4 => ?_) (fun c_4 => ?_)
  · have hf := it_s c_4 hf
    refine V_sub [] rfl ?_
    exact v_X12_isGuest_29 hd hf
  · have hf := if_s c_4 hf
    refine V_aload_n 0 dX12_isGuest_9 rfl rfl ?_
    refine V_iload_n 3 dX12_isGuest_10 rfl rfl ?_
    obtain ⟨r_7, h_6, e_5, hf⟩ := ob_s hf
    refine V_cvi (As := [.int x3]) (rest := []) (c_X12_isPerson (d := d) (Nat.le_trans (Nat.le_of_ble_eq_true rfl) hd) e_5 t_k0) ML_X12_295 MV_X12_isPerson rfl t_k0 rfl rfl (Nat.le_of_ble_eq_true rfl) dX12_isGuest_11 ?_
    refine V_if_eq (tgt := 29) dX12_isGuest_14 (by decide) (fun c_8 => ?_) (fun c_8 => ?_)
    · have hf := it_s c_8 hf
      refine V_sub [] rfl ?_
      exact v_X12_isGuest_29 hd hf
    · have hf := if_s c_8 hf
      refine V_iload_n 2 dX12_isGuest_17 rfl rfl ?_
      refine V_iload_n 3 dX12_isGuest_18 rfl rfl ?_
      obtain ⟨r_11, h_10, e_9, hf⟩ := ob_s hf
      refine V_csi (As := [.int x2, .int x3]) (rest := []) (c_X12_has (d := d) (Nat.le_trans (Nat.le_of_ble_eq_true rfl) hd) e_9) ML_X12_258 MS_X12_has rfl rfl rfl (Nat.le_of_ble_eq_true rfl) dX12_isGuest_19 ?_
      refine V_if_eq (tgt := 29) dX12_isGuest_22 (by decide) (fun c_12 => ?_) (fun c_12 => ?_)
      · have hf := it_s c_12 hf
        refine V_sub [] rfl ?_
        exact v_X12_isGuest_29 hd hf
      · have hf := if_s c_12 hf
        refine V_iconst (v := 1) dX12_isGuest_25 (by decide) ?_
        refine V_goto (tgt := 30) dX12_isGuest_26 (by decide) ?_
        refine V_sub [] rfl ?_
        exact v_X12_isGuest_30 hd hf
theorem dX12_cobbler_0 : decode cX12_cobbler 0 = .ok (.aload_n 0, 1) := by decide +kernel
theorem dX12_cobbler_1 : decode cX12_cobbler 1 = .ok (.iconst 0, 1) := by decide +kernel
theorem dX12_cobbler_2 : decode cX12_cobbler 2 = .ok (.putfield 120, 3) := by decide +kernel
theorem dX12_cobbler_5 : decode cX12_cobbler 5 = .ok (.aload_n 0, 1) := by decide +kernel
theorem dX12_cobbler_6 : decode cX12_cobbler 6 = .ok (.iload_n 1, 1) := by decide +kernel
theorem dX12_cobbler_7 : decode cX12_cobbler 7 = .ok (.iload_n 2, 1) := by decide +kernel
theorem dX12_cobbler_8 : decode cX12_cobbler 8 = .ok (.iload_n 3, 1) := by decide +kernel
theorem dX12_cobbler_9 : decode cX12_cobbler 9 = .ok (.invokevirtual 360, 3) := by decide +kernel
theorem dX12_cobbler_12 : decode cX12_cobbler 12 = .ok (.ifCond .eq 27, 3) := by decide +kernel
theorem dX12_cobbler_15 : decode cX12_cobbler 15 = .ok (.iload 4, 2) := by decide +kernel
theorem dX12_cobbler_17 : decode cX12_cobbler 17 = .ok (.i2l, 1) := by decide +kernel
theorem dX12_cobbler_18 : decode cX12_cobbler 18 = .ok (.lconst 0, 1) := by decide +kernel
theorem dX12_cobbler_19 : decode cX12_cobbler 19 = .ok (.ldc2_w 419, 3) := by decide +kernel
theorem dX12_cobbler_22 : decode cX12_cobbler 22 = .ok (.invokestatic 247, 3) := by decide +kernel
theorem dX12_cobbler_25 : decode cX12_cobbler 25 = .ok (.ifCond .eq 14, 3) := by decide +kernel
theorem dX12_cobbler_28 : decode cX12_cobbler 28 = .ok (.iload 5, 2) := by decide +kernel
theorem dX12_cobbler_30 : decode cX12_cobbler 30 = .ok (.i2l, 1) := by decide +kernel
theorem dX12_cobbler_31 : decode cX12_cobbler 31 = .ok (.lconst 0, 1) := by decide +kernel
theorem dX12_cobbler_32 : decode cX12_cobbler 32 = .ok (.lconst 1, 1) := by decide +kernel
theorem dX12_cobbler_33 : decode cX12_cobbler 33 = .ok (.invokestatic 247, 3) := by decide +kernel
theorem dX12_cobbler_36 : decode cX12_cobbler 36 = .ok (.ifCond .ne 5, 3) := by decide +kernel
theorem dX12_cobbler_39 : decode cX12_cobbler 39 = .ok (.iconst (-1), 1) := by decide +kernel
theorem dX12_cobbler_40 : decode cX12_cobbler 40 = .ok (.ireturn, 1) := by decide +kernel
theorem dX12_cobbler_41 : decode cX12_cobbler 41 = .ok (.aload_n 0, 1) := by decide +kernel
theorem dX12_cobbler_42 : decode cX12_cobbler 42 = .ok (.iload_n 1, 1) := by decide +kernel
theorem dX12_cobbler_43 : decode cX12_cobbler 43 = .ok (.iload_n 2, 1) := by decide +kernel
theorem dX12_cobbler_44 : decode cX12_cobbler 44 = .ok (.invokevirtual 335, 3) := by decide +kernel
theorem dX12_cobbler_47 : decode cX12_cobbler 47 = .ok (.istore 6, 2) := by decide +kernel
theorem dX12_cobbler_49 : decode cX12_cobbler 49 = .ok (.aload_n 0, 1) := by decide +kernel
theorem dX12_cobbler_50 : decode cX12_cobbler 50 = .ok (.getfield 45, 3) := by decide +kernel
theorem dX12_cobbler_53 : decode cX12_cobbler 53 = .ok (.iload_n 3, 1) := by decide +kernel
theorem dX12_cobbler_54 : decode cX12_cobbler 54 = .ok (.iaload, 1) := by decide +kernel
theorem dX12_cobbler_55 : decode cX12_cobbler 55 = .ok (.iconst (-1), 1) := by decide +kernel
theorem dX12_cobbler_56 : decode cX12_cobbler 56 = .ok (.if_icmp .eq 18, 3) := by decide +kernel
theorem dX12_cobbler_59 : decode cX12_cobbler 59 = .ok (.iload 6, 2) := by decide +kernel
theorem dX12_cobbler_61 : decode cX12_cobbler 61 = .ok (.iconst 1, 1) := by decide +kernel
theorem dX12_cobbler_62 : decode cX12_cobbler 62 = .ok (.aload_n 0, 1) := by decide +kernel
theorem dX12_cobbler_63 : decode cX12_cobbler 63 = .ok (.getfield 45, 3) := by decide +kernel
theorem dX12_cobbler_66 : decode cX12_cobbler 66 = .ok (.iload_n 3, 1) := by decide +kernel
theorem dX12_cobbler_67 : decode cX12_cobbler 67 = .ok (.iaload, 1) := by decide +kernel
theorem dX12_cobbler_68 : decode cX12_cobbler 68 = .ok (.ishl, 1) := by decide +kernel
theorem dX12_cobbler_69 : decode cX12_cobbler 69 = .ok (.iconst (-1), 1) := by decide +kernel
theorem dX12_cobbler_70 : decode cX12_cobbler 70 = .ok (.ixor, 1) := by decide +kernel
theorem dX12_cobbler_71 : decode cX12_cobbler 71 = .ok (.iand, 1) := by decide +kernel
theorem dX12_cobbler_72 : decode cX12_cobbler 72 = .ok (.istore 6, 2) := by decide +kernel
theorem dX12_cobbler_74 : decode cX12_cobbler 74 = .ok (.iload 6, 2) := by decide +kernel
theorem dX12_cobbler_76 : decode cX12_cobbler 76 = .ok (.iconst 1, 1) := by decide +kernel
theorem dX12_cobbler_77 : decode cX12_cobbler 77 = .ok (.iload_n 3, 1) := by decide +kernel
theorem dX12_cobbler_78 : decode cX12_cobbler 78 = .ok (.ishl, 1) := by decide +kernel
theorem dX12_cobbler_79 : decode cX12_cobbler 79 = .ok (.ior, 1) := by decide +kernel
theorem dX12_cobbler_80 : decode cX12_cobbler 80 = .ok (.istore 6, 2) := by decide +kernel
theorem dX12_cobbler_82 : decode cX12_cobbler 82 = .ok (.aload_n 0, 1) := by decide +kernel
theorem dX12_cobbler_83 : decode cX12_cobbler 83 = .ok (.getfield 51, 3) := by decide +kernel
theorem dX12_cobbler_86 : decode cX12_cobbler 86 = .ok (.iload_n 3, 1) := by decide +kernel
theorem dX12_cobbler_87 : decode cX12_cobbler 87 = .ok (.iaload, 1) := by decide +kernel
theorem dX12_cobbler_88 : decode cX12_cobbler 88 = .ok (.istore 7, 2) := by decide +kernel
theorem dX12_cobbler_90 : decode cX12_cobbler 90 = .ok (.aload_n 0, 1) := by decide +kernel
theorem dX12_cobbler_91 : decode cX12_cobbler 91 = .ok (.getfield 54, 3) := by decide +kernel
theorem dX12_cobbler_94 : decode cX12_cobbler 94 = .ok (.iload_n 3, 1) := by decide +kernel
theorem dX12_cobbler_95 : decode cX12_cobbler 95 = .ok (.iaload, 1) := by decide +kernel
theorem dX12_cobbler_96 : decode cX12_cobbler 96 = .ok (.istore 8, 2) := by decide +kernel
theorem dX12_cobbler_98 : decode cX12_cobbler 98 = .ok (.aload_n 0, 1) := by decide +kernel
theorem dX12_cobbler_99 : decode cX12_cobbler 99 = .ok (.getfield 54, 3) := by decide +kernel
theorem dX12_cobbler_102 : decode cX12_cobbler 102 = .ok (.iload_n 3, 1) := by decide +kernel
theorem dX12_cobbler_103 : decode cX12_cobbler 103 = .ok (.iload 4, 2) := by decide +kernel
theorem dX12_cobbler_105 : decode cX12_cobbler 105 = .ok (.iastore, 1) := by decide +kernel
theorem dX12_cobbler_106 : decode cX12_cobbler 106 = .ok (.aload_n 0, 1) := by decide +kernel
theorem dX12_cobbler_107 : decode cX12_cobbler 107 = .ok (.iload_n 2, 1) := by decide +kernel
theorem dX12_cobbler_108 : decode cX12_cobbler 108 = .ok (.invokevirtual 367, 3) := by decide +kernel
theorem dX12_cobbler_111 : decode cX12_cobbler 111 = .ok (.iconst (-1), 1) := by decide +kernel
theorem dX12_cobbler_112 : decode cX12_cobbler 112 = .ok (.istore 9, 2) := by decide +kernel
theorem dX12_cobbler_114 : decode cX12_cobbler 114 = .ok (.iconst 0, 1) := by decide +kernel
theorem dX12_cobbler_115 : decode cX12_cobbler 115 = .ok (.istore 10, 2) := by decide +kernel
theorem dX12_cobbler_117 : decode cX12_cobbler 117 = .ok (.bipush 20, 2) := by decide +kernel
theorem dX12_cobbler_119 : decode cX12_cobbler 119 = .ok (.istore 11, 2) := by decide +kernel
theorem dX12_cobbler_121 : decode cX12_cobbler 121 = .ok (.iload 11, 2) := by decide +kernel
theorem dX12_cobbler_123 : decode cX12_cobbler 123 = .ok (.bipush 50, 2) := by decide +kernel
theorem dX12_cobbler_125 : decode cX12_cobbler 125 = .ok (.if_icmp .gt 91, 3) := by decide +kernel
theorem dX12_cobbler_128 : decode cX12_cobbler 128 = .ok (.aload_n 0, 1) := by decide +kernel
theorem dX12_cobbler_129 : decode cX12_cobbler 129 = .ok (.getfield 51, 3) := by decide +kernel
theorem dX12_cobbler_132 : decode cX12_cobbler 132 = .ok (.iload_n 3, 1) := by decide +kernel
theorem dX12_cobbler_133 : decode cX12_cobbler 133 = .ok (.iload 11, 2) := by decide +kernel
theorem dX12_cobbler_135 : decode cX12_cobbler 135 = .ok (.iastore, 1) := by decide +kernel
theorem dX12_cobbler_136 : decode cX12_cobbler 136 = .ok (.iconst 0, 1) := by decide +kernel
theorem dX12_cobbler_137 : decode cX12_cobbler 137 = .ok (.istore 12, 2) := by decide +kernel
theorem dX12_cobbler_139 : decode cX12_cobbler 139 = .ok (.iconst 0, 1) := by decide +kernel
theorem dX12_cobbler_140 : decode cX12_cobbler 140 = .ok (.istore 13, 2) := by decide +kernel
theorem dX12_cobbler_142 : decode cX12_cobbler 142 = .ok (.iload 13, 2) := by decide +kernel
theorem dX12_cobbler_144 : decode cX12_cobbler 144 = .ok (.aload_n 0, 1) := by decide +kernel
theorem dX12_cobbler_145 : decode cX12_cobbler 145 = .ok (.getfield 353, 3) := by decide +kernel
theorem dX12_cobbler_148 : decode cX12_cobbler 148 = .ok (.if_icmp .ge 38, 3) := by decide +kernel
theorem dX12_cobbler_151 : decode cX12_cobbler 151 = .ok (.aload_n 0, 1) := by decide +kernel
theorem dX12_cobbler_152 : decode cX12_cobbler 152 = .ok (.iload 13, 2) := by decide +kernel
theorem dX12_cobbler_154 : decode cX12_cobbler 154 = .ok (.iload_n 2, 1) := by decide +kernel
theorem dX12_cobbler_155 : decode cX12_cobbler 155 = .ok (.iload 6, 2) := by decide +kernel
theorem dX12_cobbler_157 : decode cX12_cobbler 157 = .ok (.invokevirtual 370, 3) := by decide +kernel
theorem dX12_cobbler_160 : decode cX12_cobbler 160 = .ok (.iload 12, 2) := by decide +kernel
theorem dX12_cobbler_162 : decode cX12_cobbler 162 = .ok (.aload_n 0, 1) := by decide +kernel
theorem dX12_cobbler_163 : decode cX12_cobbler 163 = .ok (.getfield 63, 3) := by decide +kernel
theorem dX12_cobbler_166 : decode cX12_cobbler 166 = .ok (.iload_n 3, 1) := by decide +kernel
theorem dX12_cobbler_167 : decode cX12_cobbler 167 = .ok (.iaload, 1) := by decide +kernel
theorem dX12_cobbler_168 : decode cX12_cobbler 168 = .ok (.iload_n 3, 1) := by decide +kernel
theorem dX12_cobbler_169 : decode cX12_cobbler 169 = .ok (.if_icmp .ne 7, 3) := by decide +kernel
theorem dX12_cobbler_172 : decode cX12_cobbler 172 = .ok (.iconst 1, 1) := by decide +kernel
theorem dX12_cobbler_173 : decode cX12_cobbler 173 = .ok (.goto 4, 3) := by decide +kernel
theorem dX12_cobbler_176 : decode cX12_cobbler 176 = .ok (.iconst 0, 1) := by decide +kernel
theorem dX12_cobbler_177 : decode cX12_cobbler 177 = .ok (.iadd, 1) := by decide +kernel
theorem dX12_cobbler_178 : decode cX12_cobbler 178 = .ok (.istore 12, 2) := by decide +kernel
theorem dX12_cobbler_180 : decode cX12_cobbler 180 = .ok (.iinc 13 1, 3) := by decide +kernel
theorem dX12_cobbler_183 : decode cX12_cobbler 183 = .ok (.goto (-41), 3) := by decide +kernel
theorem dX12_cobbler_186 : decode cX12_cobbler 186 = .ok (.iload 9, 2) := by decide +kernel
theorem dX12_cobbler_188 : decode cX12_cobbler 188 = .ok (.iconst (-1), 1) := by decide +kernel
theorem dX12_cobbler_189 : decode cX12_cobbler 189 = .ok (.if_icmp .eq 13, 3) := by decide +kernel
theorem dX12_cobbler_192 : decode cX12_cobbler 192 = .ok (.iload 12, 2) := by decide +kernel
theorem dX12_cobbler_194 : decode cX12_cobbler 194 = .ok (.iload 10, 2) := by decide +kernel
theorem dX12_cobbler_196 : decode cX12_cobbler 196 = .ok (.if_icmp .gt 6, 3) := by decide +kernel
theorem dX12_cobbler_199 : decode cX12_cobbler 199 = .ok (.goto 11, 3) := by decide +kernel
theorem dX12_cobbler_202 : decode cX12_cobbler 202 = .ok (.iload 11, 2) := by decide +kernel
theorem dX12_cobbler_204 : decode cX12_cobbler 204 = .ok (.istore 9, 2) := by decide +kernel
theorem dX12_cobbler_206 : decode cX12_cobbler 206 = .ok (.iload 12, 2) := by decide +kernel
theorem dX12_cobbler_208 : decode cX12_cobbler 208 = .ok (.istore 10, 2) := by decide +kernel
theorem dX12_cobbler_210 : decode cX12_cobbler 210 = .ok (.iinc 11 1, 3) := by decide +kernel
theorem dX12_cobbler_213 : decode cX12_cobbler 213 = .ok (.goto (-92), 3) := by decide +kernel
theorem dX12_cobbler_216 : decode cX12_cobbler 216 = .ok (.aload_n 0, 1) := by decide +kernel
theorem dX12_cobbler_217 : decode cX12_cobbler 217 = .ok (.getfield 51, 3) := by decide +kernel
theorem dX12_cobbler_220 : decode cX12_cobbler 220 = .ok (.iload_n 3, 1) := by decide +kernel
theorem dX12_cobbler_221 : decode cX12_cobbler 221 = .ok (.iload 7, 2) := by decide +kernel
theorem dX12_cobbler_223 : decode cX12_cobbler 223 = .ok (.iastore, 1) := by decide +kernel
theorem dX12_cobbler_224 : decode cX12_cobbler 224 = .ok (.aload_n 0, 1) := by decide +kernel
theorem dX12_cobbler_225 : decode cX12_cobbler 225 = .ok (.getfield 54, 3) := by decide +kernel
theorem dX12_cobbler_228 : decode cX12_cobbler 228 = .ok (.iload_n 3, 1) := by decide +kernel
theorem dX12_cobbler_229 : decode cX12_cobbler 229 = .ok (.iload 8, 2) := by decide +kernel
theorem dX12_cobbler_231 : decode cX12_cobbler 231 = .ok (.iastore, 1) := by decide +kernel
theorem dX12_cobbler_232 : decode cX12_cobbler 232 = .ok (.iload 5, 2) := by decide +kernel
theorem dX12_cobbler_234 : decode cX12_cobbler 234 = .ok (.ifCond .ne 8, 3) := by decide +kernel
theorem dX12_cobbler_237 : decode cX12_cobbler 237 = .ok (.iload 9, 2) := by decide +kernel
theorem dX12_cobbler_239 : decode cX12_cobbler 239 = .ok (.goto 5, 3) := by decide +kernel
theorem dX12_cobbler_242 : decode cX12_cobbler 242 = .ok (.iload 10, 2) := by decide +kernel
theorem dX12_cobbler_244 : decode cX12_cobbler 244 = .ok (.ireturn, 1) := by decide +kernel
theorem ML_X12_360 : MLk RX12 360 yX12_isGuest := Or.inl ml_X12_360
theorem MV_X12_isGuest : MVk K_X12_isGuest 3 12 := ⟨⟨cd_X12_isGuest, in_X12, ⟨by decide, by decide, by decide +kernel⟩, by decide⟩, im_X12_isGuest, se_X12_isGuest, _, _, rfl⟩
def f_X12_cobbler_39  (h : AH) : Option (Int32 × AH) :=
  some ((-1), h)
def f_X12_cobbler_177 (q142 : Nat → Int32 → Int32 → Int32 → Int32 → Int32 → Int32 → Int32 → Int32 → Int32 → Int32 → Int32 → AH → Option (Int32 × AH)) (k0 : Nat) (x2 : Int32) (x3 : Int32) (x5 : Int32) (x6 : Int32) (x7 : Int32) (x8 : Int32) (x9 : Int32) (x10 : Int32) (x11 : Int32) (x13 : Int32) (s0 : Int32) (s1 : Int32) (h : AH) : Option (Int32 × AH) :=
  nm ((s1 + s0)) fun x12_1 =>
  nm (x13 + 1) fun x13_3 =>
  q142 k0 x2 x3 x5 x6 x7 x8 x9 x10 x11 x12_1 x13_3 h
def f_X12_cobbler_210 (q121 : Nat → Int32 → Int32 → Int32 → Int32 → Int32 → Int32 → Int32 → Int32 → Int32 → AH → Option (Int32 × AH)) (k0 : Nat) (x2 : Int32) (x3 : Int32) (x5 : Int32) (x6 : Int32) (x7 : Int32) (x8 : Int32) (x9 : Int32) (x10 : Int32) (x11 : Int32) (h : AH) : Option (Int32 × AH) :=
  nm (x11 + 1) fun x11_1 =>
  q121 k0 x2 x3 x5 x6 x7 x8 x9 x10 x11_1 h
def f_X12_cobbler_202 (q121 : Nat → Int32 → Int32 → Int32 → Int32 → Int32 → Int32 → Int32 → Int32 → Int32 → AH → Option (Int32 × AH)) (k0 : Nat) (x2 : Int32) (x3 : Int32) (x5 : Int32) (x6 : Int32) (x7 : Int32) (x8 : Int32) (x11 : Int32) (x12 : Int32) (h : AH) : Option (Int32 × AH) :=
  f_X12_cobbler_210 q121 k0 x2 x3 x5 x6 x7 x8 x11 x12 x11 h
def f_X12_cobbler_142 (q121 : Nat → Int32 → Int32 → Int32 → Int32 → Int32 → Int32 → Int32 → Int32 → Int32 → AH → Option (Int32 × AH)) : Nat → Nat → Int32 → Int32 → Int32 → Int32 → Int32 → Int32 → Int32 → Int32 → Int32 → Int32 → Int32 → AH → Option (Int32 × AH)
  | 0, _, _, _, _, _, _, _, _, _, _, _, _, _ => none
  | n + 1, k0, x2, x3, x5, x6, x7, x8, x9, x10, x11, x12, x13, h =>
    if (h.1 k0 34) ≤ x13 then (
      if x9 = (-1) then (
        f_X12_cobbler_202 q121 k0 x2 x3 x5 x6 x7 x8 x11 x12 h
      ) else (
        if x10 < x12 then (
          f_X12_cobbler_202 q121 k0 x2 x3 x5 x6 x7 x8 x11 x12 h
        ) else (
          f_X12_cobbler_210 q121 k0 x2 x3 x5 x6 x7 x8 x9 x10 x11 h
        )
      )
    ) else (
      ov (f_X12_goWay k0 x13 x2 x6 h) fun h_5 =>
      og (ix x3 (an (rf k0 28))) <|
      if (h_5.1 (rf k0 28) x3.toNatClampNeg) = x3 then (
        f_X12_cobbler_177 (f_X12_cobbler_142 q121 n) k0 x2 x3 x5 x6 x7 x8 x9 x10 x11 x13 1 x12 h_5
      ) else (
        f_X12_cobbler_177 (f_X12_cobbler_142 q121 n) k0 x2 x3 x5 x6 x7 x8 x9 x10 x11 x13 0 x12 h_5
      )
    )
def f_X12_cobbler_244 (s0 : Int32) (h : AH) : Option (Int32 × AH) :=
  some (s0, h)
def f_X12_cobbler_121 : Nat → Nat → Int32 → Int32 → Int32 → Int32 → Int32 → Int32 → Int32 → Int32 → Int32 → AH → Option (Int32 × AH)
  | 0, _, _, _, _, _, _, _, _, _, _, _ => none
  | n + 1, k0, x2, x3, x5, x6, x7, x8, x9, x10, x11, h =>
    if 50 < x11 then (
      og (ix x3 (an (rf k0 24))) <|
      nm (sI h (rf k0 24) x3.toNatClampNeg x7) fun h_3 =>
      og (ix x3 (an (rf k0 25))) <|
      nm (sI h_3 (rf k0 25) x3.toNatClampNeg x8) fun h_6 =>
      if x5 = 0 then (
        f_X12_cobbler_244 x9 h_6
      ) else (
        f_X12_cobbler_244 x10 h_6
      )
    ) else (
      og (ix x3 (an (rf k0 24))) <|
      nm (sI h (rf k0 24) x3.toNatClampNeg x11) fun h_10 =>
      f_X12_cobbler_142 (f_X12_cobbler_121 n) FU k0 x2 x3 x5 x6 x7 x8 x9 x10 x11 0 0 h_10
    )
def f_X12_cobbler_74 (k0 : Nat) (x2 : Int32) (x3 : Int32) (x4 : Int32) (x5 : Int32) (x6 : Int32) (h : AH) : Option (Int32 × AH) :=
  nm ((x6 ||| ((1 : Int32) <<< (x3 &&& 31)))) fun x6_1 =>
  og (ix x3 (an (rf k0 24))) <|
  nm ((h.1 (rf k0 24) x3.toNatClampNeg)) fun x7_4 =>
  og (ix x3 (an (rf k0 25))) <|
  nm ((h.1 (rf k0 25) x3.toNatClampNeg)) fun x8_7 =>
  og (ix x3 (an (rf k0 25))) <|
  nm (sI h (rf k0 25) x3.toNatClampNeg x4) fun h_10 =>
  ov (f_X12_allWays k0 x2 h_10) fun h_13 =>
  f_X12_cobbler_121 FU k0 x2 x3 x5 x6_1 x7_4 x8_7 (-1) 0 20 h_13
def f_X12_cobbler (k0 : Nat) (x1 : Int32) (x2 : Int32) (x3 : Int32) (x4 : Int32) (x5 : Int32) (h : AH) : Option (Int32 × AH) :=
  nm (sI h k0 0 0) fun h_1 =>
  ob (f_X12_isGuest k0 x1 x2 x3 h_1) fun r_5 h_4 =>
  if r_5 = 0 then (
    f_X12_cobbler_39 h_4
  ) else (
    ob (f_X12_isIn ((x4).toInt64) 0 99 h_4) fun r_9 h_8 =>
    if r_9 = 0 then (
      f_X12_cobbler_39 h_8
    ) else (
      ob (f_X12_isIn ((x5).toInt64) 0 1 h_8) fun r_13 h_12 =>
      if r_13 = 0 then (
        f_X12_cobbler_39 h_12
      ) else (
        ob (f_X12_doorOf k0 x1 x2 h_12) fun r_17 h_16 =>
        og (ix x3 (an (rf k0 22))) <|
        if (h_16.1 (rf k0 22) x3.toNatClampNeg) = (-1) then (
          f_X12_cobbler_74 k0 x2 x3 x4 x5 r_17 h_16
        ) else (
          og (ix x3 (an (rf k0 22))) <|
          nm ((r_17 &&& (((1 : Int32) <<< ((h_16.1 (rf k0 22) x3.toNatClampNeg) &&& 31)) ^^^ (-1)))) fun x6_21 =>
          f_X12_cobbler_74 k0 x2 x3 x4 x5 x6_21 h_16
        )
      )
    )
  )
set_option maxHeartbeats 4000000 in
set_option maxRecDepth 100000 in
theorem v_X12_cobbler_39 {E : EV} {d : Nat} (hd : 1461 ≤ d) {r0 : Int32} {h0 : AH}  {h : AH} (hf : f_X12_cobbler_39 h = some (r0, h0)) : V E (d + 1) K_X12_cobbler (ZI E r0 h0) h [] [] 39 := by
  unfold f_X12_cobbler_39 at hf
  refine V_iconst (v := (-1)) dX12_cobbler_39 (by decide) ?_
  exact V_iret rfl (so_s hf) dX12_cobbler_40
set_option maxHeartbeats 4000000 in
set_option maxRecDepth 100000 in
theorem v_X12_cobbler_177 {E : EV} {d : Nat} (hd : 1461 ≤ d) {r0 : Int32} {h0 : AH} {q142 : Nat → Int32 → Int32 → Int32 → Int32 → Int32 → Int32 → Int32 → Int32 → Int32 → Int32 → Int32 → AH → Option (Int32 × AH)} (cq142 : ∀ (k0 : Nat) (x2 : Int32) (x3 : Int32) (x5 : Int32) (x6 : Int32) (x7 : Int32) (x8 : Int32) (x9 : Int32) (x10 : Int32) (x11 : Int32) (x12 : Int32) (x13 : Int32) (h : AH), q142 k0 x2 x3 x5 x6 x7 x8 x9 x10 x11 x12 x13 h = some (r0, h0) → kd k0 = (0, 12) → V E (d + 1) K_X12_cobbler (ZI E r0 h0) h [(0, .ref k0), (2, .int x2), (3, .int x3), (5, .int x5), (6, .int x6), (7, .int x7), (8, .int x8), (9, .int x9), (10, .int x10), (11, .int x11), (12, .int x12), (13, .int x13)] [] 142) {k0 : Nat} {x2 : Int32} {x3 : Int32} {x5 : Int32} {x6 : Int32} {x7 : Int32} {x8 : Int32} {x9 : Int32} {x10 : Int32} {x11 : Int32} {x13 : Int32} {s0 : Int32} {s1 : Int32} {h : AH} (hf : f_X12_cobbler_177 q142 k0 x2 x3 x5 x6 x7 x8 x9 x10 x11 x13 s0 s1 h = some (r0, h0)) (t_k0 : kd k0 = (0, 12)) : V E (d + 1) K_X12_cobbler (ZI E r0 h0) h [(0, .ref k0), (2, .int x2), (3, .int x3), (5, .int x5), (6, .int x6), (7, .int x7), (8, .int x8), (9, .int x9), (10, .int x10), (11, .int x11), (13, .int x13)] [.int s0, .int s1] 177 := by
  unfold f_X12_cobbler_177 at hf
  refine V_iadd dX12_cobbler_177 ?_
  obtain ⟨x12_1, e_2, hf⟩ := nm_s hf
  refine V_istore (L' := [(12, .int x12_1), (0, .ref k0), (2, .int x2), (3, .int x3), (5, .int x5), (6, .int x6), (7, .int x7), (8, .int x8), (9, .int x9), (10, .int x10), (11, .int x11), (13, .int x13)]) dX12_cobbler_178 (Nat.le_of_ble_eq_true rfl) e_2 rfl ?_
  obtain ⟨x13_3, e_4, hf⟩ := nm_s hf
  refine V_iinc (a := 1) (L' := [(13, .int x13_3), (12, .int x12_1), (0, .ref k0), (2, .int x2), (3, .int x3), (5, .int x5), (6, .int x6), (7, .int x7), (8, .int x8), (9, .int x9), (10, .int x10), (11, .int x11)]) 11 dX12_cobbler_180 rfl (by decide) (Nat.le_of_ble_eq_true rfl) e_4 rfl ?_
  refine V_goto (tgt := 142) dX12_cobbler_183 (by decide) ?_
  refine V_sub [2, 3, 4, 5, 6, 7, 8, 9, 10, 11, 1, 0] rfl ?_
  exact cq142 _ _ _ _ _ _ _ _ _ _ _ _ _ hf t_k0
set_option maxHeartbeats 4000000 in
set_option maxRecDepth 100000 in
theorem v_X12_cobbler_210 {E : EV} {d : Nat} (hd : 1461 ≤ d) {r0 : Int32} {h0 : AH} {q121 : Nat → Int32 → Int32 → Int32 → Int32 → Int32 → Int32 → Int32 → Int32 → Int32 → AH → Option (Int32 × AH)} (cq121 : ∀ (k0 : Nat) (x2 : Int32) (x3 : Int32) (x5 : Int32) (x6 : Int32) (x7 : Int32) (x8 : Int32) (x9 : Int32) (x10 : Int32) (x11 : Int32) (h : AH), q121 k0 x2 x3 x5 x6 x7 x8 x9 x10 x11 h = some (r0, h0) → kd k0 = (0, 12) → V E (d + 1) K_X12_cobbler (ZI E r0 h0) h [(0, .ref k0), (2, .int x2), (3, .int x3), (5, .int x5), (6, .int x6), (7, .int x7), (8, .int x8), (9, .int x9), (10, .int x10), (11, .int x11)] [] 121) {k0 : Nat} {x2 : Int32} {x3 : Int32} {x5 : Int32} {x6 : Int32} {x7 : Int32} {x8 : Int32} {x9 : Int32} {x10 : Int32} {x11 : Int32} {h : AH} (hf : f_X12_cobbler_210 q121 k0 x2 x3 x5 x6 x7 x8 x9 x10 x11 h = some (r0, h0)) (t_k0 : kd k0 = (0, 12)) : V E (d + 1) K_X12_cobbler (ZI E r0 h0) h [(0, .ref k0), (2, .int x2), (3, .int x3), (5, .int x5), (6, .int x6), (7, .int x7), (8, .int x8), (9, .int x9), (10, .int x10), (11, .int x11)] [] 210 := by
  unfold f_X12_cobbler_210 at hf
  obtain ⟨x11_1, e_2, hf⟩ := nm_s hf
  refine V_iinc (a := 1) (L' := [(11, .int x11_1), (0, .ref k0), (2, .int x2), (3, .int x3), (5, .int x5), (6, .int x6), (7, .int x7), (8, .int x8), (9, .int x9), (10, .int x10)]) 9 dX12_cobbler_210 rfl (by decide) (Nat.le_of_ble_eq_true rfl) e_2 rfl ?_
  refine V_goto (tgt := 121) dX12_cobbler_213 (by decide) ?_
  refine V_sub [1, 2, 3, 4, 5, 6, 7, 8, 9, 0] rfl ?_
  exact cq121 _ _ _ _ _ _ _ _ _ _ _ hf t_k0
set_option maxHeartbeats 4000000 in
set_option maxRecDepth 100000 in
theorem v_X12_cobbler_202 {E : EV} {d : Nat} (hd : 1461 ≤ d) {r0 : Int32} {h0 : AH} {q121 : Nat → Int32 → Int32 → Int32 → Int32 → Int32 → Int32 → Int32 → Int32 → Int32 → AH → Option (Int32 × AH)} (cq121 : ∀ (k0 : Nat) (x2 : Int32) (x3 : Int32) (x5 : Int32) (x6 : Int32) (x7 : Int32) (x8 : Int32) (x9 : Int32) (x10 : Int32) (x11 : Int32) (h : AH), q121 k0 x2 x3 x5 x6 x7 x8 x9 x10 x11 h = some (r0, h0) → kd k0 = (0, 12) → V E (d + 1) K_X12_cobbler (ZI E r0 h0) h [(0, .ref k0), (2, .int x2), (3, .int x3), (5, .int x5), (6, .int x6), (7, .int x7), (8, .int x8), (9, .int x9), (10, .int x10), (11, .int x11)] [] 121) {k0 : Nat} {x2 : Int32} {x3 : Int32} {x5 : Int32} {x6 : Int32} {x7 : Int32} {x8 : Int32} {x11 : Int32} {x12 : Int32} {h : AH} (hf : f_X12_cobbler_202 q121 k0 x2 x3 x5 x6 x7 x8 x11 x12 h = some (r0, h0)) (t_k0 : kd k0 = (0, 12)) : V E (d + 1) K_X12_cobbler (ZI E r0 h0) h [(0, .ref k0), (2, .int x2), (3, .int x3), (5, .int x5), (6, .int x6), (7, .int x7), (8, .int x8), (11, .int x11), (12, .int x12)] [] 202 := by
  unfold f_X12_cobbler_202 at hf
  refine V_iload 7 dX12_cobbler_202 rfl ?_
  refine V_istore (L' := [(9, .int x11), (0, .ref k0), (2, .int x2), (3, .int x3), (5, .int x5), (6, .int x6), (7, .int x7), (8, .int x8), (11, .int x11), (12, .int x12)]) dX12_cobbler_204 (Nat.le_of_ble_eq_true rfl) rfl rfl ?_
  refine V_iload 9 dX12_cobbler_206 rfl ?_
  refine V_istore (L' := [(10, .int x12), (9, .int x11), (0, .ref k0), (2, .int x2), (3, .int x3), (5, .int x5), (6, .int x6), (7, .int x7), (8, .int x8), (11, .int x11), (12, .int x12)]) dX12_cobbler_208 (Nat.le_of_ble_eq_true rfl) rfl rfl ?_
  refine V_sub [2, 3, 4, 5, 6, 7, 8, 1, 0, 9] rfl ?_
  exact v_X12_cobbler_210 hd cq121 hf t_k0
set_option maxHeartbeats 4000000 in
set_option maxRecDepth 100000 in
theorem v_X12_cobbler_142 {E : EV} {d : Nat} (hd : 1461 ≤ d) {r0 : Int32} {h0 : AH} {q121 : Nat → Int32 → Int32 → Int32 → Int32 → Int32 → Int32 → Int32 → Int32 → Int32 → AH → Option (Int32 × AH)} (cq121 : ∀ (k0 : Nat) (x2 : Int32) (x3 : Int32) (x5 : Int32) (x6 : Int32) (x7 : Int32) (x8 : Int32) (x9 : Int32) (x10 : Int32) (x11 : Int32) (h : AH), q121 k0 x2 x3 x5 x6 x7 x8 x9 x10 x11 h = some (r0, h0) → kd k0 = (0, 12) → V E (d + 1) K_X12_cobbler (ZI E r0 h0) h [(0, .ref k0), (2, .int x2), (3, .int x3), (5, .int x5), (6, .int x6), (7, .int x7), (8, .int x8), (9, .int x9), (10, .int x10), (11, .int x11)] [] 121) : ∀ (n : Nat) (k0 : Nat) (x2 : Int32) (x3 : Int32) (x5 : Int32) (x6 : Int32) (x7 : Int32) (x8 : Int32) (x9 : Int32) (x10 : Int32) (x11 : Int32) (x12 : Int32) (x13 : Int32) (h : AH), f_X12_cobbler_142 q121 n k0 x2 x3 x5 x6 x7 x8 x9 x10 x11 x12 x13 h = some (r0, h0) → kd k0 = (0, 12) → V E (d + 1) K_X12_cobbler (ZI E r0 h0) h [(0, .ref k0), (2, .int x2), (3, .int x3), (5, .int x5), (6, .int x6), (7, .int x7), (8, .int x8), (9, .int x9), (10, .int x10), (11, .int x11), (12, .int x12), (13, .int x13)] [] 142 := by
  intro n
  induction n with
  | zero =>
    intro k0 x2 x3 x5 x6 x7 x8 x9 x10 x11 x12 x13 h hf
    rw [f_X12_cobbler_142] at hf
    cases hf
  | succ n ih =>
    intro k0 x2 x3 x5 x6 x7 x8 x9 x10 x11 x12 x13 h hf t_k0
    rw [f_X12_cobbler_142] at hf
    refine V_iload 11 dX12_cobbler_142 rfl ?_
    refine V_aload_n 0 dX12_cobbler_144 rfl rfl ?_
    refine V_getI F_X12_353 rfl t_k0 rfl dX12_cobbler_145 ?_
    refine V_ic_ge (tgt := 186) dX12_cobbler_148 (by decide) (fun c_1 => ?_) (fun c_1 => ?_)
    · have hf := it_s c_1 hf
      refine V_iload 7 dX12_cobbler_186 rfl ?_
      refine V_iconst (v := (-1)) dX12_cobbler_188 (by decide) ?_
      refine V_ic_eq (tgt := 202) dX12_cobbler_189 (by decide) (fun c_2 => ?_) (fun c_2 => ?_)
      · have hf := it_s c_2 hf
        refine V_sub [0, 1, 2, 3, 4, 5, 6, 9, 10] rfl ?_
        exact v_X12_cobbler_202 hd cq121 hf t_k0
      · have hf := if_s c_2 hf
        refine V_iload 10 dX12_cobbler_192 rfl ?_
        refine V_iload 8 dX12_cobbler_194 rfl ?_
        refine V_ic_gt (tgt := 202) dX12_cobbler_196 (by decide) (fun c_3 => ?_) (fun c_3 => ?_)
        · have hf := it_s c_3 hf
          refine V_sub [0, 1, 2, 3, 4, 5, 6, 9, 10] rfl ?_
          exact v_X12_cobbler_202 hd cq121 hf t_k0
        · have hf := if_s c_3 hf
          refine V_goto (tgt := 210) dX12_cobbler_199 (by decide) ?_
          refine V_sub [0, 1, 2, 3, 4, 5, 6, 7, 8, 9] rfl ?_
          exact v_X12_cobbler_210 hd cq121 hf t_k0
    · have hf := if_s c_1 hf
      refine V_aload_n 0 dX12_cobbler_151 rfl rfl ?_
      refine V_iload 11 dX12_cobbler_152 rfl ?_
      refine V_iload_n 1 dX12_cobbler_154 rfl rfl ?_
      refine V_iload 4 dX12_cobbler_155 rfl ?_
      obtain ⟨h_5, e_4, hf⟩ := ov_s hf
      refine V_cvv (As := [.int x13, .int x2, .int x6]) (rest := []) (c_X12_goWay (d := d) (Nat.le_trans (Nat.le_of_ble_eq_true rfl) hd) e_4 t_k0) ML_X12_370 MV_X12_goWay rfl t_k0 rfl rfl (Nat.le_of_ble_eq_true rfl) dX12_cobbler_157 ?_
      refine V_iload 10 dX12_cobbler_160 rfl ?_
      refine V_aload_n 0 dX12_cobbler_162 rfl rfl ?_
      refine V_getR F_X12_63 rfl t_k0 rfl dX12_cobbler_163 ?_
      refine V_iload_n 2 dX12_cobbler_166 rfl rfl ?_
      obtain ⟨b_6, hf⟩ := og_s hf
      refine V_iald (rfA t_k0 (Nat.le_of_ble_eq_true rfl) rfl rfl (by decide)) b_6 dX12_cobbler_167 ?_
      refine V_iload_n 2 dX12_cobbler_168 rfl rfl ?_
      refine V_ic_ne (tgt := 176) dX12_cobbler_169 (by decide) (fun c_7 => ?_) (fun c_7 => ?_)
      · have hf := if_s c_7 hf
        refine V_iconst (v := 0) dX12_cobbler_176 (by decide) ?_
        refine V_sub [0, 1, 2, 3, 4, 5, 6, 7, 8, 9, 11] rfl ?_
        exact v_X12_cobbler_177 hd ih hf t_k0
      · have hf := it_s c_7 hf
        refine V_iconst (v := 1) dX12_cobbler_172 (by decide) ?_
        refine V_goto (tgt := 177) dX12_cobbler_173 (by decide) ?_
        refine V_sub [0, 1, 2, 3, 4, 5, 6, 7, 8, 9, 11] rfl ?_
        exact v_X12_cobbler_177 hd ih hf t_k0
set_option maxHeartbeats 4000000 in
set_option maxRecDepth 100000 in
theorem v_X12_cobbler_244 {E : EV} {d : Nat} (hd : 1461 ≤ d) {r0 : Int32} {h0 : AH} {s0 : Int32} {h : AH} (hf : f_X12_cobbler_244 s0 h = some (r0, h0)) : V E (d + 1) K_X12_cobbler (ZI E r0 h0) h [] [.int s0] 244 := by
  unfold f_X12_cobbler_244 at hf
  exact V_iret rfl (so_s hf) dX12_cobbler_244
set_option maxHeartbeats 4000000 in
set_option maxRecDepth 100000 in
theorem v_X12_cobbler_121 {E : EV} {d : Nat} (hd : 1461 ≤ d) {r0 : Int32} {h0 : AH} : ∀ (n : Nat) (k0 : Nat) (x2 : Int32) (x3 : Int32) (x5 : Int32) (x6 : Int32) (x7 : Int32) (x8 : Int32) (x9 : Int32) (x10 : Int32) (x11 : Int32) (h : AH), f_X12_cobbler_121 n k0 x2 x3 x5 x6 x7 x8 x9 x10 x11 h = some (r0, h0) → kd k0 = (0, 12) → V E (d + 1) K_X12_cobbler (ZI E r0 h0) h [(0, .ref k0), (2, .int x2), (3, .int x3), (5, .int x5), (6, .int x6), (7, .int x7), (8, .int x8), (9, .int x9), (10, .int x10), (11, .int x11)] [] 121 := by
  intro n
  induction n with
  | zero =>
    intro k0 x2 x3 x5 x6 x7 x8 x9 x10 x11 h hf
    rw [f_X12_cobbler_121] at hf
    cases hf
  | succ n ih =>
    intro k0 x2 x3 x5 x6 x7 x8 x9 x10 x11 h hf t_k0
    rw [f_X12_cobbler_121] at hf
    refine V_iload 9 dX12_cobbler_121 rfl ?_
    refine V_bipush (v := 50) dX12_cobbler_123 (by decide) ?_
    refine V_ic_gt (tgt := 216) dX12_cobbler_125 (by decide) (fun c_1 => ?_) (fun c_1 => ?_)
    · have hf := it_s c_1 hf
      refine V_aload_n 0 dX12_cobbler_216 rfl rfl ?_
      refine V_getR F_X12_51 rfl t_k0 rfl dX12_cobbler_217 ?_
      refine V_iload_n 2 dX12_cobbler_220 rfl rfl ?_
      refine V_iload 5 dX12_cobbler_221 rfl ?_
      obtain ⟨b_2, hf⟩ := og_s hf
      obtain ⟨h_3, e_4, hf⟩ := nm_s hf
      refine V_iast (rfA t_k0 (Nat.le_of_ble_eq_true rfl) rfl rfl (by decide)) b_2 e_4 dX12_cobbler_223 ?_
      refine V_aload_n 0 dX12_cobbler_224 rfl rfl ?_
      refine V_getR F_X12_54 rfl t_k0 rfl dX12_cobbler_225 ?_
      refine V_iload_n 2 dX12_cobbler_228 rfl rfl ?_
      refine V_iload 6 dX12_cobbler_229 rfl ?_
      obtain ⟨b_5, hf⟩ := og_s hf
      obtain ⟨h_6, e_7, hf⟩ := nm_s hf
      refine V_iast (rfA t_k0 (Nat.le_of_ble_eq_true rfl) rfl rfl (by decide)) b_5 e_7 dX12_cobbler_231 ?_
      refine V_iload 3 dX12_cobbler_232 rfl ?_
      refine V_if_ne (tgt := 242) dX12_cobbler_234 (by decide) (fun c_8 => ?_) (fun c_8 => ?_)
      · have hf := if_s c_8 hf
        refine V_iload 8 dX12_cobbler_242 rfl ?_
        refine V_sub [] rfl ?_
        exact v_X12_cobbler_244 hd hf
      · have hf := it_s c_8 hf
        refine V_iload 7 dX12_cobbler_237 rfl ?_
        refine V_goto (tgt := 244) dX12_cobbler_239 (by decide) ?_
        refine V_sub [] rfl ?_
        exact v_X12_cobbler_244 hd hf
    · have hf := if_s c_1 hf
      refine V_aload_n 0 dX12_cobbler_128 rfl rfl ?_
      refine V_getR F_X12_51 rfl t_k0 rfl dX12_cobbler_129 ?_
      refine V_iload_n 2 dX12_cobbler_132 rfl rfl ?_
      refine V_iload 9 dX12_cobbler_133 rfl ?_
      obtain ⟨b_9, hf⟩ := og_s hf
      obtain ⟨h_10, e_11, hf⟩ := nm_s hf
      refine V_iast (rfA t_k0 (Nat.le_of_ble_eq_true rfl) rfl rfl (by decide)) b_9 e_11 dX12_cobbler_135 ?_
      refine V_iconst (v := 0) dX12_cobbler_136 (by decide) ?_
      refine V_istore (L' := [(12, .int 0), (0, .ref k0), (2, .int x2), (3, .int x3), (5, .int x5), (6, .int x6), (7, .int x7), (8, .int x8), (9, .int x9), (10, .int x10), (11, .int x11)]) dX12_cobbler_137 (Nat.le_of_ble_eq_true rfl) rfl rfl ?_
      refine V_iconst (v := 0) dX12_cobbler_139 (by decide) ?_
      refine V_istore (L' := [(13, .int 0), (12, .int 0), (0, .ref k0), (2, .int x2), (3, .int x3), (5, .int x5), (6, .int x6), (7, .int x7), (8, .int x8), (9, .int x9), (10, .int x10), (11, .int x11)]) dX12_cobbler_140 (Nat.le_of_ble_eq_true rfl) rfl rfl ?_
      refine V_sub [2, 3, 4, 5, 6, 7, 8, 9, 10, 11, 1, 0] rfl ?_
      exact v_X12_cobbler_142 hd ih FU _ _ _ _ _ _ _ _ _ _ _ _ _ hf t_k0
set_option maxHeartbeats 4000000 in
set_option maxRecDepth 100000 in
theorem v_X12_cobbler_74 {E : EV} {d : Nat} (hd : 1461 ≤ d) {r0 : Int32} {h0 : AH} {k0 : Nat} {x2 : Int32} {x3 : Int32} {x4 : Int32} {x5 : Int32} {x6 : Int32} {h : AH} (hf : f_X12_cobbler_74 k0 x2 x3 x4 x5 x6 h = some (r0, h0)) (t_k0 : kd k0 = (0, 12)) : V E (d + 1) K_X12_cobbler (ZI E r0 h0) h [(0, .ref k0), (2, .int x2), (3, .int x3), (4, .int x4), (5, .int x5), (6, .int x6)] [] 74 := by
  unfold f_X12_cobbler_74 at hf
  refine V_iload 5 dX12_cobbler_74 rfl ?_
  refine V_iconst (v := 1) dX12_cobbler_76 (by decide) ?_
  refine V_iload_n 2 dX12_cobbler_77 rfl rfl ?_
  refine V_ishl dX12_cobbler_78 ?_
  refine V_ior dX12_cobbler_79 ?_
  obtain ⟨x6_1, e_2, hf⟩ := nm_s hf
  refine V_istore (L' := [(6, .int x6_1), (0, .ref k0), (2, .int x2), (3, .int x3), (4, .int x4), (5, .int x5)]) dX12_cobbler_80 (Nat.le_of_ble_eq_true rfl) e_2 rfl ?_
  refine V_aload_n 1 dX12_cobbler_82 rfl rfl ?_
  refine V_getR F_X12_51 rfl t_k0 rfl dX12_cobbler_83 ?_
  refine V_iload_n 3 dX12_cobbler_86 rfl rfl ?_
  obtain ⟨b_3, hf⟩ := og_s hf
  refine V_iald (rfA t_k0 (Nat.le_of_ble_eq_true rfl) rfl rfl (by decide)) b_3 dX12_cobbler_87 ?_
  obtain ⟨x7_4, e_5, hf⟩ := nm_s hf
  refine V_istore (L' := [(7, .int x7_4), (6, .int x6_1), (0, .ref k0), (2, .int x2), (3, .int x3), (4, .int x4), (5, .int x5)]) dX12_cobbler_88 (Nat.le_of_ble_eq_true rfl) e_5 rfl ?_
  refine V_aload_n 2 dX12_cobbler_90 rfl rfl ?_
  refine V_getR F_X12_54 rfl t_k0 rfl dX12_cobbler_91 ?_
  refine V_iload_n 4 dX12_cobbler_94 rfl rfl ?_
  obtain ⟨b_6, hf⟩ := og_s hf
  refine V_iald (rfA t_k0 (Nat.le_of_ble_eq_true rfl) rfl rfl (by decide)) b_6 dX12_cobbler_95 ?_
  obtain ⟨x8_7, e_8, hf⟩ := nm_s hf
  refine V_istore (L' := [(8, .int x8_7), (7, .int x7_4), (6, .int x6_1), (0, .ref k0), (2, .int x2), (3, .int x3), (4, .int x4), (5, .int x5)]) dX12_cobbler_96 (Nat.le_of_ble_eq_true rfl) e_8 rfl ?_
  refine V_aload_n 3 dX12_cobbler_98 rfl rfl ?_
  refine V_getR F_X12_54 rfl t_k0 rfl dX12_cobbler_99 ?_
  refine V_iload_n 5 dX12_cobbler_102 rfl rfl ?_
  refine V_iload 6 dX12_cobbler_103 rfl ?_
  obtain ⟨b_9, hf⟩ := og_s hf
  obtain ⟨h_10, e_11, hf⟩ := nm_s hf
  refine V_iast (rfA t_k0 (Nat.le_of_ble_eq_true rfl) rfl rfl (by decide)) b_9 e_11 dX12_cobbler_105 ?_
  refine V_aload_n 3 dX12_cobbler_106 rfl rfl ?_
  refine V_iload_n 4 dX12_cobbler_107 rfl rfl ?_
  obtain ⟨h_13, e_12, hf⟩ := ov_s hf
  refine V_cvv (As := [.int x2]) (rest := []) (c_X12_allWays (d := d) (Nat.le_trans (Nat.le_of_ble_eq_true rfl) hd) e_12 t_k0) ML_X12_367 MV_X12_allWays rfl t_k0 rfl rfl (Nat.le_of_ble_eq_true rfl) dX12_cobbler_108 ?_
  refine V_iconst (v := (-1)) dX12_cobbler_111 (by decide) ?_
  refine V_istore (L' := [(9, .int (-1)), (8, .int x8_7), (7, .int x7_4), (6, .int x6_1), (0, .ref k0), (2, .int x2), (3, .int x3), (4, .int x4), (5, .int x5)]) dX12_cobbler_112 (Nat.le_of_ble_eq_true rfl) rfl rfl ?_
  refine V_iconst (v := 0) dX12_cobbler_114 (by decide) ?_
  refine V_istore (L' := [(10, .int 0), (9, .int (-1)), (8, .int x8_7), (7, .int x7_4), (6, .int x6_1), (0, .ref k0), (2, .int x2), (3, .int x3), (4, .int x4), (5, .int x5)]) dX12_cobbler_115 (Nat.le_of_ble_eq_true rfl) rfl rfl ?_
  refine V_bipush (v := 20) dX12_cobbler_117 (by decide) ?_
  refine V_istore (L' := [(11, .int 20), (10, .int 0), (9, .int (-1)), (8, .int x8_7), (7, .int x7_4), (6, .int x6_1), (0, .ref k0), (2, .int x2), (3, .int x3), (4, .int x4), (5, .int x5)]) dX12_cobbler_119 (Nat.le_of_ble_eq_true rfl) rfl rfl ?_
  refine V_sub [6, 7, 8, 10, 5, 4, 3, 2, 1, 0] rfl ?_
  exact v_X12_cobbler_121 hd FU _ _ _ _ _ _ _ _ _ _ _ hf t_k0
set_option maxHeartbeats 4000000 in
set_option maxRecDepth 100000 in
theorem c_X12_cobbler {E : EV} {d : Nat} (hd : 1461 + 1 ≤ d) {k0 : Nat} {x1 : Int32} {x2 : Int32} {x3 : Int32} {x4 : Int32} {x5 : Int32} {h : AH} {r0 : Int32} {h0 : AH} (hf : f_X12_cobbler k0 x1 x2 x3 x4 x5 h = some (r0, h0)) (t_k0 : kd k0 = (0, 12)) : Con E d K_X12_cobbler (ZI E r0 h0) [.ref k0, .int x1, .int x2, .int x3, .int x4, .int x5] h := by
  obtain ⟨d, rfl⟩ : ∃ d', d = d' + 1 := ⟨d - 1, by omega⟩
  have hd := Nat.le_of_succ_le_succ hd
  refine Con.ofV rfl (Nat.le_of_ble_eq_true rfl) ?_
  unfold f_X12_cobbler at hf
  show V E (d + 1) K_X12_cobbler (ZI E r0 h0) h [(0, .ref k0), (1, .int x1), (2, .int x2), (3, .int x3), (4, .int x4), (5, .int x5)] [] 0
  refine V_aload_n 0 dX12_cobbler_0 rfl rfl ?_
  refine V_iconst (v := 0) dX12_cobbler_1 (by decide) ?_
  obtain ⟨h_1, e_2, hf⟩ := nm_s hf
  refine V_putI P_X12_120 rfl t_k0 rfl e_2 dX12_cobbler_2 ?_
  refine V_aload_n 0 dX12_cobbler_5 rfl rfl ?_
  refine V_iload_n 1 dX12_cobbler_6 rfl rfl ?_
  refine V_iload_n 2 dX12_cobbler_7 rfl rfl ?_
  refine V_iload_n 3 dX12_cobbler_8 rfl rfl ?_
  obtain ⟨r_5, h_4, e_3, hf⟩ := ob_s hf
  refine V_cvi (As := [.int x1, .int x2, .int x3]) (rest := []) (c_X12_isGuest (d := d) (Nat.le_trans (Nat.le_of_ble_eq_true rfl) hd) e_3 t_k0) ML_X12_360 MV_X12_isGuest rfl t_k0 rfl rfl (Nat.le_of_ble_eq_true rfl) dX12_cobbler_9 ?_
  refine V_if_eq (tgt := 39) dX12_cobbler_12 (by decide) (fun c_6 => ?_) (fun c_6 => ?_)
  · have hf := it_s c_6 hf
    refine V_sub [] rfl ?_
    exact v_X12_cobbler_39 hd hf
  · have hf := if_s c_6 hf
    refine V_iload 4 dX12_cobbler_15 rfl ?_
    refine V_i2l dX12_cobbler_17 ?_
    refine V_lconst (v := 0) dX12_cobbler_18 (by decide) ?_
    refine V_ldc2 (v := 99) rfl kl_X12_419 dX12_cobbler_19 ?_
    obtain ⟨r_9, h_8, e_7, hf⟩ := ob_s hf
    refine V_csi (As := [.long ((x4).toInt64), .long 0, .long 99]) (rest := []) (c_X12_isIn (d := d) (Nat.le_trans (Nat.le_of_ble_eq_true rfl) hd) e_7) ML_X12_247 MS_X12_isIn rfl rfl rfl (Nat.le_of_ble_eq_true rfl) dX12_cobbler_22 ?_
    refine V_if_eq (tgt := 39) dX12_cobbler_25 (by decide) (fun c_10 => ?_) (fun c_10 => ?_)
    · have hf := it_s c_10 hf
      refine V_sub [] rfl ?_
      exact v_X12_cobbler_39 hd hf
    · have hf := if_s c_10 hf
      refine V_iload 5 dX12_cobbler_28 rfl ?_
      refine V_i2l dX12_cobbler_30 ?_
      refine V_lconst (v := 0) dX12_cobbler_31 (by decide) ?_
      refine V_lconst (v := 1) dX12_cobbler_32 (by decide) ?_
      obtain ⟨r_13, h_12, e_11, hf⟩ := ob_s hf
      refine V_csi (As := [.long ((x5).toInt64), .long 0, .long 1]) (rest := []) (c_X12_isIn (d := d) (Nat.le_trans (Nat.le_of_ble_eq_true rfl) hd) e_11) ML_X12_247 MS_X12_isIn rfl rfl rfl (Nat.le_of_ble_eq_true rfl) dX12_cobbler_33 ?_
      refine V_if_ne (tgt := 41) dX12_cobbler_36 (by decide) (fun c_14 => ?_) (fun c_14 => ?_)
      · have hf := if_s c_14 hf
        refine V_aload_n 0 dX12_cobbler_41 rfl rfl ?_
        refine V_iload_n 1 dX12_cobbler_42 rfl rfl ?_
        refine V_iload_n 2 dX12_cobbler_43 rfl rfl ?_
        obtain ⟨r_17, h_16, e_15, hf⟩ := ob_s hf
        refine V_cvi (As := [.int x1, .int x2]) (rest := []) (c_X12_doorOf (d := d) (Nat.le_trans (Nat.le_of_ble_eq_true rfl) hd) e_15 t_k0) ML_X12_335 MV_X12_doorOf rfl t_k0 rfl rfl (Nat.le_of_ble_eq_true rfl) dX12_cobbler_44 ?_
        refine V_istore (L' := [(6, .int r_17), (0, .ref k0), (1, .int x1), (2, .int x2), (3, .int x3), (4, .int x4), (5, .int x5)]) dX12_cobbler_47 (Nat.le_of_ble_eq_true rfl) rfl rfl ?_
        refine V_aload_n 1 dX12_cobbler_49 rfl rfl ?_
        refine V_getR F_X12_45 rfl t_k0 rfl dX12_cobbler_50 ?_
        refine V_iload_n 4 dX12_cobbler_53 rfl rfl ?_
        obtain ⟨b_18, hf⟩ := og_s hf
        refine V_iald (rfA t_k0 (Nat.le_of_ble_eq_true rfl) rfl rfl (by decide)) b_18 dX12_cobbler_54 ?_
        refine V_iconst (v := (-1)) dX12_cobbler_55 (by decide) ?_
        refine V_ic_eq (tgt := 74) dX12_cobbler_56 (by decide) (fun c_19 => ?_) (fun c_19 => ?_)
        · have hf := it_s c_19 hf
          refine V_sub [1, 3, 4, 5, 6, 0] rfl ?_
          exact v_X12_cobbler_74 hd hf t_k0
        · have hf := if_s c_19 hf
          refine V_iload 0 dX12_cobbler_59 rfl ?_
          refine V_iconst (v := 1) dX12_cobbler_61 (by decide) ?_
          refine V_aload_n 1 dX12_cobbler_62 rfl rfl ?_
          refine V_getR F_X12_45 rfl t_k0 rfl dX12_cobbler_63 ?_
          refine V_iload_n 4 dX12_cobbler_66 rfl rfl ?_
          obtain ⟨b_20, hf⟩ := og_s hf
          refine V_iald (rfA t_k0 (Nat.le_of_ble_eq_true rfl) rfl rfl (by decide)) b_20 dX12_cobbler_67 ?_
          refine V_ishl dX12_cobbler_68 ?_
          refine V_iconst (v := (-1)) dX12_cobbler_69 (by decide) ?_
          refine V_ixor dX12_cobbler_70 ?_
          refine V_iand dX12_cobbler_71 ?_
          obtain ⟨x6_21, e_22, hf⟩ := nm_s hf
          refine V_istore (L' := [(6, .int x6_21), (0, .ref k0), (1, .int x1), (2, .int x2), (3, .int x3), (4, .int x4), (5, .int x5)]) dX12_cobbler_72 (Nat.le_of_ble_eq_true rfl) e_22 rfl ?_
          refine V_sub [1, 3, 4, 5, 6, 0] rfl ?_
          exact v_X12_cobbler_74 hd hf t_k0
      · have hf := it_s c_14 hf
        refine V_sub [] rfl ?_
        exact v_X12_cobbler_39 hd hf
