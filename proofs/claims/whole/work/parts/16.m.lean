theorem dX12_image_0 : decode cX12_image 0 = .ok (.aload_n 0, 1) := by decide +kernel
theorem dX12_image_1 : decode cX12_image 1 = .ok (.iconst 0, 1) := by decide +kernel
theorem dX12_image_2 : decode cX12_image 2 = .ok (.putfield 120, 3) := by decide +kernel
theorem dX12_image_5 : decode cX12_image 5 = .ok (.aload_n 0, 1) := by decide +kernel
theorem dX12_image_6 : decode cX12_image 6 = .ok (.getfield 283, 3) := by decide +kernel
theorem dX12_image_9 : decode cX12_image 9 = .ok (.ifCond .ne 5, 3) := by decide +kernel
theorem dX12_image_12 : decode cX12_image 12 = .ok (.iconst (-1), 1) := by decide +kernel
theorem dX12_image_13 : decode cX12_image 13 = .ok (.ireturn, 1) := by decide +kernel
theorem dX12_image_14 : decode cX12_image 14 = .ok (.iconst 0, 1) := by decide +kernel
theorem dX12_image_15 : decode cX12_image 15 = .ok (.istore_n 1, 1) := by decide +kernel
theorem dX12_image_16 : decode cX12_image 16 = .ok (.iload_n 1, 1) := by decide +kernel
theorem dX12_image_17 : decode cX12_image 17 = .ok (.bipush 6, 2) := by decide +kernel
theorem dX12_image_19 : decode cX12_image 19 = .ok (.if_icmp .ge 55, 3) := by decide +kernel
theorem dX12_image_22 : decode cX12_image 22 = .ok (.aload_n 0, 1) := by decide +kernel
theorem dX12_image_23 : decode cX12_image 23 = .ok (.getfield 117, 3) := by decide +kernel
theorem dX12_image_26 : decode cX12_image 26 = .ok (.iconst 3, 1) := by decide +kernel
theorem dX12_image_27 : decode cX12_image 27 = .ok (.iload_n 1, 1) := by decide +kernel
theorem dX12_image_28 : decode cX12_image 28 = .ok (.imul, 1) := by decide +kernel
theorem dX12_image_29 : decode cX12_image 29 = .ok (.aload_n 0, 1) := by decide +kernel
theorem dX12_image_30 : decode cX12_image 30 = .ok (.getfield 45, 3) := by decide +kernel
theorem dX12_image_33 : decode cX12_image 33 = .ok (.iload_n 1, 1) := by decide +kernel
theorem dX12_image_34 : decode cX12_image 34 = .ok (.iaload, 1) := by decide +kernel
theorem dX12_image_35 : decode cX12_image 35 = .ok (.iastore, 1) := by decide +kernel
theorem dX12_image_36 : decode cX12_image 36 = .ok (.aload_n 0, 1) := by decide +kernel
theorem dX12_image_37 : decode cX12_image 37 = .ok (.getfield 117, 3) := by decide +kernel
theorem dX12_image_40 : decode cX12_image 40 = .ok (.iconst 3, 1) := by decide +kernel
theorem dX12_image_41 : decode cX12_image 41 = .ok (.iload_n 1, 1) := by decide +kernel
theorem dX12_image_42 : decode cX12_image 42 = .ok (.imul, 1) := by decide +kernel
theorem dX12_image_43 : decode cX12_image 43 = .ok (.iconst 1, 1) := by decide +kernel
theorem dX12_image_44 : decode cX12_image 44 = .ok (.iadd, 1) := by decide +kernel
theorem dX12_image_45 : decode cX12_image 45 = .ok (.aload_n 0, 1) := by decide +kernel
theorem dX12_image_46 : decode cX12_image 46 = .ok (.getfield 48, 3) := by decide +kernel
theorem dX12_image_49 : decode cX12_image 49 = .ok (.iload_n 1, 1) := by decide +kernel
theorem dX12_image_50 : decode cX12_image 50 = .ok (.iaload, 1) := by decide +kernel
theorem dX12_image_51 : decode cX12_image 51 = .ok (.iastore, 1) := by decide +kernel
theorem dX12_image_52 : decode cX12_image 52 = .ok (.aload_n 0, 1) := by decide +kernel
theorem dX12_image_53 : decode cX12_image 53 = .ok (.getfield 117, 3) := by decide +kernel
theorem dX12_image_56 : decode cX12_image 56 = .ok (.iconst 3, 1) := by decide +kernel
theorem dX12_image_57 : decode cX12_image 57 = .ok (.iload_n 1, 1) := by decide +kernel
theorem dX12_image_58 : decode cX12_image 58 = .ok (.imul, 1) := by decide +kernel
theorem dX12_image_59 : decode cX12_image 59 = .ok (.iconst 2, 1) := by decide +kernel
theorem dX12_image_60 : decode cX12_image 60 = .ok (.iadd, 1) := by decide +kernel
theorem dX12_image_61 : decode cX12_image 61 = .ok (.aload_n 0, 1) := by decide +kernel
theorem dX12_image_62 : decode cX12_image 62 = .ok (.getfield 54, 3) := by decide +kernel
theorem dX12_image_65 : decode cX12_image 65 = .ok (.iload_n 1, 1) := by decide +kernel
theorem dX12_image_66 : decode cX12_image 66 = .ok (.iaload, 1) := by decide +kernel
theorem dX12_image_67 : decode cX12_image 67 = .ok (.iastore, 1) := by decide +kernel
theorem dX12_image_68 : decode cX12_image 68 = .ok (.iinc 1 1, 3) := by decide +kernel
theorem dX12_image_71 : decode cX12_image 71 = .ok (.goto (-55), 3) := by decide +kernel
theorem dX12_image_74 : decode cX12_image 74 = .ok (.iconst 0, 1) := by decide +kernel
theorem dX12_image_75 : decode cX12_image 75 = .ok (.istore_n 1, 1) := by decide +kernel
theorem dX12_image_76 : decode cX12_image 76 = .ok (.iload_n 1, 1) := by decide +kernel
theorem dX12_image_77 : decode cX12_image 77 = .ok (.sipush 180, 3) := by decide +kernel
theorem dX12_image_80 : decode cX12_image 80 = .ok (.if_icmp .ge 24, 3) := by decide +kernel
theorem dX12_image_83 : decode cX12_image 83 = .ok (.aload_n 0, 1) := by decide +kernel
theorem dX12_image_84 : decode cX12_image 84 = .ok (.getfield 117, 3) := by decide +kernel
theorem dX12_image_87 : decode cX12_image 87 = .ok (.bipush 18, 2) := by decide +kernel
theorem dX12_image_89 : decode cX12_image 89 = .ok (.iload_n 1, 1) := by decide +kernel
theorem dX12_image_90 : decode cX12_image 90 = .ok (.iadd, 1) := by decide +kernel
theorem dX12_image_91 : decode cX12_image 91 = .ok (.aload_n 0, 1) := by decide +kernel
theorem dX12_image_92 : decode cX12_image 92 = .ok (.getfield 66, 3) := by decide +kernel
theorem dX12_image_95 : decode cX12_image 95 = .ok (.iload_n 1, 1) := by decide +kernel
theorem dX12_image_96 : decode cX12_image 96 = .ok (.iaload, 1) := by decide +kernel
theorem dX12_image_97 : decode cX12_image 97 = .ok (.iastore, 1) := by decide +kernel
theorem dX12_image_98 : decode cX12_image 98 = .ok (.iinc 1 1, 3) := by decide +kernel
theorem dX12_image_101 : decode cX12_image 101 = .ok (.goto (-25), 3) := by decide +kernel
theorem dX12_image_104 : decode cX12_image 104 = .ok (.iconst 0, 1) := by decide +kernel
theorem dX12_image_105 : decode cX12_image 105 = .ok (.istore_n 1, 1) := by decide +kernel
theorem dX12_image_106 : decode cX12_image 106 = .ok (.iload_n 1, 1) := by decide +kernel
theorem dX12_image_107 : decode cX12_image 107 = .ok (.bipush 20, 2) := by decide +kernel
theorem dX12_image_109 : decode cX12_image 109 = .ok (.if_icmp .ge 57, 3) := by decide +kernel
theorem dX12_image_112 : decode cX12_image 112 = .ok (.sipush 198, 3) := by decide +kernel
theorem dX12_image_115 : decode cX12_image 115 = .ok (.iconst 3, 1) := by decide +kernel
theorem dX12_image_116 : decode cX12_image 116 = .ok (.iload_n 1, 1) := by decide +kernel
theorem dX12_image_117 : decode cX12_image 117 = .ok (.imul, 1) := by decide +kernel
theorem dX12_image_118 : decode cX12_image 118 = .ok (.iadd, 1) := by decide +kernel
theorem dX12_image_119 : decode cX12_image 119 = .ok (.istore_n 2, 1) := by decide +kernel
theorem dX12_image_120 : decode cX12_image 120 = .ok (.aload_n 0, 1) := by decide +kernel
theorem dX12_image_121 : decode cX12_image 121 = .ok (.getfield 117, 3) := by decide +kernel
theorem dX12_image_124 : decode cX12_image 124 = .ok (.iload_n 2, 1) := by decide +kernel
theorem dX12_image_125 : decode cX12_image 125 = .ok (.aload_n 0, 1) := by decide +kernel
theorem dX12_image_126 : decode cX12_image 126 = .ok (.getfield 102, 3) := by decide +kernel
theorem dX12_image_129 : decode cX12_image 129 = .ok (.iload_n 1, 1) := by decide +kernel
theorem dX12_image_130 : decode cX12_image 130 = .ok (.iaload, 1) := by decide +kernel
theorem dX12_image_131 : decode cX12_image 131 = .ok (.iastore, 1) := by decide +kernel
theorem dX12_image_132 : decode cX12_image 132 = .ok (.aload_n 0, 1) := by decide +kernel
theorem dX12_image_133 : decode cX12_image 133 = .ok (.getfield 117, 3) := by decide +kernel
theorem dX12_image_136 : decode cX12_image 136 = .ok (.iload_n 2, 1) := by decide +kernel
theorem dX12_image_137 : decode cX12_image 137 = .ok (.iconst 1, 1) := by decide +kernel
theorem dX12_image_138 : decode cX12_image 138 = .ok (.iadd, 1) := by decide +kernel
theorem dX12_image_139 : decode cX12_image 139 = .ok (.aload_n 0, 1) := by decide +kernel
theorem dX12_image_140 : decode cX12_image 140 = .ok (.getfield 105, 3) := by decide +kernel
theorem dX12_image_143 : decode cX12_image 143 = .ok (.iload_n 1, 1) := by decide +kernel
theorem dX12_image_144 : decode cX12_image 144 = .ok (.iaload, 1) := by decide +kernel
theorem dX12_image_145 : decode cX12_image 145 = .ok (.iastore, 1) := by decide +kernel
theorem dX12_image_146 : decode cX12_image 146 = .ok (.aload_n 0, 1) := by decide +kernel
theorem dX12_image_147 : decode cX12_image 147 = .ok (.getfield 117, 3) := by decide +kernel
theorem dX12_image_150 : decode cX12_image 150 = .ok (.iload_n 2, 1) := by decide +kernel
theorem dX12_image_151 : decode cX12_image 151 = .ok (.iconst 2, 1) := by decide +kernel
theorem dX12_image_152 : decode cX12_image 152 = .ok (.iadd, 1) := by decide +kernel
theorem dX12_image_153 : decode cX12_image 153 = .ok (.aload_n 0, 1) := by decide +kernel
theorem dX12_image_154 : decode cX12_image 154 = .ok (.getfield 108, 3) := by decide +kernel
theorem dX12_image_157 : decode cX12_image 157 = .ok (.iload_n 1, 1) := by decide +kernel
theorem dX12_image_158 : decode cX12_image 158 = .ok (.iaload, 1) := by decide +kernel
theorem dX12_image_159 : decode cX12_image 159 = .ok (.iastore, 1) := by decide +kernel
theorem dX12_image_160 : decode cX12_image 160 = .ok (.iinc 1 1, 3) := by decide +kernel
theorem dX12_image_163 : decode cX12_image 163 = .ok (.goto (-57), 3) := by decide +kernel
theorem dX12_image_166 : decode cX12_image 166 = .ok (.aload_n 0, 1) := by decide +kernel
theorem dX12_image_167 : decode cX12_image 167 = .ok (.aload_n 0, 1) := by decide +kernel
theorem dX12_image_168 : decode cX12_image 168 = .ok (.getfield 286, 3) := by decide +kernel
theorem dX12_image_171 : decode cX12_image 171 = .ok (.putfield 462, 3) := by decide +kernel
theorem dX12_image_174 : decode cX12_image 174 = .ok (.aload_n 0, 1) := by decide +kernel
theorem dX12_image_175 : decode cX12_image 175 = .ok (.aload_n 0, 1) := by decide +kernel
theorem dX12_image_176 : decode cX12_image 176 = .ok (.getfield 289, 3) := by decide +kernel
theorem dX12_image_179 : decode cX12_image 179 = .ok (.putfield 465, 3) := by decide +kernel
theorem dX12_image_182 : decode cX12_image 182 = .ok (.aload_n 0, 1) := by decide +kernel
theorem dX12_image_183 : decode cX12_image 183 = .ok (.iconst 1, 1) := by decide +kernel
theorem dX12_image_184 : decode cX12_image 184 = .ok (.putfield 292, 3) := by decide +kernel
theorem dX12_image_187 : decode cX12_image 187 = .ok (.aload_n 0, 1) := by decide +kernel
theorem dX12_image_188 : decode cX12_image 188 = .ok (.getfield 286, 3) := by decide +kernel
theorem dX12_image_191 : decode cX12_image 191 = .ok (.ireturn, 1) := by decide +kernel
theorem P_X12_462 : FPk RX12 462 12 55 .int := ⟨RX12, TX12, 58, tyX12, rfl, rfl, iw_X12, by decide, Or.inl fl_X12_462, tyX12_ok, nmX12, rfl, by decide +kernel⟩
theorem P_X12_465 : FPk RX12 465 12 56 .int := ⟨RX12, TX12, 58, tyX12, rfl, rfl, iw_X12, by decide, Or.inl fl_X12_465, tyX12_ok, nmX12, rfl, by decide +kernel⟩
theorem P_X12_292 : FPk RX12 292 12 57 .boolean := ⟨RX12, TX12, 58, tyX12, rfl, rfl, iw_X12, by decide, Or.inl fl_X12_292, tyX12_ok, nmX12, rfl, by decide +kernel⟩
def f_X12_image_106 : Nat → Nat → Int32 → AH → Option (Int32 × AH)
  | 0, _, _, _ => none
  | n + 1, k0, x1, h =>
    if 20 ≤ x1 then (
      nm (sI h k0 55 (h.1 k0 32)) fun h_2 =>
      nm (sI h_2 k0 56 (h_2.1 k0 50)) fun h_4 =>
      nm (sI h_4 k0 57 1) fun h_6 =>
      some ((h_6.1 k0 32), h_6)
    ) else (
      nm ((198 + (3 * x1))) fun x2_8 =>
      og (ix x1 (an (rf k0 47))) <|
      og (ix x2_8 (an (rf k0 54))) <|
      nm (sI h (rf k0 54) x2_8.toNatClampNeg (h.1 (rf k0 47) x1.toNatClampNeg)) fun h_12 =>
      og (ix x1 (an (rf k0 48))) <|
      og (ix (x2_8 + 1) (an (rf k0 54))) <|
      nm (sI h_12 (rf k0 54) (x2_8 + 1).toNatClampNeg (h_12.1 (rf k0 48) x1.toNatClampNeg)) fun h_16 =>
      og (ix x1 (an (rf k0 49))) <|
      og (ix (x2_8 + 2) (an (rf k0 54))) <|
      nm (sI h_16 (rf k0 54) (x2_8 + 2).toNatClampNeg (h_16.1 (rf k0 49) x1.toNatClampNeg)) fun h_20 =>
      nm (x1 + 1) fun x1_22 =>
      f_X12_image_106 n k0 x1_22 h_20
    )
def f_X12_image_76 : Nat → Nat → Int32 → AH → Option (Int32 × AH)
  | 0, _, _, _ => none
  | n + 1, k0, x1, h =>
    if 180 ≤ x1 then (
      f_X12_image_106 FU k0 0 h
    ) else (
      og (ix x1 (an (rf k0 31))) <|
      og (ix (18 + x1) (an (rf k0 54))) <|
      nm (sI h (rf k0 54) (18 + x1).toNatClampNeg (h.1 (rf k0 31) x1.toNatClampNeg)) fun h_4 =>
      nm (x1 + 1) fun x1_6 =>
      f_X12_image_76 n k0 x1_6 h_4
    )
def f_X12_image_16 : Nat → Nat → Int32 → AH → Option (Int32 × AH)
  | 0, _, _, _ => none
  | n + 1, k0, x1, h =>
    if 6 ≤ x1 then (
      f_X12_image_76 FU k0 0 h
    ) else (
      og (ix x1 (an (rf k0 22))) <|
      og (ix (3 * x1) (an (rf k0 54))) <|
      nm (sI h (rf k0 54) (3 * x1).toNatClampNeg (h.1 (rf k0 22) x1.toNatClampNeg)) fun h_4 =>
      og (ix x1 (an (rf k0 23))) <|
      og (ix ((3 * x1) + 1) (an (rf k0 54))) <|
      nm (sI h_4 (rf k0 54) ((3 * x1) + 1).toNatClampNeg (h_4.1 (rf k0 23) x1.toNatClampNeg)) fun h_8 =>
      og (ix x1 (an (rf k0 25))) <|
      og (ix ((3 * x1) + 2) (an (rf k0 54))) <|
      nm (sI h_8 (rf k0 54) ((3 * x1) + 2).toNatClampNeg (h_8.1 (rf k0 25) x1.toNatClampNeg)) fun h_12 =>
      nm (x1 + 1) fun x1_14 =>
      f_X12_image_16 n k0 x1_14 h_12
    )
def f_X12_image (k0 : Nat) (h : AH) : Option (Int32 × AH) :=
  nm (sI h k0 0 0) fun h_1 =>
  if (h_1.1 k0 20) = 0 then (
    some ((-1), h_1)
  ) else (
    f_X12_image_16 FU k0 0 h_1
  )
set_option maxHeartbeats 4000000 in
set_option maxRecDepth 100000 in
theorem v_X12_image_106 {E : EV} {d : Nat} (hd : 0 ≤ d) {r0 : Int32} {h0 : AH} : ∀ (n : Nat) (k0 : Nat) (x1 : Int32) (h : AH), f_X12_image_106 n k0 x1 h = some (r0, h0) → kd k0 = (0, 12) → V E (d + 1) K_X12_image (ZI E r0 h0) h [(0, .ref k0), (1, .int x1)] [] 106 := by
  intro n
  induction n with
  | zero =>
    intro k0 x1 h hf
    rw [f_X12_image_106] at hf
    cases hf
  | succ n ih =>
    intro k0 x1 h hf t_k0
    rw [f_X12_image_106] at hf
    refine V_iload_n 1 dX12_image_106 rfl rfl ?_
    refine V_bipush (v := 20) dX12_image_107 (by decide) ?_
    refine V_ic_ge (tgt := 166) dX12_image_109 (by decide) (fun c_1 => ?_) (fun c_1 => ?_)
    · have hf := it_s c_1 hf
      refine V_aload_n 0 dX12_image_166 rfl rfl ?_
      refine V_aload_n 0 dX12_image_167 rfl rfl ?_
      refine V_getI F_X12_286 rfl t_k0 rfl dX12_image_168 ?_
      obtain ⟨h_2, e_3, hf⟩ := nm_s hf
      refine V_putI P_X12_462 rfl t_k0 rfl e_3 dX12_image_171 ?_
      refine V_aload_n 0 dX12_image_174 rfl rfl ?_
      refine V_aload_n 0 dX12_image_175 rfl rfl ?_
      refine V_getI F_X12_289 rfl t_k0 rfl dX12_image_176 ?_
      obtain ⟨h_4, e_5, hf⟩ := nm_s hf
      refine V_putI P_X12_465 rfl t_k0 rfl e_5 dX12_image_179 ?_
      refine V_aload_n 0 dX12_image_182 rfl rfl ?_
      refine V_iconst (v := 1) dX12_image_183 (by decide) ?_
      obtain ⟨h_6, e_7, hf⟩ := nm_s hf
      refine V_putZ P_X12_292 rfl t_k0 rfl (by decide) e_7 dX12_image_184 ?_
      refine V_aload_n 0 dX12_image_187 rfl rfl ?_
      refine V_getI F_X12_286 rfl t_k0 rfl dX12_image_188 ?_
      exact V_iret rfl (so_s hf) dX12_image_191
    · have hf := if_s c_1 hf
      refine V_sipush (v := 198) dX12_image_112 (by decide) ?_
      refine V_iconst (v := 3) dX12_image_115 (by decide) ?_
      refine V_iload_n 1 dX12_image_116 rfl rfl ?_
      refine V_imul dX12_image_117 ?_
      refine V_iadd dX12_image_118 ?_
      obtain ⟨x2_8, e_9, hf⟩ := nm_s hf
      refine V_istore_n (L' := [(2, .int x2_8), (0, .ref k0), (1, .int x1)]) dX12_image_119 rfl (Nat.le_of_ble_eq_true rfl) e_9 rfl ?_
      refine V_aload_n 1 dX12_image_120 rfl rfl ?_
      refine V_getR F_X12_117 rfl t_k0 rfl dX12_image_121 ?_
      refine V_iload_n 0 dX12_image_124 rfl rfl ?_
      refine V_aload_n 1 dX12_image_125 rfl rfl ?_
      refine V_getR F_X12_102 rfl t_k0 rfl dX12_image_126 ?_
      refine V_iload_n 2 dX12_image_129 rfl rfl ?_
      obtain ⟨b_10, hf⟩ := og_s hf
      refine V_iald (rfA t_k0 (Nat.le_of_ble_eq_true rfl) rfl rfl (by decide)) b_10 dX12_image_130 ?_
      obtain ⟨b_11, hf⟩ := og_s hf
      obtain ⟨h_12, e_13, hf⟩ := nm_s hf
      refine V_iast (rfA t_k0 (Nat.le_of_ble_eq_true rfl) rfl rfl (by decide)) b_11 e_13 dX12_image_131 ?_
      refine V_aload_n 1 dX12_image_132 rfl rfl ?_
      refine V_getR F_X12_117 rfl t_k0 rfl dX12_image_133 ?_
      refine V_iload_n 0 dX12_image_136 rfl rfl ?_
      refine V_iconst (v := 1) dX12_image_137 (by decide) ?_
      refine V_iadd dX12_image_138 ?_
      refine V_aload_n 1 dX12_image_139 rfl rfl ?_
      refine V_getR F_X12_105 rfl t_k0 rfl dX12_image_140 ?_
      refine V_iload_n 2 dX12_image_143 rfl rfl ?_
      obtain ⟨b_14, hf⟩ := og_s hf
      refine V_iald (rfA t_k0 (Nat.le_of_ble_eq_true rfl) rfl rfl (by decide)) b_14 dX12_image_144 ?_
      obtain ⟨b_15, hf⟩ := og_s hf
      obtain ⟨h_16, e_17, hf⟩ := nm_s hf
      refine V_iast (rfA t_k0 (Nat.le_of_ble_eq_true rfl) rfl rfl (by decide)) b_15 e_17 dX12_image_145 ?_
      refine V_aload_n 1 dX12_image_146 rfl rfl ?_
      refine V_getR F_X12_117 rfl t_k0 rfl dX12_image_147 ?_
      refine V_iload_n 0 dX12_image_150 rfl rfl ?_
      refine V_iconst (v := 2) dX12_image_151 (by decide) ?_
      refine V_iadd dX12_image_152 ?_
      refine V_aload_n 1 dX12_image_153 rfl rfl ?_
      refine V_getR F_X12_108 rfl t_k0 rfl dX12_image_154 ?_
      refine V_iload_n 2 dX12_image_157 rfl rfl ?_
      obtain ⟨b_18, hf⟩ := og_s hf
      refine V_iald (rfA t_k0 (Nat.le_of_ble_eq_true rfl) rfl rfl (by decide)) b_18 dX12_image_158 ?_
      obtain ⟨b_19, hf⟩ := og_s hf
      obtain ⟨h_20, e_21, hf⟩ := nm_s hf
      refine V_iast (rfA t_k0 (Nat.le_of_ble_eq_true rfl) rfl rfl (by decide)) b_19 e_21 dX12_image_159 ?_
      obtain ⟨x1_22, e_23, hf⟩ := nm_s hf
      refine V_iinc (a := 1) (L' := [(1, .int x1_22), (2, .int x2_8), (0, .ref k0)]) 2 dX12_image_160 rfl (by decide) (Nat.le_of_ble_eq_true rfl) e_23 rfl ?_
      refine V_goto (tgt := 106) dX12_image_163 (by decide) ?_
      refine V_sub [2, 0] rfl ?_
      exact ih _ _ _ hf t_k0
set_option maxHeartbeats 4000000 in
set_option maxRecDepth 100000 in
theorem v_X12_image_76 {E : EV} {d : Nat} (hd : 0 ≤ d) {r0 : Int32} {h0 : AH} : ∀ (n : Nat) (k0 : Nat) (x1 : Int32) (h : AH), f_X12_image_76 n k0 x1 h = some (r0, h0) → kd k0 = (0, 12) → V E (d + 1) K_X12_image (ZI E r0 h0) h [(0, .ref k0), (1, .int x1)] [] 76 := by
  intro n
  induction n with
  | zero =>
    intro k0 x1 h hf
    rw [f_X12_image_76] at hf
    cases hf
  | succ n ih =>
    intro k0 x1 h hf t_k0
    rw [f_X12_image_76] at hf
    refine V_iload_n 1 dX12_image_76 rfl rfl ?_
    refine V_sipush (v := 180) dX12_image_77 (by decide) ?_
    refine V_ic_ge (tgt := 104) dX12_image_80 (by decide) (fun c_1 => ?_) (fun c_1 => ?_)
    · have hf := it_s c_1 hf
      refine V_iconst (v := 0) dX12_image_104 (by decide) ?_
      refine V_istore_n (L' := [(1, .int 0), (0, .ref k0)]) dX12_image_105 rfl (Nat.le_of_ble_eq_true rfl) rfl rfl ?_
      refine V_sub [1, 0] rfl ?_
      exact v_X12_image_106 hd FU _ _ _ hf t_k0
    · have hf := if_s c_1 hf
      refine V_aload_n 0 dX12_image_83 rfl rfl ?_
      refine V_getR F_X12_117 rfl t_k0 rfl dX12_image_84 ?_
      refine V_bipush (v := 18) dX12_image_87 (by decide) ?_
      refine V_iload_n 1 dX12_image_89 rfl rfl ?_
      refine V_iadd dX12_image_90 ?_
      refine V_aload_n 0 dX12_image_91 rfl rfl ?_
      refine V_getR F_X12_66 rfl t_k0 rfl dX12_image_92 ?_
      refine V_iload_n 1 dX12_image_95 rfl rfl ?_
      obtain ⟨b_2, hf⟩ := og_s hf
      refine V_iald (rfA t_k0 (Nat.le_of_ble_eq_true rfl) rfl rfl (by decide)) b_2 dX12_image_96 ?_
      obtain ⟨b_3, hf⟩ := og_s hf
      obtain ⟨h_4, e_5, hf⟩ := nm_s hf
      refine V_iast (rfA t_k0 (Nat.le_of_ble_eq_true rfl) rfl rfl (by decide)) b_3 e_5 dX12_image_97 ?_
      obtain ⟨x1_6, e_7, hf⟩ := nm_s hf
      refine V_iinc (a := 1) (L' := [(1, .int x1_6), (0, .ref k0)]) 1 dX12_image_98 rfl (by decide) (Nat.le_of_ble_eq_true rfl) e_7 rfl ?_
      refine V_goto (tgt := 76) dX12_image_101 (by decide) ?_
      refine V_sub [1, 0] rfl ?_
      exact ih _ _ _ hf t_k0
set_option maxHeartbeats 4000000 in
set_option maxRecDepth 100000 in
theorem v_X12_image_16 {E : EV} {d : Nat} (hd : 0 ≤ d) {r0 : Int32} {h0 : AH} : ∀ (n : Nat) (k0 : Nat) (x1 : Int32) (h : AH), f_X12_image_16 n k0 x1 h = some (r0, h0) → kd k0 = (0, 12) → V E (d + 1) K_X12_image (ZI E r0 h0) h [(0, .ref k0), (1, .int x1)] [] 16 := by
  intro n
  induction n with
  | zero =>
    intro k0 x1 h hf
    rw [f_X12_image_16] at hf
    cases hf
  | succ n ih =>
    intro k0 x1 h hf t_k0
    rw [f_X12_image_16] at hf
    refine V_iload_n 1 dX12_image_16 rfl rfl ?_
    refine V_bipush (v := 6) dX12_image_17 (by decide) ?_
    refine V_ic_ge (tgt := 74) dX12_image_19 (by decide) (fun c_1 => ?_) (fun c_1 => ?_)
    · have hf := it_s c_1 hf
      refine V_iconst (v := 0) dX12_image_74 (by decide) ?_
      refine V_istore_n (L' := [(1, .int 0), (0, .ref k0)]) dX12_image_75 rfl (Nat.le_of_ble_eq_true rfl) rfl rfl ?_
      refine V_sub [1, 0] rfl ?_
      exact v_X12_image_76 hd FU _ _ _ hf t_k0
    · have hf := if_s c_1 hf
      refine V_aload_n 0 dX12_image_22 rfl rfl ?_
      refine V_getR F_X12_117 rfl t_k0 rfl dX12_image_23 ?_
      refine V_iconst (v := 3) dX12_image_26 (by decide) ?_
      refine V_iload_n 1 dX12_image_27 rfl rfl ?_
      refine V_imul dX12_image_28 ?_
      refine V_aload_n 0 dX12_image_29 rfl rfl ?_
      refine V_getR F_X12_45 rfl t_k0 rfl dX12_image_30 ?_
      refine V_iload_n 1 dX12_image_33 rfl rfl ?_
      obtain ⟨b_2, hf⟩ := og_s hf
      refine V_iald (rfA t_k0 (Nat.le_of_ble_eq_true rfl) rfl rfl (by decide)) b_2 dX12_image_34 ?_
      obtain ⟨b_3, hf⟩ := og_s hf
      obtain ⟨h_4, e_5, hf⟩ := nm_s hf
      refine V_iast (rfA t_k0 (Nat.le_of_ble_eq_true rfl) rfl rfl (by decide)) b_3 e_5 dX12_image_35 ?_
      refine V_aload_n 0 dX12_image_36 rfl rfl ?_
      refine V_getR F_X12_117 rfl t_k0 rfl dX12_image_37 ?_
      refine V_iconst (v := 3) dX12_image_40 (by decide) ?_
      refine V_iload_n 1 dX12_image_41 rfl rfl ?_
      refine V_imul dX12_image_42 ?_
      refine V_iconst (v := 1) dX12_image_43 (by decide) ?_
      refine V_iadd dX12_image_44 ?_
      refine V_aload_n 0 dX12_image_45 rfl rfl ?_
      refine V_getR F_X12_48 rfl t_k0 rfl dX12_image_46 ?_
      refine V_iload_n 1 dX12_image_49 rfl rfl ?_
      obtain ⟨b_6, hf⟩ := og_s hf
      refine V_iald (rfA t_k0 (Nat.le_of_ble_eq_true rfl) rfl rfl (by decide)) b_6 dX12_image_50 ?_
      obtain ⟨b_7, hf⟩ := og_s hf
      obtain ⟨h_8, e_9, hf⟩ := nm_s hf
      refine V_iast (rfA t_k0 (Nat.le_of_ble_eq_true rfl) rfl rfl (by decide)) b_7 e_9 dX12_image_51 ?_
      refine V_aload_n 0 dX12_image_52 rfl rfl ?_
      refine V_getR F_X12_117 rfl t_k0 rfl dX12_image_53 ?_
      refine V_iconst (v := 3) dX12_image_56 (by decide) ?_
      refine V_iload_n 1 dX12_image_57 rfl rfl ?_
      refine V_imul dX12_image_58 ?_
      refine V_iconst (v := 2) dX12_image_59 (by decide) ?_
      refine V_iadd dX12_image_60 ?_
      refine V_aload_n 0 dX12_image_61 rfl rfl ?_
      refine V_getR F_X12_54 rfl t_k0 rfl dX12_image_62 ?_
      refine V_iload_n 1 dX12_image_65 rfl rfl ?_
      obtain ⟨b_10, hf⟩ := og_s hf
      refine V_iald (rfA t_k0 (Nat.le_of_ble_eq_true rfl) rfl rfl (by decide)) b_10 dX12_image_66 ?_
      obtain ⟨b_11, hf⟩ := og_s hf
      obtain ⟨h_12, e_13, hf⟩ := nm_s hf
      refine V_iast (rfA t_k0 (Nat.le_of_ble_eq_true rfl) rfl rfl (by decide)) b_11 e_13 dX12_image_67 ?_
      obtain ⟨x1_14, e_15, hf⟩ := nm_s hf
      refine V_iinc (a := 1) (L' := [(1, .int x1_14), (0, .ref k0)]) 1 dX12_image_68 rfl (by decide) (Nat.le_of_ble_eq_true rfl) e_15 rfl ?_
      refine V_goto (tgt := 16) dX12_image_71 (by decide) ?_
      refine V_sub [1, 0] rfl ?_
      exact ih _ _ _ hf t_k0
set_option maxHeartbeats 4000000 in
set_option maxRecDepth 100000 in
theorem c_X12_image {E : EV} {d : Nat} (hd : 0 + 1 ≤ d) {k0 : Nat} {h : AH} {r0 : Int32} {h0 : AH} (hf : f_X12_image k0 h = some (r0, h0)) (t_k0 : kd k0 = (0, 12)) : Con E d K_X12_image (ZI E r0 h0) [.ref k0] h := by
  obtain ⟨d, rfl⟩ : ∃ d', d = d' + 1 := ⟨d - 1, by omega⟩
  have hd := Nat.le_of_succ_le_succ hd
  refine Con.ofV rfl (Nat.le_of_ble_eq_true rfl) ?_
  unfold f_X12_image at hf
  show V E (d + 1) K_X12_image (ZI E r0 h0) h [(0, .ref k0)] [] 0
  refine V_aload_n 0 dX12_image_0 rfl rfl ?_
  refine V_iconst (v := 0) dX12_image_1 (by decide) ?_
  obtain ⟨h_1, e_2, hf⟩ := nm_s hf
  refine V_putI P_X12_120 rfl t_k0 rfl e_2 dX12_image_2 ?_
  refine V_aload_n 0 dX12_image_5 rfl rfl ?_
  refine V_getI F_X12_283 rfl t_k0 rfl dX12_image_6 ?_
  refine V_if_ne (tgt := 14) dX12_image_9 (by decide) (fun c_3 => ?_) (fun c_3 => ?_)
  · have hf := if_s c_3 hf
    refine V_iconst (v := 0) dX12_image_14 (by decide) ?_
    refine V_istore_n (L' := [(1, .int 0), (0, .ref k0)]) dX12_image_15 rfl (Nat.le_of_ble_eq_true rfl) rfl rfl ?_
    refine V_sub [1, 0] rfl ?_
    exact v_X12_image_16 hd FU _ _ _ hf t_k0
  · have hf := it_s c_3 hf
    refine V_iconst (v := (-1)) dX12_image_12 (by decide) ?_
    exact V_iret rfl (so_s hf) dX12_image_13
theorem dX12_isRest_0 : decode cX12_isRest 0 = .ok (.iconst 0, 1) := by decide +kernel
theorem dX12_isRest_1 : decode cX12_isRest 1 = .ok (.istore 4, 2) := by decide +kernel
theorem dX12_isRest_3 : decode cX12_isRest 3 = .ok (.iload 4, 2) := by decide +kernel
theorem dX12_isRest_5 : decode cX12_isRest 5 = .ok (.aload_n 0, 1) := by decide +kernel
theorem dX12_isRest_6 : decode cX12_isRest 6 = .ok (.getfield 283, 3) := by decide +kernel
theorem dX12_isRest_9 : decode cX12_isRest 9 = .ok (.if_icmp .ge 108, 3) := by decide +kernel
theorem dX12_isRest_12 : decode cX12_isRest 12 = .ok (.iload_n 2, 1) := by decide +kernel
theorem dX12_isRest_13 : decode cX12_isRest 13 = .ok (.iload 4, 2) := by decide +kernel
theorem dX12_isRest_15 : decode cX12_isRest 15 = .ok (.invokestatic 258, 3) := by decide +kernel
theorem dX12_isRest_18 : decode cX12_isRest 18 = .ok (.ifCond .ne 6, 3) := by decide +kernel
theorem dX12_isRest_21 : decode cX12_isRest 21 = .ok (.goto 90, 3) := by decide +kernel
theorem dX12_isRest_24 : decode cX12_isRest 24 = .ok (.aload_n 0, 1) := by decide +kernel
theorem dX12_isRest_25 : decode cX12_isRest 25 = .ok (.getfield 75, 3) := by decide +kernel
theorem dX12_isRest_28 : decode cX12_isRest 28 = .ok (.iload 4, 2) := by decide +kernel
theorem dX12_isRest_30 : decode cX12_isRest 30 = .ok (.iaload, 1) := by decide +kernel
theorem dX12_isRest_31 : decode cX12_isRest 31 = .ok (.istore 5, 2) := by decide +kernel
theorem dX12_isRest_33 : decode cX12_isRest 33 = .ok (.aload_n 0, 1) := by decide +kernel
theorem dX12_isRest_34 : decode cX12_isRest 34 = .ok (.iload 4, 2) := by decide +kernel
theorem dX12_isRest_36 : decode cX12_isRest 36 = .ok (.iload_n 1, 1) := by decide +kernel
theorem dX12_isRest_37 : decode cX12_isRest 37 = .ok (.iload_n 2, 1) := by decide +kernel
theorem dX12_isRest_38 : decode cX12_isRest 38 = .ok (.invokevirtual 385, 3) := by decide +kernel
theorem dX12_isRest_41 : decode cX12_isRest 41 = .ok (.istore 6, 2) := by decide +kernel
theorem dX12_isRest_43 : decode cX12_isRest 43 = .ok (.iconst 0, 1) := by decide +kernel
theorem dX12_isRest_44 : decode cX12_isRest 44 = .ok (.istore 7, 2) := by decide +kernel
theorem dX12_isRest_46 : decode cX12_isRest 46 = .ok (.iconst 0, 1) := by decide +kernel
theorem dX12_isRest_47 : decode cX12_isRest 47 = .ok (.istore 8, 2) := by decide +kernel
theorem dX12_isRest_49 : decode cX12_isRest 49 = .ok (.iload 8, 2) := by decide +kernel
theorem dX12_isRest_51 : decode cX12_isRest 51 = .ok (.iload_n 3, 1) := by decide +kernel
theorem dX12_isRest_52 : decode cX12_isRest 52 = .ok (.if_icmp .gt 43, 3) := by decide +kernel
theorem dX12_isRest_55 : decode cX12_isRest 55 = .ok (.aload_n 0, 1) := by decide +kernel
theorem dX12_isRest_56 : decode cX12_isRest 56 = .ok (.getfield 75, 3) := by decide +kernel
theorem dX12_isRest_59 : decode cX12_isRest 59 = .ok (.iload 4, 2) := by decide +kernel
theorem dX12_isRest_61 : decode cX12_isRest 61 = .ok (.iload 8, 2) := by decide +kernel
theorem dX12_isRest_63 : decode cX12_isRest 63 = .ok (.iastore, 1) := by decide +kernel
theorem dX12_isRest_64 : decode cX12_isRest 64 = .ok (.iload 7, 2) := by decide +kernel
theorem dX12_isRest_66 : decode cX12_isRest 66 = .ok (.ifCond .ne 16, 3) := by decide +kernel
theorem dX12_isRest_69 : decode cX12_isRest 69 = .ok (.aload_n 0, 1) := by decide +kernel
theorem dX12_isRest_70 : decode cX12_isRest 70 = .ok (.iload 4, 2) := by decide +kernel
theorem dX12_isRest_72 : decode cX12_isRest 72 = .ok (.iload_n 1, 1) := by decide +kernel
theorem dX12_isRest_73 : decode cX12_isRest 73 = .ok (.iload_n 2, 1) := by decide +kernel
theorem dX12_isRest_74 : decode cX12_isRest 74 = .ok (.invokevirtual 385, 3) := by decide +kernel
theorem dX12_isRest_77 : decode cX12_isRest 77 = .ok (.iload 6, 2) := by decide +kernel
theorem dX12_isRest_79 : decode cX12_isRest 79 = .ok (.if_icmp .le 7, 3) := by decide +kernel
theorem dX12_isRest_82 : decode cX12_isRest 82 = .ok (.iconst 1, 1) := by decide +kernel
theorem dX12_isRest_83 : decode cX12_isRest 83 = .ok (.goto 4, 3) := by decide +kernel
theorem dX12_isRest_86 : decode cX12_isRest 86 = .ok (.iconst 0, 1) := by decide +kernel
theorem dX12_isRest_87 : decode cX12_isRest 87 = .ok (.istore 7, 2) := by decide +kernel
theorem dX12_isRest_89 : decode cX12_isRest 89 = .ok (.iinc 8 1, 3) := by decide +kernel
theorem dX12_isRest_92 : decode cX12_isRest 92 = .ok (.goto (-43), 3) := by decide +kernel
theorem dX12_isRest_95 : decode cX12_isRest 95 = .ok (.aload_n 0, 1) := by decide +kernel
theorem dX12_isRest_96 : decode cX12_isRest 96 = .ok (.getfield 75, 3) := by decide +kernel
theorem dX12_isRest_99 : decode cX12_isRest 99 = .ok (.iload 4, 2) := by decide +kernel
theorem dX12_isRest_101 : decode cX12_isRest 101 = .ok (.iload 5, 2) := by decide +kernel
theorem dX12_isRest_103 : decode cX12_isRest 103 = .ok (.iastore, 1) := by decide +kernel
theorem dX12_isRest_104 : decode cX12_isRest 104 = .ok (.iload 7, 2) := by decide +kernel
theorem dX12_isRest_106 : decode cX12_isRest 106 = .ok (.ifCond .eq 5, 3) := by decide +kernel
theorem dX12_isRest_109 : decode cX12_isRest 109 = .ok (.iconst 0, 1) := by decide +kernel
theorem dX12_isRest_110 : decode cX12_isRest 110 = .ok (.ireturn, 1) := by decide +kernel
theorem dX12_isRest_111 : decode cX12_isRest 111 = .ok (.iinc 4 1, 3) := by decide +kernel
theorem dX12_isRest_114 : decode cX12_isRest 114 = .ok (.goto (-111), 3) := by decide +kernel
theorem dX12_isRest_117 : decode cX12_isRest 117 = .ok (.iconst 1, 1) := by decide +kernel
theorem dX12_isRest_118 : decode cX12_isRest 118 = .ok (.ireturn, 1) := by decide +kernel
theorem ML_X12_385 : MLk RX12 385 yX12_gainOf := Or.inl ml_X12_385
theorem MV_X12_gainOf : MVk K_X12_gainOf 3 12 := ⟨⟨cd_X12_gainOf, in_X12, ⟨by decide, by decide, by decide +kernel⟩, by decide⟩, im_X12_gainOf, se_X12_gainOf, _, _, rfl⟩
def f_X12_isRest_111 (q3 : Nat → Int32 → Int32 → Int32 → Int32 → AH → Option (Int32 × AH)) (k0 : Nat) (x1 : Int32) (x2 : Int32) (x3 : Int32) (x4 : Int32) (h : AH) : Option (Int32 × AH) :=
  nm (x4 + 1) fun x4_1 =>
  q3 k0 x1 x2 x3 x4_1 h
def f_X12_isRest_87 (q49 : Nat → Int32 → Int32 → Int32 → Int32 → Int32 → Int32 → Int32 → Int32 → AH → Option (Int32 × AH)) (k0 : Nat) (x1 : Int32) (x2 : Int32) (x3 : Int32) (x4 : Int32) (x5 : Int32) (x6 : Int32) (x8 : Int32) (s0 : Int32) (h : AH) : Option (Int32 × AH) :=
  nm (x8 + 1) fun x8_1 =>
  q49 k0 x1 x2 x3 x4 x5 x6 s0 x8_1 h
def f_X12_isRest_82 (q49 : Nat → Int32 → Int32 → Int32 → Int32 → Int32 → Int32 → Int32 → Int32 → AH → Option (Int32 × AH)) (k0 : Nat) (x1 : Int32) (x2 : Int32) (x3 : Int32) (x4 : Int32) (x5 : Int32) (x6 : Int32) (x8 : Int32) (h : AH) : Option (Int32 × AH) :=
  f_X12_isRest_87 q49 k0 x1 x2 x3 x4 x5 x6 x8 1 h
def f_X12_isRest_49 (q3 : Nat → Int32 → Int32 → Int32 → Int32 → AH → Option (Int32 × AH)) : Nat → Nat → Int32 → Int32 → Int32 → Int32 → Int32 → Int32 → Int32 → Int32 → AH → Option (Int32 × AH)
  | 0, _, _, _, _, _, _, _, _, _, _ => none
  | n + 1, k0, x1, x2, x3, x4, x5, x6, x7, x8, h =>
    if x3 < x8 then (
      og (ix x4 (an (rf k0 36))) <|
      nm (sI h (rf k0 36) x4.toNatClampNeg x5) fun h_3 =>
      if x7 = 0 then (
        f_X12_isRest_111 q3 k0 x1 x2 x3 x4 h_3
      ) else (
        some (0, h_3)
      )
    ) else (
      og (ix x4 (an (rf k0 36))) <|
      nm (sI h (rf k0 36) x4.toNatClampNeg x8) fun h_7 =>
      if x7 = 0 then (
        ob (f_X12_gainOf k0 x4 x1 x2 h_7) fun r_12 h_11 =>
        if r_12 ≤ x6 then (
          f_X12_isRest_87 (f_X12_isRest_49 q3 n) k0 x1 x2 x3 x4 x5 x6 x8 0 h_11
        ) else (
          f_X12_isRest_82 (f_X12_isRest_49 q3 n) k0 x1 x2 x3 x4 x5 x6 x8 h_11
        )
      ) else (
        f_X12_isRest_82 (f_X12_isRest_49 q3 n) k0 x1 x2 x3 x4 x5 x6 x8 h_7
      )
    )
def f_X12_isRest_3 : Nat → Nat → Int32 → Int32 → Int32 → Int32 → AH → Option (Int32 × AH)
  | 0, _, _, _, _, _, _ => none
  | n + 1, k0, x1, x2, x3, x4, h =>
    if (h.1 k0 20) ≤ x4 then (
      some (1, h)
    ) else (
      ob (f_X12_has x2 x4 h) fun r_4 h_3 =>
      if r_4 = 0 then (
        f_X12_isRest_111 (f_X12_isRest_3 n) k0 x1 x2 x3 x4 h_3
      ) else (
        og (ix x4 (an (rf k0 36))) <|
        nm ((h_3.1 (rf k0 36) x4.toNatClampNeg)) fun x5_7 =>
        ob (f_X12_gainOf k0 x4 x1 x2 h_3) fun r_11 h_10 =>
        f_X12_isRest_49 (f_X12_isRest_3 n) FU k0 x1 x2 x3 x4 x5_7 r_11 0 0 h_10
      )
    )
def f_X12_isRest (k0 : Nat) (x1 : Int32) (x2 : Int32) (x3 : Int32) (h : AH) : Option (Int32 × AH) :=
  f_X12_isRest_3 FU k0 x1 x2 x3 0 h
set_option maxHeartbeats 4000000 in
set_option maxRecDepth 100000 in
theorem v_X12_isRest_111 {E : EV} {d : Nat} (hd : 1461 ≤ d) {r0 : Int32} {h0 : AH} {q3 : Nat → Int32 → Int32 → Int32 → Int32 → AH → Option (Int32 × AH)} (cq3 : ∀ (k0 : Nat) (x1 : Int32) (x2 : Int32) (x3 : Int32) (x4 : Int32) (h : AH), q3 k0 x1 x2 x3 x4 h = some (r0, h0) → kd k0 = (0, 12) → V E (d + 1) K_X12_isRest (ZI E r0 h0) h [(0, .ref k0), (1, .int x1), (2, .int x2), (3, .int x3), (4, .int x4)] [] 3) {k0 : Nat} {x1 : Int32} {x2 : Int32} {x3 : Int32} {x4 : Int32} {h : AH} (hf : f_X12_isRest_111 q3 k0 x1 x2 x3 x4 h = some (r0, h0)) (t_k0 : kd k0 = (0, 12)) : V E (d + 1) K_X12_isRest (ZI E r0 h0) h [(0, .ref k0), (1, .int x1), (2, .int x2), (3, .int x3), (4, .int x4)] [] 111 := by
  unfold f_X12_isRest_111 at hf
  obtain ⟨x4_1, e_2, hf⟩ := nm_s hf
  refine V_iinc (a := 1) (L' := [(4, .int x4_1), (0, .ref k0), (1, .int x1), (2, .int x2), (3, .int x3)]) 4 dX12_isRest_111 rfl (by decide) (Nat.le_of_ble_eq_true rfl) e_2 rfl ?_
  refine V_goto (tgt := 3) dX12_isRest_114 (by decide) ?_
  refine V_sub [1, 2, 3, 4, 0] rfl ?_
  exact cq3 _ _ _ _ _ _ hf t_k0
set_option maxHeartbeats 4000000 in
set_option maxRecDepth 100000 in
theorem v_X12_isRest_87 {E : EV} {d : Nat} (hd : 1461 ≤ d) {r0 : Int32} {h0 : AH} {q49 : Nat → Int32 → Int32 → Int32 → Int32 → Int32 → Int32 → Int32 → Int32 → AH → Option (Int32 × AH)} (cq49 : ∀ (k0 : Nat) (x1 : Int32) (x2 : Int32) (x3 : Int32) (x4 : Int32) (x5 : Int32) (x6 : Int32) (x7 : Int32) (x8 : Int32) (h : AH), q49 k0 x1 x2 x3 x4 x5 x6 x7 x8 h = some (r0, h0) → kd k0 = (0, 12) → V E (d + 1) K_X12_isRest (ZI E r0 h0) h [(0, .ref k0), (1, .int x1), (2, .int x2), (3, .int x3), (4, .int x4), (5, .int x5), (6, .int x6), (7, .int x7), (8, .int x8)] [] 49) {k0 : Nat} {x1 : Int32} {x2 : Int32} {x3 : Int32} {x4 : Int32} {x5 : Int32} {x6 : Int32} {x8 : Int32} {s0 : Int32} {h : AH} (hf : f_X12_isRest_87 q49 k0 x1 x2 x3 x4 x5 x6 x8 s0 h = some (r0, h0)) (t_k0 : kd k0 = (0, 12)) : V E (d + 1) K_X12_isRest (ZI E r0 h0) h [(0, .ref k0), (1, .int x1), (2, .int x2), (3, .int x3), (4, .int x4), (5, .int x5), (6, .int x6), (8, .int x8)] [.int s0] 87 := by
  unfold f_X12_isRest_87 at hf
  refine V_istore (L' := [(7, .int s0), (0, .ref k0), (1, .int x1), (2, .int x2), (3, .int x3), (4, .int x4), (5, .int x5), (6, .int x6), (8, .int x8)]) dX12_isRest_87 (Nat.le_of_ble_eq_true rfl) rfl rfl ?_
  obtain ⟨x8_1, e_2, hf⟩ := nm_s hf
  refine V_iinc (a := 1) (L' := [(8, .int x8_1), (7, .int s0), (0, .ref k0), (1, .int x1), (2, .int x2), (3, .int x3), (4, .int x4), (5, .int x5), (6, .int x6)]) 8 dX12_isRest_89 rfl (by decide) (Nat.le_of_ble_eq_true rfl) e_2 rfl ?_
  refine V_goto (tgt := 49) dX12_isRest_92 (by decide) ?_
  refine V_sub [2, 3, 4, 5, 6, 7, 8, 1, 0] rfl ?_
  exact cq49 _ _ _ _ _ _ _ _ _ _ hf t_k0
set_option maxHeartbeats 4000000 in
set_option maxRecDepth 100000 in
theorem v_X12_isRest_82 {E : EV} {d : Nat} (hd : 1461 ≤ d) {r0 : Int32} {h0 : AH} {q49 : Nat → Int32 → Int32 → Int32 → Int32 → Int32 → Int32 → Int32 → Int32 → AH → Option (Int32 × AH)} (cq49 : ∀ (k0 : Nat) (x1 : Int32) (x2 : Int32) (x3 : Int32) (x4 : Int32) (x5 : Int32) (x6 : Int32) (x7 : Int32) (x8 : Int32) (h : AH), q49 k0 x1 x2 x3 x4 x5 x6 x7 x8 h = some (r0, h0) → kd k0 = (0, 12) → V E (d + 1) K_X12_isRest (ZI E r0 h0) h [(0, .ref k0), (1, .int x1), (2, .int x2), (3, .int x3), (4, .int x4), (5, .int x5), (6, .int x6), (7, .int x7), (8, .int x8)] [] 49) {k0 : Nat} {x1 : Int32} {x2 : Int32} {x3 : Int32} {x4 : Int32} {x5 : Int32} {x6 : Int32} {x8 : Int32} {h : AH} (hf : f_X12_isRest_82 q49 k0 x1 x2 x3 x4 x5 x6 x8 h = some (r0, h0)) (t_k0 : kd k0 = (0, 12)) : V E (d + 1) K_X12_isRest (ZI E r0 h0) h [(0, .ref k0), (1, .int x1), (2, .int x2), (3, .int x3), (4, .int x4), (5, .int x5), (6, .int x6), (8, .int x8)] [] 82 := by
  unfold f_X12_isRest_82 at hf
  refine V_iconst (v := 1) dX12_isRest_82 (by decide) ?_
  refine V_goto (tgt := 87) dX12_isRest_83 (by decide) ?_
  exact v_X12_isRest_87 hd cq49 hf t_k0
set_option maxHeartbeats 4000000 in
set_option maxRecDepth 100000 in
theorem v_X12_isRest_49 {E : EV} {d : Nat} (hd : 1461 ≤ d) {r0 : Int32} {h0 : AH} {q3 : Nat → Int32 → Int32 → Int32 → Int32 → AH → Option (Int32 × AH)} (cq3 : ∀ (k0 : Nat) (x1 : Int32) (x2 : Int32) (x3 : Int32) (x4 : Int32) (h : AH), q3 k0 x1 x2 x3 x4 h = some (r0, h0) → kd k0 = (0, 12) → V E (d + 1) K_X12_isRest (ZI E r0 h0) h [(0, .ref k0), (1, .int x1), (2, .int x2), (3, .int x3), (4, .int x4)] [] 3) : ∀ (n : Nat) (k0 : Nat) (x1 : Int32) (x2 : Int32) (x3 : Int32) (x4 : Int32) (x5 : Int32) (x6 : Int32) (x7 : Int32) (x8 : Int32) (h : AH), f_X12_isRest_49 q3 n k0 x1 x2 x3 x4 x5 x6 x7 x8 h = some (r0, h0) → kd k0 = (0, 12) → V E (d + 1) K_X12_isRest (ZI E r0 h0) h [(0, .ref k0), (1, .int x1), (2, .int x2), (3, .int x3), (4, .int x4), (5, .int x5), (6, .int x6), (7, .int x7), (8, .int x8)] [] 49 := by
  intro n
  induction n with
  | zero =>
    intro k0 x1 x2 x3 x4 x5 x6 x7 x8 h hf
    rw [f_X12_isRest_49] at hf
    cases hf
  | succ n ih =>
    intro k0 x1 x2 x3 x4 x5 x6 x7 x8 h hf t_k0
    rw [f_X12_isRest_49] at hf
    refine V_iload 8 dX12_isRest_49 rfl ?_
    refine V_iload_n 3 dX12_isRest_51 rfl rfl ?_
    refine V_ic_gt (tgt := 95) dX12_isRest_52 (by decide) (fun c_1 => ?_) (fun c_1 => ?_)
    · have hf := it_s c_1 hf
      refine V_aload_n 0 dX12_isRest_95 rfl rfl ?_
      refine V_getR F_X12_75 rfl t_k0 rfl dX12_isRest_96 ?_
      refine V_iload 4 dX12_isRest_99 rfl ?_
      refine V_iload 5 dX12_isRest_101 rfl ?_
      obtain ⟨b_2, hf⟩ := og_s hf
      obtain ⟨h_3, e_4, hf⟩ := nm_s hf
      refine V_iast (rfA t_k0 (Nat.le_of_ble_eq_true rfl) rfl rfl (by decide)) b_2 e_4 dX12_isRest_103 ?_
      refine V_iload 7 dX12_isRest_104 rfl ?_
      refine V_if_eq (tgt := 111) dX12_isRest_106 (by decide) (fun c_5 => ?_) (fun c_5 => ?_)
      · have hf := it_s c_5 hf
        refine V_sub [0, 1, 2, 3, 4] rfl ?_
        exact v_X12_isRest_111 hd cq3 hf t_k0
      · have hf := if_s c_5 hf
        refine V_iconst (v := 0) dX12_isRest_109 (by decide) ?_
        exact V_zret rfl (by decide) (so_s hf) dX12_isRest_110
    · have hf := if_s c_1 hf
      refine V_aload_n 0 dX12_isRest_55 rfl rfl ?_
      refine V_getR F_X12_75 rfl t_k0 rfl dX12_isRest_56 ?_
      refine V_iload 4 dX12_isRest_59 rfl ?_
      refine V_iload 8 dX12_isRest_61 rfl ?_
      obtain ⟨b_6, hf⟩ := og_s hf
      obtain ⟨h_7, e_8, hf⟩ := nm_s hf
      refine V_iast (rfA t_k0 (Nat.le_of_ble_eq_true rfl) rfl rfl (by decide)) b_6 e_8 dX12_isRest_63 ?_
      refine V_iload 7 dX12_isRest_64 rfl ?_
      refine V_if_ne (tgt := 82) dX12_isRest_66 (by decide) (fun c_9 => ?_) (fun c_9 => ?_)
      · have hf := if_s c_9 hf
        refine V_sub [0, 1, 2, 3, 4, 5, 6, 8] rfl ?_
        exact v_X12_isRest_82 hd ih hf t_k0
      · have hf := it_s c_9 hf
        refine V_aload_n 0 dX12_isRest_69 rfl rfl ?_
        refine V_iload 4 dX12_isRest_70 rfl ?_
        refine V_iload_n 1 dX12_isRest_72 rfl rfl ?_
        refine V_iload_n 2 dX12_isRest_73 rfl rfl ?_
        obtain ⟨r_12, h_11, e_10, hf⟩ := ob_s hf
        refine V_cvi (As := [.int x4, .int x1, .int x2]) (rest := []) (c_X12_gainOf (d := d) (Nat.le_trans (Nat.le_of_ble_eq_true rfl) hd) e_10 t_k0) ML_X12_385 MV_X12_gainOf rfl t_k0 rfl rfl (Nat.le_of_ble_eq_true rfl) dX12_isRest_74 ?_
        refine V_iload 6 dX12_isRest_77 rfl ?_
        refine V_ic_le (tgt := 86) dX12_isRest_79 (by decide) (fun c_13 => ?_) (fun c_13 => ?_)
        · have hf := it_s c_13 hf
          refine V_iconst (v := 0) dX12_isRest_86 (by decide) ?_
          refine V_sub [0, 1, 2, 3, 4, 5, 6, 8] rfl ?_
          exact v_X12_isRest_87 hd ih hf t_k0
        · have hf := if_s c_13 hf
          refine V_sub [0, 1, 2, 3, 4, 5, 6, 8] rfl ?_
          exact v_X12_isRest_82 hd ih hf t_k0
set_option maxHeartbeats 4000000 in
set_option maxRecDepth 100000 in
theorem v_X12_isRest_3 {E : EV} {d : Nat} (hd : 1461 ≤ d) {r0 : Int32} {h0 : AH} : ∀ (n : Nat) (k0 : Nat) (x1 : Int32) (x2 : Int32) (x3 : Int32) (x4 : Int32) (h : AH), f_X12_isRest_3 n k0 x1 x2 x3 x4 h = some (r0, h0) → kd k0 = (0, 12) → V E (d + 1) K_X12_isRest (ZI E r0 h0) h [(0, .ref k0), (1, .int x1), (2, .int x2), (3, .int x3), (4, .int x4)] [] 3 := by
  intro n
  induction n with
  | zero =>
    intro k0 x1 x2 x3 x4 h hf
    rw [f_X12_isRest_3] at hf
    cases hf
  | succ n ih =>
    intro k0 x1 x2 x3 x4 h hf t_k0
    rw [f_X12_isRest_3] at hf
    refine V_iload 4 dX12_isRest_3 rfl ?_
    refine V_aload_n 0 dX12_isRest_5 rfl rfl ?_
    refine V_getI F_X12_283 rfl t_k0 rfl dX12_isRest_6 ?_
    refine V_ic_ge (tgt := 117) dX12_isRest_9 (by decide) (fun c_1 => ?_) (fun c_1 => ?_)
    · have hf := it_s c_1 hf
      refine V_iconst (v := 1) dX12_isRest_117 (by decide) ?_
      exact V_zret rfl (by decide) (so_s hf) dX12_isRest_118
    · have hf := if_s c_1 hf
      refine V_iload_n 2 dX12_isRest_12 rfl rfl ?_
      refine V_iload 4 dX12_isRest_13 rfl ?_
      obtain ⟨r_4, h_3, e_2, hf⟩ := ob_s hf
      refine V_csi (As := [.int x2, .int x4]) (rest := []) (c_X12_has (d := d) (Nat.le_trans (Nat.le_of_ble_eq_true rfl) hd) e_2) ML_X12_258 MS_X12_has rfl rfl rfl (Nat.le_of_ble_eq_true rfl) dX12_isRest_15 ?_
      refine V_if_ne (tgt := 24) dX12_isRest_18 (by decide) (fun c_5 => ?_) (fun c_5 => ?_)
      · have hf := if_s c_5 hf
        refine V_aload_n 0 dX12_isRest_24 rfl rfl ?_
        refine V_getR F_X12_75 rfl t_k0 rfl dX12_isRest_25 ?_
        refine V_iload 4 dX12_isRest_28 rfl ?_
        obtain ⟨b_6, hf⟩ := og_s hf
        refine V_iald (rfA t_k0 (Nat.le_of_ble_eq_true rfl) rfl rfl (by decide)) b_6 dX12_isRest_30 ?_
        obtain ⟨x5_7, e_8, hf⟩ := nm_s hf
        refine V_istore (L' := [(5, .int x5_7), (0, .ref k0), (1, .int x1), (2, .int x2), (3, .int x3), (4, .int x4)]) dX12_isRest_31 (Nat.le_of_ble_eq_true rfl) e_8 rfl ?_
        refine V_aload_n 1 dX12_isRest_33 rfl rfl ?_
        refine V_iload 5 dX12_isRest_34 rfl ?_
        refine V_iload_n 2 dX12_isRest_36 rfl rfl ?_
        refine V_iload_n 3 dX12_isRest_37 rfl rfl ?_
        obtain ⟨r_11, h_10, e_9, hf⟩ := ob_s hf
        refine V_cvi (As := [.int x4, .int x1, .int x2]) (rest := []) (c_X12_gainOf (d := d) (Nat.le_trans (Nat.le_of_ble_eq_true rfl) hd) e_9 t_k0) ML_X12_385 MV_X12_gainOf rfl t_k0 rfl rfl (Nat.le_of_ble_eq_true rfl) dX12_isRest_38 ?_
        refine V_istore (L' := [(6, .int r_11), (5, .int x5_7), (0, .ref k0), (1, .int x1), (2, .int x2), (3, .int x3), (4, .int x4)]) dX12_isRest_41 (Nat.le_of_ble_eq_true rfl) rfl rfl ?_
        refine V_iconst (v := 0) dX12_isRest_43 (by decide) ?_
        refine V_istore (L' := [(7, .int 0), (6, .int r_11), (5, .int x5_7), (0, .ref k0), (1, .int x1), (2, .int x2), (3, .int x3), (4, .int x4)]) dX12_isRest_44 (Nat.le_of_ble_eq_true rfl) rfl rfl ?_
        refine V_iconst (v := 0) dX12_isRest_46 (by decide) ?_
        refine V_istore (L' := [(8, .int 0), (7, .int 0), (6, .int r_11), (5, .int x5_7), (0, .ref k0), (1, .int x1), (2, .int x2), (3, .int x3), (4, .int x4)]) dX12_isRest_47 (Nat.le_of_ble_eq_true rfl) rfl rfl ?_
        refine V_sub [4, 5, 6, 7, 8, 3, 2, 1, 0] rfl ?_
        exact v_X12_isRest_49 hd ih FU _ _ _ _ _ _ _ _ _ _ hf t_k0
      · have hf := it_s c_5 hf
        refine V_goto (tgt := 111) dX12_isRest_21 (by decide) ?_
        exact v_X12_isRest_111 hd ih hf t_k0
set_option maxHeartbeats 4000000 in
set_option maxRecDepth 100000 in
theorem c_X12_isRest {E : EV} {d : Nat} (hd : 1461 + 1 ≤ d) {k0 : Nat} {x1 : Int32} {x2 : Int32} {x3 : Int32} {h : AH} {r0 : Int32} {h0 : AH} (hf : f_X12_isRest k0 x1 x2 x3 h = some (r0, h0)) (t_k0 : kd k0 = (0, 12)) : Con E d K_X12_isRest (ZI E r0 h0) [.ref k0, .int x1, .int x2, .int x3] h := by
  obtain ⟨d, rfl⟩ : ∃ d', d = d' + 1 := ⟨d - 1, by omega⟩
  have hd := Nat.le_of_succ_le_succ hd
  refine Con.ofV rfl (Nat.le_of_ble_eq_true rfl) ?_
  unfold f_X12_isRest at hf
  show V E (d + 1) K_X12_isRest (ZI E r0 h0) h [(0, .ref k0), (1, .int x1), (2, .int x2), (3, .int x3)] [] 0
  refine V_iconst (v := 0) dX12_isRest_0 (by decide) ?_
  refine V_istore (L' := [(4, .int 0), (0, .ref k0), (1, .int x1), (2, .int x2), (3, .int x3)]) dX12_isRest_1 (Nat.le_of_ble_eq_true rfl) rfl rfl ?_
  refine V_sub [1, 2, 3, 4, 0] rfl ?_
  exact v_X12_isRest_3 hd FU _ _ _ _ _ _ hf t_k0
theorem dX12_layRounds_0 : decode cX12_layRounds 0 = .ok (.iload_n 2, 1) := by decide +kernel
theorem dX12_layRounds_1 : decode cX12_layRounds 1 = .ok (.istore 4, 2) := by decide +kernel
theorem dX12_layRounds_3 : decode cX12_layRounds 3 = .ok (.aload_n 0, 1) := by decide +kernel
theorem dX12_layRounds_4 : decode cX12_layRounds 4 = .ok (.getfield 283, 3) := by decide +kernel
theorem dX12_layRounds_7 : decode cX12_layRounds 7 = .ok (.iconst 1, 1) := by decide +kernel
theorem dX12_layRounds_8 : decode cX12_layRounds 8 = .ok (.isub, 1) := by decide +kernel
theorem dX12_layRounds_9 : decode cX12_layRounds 9 = .ok (.istore 5, 2) := by decide +kernel
theorem dX12_layRounds_11 : decode cX12_layRounds 11 = .ok (.iload 5, 2) := by decide +kernel
theorem dX12_layRounds_13 : decode cX12_layRounds 13 = .ok (.ifCond .lt 51, 3) := by decide +kernel
theorem dX12_layRounds_16 : decode cX12_layRounds 16 = .ok (.iload_n 1, 1) := by decide +kernel
theorem dX12_layRounds_17 : decode cX12_layRounds 17 = .ok (.iload 5, 2) := by decide +kernel
theorem dX12_layRounds_19 : decode cX12_layRounds 19 = .ok (.invokestatic 258, 3) := by decide +kernel
theorem dX12_layRounds_22 : decode cX12_layRounds 22 = .ok (.ifCond .ne 6, 3) := by decide +kernel
theorem dX12_layRounds_25 : decode cX12_layRounds 25 = .ok (.goto 33, 3) := by decide +kernel
theorem dX12_layRounds_28 : decode cX12_layRounds 28 = .ok (.aload_n 0, 1) := by decide +kernel
theorem dX12_layRounds_29 : decode cX12_layRounds 29 = .ok (.getfield 75, 3) := by decide +kernel
theorem dX12_layRounds_32 : decode cX12_layRounds 32 = .ok (.iload 5, 2) := by decide +kernel
theorem dX12_layRounds_34 : decode cX12_layRounds 34 = .ok (.iload 4, 2) := by decide +kernel
theorem dX12_layRounds_36 : decode cX12_layRounds 36 = .ok (.iconst 4, 1) := by decide +kernel
theorem dX12_layRounds_37 : decode cX12_layRounds 37 = .ok (.irem, 1) := by decide +kernel
theorem dX12_layRounds_38 : decode cX12_layRounds 38 = .ok (.iastore, 1) := by decide +kernel
theorem dX12_layRounds_39 : decode cX12_layRounds 39 = .ok (.iload 4, 2) := by decide +kernel
theorem dX12_layRounds_41 : decode cX12_layRounds 41 = .ok (.iconst 4, 1) := by decide +kernel
theorem dX12_layRounds_42 : decode cX12_layRounds 42 = .ok (.idiv, 1) := by decide +kernel
theorem dX12_layRounds_43 : decode cX12_layRounds 43 = .ok (.istore 4, 2) := by decide +kernel
theorem dX12_layRounds_45 : decode cX12_layRounds 45 = .ok (.aload_n 0, 1) := by decide +kernel
theorem dX12_layRounds_46 : decode cX12_layRounds 46 = .ok (.getfield 75, 3) := by decide +kernel
theorem dX12_layRounds_49 : decode cX12_layRounds 49 = .ok (.iload 5, 2) := by decide +kernel
theorem dX12_layRounds_51 : decode cX12_layRounds 51 = .ok (.iaload, 1) := by decide +kernel
theorem dX12_layRounds_52 : decode cX12_layRounds 52 = .ok (.iload_n 3, 1) := by decide +kernel
theorem dX12_layRounds_53 : decode cX12_layRounds 53 = .ok (.if_icmp .le 5, 3) := by decide +kernel
theorem dX12_layRounds_56 : decode cX12_layRounds 56 = .ok (.iconst 0, 1) := by decide +kernel
theorem dX12_layRounds_57 : decode cX12_layRounds 57 = .ok (.ireturn, 1) := by decide +kernel
theorem dX12_layRounds_58 : decode cX12_layRounds 58 = .ok (.iinc 5 (-1), 3) := by decide +kernel
theorem dX12_layRounds_61 : decode cX12_layRounds 61 = .ok (.goto (-50), 3) := by decide +kernel
theorem dX12_layRounds_64 : decode cX12_layRounds 64 = .ok (.iconst 1, 1) := by decide +kernel
theorem dX12_layRounds_65 : decode cX12_layRounds 65 = .ok (.ireturn, 1) := by decide +kernel
def f_X12_layRounds_58 (q11 : Nat → Int32 → Int32 → Int32 → Int32 → AH → Option (Int32 × AH)) (k0 : Nat) (x1 : Int32) (x3 : Int32) (x4 : Int32) (x5 : Int32) (h : AH) : Option (Int32 × AH) :=
  nm (x5 + (-1)) fun x5_1 =>
  q11 k0 x1 x3 x4 x5_1 h
def f_X12_layRounds_11 : Nat → Nat → Int32 → Int32 → Int32 → Int32 → AH → Option (Int32 × AH)
  | 0, _, _, _, _, _, _ => none
  | n + 1, k0, x1, x3, x4, x5, h =>
    if x5 < 0 then (
      some (1, h)
    ) else (
      ob (f_X12_has x1 x5 h) fun r_4 h_3 =>
      if r_4 = 0 then (
        f_X12_layRounds_58 (f_X12_layRounds_11 n) k0 x1 x3 x4 x5 h_3
      ) else (
        og (ix x5 (an (rf k0 36))) <|
        nm (sI h_3 (rf k0 36) x5.toNatClampNeg (jirem x4 4)) fun h_7 =>
        nm ((x4 / 4)) fun x4_9 =>
        og (ix x5 (an (rf k0 36))) <|
        if (h_7.1 (rf k0 36) x5.toNatClampNeg) ≤ x3 then (
          f_X12_layRounds_58 (f_X12_layRounds_11 n) k0 x1 x3 x4_9 x5 h_7
        ) else (
          some (0, h_7)
        )
      )
    )
def f_X12_layRounds (k0 : Nat) (x1 : Int32) (x2 : Int32) (x3 : Int32) (h : AH) : Option (Int32 × AH) :=
  nm (((h.1 k0 20) - 1)) fun x5_1 =>
  f_X12_layRounds_11 FU k0 x1 x3 x2 x5_1 h
set_option maxHeartbeats 4000000 in
set_option maxRecDepth 100000 in
theorem v_X12_layRounds_58 {E : EV} {d : Nat} (hd : 1 ≤ d) {r0 : Int32} {h0 : AH} {q11 : Nat → Int32 → Int32 → Int32 → Int32 → AH → Option (Int32 × AH)} (cq11 : ∀ (k0 : Nat) (x1 : Int32) (x3 : Int32) (x4 : Int32) (x5 : Int32) (h : AH), q11 k0 x1 x3 x4 x5 h = some (r0, h0) → kd k0 = (0, 12) → V E (d + 1) K_X12_layRounds (ZI E r0 h0) h [(0, .ref k0), (1, .int x1), (3, .int x3), (4, .int x4), (5, .int x5)] [] 11) {k0 : Nat} {x1 : Int32} {x3 : Int32} {x4 : Int32} {x5 : Int32} {h : AH} (hf : f_X12_layRounds_58 q11 k0 x1 x3 x4 x5 h = some (r0, h0)) (t_k0 : kd k0 = (0, 12)) : V E (d + 1) K_X12_layRounds (ZI E r0 h0) h [(0, .ref k0), (1, .int x1), (3, .int x3), (4, .int x4), (5, .int x5)] [] 58 := by
  unfold f_X12_layRounds_58 at hf
  obtain ⟨x5_1, e_2, hf⟩ := nm_s hf
  refine V_iinc (a := (-1)) (L' := [(5, .int x5_1), (0, .ref k0), (1, .int x1), (3, .int x3), (4, .int x4)]) 4 dX12_layRounds_58 rfl (by decide) (Nat.le_of_ble_eq_true rfl) e_2 rfl ?_
  refine V_goto (tgt := 11) dX12_layRounds_61 (by decide) ?_
  refine V_sub [1, 2, 3, 4, 0] rfl ?_
  exact cq11 _ _ _ _ _ _ hf t_k0
set_option maxHeartbeats 4000000 in
set_option maxRecDepth 100000 in
theorem v_X12_layRounds_11 {E : EV} {d : Nat} (hd : 1 ≤ d) {r0 : Int32} {h0 : AH} : ∀ (n : Nat) (k0 : Nat) (x1 : Int32) (x3 : Int32) (x4 : Int32) (x5 : Int32) (h : AH), f_X12_layRounds_11 n k0 x1 x3 x4 x5 h = some (r0, h0) → kd k0 = (0, 12) → V E (d + 1) K_X12_layRounds (ZI E r0 h0) h [(0, .ref k0), (1, .int x1), (3, .int x3), (4, .int x4), (5, .int x5)] [] 11 := by
  intro n
  induction n with
  | zero =>
    intro k0 x1 x3 x4 x5 h hf
    rw [f_X12_layRounds_11] at hf
    cases hf
  | succ n ih =>
    intro k0 x1 x3 x4 x5 h hf t_k0
    rw [f_X12_layRounds_11] at hf
    refine V_iload 4 dX12_layRounds_11 rfl ?_
    refine V_if_lt (tgt := 64) dX12_layRounds_13 (by decide) (fun c_1 => ?_) (fun c_1 => ?_)
    · have hf := it_s c_1 hf
      refine V_iconst (v := 1) dX12_layRounds_64 (by decide) ?_
      exact V_zret rfl (by decide) (so_s hf) dX12_layRounds_65
    · have hf := if_s c_1 hf
      refine V_iload_n 1 dX12_layRounds_16 rfl rfl ?_
      refine V_iload 4 dX12_layRounds_17 rfl ?_
      obtain ⟨r_4, h_3, e_2, hf⟩ := ob_s hf
      refine V_csi (As := [.int x1, .int x5]) (rest := []) (c_X12_has (d := d) (Nat.le_trans (Nat.le_of_ble_eq_true rfl) hd) e_2) ML_X12_258 MS_X12_has rfl rfl rfl (Nat.le_of_ble_eq_true rfl) dX12_layRounds_19 ?_
      refine V_if_ne (tgt := 28) dX12_layRounds_22 (by decide) (fun c_5 => ?_) (fun c_5 => ?_)
      · have hf := if_s c_5 hf
        refine V_aload_n 0 dX12_layRounds_28 rfl rfl ?_
        refine V_getR F_X12_75 rfl t_k0 rfl dX12_layRounds_29 ?_
        refine V_iload 4 dX12_layRounds_32 rfl ?_
        refine V_iload 3 dX12_layRounds_34 rfl ?_
        refine V_iconst (v := 4) dX12_layRounds_36 (by decide) ?_
        refine V_irem dX12_layRounds_37 (by decide) ?_
        obtain ⟨b_6, hf⟩ := og_s hf
        obtain ⟨h_7, e_8, hf⟩ := nm_s hf
        refine V_iast (rfA t_k0 (Nat.le_of_ble_eq_true rfl) rfl rfl (by decide)) b_6 e_8 dX12_layRounds_38 ?_
        refine V_iload 3 dX12_layRounds_39 rfl ?_
        refine V_iconst (v := 4) dX12_layRounds_41 (by decide) ?_
        refine V_idiv dX12_layRounds_42 (by decide) ?_
        obtain ⟨x4_9, e_10, hf⟩ := nm_s hf
        refine V_istore (L' := [(4, .int x4_9), (0, .ref k0), (1, .int x1), (3, .int x3), (5, .int x5)]) dX12_layRounds_43 (Nat.le_of_ble_eq_true rfl) e_10 rfl ?_
        refine V_aload_n 1 dX12_layRounds_45 rfl rfl ?_
        refine V_getR F_X12_75 rfl t_k0 rfl dX12_layRounds_46 ?_
        refine V_iload 4 dX12_layRounds_49 rfl ?_
        obtain ⟨b_11, hf⟩ := og_s hf
        refine V_iald (rfA t_k0 (Nat.le_of_ble_eq_true rfl) rfl rfl (by decide)) b_11 dX12_layRounds_51 ?_
        refine V_iload_n 3 dX12_layRounds_52 rfl rfl ?_
        refine V_ic_le (tgt := 58) dX12_layRounds_53 (by decide) (fun c_12 => ?_) (fun c_12 => ?_)
        · have hf := it_s c_12 hf
          refine V_sub [1, 2, 3, 0, 4] rfl ?_
          exact v_X12_layRounds_58 hd ih hf t_k0
        · have hf := if_s c_12 hf
          refine V_iconst (v := 0) dX12_layRounds_56 (by decide) ?_
          exact V_zret rfl (by decide) (so_s hf) dX12_layRounds_57
      · have hf := it_s c_5 hf
        refine V_goto (tgt := 58) dX12_layRounds_25 (by decide) ?_
        exact v_X12_layRounds_58 hd ih hf t_k0
set_option maxHeartbeats 4000000 in
set_option maxRecDepth 100000 in
theorem c_X12_layRounds {E : EV} {d : Nat} (hd : 1 + 1 ≤ d) {k0 : Nat} {x1 : Int32} {x2 : Int32} {x3 : Int32} {h : AH} {r0 : Int32} {h0 : AH} (hf : f_X12_layRounds k0 x1 x2 x3 h = some (r0, h0)) (t_k0 : kd k0 = (0, 12)) : Con E d K_X12_layRounds (ZI E r0 h0) [.ref k0, .int x1, .int x2, .int x3] h := by
  obtain ⟨d, rfl⟩ : ∃ d', d = d' + 1 := ⟨d - 1, by omega⟩
  have hd := Nat.le_of_succ_le_succ hd
  refine Con.ofV rfl (Nat.le_of_ble_eq_true rfl) ?_
  unfold f_X12_layRounds at hf
  show V E (d + 1) K_X12_layRounds (ZI E r0 h0) h [(0, .ref k0), (1, .int x1), (2, .int x2), (3, .int x3)] [] 0
  refine V_iload_n 2 dX12_layRounds_0 rfl rfl ?_
  refine V_istore (L' := [(4, .int x2), (0, .ref k0), (1, .int x1), (2, .int x2), (3, .int x3)]) dX12_layRounds_1 (Nat.le_of_ble_eq_true rfl) rfl rfl ?_
  refine V_aload_n 1 dX12_layRounds_3 rfl rfl ?_
  refine V_getI F_X12_283 rfl t_k0 rfl dX12_layRounds_4 ?_
  refine V_iconst (v := 1) dX12_layRounds_7 (by decide) ?_
  refine V_isub dX12_layRounds_8 ?_
  obtain ⟨x5_1, e_2, hf⟩ := nm_s hf
  refine V_istore (L' := [(5, .int x5_1), (4, .int x2), (0, .ref k0), (1, .int x1), (2, .int x2), (3, .int x3)]) dX12_layRounds_9 (Nat.le_of_ble_eq_true rfl) e_2 rfl ?_
  refine V_sub [2, 3, 5, 1, 0] rfl ?_
  exact v_X12_layRounds_11 hd FU _ _ _ _ _ _ hf t_k0
theorem dX12_left_0 : decode cX12_left 0 = .ok (.aload_n 0, 1) := by decide +kernel
theorem dX12_left_1 : decode cX12_left 1 = .ok (.iconst 0, 1) := by decide +kernel
theorem dX12_left_2 : decode cX12_left 2 = .ok (.putfield 120, 3) := by decide +kernel
theorem dX12_left_5 : decode cX12_left 5 = .ok (.aload_n 0, 1) := by decide +kernel
theorem dX12_left_6 : decode cX12_left 6 = .ok (.iload_n 1, 1) := by decide +kernel
theorem dX12_left_7 : decode cX12_left 7 = .ok (.iload_n 2, 1) := by decide +kernel
theorem dX12_left_8 : decode cX12_left 8 = .ok (.invokevirtual 343, 3) := by decide +kernel
theorem dX12_left_11 : decode cX12_left 11 = .ok (.ifCond .eq 13, 3) := by decide +kernel
theorem dX12_left_14 : decode cX12_left 14 = .ok (.iload_n 3, 1) := by decide +kernel
theorem dX12_left_15 : decode cX12_left 15 = .ok (.i2l, 1) := by decide +kernel
theorem dX12_left_16 : decode cX12_left 16 = .ok (.lconst 0, 1) := by decide +kernel
theorem dX12_left_17 : decode cX12_left 17 = .ok (.lconst 1, 1) := by decide +kernel
theorem dX12_left_18 : decode cX12_left 18 = .ok (.invokestatic 247, 3) := by decide +kernel
theorem dX12_left_21 : decode cX12_left 21 = .ok (.ifCond .ne 5, 3) := by decide +kernel
theorem dX12_left_24 : decode cX12_left 24 = .ok (.iconst (-1), 1) := by decide +kernel
theorem dX12_left_25 : decode cX12_left 25 = .ok (.ireturn, 1) := by decide +kernel
theorem dX12_left_26 : decode cX12_left 26 = .ok (.aload_n 0, 1) := by decide +kernel
theorem dX12_left_27 : decode cX12_left 27 = .ok (.iload_n 2, 1) := by decide +kernel
theorem dX12_left_28 : decode cX12_left 28 = .ok (.invokevirtual 367, 3) := by decide +kernel
theorem dX12_left_31 : decode cX12_left 31 = .ok (.iconst 1, 1) := by decide +kernel
theorem dX12_left_32 : decode cX12_left 32 = .ok (.aload_n 0, 1) := by decide +kernel
theorem dX12_left_33 : decode cX12_left 33 = .ok (.getfield 283, 3) := by decide +kernel
theorem dX12_left_36 : decode cX12_left 36 = .ok (.ishl, 1) := by decide +kernel
theorem dX12_left_37 : decode cX12_left 37 = .ok (.iconst 1, 1) := by decide +kernel
theorem dX12_left_38 : decode cX12_left 38 = .ok (.isub, 1) := by decide +kernel
theorem dX12_left_39 : decode cX12_left 39 = .ok (.istore 4, 2) := by decide +kernel
theorem dX12_left_41 : decode cX12_left 41 = .ok (.iconst 0, 1) := by decide +kernel
theorem dX12_left_42 : decode cX12_left 42 = .ok (.istore 5, 2) := by decide +kernel
theorem dX12_left_44 : decode cX12_left 44 = .ok (.iconst 0, 1) := by decide +kernel
theorem dX12_left_45 : decode cX12_left 45 = .ok (.istore 6, 2) := by decide +kernel
theorem dX12_left_47 : decode cX12_left 47 = .ok (.iload 6, 2) := by decide +kernel
theorem dX12_left_49 : decode cX12_left 49 = .ok (.aload_n 0, 1) := by decide +kernel
theorem dX12_left_50 : decode cX12_left 50 = .ok (.getfield 353, 3) := by decide +kernel
theorem dX12_left_53 : decode cX12_left 53 = .ok (.if_icmp .ge 40, 3) := by decide +kernel
theorem dX12_left_56 : decode cX12_left 56 = .ok (.aload_n 0, 1) := by decide +kernel
theorem dX12_left_57 : decode cX12_left 57 = .ok (.iload 6, 2) := by decide +kernel
theorem dX12_left_59 : decode cX12_left 59 = .ok (.iload_n 2, 1) := by decide +kernel
theorem dX12_left_60 : decode cX12_left 60 = .ok (.aload_n 0, 1) := by decide +kernel
theorem dX12_left_61 : decode cX12_left 61 = .ok (.iload_n 1, 1) := by decide +kernel
theorem dX12_left_62 : decode cX12_left 62 = .ok (.iload_n 2, 1) := by decide +kernel
theorem dX12_left_63 : decode cX12_left 63 = .ok (.invokevirtual 335, 3) := by decide +kernel
theorem dX12_left_66 : decode cX12_left 66 = .ok (.invokevirtual 370, 3) := by decide +kernel
theorem dX12_left_69 : decode cX12_left 69 = .ok (.iload 4, 2) := by decide +kernel
theorem dX12_left_71 : decode cX12_left 71 = .ok (.aload_n 0, 1) := by decide +kernel
theorem dX12_left_72 : decode cX12_left 72 = .ok (.getfield 318, 3) := by decide +kernel
theorem dX12_left_75 : decode cX12_left 75 = .ok (.iand, 1) := by decide +kernel
theorem dX12_left_76 : decode cX12_left 76 = .ok (.istore 4, 2) := by decide +kernel
theorem dX12_left_78 : decode cX12_left 78 = .ok (.iload 5, 2) := by decide +kernel
theorem dX12_left_80 : decode cX12_left 80 = .ok (.aload_n 0, 1) := by decide +kernel
theorem dX12_left_81 : decode cX12_left 81 = .ok (.getfield 318, 3) := by decide +kernel
theorem dX12_left_84 : decode cX12_left 84 = .ok (.ior, 1) := by decide +kernel
theorem dX12_left_85 : decode cX12_left 85 = .ok (.istore 5, 2) := by decide +kernel
theorem dX12_left_87 : decode cX12_left 87 = .ok (.iinc 6 1, 3) := by decide +kernel
theorem dX12_left_90 : decode cX12_left 90 = .ok (.goto (-43), 3) := by decide +kernel
theorem dX12_left_93 : decode cX12_left 93 = .ok (.iload_n 3, 1) := by decide +kernel
theorem dX12_left_94 : decode cX12_left 94 = .ok (.ifCond .ne 8, 3) := by decide +kernel
theorem dX12_left_97 : decode cX12_left 97 = .ok (.iload 4, 2) := by decide +kernel
theorem dX12_left_99 : decode cX12_left 99 = .ok (.goto 5, 3) := by decide +kernel
theorem dX12_left_102 : decode cX12_left 102 = .ok (.iload 5, 2) := by decide +kernel
theorem dX12_left_104 : decode cX12_left 104 = .ok (.ireturn, 1) := by decide +kernel
def f_X12_left_24  (h : AH) : Option (Int32 × AH) :=
  some ((-1), h)
def f_X12_left_104 (s0 : Int32) (h : AH) : Option (Int32 × AH) :=
  some (s0, h)
def f_X12_left_47 : Nat → Nat → Int32 → Int32 → Int32 → Int32 → Int32 → Int32 → AH → Option (Int32 × AH)
  | 0, _, _, _, _, _, _, _, _ => none
  | n + 1, k0, x1, x2, x3, x4, x5, x6, h =>
    if (h.1 k0 34) ≤ x6 then (
      if x3 = 0 then (
        f_X12_left_104 x4 h
      ) else (
        f_X12_left_104 x5 h
      )
    ) else (
      ob (f_X12_doorOf k0 x1 x2 h) fun r_5 h_4 =>
      ov (f_X12_goWay k0 x6 x2 r_5 h_4) fun h_7 =>
      nm ((x4 &&& (h_7.1 k0 30))) fun x4_8 =>
      nm ((x5 ||| (h_7.1 k0 30))) fun x5_10 =>
      nm (x6 + 1) fun x6_12 =>
      f_X12_left_47 n k0 x1 x2 x3 x4_8 x5_10 x6_12 h_7
    )
def f_X12_left (k0 : Nat) (x1 : Int32) (x2 : Int32) (x3 : Int32) (h : AH) : Option (Int32 × AH) :=
  nm (sI h k0 0 0) fun h_1 =>
  ob (f_X12_isVisit k0 x1 x2 h_1) fun r_5 h_4 =>
  if r_5 = 0 then (
    f_X12_left_24 h_4
  ) else (
    ob (f_X12_isIn ((x3).toInt64) 0 1 h_4) fun r_9 h_8 =>
    if r_9 = 0 then (
      f_X12_left_24 h_8
    ) else (
      ov (f_X12_allWays k0 x2 h_8) fun h_12 =>
      nm ((((1 : Int32) <<< ((h_12.1 k0 20) &&& 31)) - 1)) fun x4_13 =>
      f_X12_left_47 FU k0 x1 x2 x3 x4_13 0 0 h_12
    )
  )
set_option maxHeartbeats 4000000 in
set_option maxRecDepth 100000 in
theorem v_X12_left_24 {E : EV} {d : Nat} (hd : 1461 ≤ d) {r0 : Int32} {h0 : AH}  {h : AH} (hf : f_X12_left_24 h = some (r0, h0)) : V E (d + 1) K_X12_left (ZI E r0 h0) h [] [] 24 := by
  unfold f_X12_left_24 at hf
  refine V_iconst (v := (-1)) dX12_left_24 (by decide) ?_
  exact V_iret rfl (so_s hf) dX12_left_25
set_option maxHeartbeats 4000000 in
set_option maxRecDepth 100000 in
theorem v_X12_left_104 {E : EV} {d : Nat} (hd : 1461 ≤ d) {r0 : Int32} {h0 : AH} {s0 : Int32} {h : AH} (hf : f_X12_left_104 s0 h = some (r0, h0)) : V E (d + 1) K_X12_left (ZI E r0 h0) h [] [.int s0] 104 := by
  unfold f_X12_left_104 at hf
  exact V_iret rfl (so_s hf) dX12_left_104
set_option maxHeartbeats 4000000 in
set_option maxRecDepth 100000 in
theorem v_X12_left_47 {E : EV} {d : Nat} (hd : 1461 ≤ d) {r0 : Int32} {h0 : AH} : ∀ (n : Nat) (k0 : Nat) (x1 : Int32) (x2 : Int32) (x3 : Int32) (x4 : Int32) (x5 : Int32) (x6 : Int32) (h : AH), f_X12_left_47 n k0 x1 x2 x3 x4 x5 x6 h = some (r0, h0) → kd k0 = (0, 12) → V E (d + 1) K_X12_left (ZI E r0 h0) h [(0, .ref k0), (1, .int x1), (2, .int x2), (3, .int x3), (4, .int x4), (5, .int x5), (6, .int x6)] [] 47 := by
  intro n
  induction n with
  | zero =>
    intro k0 x1 x2 x3 x4 x5 x6 h hf
    rw [f_X12_left_47] at hf
    cases hf
  | succ n ih =>
    intro k0 x1 x2 x3 x4 x5 x6 h hf t_k0
    rw [f_X12_left_47] at hf
    refine V_iload 6 dX12_left_47 rfl ?_
    refine V_aload_n 0 dX12_left_49 rfl rfl ?_
    refine V_getI F_X12_353 rfl t_k0 rfl dX12_left_50 ?_
    refine V_ic_ge (tgt := 93) dX12_left_53 (by decide) (fun c_1 => ?_) (fun c_1 => ?_)
    · have hf := it_s c_1 hf
      refine V_iload_n 3 dX12_left_93 rfl rfl ?_
      refine V_if_ne (tgt := 102) dX12_left_94 (by decide) (fun c_2 => ?_) (fun c_2 => ?_)
      · have hf := if_s c_2 hf
        refine V_iload 5 dX12_left_102 rfl ?_
        refine V_sub [] rfl ?_
        exact v_X12_left_104 hd hf
      · have hf := it_s c_2 hf
        refine V_iload 4 dX12_left_97 rfl ?_
        refine V_goto (tgt := 104) dX12_left_99 (by decide) ?_
        refine V_sub [] rfl ?_
        exact v_X12_left_104 hd hf
    · have hf := if_s c_1 hf
      refine V_aload_n 0 dX12_left_56 rfl rfl ?_
      refine V_iload 6 dX12_left_57 rfl ?_
      refine V_iload_n 2 dX12_left_59 rfl rfl ?_
      refine V_aload_n 0 dX12_left_60 rfl rfl ?_
      refine V_iload_n 1 dX12_left_61 rfl rfl ?_
      refine V_iload_n 2 dX12_left_62 rfl rfl ?_
      obtain ⟨r_5, h_4, e_3, hf⟩ := ob_s hf
      refine V_cvi (As := [.int x1, .int x2]) (rest := [.int x2, .int x6, .ref k0]) (c_X12_doorOf (d := d) (Nat.le_trans (Nat.le_of_ble_eq_true rfl) hd) e_3 t_k0) ML_X12_335 MV_X12_doorOf rfl t_k0 rfl rfl (Nat.le_of_ble_eq_true rfl) dX12_left_63 ?_
      obtain ⟨h_7, e_6, hf⟩ := ov_s hf
      refine V_cvv (As := [.int x6, .int x2, .int r_5]) (rest := []) (c_X12_goWay (d := d) (Nat.le_trans (Nat.le_of_ble_eq_true rfl) hd) e_6 t_k0) ML_X12_370 MV_X12_goWay rfl t_k0 rfl rfl (Nat.le_of_ble_eq_true rfl) dX12_left_66 ?_
      refine V_iload 4 dX12_left_69 rfl ?_
      refine V_aload_n 0 dX12_left_71 rfl rfl ?_
      refine V_getI F_X12_318 rfl t_k0 rfl dX12_left_72 ?_
      refine V_iand dX12_left_75 ?_
      obtain ⟨x4_8, e_9, hf⟩ := nm_s hf
      refine V_istore (L' := [(4, .int x4_8), (0, .ref k0), (1, .int x1), (2, .int x2), (3, .int x3), (5, .int x5), (6, .int x6)]) dX12_left_76 (Nat.le_of_ble_eq_true rfl) e_9 rfl ?_
      refine V_iload 5 dX12_left_78 rfl ?_
      refine V_aload_n 1 dX12_left_80 rfl rfl ?_
      refine V_getI F_X12_318 rfl t_k0 rfl dX12_left_81 ?_
      refine V_ior dX12_left_84 ?_
      obtain ⟨x5_10, e_11, hf⟩ := nm_s hf
      refine V_istore (L' := [(5, .int x5_10), (4, .int x4_8), (0, .ref k0), (1, .int x1), (2, .int x2), (3, .int x3), (6, .int x6)]) dX12_left_85 (Nat.le_of_ble_eq_true rfl) e_11 rfl ?_
      obtain ⟨x6_12, e_13, hf⟩ := nm_s hf
      refine V_iinc (a := 1) (L' := [(6, .int x6_12), (5, .int x5_10), (4, .int x4_8), (0, .ref k0), (1, .int x1), (2, .int x2), (3, .int x3)]) 6 dX12_left_87 rfl (by decide) (Nat.le_of_ble_eq_true rfl) e_13 rfl ?_
      refine V_goto (tgt := 47) dX12_left_90 (by decide) ?_
      refine V_sub [3, 4, 5, 6, 2, 1, 0] rfl ?_
      exact ih _ _ _ _ _ _ _ _ hf t_k0
set_option maxHeartbeats 4000000 in
set_option maxRecDepth 100000 in
theorem c_X12_left {E : EV} {d : Nat} (hd : 1461 + 1 ≤ d) {k0 : Nat} {x1 : Int32} {x2 : Int32} {x3 : Int32} {h : AH} {r0 : Int32} {h0 : AH} (hf : f_X12_left k0 x1 x2 x3 h = some (r0, h0)) (t_k0 : kd k0 = (0, 12)) : Con E d K_X12_left (ZI E r0 h0) [.ref k0, .int x1, .int x2, .int x3] h := by
  obtain ⟨d, rfl⟩ : ∃ d', d = d' + 1 := ⟨d - 1, by omega⟩
  have hd := Nat.le_of_succ_le_succ hd
  refine Con.ofV rfl (Nat.le_of_ble_eq_true rfl) ?_
  unfold f_X12_left at hf
  show V E (d + 1) K_X12_left (ZI E r0 h0) h [(0, .ref k0), (1, .int x1), (2, .int x2), (3, .int x3)] [] 0
  refine V_aload_n 0 dX12_left_0 rfl rfl ?_
  refine V_iconst (v := 0) dX12_left_1 (by decide) ?_
  obtain ⟨h_1, e_2, hf⟩ := nm_s hf
  refine V_putI P_X12_120 rfl t_k0 rfl e_2 dX12_left_2 ?_
  refine V_aload_n 0 dX12_left_5 rfl rfl ?_
  refine V_iload_n 1 dX12_left_6 rfl rfl ?_
  refine V_iload_n 2 dX12_left_7 rfl rfl ?_
  obtain ⟨r_5, h_4, e_3, hf⟩ := ob_s hf
  refine V_cvi (As := [.int x1, .int x2]) (rest := []) (c_X12_isVisit (d := d) (Nat.le_trans (Nat.le_of_ble_eq_true rfl) hd) e_3 t_k0) ML_X12_343 MV_X12_isVisit rfl t_k0 rfl rfl (Nat.le_of_ble_eq_true rfl) dX12_left_8 ?_
  refine V_if_eq (tgt := 24) dX12_left_11 (by decide) (fun c_6 => ?_) (fun c_6 => ?_)
  · have hf := it_s c_6 hf
    refine V_sub [] rfl ?_
    exact v_X12_left_24 hd hf
  · have hf := if_s c_6 hf
    refine V_iload_n 3 dX12_left_14 rfl rfl ?_
    refine V_i2l dX12_left_15 ?_
    refine V_lconst (v := 0) dX12_left_16 (by decide) ?_
    refine V_lconst (v := 1) dX12_left_17 (by decide) ?_
    obtain ⟨r_9, h_8, e_7, hf⟩ := ob_s hf
    refine V_csi (As := [.long ((x3).toInt64), .long 0, .long 1]) (rest := []) (c_X12_isIn (d := d) (Nat.le_trans (Nat.le_of_ble_eq_true rfl) hd) e_7) ML_X12_247 MS_X12_isIn rfl rfl rfl (Nat.le_of_ble_eq_true rfl) dX12_left_18 ?_
    refine V_if_ne (tgt := 26) dX12_left_21 (by decide) (fun c_10 => ?_) (fun c_10 => ?_)
    · have hf := if_s c_10 hf
      refine V_aload_n 0 dX12_left_26 rfl rfl ?_
      refine V_iload_n 2 dX12_left_27 rfl rfl ?_
      obtain ⟨h_12, e_11, hf⟩ := ov_s hf
      refine V_cvv (As := [.int x2]) (rest := []) (c_X12_allWays (d := d) (Nat.le_trans (Nat.le_of_ble_eq_true rfl) hd) e_11 t_k0) ML_X12_367 MV_X12_allWays rfl t_k0 rfl rfl (Nat.le_of_ble_eq_true rfl) dX12_left_28 ?_
      refine V_iconst (v := 1) dX12_left_31 (by decide) ?_
      refine V_aload_n 0 dX12_left_32 rfl rfl ?_
      refine V_getI F_X12_283 rfl t_k0 rfl dX12_left_33 ?_
      refine V_ishl dX12_left_36 ?_
      refine V_iconst (v := 1) dX12_left_37 (by decide) ?_
      refine V_isub dX12_left_38 ?_
      obtain ⟨x4_13, e_14, hf⟩ := nm_s hf
      refine V_istore (L' := [(4, .int x4_13), (0, .ref k0), (1, .int x1), (2, .int x2), (3, .int x3)]) dX12_left_39 (Nat.le_of_ble_eq_true rfl) e_14 rfl ?_
      refine V_iconst (v := 0) dX12_left_41 (by decide) ?_
      refine V_istore (L' := [(5, .int 0), (4, .int x4_13), (0, .ref k0), (1, .int x1), (2, .int x2), (3, .int x3)]) dX12_left_42 (Nat.le_of_ble_eq_true rfl) rfl rfl ?_
      refine V_iconst (v := 0) dX12_left_44 (by decide) ?_
      refine V_istore (L' := [(6, .int 0), (5, .int 0), (4, .int x4_13), (0, .ref k0), (1, .int x1), (2, .int x2), (3, .int x3)]) dX12_left_45 (Nat.le_of_ble_eq_true rfl) rfl rfl ?_
      refine V_sub [3, 4, 5, 6, 2, 1, 0] rfl ?_
      exact v_X12_left_47 hd FU _ _ _ _ _ _ _ _ hf t_k0
    · have hf := it_s c_10 hf
      refine V_sub [] rfl ?_
      exact v_X12_left_24 hd hf
theorem dX12_spread_0 : decode cX12_spread 0 = .ok (.aload_n 0, 1) := by decide +kernel
theorem dX12_spread_1 : decode cX12_spread 1 = .ok (.iload_n 1, 1) := by decide +kernel
theorem dX12_spread_2 : decode cX12_spread 2 = .ok (.invokevirtual 410, 3) := by decide +kernel
theorem dX12_spread_5 : decode cX12_spread 5 = .ok (.aload_n 0, 1) := by decide +kernel
theorem dX12_spread_6 : decode cX12_spread 6 = .ok (.iconst 0, 1) := by decide +kernel
theorem dX12_spread_7 : decode cX12_spread 7 = .ok (.iload_n 2, 1) := by decide +kernel
theorem dX12_spread_8 : decode cX12_spread 8 = .ok (.invokevirtual 335, 3) := by decide +kernel
theorem dX12_spread_11 : decode cX12_spread 11 = .ok (.istore_n 3, 1) := by decide +kernel
theorem dX12_spread_12 : decode cX12_spread 12 = .ok (.iconst 0, 1) := by decide +kernel
theorem dX12_spread_13 : decode cX12_spread 13 = .ok (.istore 4, 2) := by decide +kernel
theorem dX12_spread_15 : decode cX12_spread 15 = .ok (.iload 4, 2) := by decide +kernel
theorem dX12_spread_17 : decode cX12_spread 17 = .ok (.aload_n 0, 1) := by decide +kernel
theorem dX12_spread_18 : decode cX12_spread 18 = .ok (.getfield 353, 3) := by decide +kernel
theorem dX12_spread_21 : decode cX12_spread 21 = .ok (.if_icmp .ge 76, 3) := by decide +kernel
theorem dX12_spread_24 : decode cX12_spread 24 = .ok (.aload_n 0, 1) := by decide +kernel
theorem dX12_spread_25 : decode cX12_spread 25 = .ok (.iload 4, 2) := by decide +kernel
theorem dX12_spread_27 : decode cX12_spread 27 = .ok (.iload_n 2, 1) := by decide +kernel
theorem dX12_spread_28 : decode cX12_spread 28 = .ok (.iload_n 3, 1) := by decide +kernel
theorem dX12_spread_29 : decode cX12_spread 29 = .ok (.invokevirtual 370, 3) := by decide +kernel
theorem dX12_spread_32 : decode cX12_spread 32 = .ok (.iconst 0, 1) := by decide +kernel
theorem dX12_spread_33 : decode cX12_spread 33 = .ok (.istore 5, 2) := by decide +kernel
theorem dX12_spread_35 : decode cX12_spread 35 = .ok (.aload_n 0, 1) := by decide +kernel
theorem dX12_spread_36 : decode cX12_spread 36 = .ok (.getfield 283, 3) := by decide +kernel
theorem dX12_spread_39 : decode cX12_spread 39 = .ok (.iconst 1, 1) := by decide +kernel
theorem dX12_spread_40 : decode cX12_spread 40 = .ok (.isub, 1) := by decide +kernel
theorem dX12_spread_41 : decode cX12_spread 41 = .ok (.istore 6, 2) := by decide +kernel
theorem dX12_spread_43 : decode cX12_spread 43 = .ok (.iload 6, 2) := by decide +kernel
theorem dX12_spread_45 : decode cX12_spread 45 = .ok (.ifCond .lt 25, 3) := by decide +kernel
theorem dX12_spread_48 : decode cX12_spread 48 = .ok (.iconst 5, 1) := by decide +kernel
theorem dX12_spread_49 : decode cX12_spread 49 = .ok (.iload 5, 2) := by decide +kernel
theorem dX12_spread_51 : decode cX12_spread 51 = .ok (.imul, 1) := by decide +kernel
theorem dX12_spread_52 : decode cX12_spread 52 = .ok (.aload_n 0, 1) := by decide +kernel
theorem dX12_spread_53 : decode cX12_spread 53 = .ok (.getfield 63, 3) := by decide +kernel
theorem dX12_spread_56 : decode cX12_spread 56 = .ok (.iload 6, 2) := by decide +kernel
theorem dX12_spread_58 : decode cX12_spread 58 = .ok (.iaload, 1) := by decide +kernel
theorem dX12_spread_59 : decode cX12_spread 59 = .ok (.iadd, 1) := by decide +kernel
theorem dX12_spread_60 : decode cX12_spread 60 = .ok (.iconst 1, 1) := by decide +kernel
theorem dX12_spread_61 : decode cX12_spread 61 = .ok (.iadd, 1) := by decide +kernel
theorem dX12_spread_62 : decode cX12_spread 62 = .ok (.istore 5, 2) := by decide +kernel
theorem dX12_spread_64 : decode cX12_spread 64 = .ok (.iinc 6 (-1), 3) := by decide +kernel
theorem dX12_spread_67 : decode cX12_spread 67 = .ok (.goto (-24), 3) := by decide +kernel
theorem dX12_spread_70 : decode cX12_spread 70 = .ok (.aload_n 0, 1) := by decide +kernel
theorem dX12_spread_71 : decode cX12_spread 71 = .ok (.getfield 84, 3) := by decide +kernel
theorem dX12_spread_74 : decode cX12_spread 74 = .ok (.iload 5, 2) := by decide +kernel
theorem dX12_spread_76 : decode cX12_spread 76 = .ok (.dup2, 1) := by decide +kernel
theorem dX12_spread_77 : decode cX12_spread 77 = .ok (.iaload, 1) := by decide +kernel
theorem dX12_spread_78 : decode cX12_spread 78 = .ok (.aload_n 0, 1) := by decide +kernel
theorem dX12_spread_79 : decode cX12_spread 79 = .ok (.getfield 81, 3) := by decide +kernel
theorem dX12_spread_82 : decode cX12_spread 82 = .ok (.iload_n 1, 1) := by decide +kernel
theorem dX12_spread_83 : decode cX12_spread 83 = .ok (.iaload, 1) := by decide +kernel
theorem dX12_spread_84 : decode cX12_spread 84 = .ok (.aload_n 0, 1) := by decide +kernel
theorem dX12_spread_85 : decode cX12_spread 85 = .ok (.getfield 353, 3) := by decide +kernel
theorem dX12_spread_88 : decode cX12_spread 88 = .ok (.idiv, 1) := by decide +kernel
theorem dX12_spread_89 : decode cX12_spread 89 = .ok (.iadd, 1) := by decide +kernel
theorem dX12_spread_90 : decode cX12_spread 90 = .ok (.iastore, 1) := by decide +kernel
theorem dX12_spread_91 : decode cX12_spread 91 = .ok (.iinc 4 1, 3) := by decide +kernel
theorem dX12_spread_94 : decode cX12_spread 94 = .ok (.goto (-79), 3) := by decide +kernel
theorem dX12_spread_97 : decode cX12_spread 97 = .ok (.return_, 1) := by decide +kernel
theorem F_X12_84 : FLk RX12 84 12 40 := ⟨RX12, TX12, 58, rfl, rfl, iw_X12, by decide, Or.inl fl_X12_84⟩
def f_X12_spread_43 (q15 : Nat → Int32 → Int32 → Int32 → Int32 → AH → Option AH) : Nat → Nat → Int32 → Int32 → Int32 → Int32 → Int32 → Int32 → AH → Option AH
  | 0, _, _, _, _, _, _, _, _ => none
  | n + 1, k0, x1, x2, x3, x4, x5, x6, h =>
    if x6 < 0 then (
      og (ix x5 (an (rf k0 40))) <|
      og (ix x1 (an (rf k0 39))) <|
      og (decide (¬ (h.1 k0 34) = 0)) <|
      og (ix x5 (an (rf k0 40))) <|
      nm (sI h (rf k0 40) x5.toNatClampNeg ((h.1 (rf k0 40) x5.toNatClampNeg) + ((h.1 (rf k0 39) x1.toNatClampNeg) / (h.1 k0 34)))) fun h_6 =>
      nm (x4 + 1) fun x4_8 =>
      q15 k0 x1 x2 x3 x4_8 h_6
    ) else (
      og (ix x6 (an (rf k0 28))) <|
      nm ((((5 * x5) + (h.1 (rf k0 28) x6.toNatClampNeg)) + 1)) fun x5_11 =>
      nm (x6 + (-1)) fun x6_13 =>
      f_X12_spread_43 q15 n k0 x1 x2 x3 x4 x5_11 x6_13 h
    )
def f_X12_spread_15 : Nat → Nat → Int32 → Int32 → Int32 → Int32 → AH → Option AH
  | 0, _, _, _, _, _, _ => none
  | n + 1, k0, x1, x2, x3, x4, h =>
    if (h.1 k0 34) ≤ x4 then (
      some h
    ) else (
      ov (f_X12_goWay k0 x4 x2 x3 h) fun h_3 =>
      nm (((h_3.1 k0 20) - 1)) fun x6_4 =>
      f_X12_spread_43 (f_X12_spread_15 n) FU k0 x1 x2 x3 x4 0 x6_4 h_3
    )
def f_X12_spread (k0 : Nat) (x1 : Int32) (x2 : Int32) (h : AH) : Option AH :=
  ov (f_X12_have k0 x1 h) fun h_2 =>
  ob (f_X12_doorOf k0 0 x2 h_2) fun r_5 h_4 =>
  f_X12_spread_15 FU k0 x1 x2 r_5 0 h_4
set_option maxHeartbeats 4000000 in
set_option maxRecDepth 100000 in
theorem v_X12_spread_43 {E : EV} {d : Nat} (hd : 1461 ≤ d) {h0 : AH} {q15 : Nat → Int32 → Int32 → Int32 → Int32 → AH → Option AH} (cq15 : ∀ (k0 : Nat) (x1 : Int32) (x2 : Int32) (x3 : Int32) (x4 : Int32) (h : AH), q15 k0 x1 x2 x3 x4 h = some h0 → kd k0 = (0, 12) → V E (d + 1) K_X12_spread (ZV E h0) h [(0, .ref k0), (1, .int x1), (2, .int x2), (3, .int x3), (4, .int x4)] [] 15) : ∀ (n : Nat) (k0 : Nat) (x1 : Int32) (x2 : Int32) (x3 : Int32) (x4 : Int32) (x5 : Int32) (x6 : Int32) (h : AH), f_X12_spread_43 q15 n k0 x1 x2 x3 x4 x5 x6 h = some h0 → kd k0 = (0, 12) → V E (d + 1) K_X12_spread (ZV E h0) h [(0, .ref k0), (1, .int x1), (2, .int x2), (3, .int x3), (4, .int x4), (5, .int x5), (6, .int x6)] [] 43 := by
  intro n
  induction n with
  | zero =>
    intro k0 x1 x2 x3 x4 x5 x6 h hf
    rw [f_X12_spread_43] at hf
    cases hf
  | succ n ih =>
    intro k0 x1 x2 x3 x4 x5 x6 h hf t_k0
    rw [f_X12_spread_43] at hf
    refine V_iload 6 dX12_spread_43 rfl ?_
    refine V_if_lt (tgt := 70) dX12_spread_45 (by decide) (fun c_1 => ?_) (fun c_1 => ?_)
    · have hf := it_s c_1 hf
      refine V_aload_n 0 dX12_spread_70 rfl rfl ?_
      refine V_getR F_X12_84 rfl t_k0 rfl dX12_spread_71 ?_
      refine V_iload 5 dX12_spread_74 rfl ?_
      refine V_dup2 dX12_spread_76 rfl rfl ?_
      obtain ⟨b_2, hf⟩ := og_s hf
      refine V_iald (rfA t_k0 (Nat.le_of_ble_eq_true rfl) rfl rfl (by decide)) b_2 dX12_spread_77 ?_
      refine V_aload_n 0 dX12_spread_78 rfl rfl ?_
      refine V_getR F_X12_81 rfl t_k0 rfl dX12_spread_79 ?_
      refine V_iload_n 1 dX12_spread_82 rfl rfl ?_
      obtain ⟨b_3, hf⟩ := og_s hf
      refine V_iald (rfA t_k0 (Nat.le_of_ble_eq_true rfl) rfl rfl (by decide)) b_3 dX12_spread_83 ?_
      refine V_aload_n 0 dX12_spread_84 rfl rfl ?_
      refine V_getI F_X12_353 rfl t_k0 rfl dX12_spread_85 ?_
      obtain ⟨b_4, hf⟩ := og_s hf
      refine V_idiv dX12_spread_88 (of_decide_eq_true b_4) ?_
      refine V_iadd dX12_spread_89 ?_
      obtain ⟨b_5, hf⟩ := og_s hf
      obtain ⟨h_6, e_7, hf⟩ := nm_s hf
      refine V_iast (rfA t_k0 (Nat.le_of_ble_eq_true rfl) rfl rfl (by decide)) b_5 e_7 dX12_spread_90 ?_
      obtain ⟨x4_8, e_9, hf⟩ := nm_s hf
      refine V_iinc (a := 1) (L' := [(4, .int x4_8), (0, .ref k0), (1, .int x1), (2, .int x2), (3, .int x3), (5, .int x5), (6, .int x6)]) 4 dX12_spread_91 rfl (by decide) (Nat.le_of_ble_eq_true rfl) e_9 rfl ?_
      refine V_goto (tgt := 15) dX12_spread_94 (by decide) ?_
      refine V_sub [1, 2, 3, 4, 0] rfl ?_
      exact cq15 _ _ _ _ _ _ hf t_k0
    · have hf := if_s c_1 hf
      refine V_iconst (v := 5) dX12_spread_48 (by decide) ?_
      refine V_iload 5 dX12_spread_49 rfl ?_
      refine V_imul dX12_spread_51 ?_
      refine V_aload_n 0 dX12_spread_52 rfl rfl ?_
      refine V_getR F_X12_63 rfl t_k0 rfl dX12_spread_53 ?_
      refine V_iload 6 dX12_spread_56 rfl ?_
      obtain ⟨b_10, hf⟩ := og_s hf
      refine V_iald (rfA t_k0 (Nat.le_of_ble_eq_true rfl) rfl rfl (by decide)) b_10 dX12_spread_58 ?_
      refine V_iadd dX12_spread_59 ?_
      refine V_iconst (v := 1) dX12_spread_60 (by decide) ?_
      refine V_iadd dX12_spread_61 ?_
      obtain ⟨x5_11, e_12, hf⟩ := nm_s hf
      refine V_istore (L' := [(5, .int x5_11), (0, .ref k0), (1, .int x1), (2, .int x2), (3, .int x3), (4, .int x4), (6, .int x6)]) dX12_spread_62 (Nat.le_of_ble_eq_true rfl) e_12 rfl ?_
      obtain ⟨x6_13, e_14, hf⟩ := nm_s hf
      refine V_iinc (a := (-1)) (L' := [(6, .int x6_13), (5, .int x5_11), (0, .ref k0), (1, .int x1), (2, .int x2), (3, .int x3), (4, .int x4)]) 6 dX12_spread_64 rfl (by decide) (Nat.le_of_ble_eq_true rfl) e_14 rfl ?_
      refine V_goto (tgt := 43) dX12_spread_67 (by decide) ?_
      refine V_sub [2, 3, 4, 5, 6, 1, 0] rfl ?_
      exact ih _ _ _ _ _ _ _ _ hf t_k0
set_option maxHeartbeats 4000000 in
set_option maxRecDepth 100000 in
theorem v_X12_spread_15 {E : EV} {d : Nat} (hd : 1461 ≤ d) {h0 : AH} : ∀ (n : Nat) (k0 : Nat) (x1 : Int32) (x2 : Int32) (x3 : Int32) (x4 : Int32) (h : AH), f_X12_spread_15 n k0 x1 x2 x3 x4 h = some h0 → kd k0 = (0, 12) → V E (d + 1) K_X12_spread (ZV E h0) h [(0, .ref k0), (1, .int x1), (2, .int x2), (3, .int x3), (4, .int x4)] [] 15 := by
  intro n
  induction n with
  | zero =>
    intro k0 x1 x2 x3 x4 h hf
    rw [f_X12_spread_15] at hf
    cases hf
  | succ n ih =>
    intro k0 x1 x2 x3 x4 h hf t_k0
    rw [f_X12_spread_15] at hf
    refine V_iload 4 dX12_spread_15 rfl ?_
    refine V_aload_n 0 dX12_spread_17 rfl rfl ?_
    refine V_getI F_X12_353 rfl t_k0 rfl dX12_spread_18 ?_
    refine V_ic_ge (tgt := 97) dX12_spread_21 (by decide) (fun c_1 => ?_) (fun c_1 => ?_)
    · have hf := it_s c_1 hf
      exact V_vret rfl (so_s hf) dX12_spread_97
    · have hf := if_s c_1 hf
      refine V_aload_n 0 dX12_spread_24 rfl rfl ?_
      refine V_iload 4 dX12_spread_25 rfl ?_
      refine V_iload_n 2 dX12_spread_27 rfl rfl ?_
      refine V_iload_n 3 dX12_spread_28 rfl rfl ?_
      obtain ⟨h_3, e_2, hf⟩ := ov_s hf
      refine V_cvv (As := [.int x4, .int x2, .int x3]) (rest := []) (c_X12_goWay (d := d) (Nat.le_trans (Nat.le_of_ble_eq_true rfl) hd) e_2 t_k0) ML_X12_370 MV_X12_goWay rfl t_k0 rfl rfl (Nat.le_of_ble_eq_true rfl) dX12_spread_29 ?_
      refine V_iconst (v := 0) dX12_spread_32 (by decide) ?_
      refine V_istore (L' := [(5, .int 0), (0, .ref k0), (1, .int x1), (2, .int x2), (3, .int x3), (4, .int x4)]) dX12_spread_33 (Nat.le_of_ble_eq_true rfl) rfl rfl ?_
      refine V_aload_n 1 dX12_spread_35 rfl rfl ?_
      refine V_getI F_X12_283 rfl t_k0 rfl dX12_spread_36 ?_
      refine V_iconst (v := 1) dX12_spread_39 (by decide) ?_
      refine V_isub dX12_spread_40 ?_
      obtain ⟨x6_4, e_5, hf⟩ := nm_s hf
      refine V_istore (L' := [(6, .int x6_4), (5, .int 0), (0, .ref k0), (1, .int x1), (2, .int x2), (3, .int x3), (4, .int x4)]) dX12_spread_41 (Nat.le_of_ble_eq_true rfl) e_5 rfl ?_
      refine V_sub [2, 3, 4, 5, 6, 1, 0] rfl ?_
      exact v_X12_spread_43 hd ih FU _ _ _ _ _ _ _ _ hf t_k0
set_option maxHeartbeats 4000000 in
set_option maxRecDepth 100000 in
theorem c_X12_spread {E : EV} {d : Nat} (hd : 1461 + 1 ≤ d) {k0 : Nat} {x1 : Int32} {x2 : Int32} {h : AH} {h0 : AH} (hf : f_X12_spread k0 x1 x2 h = some h0) (t_k0 : kd k0 = (0, 12)) : Con E d K_X12_spread (ZV E h0) [.ref k0, .int x1, .int x2] h := by
  obtain ⟨d, rfl⟩ : ∃ d', d = d' + 1 := ⟨d - 1, by omega⟩
  have hd := Nat.le_of_succ_le_succ hd
  refine Con.ofV rfl (Nat.le_of_ble_eq_true rfl) ?_
  unfold f_X12_spread at hf
  show V E (d + 1) K_X12_spread (ZV E h0) h [(0, .ref k0), (1, .int x1), (2, .int x2)] [] 0
  refine V_aload_n 0 dX12_spread_0 rfl rfl ?_
  refine V_iload_n 1 dX12_spread_1 rfl rfl ?_
  obtain ⟨h_2, e_1, hf⟩ := ov_s hf
  refine V_cvv (As := [.int x1]) (rest := []) (c_X12_have (d := d) (Nat.le_trans (Nat.le_of_ble_eq_true rfl) hd) e_1 t_k0) ML_X12_410 MV_X12_have rfl t_k0 rfl rfl (Nat.le_of_ble_eq_true rfl) dX12_spread_2 ?_
  refine V_aload_n 0 dX12_spread_5 rfl rfl ?_
  refine V_iconst (v := 0) dX12_spread_6 (by decide) ?_
  refine V_iload_n 2 dX12_spread_7 rfl rfl ?_
  obtain ⟨r_5, h_4, e_3, hf⟩ := ob_s hf
  refine V_cvi (As := [.int 0, .int x2]) (rest := []) (c_X12_doorOf (d := d) (Nat.le_trans (Nat.le_of_ble_eq_true rfl) hd) e_3 t_k0) ML_X12_335 MV_X12_doorOf rfl t_k0 rfl rfl (Nat.le_of_ble_eq_true rfl) dX12_spread_8 ?_
  refine V_istore_n (L' := [(3, .int r_5), (0, .ref k0), (1, .int x1), (2, .int x2)]) dX12_spread_11 rfl (Nat.le_of_ble_eq_true rfl) rfl rfl ?_
  refine V_iconst (v := 0) dX12_spread_12 (by decide) ?_
  refine V_istore (L' := [(4, .int 0), (3, .int r_5), (0, .ref k0), (1, .int x1), (2, .int x2)]) dX12_spread_13 (Nat.le_of_ble_eq_true rfl) rfl rfl ?_
  refine V_sub [2, 3, 4, 1, 0] rfl ?_
  exact v_X12_spread_15 hd FU _ _ _ _ _ _ hf t_k0
theorem dX12_likely_0 : decode cX12_likely 0 = .ok (.aload_n 0, 1) := by decide +kernel
theorem dX12_likely_1 : decode cX12_likely 1 = .ok (.iconst 0, 1) := by decide +kernel
theorem dX12_likely_2 : decode cX12_likely 2 = .ok (.putfield 120, 3) := by decide +kernel
theorem dX12_likely_5 : decode cX12_likely 5 = .ok (.aload_n 0, 1) := by decide +kernel
theorem dX12_likely_6 : decode cX12_likely 6 = .ok (.getfield 283, 3) := by decide +kernel
theorem dX12_likely_9 : decode cX12_likely 9 = .ok (.ifCond .eq 39, 3) := by decide +kernel
theorem dX12_likely_12 : decode cX12_likely 12 = .ok (.aload_n 0, 1) := by decide +kernel
theorem dX12_likely_13 : decode cX12_likely 13 = .ok (.getfield 283, 3) := by decide +kernel
theorem dX12_likely_16 : decode cX12_likely 16 = .ok (.iconst 4, 1) := by decide +kernel
theorem dX12_likely_17 : decode cX12_likely 17 = .ok (.if_icmp .gt 31, 3) := by decide +kernel
theorem dX12_likely_20 : decode cX12_likely 20 = .ok (.iload_n 1, 1) := by decide +kernel
theorem dX12_likely_21 : decode cX12_likely 21 = .ok (.i2l, 1) := by decide +kernel
theorem dX12_likely_22 : decode cX12_likely 22 = .ok (.lconst 0, 1) := by decide +kernel
theorem dX12_likely_23 : decode cX12_likely 23 = .ok (.ldc2_w 242, 3) := by decide +kernel
theorem dX12_likely_26 : decode cX12_likely 26 = .ok (.invokestatic 247, 3) := by decide +kernel
theorem dX12_likely_29 : decode cX12_likely 29 = .ok (.ifCond .eq 19, 3) := by decide +kernel
theorem dX12_likely_32 : decode cX12_likely 32 = .ok (.aload_n 0, 1) := by decide +kernel
theorem dX12_likely_33 : decode cX12_likely 33 = .ok (.iload_n 2, 1) := by decide +kernel
theorem dX12_likely_34 : decode cX12_likely 34 = .ok (.invokevirtual 295, 3) := by decide +kernel
theorem dX12_likely_37 : decode cX12_likely 37 = .ok (.ifCond .eq 11, 3) := by decide +kernel
theorem dX12_likely_40 : decode cX12_likely 40 = .ok (.aload_n 0, 1) := by decide +kernel
theorem dX12_likely_41 : decode cX12_likely 41 = .ok (.iload_n 3, 1) := by decide +kernel
theorem dX12_likely_42 : decode cX12_likely 42 = .ok (.invokevirtual 364, 3) := by decide +kernel
theorem dX12_likely_45 : decode cX12_likely 45 = .ok (.ifCond .ne 5, 3) := by decide +kernel
theorem dX12_likely_48 : decode cX12_likely 48 = .ok (.iconst (-1), 1) := by decide +kernel
theorem dX12_likely_49 : decode cX12_likely 49 = .ok (.ireturn, 1) := by decide +kernel
theorem dX12_likely_50 : decode cX12_likely 50 = .ok (.iconst 0, 1) := by decide +kernel
theorem dX12_likely_51 : decode cX12_likely 51 = .ok (.istore 4, 2) := by decide +kernel
theorem dX12_likely_53 : decode cX12_likely 53 = .ok (.iload 4, 2) := by decide +kernel
theorem dX12_likely_55 : decode cX12_likely 55 = .ok (.aload_n 0, 1) := by decide +kernel
theorem dX12_likely_56 : decode cX12_likely 56 = .ok (.getfield 283, 3) := by decide +kernel
theorem dX12_likely_59 : decode cX12_likely 59 = .ok (.if_icmp .ge 37, 3) := by decide +kernel
theorem dX12_likely_62 : decode cX12_likely 62 = .ok (.aload_n 0, 1) := by decide +kernel
theorem dX12_likely_63 : decode cX12_likely 63 = .ok (.getfield 87, 3) := by decide +kernel
theorem dX12_likely_66 : decode cX12_likely 66 = .ok (.iload 4, 2) := by decide +kernel
theorem dX12_likely_68 : decode cX12_likely 68 = .ok (.aload_n 0, 1) := by decide +kernel
theorem dX12_likely_69 : decode cX12_likely 69 = .ok (.getfield 48, 3) := by decide +kernel
theorem dX12_likely_72 : decode cX12_likely 72 = .ok (.iload 4, 2) := by decide +kernel
theorem dX12_likely_74 : decode cX12_likely 74 = .ok (.iaload, 1) := by decide +kernel
theorem dX12_likely_75 : decode cX12_likely 75 = .ok (.iastore, 1) := by decide +kernel
theorem dX12_likely_76 : decode cX12_likely 76 = .ok (.aload_n 0, 1) := by decide +kernel
theorem dX12_likely_77 : decode cX12_likely 77 = .ok (.getfield 90, 3) := by decide +kernel
theorem dX12_likely_80 : decode cX12_likely 80 = .ok (.iload 4, 2) := by decide +kernel
theorem dX12_likely_82 : decode cX12_likely 82 = .ok (.aload_n 0, 1) := by decide +kernel
theorem dX12_likely_83 : decode cX12_likely 83 = .ok (.getfield 45, 3) := by decide +kernel
theorem dX12_likely_86 : decode cX12_likely 86 = .ok (.iload 4, 2) := by decide +kernel
theorem dX12_likely_88 : decode cX12_likely 88 = .ok (.iaload, 1) := by decide +kernel
theorem dX12_likely_89 : decode cX12_likely 89 = .ok (.iastore, 1) := by decide +kernel
theorem dX12_likely_90 : decode cX12_likely 90 = .ok (.iinc 4 1, 3) := by decide +kernel
theorem dX12_likely_93 : decode cX12_likely 93 = .ok (.goto (-40), 3) := by decide +kernel
theorem dX12_likely_96 : decode cX12_likely 96 = .ok (.iconst 0, 1) := by decide +kernel
theorem dX12_likely_97 : decode cX12_likely 97 = .ok (.istore 4, 2) := by decide +kernel
theorem dX12_likely_99 : decode cX12_likely 99 = .ok (.iload 4, 2) := by decide +kernel
theorem dX12_likely_101 : decode cX12_likely 101 = .ok (.sipush 625, 3) := by decide +kernel
theorem dX12_likely_104 : decode cX12_likely 104 = .ok (.if_icmp .ge 17, 3) := by decide +kernel
theorem dX12_likely_107 : decode cX12_likely 107 = .ok (.aload_n 0, 1) := by decide +kernel
theorem dX12_likely_108 : decode cX12_likely 108 = .ok (.getfield 81, 3) := by decide +kernel
theorem dX12_likely_111 : decode cX12_likely 111 = .ok (.iload 4, 2) := by decide +kernel
theorem dX12_likely_113 : decode cX12_likely 113 = .ok (.iconst 0, 1) := by decide +kernel
theorem dX12_likely_114 : decode cX12_likely 114 = .ok (.iastore, 1) := by decide +kernel
theorem dX12_likely_115 : decode cX12_likely 115 = .ok (.iinc 4 1, 3) := by decide +kernel
theorem dX12_likely_118 : decode cX12_likely 118 = .ok (.goto (-19), 3) := by decide +kernel
theorem dX12_likely_121 : decode cX12_likely 121 = .ok (.aload_n 0, 1) := by decide +kernel
theorem dX12_likely_122 : decode cX12_likely 122 = .ok (.getfield 81, 3) := by decide +kernel
theorem dX12_likely_125 : decode cX12_likely 125 = .ok (.aload_n 0, 1) := by decide +kernel
theorem dX12_likely_126 : decode cX12_likely 126 = .ok (.invokevirtual 413, 3) := by decide +kernel
theorem dX12_likely_129 : decode cX12_likely 129 = .ok (.ldc_w 376, 3) := by decide +kernel
theorem dX12_likely_132 : decode cX12_likely 132 = .ok (.iastore, 1) := by decide +kernel
theorem dX12_likely_133 : decode cX12_likely 133 = .ok (.iconst 1, 1) := by decide +kernel
theorem dX12_likely_134 : decode cX12_likely 134 = .ok (.aload_n 0, 1) := by decide +kernel
theorem dX12_likely_135 : decode cX12_likely 135 = .ok (.getfield 283, 3) := by decide +kernel
theorem dX12_likely_138 : decode cX12_likely 138 = .ok (.ishl, 1) := by decide +kernel
theorem dX12_likely_139 : decode cX12_likely 139 = .ok (.iconst 1, 1) := by decide +kernel
theorem dX12_likely_140 : decode cX12_likely 140 = .ok (.isub, 1) := by decide +kernel
theorem dX12_likely_141 : decode cX12_likely 141 = .ok (.istore 4, 2) := by decide +kernel
theorem dX12_likely_143 : decode cX12_likely 143 = .ok (.aload_n 0, 1) := by decide +kernel
theorem dX12_likely_144 : decode cX12_likely 144 = .ok (.iload 4, 2) := by decide +kernel
theorem dX12_likely_146 : decode cX12_likely 146 = .ok (.invokevirtual 367, 3) := by decide +kernel
theorem dX12_likely_149 : decode cX12_likely 149 = .ok (.iconst 0, 1) := by decide +kernel
theorem dX12_likely_150 : decode cX12_likely 150 = .ok (.istore 5, 2) := by decide +kernel
theorem dX12_likely_152 : decode cX12_likely 152 = .ok (.iload 5, 2) := by decide +kernel
theorem dX12_likely_154 : decode cX12_likely 154 = .ok (.iload_n 1, 1) := by decide +kernel
theorem dX12_likely_155 : decode cX12_likely 155 = .ok (.if_icmp .ge 100, 3) := by decide +kernel
theorem dX12_likely_158 : decode cX12_likely 158 = .ok (.iconst 0, 1) := by decide +kernel
theorem dX12_likely_159 : decode cX12_likely 159 = .ok (.istore 6, 2) := by decide +kernel
theorem dX12_likely_161 : decode cX12_likely 161 = .ok (.iload 6, 2) := by decide +kernel
theorem dX12_likely_163 : decode cX12_likely 163 = .ok (.sipush 625, 3) := by decide +kernel
theorem dX12_likely_166 : decode cX12_likely 166 = .ok (.if_icmp .ge 17, 3) := by decide +kernel
theorem dX12_likely_169 : decode cX12_likely 169 = .ok (.aload_n 0, 1) := by decide +kernel
theorem dX12_likely_170 : decode cX12_likely 170 = .ok (.getfield 84, 3) := by decide +kernel
theorem dX12_likely_173 : decode cX12_likely 173 = .ok (.iload 6, 2) := by decide +kernel
theorem dX12_likely_175 : decode cX12_likely 175 = .ok (.iconst 0, 1) := by decide +kernel
theorem dX12_likely_176 : decode cX12_likely 176 = .ok (.iastore, 1) := by decide +kernel
theorem dX12_likely_177 : decode cX12_likely 177 = .ok (.iinc 6 1, 3) := by decide +kernel
theorem dX12_likely_180 : decode cX12_likely 180 = .ok (.goto (-19), 3) := by decide +kernel
theorem dX12_likely_183 : decode cX12_likely 183 = .ok (.iconst 0, 1) := by decide +kernel
theorem dX12_likely_184 : decode cX12_likely 184 = .ok (.istore 6, 2) := by decide +kernel
theorem dX12_likely_186 : decode cX12_likely 186 = .ok (.iload 6, 2) := by decide +kernel
theorem dX12_likely_188 : decode cX12_likely 188 = .ok (.sipush 625, 3) := by decide +kernel
theorem dX12_likely_191 : decode cX12_likely 191 = .ok (.if_icmp .ge 27, 3) := by decide +kernel
theorem dX12_likely_194 : decode cX12_likely 194 = .ok (.aload_n 0, 1) := by decide +kernel
theorem dX12_likely_195 : decode cX12_likely 195 = .ok (.getfield 81, 3) := by decide +kernel
theorem dX12_likely_198 : decode cX12_likely 198 = .ok (.iload 6, 2) := by decide +kernel
theorem dX12_likely_200 : decode cX12_likely 200 = .ok (.iaload, 1) := by decide +kernel
theorem dX12_likely_201 : decode cX12_likely 201 = .ok (.ifCond .le 11, 3) := by decide +kernel
theorem dX12_likely_204 : decode cX12_likely 204 = .ok (.aload_n 0, 1) := by decide +kernel
theorem dX12_likely_205 : decode cX12_likely 205 = .ok (.iload 6, 2) := by decide +kernel
theorem dX12_likely_207 : decode cX12_likely 207 = .ok (.iload 4, 2) := by decide +kernel
theorem dX12_likely_209 : decode cX12_likely 209 = .ok (.invokevirtual 416, 3) := by decide +kernel
theorem dX12_likely_212 : decode cX12_likely 212 = .ok (.iinc 6 1, 3) := by decide +kernel
theorem dX12_likely_215 : decode cX12_likely 215 = .ok (.goto (-29), 3) := by decide +kernel
theorem dX12_likely_218 : decode cX12_likely 218 = .ok (.iconst 0, 1) := by decide +kernel
theorem dX12_likely_219 : decode cX12_likely 219 = .ok (.istore 6, 2) := by decide +kernel
theorem dX12_likely_221 : decode cX12_likely 221 = .ok (.iload 6, 2) := by decide +kernel
theorem dX12_likely_223 : decode cX12_likely 223 = .ok (.sipush 625, 3) := by decide +kernel
theorem dX12_likely_226 : decode cX12_likely 226 = .ok (.if_icmp .ge 23, 3) := by decide +kernel
theorem dX12_likely_229 : decode cX12_likely 229 = .ok (.aload_n 0, 1) := by decide +kernel
theorem dX12_likely_230 : decode cX12_likely 230 = .ok (.getfield 81, 3) := by decide +kernel
theorem dX12_likely_233 : decode cX12_likely 233 = .ok (.iload 6, 2) := by decide +kernel
theorem dX12_likely_235 : decode cX12_likely 235 = .ok (.aload_n 0, 1) := by decide +kernel
theorem dX12_likely_236 : decode cX12_likely 236 = .ok (.getfield 84, 3) := by decide +kernel
theorem dX12_likely_239 : decode cX12_likely 239 = .ok (.iload 6, 2) := by decide +kernel
theorem dX12_likely_241 : decode cX12_likely 241 = .ok (.iaload, 1) := by decide +kernel
theorem dX12_likely_242 : decode cX12_likely 242 = .ok (.iastore, 1) := by decide +kernel
theorem dX12_likely_243 : decode cX12_likely 243 = .ok (.iinc 6 1, 3) := by decide +kernel
theorem dX12_likely_246 : decode cX12_likely 246 = .ok (.goto (-25), 3) := by decide +kernel
theorem dX12_likely_249 : decode cX12_likely 249 = .ok (.iinc 5 1, 3) := by decide +kernel
theorem dX12_likely_252 : decode cX12_likely 252 = .ok (.goto (-100), 3) := by decide +kernel
theorem dX12_likely_255 : decode cX12_likely 255 = .ok (.iconst 0, 1) := by decide +kernel
theorem dX12_likely_256 : decode cX12_likely 256 = .ok (.istore 5, 2) := by decide +kernel
theorem dX12_likely_258 : decode cX12_likely 258 = .ok (.iconst 0, 1) := by decide +kernel
theorem dX12_likely_259 : decode cX12_likely 259 = .ok (.istore 6, 2) := by decide +kernel
theorem dX12_likely_261 : decode cX12_likely 261 = .ok (.iload 6, 2) := by decide +kernel
theorem dX12_likely_263 : decode cX12_likely 263 = .ok (.sipush 625, 3) := by decide +kernel
theorem dX12_likely_266 : decode cX12_likely 266 = .ok (.if_icmp .ge 60, 3) := by decide +kernel
theorem dX12_likely_269 : decode cX12_likely 269 = .ok (.iload 6, 2) := by decide +kernel
theorem dX12_likely_271 : decode cX12_likely 271 = .ok (.istore 7, 2) := by decide +kernel
theorem dX12_likely_273 : decode cX12_likely 273 = .ok (.iconst 0, 1) := by decide +kernel
theorem dX12_likely_274 : decode cX12_likely 274 = .ok (.istore 8, 2) := by decide +kernel
theorem dX12_likely_276 : decode cX12_likely 276 = .ok (.iload 8, 2) := by decide +kernel
theorem dX12_likely_278 : decode cX12_likely 278 = .ok (.iload_n 2, 1) := by decide +kernel
theorem dX12_likely_279 : decode cX12_likely 279 = .ok (.if_icmp .ge 15, 3) := by decide +kernel
theorem dX12_likely_282 : decode cX12_likely 282 = .ok (.iload 7, 2) := by decide +kernel
theorem dX12_likely_284 : decode cX12_likely 284 = .ok (.iconst 5, 1) := by decide +kernel
theorem dX12_likely_285 : decode cX12_likely 285 = .ok (.idiv, 1) := by decide +kernel
theorem dX12_likely_286 : decode cX12_likely 286 = .ok (.istore 7, 2) := by decide +kernel
theorem dX12_likely_288 : decode cX12_likely 288 = .ok (.iinc 8 1, 3) := by decide +kernel
theorem dX12_likely_291 : decode cX12_likely 291 = .ok (.goto (-15), 3) := by decide +kernel
theorem dX12_likely_294 : decode cX12_likely 294 = .ok (.iload 5, 2) := by decide +kernel
theorem dX12_likely_296 : decode cX12_likely 296 = .ok (.iload 7, 2) := by decide +kernel
theorem dX12_likely_298 : decode cX12_likely 298 = .ok (.iconst 5, 1) := by decide +kernel
theorem dX12_likely_299 : decode cX12_likely 299 = .ok (.irem, 1) := by decide +kernel
theorem dX12_likely_300 : decode cX12_likely 300 = .ok (.iconst 1, 1) := by decide +kernel
theorem dX12_likely_301 : decode cX12_likely 301 = .ok (.isub, 1) := by decide +kernel
theorem dX12_likely_302 : decode cX12_likely 302 = .ok (.iload_n 3, 1) := by decide +kernel
theorem dX12_likely_303 : decode cX12_likely 303 = .ok (.if_icmp .ne 13, 3) := by decide +kernel
theorem dX12_likely_306 : decode cX12_likely 306 = .ok (.aload_n 0, 1) := by decide +kernel
theorem dX12_likely_307 : decode cX12_likely 307 = .ok (.getfield 81, 3) := by decide +kernel
theorem dX12_likely_310 : decode cX12_likely 310 = .ok (.iload 6, 2) := by decide +kernel
theorem dX12_likely_312 : decode cX12_likely 312 = .ok (.iaload, 1) := by decide +kernel
theorem dX12_likely_313 : decode cX12_likely 313 = .ok (.goto 4, 3) := by decide +kernel
theorem dX12_likely_316 : decode cX12_likely 316 = .ok (.iconst 0, 1) := by decide +kernel
theorem dX12_likely_317 : decode cX12_likely 317 = .ok (.iadd, 1) := by decide +kernel
theorem dX12_likely_318 : decode cX12_likely 318 = .ok (.istore 5, 2) := by decide +kernel
theorem dX12_likely_320 : decode cX12_likely 320 = .ok (.iinc 6 1, 3) := by decide +kernel
theorem dX12_likely_323 : decode cX12_likely 323 = .ok (.goto (-62), 3) := by decide +kernel
theorem dX12_likely_326 : decode cX12_likely 326 = .ok (.iconst 0, 1) := by decide +kernel
theorem dX12_likely_327 : decode cX12_likely 327 = .ok (.istore 6, 2) := by decide +kernel
theorem dX12_likely_329 : decode cX12_likely 329 = .ok (.iload 6, 2) := by decide +kernel
theorem dX12_likely_331 : decode cX12_likely 331 = .ok (.aload_n 0, 1) := by decide +kernel
theorem dX12_likely_332 : decode cX12_likely 332 = .ok (.getfield 283, 3) := by decide +kernel
theorem dX12_likely_335 : decode cX12_likely 335 = .ok (.if_icmp .ge 37, 3) := by decide +kernel
theorem dX12_likely_338 : decode cX12_likely 338 = .ok (.aload_n 0, 1) := by decide +kernel
theorem dX12_likely_339 : decode cX12_likely 339 = .ok (.getfield 48, 3) := by decide +kernel
theorem dX12_likely_342 : decode cX12_likely 342 = .ok (.iload 6, 2) := by decide +kernel
theorem dX12_likely_344 : decode cX12_likely 344 = .ok (.aload_n 0, 1) := by decide +kernel
theorem dX12_likely_345 : decode cX12_likely 345 = .ok (.getfield 87, 3) := by decide +kernel
theorem dX12_likely_348 : decode cX12_likely 348 = .ok (.iload 6, 2) := by decide +kernel
theorem dX12_likely_350 : decode cX12_likely 350 = .ok (.iaload, 1) := by decide +kernel
theorem dX12_likely_351 : decode cX12_likely 351 = .ok (.iastore, 1) := by decide +kernel
theorem dX12_likely_352 : decode cX12_likely 352 = .ok (.aload_n 0, 1) := by decide +kernel
theorem dX12_likely_353 : decode cX12_likely 353 = .ok (.getfield 45, 3) := by decide +kernel
theorem dX12_likely_356 : decode cX12_likely 356 = .ok (.iload 6, 2) := by decide +kernel
theorem dX12_likely_358 : decode cX12_likely 358 = .ok (.aload_n 0, 1) := by decide +kernel
theorem dX12_likely_359 : decode cX12_likely 359 = .ok (.getfield 90, 3) := by decide +kernel
theorem dX12_likely_362 : decode cX12_likely 362 = .ok (.iload 6, 2) := by decide +kernel
theorem dX12_likely_364 : decode cX12_likely 364 = .ok (.iaload, 1) := by decide +kernel
theorem dX12_likely_365 : decode cX12_likely 365 = .ok (.iastore, 1) := by decide +kernel
theorem dX12_likely_366 : decode cX12_likely 366 = .ok (.iinc 6 1, 3) := by decide +kernel
theorem dX12_likely_369 : decode cX12_likely 369 = .ok (.goto (-40), 3) := by decide +kernel
theorem dX12_likely_372 : decode cX12_likely 372 = .ok (.iload 5, 2) := by decide +kernel
theorem dX12_likely_374 : decode cX12_likely 374 = .ok (.ireturn, 1) := by decide +kernel
theorem ML_X12_416 : MLk RX12 416 yX12_spread := Or.inl ml_X12_416
theorem MV_X12_spread : MVk K_X12_spread 2 12 := ⟨⟨cd_X12_spread, in_X12, ⟨by decide, by decide, by decide +kernel⟩, by decide⟩, im_X12_spread, se_X12_spread, _, _, rfl⟩
def f_X12_likely_48  (h : AH) : Option (Int32 × AH) :=
  some ((-1), h)
def f_X12_likely_212 (q186 : Nat → Int32 → Int32 → Int32 → Int32 → Int32 → Int32 → AH → Option (Int32 × AH)) (k0 : Nat) (x1 : Int32) (x2 : Int32) (x3 : Int32) (x4 : Int32) (x5 : Int32) (x6 : Int32) (h : AH) : Option (Int32 × AH) :=
  nm (x6 + 1) fun x6_1 =>
  q186 k0 x1 x2 x3 x4 x5 x6_1 h
def f_X12_likely_221 (q152 : Nat → Int32 → Int32 → Int32 → Int32 → Int32 → AH → Option (Int32 × AH)) : Nat → Nat → Int32 → Int32 → Int32 → Int32 → Int32 → Int32 → AH → Option (Int32 × AH)
  | 0, _, _, _, _, _, _, _, _ => none
  | n + 1, k0, x1, x2, x3, x4, x5, x6, h =>
    if 625 ≤ x6 then (
      nm (x5 + 1) fun x5_2 =>
      q152 k0 x1 x2 x3 x4 x5_2 h
    ) else (
      og (ix x6 (an (rf k0 40))) <|
      og (ix x6 (an (rf k0 39))) <|
      nm (sI h (rf k0 39) x6.toNatClampNeg (h.1 (rf k0 40) x6.toNatClampNeg)) fun h_6 =>
      nm (x6 + 1) fun x6_8 =>
      f_X12_likely_221 q152 n k0 x1 x2 x3 x4 x5 x6_8 h_6
    )
def f_X12_likely_186 (q152 : Nat → Int32 → Int32 → Int32 → Int32 → Int32 → AH → Option (Int32 × AH)) : Nat → Nat → Int32 → Int32 → Int32 → Int32 → Int32 → Int32 → AH → Option (Int32 × AH)
  | 0, _, _, _, _, _, _, _, _ => none
  | n + 1, k0, x1, x2, x3, x4, x5, x6, h =>
    if 625 ≤ x6 then (
      f_X12_likely_221 q152 FU k0 x1 x2 x3 x4 x5 0 h
    ) else (
      og (ix x6 (an (rf k0 39))) <|
      if (h.1 (rf k0 39) x6.toNatClampNeg) ≤ 0 then (
        f_X12_likely_212 (f_X12_likely_186 q152 n) k0 x1 x2 x3 x4 x5 x6 h
      ) else (
        ov (f_X12_spread k0 x6 x4 h) fun h_5 =>
        f_X12_likely_212 (f_X12_likely_186 q152 n) k0 x1 x2 x3 x4 x5 x6 h_5
      )
    )
def f_X12_likely_161 (q152 : Nat → Int32 → Int32 → Int32 → Int32 → Int32 → AH → Option (Int32 × AH)) : Nat → Nat → Int32 → Int32 → Int32 → Int32 → Int32 → Int32 → AH → Option (Int32 × AH)
  | 0, _, _, _, _, _, _, _, _ => none
  | n + 1, k0, x1, x2, x3, x4, x5, x6, h =>
    if 625 ≤ x6 then (
      f_X12_likely_186 q152 FU k0 x1 x2 x3 x4 x5 0 h
    ) else (
      og (ix x6 (an (rf k0 40))) <|
      nm (sI h (rf k0 40) x6.toNatClampNeg 0) fun h_3 =>
      nm (x6 + 1) fun x6_5 =>
      f_X12_likely_161 q152 n k0 x1 x2 x3 x4 x5 x6_5 h_3
    )
def f_X12_likely_317 (q261 : Nat → Int32 → Int32 → Int32 → Int32 → AH → Option (Int32 × AH)) (k0 : Nat) (x2 : Int32) (x3 : Int32) (x6 : Int32) (s0 : Int32) (s1 : Int32) (h : AH) : Option (Int32 × AH) :=
  nm ((s1 + s0)) fun x5_1 =>
  nm (x6 + 1) fun x6_3 =>
  q261 k0 x2 x3 x5_1 x6_3 h
def f_X12_likely_276 (q261 : Nat → Int32 → Int32 → Int32 → Int32 → AH → Option (Int32 × AH)) : Nat → Nat → Int32 → Int32 → Int32 → Int32 → Int32 → Int32 → AH → Option (Int32 × AH)
  | 0, _, _, _, _, _, _, _, _ => none
  | n + 1, k0, x2, x3, x5, x6, x7, x8, h =>
    if x2 ≤ x8 then (
      if ((jirem x7 5) - 1) = x3 then (
        og (ix x6 (an (rf k0 39))) <|
        f_X12_likely_317 q261 k0 x2 x3 x6 (h.1 (rf k0 39) x6.toNatClampNeg) x5 h
      ) else (
        f_X12_likely_317 q261 k0 x2 x3 x6 0 x5 h
      )
    ) else (
      nm ((x7 / 5)) fun x7_4 =>
      nm (x8 + 1) fun x8_6 =>
      f_X12_likely_276 q261 n k0 x2 x3 x5 x6 x7_4 x8_6 h
    )
def f_X12_likely_329 : Nat → Nat → Int32 → Int32 → AH → Option (Int32 × AH)
  | 0, _, _, _, _ => none
  | n + 1, k0, x5, x6, h =>
    if (h.1 k0 20) ≤ x6 then (
      some (x5, h)
    ) else (
      og (ix x6 (an (rf k0 41))) <|
      og (ix x6 (an (rf k0 23))) <|
      nm (sI h (rf k0 23) x6.toNatClampNeg (h.1 (rf k0 41) x6.toNatClampNeg)) fun h_4 =>
      og (ix x6 (an (rf k0 42))) <|
      og (ix x6 (an (rf k0 22))) <|
      nm (sI h_4 (rf k0 22) x6.toNatClampNeg (h_4.1 (rf k0 42) x6.toNatClampNeg)) fun h_8 =>
      nm (x6 + 1) fun x6_10 =>
      f_X12_likely_329 n k0 x5 x6_10 h_8
    )
def f_X12_likely_261 : Nat → Nat → Int32 → Int32 → Int32 → Int32 → AH → Option (Int32 × AH)
  | 0, _, _, _, _, _, _ => none
  | n + 1, k0, x2, x3, x5, x6, h =>
    if 625 ≤ x6 then (
      f_X12_likely_329 FU k0 x5 0 h
    ) else (
      f_X12_likely_276 (f_X12_likely_261 n) FU k0 x2 x3 x5 x6 x6 0 h
    )
def f_X12_likely_152 : Nat → Nat → Int32 → Int32 → Int32 → Int32 → Int32 → AH → Option (Int32 × AH)
  | 0, _, _, _, _, _, _, _ => none
  | n + 1, k0, x1, x2, x3, x4, x5, h =>
    if x1 ≤ x5 then (
      f_X12_likely_261 FU k0 x2 x3 0 0 h
    ) else (
      f_X12_likely_161 (f_X12_likely_152 n) FU k0 x1 x2 x3 x4 x5 0 h
    )
def f_X12_likely_99 : Nat → Nat → Int32 → Int32 → Int32 → Int32 → AH → Option (Int32 × AH)
  | 0, _, _, _, _, _, _ => none
  | n + 1, k0, x1, x2, x3, x4, h =>
    if 625 ≤ x4 then (
      ob (f_X12_havingNow k0 h) fun r_4 h_3 =>
      og (ix r_4 (an (rf k0 39))) <|
      nm (sI h_3 (rf k0 39) r_4.toNatClampNeg 1000000000) fun h_6 =>
      nm ((((1 : Int32) <<< ((h_6.1 k0 20) &&& 31)) - 1)) fun x4_8 =>
      ov (f_X12_allWays k0 x4_8 h_6) fun h_11 =>
      f_X12_likely_152 FU k0 x1 x2 x3 x4_8 0 h_11
    ) else (
      og (ix x4 (an (rf k0 39))) <|
      nm (sI h (rf k0 39) x4.toNatClampNeg 0) fun h_13 =>
      nm (x4 + 1) fun x4_15 =>
      f_X12_likely_99 n k0 x1 x2 x3 x4_15 h_13
    )
def f_X12_likely_53 : Nat → Nat → Int32 → Int32 → Int32 → Int32 → AH → Option (Int32 × AH)
  | 0, _, _, _, _, _, _ => none
  | n + 1, k0, x1, x2, x3, x4, h =>
    if (h.1 k0 20) ≤ x4 then (
      f_X12_likely_99 FU k0 x1 x2 x3 0 h
    ) else (
      og (ix x4 (an (rf k0 23))) <|
      og (ix x4 (an (rf k0 41))) <|
      nm (sI h (rf k0 41) x4.toNatClampNeg (h.1 (rf k0 23) x4.toNatClampNeg)) fun h_4 =>
      og (ix x4 (an (rf k0 22))) <|
      og (ix x4 (an (rf k0 42))) <|
      nm (sI h_4 (rf k0 42) x4.toNatClampNeg (h_4.1 (rf k0 22) x4.toNatClampNeg)) fun h_8 =>
      nm (x4 + 1) fun x4_10 =>
      f_X12_likely_53 n k0 x1 x2 x3 x4_10 h_8
    )
def f_X12_likely (k0 : Nat) (x1 : Int32) (x2 : Int32) (x3 : Int32) (h : AH) : Option (Int32 × AH) :=
  nm (sI h k0 0 0) fun h_1 =>
  if (h_1.1 k0 20) = 0 then (
    f_X12_likely_48 h_1
  ) else (
    if 4 < (h_1.1 k0 20) then (
      f_X12_likely_48 h_1
    ) else (
      ob (f_X12_isIn ((x1).toInt64) 0 20 h_1) fun r_7 h_6 =>
      if r_7 = 0 then (
        f_X12_likely_48 h_6
      ) else (
        ob (f_X12_isPerson k0 x2 h_6) fun r_11 h_10 =>
        if r_11 = 0 then (
          f_X12_likely_48 h_10
        ) else (
          ob (f_X12_isPair k0 x3 h_10) fun r_15 h_14 =>
          if r_15 = 0 then (
            f_X12_likely_48 h_14
          ) else (
            f_X12_likely_53 FU k0 x1 x2 x3 0 h_14
          )
        )
      )
    )
  )
set_option maxHeartbeats 4000000 in
set_option maxRecDepth 100000 in
theorem v_X12_likely_48 {E : EV} {d : Nat} (hd : 1462 ≤ d) {r0 : Int32} {h0 : AH}  {h : AH} (hf : f_X12_likely_48 h = some (r0, h0)) : V E (d + 1) K_X12_likely (ZI E r0 h0) h [] [] 48 := by
  unfold f_X12_likely_48 at hf
  refine V_iconst (v := (-1)) dX12_likely_48 (by decide) ?_
  exact V_iret rfl (so_s hf) dX12_likely_49
set_option maxHeartbeats 4000000 in
set_option maxRecDepth 100000 in
theorem v_X12_likely_212 {E : EV} {d : Nat} (hd : 1462 ≤ d) {r0 : Int32} {h0 : AH} {q186 : Nat → Int32 → Int32 → Int32 → Int32 → Int32 → Int32 → AH → Option (Int32 × AH)} (cq186 : ∀ (k0 : Nat) (x1 : Int32) (x2 : Int32) (x3 : Int32) (x4 : Int32) (x5 : Int32) (x6 : Int32) (h : AH), q186 k0 x1 x2 x3 x4 x5 x6 h = some (r0, h0) → kd k0 = (0, 12) → V E (d + 1) K_X12_likely (ZI E r0 h0) h [(0, .ref k0), (1, .int x1), (2, .int x2), (3, .int x3), (4, .int x4), (5, .int x5), (6, .int x6)] [] 186) {k0 : Nat} {x1 : Int32} {x2 : Int32} {x3 : Int32} {x4 : Int32} {x5 : Int32} {x6 : Int32} {h : AH} (hf : f_X12_likely_212 q186 k0 x1 x2 x3 x4 x5 x6 h = some (r0, h0)) (t_k0 : kd k0 = (0, 12)) : V E (d + 1) K_X12_likely (ZI E r0 h0) h [(0, .ref k0), (1, .int x1), (2, .int x2), (3, .int x3), (4, .int x4), (5, .int x5), (6, .int x6)] [] 212 := by
  unfold f_X12_likely_212 at hf
  obtain ⟨x6_1, e_2, hf⟩ := nm_s hf
  refine V_iinc (a := 1) (L' := [(6, .int x6_1), (0, .ref k0), (1, .int x1), (2, .int x2), (3, .int x3), (4, .int x4), (5, .int x5)]) 6 dX12_likely_212 rfl (by decide) (Nat.le_of_ble_eq_true rfl) e_2 rfl ?_
  refine V_goto (tgt := 186) dX12_likely_215 (by decide) ?_
  refine V_sub [1, 2, 3, 4, 5, 6, 0] rfl ?_
  exact cq186 _ _ _ _ _ _ _ _ hf t_k0
set_option maxHeartbeats 4000000 in
set_option maxRecDepth 100000 in
theorem v_X12_likely_221 {E : EV} {d : Nat} (hd : 1462 ≤ d) {r0 : Int32} {h0 : AH} {q152 : Nat → Int32 → Int32 → Int32 → Int32 → Int32 → AH → Option (Int32 × AH)} (cq152 : ∀ (k0 : Nat) (x1 : Int32) (x2 : Int32) (x3 : Int32) (x4 : Int32) (x5 : Int32) (h : AH), q152 k0 x1 x2 x3 x4 x5 h = some (r0, h0) → kd k0 = (0, 12) → V E (d + 1) K_X12_likely (ZI E r0 h0) h [(0, .ref k0), (1, .int x1), (2, .int x2), (3, .int x3), (4, .int x4), (5, .int x5)] [] 152) : ∀ (n : Nat) (k0 : Nat) (x1 : Int32) (x2 : Int32) (x3 : Int32) (x4 : Int32) (x5 : Int32) (x6 : Int32) (h : AH), f_X12_likely_221 q152 n k0 x1 x2 x3 x4 x5 x6 h = some (r0, h0) → kd k0 = (0, 12) → V E (d + 1) K_X12_likely (ZI E r0 h0) h [(0, .ref k0), (1, .int x1), (2, .int x2), (3, .int x3), (4, .int x4), (5, .int x5), (6, .int x6)] [] 221 := by
  intro n
  induction n with
  | zero =>
    intro k0 x1 x2 x3 x4 x5 x6 h hf
    rw [f_X12_likely_221] at hf
    cases hf
  | succ n ih =>
    intro k0 x1 x2 x3 x4 x5 x6 h hf t_k0
    rw [f_X12_likely_221] at hf
    refine V_iload 6 dX12_likely_221 rfl ?_
    refine V_sipush (v := 625) dX12_likely_223 (by decide) ?_
    refine V_ic_ge (tgt := 249) dX12_likely_226 (by decide) (fun c_1 => ?_) (fun c_1 => ?_)
    · have hf := it_s c_1 hf
      obtain ⟨x5_2, e_3, hf⟩ := nm_s hf
      refine V_iinc (a := 1) (L' := [(5, .int x5_2), (0, .ref k0), (1, .int x1), (2, .int x2), (3, .int x3), (4, .int x4), (6, .int x6)]) 5 dX12_likely_249 rfl (by decide) (Nat.le_of_ble_eq_true rfl) e_3 rfl ?_
      refine V_goto (tgt := 152) dX12_likely_252 (by decide) ?_
      refine V_sub [1, 2, 3, 4, 5, 0] rfl ?_
      exact cq152 _ _ _ _ _ _ _ hf t_k0
    · have hf := if_s c_1 hf
      refine V_aload_n 0 dX12_likely_229 rfl rfl ?_
      refine V_getR F_X12_81 rfl t_k0 rfl dX12_likely_230 ?_
      refine V_iload 6 dX12_likely_233 rfl ?_
      refine V_aload_n 0 dX12_likely_235 rfl rfl ?_
      refine V_getR F_X12_84 rfl t_k0 rfl dX12_likely_236 ?_
      refine V_iload 6 dX12_likely_239 rfl ?_
      obtain ⟨b_4, hf⟩ := og_s hf
      refine V_iald (rfA t_k0 (Nat.le_of_ble_eq_true rfl) rfl rfl (by decide)) b_4 dX12_likely_241 ?_
      obtain ⟨b_5, hf⟩ := og_s hf
      obtain ⟨h_6, e_7, hf⟩ := nm_s hf
      refine V_iast (rfA t_k0 (Nat.le_of_ble_eq_true rfl) rfl rfl (by decide)) b_5 e_7 dX12_likely_242 ?_
      obtain ⟨x6_8, e_9, hf⟩ := nm_s hf
      refine V_iinc (a := 1) (L' := [(6, .int x6_8), (0, .ref k0), (1, .int x1), (2, .int x2), (3, .int x3), (4, .int x4), (5, .int x5)]) 6 dX12_likely_243 rfl (by decide) (Nat.le_of_ble_eq_true rfl) e_9 rfl ?_
      refine V_goto (tgt := 221) dX12_likely_246 (by decide) ?_
      refine V_sub [1, 2, 3, 4, 5, 6, 0] rfl ?_
      exact ih _ _ _ _ _ _ _ _ hf t_k0
set_option maxHeartbeats 4000000 in
set_option maxRecDepth 100000 in
theorem v_X12_likely_186 {E : EV} {d : Nat} (hd : 1462 ≤ d) {r0 : Int32} {h0 : AH} {q152 : Nat → Int32 → Int32 → Int32 → Int32 → Int32 → AH → Option (Int32 × AH)} (cq152 : ∀ (k0 : Nat) (x1 : Int32) (x2 : Int32) (x3 : Int32) (x4 : Int32) (x5 : Int32) (h : AH), q152 k0 x1 x2 x3 x4 x5 h = some (r0, h0) → kd k0 = (0, 12) → V E (d + 1) K_X12_likely (ZI E r0 h0) h [(0, .ref k0), (1, .int x1), (2, .int x2), (3, .int x3), (4, .int x4), (5, .int x5)] [] 152) : ∀ (n : Nat) (k0 : Nat) (x1 : Int32) (x2 : Int32) (x3 : Int32) (x4 : Int32) (x5 : Int32) (x6 : Int32) (h : AH), f_X12_likely_186 q152 n k0 x1 x2 x3 x4 x5 x6 h = some (r0, h0) → kd k0 = (0, 12) → V E (d + 1) K_X12_likely (ZI E r0 h0) h [(0, .ref k0), (1, .int x1), (2, .int x2), (3, .int x3), (4, .int x4), (5, .int x5), (6, .int x6)] [] 186 := by
  intro n
  induction n with
  | zero =>
    intro k0 x1 x2 x3 x4 x5 x6 h hf
    rw [f_X12_likely_186] at hf
    cases hf
  | succ n ih =>
    intro k0 x1 x2 x3 x4 x5 x6 h hf t_k0
    rw [f_X12_likely_186] at hf
    refine V_iload 6 dX12_likely_186 rfl ?_
    refine V_sipush (v := 625) dX12_likely_188 (by decide) ?_
    refine V_ic_ge (tgt := 218) dX12_likely_191 (by decide) (fun c_1 => ?_) (fun c_1 => ?_)
    · have hf := it_s c_1 hf
      refine V_iconst (v := 0) dX12_likely_218 (by decide) ?_
      refine V_istore (L' := [(6, .int 0), (0, .ref k0), (1, .int x1), (2, .int x2), (3, .int x3), (4, .int x4), (5, .int x5)]) dX12_likely_219 (Nat.le_of_ble_eq_true rfl) rfl rfl ?_
      refine V_sub [1, 2, 3, 4, 5, 6, 0] rfl ?_
      exact v_X12_likely_221 hd cq152 FU _ _ _ _ _ _ _ _ hf t_k0
    · have hf := if_s c_1 hf
      refine V_aload_n 0 dX12_likely_194 rfl rfl ?_
      refine V_getR F_X12_81 rfl t_k0 rfl dX12_likely_195 ?_
      refine V_iload 6 dX12_likely_198 rfl ?_
      obtain ⟨b_2, hf⟩ := og_s hf
      refine V_iald (rfA t_k0 (Nat.le_of_ble_eq_true rfl) rfl rfl (by decide)) b_2 dX12_likely_200 ?_
      refine V_if_le (tgt := 212) dX12_likely_201 (by decide) (fun c_3 => ?_) (fun c_3 => ?_)
      · have hf := it_s c_3 hf
        exact v_X12_likely_212 hd ih hf t_k0
      · have hf := if_s c_3 hf
        refine V_aload_n 0 dX12_likely_204 rfl rfl ?_
        refine V_iload 6 dX12_likely_205 rfl ?_
        refine V_iload 4 dX12_likely_207 rfl ?_
        obtain ⟨h_5, e_4, hf⟩ := ov_s hf
        refine V_cvv (As := [.int x6, .int x4]) (rest := []) (c_X12_spread (d := d) (Nat.le_trans (Nat.le_of_ble_eq_true rfl) hd) e_4 t_k0) ML_X12_416 MV_X12_spread rfl t_k0 rfl rfl (Nat.le_of_ble_eq_true rfl) dX12_likely_209 ?_
        exact v_X12_likely_212 hd ih hf t_k0
set_option maxHeartbeats 4000000 in
set_option maxRecDepth 100000 in
theorem v_X12_likely_161 {E : EV} {d : Nat} (hd : 1462 ≤ d) {r0 : Int32} {h0 : AH} {q152 : Nat → Int32 → Int32 → Int32 → Int32 → Int32 → AH → Option (Int32 × AH)} (cq152 : ∀ (k0 : Nat) (x1 : Int32) (x2 : Int32) (x3 : Int32) (x4 : Int32) (x5 : Int32) (h : AH), q152 k0 x1 x2 x3 x4 x5 h = some (r0, h0) → kd k0 = (0, 12) → V E (d + 1) K_X12_likely (ZI E r0 h0) h [(0, .ref k0), (1, .int x1), (2, .int x2), (3, .int x3), (4, .int x4), (5, .int x5)] [] 152) : ∀ (n : Nat) (k0 : Nat) (x1 : Int32) (x2 : Int32) (x3 : Int32) (x4 : Int32) (x5 : Int32) (x6 : Int32) (h : AH), f_X12_likely_161 q152 n k0 x1 x2 x3 x4 x5 x6 h = some (r0, h0) → kd k0 = (0, 12) → V E (d + 1) K_X12_likely (ZI E r0 h0) h [(0, .ref k0), (1, .int x1), (2, .int x2), (3, .int x3), (4, .int x4), (5, .int x5), (6, .int x6)] [] 161 := by
  intro n
  induction n with
  | zero =>
    intro k0 x1 x2 x3 x4 x5 x6 h hf
    rw [f_X12_likely_161] at hf
    cases hf
  | succ n ih =>
    intro k0 x1 x2 x3 x4 x5 x6 h hf t_k0
    rw [f_X12_likely_161] at hf
    refine V_iload 6 dX12_likely_161 rfl ?_
    refine V_sipush (v := 625) dX12_likely_163 (by decide) ?_
    refine V_ic_ge (tgt := 183) dX12_likely_166 (by decide) (fun c_1 => ?_) (fun c_1 => ?_)
    · have hf := it_s c_1 hf
      refine V_iconst (v := 0) dX12_likely_183 (by decide) ?_
      refine V_istore (L' := [(6, .int 0), (0, .ref k0), (1, .int x1), (2, .int x2), (3, .int x3), (4, .int x4), (5, .int x5)]) dX12_likely_184 (Nat.le_of_ble_eq_true rfl) rfl rfl ?_
      refine V_sub [1, 2, 3, 4, 5, 6, 0] rfl ?_
      exact v_X12_likely_186 hd cq152 FU _ _ _ _ _ _ _ _ hf t_k0
    · have hf := if_s c_1 hf
      refine V_aload_n 0 dX12_likely_169 rfl rfl ?_
      refine V_getR F_X12_84 rfl t_k0 rfl dX12_likely_170 ?_
      refine V_iload 6 dX12_likely_173 rfl ?_
      refine V_iconst (v := 0) dX12_likely_175 (by decide) ?_
      obtain ⟨b_2, hf⟩ := og_s hf
      obtain ⟨h_3, e_4, hf⟩ := nm_s hf
      refine V_iast (rfA t_k0 (Nat.le_of_ble_eq_true rfl) rfl rfl (by decide)) b_2 e_4 dX12_likely_176 ?_
      obtain ⟨x6_5, e_6, hf⟩ := nm_s hf
      refine V_iinc (a := 1) (L' := [(6, .int x6_5), (0, .ref k0), (1, .int x1), (2, .int x2), (3, .int x3), (4, .int x4), (5, .int x5)]) 6 dX12_likely_177 rfl (by decide) (Nat.le_of_ble_eq_true rfl) e_6 rfl ?_
      refine V_goto (tgt := 161) dX12_likely_180 (by decide) ?_
      refine V_sub [1, 2, 3, 4, 5, 6, 0] rfl ?_
      exact ih _ _ _ _ _ _ _ _ hf t_k0
set_option maxHeartbeats 4000000 in
set_option maxRecDepth 100000 in
theorem v_X12_likely_317 {E : EV} {d : Nat} (hd : 1462 ≤ d) {r0 : Int32} {h0 : AH} {q261 : Nat → Int32 → Int32 → Int32 → Int32 → AH → Option (Int32 × AH)} (cq261 : ∀ (k0 : Nat) (x2 : Int32) (x3 : Int32) (x5 : Int32) (x6 : Int32) (h : AH), q261 k0 x2 x3 x5 x6 h = some (r0, h0) → kd k0 = (0, 12) → V E (d + 1) K_X12_likely (ZI E r0 h0) h [(0, .ref k0), (2, .int x2), (3, .int x3), (5, .int x5), (6, .int x6)] [] 261) {k0 : Nat} {x2 : Int32} {x3 : Int32} {x6 : Int32} {s0 : Int32} {s1 : Int32} {h : AH} (hf : f_X12_likely_317 q261 k0 x2 x3 x6 s0 s1 h = some (r0, h0)) (t_k0 : kd k0 = (0, 12)) : V E (d + 1) K_X12_likely (ZI E r0 h0) h [(0, .ref k0), (2, .int x2), (3, .int x3), (6, .int x6)] [.int s0, .int s1] 317 := by
  unfold f_X12_likely_317 at hf
  refine V_iadd dX12_likely_317 ?_
  obtain ⟨x5_1, e_2, hf⟩ := nm_s hf
  refine V_istore (L' := [(5, .int x5_1), (0, .ref k0), (2, .int x2), (3, .int x3), (6, .int x6)]) dX12_likely_318 (Nat.le_of_ble_eq_true rfl) e_2 rfl ?_
  obtain ⟨x6_3, e_4, hf⟩ := nm_s hf
  refine V_iinc (a := 1) (L' := [(6, .int x6_3), (5, .int x5_1), (0, .ref k0), (2, .int x2), (3, .int x3)]) 4 dX12_likely_320 rfl (by decide) (Nat.le_of_ble_eq_true rfl) e_4 rfl ?_
  refine V_goto (tgt := 261) dX12_likely_323 (by decide) ?_
  refine V_sub [2, 3, 4, 1, 0] rfl ?_
  exact cq261 _ _ _ _ _ _ hf t_k0
set_option maxHeartbeats 4000000 in
set_option maxRecDepth 100000 in
theorem v_X12_likely_276 {E : EV} {d : Nat} (hd : 1462 ≤ d) {r0 : Int32} {h0 : AH} {q261 : Nat → Int32 → Int32 → Int32 → Int32 → AH → Option (Int32 × AH)} (cq261 : ∀ (k0 : Nat) (x2 : Int32) (x3 : Int32) (x5 : Int32) (x6 : Int32) (h : AH), q261 k0 x2 x3 x5 x6 h = some (r0, h0) → kd k0 = (0, 12) → V E (d + 1) K_X12_likely (ZI E r0 h0) h [(0, .ref k0), (2, .int x2), (3, .int x3), (5, .int x5), (6, .int x6)] [] 261) : ∀ (n : Nat) (k0 : Nat) (x2 : Int32) (x3 : Int32) (x5 : Int32) (x6 : Int32) (x7 : Int32) (x8 : Int32) (h : AH), f_X12_likely_276 q261 n k0 x2 x3 x5 x6 x7 x8 h = some (r0, h0) → kd k0 = (0, 12) → V E (d + 1) K_X12_likely (ZI E r0 h0) h [(0, .ref k0), (2, .int x2), (3, .int x3), (5, .int x5), (6, .int x6), (7, .int x7), (8, .int x8)] [] 276 := by
  intro n
  induction n with
  | zero =>
    intro k0 x2 x3 x5 x6 x7 x8 h hf
    rw [f_X12_likely_276] at hf
    cases hf
  | succ n ih =>
    intro k0 x2 x3 x5 x6 x7 x8 h hf t_k0
    rw [f_X12_likely_276] at hf
    refine V_iload 6 dX12_likely_276 rfl ?_
    refine V_iload_n 1 dX12_likely_278 rfl rfl ?_
    refine V_ic_ge (tgt := 294) dX12_likely_279 (by decide) (fun c_1 => ?_) (fun c_1 => ?_)
    · have hf := it_s c_1 hf
      refine V_iload 3 dX12_likely_294 rfl ?_
      refine V_iload 5 dX12_likely_296 rfl ?_
      refine V_iconst (v := 5) dX12_likely_298 (by decide) ?_
      refine V_irem dX12_likely_299 (by decide) ?_
      refine V_iconst (v := 1) dX12_likely_300 (by decide) ?_
      refine V_isub dX12_likely_301 ?_
      refine V_iload_n 2 dX12_likely_302 rfl rfl ?_
      refine V_ic_ne (tgt := 316) dX12_likely_303 (by decide) (fun c_2 => ?_) (fun c_2 => ?_)
      · have hf := if_s c_2 hf
        refine V_iconst (v := 0) dX12_likely_316 (by decide) ?_
        refine V_sub [0, 1, 2, 4] rfl ?_
        exact v_X12_likely_317 hd cq261 hf t_k0
      · have hf := it_s c_2 hf
        refine V_aload_n 0 dX12_likely_306 rfl rfl ?_
        refine V_getR F_X12_81 rfl t_k0 rfl dX12_likely_307 ?_
        refine V_iload 4 dX12_likely_310 rfl ?_
        obtain ⟨b_3, hf⟩ := og_s hf
        refine V_iald (rfA t_k0 (Nat.le_of_ble_eq_true rfl) rfl rfl (by decide)) b_3 dX12_likely_312 ?_
        refine V_goto (tgt := 317) dX12_likely_313 (by decide) ?_
        refine V_sub [0, 1, 2, 4] rfl ?_
        exact v_X12_likely_317 hd cq261 hf t_k0
    · have hf := if_s c_1 hf
      refine V_iload 5 dX12_likely_282 rfl ?_
      refine V_iconst (v := 5) dX12_likely_284 (by decide) ?_
      refine V_idiv dX12_likely_285 (by decide) ?_
      obtain ⟨x7_4, e_5, hf⟩ := nm_s hf
      refine V_istore (L' := [(7, .int x7_4), (0, .ref k0), (2, .int x2), (3, .int x3), (5, .int x5), (6, .int x6), (8, .int x8)]) dX12_likely_286 (Nat.le_of_ble_eq_true rfl) e_5 rfl ?_
      obtain ⟨x8_6, e_7, hf⟩ := nm_s hf
      refine V_iinc (a := 1) (L' := [(8, .int x8_6), (7, .int x7_4), (0, .ref k0), (2, .int x2), (3, .int x3), (5, .int x5), (6, .int x6)]) 6 dX12_likely_288 rfl (by decide) (Nat.le_of_ble_eq_true rfl) e_7 rfl ?_
      refine V_goto (tgt := 276) dX12_likely_291 (by decide) ?_
      refine V_sub [2, 3, 4, 5, 6, 1, 0] rfl ?_
      exact ih _ _ _ _ _ _ _ _ hf t_k0
set_option maxHeartbeats 4000000 in
set_option maxRecDepth 100000 in
theorem v_X12_likely_329 {E : EV} {d : Nat} (hd : 1462 ≤ d) {r0 : Int32} {h0 : AH} : ∀ (n : Nat) (k0 : Nat) (x5 : Int32) (x6 : Int32) (h : AH), f_X12_likely_329 n k0 x5 x6 h = some (r0, h0) → kd k0 = (0, 12) → V E (d + 1) K_X12_likely (ZI E r0 h0) h [(0, .ref k0), (5, .int x5), (6, .int x6)] [] 329 := by
  intro n
  induction n with
  | zero =>
    intro k0 x5 x6 h hf
    rw [f_X12_likely_329] at hf
    cases hf
  | succ n ih =>
    intro k0 x5 x6 h hf t_k0
    rw [f_X12_likely_329] at hf
    refine V_iload 2 dX12_likely_329 rfl ?_
    refine V_aload_n 0 dX12_likely_331 rfl rfl ?_
    refine V_getI F_X12_283 rfl t_k0 rfl dX12_likely_332 ?_
    refine V_ic_ge (tgt := 372) dX12_likely_335 (by decide) (fun c_1 => ?_) (fun c_1 => ?_)
    · have hf := it_s c_1 hf
      refine V_iload 1 dX12_likely_372 rfl ?_
      exact V_iret rfl (so_s hf) dX12_likely_374
    · have hf := if_s c_1 hf
      refine V_aload_n 0 dX12_likely_338 rfl rfl ?_
      refine V_getR F_X12_48 rfl t_k0 rfl dX12_likely_339 ?_
      refine V_iload 2 dX12_likely_342 rfl ?_
      refine V_aload_n 0 dX12_likely_344 rfl rfl ?_
      refine V_getR F_X12_87 rfl t_k0 rfl dX12_likely_345 ?_
      refine V_iload 2 dX12_likely_348 rfl ?_
      obtain ⟨b_2, hf⟩ := og_s hf
      refine V_iald (rfA t_k0 (Nat.le_of_ble_eq_true rfl) rfl rfl (by decide)) b_2 dX12_likely_350 ?_
      obtain ⟨b_3, hf⟩ := og_s hf
      obtain ⟨h_4, e_5, hf⟩ := nm_s hf
      refine V_iast (rfA t_k0 (Nat.le_of_ble_eq_true rfl) rfl rfl (by decide)) b_3 e_5 dX12_likely_351 ?_
      refine V_aload_n 0 dX12_likely_352 rfl rfl ?_
      refine V_getR F_X12_45 rfl t_k0 rfl dX12_likely_353 ?_
      refine V_iload 2 dX12_likely_356 rfl ?_
      refine V_aload_n 0 dX12_likely_358 rfl rfl ?_
      refine V_getR F_X12_90 rfl t_k0 rfl dX12_likely_359 ?_
      refine V_iload 2 dX12_likely_362 rfl ?_
      obtain ⟨b_6, hf⟩ := og_s hf
      refine V_iald (rfA t_k0 (Nat.le_of_ble_eq_true rfl) rfl rfl (by decide)) b_6 dX12_likely_364 ?_
      obtain ⟨b_7, hf⟩ := og_s hf
      obtain ⟨h_8, e_9, hf⟩ := nm_s hf
      refine V_iast (rfA t_k0 (Nat.le_of_ble_eq_true rfl) rfl rfl (by decide)) b_7 e_9 dX12_likely_365 ?_
      obtain ⟨x6_10, e_11, hf⟩ := nm_s hf
      refine V_iinc (a := 1) (L' := [(6, .int x6_10), (0, .ref k0), (5, .int x5)]) 2 dX12_likely_366 rfl (by decide) (Nat.le_of_ble_eq_true rfl) e_11 rfl ?_
      refine V_goto (tgt := 329) dX12_likely_369 (by decide) ?_
      refine V_sub [1, 2, 0] rfl ?_
      exact ih _ _ _ _ hf t_k0
set_option maxHeartbeats 4000000 in
set_option maxRecDepth 100000 in
theorem v_X12_likely_261 {E : EV} {d : Nat} (hd : 1462 ≤ d) {r0 : Int32} {h0 : AH} : ∀ (n : Nat) (k0 : Nat) (x2 : Int32) (x3 : Int32) (x5 : Int32) (x6 : Int32) (h : AH), f_X12_likely_261 n k0 x2 x3 x5 x6 h = some (r0, h0) → kd k0 = (0, 12) → V E (d + 1) K_X12_likely (ZI E r0 h0) h [(0, .ref k0), (2, .int x2), (3, .int x3), (5, .int x5), (6, .int x6)] [] 261 := by
  intro n
  induction n with
  | zero =>
    intro k0 x2 x3 x5 x6 h hf
    rw [f_X12_likely_261] at hf
    cases hf
  | succ n ih =>
    intro k0 x2 x3 x5 x6 h hf t_k0
    rw [f_X12_likely_261] at hf
    refine V_iload 4 dX12_likely_261 rfl ?_
    refine V_sipush (v := 625) dX12_likely_263 (by decide) ?_
    refine V_ic_ge (tgt := 326) dX12_likely_266 (by decide) (fun c_1 => ?_) (fun c_1 => ?_)
    · have hf := it_s c_1 hf
      refine V_iconst (v := 0) dX12_likely_326 (by decide) ?_
      refine V_istore (L' := [(6, .int 0), (0, .ref k0), (2, .int x2), (3, .int x3), (5, .int x5)]) dX12_likely_327 (Nat.le_of_ble_eq_true rfl) rfl rfl ?_
      refine V_sub [1, 4, 0] rfl ?_
      exact v_X12_likely_329 hd FU _ _ _ _ hf t_k0
    · have hf := if_s c_1 hf
      refine V_iload 4 dX12_likely_269 rfl ?_
      refine V_istore (L' := [(7, .int x6), (0, .ref k0), (2, .int x2), (3, .int x3), (5, .int x5), (6, .int x6)]) dX12_likely_271 (Nat.le_of_ble_eq_true rfl) rfl rfl ?_
      refine V_iconst (v := 0) dX12_likely_273 (by decide) ?_
      refine V_istore (L' := [(8, .int 0), (7, .int x6), (0, .ref k0), (2, .int x2), (3, .int x3), (5, .int x5), (6, .int x6)]) dX12_likely_274 (Nat.le_of_ble_eq_true rfl) rfl rfl ?_
      refine V_sub [2, 3, 4, 5, 6, 1, 0] rfl ?_
      exact v_X12_likely_276 hd ih FU _ _ _ _ _ _ _ _ hf t_k0
set_option maxHeartbeats 4000000 in
set_option maxRecDepth 100000 in
theorem v_X12_likely_152 {E : EV} {d : Nat} (hd : 1462 ≤ d) {r0 : Int32} {h0 : AH} : ∀ (n : Nat) (k0 : Nat) (x1 : Int32) (x2 : Int32) (x3 : Int32) (x4 : Int32) (x5 : Int32) (h : AH), f_X12_likely_152 n k0 x1 x2 x3 x4 x5 h = some (r0, h0) → kd k0 = (0, 12) → V E (d + 1) K_X12_likely (ZI E r0 h0) h [(0, .ref k0), (1, .int x1), (2, .int x2), (3, .int x3), (4, .int x4), (5, .int x5)] [] 152 := by
  intro n
  induction n with
  | zero =>
    intro k0 x1 x2 x3 x4 x5 h hf
    rw [f_X12_likely_152] at hf
    cases hf
  | succ n ih =>
    intro k0 x1 x2 x3 x4 x5 h hf t_k0
    rw [f_X12_likely_152] at hf
    refine V_iload 5 dX12_likely_152 rfl ?_
    refine V_iload_n 1 dX12_likely_154 rfl rfl ?_
    refine V_ic_ge (tgt := 255) dX12_likely_155 (by decide) (fun c_1 => ?_) (fun c_1 => ?_)
    · have hf := it_s c_1 hf
      refine V_iconst (v := 0) dX12_likely_255 (by decide) ?_
      refine V_istore (L' := [(5, .int 0), (0, .ref k0), (1, .int x1), (2, .int x2), (3, .int x3), (4, .int x4)]) dX12_likely_256 (Nat.le_of_ble_eq_true rfl) rfl rfl ?_
      refine V_iconst (v := 0) dX12_likely_258 (by decide) ?_
      refine V_istore (L' := [(6, .int 0), (5, .int 0), (0, .ref k0), (1, .int x1), (2, .int x2), (3, .int x3), (4, .int x4)]) dX12_likely_259 (Nat.le_of_ble_eq_true rfl) rfl rfl ?_
      refine V_sub [2, 4, 5, 1, 0] rfl ?_
      exact v_X12_likely_261 hd FU _ _ _ _ _ _ hf t_k0
    · have hf := if_s c_1 hf
      refine V_iconst (v := 0) dX12_likely_158 (by decide) ?_
      refine V_istore (L' := [(6, .int 0), (0, .ref k0), (1, .int x1), (2, .int x2), (3, .int x3), (4, .int x4), (5, .int x5)]) dX12_likely_159 (Nat.le_of_ble_eq_true rfl) rfl rfl ?_
      refine V_sub [1, 2, 3, 4, 5, 6, 0] rfl ?_
      exact v_X12_likely_161 hd ih FU _ _ _ _ _ _ _ _ hf t_k0
set_option maxHeartbeats 4000000 in
set_option maxRecDepth 100000 in
theorem v_X12_likely_99 {E : EV} {d : Nat} (hd : 1462 ≤ d) {r0 : Int32} {h0 : AH} : ∀ (n : Nat) (k0 : Nat) (x1 : Int32) (x2 : Int32) (x3 : Int32) (x4 : Int32) (h : AH), f_X12_likely_99 n k0 x1 x2 x3 x4 h = some (r0, h0) → kd k0 = (0, 12) → V E (d + 1) K_X12_likely (ZI E r0 h0) h [(0, .ref k0), (1, .int x1), (2, .int x2), (3, .int x3), (4, .int x4)] [] 99 := by
  intro n
  induction n with
  | zero =>
    intro k0 x1 x2 x3 x4 h hf
    rw [f_X12_likely_99] at hf
    cases hf
  | succ n ih =>
    intro k0 x1 x2 x3 x4 h hf t_k0
    rw [f_X12_likely_99] at hf
    refine V_iload 4 dX12_likely_99 rfl ?_
    refine V_sipush (v := 625) dX12_likely_101 (by decide) ?_
    refine V_ic_ge (tgt := 121) dX12_likely_104 (by decide) (fun c_1 => ?_) (fun c_1 => ?_)
    · have hf := it_s c_1 hf
      refine V_aload_n 0 dX12_likely_121 rfl rfl ?_
      refine V_getR F_X12_81 rfl t_k0 rfl dX12_likely_122 ?_
      refine V_aload_n 0 dX12_likely_125 rfl rfl ?_
      obtain ⟨r_4, h_3, e_2, hf⟩ := ob_s hf
      refine V_cvi (As := []) (rest := [.ref (rf k0 39)]) (c_X12_havingNow (d := d) (Nat.le_trans (Nat.le_of_ble_eq_true rfl) hd) e_2 t_k0) ML_X12_413 MV_X12_havingNow rfl t_k0 rfl rfl (Nat.le_of_ble_eq_true rfl) dX12_likely_126 ?_
      refine V_ldcw (v := 1000000000) rfl kc_X12_376 dX12_likely_129 ?_
      obtain ⟨b_5, hf⟩ := og_s hf
      obtain ⟨h_6, e_7, hf⟩ := nm_s hf
      refine V_iast (rfA t_k0 (Nat.le_of_ble_eq_true rfl) rfl rfl (by decide)) b_5 e_7 dX12_likely_132 ?_
      refine V_iconst (v := 1) dX12_likely_133 (by decide) ?_
      refine V_aload_n 0 dX12_likely_134 rfl rfl ?_
      refine V_getI F_X12_283 rfl t_k0 rfl dX12_likely_135 ?_
      refine V_ishl dX12_likely_138 ?_
      refine V_iconst (v := 1) dX12_likely_139 (by decide) ?_
      refine V_isub dX12_likely_140 ?_
      obtain ⟨x4_8, e_9, hf⟩ := nm_s hf
      refine V_istore (L' := [(4, .int x4_8), (0, .ref k0), (1, .int x1), (2, .int x2), (3, .int x3)]) dX12_likely_141 (Nat.le_of_ble_eq_true rfl) e_9 rfl ?_
      refine V_aload_n 1 dX12_likely_143 rfl rfl ?_
      refine V_iload 0 dX12_likely_144 rfl ?_
      obtain ⟨h_11, e_10, hf⟩ := ov_s hf
      refine V_cvv (As := [.int x4_8]) (rest := []) (c_X12_allWays (d := d) (Nat.le_trans (Nat.le_of_ble_eq_true rfl) hd) e_10 t_k0) ML_X12_367 MV_X12_allWays rfl t_k0 rfl rfl (Nat.le_of_ble_eq_true rfl) dX12_likely_146 ?_
      refine V_iconst (v := 0) dX12_likely_149 (by decide) ?_
      refine V_istore (L' := [(5, .int 0), (4, .int x4_8), (0, .ref k0), (1, .int x1), (2, .int x2), (3, .int x3)]) dX12_likely_150 (Nat.le_of_ble_eq_true rfl) rfl rfl ?_
      refine V_sub [2, 3, 4, 5, 1, 0] rfl ?_
      exact v_X12_likely_152 hd FU _ _ _ _ _ _ _ hf t_k0
    · have hf := if_s c_1 hf
      refine V_aload_n 0 dX12_likely_107 rfl rfl ?_
      refine V_getR F_X12_81 rfl t_k0 rfl dX12_likely_108 ?_
      refine V_iload 4 dX12_likely_111 rfl ?_
      refine V_iconst (v := 0) dX12_likely_113 (by decide) ?_
      obtain ⟨b_12, hf⟩ := og_s hf
      obtain ⟨h_13, e_14, hf⟩ := nm_s hf
      refine V_iast (rfA t_k0 (Nat.le_of_ble_eq_true rfl) rfl rfl (by decide)) b_12 e_14 dX12_likely_114 ?_
      obtain ⟨x4_15, e_16, hf⟩ := nm_s hf
      refine V_iinc (a := 1) (L' := [(4, .int x4_15), (0, .ref k0), (1, .int x1), (2, .int x2), (3, .int x3)]) 4 dX12_likely_115 rfl (by decide) (Nat.le_of_ble_eq_true rfl) e_16 rfl ?_
      refine V_goto (tgt := 99) dX12_likely_118 (by decide) ?_
      refine V_sub [1, 2, 3, 4, 0] rfl ?_
      exact ih _ _ _ _ _ _ hf t_k0
set_option maxHeartbeats 4000000 in
set_option maxRecDepth 100000 in
theorem v_X12_likely_53 {E : EV} {d : Nat} (hd : 1462 ≤ d) {r0 : Int32} {h0 : AH} : ∀ (n : Nat) (k0 : Nat) (x1 : Int32) (x2 : Int32) (x3 : Int32) (x4 : Int32) (h : AH), f_X12_likely_53 n k0 x1 x2 x3 x4 h = some (r0, h0) → kd k0 = (0, 12) → V E (d + 1) K_X12_likely (ZI E r0 h0) h [(0, .ref k0), (1, .int x1), (2, .int x2), (3, .int x3), (4, .int x4)] [] 53 := by
  intro n
  induction n with
  | zero =>
    intro k0 x1 x2 x3 x4 h hf
    rw [f_X12_likely_53] at hf
    cases hf
  | succ n ih =>
    intro k0 x1 x2 x3 x4 h hf t_k0
    rw [f_X12_likely_53] at hf
    refine V_iload 4 dX12_likely_53 rfl ?_
    refine V_aload_n 0 dX12_likely_55 rfl rfl ?_
    refine V_getI F_X12_283 rfl t_k0 rfl dX12_likely_56 ?_
    refine V_ic_ge (tgt := 96) dX12_likely_59 (by decide) (fun c_1 => ?_) (fun c_1 => ?_)
    · have hf := it_s c_1 hf
      refine V_iconst (v := 0) dX12_likely_96 (by decide) ?_
      refine V_istore (L' := [(4, .int 0), (0, .ref k0), (1, .int x1), (2, .int x2), (3, .int x3)]) dX12_likely_97 (Nat.le_of_ble_eq_true rfl) rfl rfl ?_
      refine V_sub [1, 2, 3, 4, 0] rfl ?_
      exact v_X12_likely_99 hd FU _ _ _ _ _ _ hf t_k0
    · have hf := if_s c_1 hf
      refine V_aload_n 0 dX12_likely_62 rfl rfl ?_
      refine V_getR F_X12_87 rfl t_k0 rfl dX12_likely_63 ?_
      refine V_iload 4 dX12_likely_66 rfl ?_
      refine V_aload_n 0 dX12_likely_68 rfl rfl ?_
      refine V_getR F_X12_48 rfl t_k0 rfl dX12_likely_69 ?_
      refine V_iload 4 dX12_likely_72 rfl ?_
      obtain ⟨b_2, hf⟩ := og_s hf
      refine V_iald (rfA t_k0 (Nat.le_of_ble_eq_true rfl) rfl rfl (by decide)) b_2 dX12_likely_74 ?_
      obtain ⟨b_3, hf⟩ := og_s hf
      obtain ⟨h_4, e_5, hf⟩ := nm_s hf
      refine V_iast (rfA t_k0 (Nat.le_of_ble_eq_true rfl) rfl rfl (by decide)) b_3 e_5 dX12_likely_75 ?_
      refine V_aload_n 0 dX12_likely_76 rfl rfl ?_
      refine V_getR F_X12_90 rfl t_k0 rfl dX12_likely_77 ?_
      refine V_iload 4 dX12_likely_80 rfl ?_
      refine V_aload_n 0 dX12_likely_82 rfl rfl ?_
      refine V_getR F_X12_45 rfl t_k0 rfl dX12_likely_83 ?_
      refine V_iload 4 dX12_likely_86 rfl ?_
      obtain ⟨b_6, hf⟩ := og_s hf
      refine V_iald (rfA t_k0 (Nat.le_of_ble_eq_true rfl) rfl rfl (by decide)) b_6 dX12_likely_88 ?_
      obtain ⟨b_7, hf⟩ := og_s hf
      obtain ⟨h_8, e_9, hf⟩ := nm_s hf
      refine V_iast (rfA t_k0 (Nat.le_of_ble_eq_true rfl) rfl rfl (by decide)) b_7 e_9 dX12_likely_89 ?_
      obtain ⟨x4_10, e_11, hf⟩ := nm_s hf
      refine V_iinc (a := 1) (L' := [(4, .int x4_10), (0, .ref k0), (1, .int x1), (2, .int x2), (3, .int x3)]) 4 dX12_likely_90 rfl (by decide) (Nat.le_of_ble_eq_true rfl) e_11 rfl ?_
      refine V_goto (tgt := 53) dX12_likely_93 (by decide) ?_
      refine V_sub [1, 2, 3, 4, 0] rfl ?_
      exact ih _ _ _ _ _ _ hf t_k0
set_option maxHeartbeats 4000000 in
set_option maxRecDepth 100000 in
theorem c_X12_likely {E : EV} {d : Nat} (hd : 1462 + 1 ≤ d) {k0 : Nat} {x1 : Int32} {x2 : Int32} {x3 : Int32} {h : AH} {r0 : Int32} {h0 : AH} (hf : f_X12_likely k0 x1 x2 x3 h = some (r0, h0)) (t_k0 : kd k0 = (0, 12)) : Con E d K_X12_likely (ZI E r0 h0) [.ref k0, .int x1, .int x2, .int x3] h := by
  obtain ⟨d, rfl⟩ : ∃ d', d = d' + 1 := ⟨d - 1, by omega⟩
  have hd := Nat.le_of_succ_le_succ hd
  refine Con.ofV rfl (Nat.le_of_ble_eq_true rfl) ?_
  unfold f_X12_likely at hf
  show V E (d + 1) K_X12_likely (ZI E r0 h0) h [(0, .ref k0), (1, .int x1), (2, .int x2), (3, .int x3)] [] 0
  refine V_aload_n 0 dX12_likely_0 rfl rfl ?_
  refine V_iconst (v := 0) dX12_likely_1 (by decide) ?_
  obtain ⟨h_1, e_2, hf⟩ := nm_s hf
  refine V_putI P_X12_120 rfl t_k0 rfl e_2 dX12_likely_2 ?_
  refine V_aload_n 0 dX12_likely_5 rfl rfl ?_
  refine V_getI F_X12_283 rfl t_k0 rfl dX12_likely_6 ?_
  refine V_if_eq (tgt := 48) dX12_likely_9 (by decide) (fun c_3 => ?_) (fun c_3 => ?_)
  · have hf := it_s c_3 hf
    refine V_sub [] rfl ?_
    exact v_X12_likely_48 hd hf
  · have hf := if_s c_3 hf
    refine V_aload_n 0 dX12_likely_12 rfl rfl ?_
    refine V_getI F_X12_283 rfl t_k0 rfl dX12_likely_13 ?_
    refine V_iconst (v := 4) dX12_likely_16 (by decide) ?_
    refine V_ic_gt (tgt := 48) dX12_likely_17 (by decide) (fun c_4 => ?_) (fun c_4 => ?_)
    · have hf := it_s c_4 hf
      refine V_sub [] rfl ?_
      exact v_X12_likely_48 hd hf
    · have hf := if_s c_4 hf
      refine V_iload_n 1 dX12_likely_20 rfl rfl ?_
      refine V_i2l dX12_likely_21 ?_
      refine V_lconst (v := 0) dX12_likely_22 (by decide) ?_
      refine V_ldc2 (v := 20) rfl kl_X12_242 dX12_likely_23 ?_
      obtain ⟨r_7, h_6, e_5, hf⟩ := ob_s hf
      refine V_csi (As := [.long ((x1).toInt64), .long 0, .long 20]) (rest := []) (c_X12_isIn (d := d) (Nat.le_trans (Nat.le_of_ble_eq_true rfl) hd) e_5) ML_X12_247 MS_X12_isIn rfl rfl rfl (Nat.le_of_ble_eq_true rfl) dX12_likely_26 ?_
      refine V_if_eq (tgt := 48) dX12_likely_29 (by decide) (fun c_8 => ?_) (fun c_8 => ?_)
      · have hf := it_s c_8 hf
        refine V_sub [] rfl ?_
        exact v_X12_likely_48 hd hf
      · have hf := if_s c_8 hf
        refine V_aload_n 0 dX12_likely_32 rfl rfl ?_
        refine V_iload_n 2 dX12_likely_33 rfl rfl ?_
        obtain ⟨r_11, h_10, e_9, hf⟩ := ob_s hf
        refine V_cvi (As := [.int x2]) (rest := []) (c_X12_isPerson (d := d) (Nat.le_trans (Nat.le_of_ble_eq_true rfl) hd) e_9 t_k0) ML_X12_295 MV_X12_isPerson rfl t_k0 rfl rfl (Nat.le_of_ble_eq_true rfl) dX12_likely_34 ?_
        refine V_if_eq (tgt := 48) dX12_likely_37 (by decide) (fun c_12 => ?_) (fun c_12 => ?_)
        · have hf := it_s c_12 hf
          refine V_sub [] rfl ?_
          exact v_X12_likely_48 hd hf
        · have hf := if_s c_12 hf
          refine V_aload_n 0 dX12_likely_40 rfl rfl ?_
          refine V_iload_n 3 dX12_likely_41 rfl rfl ?_
          obtain ⟨r_15, h_14, e_13, hf⟩ := ob_s hf
          refine V_cvi (As := [.int x3]) (rest := []) (c_X12_isPair (d := d) (Nat.le_trans (Nat.le_of_ble_eq_true rfl) hd) e_13 t_k0) ML_X12_364 MV_X12_isPair rfl t_k0 rfl rfl (Nat.le_of_ble_eq_true rfl) dX12_likely_42 ?_
          refine V_if_ne (tgt := 50) dX12_likely_45 (by decide) (fun c_16 => ?_) (fun c_16 => ?_)
          · have hf := if_s c_16 hf
            refine V_iconst (v := 0) dX12_likely_50 (by decide) ?_
            refine V_istore (L' := [(4, .int 0), (0, .ref k0), (1, .int x1), (2, .int x2), (3, .int x3)]) dX12_likely_51 (Nat.le_of_ble_eq_true rfl) rfl rfl ?_
            refine V_sub [1, 2, 3, 4, 0] rfl ?_
            exact v_X12_likely_53 hd FU _ _ _ _ _ _ hf t_k0
          · have hf := it_s c_16 hf
            refine V_sub [] rfl ?_
            exact v_X12_likely_48 hd hf
theorem dX12_lost_0 : decode cX12_lost 0 = .ok (.aload_n 0, 1) := by decide +kernel
theorem dX12_lost_1 : decode cX12_lost 1 = .ok (.iconst 0, 1) := by decide +kernel
theorem dX12_lost_2 : decode cX12_lost 2 = .ok (.putfield 120, 3) := by decide +kernel
theorem dX12_lost_5 : decode cX12_lost 5 = .ok (.aload_n 0, 1) := by decide +kernel
theorem dX12_lost_6 : decode cX12_lost 6 = .ok (.getfield 283, 3) := by decide +kernel
theorem dX12_lost_9 : decode cX12_lost 9 = .ok (.ifCond .ne 5, 3) := by decide +kernel
theorem dX12_lost_12 : decode cX12_lost 12 = .ok (.iconst (-1), 1) := by decide +kernel
theorem dX12_lost_13 : decode cX12_lost 13 = .ok (.ireturn, 1) := by decide +kernel
theorem dX12_lost_14 : decode cX12_lost 14 = .ok (.iconst 0, 1) := by decide +kernel
theorem dX12_lost_15 : decode cX12_lost 15 = .ok (.istore_n 1, 1) := by decide +kernel
theorem dX12_lost_16 : decode cX12_lost 16 = .ok (.iconst 0, 1) := by decide +kernel
theorem dX12_lost_17 : decode cX12_lost 17 = .ok (.istore_n 2, 1) := by decide +kernel
theorem dX12_lost_18 : decode cX12_lost 18 = .ok (.iload_n 2, 1) := by decide +kernel
theorem dX12_lost_19 : decode cX12_lost 19 = .ok (.aload_n 0, 1) := by decide +kernel
theorem dX12_lost_20 : decode cX12_lost 20 = .ok (.getfield 283, 3) := by decide +kernel
theorem dX12_lost_23 : decode cX12_lost 23 = .ok (.if_icmp .ge 30, 3) := by decide +kernel
theorem dX12_lost_26 : decode cX12_lost 26 = .ok (.iload_n 1, 1) := by decide +kernel
theorem dX12_lost_27 : decode cX12_lost 27 = .ok (.aload_n 0, 1) := by decide +kernel
theorem dX12_lost_28 : decode cX12_lost 28 = .ok (.getfield 42, 3) := by decide +kernel
theorem dX12_lost_31 : decode cX12_lost 31 = .ok (.bipush 7, 2) := by decide +kernel
theorem dX12_lost_33 : decode cX12_lost 33 = .ok (.iload_n 2, 1) := by decide +kernel
theorem dX12_lost_34 : decode cX12_lost 34 = .ok (.imul, 1) := by decide +kernel
theorem dX12_lost_35 : decode cX12_lost 35 = .ok (.iconst 2, 1) := by decide +kernel
theorem dX12_lost_36 : decode cX12_lost 36 = .ok (.iadd, 1) := by decide +kernel
theorem dX12_lost_37 : decode cX12_lost 37 = .ok (.iaload, 1) := by decide +kernel
theorem dX12_lost_38 : decode cX12_lost 38 = .ok (.aload_n 0, 1) := by decide +kernel
theorem dX12_lost_39 : decode cX12_lost 39 = .ok (.getfield 54, 3) := by decide +kernel
theorem dX12_lost_42 : decode cX12_lost 42 = .ok (.iload_n 2, 1) := by decide +kernel
theorem dX12_lost_43 : decode cX12_lost 43 = .ok (.iaload, 1) := by decide +kernel
theorem dX12_lost_44 : decode cX12_lost 44 = .ok (.isub, 1) := by decide +kernel
theorem dX12_lost_45 : decode cX12_lost 45 = .ok (.iadd, 1) := by decide +kernel
theorem dX12_lost_46 : decode cX12_lost 46 = .ok (.istore_n 1, 1) := by decide +kernel
theorem dX12_lost_47 : decode cX12_lost 47 = .ok (.iinc 2 1, 3) := by decide +kernel
theorem dX12_lost_50 : decode cX12_lost 50 = .ok (.goto (-32), 3) := by decide +kernel
theorem dX12_lost_53 : decode cX12_lost 53 = .ok (.iload_n 1, 1) := by decide +kernel
theorem dX12_lost_54 : decode cX12_lost 54 = .ok (.ireturn, 1) := by decide +kernel
def f_X12_lost_18 : Nat → Nat → Int32 → Int32 → AH → Option (Int32 × AH)
  | 0, _, _, _, _ => none
  | n + 1, k0, x1, x2, h =>
    if (h.1 k0 20) ≤ x2 then (
      some (x1, h)
    ) else (
      og (ix ((7 * x2) + 2) (an (rf k0 19))) <|
      og (ix x2 (an (rf k0 25))) <|
      nm ((x1 + ((h.1 (rf k0 19) ((7 * x2) + 2).toNatClampNeg) - (h.1 (rf k0 25) x2.toNatClampNeg)))) fun x1_4 =>
      nm (x2 + 1) fun x2_6 =>
      f_X12_lost_18 n k0 x1_4 x2_6 h
    )
def f_X12_lost (k0 : Nat) (h : AH) : Option (Int32 × AH) :=
  nm (sI h k0 0 0) fun h_1 =>
  if (h_1.1 k0 20) = 0 then (
    some ((-1), h_1)
  ) else (
    f_X12_lost_18 FU k0 0 0 h_1
  )
set_option maxHeartbeats 4000000 in
set_option maxRecDepth 100000 in
theorem v_X12_lost_18 {E : EV} {d : Nat} (hd : 0 ≤ d) {r0 : Int32} {h0 : AH} : ∀ (n : Nat) (k0 : Nat) (x1 : Int32) (x2 : Int32) (h : AH), f_X12_lost_18 n k0 x1 x2 h = some (r0, h0) → kd k0 = (0, 12) → V E (d + 1) K_X12_lost (ZI E r0 h0) h [(0, .ref k0), (1, .int x1), (2, .int x2)] [] 18 := by
  intro n
  induction n with
  | zero =>
    intro k0 x1 x2 h hf
    rw [f_X12_lost_18] at hf
    cases hf
  | succ n ih =>
    intro k0 x1 x2 h hf t_k0
    rw [f_X12_lost_18] at hf
    refine V_iload_n 2 dX12_lost_18 rfl rfl ?_
    refine V_aload_n 0 dX12_lost_19 rfl rfl ?_
    refine V_getI F_X12_283 rfl t_k0 rfl dX12_lost_20 ?_
    refine V_ic_ge (tgt := 53) dX12_lost_23 (by decide) (fun c_1 => ?_) (fun c_1 => ?_)
    · have hf := it_s c_1 hf
      refine V_iload_n 1 dX12_lost_53 rfl rfl ?_
      exact V_iret rfl (so_s hf) dX12_lost_54
    · have hf := if_s c_1 hf
      refine V_iload_n 1 dX12_lost_26 rfl rfl ?_
      refine V_aload_n 0 dX12_lost_27 rfl rfl ?_
      refine V_getR F_X12_42 rfl t_k0 rfl dX12_lost_28 ?_
      refine V_bipush (v := 7) dX12_lost_31 (by decide) ?_
      refine V_iload_n 2 dX12_lost_33 rfl rfl ?_
      refine V_imul dX12_lost_34 ?_
      refine V_iconst (v := 2) dX12_lost_35 (by decide) ?_
      refine V_iadd dX12_lost_36 ?_
      obtain ⟨b_2, hf⟩ := og_s hf
      refine V_iald (rfA t_k0 (Nat.le_of_ble_eq_true rfl) rfl rfl (by decide)) b_2 dX12_lost_37 ?_
      refine V_aload_n 0 dX12_lost_38 rfl rfl ?_
      refine V_getR F_X12_54 rfl t_k0 rfl dX12_lost_39 ?_
      refine V_iload_n 2 dX12_lost_42 rfl rfl ?_
      obtain ⟨b_3, hf⟩ := og_s hf
      refine V_iald (rfA t_k0 (Nat.le_of_ble_eq_true rfl) rfl rfl (by decide)) b_3 dX12_lost_43 ?_
      refine V_isub dX12_lost_44 ?_
      refine V_iadd dX12_lost_45 ?_
      obtain ⟨x1_4, e_5, hf⟩ := nm_s hf
      refine V_istore_n (L' := [(1, .int x1_4), (0, .ref k0), (2, .int x2)]) dX12_lost_46 rfl (Nat.le_of_ble_eq_true rfl) e_5 rfl ?_
      obtain ⟨x2_6, e_7, hf⟩ := nm_s hf
      refine V_iinc (a := 1) (L' := [(2, .int x2_6), (1, .int x1_4), (0, .ref k0)]) 2 dX12_lost_47 rfl (by decide) (Nat.le_of_ble_eq_true rfl) e_7 rfl ?_
      refine V_goto (tgt := 18) dX12_lost_50 (by decide) ?_
      refine V_sub [2, 1, 0] rfl ?_
      exact ih _ _ _ _ hf t_k0
set_option maxHeartbeats 4000000 in
set_option maxRecDepth 100000 in
theorem c_X12_lost {E : EV} {d : Nat} (hd : 0 + 1 ≤ d) {k0 : Nat} {h : AH} {r0 : Int32} {h0 : AH} (hf : f_X12_lost k0 h = some (r0, h0)) (t_k0 : kd k0 = (0, 12)) : Con E d K_X12_lost (ZI E r0 h0) [.ref k0] h := by
  obtain ⟨d, rfl⟩ : ∃ d', d = d' + 1 := ⟨d - 1, by omega⟩
  have hd := Nat.le_of_succ_le_succ hd
  refine Con.ofV rfl (Nat.le_of_ble_eq_true rfl) ?_
  unfold f_X12_lost at hf
  show V E (d + 1) K_X12_lost (ZI E r0 h0) h [(0, .ref k0)] [] 0
  refine V_aload_n 0 dX12_lost_0 rfl rfl ?_
  refine V_iconst (v := 0) dX12_lost_1 (by decide) ?_
  obtain ⟨h_1, e_2, hf⟩ := nm_s hf
  refine V_putI P_X12_120 rfl t_k0 rfl e_2 dX12_lost_2 ?_
  refine V_aload_n 0 dX12_lost_5 rfl rfl ?_
  refine V_getI F_X12_283 rfl t_k0 rfl dX12_lost_6 ?_
  refine V_if_ne (tgt := 14) dX12_lost_9 (by decide) (fun c_3 => ?_) (fun c_3 => ?_)
  · have hf := if_s c_3 hf
    refine V_iconst (v := 0) dX12_lost_14 (by decide) ?_
    refine V_istore_n (L' := [(1, .int 0), (0, .ref k0)]) dX12_lost_15 rfl (Nat.le_of_ble_eq_true rfl) rfl rfl ?_
    refine V_iconst (v := 0) dX12_lost_16 (by decide) ?_
    refine V_istore_n (L' := [(2, .int 0), (1, .int 0), (0, .ref k0)]) dX12_lost_17 rfl (Nat.le_of_ble_eq_true rfl) rfl rfl ?_
    refine V_sub [2, 1, 0] rfl ?_
    exact v_X12_lost_18 hd FU _ _ _ _ hf t_k0
  · have hf := it_s c_3 hf
    refine V_iconst (v := (-1)) dX12_lost_12 (by decide) ?_
    exact V_iret rfl (so_s hf) dX12_lost_13
theorem dX12_odd_0 : decode cX12_odd 0 = .ok (.aload_n 0, 1) := by decide +kernel
theorem dX12_odd_1 : decode cX12_odd 1 = .ok (.iconst 0, 1) := by decide +kernel
theorem dX12_odd_2 : decode cX12_odd 2 = .ok (.putfield 120, 3) := by decide +kernel
theorem dX12_odd_5 : decode cX12_odd 5 = .ok (.iload_n 1, 1) := by decide +kernel
theorem dX12_odd_6 : decode cX12_odd 6 = .ok (.i2l, 1) := by decide +kernel
theorem dX12_odd_7 : decode cX12_odd 7 = .ok (.ldc2_w 304, 3) := by decide +kernel
theorem dX12_odd_10 : decode cX12_odd 10 = .ok (.ldc2_w 432, 3) := by decide +kernel
theorem dX12_odd_13 : decode cX12_odd 13 = .ok (.invokestatic 247, 3) := by decide +kernel
theorem dX12_odd_16 : decode cX12_odd 16 = .ok (.ifCond .eq 20, 3) := by decide +kernel
theorem dX12_odd_19 : decode cX12_odd 19 = .ok (.iload_n 3, 1) := by decide +kernel
theorem dX12_odd_20 : decode cX12_odd 20 = .ok (.i2l, 1) := by decide +kernel
theorem dX12_odd_21 : decode cX12_odd 21 = .ok (.ldc2_w 304, 3) := by decide +kernel
theorem dX12_odd_24 : decode cX12_odd 24 = .ok (.iload_n 1, 1) := by decide +kernel
theorem dX12_odd_25 : decode cX12_odd 25 = .ok (.i2l, 1) := by decide +kernel
theorem dX12_odd_26 : decode cX12_odd 26 = .ok (.invokestatic 247, 3) := by decide +kernel
theorem dX12_odd_29 : decode cX12_odd 29 = .ok (.ifCond .eq 7, 3) := by decide +kernel
theorem dX12_odd_32 : decode cX12_odd 32 = .ok (.iload_n 2, 1) := by decide +kernel
theorem dX12_odd_33 : decode cX12_odd 33 = .ok (.ifCond .ge 5, 3) := by decide +kernel
theorem dX12_odd_36 : decode cX12_odd 36 = .ok (.iconst (-1), 1) := by decide +kernel
theorem dX12_odd_37 : decode cX12_odd 37 = .ok (.ireturn, 1) := by decide +kernel
theorem dX12_odd_38 : decode cX12_odd 38 = .ok (.iload_n 2, 1) := by decide +kernel
theorem dX12_odd_39 : decode cX12_odd 39 = .ok (.istore 4, 2) := by decide +kernel
theorem dX12_odd_41 : decode cX12_odd 41 = .ok (.iconst 0, 1) := by decide +kernel
theorem dX12_odd_42 : decode cX12_odd 42 = .ok (.istore 5, 2) := by decide +kernel
theorem dX12_odd_44 : decode cX12_odd 44 = .ok (.iload_n 1, 1) := by decide +kernel
theorem dX12_odd_45 : decode cX12_odd 45 = .ok (.iconst 1, 1) := by decide +kernel
theorem dX12_odd_46 : decode cX12_odd 46 = .ok (.isub, 1) := by decide +kernel
theorem dX12_odd_47 : decode cX12_odd 47 = .ok (.istore 6, 2) := by decide +kernel
theorem dX12_odd_49 : decode cX12_odd 49 = .ok (.iload 6, 2) := by decide +kernel
theorem dX12_odd_51 : decode cX12_odd 51 = .ok (.ifCond .lt 70, 3) := by decide +kernel
theorem dX12_odd_54 : decode cX12_odd 54 = .ok (.aload_n 0, 1) := by decide +kernel
theorem dX12_odd_55 : decode cX12_odd 55 = .ok (.getfield 99, 3) := by decide +kernel
theorem dX12_odd_58 : decode cX12_odd 58 = .ok (.iload 6, 2) := by decide +kernel
theorem dX12_odd_60 : decode cX12_odd 60 = .ok (.iload 4, 2) := by decide +kernel
theorem dX12_odd_62 : decode cX12_odd 62 = .ok (.bipush 10, 2) := by decide +kernel
theorem dX12_odd_64 : decode cX12_odd 64 = .ok (.irem, 1) := by decide +kernel
theorem dX12_odd_65 : decode cX12_odd 65 = .ok (.iastore, 1) := by decide +kernel
theorem dX12_odd_66 : decode cX12_odd 66 = .ok (.iload 4, 2) := by decide +kernel
theorem dX12_odd_68 : decode cX12_odd 68 = .ok (.bipush 10, 2) := by decide +kernel
theorem dX12_odd_70 : decode cX12_odd 70 = .ok (.idiv, 1) := by decide +kernel
theorem dX12_odd_71 : decode cX12_odd 71 = .ok (.istore 4, 2) := by decide +kernel
theorem dX12_odd_73 : decode cX12_odd 73 = .ok (.aload_n 0, 1) := by decide +kernel
theorem dX12_odd_74 : decode cX12_odd 74 = .ok (.getfield 99, 3) := by decide +kernel
theorem dX12_odd_77 : decode cX12_odd 77 = .ok (.iload 6, 2) := by decide +kernel
theorem dX12_odd_79 : decode cX12_odd 79 = .ok (.iaload, 1) := by decide +kernel
theorem dX12_odd_80 : decode cX12_odd 80 = .ok (.iload_n 1, 1) := by decide +kernel
theorem dX12_odd_81 : decode cX12_odd 81 = .ok (.if_icmp .ge 18, 3) := by decide +kernel
theorem dX12_odd_84 : decode cX12_odd 84 = .ok (.iload 5, 2) := by decide +kernel
theorem dX12_odd_86 : decode cX12_odd 86 = .ok (.aload_n 0, 1) := by decide +kernel
theorem dX12_odd_87 : decode cX12_odd 87 = .ok (.getfield 99, 3) := by decide +kernel
theorem dX12_odd_90 : decode cX12_odd 90 = .ok (.iload 6, 2) := by decide +kernel
theorem dX12_odd_92 : decode cX12_odd 92 = .ok (.iaload, 1) := by decide +kernel
theorem dX12_odd_93 : decode cX12_odd 93 = .ok (.invokestatic 258, 3) := by decide +kernel
theorem dX12_odd_96 : decode cX12_odd 96 = .ok (.ifCond .eq 5, 3) := by decide +kernel
theorem dX12_odd_99 : decode cX12_odd 99 = .ok (.iconst (-1), 1) := by decide +kernel
theorem dX12_odd_100 : decode cX12_odd 100 = .ok (.ireturn, 1) := by decide +kernel
theorem dX12_odd_101 : decode cX12_odd 101 = .ok (.iload 5, 2) := by decide +kernel
theorem dX12_odd_103 : decode cX12_odd 103 = .ok (.iconst 1, 1) := by decide +kernel
theorem dX12_odd_104 : decode cX12_odd 104 = .ok (.aload_n 0, 1) := by decide +kernel
theorem dX12_odd_105 : decode cX12_odd 105 = .ok (.getfield 99, 3) := by decide +kernel
theorem dX12_odd_108 : decode cX12_odd 108 = .ok (.iload 6, 2) := by decide +kernel
theorem dX12_odd_110 : decode cX12_odd 110 = .ok (.iaload, 1) := by decide +kernel
theorem dX12_odd_111 : decode cX12_odd 111 = .ok (.ishl, 1) := by decide +kernel
theorem dX12_odd_112 : decode cX12_odd 112 = .ok (.ior, 1) := by decide +kernel
theorem dX12_odd_113 : decode cX12_odd 113 = .ok (.istore 5, 2) := by decide +kernel
theorem dX12_odd_115 : decode cX12_odd 115 = .ok (.iinc 6 (-1), 3) := by decide +kernel
theorem dX12_odd_118 : decode cX12_odd 118 = .ok (.goto (-69), 3) := by decide +kernel
theorem dX12_odd_121 : decode cX12_odd 121 = .ok (.iload 4, 2) := by decide +kernel
theorem dX12_odd_123 : decode cX12_odd 123 = .ok (.ifCond .eq 5, 3) := by decide +kernel
theorem dX12_odd_126 : decode cX12_odd 126 = .ok (.iconst (-1), 1) := by decide +kernel
theorem dX12_odd_127 : decode cX12_odd 127 = .ok (.ireturn, 1) := by decide +kernel
theorem dX12_odd_128 : decode cX12_odd 128 = .ok (.iconst 0, 1) := by decide +kernel
theorem dX12_odd_129 : decode cX12_odd 129 = .ok (.istore 6, 2) := by decide +kernel
theorem dX12_odd_131 : decode cX12_odd 131 = .ok (.iload 6, 2) := by decide +kernel
theorem dX12_odd_133 : decode cX12_odd 133 = .ok (.aload_n 0, 1) := by decide +kernel
theorem dX12_odd_134 : decode cX12_odd 134 = .ok (.getfield 96, 3) := by decide +kernel
theorem dX12_odd_137 : decode cX12_odd 137 = .ok (.arraylength, 1) := by decide +kernel
theorem dX12_odd_138 : decode cX12_odd 138 = .ok (.if_icmp .ge 17, 3) := by decide +kernel
theorem dX12_odd_141 : decode cX12_odd 141 = .ok (.aload_n 0, 1) := by decide +kernel
theorem dX12_odd_142 : decode cX12_odd 142 = .ok (.getfield 96, 3) := by decide +kernel
theorem dX12_odd_145 : decode cX12_odd 145 = .ok (.iload 6, 2) := by decide +kernel
theorem dX12_odd_147 : decode cX12_odd 147 = .ok (.iconst (-1), 1) := by decide +kernel
theorem dX12_odd_148 : decode cX12_odd 148 = .ok (.iastore, 1) := by decide +kernel
theorem dX12_odd_149 : decode cX12_odd 149 = .ok (.iinc 6 1, 3) := by decide +kernel
theorem dX12_odd_152 : decode cX12_odd 152 = .ok (.goto (-21), 3) := by decide +kernel
theorem dX12_odd_155 : decode cX12_odd 155 = .ok (.aload_n 0, 1) := by decide +kernel
theorem dX12_odd_156 : decode cX12_odd 156 = .ok (.getfield 96, 3) := by decide +kernel
theorem dX12_odd_159 : decode cX12_odd 159 = .ok (.aload_n 0, 1) := by decide +kernel
theorem dX12_odd_160 : decode cX12_odd 160 = .ok (.getfield 99, 3) := by decide +kernel
theorem dX12_odd_163 : decode cX12_odd 163 = .ok (.iload_n 1, 1) := by decide +kernel
theorem dX12_odd_164 : decode cX12_odd 164 = .ok (.invokestatic 421, 3) := by decide +kernel
theorem dX12_odd_167 : decode cX12_odd 167 = .ok (.iconst 0, 1) := by decide +kernel
theorem dX12_odd_168 : decode cX12_odd 168 = .ok (.iastore, 1) := by decide +kernel
theorem dX12_odd_169 : decode cX12_odd 169 = .ok (.iconst 0, 1) := by decide +kernel
theorem dX12_odd_170 : decode cX12_odd 170 = .ok (.istore 6, 2) := by decide +kernel
theorem dX12_odd_172 : decode cX12_odd 172 = .ok (.iconst 0, 1) := by decide +kernel
theorem dX12_odd_173 : decode cX12_odd 173 = .ok (.istore 7, 2) := by decide +kernel
theorem dX12_odd_175 : decode cX12_odd 175 = .ok (.iload 7, 2) := by decide +kernel
theorem dX12_odd_177 : decode cX12_odd 177 = .ok (.iload_n 1, 1) := by decide +kernel
theorem dX12_odd_178 : decode cX12_odd 178 = .ok (.if_icmp .ge 18, 3) := by decide +kernel
theorem dX12_odd_181 : decode cX12_odd 181 = .ok (.iconst 5, 1) := by decide +kernel
theorem dX12_odd_182 : decode cX12_odd 182 = .ok (.iload 6, 2) := by decide +kernel
theorem dX12_odd_184 : decode cX12_odd 184 = .ok (.imul, 1) := by decide +kernel
theorem dX12_odd_185 : decode cX12_odd 185 = .ok (.iload 7, 2) := by decide +kernel
theorem dX12_odd_187 : decode cX12_odd 187 = .ok (.iadd, 1) := by decide +kernel
theorem dX12_odd_188 : decode cX12_odd 188 = .ok (.istore 6, 2) := by decide +kernel
theorem dX12_odd_190 : decode cX12_odd 190 = .ok (.iinc 7 1, 3) := by decide +kernel
theorem dX12_odd_193 : decode cX12_odd 193 = .ok (.goto (-18), 3) := by decide +kernel
theorem dX12_odd_196 : decode cX12_odd 196 = .ok (.iconst 1, 1) := by decide +kernel
theorem dX12_odd_197 : decode cX12_odd 197 = .ok (.istore 7, 2) := by decide +kernel
theorem dX12_odd_199 : decode cX12_odd 199 = .ok (.aload_n 0, 1) := by decide +kernel
theorem dX12_odd_200 : decode cX12_odd 200 = .ok (.getfield 96, 3) := by decide +kernel
theorem dX12_odd_203 : decode cX12_odd 203 = .ok (.iload 6, 2) := by decide +kernel
theorem dX12_odd_205 : decode cX12_odd 205 = .ok (.iaload, 1) := by decide +kernel
theorem dX12_odd_206 : decode cX12_odd 206 = .ok (.iconst (-1), 1) := by decide +kernel
theorem dX12_odd_207 : decode cX12_odd 207 = .ok (.if_icmp .ne 137, 3) := by decide +kernel
theorem dX12_odd_210 : decode cX12_odd 210 = .ok (.aload_n 0, 1) := by decide +kernel
theorem dX12_odd_211 : decode cX12_odd 211 = .ok (.iconst 0, 1) := by decide +kernel
theorem dX12_odd_212 : decode cX12_odd 212 = .ok (.putfield 425, 3) := by decide +kernel
theorem dX12_odd_215 : decode cX12_odd 215 = .ok (.iconst 0, 1) := by decide +kernel
theorem dX12_odd_216 : decode cX12_odd 216 = .ok (.istore 8, 2) := by decide +kernel
theorem dX12_odd_218 : decode cX12_odd 218 = .ok (.iload 8, 2) := by decide +kernel
theorem dX12_odd_220 : decode cX12_odd 220 = .ok (.aload_n 0, 1) := by decide +kernel
theorem dX12_odd_221 : decode cX12_odd 221 = .ok (.getfield 96, 3) := by decide +kernel
theorem dX12_odd_224 : decode cX12_odd 224 = .ok (.arraylength, 1) := by decide +kernel
theorem dX12_odd_225 : decode cX12_odd 225 = .ok (.if_icmp .ge 104, 3) := by decide +kernel
theorem dX12_odd_228 : decode cX12_odd 228 = .ok (.aload_n 0, 1) := by decide +kernel
theorem dX12_odd_229 : decode cX12_odd 229 = .ok (.getfield 96, 3) := by decide +kernel
theorem dX12_odd_232 : decode cX12_odd 232 = .ok (.iload 8, 2) := by decide +kernel
theorem dX12_odd_234 : decode cX12_odd 234 = .ok (.iaload, 1) := by decide +kernel
theorem dX12_odd_235 : decode cX12_odd 235 = .ok (.iload 7, 2) := by decide +kernel
theorem dX12_odd_237 : decode cX12_odd 237 = .ok (.iconst 1, 1) := by decide +kernel
theorem dX12_odd_238 : decode cX12_odd 238 = .ok (.isub, 1) := by decide +kernel
theorem dX12_odd_239 : decode cX12_odd 239 = .ok (.if_icmp .eq 6, 3) := by decide +kernel
theorem dX12_odd_242 : decode cX12_odd 242 = .ok (.goto 81, 3) := by decide +kernel
theorem dX12_odd_245 : decode cX12_odd 245 = .ok (.iload 8, 2) := by decide +kernel
theorem dX12_odd_247 : decode cX12_odd 247 = .ok (.istore 9, 2) := by decide +kernel
theorem dX12_odd_249 : decode cX12_odd 249 = .ok (.iload_n 1, 1) := by decide +kernel
theorem dX12_odd_250 : decode cX12_odd 250 = .ok (.iconst 1, 1) := by decide +kernel
theorem dX12_odd_251 : decode cX12_odd 251 = .ok (.isub, 1) := by decide +kernel
theorem dX12_odd_252 : decode cX12_odd 252 = .ok (.istore 10, 2) := by decide +kernel
theorem dX12_odd_254 : decode cX12_odd 254 = .ok (.iload 10, 2) := by decide +kernel
theorem dX12_odd_256 : decode cX12_odd 256 = .ok (.ifCond .lt 26, 3) := by decide +kernel
theorem dX12_odd_259 : decode cX12_odd 259 = .ok (.aload_n 0, 1) := by decide +kernel
theorem dX12_odd_260 : decode cX12_odd 260 = .ok (.getfield 99, 3) := by decide +kernel
theorem dX12_odd_263 : decode cX12_odd 263 = .ok (.iload 10, 2) := by decide +kernel
theorem dX12_odd_265 : decode cX12_odd 265 = .ok (.iload 9, 2) := by decide +kernel
theorem dX12_odd_267 : decode cX12_odd 267 = .ok (.iconst 5, 1) := by decide +kernel
theorem dX12_odd_268 : decode cX12_odd 268 = .ok (.irem, 1) := by decide +kernel
theorem dX12_odd_269 : decode cX12_odd 269 = .ok (.iastore, 1) := by decide +kernel
theorem dX12_odd_270 : decode cX12_odd 270 = .ok (.iload 9, 2) := by decide +kernel
theorem dX12_odd_272 : decode cX12_odd 272 = .ok (.iconst 5, 1) := by decide +kernel
theorem dX12_odd_273 : decode cX12_odd 273 = .ok (.idiv, 1) := by decide +kernel
theorem dX12_odd_274 : decode cX12_odd 274 = .ok (.istore 9, 2) := by decide +kernel
theorem dX12_odd_276 : decode cX12_odd 276 = .ok (.iinc 10 (-1), 3) := by decide +kernel
theorem dX12_odd_279 : decode cX12_odd 279 = .ok (.goto (-25), 3) := by decide +kernel
theorem dX12_odd_282 : decode cX12_odd 282 = .ok (.iconst 0, 1) := by decide +kernel
theorem dX12_odd_283 : decode cX12_odd 283 = .ok (.istore 10, 2) := by decide +kernel
theorem dX12_odd_285 : decode cX12_odd 285 = .ok (.iload 10, 2) := by decide +kernel
theorem dX12_odd_287 : decode cX12_odd 287 = .ok (.iconst 1, 1) := by decide +kernel
theorem dX12_odd_288 : decode cX12_odd 288 = .ok (.iload_n 1, 1) := by decide +kernel
theorem dX12_odd_289 : decode cX12_odd 289 = .ok (.ishl, 1) := by decide +kernel
theorem dX12_odd_290 : decode cX12_odd 290 = .ok (.if_icmp .ge 33, 3) := by decide +kernel
theorem dX12_odd_293 : decode cX12_odd 293 = .ok (.iload 10, 2) := by decide +kernel
theorem dX12_odd_295 : decode cX12_odd 295 = .ok (.invokestatic 309, 3) := by decide +kernel
theorem dX12_odd_298 : decode cX12_odd 298 = .ok (.iload_n 3, 1) := by decide +kernel
theorem dX12_odd_299 : decode cX12_odd 299 = .ok (.if_icmp .ne 18, 3) := by decide +kernel
theorem dX12_odd_302 : decode cX12_odd 302 = .ok (.aload_n 0, 1) := by decide +kernel
theorem dX12_odd_303 : decode cX12_odd 303 = .ok (.iload_n 1, 1) := by decide +kernel
theorem dX12_odd_304 : decode cX12_odd 304 = .ok (.iload 10, 2) := by decide +kernel
theorem dX12_odd_306 : decode cX12_odd 306 = .ok (.iconst 0, 1) := by decide +kernel
theorem dX12_odd_307 : decode cX12_odd 307 = .ok (.iconst 0, 1) := by decide +kernel
theorem dX12_odd_308 : decode cX12_odd 308 = .ok (.aload_n 0, 1) := by decide +kernel
theorem dX12_odd_309 : decode cX12_odd 309 = .ok (.getfield 99, 3) := by decide +kernel
theorem dX12_odd_312 : decode cX12_odd 312 = .ok (.iload 7, 2) := by decide +kernel
theorem dX12_odd_314 : decode cX12_odd 314 = .ok (.invokevirtual 428, 3) := by decide +kernel
theorem dX12_odd_317 : decode cX12_odd 317 = .ok (.iinc 10 1, 3) := by decide +kernel
theorem dX12_odd_320 : decode cX12_odd 320 = .ok (.goto (-35), 3) := by decide +kernel
theorem dX12_odd_323 : decode cX12_odd 323 = .ok (.iinc 8 1, 3) := by decide +kernel
theorem dX12_odd_326 : decode cX12_odd 326 = .ok (.goto (-108), 3) := by decide +kernel
theorem dX12_odd_329 : decode cX12_odd 329 = .ok (.aload_n 0, 1) := by decide +kernel
theorem dX12_odd_330 : decode cX12_odd 330 = .ok (.getfield 425, 3) := by decide +kernel
theorem dX12_odd_333 : decode cX12_odd 333 = .ok (.ifCond .ne 5, 3) := by decide +kernel
theorem dX12_odd_336 : decode cX12_odd 336 = .ok (.iconst (-1), 1) := by decide +kernel
theorem dX12_odd_337 : decode cX12_odd 337 = .ok (.ireturn, 1) := by decide +kernel
theorem dX12_odd_338 : decode cX12_odd 338 = .ok (.iinc 7 1, 3) := by decide +kernel
theorem dX12_odd_341 : decode cX12_odd 341 = .ok (.goto (-142), 3) := by decide +kernel
theorem dX12_odd_344 : decode cX12_odd 344 = .ok (.aload_n 0, 1) := by decide +kernel
theorem dX12_odd_345 : decode cX12_odd 345 = .ok (.getfield 96, 3) := by decide +kernel
theorem dX12_odd_348 : decode cX12_odd 348 = .ok (.iload 6, 2) := by decide +kernel
theorem dX12_odd_350 : decode cX12_odd 350 = .ok (.iaload, 1) := by decide +kernel
theorem dX12_odd_351 : decode cX12_odd 351 = .ok (.ireturn, 1) := by decide +kernel
theorem F_X12_99 : FLk RX12 99 12 46 := ⟨RX12, TX12, 58, rfl, rfl, iw_X12, by decide, Or.inl fl_X12_99⟩
def f_X12_odd_36  (h : AH) : Option (Int32 × AH) :=
  some ((-1), h)
def f_X12_odd_99  (h : AH) : Option (Int32 × AH) :=
  some ((-1), h)
def f_X12_odd_323 (q218 : Nat → Int32 → Int32 → Int32 → Int32 → Int32 → AH → Option (Int32 × AH)) (k0 : Nat) (x1 : Int32) (x3 : Int32) (x6 : Int32) (x7 : Int32) (x8 : Int32) (h : AH) : Option (Int32 × AH) :=
  nm (x8 + 1) fun x8_1 =>
  q218 k0 x1 x3 x6 x7 x8_1 h
def f_X12_odd_317 (q285 : Nat → Int32 → Int32 → Int32 → Int32 → Int32 → Int32 → AH → Option (Int32 × AH)) (k0 : Nat) (x1 : Int32) (x3 : Int32) (x6 : Int32) (x7 : Int32) (x8 : Int32) (x10 : Int32) (h : AH) : Option (Int32 × AH) :=
  nm (x10 + 1) fun x10_1 =>
  q285 k0 x1 x3 x6 x7 x8 x10_1 h
def f_X12_odd_285 (q218 : Nat → Int32 → Int32 → Int32 → Int32 → Int32 → AH → Option (Int32 × AH)) : Nat → Nat → Int32 → Int32 → Int32 → Int32 → Int32 → Int32 → AH → Option (Int32 × AH)
  | 0, _, _, _, _, _, _, _, _ => none
  | n + 1, k0, x1, x3, x6, x7, x8, x10, h =>
    if ((1 : Int32) <<< (x1 &&& 31)) ≤ x10 then (
      f_X12_odd_323 q218 k0 x1 x3 x6 x7 x8 h
    ) else (
      ob (f_J6_bitCount_0f7a4 x10 h) fun r_4 h_3 =>
      if r_4 = x3 then (
        ov (r_X12_giveRound 12 k0 x1 x10 0 0 (rf k0 46) x7 h_3) fun h_7 =>
        f_X12_odd_317 (f_X12_odd_285 q218 n) k0 x1 x3 x6 x7 x8 x10 h_7
      ) else (
        f_X12_odd_317 (f_X12_odd_285 q218 n) k0 x1 x3 x6 x7 x8 x10 h_3
      )
    )
def f_X12_odd_254 (q218 : Nat → Int32 → Int32 → Int32 → Int32 → Int32 → AH → Option (Int32 × AH)) : Nat → Nat → Int32 → Int32 → Int32 → Int32 → Int32 → Int32 → Int32 → AH → Option (Int32 × AH)
  | 0, _, _, _, _, _, _, _, _, _ => none
  | n + 1, k0, x1, x3, x6, x7, x8, x9, x10, h =>
    if x10 < 0 then (
      f_X12_odd_285 q218 FU k0 x1 x3 x6 x7 x8 0 h
    ) else (
      og (ix x10 (an (rf k0 46))) <|
      nm (sI h (rf k0 46) x10.toNatClampNeg (jirem x9 5)) fun h_3 =>
      nm ((x9 / 5)) fun x9_5 =>
      nm (x10 + (-1)) fun x10_7 =>
      f_X12_odd_254 q218 n k0 x1 x3 x6 x7 x8 x9_5 x10_7 h_3
    )
def f_X12_odd_218 (q199 : Nat → Int32 → Int32 → Int32 → Int32 → AH → Option (Int32 × AH)) : Nat → Nat → Int32 → Int32 → Int32 → Int32 → Int32 → AH → Option (Int32 × AH)
  | 0, _, _, _, _, _, _, _ => none
  | n + 1, k0, x1, x3, x6, x7, x8, h =>
    if (Int32.ofNat (an (rf k0 44))) ≤ x8 then (
      if (h.1 k0 45) = 0 then (
        some ((-1), h)
      ) else (
        nm (x7 + 1) fun x7_3 =>
        q199 k0 x1 x3 x6 x7_3 h
      )
    ) else (
      og (ix x8 (an (rf k0 44))) <|
      if (h.1 (rf k0 44) x8.toNatClampNeg) = (x7 - 1) then (
        nm ((x1 - 1)) fun x10_7 =>
        f_X12_odd_254 (f_X12_odd_218 q199 n) FU k0 x1 x3 x6 x7 x8 x8 x10_7 h
      ) else (
        f_X12_odd_323 (f_X12_odd_218 q199 n) k0 x1 x3 x6 x7 x8 h
      )
    )
def f_X12_odd_199 : Nat → Nat → Int32 → Int32 → Int32 → Int32 → AH → Option (Int32 × AH)
  | 0, _, _, _, _, _, _ => none
  | n + 1, k0, x1, x3, x6, x7, h =>
    og (ix x6 (an (rf k0 44))) <|
    if (h.1 (rf k0 44) x6.toNatClampNeg) = (-1) then (
      nm (sI h k0 45 0) fun h_4 =>
      f_X12_odd_218 (f_X12_odd_199 n) FU k0 x1 x3 x6 x7 0 h_4
    ) else (
      og (ix x6 (an (rf k0 44))) <|
      some ((h.1 (rf k0 44) x6.toNatClampNeg), h)
    )
def f_X12_odd_175 : Nat → Nat → Int32 → Int32 → Int32 → Int32 → AH → Option (Int32 × AH)
  | 0, _, _, _, _, _, _ => none
  | n + 1, k0, x1, x3, x6, x7, h =>
    if x1 ≤ x7 then (
      f_X12_odd_199 FU k0 x1 x3 x6 1 h
    ) else (
      nm (((5 * x6) + x7)) fun x6_2 =>
      nm (x7 + 1) fun x7_4 =>
      f_X12_odd_175 n k0 x1 x3 x6_2 x7_4 h
    )
def f_X12_odd_131 : Nat → Nat → Int32 → Int32 → Int32 → AH → Option (Int32 × AH)
  | 0, _, _, _, _, _ => none
  | n + 1, k0, x1, x3, x6, h =>
    if (Int32.ofNat (an (rf k0 44))) ≤ x6 then (
      ob (f_X12_rowOf (rf k0 46) x1 h) fun r_4 h_3 =>
      og (ix r_4 (an (rf k0 44))) <|
      nm (sI h_3 (rf k0 44) r_4.toNatClampNeg 0) fun h_6 =>
      f_X12_odd_175 FU k0 x1 x3 0 0 h_6
    ) else (
      og (ix x6 (an (rf k0 44))) <|
      nm (sI h (rf k0 44) x6.toNatClampNeg (-1)) fun h_9 =>
      nm (x6 + 1) fun x6_11 =>
      f_X12_odd_131 n k0 x1 x3 x6_11 h_9
    )
def f_X12_odd_49 : Nat → Nat → Int32 → Int32 → Int32 → Int32 → Int32 → AH → Option (Int32 × AH)
  | 0, _, _, _, _, _, _, _ => none
  | n + 1, k0, x1, x3, x4, x5, x6, h =>
    if x6 < 0 then (
      if x4 = 0 then (
        f_X12_odd_131 FU k0 x1 x3 0 h
      ) else (
        some ((-1), h)
      )
    ) else (
      og (ix x6 (an (rf k0 46))) <|
      nm (sI h (rf k0 46) x6.toNatClampNeg (jirem x4 10)) fun h_4 =>
      nm ((x4 / 10)) fun x4_6 =>
      og (ix x6 (an (rf k0 46))) <|
      if x1 ≤ (h_4.1 (rf k0 46) x6.toNatClampNeg) then (
        f_X12_odd_99 h_4
      ) else (
        og (ix x6 (an (rf k0 46))) <|
        ob (f_X12_has x5 (h_4.1 (rf k0 46) x6.toNatClampNeg) h_4) fun r_13 h_12 =>
        if r_13 = 0 then (
          og (ix x6 (an (rf k0 46))) <|
          nm ((x5 ||| ((1 : Int32) <<< ((h_12.1 (rf k0 46) x6.toNatClampNeg) &&& 31)))) fun x5_16 =>
          nm (x6 + (-1)) fun x6_18 =>
          f_X12_odd_49 n k0 x1 x3 x4_6 x5_16 x6_18 h_12
        ) else (
          f_X12_odd_99 h_12
        )
      )
    )
def f_X12_odd (k0 : Nat) (x1 : Int32) (x2 : Int32) (x3 : Int32) (h : AH) : Option (Int32 × AH) :=
  nm (sI h k0 0 0) fun h_1 =>
  ob (f_X12_isIn ((x1).toInt64) 2 5 h_1) fun r_5 h_4 =>
  if r_5 = 0 then (
    f_X12_odd_36 h_4
  ) else (
    ob (f_X12_isIn ((x3).toInt64) 2 ((x1).toInt64) h_4) fun r_9 h_8 =>
    if r_9 = 0 then (
      f_X12_odd_36 h_8
    ) else (
      if 0 ≤ x2 then (
        nm ((x1 - 1)) fun x6_12 =>
        f_X12_odd_49 FU k0 x1 x3 x2 0 x6_12 h_8
      ) else (
        f_X12_odd_36 h_8
      )
    )
  )
set_option maxHeartbeats 4000000 in
set_option maxRecDepth 100000 in
theorem v_X12_odd_36 {E : EV} {d : Nat} (hd : 24 ≤ d) {r0 : Int32} {h0 : AH}  {h : AH} (hf : f_X12_odd_36 h = some (r0, h0)) : V E (d + 1) K_X12_odd (ZI E r0 h0) h [] [] 36 := by
  unfold f_X12_odd_36 at hf
  refine V_iconst (v := (-1)) dX12_odd_36 (by decide) ?_
  exact V_iret rfl (so_s hf) dX12_odd_37
set_option maxHeartbeats 4000000 in
set_option maxRecDepth 100000 in
theorem v_X12_odd_99 {E : EV} {d : Nat} (hd : 24 ≤ d) {r0 : Int32} {h0 : AH}  {h : AH} (hf : f_X12_odd_99 h = some (r0, h0)) : V E (d + 1) K_X12_odd (ZI E r0 h0) h [] [] 99 := by
  unfold f_X12_odd_99 at hf
  refine V_iconst (v := (-1)) dX12_odd_99 (by decide) ?_
  exact V_iret rfl (so_s hf) dX12_odd_100
set_option maxHeartbeats 4000000 in
set_option maxRecDepth 100000 in
theorem v_X12_odd_323 {E : EV} {d : Nat} (hd : 24 ≤ d) {r0 : Int32} {h0 : AH} {q218 : Nat → Int32 → Int32 → Int32 → Int32 → Int32 → AH → Option (Int32 × AH)} (cq218 : ∀ (k0 : Nat) (x1 : Int32) (x3 : Int32) (x6 : Int32) (x7 : Int32) (x8 : Int32) (h : AH), q218 k0 x1 x3 x6 x7 x8 h = some (r0, h0) → kd k0 = (0, 12) → V E (d + 1) K_X12_odd (ZI E r0 h0) h [(0, .ref k0), (1, .int x1), (3, .int x3), (6, .int x6), (7, .int x7), (8, .int x8)] [] 218) {k0 : Nat} {x1 : Int32} {x3 : Int32} {x6 : Int32} {x7 : Int32} {x8 : Int32} {h : AH} (hf : f_X12_odd_323 q218 k0 x1 x3 x6 x7 x8 h = some (r0, h0)) (t_k0 : kd k0 = (0, 12)) : V E (d + 1) K_X12_odd (ZI E r0 h0) h [(0, .ref k0), (1, .int x1), (3, .int x3), (6, .int x6), (7, .int x7), (8, .int x8)] [] 323 := by
  unfold f_X12_odd_323 at hf
  obtain ⟨x8_1, e_2, hf⟩ := nm_s hf
  refine V_iinc (a := 1) (L' := [(8, .int x8_1), (0, .ref k0), (1, .int x1), (3, .int x3), (6, .int x6), (7, .int x7)]) 5 dX12_odd_323 rfl (by decide) (Nat.le_of_ble_eq_true rfl) e_2 rfl ?_
  refine V_goto (tgt := 218) dX12_odd_326 (by decide) ?_
  refine V_sub [1, 2, 3, 4, 5, 0] rfl ?_
  exact cq218 _ _ _ _ _ _ _ hf t_k0
set_option maxHeartbeats 4000000 in
set_option maxRecDepth 100000 in
theorem v_X12_odd_317 {E : EV} {d : Nat} (hd : 24 ≤ d) {r0 : Int32} {h0 : AH} {q285 : Nat → Int32 → Int32 → Int32 → Int32 → Int32 → Int32 → AH → Option (Int32 × AH)} (cq285 : ∀ (k0 : Nat) (x1 : Int32) (x3 : Int32) (x6 : Int32) (x7 : Int32) (x8 : Int32) (x10 : Int32) (h : AH), q285 k0 x1 x3 x6 x7 x8 x10 h = some (r0, h0) → kd k0 = (0, 12) → V E (d + 1) K_X12_odd (ZI E r0 h0) h [(0, .ref k0), (1, .int x1), (3, .int x3), (6, .int x6), (7, .int x7), (8, .int x8), (10, .int x10)] [] 285) {k0 : Nat} {x1 : Int32} {x3 : Int32} {x6 : Int32} {x7 : Int32} {x8 : Int32} {x10 : Int32} {h : AH} (hf : f_X12_odd_317 q285 k0 x1 x3 x6 x7 x8 x10 h = some (r0, h0)) (t_k0 : kd k0 = (0, 12)) : V E (d + 1) K_X12_odd (ZI E r0 h0) h [(0, .ref k0), (1, .int x1), (3, .int x3), (6, .int x6), (7, .int x7), (8, .int x8), (10, .int x10)] [] 317 := by
  unfold f_X12_odd_317 at hf
  obtain ⟨x10_1, e_2, hf⟩ := nm_s hf
  refine V_iinc (a := 1) (L' := [(10, .int x10_1), (0, .ref k0), (1, .int x1), (3, .int x3), (6, .int x6), (7, .int x7), (8, .int x8)]) 6 dX12_odd_317 rfl (by decide) (Nat.le_of_ble_eq_true rfl) e_2 rfl ?_
  refine V_goto (tgt := 285) dX12_odd_320 (by decide) ?_
  refine V_sub [1, 2, 3, 4, 5, 6, 0] rfl ?_
  exact cq285 _ _ _ _ _ _ _ _ hf t_k0
set_option maxHeartbeats 4000000 in
set_option maxRecDepth 100000 in
theorem v_X12_odd_285 {E : EV} {d : Nat} (hd : 24 ≤ d) {r0 : Int32} {h0 : AH} {q218 : Nat → Int32 → Int32 → Int32 → Int32 → Int32 → AH → Option (Int32 × AH)} (cq218 : ∀ (k0 : Nat) (x1 : Int32) (x3 : Int32) (x6 : Int32) (x7 : Int32) (x8 : Int32) (h : AH), q218 k0 x1 x3 x6 x7 x8 h = some (r0, h0) → kd k0 = (0, 12) → V E (d + 1) K_X12_odd (ZI E r0 h0) h [(0, .ref k0), (1, .int x1), (3, .int x3), (6, .int x6), (7, .int x7), (8, .int x8)] [] 218) : ∀ (n : Nat) (k0 : Nat) (x1 : Int32) (x3 : Int32) (x6 : Int32) (x7 : Int32) (x8 : Int32) (x10 : Int32) (h : AH), f_X12_odd_285 q218 n k0 x1 x3 x6 x7 x8 x10 h = some (r0, h0) → kd k0 = (0, 12) → V E (d + 1) K_X12_odd (ZI E r0 h0) h [(0, .ref k0), (1, .int x1), (3, .int x3), (6, .int x6), (7, .int x7), (8, .int x8), (10, .int x10)] [] 285 := by
  intro n
  induction n with
  | zero =>
    intro k0 x1 x3 x6 x7 x8 x10 h hf
    rw [f_X12_odd_285] at hf
    cases hf
  | succ n ih =>
    intro k0 x1 x3 x6 x7 x8 x10 h hf t_k0
    rw [f_X12_odd_285] at hf
    refine V_iload 6 dX12_odd_285 rfl ?_
    refine V_iconst (v := 1) dX12_odd_287 (by decide) ?_
    refine V_iload_n 1 dX12_odd_288 rfl rfl ?_
    refine V_ishl dX12_odd_289 ?_
    refine V_ic_ge (tgt := 323) dX12_odd_290 (by decide) (fun c_1 => ?_) (fun c_1 => ?_)
    · have hf := it_s c_1 hf
      refine V_sub [0, 1, 2, 3, 4, 5] rfl ?_
      exact v_X12_odd_323 hd cq218 hf t_k0
    · have hf := if_s c_1 hf
      refine V_iload 6 dX12_odd_293 rfl ?_
      obtain ⟨r_4, h_3, e_2, hf⟩ := ob_s hf
      refine V_csi (As := [.int x10]) (rest := []) (c_J6_bitCount_0f7a4 (d := d) (Nat.le_trans (Nat.le_of_ble_eq_true rfl) hd) e_2) ML_X12_309 MS_J6_bitCount_0f7a4 rfl rfl rfl (Nat.le_of_ble_eq_true rfl) dX12_odd_295 ?_
      refine V_iload_n 2 dX12_odd_298 rfl rfl ?_
      refine V_ic_ne (tgt := 317) dX12_odd_299 (by decide) (fun c_5 => ?_) (fun c_5 => ?_)
      · have hf := if_s c_5 hf
        exact v_X12_odd_317 hd ih hf t_k0
      · have hf := it_s c_5 hf
        refine V_aload_n 0 dX12_odd_302 rfl rfl ?_
        refine V_iload_n 1 dX12_odd_303 rfl rfl ?_
        refine V_iload 6 dX12_odd_304 rfl ?_
        refine V_iconst (v := 0) dX12_odd_306 (by decide) ?_
        refine V_iconst (v := 0) dX12_odd_307 (by decide) ?_
        refine V_aload_n 0 dX12_odd_308 rfl rfl ?_
        refine V_getR F_X12_99 rfl t_k0 rfl dX12_odd_309 ?_
        refine V_iload 4 dX12_odd_312 rfl ?_
        obtain ⟨h_7, e_6, hf⟩ := ov_s hf
        refine V_cvv (As := [.int x1, .int x10, .int 0, .int 0, .ref (rf k0 46), .int x7]) (rest := []) (cr_X12_giveRound 12 (d := d) (Nat.le_trans (Nat.le_of_ble_eq_true rfl) hd) e_6 t_k0 (rfA t_k0 (Nat.le_of_ble_eq_true rfl) rfl rfl (by decide))) ML_X12_428 MV_X12_giveRound rfl t_k0 rfl rfl (Nat.le_of_ble_eq_true rfl) dX12_odd_314 ?_
        exact v_X12_odd_317 hd ih hf t_k0
set_option maxHeartbeats 4000000 in
set_option maxRecDepth 100000 in
theorem v_X12_odd_254 {E : EV} {d : Nat} (hd : 24 ≤ d) {r0 : Int32} {h0 : AH} {q218 : Nat → Int32 → Int32 → Int32 → Int32 → Int32 → AH → Option (Int32 × AH)} (cq218 : ∀ (k0 : Nat) (x1 : Int32) (x3 : Int32) (x6 : Int32) (x7 : Int32) (x8 : Int32) (h : AH), q218 k0 x1 x3 x6 x7 x8 h = some (r0, h0) → kd k0 = (0, 12) → V E (d + 1) K_X12_odd (ZI E r0 h0) h [(0, .ref k0), (1, .int x1), (3, .int x3), (6, .int x6), (7, .int x7), (8, .int x8)] [] 218) : ∀ (n : Nat) (k0 : Nat) (x1 : Int32) (x3 : Int32) (x6 : Int32) (x7 : Int32) (x8 : Int32) (x9 : Int32) (x10 : Int32) (h : AH), f_X12_odd_254 q218 n k0 x1 x3 x6 x7 x8 x9 x10 h = some (r0, h0) → kd k0 = (0, 12) → V E (d + 1) K_X12_odd (ZI E r0 h0) h [(0, .ref k0), (1, .int x1), (3, .int x3), (6, .int x6), (7, .int x7), (8, .int x8), (9, .int x9), (10, .int x10)] [] 254 := by
  intro n
  induction n with
  | zero =>
    intro k0 x1 x3 x6 x7 x8 x9 x10 h hf
    rw [f_X12_odd_254] at hf
    cases hf
  | succ n ih =>
    intro k0 x1 x3 x6 x7 x8 x9 x10 h hf t_k0
    rw [f_X12_odd_254] at hf
    refine V_iload 7 dX12_odd_254 rfl ?_
    refine V_if_lt (tgt := 282) dX12_odd_256 (by decide) (fun c_1 => ?_) (fun c_1 => ?_)
    · have hf := it_s c_1 hf
      refine V_iconst (v := 0) dX12_odd_282 (by decide) ?_
      refine V_istore (L' := [(10, .int 0), (0, .ref k0), (1, .int x1), (3, .int x3), (6, .int x6), (7, .int x7), (8, .int x8), (9, .int x9)]) dX12_odd_283 (Nat.le_of_ble_eq_true rfl) rfl rfl ?_
      refine V_sub [1, 2, 3, 4, 5, 6, 0] rfl ?_
      exact v_X12_odd_285 hd cq218 FU _ _ _ _ _ _ _ _ hf t_k0
    · have hf := if_s c_1 hf
      refine V_aload_n 0 dX12_odd_259 rfl rfl ?_
      refine V_getR F_X12_99 rfl t_k0 rfl dX12_odd_260 ?_
      refine V_iload 7 dX12_odd_263 rfl ?_
      refine V_iload 6 dX12_odd_265 rfl ?_
      refine V_iconst (v := 5) dX12_odd_267 (by decide) ?_
      refine V_irem dX12_odd_268 (by decide) ?_
      obtain ⟨b_2, hf⟩ := og_s hf
      obtain ⟨h_3, e_4, hf⟩ := nm_s hf
      refine V_iast (rfA t_k0 (Nat.le_of_ble_eq_true rfl) rfl rfl (by decide)) b_2 e_4 dX12_odd_269 ?_
      refine V_iload 6 dX12_odd_270 rfl ?_
      refine V_iconst (v := 5) dX12_odd_272 (by decide) ?_
      refine V_idiv dX12_odd_273 (by decide) ?_
      obtain ⟨x9_5, e_6, hf⟩ := nm_s hf
      refine V_istore (L' := [(9, .int x9_5), (0, .ref k0), (1, .int x1), (3, .int x3), (6, .int x6), (7, .int x7), (8, .int x8), (10, .int x10)]) dX12_odd_274 (Nat.le_of_ble_eq_true rfl) e_6 rfl ?_
      obtain ⟨x10_7, e_8, hf⟩ := nm_s hf
      refine V_iinc (a := (-1)) (L' := [(10, .int x10_7), (9, .int x9_5), (0, .ref k0), (1, .int x1), (3, .int x3), (6, .int x6), (7, .int x7), (8, .int x8)]) 7 dX12_odd_276 rfl (by decide) (Nat.le_of_ble_eq_true rfl) e_8 rfl ?_
      refine V_goto (tgt := 254) dX12_odd_279 (by decide) ?_
      refine V_sub [2, 3, 4, 5, 6, 7, 1, 0] rfl ?_
      exact ih _ _ _ _ _ _ _ _ _ hf t_k0
set_option maxHeartbeats 4000000 in
set_option maxRecDepth 100000 in
theorem v_X12_odd_218 {E : EV} {d : Nat} (hd : 24 ≤ d) {r0 : Int32} {h0 : AH} {q199 : Nat → Int32 → Int32 → Int32 → Int32 → AH → Option (Int32 × AH)} (cq199 : ∀ (k0 : Nat) (x1 : Int32) (x3 : Int32) (x6 : Int32) (x7 : Int32) (h : AH), q199 k0 x1 x3 x6 x7 h = some (r0, h0) → kd k0 = (0, 12) → V E (d + 1) K_X12_odd (ZI E r0 h0) h [(0, .ref k0), (1, .int x1), (3, .int x3), (6, .int x6), (7, .int x7)] [] 199) : ∀ (n : Nat) (k0 : Nat) (x1 : Int32) (x3 : Int32) (x6 : Int32) (x7 : Int32) (x8 : Int32) (h : AH), f_X12_odd_218 q199 n k0 x1 x3 x6 x7 x8 h = some (r0, h0) → kd k0 = (0, 12) → V E (d + 1) K_X12_odd (ZI E r0 h0) h [(0, .ref k0), (1, .int x1), (3, .int x3), (6, .int x6), (7, .int x7), (8, .int x8)] [] 218 := by
  intro n
  induction n with
  | zero =>
    intro k0 x1 x3 x6 x7 x8 h hf
    rw [f_X12_odd_218] at hf
    cases hf
  | succ n ih =>
    intro k0 x1 x3 x6 x7 x8 h hf t_k0
    rw [f_X12_odd_218] at hf
    refine V_iload 5 dX12_odd_218 rfl ?_
    refine V_aload_n 0 dX12_odd_220 rfl rfl ?_
    refine V_getR F_X12_96 rfl t_k0 rfl dX12_odd_221 ?_
    refine V_alen (rfA t_k0 (Nat.le_of_ble_eq_true rfl) rfl rfl (by decide)) (by decide) dX12_odd_224 ?_
    refine V_ic_ge (tgt := 329) dX12_odd_225 (by decide) (fun c_1 => ?_) (fun c_1 => ?_)
    · have hf := it_s c_1 hf
      refine V_aload_n 0 dX12_odd_329 rfl rfl ?_
      refine V_getI F_X12_425 rfl t_k0 rfl dX12_odd_330 ?_
      refine V_if_ne (tgt := 338) dX12_odd_333 (by decide) (fun c_2 => ?_) (fun c_2 => ?_)
      · have hf := if_s c_2 hf
        obtain ⟨x7_3, e_4, hf⟩ := nm_s hf
        refine V_iinc (a := 1) (L' := [(7, .int x7_3), (0, .ref k0), (1, .int x1), (3, .int x3), (6, .int x6), (8, .int x8)]) 4 dX12_odd_338 rfl (by decide) (Nat.le_of_ble_eq_true rfl) e_4 rfl ?_
        refine V_goto (tgt := 199) dX12_odd_341 (by decide) ?_
        refine V_sub [1, 2, 3, 4, 0] rfl ?_
        exact cq199 _ _ _ _ _ _ hf t_k0
      · have hf := it_s c_2 hf
        refine V_iconst (v := (-1)) dX12_odd_336 (by decide) ?_
        exact V_iret rfl (so_s hf) dX12_odd_337
    · have hf := if_s c_1 hf
      refine V_aload_n 0 dX12_odd_228 rfl rfl ?_
      refine V_getR F_X12_96 rfl t_k0 rfl dX12_odd_229 ?_
      refine V_iload 5 dX12_odd_232 rfl ?_
      obtain ⟨b_5, hf⟩ := og_s hf
      refine V_iald (rfA t_k0 (Nat.le_of_ble_eq_true rfl) rfl rfl (by decide)) b_5 dX12_odd_234 ?_
      refine V_iload 4 dX12_odd_235 rfl ?_
      refine V_iconst (v := 1) dX12_odd_237 (by decide) ?_
      refine V_isub dX12_odd_238 ?_
      refine V_ic_eq (tgt := 245) dX12_odd_239 (by decide) (fun c_6 => ?_) (fun c_6 => ?_)
      · have hf := it_s c_6 hf
        refine V_iload 5 dX12_odd_245 rfl ?_
        refine V_istore (L' := [(9, .int x8), (0, .ref k0), (1, .int x1), (3, .int x3), (6, .int x6), (7, .int x7), (8, .int x8)]) dX12_odd_247 (Nat.le_of_ble_eq_true rfl) rfl rfl ?_
        refine V_iload_n 2 dX12_odd_249 rfl rfl ?_
        refine V_iconst (v := 1) dX12_odd_250 (by decide) ?_
        refine V_isub dX12_odd_251 ?_
        obtain ⟨x10_7, e_8, hf⟩ := nm_s hf
        refine V_istore (L' := [(10, .int x10_7), (9, .int x8), (0, .ref k0), (1, .int x1), (3, .int x3), (6, .int x6), (7, .int x7), (8, .int x8)]) dX12_odd_252 (Nat.le_of_ble_eq_true rfl) e_8 rfl ?_
        refine V_sub [2, 3, 4, 5, 6, 7, 1, 0] rfl ?_
        exact v_X12_odd_254 hd ih FU _ _ _ _ _ _ _ _ _ hf t_k0
      · have hf := if_s c_6 hf
        refine V_goto (tgt := 323) dX12_odd_242 (by decide) ?_
        exact v_X12_odd_323 hd ih hf t_k0
set_option maxHeartbeats 4000000 in
set_option maxRecDepth 100000 in
theorem v_X12_odd_199 {E : EV} {d : Nat} (hd : 24 ≤ d) {r0 : Int32} {h0 : AH} : ∀ (n : Nat) (k0 : Nat) (x1 : Int32) (x3 : Int32) (x6 : Int32) (x7 : Int32) (h : AH), f_X12_odd_199 n k0 x1 x3 x6 x7 h = some (r0, h0) → kd k0 = (0, 12) → V E (d + 1) K_X12_odd (ZI E r0 h0) h [(0, .ref k0), (1, .int x1), (3, .int x3), (6, .int x6), (7, .int x7)] [] 199 := by
  intro n
  induction n with
  | zero =>
    intro k0 x1 x3 x6 x7 h hf
    rw [f_X12_odd_199] at hf
    cases hf
  | succ n ih =>
    intro k0 x1 x3 x6 x7 h hf t_k0
    rw [f_X12_odd_199] at hf
    refine V_aload_n 0 dX12_odd_199 rfl rfl ?_
    refine V_getR F_X12_96 rfl t_k0 rfl dX12_odd_200 ?_
    refine V_iload 3 dX12_odd_203 rfl ?_
    obtain ⟨b_1, hf⟩ := og_s hf
    refine V_iald (rfA t_k0 (Nat.le_of_ble_eq_true rfl) rfl rfl (by decide)) b_1 dX12_odd_205 ?_
    refine V_iconst (v := (-1)) dX12_odd_206 (by decide) ?_
    refine V_ic_ne (tgt := 344) dX12_odd_207 (by decide) (fun c_2 => ?_) (fun c_2 => ?_)
    · have hf := if_s c_2 hf
      refine V_aload_n 0 dX12_odd_344 rfl rfl ?_
      refine V_getR F_X12_96 rfl t_k0 rfl dX12_odd_345 ?_
      refine V_iload 3 dX12_odd_348 rfl ?_
      obtain ⟨b_3, hf⟩ := og_s hf
      refine V_iald (rfA t_k0 (Nat.le_of_ble_eq_true rfl) rfl rfl (by decide)) b_3 dX12_odd_350 ?_
      exact V_iret rfl (so_s hf) dX12_odd_351
    · have hf := it_s c_2 hf
      refine V_aload_n 0 dX12_odd_210 rfl rfl ?_
      refine V_iconst (v := 0) dX12_odd_211 (by decide) ?_
      obtain ⟨h_4, e_5, hf⟩ := nm_s hf
      refine V_putZ P_X12_425 rfl t_k0 rfl (by decide) e_5 dX12_odd_212 ?_
      refine V_iconst (v := 0) dX12_odd_215 (by decide) ?_
      refine V_istore (L' := [(8, .int 0), (0, .ref k0), (1, .int x1), (3, .int x3), (6, .int x6), (7, .int x7)]) dX12_odd_216 (Nat.le_of_ble_eq_true rfl) rfl rfl ?_
      refine V_sub [1, 2, 3, 4, 5, 0] rfl ?_
      exact v_X12_odd_218 hd ih FU _ _ _ _ _ _ _ hf t_k0
set_option maxHeartbeats 4000000 in
set_option maxRecDepth 100000 in
theorem v_X12_odd_175 {E : EV} {d : Nat} (hd : 24 ≤ d) {r0 : Int32} {h0 : AH} : ∀ (n : Nat) (k0 : Nat) (x1 : Int32) (x3 : Int32) (x6 : Int32) (x7 : Int32) (h : AH), f_X12_odd_175 n k0 x1 x3 x6 x7 h = some (r0, h0) → kd k0 = (0, 12) → V E (d + 1) K_X12_odd (ZI E r0 h0) h [(0, .ref k0), (1, .int x1), (3, .int x3), (6, .int x6), (7, .int x7)] [] 175 := by
  intro n
  induction n with
  | zero =>
    intro k0 x1 x3 x6 x7 h hf
    rw [f_X12_odd_175] at hf
    cases hf
  | succ n ih =>
    intro k0 x1 x3 x6 x7 h hf t_k0
    rw [f_X12_odd_175] at hf
    refine V_iload 4 dX12_odd_175 rfl ?_
    refine V_iload_n 1 dX12_odd_177 rfl rfl ?_
    refine V_ic_ge (tgt := 196) dX12_odd_178 (by decide) (fun c_1 => ?_) (fun c_1 => ?_)
    · have hf := it_s c_1 hf
      refine V_iconst (v := 1) dX12_odd_196 (by decide) ?_
      refine V_istore (L' := [(7, .int 1), (0, .ref k0), (1, .int x1), (3, .int x3), (6, .int x6)]) dX12_odd_197 (Nat.le_of_ble_eq_true rfl) rfl rfl ?_
      refine V_sub [1, 2, 3, 4, 0] rfl ?_
      exact v_X12_odd_199 hd FU _ _ _ _ _ _ hf t_k0
    · have hf := if_s c_1 hf
      refine V_iconst (v := 5) dX12_odd_181 (by decide) ?_
      refine V_iload 3 dX12_odd_182 rfl ?_
      refine V_imul dX12_odd_184 ?_
      refine V_iload 4 dX12_odd_185 rfl ?_
      refine V_iadd dX12_odd_187 ?_
      obtain ⟨x6_2, e_3, hf⟩ := nm_s hf
      refine V_istore (L' := [(6, .int x6_2), (0, .ref k0), (1, .int x1), (3, .int x3), (7, .int x7)]) dX12_odd_188 (Nat.le_of_ble_eq_true rfl) e_3 rfl ?_
      obtain ⟨x7_4, e_5, hf⟩ := nm_s hf
      refine V_iinc (a := 1) (L' := [(7, .int x7_4), (6, .int x6_2), (0, .ref k0), (1, .int x1), (3, .int x3)]) 4 dX12_odd_190 rfl (by decide) (Nat.le_of_ble_eq_true rfl) e_5 rfl ?_
      refine V_goto (tgt := 175) dX12_odd_193 (by decide) ?_
      refine V_sub [2, 3, 4, 1, 0] rfl ?_
      exact ih _ _ _ _ _ _ hf t_k0
set_option maxHeartbeats 4000000 in
set_option maxRecDepth 100000 in
theorem v_X12_odd_131 {E : EV} {d : Nat} (hd : 24 ≤ d) {r0 : Int32} {h0 : AH} : ∀ (n : Nat) (k0 : Nat) (x1 : Int32) (x3 : Int32) (x6 : Int32) (h : AH), f_X12_odd_131 n k0 x1 x3 x6 h = some (r0, h0) → kd k0 = (0, 12) → V E (d + 1) K_X12_odd (ZI E r0 h0) h [(0, .ref k0), (1, .int x1), (3, .int x3), (6, .int x6)] [] 131 := by
  intro n
  induction n with
  | zero =>
    intro k0 x1 x3 x6 h hf
    rw [f_X12_odd_131] at hf
    cases hf
  | succ n ih =>
    intro k0 x1 x3 x6 h hf t_k0
    rw [f_X12_odd_131] at hf
    refine V_iload 3 dX12_odd_131 rfl ?_
    refine V_aload_n 0 dX12_odd_133 rfl rfl ?_
    refine V_getR F_X12_96 rfl t_k0 rfl dX12_odd_134 ?_
    refine V_alen (rfA t_k0 (Nat.le_of_ble_eq_true rfl) rfl rfl (by decide)) (by decide) dX12_odd_137 ?_
    refine V_ic_ge (tgt := 155) dX12_odd_138 (by decide) (fun c_1 => ?_) (fun c_1 => ?_)
    · have hf := it_s c_1 hf
      refine V_aload_n 0 dX12_odd_155 rfl rfl ?_
      refine V_getR F_X12_96 rfl t_k0 rfl dX12_odd_156 ?_
      refine V_aload_n 0 dX12_odd_159 rfl rfl ?_
      refine V_getR F_X12_99 rfl t_k0 rfl dX12_odd_160 ?_
      refine V_iload_n 1 dX12_odd_163 rfl rfl ?_
      obtain ⟨r_4, h_3, e_2, hf⟩ := ob_s hf
      refine V_csi (As := [.ref (rf k0 46), .int x1]) (rest := [.ref (rf k0 44)]) (c_X12_rowOf (d := d) (Nat.le_trans (Nat.le_of_ble_eq_true rfl) hd) e_2 (rfA t_k0 (Nat.le_of_ble_eq_true rfl) rfl rfl (by decide))) ML_X12_421 MS_X12_rowOf rfl rfl rfl (Nat.le_of_ble_eq_true rfl) dX12_odd_164 ?_
      refine V_iconst (v := 0) dX12_odd_167 (by decide) ?_
      obtain ⟨b_5, hf⟩ := og_s hf
      obtain ⟨h_6, e_7, hf⟩ := nm_s hf
      refine V_iast (rfA t_k0 (Nat.le_of_ble_eq_true rfl) rfl rfl (by decide)) b_5 e_7 dX12_odd_168 ?_
      refine V_iconst (v := 0) dX12_odd_169 (by decide) ?_
      refine V_istore (L' := [(6, .int 0), (0, .ref k0), (1, .int x1), (3, .int x3)]) dX12_odd_170 (Nat.le_of_ble_eq_true rfl) rfl rfl ?_
      refine V_iconst (v := 0) dX12_odd_172 (by decide) ?_
      refine V_istore (L' := [(7, .int 0), (6, .int 0), (0, .ref k0), (1, .int x1), (3, .int x3)]) dX12_odd_173 (Nat.le_of_ble_eq_true rfl) rfl rfl ?_
      refine V_sub [2, 3, 4, 1, 0] rfl ?_
      exact v_X12_odd_175 hd FU _ _ _ _ _ _ hf t_k0
    · have hf := if_s c_1 hf
      refine V_aload_n 0 dX12_odd_141 rfl rfl ?_
      refine V_getR F_X12_96 rfl t_k0 rfl dX12_odd_142 ?_
      refine V_iload 3 dX12_odd_145 rfl ?_
      refine V_iconst (v := (-1)) dX12_odd_147 (by decide) ?_
      obtain ⟨b_8, hf⟩ := og_s hf
      obtain ⟨h_9, e_10, hf⟩ := nm_s hf
      refine V_iast (rfA t_k0 (Nat.le_of_ble_eq_true rfl) rfl rfl (by decide)) b_8 e_10 dX12_odd_148 ?_
      obtain ⟨x6_11, e_12, hf⟩ := nm_s hf
      refine V_iinc (a := 1) (L' := [(6, .int x6_11), (0, .ref k0), (1, .int x1), (3, .int x3)]) 3 dX12_odd_149 rfl (by decide) (Nat.le_of_ble_eq_true rfl) e_12 rfl ?_
      refine V_goto (tgt := 131) dX12_odd_152 (by decide) ?_
      refine V_sub [1, 2, 3, 0] rfl ?_
      exact ih _ _ _ _ _ hf t_k0
set_option maxHeartbeats 4000000 in
set_option maxRecDepth 100000 in
theorem v_X12_odd_49 {E : EV} {d : Nat} (hd : 24 ≤ d) {r0 : Int32} {h0 : AH} : ∀ (n : Nat) (k0 : Nat) (x1 : Int32) (x3 : Int32) (x4 : Int32) (x5 : Int32) (x6 : Int32) (h : AH), f_X12_odd_49 n k0 x1 x3 x4 x5 x6 h = some (r0, h0) → kd k0 = (0, 12) → V E (d + 1) K_X12_odd (ZI E r0 h0) h [(0, .ref k0), (1, .int x1), (3, .int x3), (4, .int x4), (5, .int x5), (6, .int x6)] [] 49 := by
  intro n
  induction n with
  | zero =>
    intro k0 x1 x3 x4 x5 x6 h hf
    rw [f_X12_odd_49] at hf
    cases hf
  | succ n ih =>
    intro k0 x1 x3 x4 x5 x6 h hf t_k0
    rw [f_X12_odd_49] at hf
    refine V_iload 5 dX12_odd_49 rfl ?_
    refine V_if_lt (tgt := 121) dX12_odd_51 (by decide) (fun c_1 => ?_) (fun c_1 => ?_)
    · have hf := it_s c_1 hf
      refine V_iload 3 dX12_odd_121 rfl ?_
      refine V_if_eq (tgt := 128) dX12_odd_123 (by decide) (fun c_2 => ?_) (fun c_2 => ?_)
      · have hf := it_s c_2 hf
        refine V_iconst (v := 0) dX12_odd_128 (by decide) ?_
        refine V_istore (L' := [(6, .int 0), (0, .ref k0), (1, .int x1), (3, .int x3), (4, .int x4), (5, .int x5)]) dX12_odd_129 (Nat.le_of_ble_eq_true rfl) rfl rfl ?_
        refine V_sub [1, 2, 3, 0] rfl ?_
        exact v_X12_odd_131 hd FU _ _ _ _ _ hf t_k0
      · have hf := if_s c_2 hf
        refine V_iconst (v := (-1)) dX12_odd_126 (by decide) ?_
        exact V_iret rfl (so_s hf) dX12_odd_127
    · have hf := if_s c_1 hf
      refine V_aload_n 0 dX12_odd_54 rfl rfl ?_
      refine V_getR F_X12_99 rfl t_k0 rfl dX12_odd_55 ?_
      refine V_iload 5 dX12_odd_58 rfl ?_
      refine V_iload 3 dX12_odd_60 rfl ?_
      refine V_bipush (v := 10) dX12_odd_62 (by decide) ?_
      refine V_irem dX12_odd_64 (by decide) ?_
      obtain ⟨b_3, hf⟩ := og_s hf
      obtain ⟨h_4, e_5, hf⟩ := nm_s hf
      refine V_iast (rfA t_k0 (Nat.le_of_ble_eq_true rfl) rfl rfl (by decide)) b_3 e_5 dX12_odd_65 ?_
      refine V_iload 3 dX12_odd_66 rfl ?_
      refine V_bipush (v := 10) dX12_odd_68 (by decide) ?_
      refine V_idiv dX12_odd_70 (by decide) ?_
      obtain ⟨x4_6, e_7, hf⟩ := nm_s hf
      refine V_istore (L' := [(4, .int x4_6), (0, .ref k0), (1, .int x1), (3, .int x3), (5, .int x5), (6, .int x6)]) dX12_odd_71 (Nat.le_of_ble_eq_true rfl) e_7 rfl ?_
      refine V_aload_n 1 dX12_odd_73 rfl rfl ?_
      refine V_getR F_X12_99 rfl t_k0 rfl dX12_odd_74 ?_
      refine V_iload 5 dX12_odd_77 rfl ?_
      obtain ⟨b_8, hf⟩ := og_s hf
      refine V_iald (rfA t_k0 (Nat.le_of_ble_eq_true rfl) rfl rfl (by decide)) b_8 dX12_odd_79 ?_
      refine V_iload_n 2 dX12_odd_80 rfl rfl ?_
      refine V_ic_ge (tgt := 99) dX12_odd_81 (by decide) (fun c_9 => ?_) (fun c_9 => ?_)
      · have hf := it_s c_9 hf
        refine V_sub [] rfl ?_
        exact v_X12_odd_99 hd hf
      · have hf := if_s c_9 hf
        refine V_iload 4 dX12_odd_84 rfl ?_
        refine V_aload_n 1 dX12_odd_86 rfl rfl ?_
        refine V_getR F_X12_99 rfl t_k0 rfl dX12_odd_87 ?_
        refine V_iload 5 dX12_odd_90 rfl ?_
        obtain ⟨b_10, hf⟩ := og_s hf
        refine V_iald (rfA t_k0 (Nat.le_of_ble_eq_true rfl) rfl rfl (by decide)) b_10 dX12_odd_92 ?_
        obtain ⟨r_13, h_12, e_11, hf⟩ := ob_s hf
        refine V_csi (As := [.int x5, .int (h_4.1 (rf k0 46) x6.toNatClampNeg)]) (rest := []) (c_X12_has (d := d) (Nat.le_trans (Nat.le_of_ble_eq_true rfl) hd) e_11) ML_X12_258 MS_X12_has rfl rfl rfl (Nat.le_of_ble_eq_true rfl) dX12_odd_93 ?_
        refine V_if_eq (tgt := 101) dX12_odd_96 (by decide) (fun c_14 => ?_) (fun c_14 => ?_)
        · have hf := it_s c_14 hf
          refine V_iload 4 dX12_odd_101 rfl ?_
          refine V_iconst (v := 1) dX12_odd_103 (by decide) ?_
          refine V_aload_n 1 dX12_odd_104 rfl rfl ?_
          refine V_getR F_X12_99 rfl t_k0 rfl dX12_odd_105 ?_
          refine V_iload 5 dX12_odd_108 rfl ?_
          obtain ⟨b_15, hf⟩ := og_s hf
          refine V_iald (rfA t_k0 (Nat.le_of_ble_eq_true rfl) rfl rfl (by decide)) b_15 dX12_odd_110 ?_
          refine V_ishl dX12_odd_111 ?_
          refine V_ior dX12_odd_112 ?_
          obtain ⟨x5_16, e_17, hf⟩ := nm_s hf
          refine V_istore (L' := [(5, .int x5_16), (4, .int x4_6), (0, .ref k0), (1, .int x1), (3, .int x3), (6, .int x6)]) dX12_odd_113 (Nat.le_of_ble_eq_true rfl) e_17 rfl ?_
          obtain ⟨x6_18, e_19, hf⟩ := nm_s hf
          refine V_iinc (a := (-1)) (L' := [(6, .int x6_18), (5, .int x5_16), (4, .int x4_6), (0, .ref k0), (1, .int x1), (3, .int x3)]) 5 dX12_odd_115 rfl (by decide) (Nat.le_of_ble_eq_true rfl) e_19 rfl ?_
          refine V_goto (tgt := 49) dX12_odd_118 (by decide) ?_
          refine V_sub [3, 4, 5, 2, 1, 0] rfl ?_
          exact ih _ _ _ _ _ _ _ hf t_k0
        · have hf := if_s c_14 hf
          refine V_sub [] rfl ?_
          exact v_X12_odd_99 hd hf
set_option maxHeartbeats 4000000 in
set_option maxRecDepth 100000 in
theorem c_X12_odd {E : EV} {d : Nat} (hd : 24 + 1 ≤ d) {k0 : Nat} {x1 : Int32} {x2 : Int32} {x3 : Int32} {h : AH} {r0 : Int32} {h0 : AH} (hf : f_X12_odd k0 x1 x2 x3 h = some (r0, h0)) (t_k0 : kd k0 = (0, 12)) : Con E d K_X12_odd (ZI E r0 h0) [.ref k0, .int x1, .int x2, .int x3] h := by
  obtain ⟨d, rfl⟩ : ∃ d', d = d' + 1 := ⟨d - 1, by omega⟩
  have hd := Nat.le_of_succ_le_succ hd
  refine Con.ofV rfl (Nat.le_of_ble_eq_true rfl) ?_
  unfold f_X12_odd at hf
  show V E (d + 1) K_X12_odd (ZI E r0 h0) h [(0, .ref k0), (1, .int x1), (2, .int x2), (3, .int x3)] [] 0
  refine V_aload_n 0 dX12_odd_0 rfl rfl ?_
  refine V_iconst (v := 0) dX12_odd_1 (by decide) ?_
  obtain ⟨h_1, e_2, hf⟩ := nm_s hf
  refine V_putI P_X12_120 rfl t_k0 rfl e_2 dX12_odd_2 ?_
  refine V_iload_n 1 dX12_odd_5 rfl rfl ?_
  refine V_i2l dX12_odd_6 ?_
  refine V_ldc2 (v := 2) rfl kl_X12_304 dX12_odd_7 ?_
  refine V_ldc2 (v := 5) rfl kl_X12_432 dX12_odd_10 ?_
  obtain ⟨r_5, h_4, e_3, hf⟩ := ob_s hf
  refine V_csi (As := [.long ((x1).toInt64), .long 2, .long 5]) (rest := []) (c_X12_isIn (d := d) (Nat.le_trans (Nat.le_of_ble_eq_true rfl) hd) e_3) ML_X12_247 MS_X12_isIn rfl rfl rfl (Nat.le_of_ble_eq_true rfl) dX12_odd_13 ?_
  refine V_if_eq (tgt := 36) dX12_odd_16 (by decide) (fun c_6 => ?_) (fun c_6 => ?_)
  · have hf := it_s c_6 hf
    refine V_sub [] rfl ?_
    exact v_X12_odd_36 hd hf
  · have hf := if_s c_6 hf
    refine V_iload_n 3 dX12_odd_19 rfl rfl ?_
    refine V_i2l dX12_odd_20 ?_
    refine V_ldc2 (v := 2) rfl kl_X12_304 dX12_odd_21 ?_
    refine V_iload_n 1 dX12_odd_24 rfl rfl ?_
    refine V_i2l dX12_odd_25 ?_
    obtain ⟨r_9, h_8, e_7, hf⟩ := ob_s hf
    refine V_csi (As := [.long ((x3).toInt64), .long 2, .long ((x1).toInt64)]) (rest := []) (c_X12_isIn (d := d) (Nat.le_trans (Nat.le_of_ble_eq_true rfl) hd) e_7) ML_X12_247 MS_X12_isIn rfl rfl rfl (Nat.le_of_ble_eq_true rfl) dX12_odd_26 ?_
    refine V_if_eq (tgt := 36) dX12_odd_29 (by decide) (fun c_10 => ?_) (fun c_10 => ?_)
    · have hf := it_s c_10 hf
      refine V_sub [] rfl ?_
      exact v_X12_odd_36 hd hf
    · have hf := if_s c_10 hf
      refine V_iload_n 2 dX12_odd_32 rfl rfl ?_
      refine V_if_ge (tgt := 38) dX12_odd_33 (by decide) (fun c_11 => ?_) (fun c_11 => ?_)
      · have hf := it_s c_11 hf
        refine V_iload_n 2 dX12_odd_38 rfl rfl ?_
        refine V_istore (L' := [(4, .int x2), (0, .ref k0), (1, .int x1), (2, .int x2), (3, .int x3)]) dX12_odd_39 (Nat.le_of_ble_eq_true rfl) rfl rfl ?_
        refine V_iconst (v := 0) dX12_odd_41 (by decide) ?_
        refine V_istore (L' := [(5, .int 0), (4, .int x2), (0, .ref k0), (1, .int x1), (2, .int x2), (3, .int x3)]) dX12_odd_42 (Nat.le_of_ble_eq_true rfl) rfl rfl ?_
        refine V_iload_n 3 dX12_odd_44 rfl rfl ?_
        refine V_iconst (v := 1) dX12_odd_45 (by decide) ?_
        refine V_isub dX12_odd_46 ?_
        obtain ⟨x6_12, e_13, hf⟩ := nm_s hf
        refine V_istore (L' := [(6, .int x6_12), (5, .int 0), (4, .int x2), (0, .ref k0), (1, .int x1), (2, .int x2), (3, .int x3)]) dX12_odd_47 (Nat.le_of_ble_eq_true rfl) e_13 rfl ?_
        refine V_sub [3, 4, 6, 2, 1, 0] rfl ?_
        exact v_X12_odd_49 hd FU _ _ _ _ _ _ _ hf t_k0
      · have hf := if_s c_11 hf
        refine V_sub [] rfl ?_
        exact v_X12_odd_36 hd hf
theorem dX12_orders_0 : decode cX12_orders 0 = .ok (.aload_n 0, 1) := by decide +kernel
theorem dX12_orders_1 : decode cX12_orders 1 = .ok (.iconst 0, 1) := by decide +kernel
theorem dX12_orders_2 : decode cX12_orders 2 = .ok (.putfield 120, 3) := by decide +kernel
theorem dX12_orders_5 : decode cX12_orders 5 = .ok (.aload_n 0, 1) := by decide +kernel
theorem dX12_orders_6 : decode cX12_orders 6 = .ok (.iload_n 1, 1) := by decide +kernel
theorem dX12_orders_7 : decode cX12_orders 7 = .ok (.iload_n 2, 1) := by decide +kernel
theorem dX12_orders_8 : decode cX12_orders 8 = .ok (.iload_n 3, 1) := by decide +kernel
theorem dX12_orders_9 : decode cX12_orders 9 = .ok (.invokevirtual 360, 3) := by decide +kernel
theorem dX12_orders_12 : decode cX12_orders 12 = .ok (.ifCond .eq 12, 3) := by decide +kernel
theorem dX12_orders_15 : decode cX12_orders 15 = .ok (.aload_n 0, 1) := by decide +kernel
theorem dX12_orders_16 : decode cX12_orders 16 = .ok (.iload 4, 2) := by decide +kernel
theorem dX12_orders_18 : decode cX12_orders 18 = .ok (.invokevirtual 364, 3) := by decide +kernel
theorem dX12_orders_21 : decode cX12_orders 21 = .ok (.ifCond .ne 7, 3) := by decide +kernel
theorem dX12_orders_24 : decode cX12_orders 24 = .ok (.ldc_w 352, 3) := by decide +kernel
theorem dX12_orders_27 : decode cX12_orders 27 = .ok (.ireturn, 1) := by decide +kernel
theorem dX12_orders_28 : decode cX12_orders 28 = .ok (.aload_n 0, 1) := by decide +kernel
theorem dX12_orders_29 : decode cX12_orders 29 = .ok (.iload_n 2, 1) := by decide +kernel
theorem dX12_orders_30 : decode cX12_orders 30 = .ok (.invokevirtual 367, 3) := by decide +kernel
theorem dX12_orders_33 : decode cX12_orders 33 = .ok (.iconst 0, 1) := by decide +kernel
theorem dX12_orders_34 : decode cX12_orders 34 = .ok (.istore 5, 2) := by decide +kernel
theorem dX12_orders_36 : decode cX12_orders 36 = .ok (.iconst 0, 1) := by decide +kernel
theorem dX12_orders_37 : decode cX12_orders 37 = .ok (.istore 6, 2) := by decide +kernel
theorem dX12_orders_39 : decode cX12_orders 39 = .ok (.iload 6, 2) := by decide +kernel
theorem dX12_orders_41 : decode cX12_orders 41 = .ok (.aload_n 0, 1) := by decide +kernel
theorem dX12_orders_42 : decode cX12_orders 42 = .ok (.getfield 353, 3) := by decide +kernel
theorem dX12_orders_45 : decode cX12_orders 45 = .ok (.if_icmp .ge 43, 3) := by decide +kernel
theorem dX12_orders_48 : decode cX12_orders 48 = .ok (.aload_n 0, 1) := by decide +kernel
theorem dX12_orders_49 : decode cX12_orders 49 = .ok (.iload 6, 2) := by decide +kernel
theorem dX12_orders_51 : decode cX12_orders 51 = .ok (.iload_n 2, 1) := by decide +kernel
theorem dX12_orders_52 : decode cX12_orders 52 = .ok (.aload_n 0, 1) := by decide +kernel
theorem dX12_orders_53 : decode cX12_orders 53 = .ok (.iload_n 1, 1) := by decide +kernel
theorem dX12_orders_54 : decode cX12_orders 54 = .ok (.iload_n 2, 1) := by decide +kernel
theorem dX12_orders_55 : decode cX12_orders 55 = .ok (.invokevirtual 335, 3) := by decide +kernel
theorem dX12_orders_58 : decode cX12_orders 58 = .ok (.invokevirtual 370, 3) := by decide +kernel
theorem dX12_orders_61 : decode cX12_orders 61 = .ok (.iload 5, 2) := by decide +kernel
theorem dX12_orders_63 : decode cX12_orders 63 = .ok (.aload_n 0, 1) := by decide +kernel
theorem dX12_orders_64 : decode cX12_orders 64 = .ok (.getfield 63, 3) := by decide +kernel
theorem dX12_orders_67 : decode cX12_orders 67 = .ok (.iload_n 3, 1) := by decide +kernel
theorem dX12_orders_68 : decode cX12_orders 68 = .ok (.iaload, 1) := by decide +kernel
theorem dX12_orders_69 : decode cX12_orders 69 = .ok (.iload 4, 2) := by decide +kernel
theorem dX12_orders_71 : decode cX12_orders 71 = .ok (.if_icmp .ne 7, 3) := by decide +kernel
theorem dX12_orders_74 : decode cX12_orders 74 = .ok (.iconst 1, 1) := by decide +kernel
theorem dX12_orders_75 : decode cX12_orders 75 = .ok (.goto 4, 3) := by decide +kernel
theorem dX12_orders_78 : decode cX12_orders 78 = .ok (.iconst 0, 1) := by decide +kernel
theorem dX12_orders_79 : decode cX12_orders 79 = .ok (.iadd, 1) := by decide +kernel
theorem dX12_orders_80 : decode cX12_orders 80 = .ok (.istore 5, 2) := by decide +kernel
theorem dX12_orders_82 : decode cX12_orders 82 = .ok (.iinc 6 1, 3) := by decide +kernel
theorem dX12_orders_85 : decode cX12_orders 85 = .ok (.goto (-46), 3) := by decide +kernel
theorem dX12_orders_88 : decode cX12_orders 88 = .ok (.iload 5, 2) := by decide +kernel
theorem dX12_orders_90 : decode cX12_orders 90 = .ok (.ireturn, 1) := by decide +kernel
def f_X12_orders_24  (h : AH) : Option (Int32 × AH) :=
  some ((-1000000), h)
def f_X12_orders_79 (q39 : Nat → Int32 → Int32 → Int32 → Int32 → Int32 → Int32 → AH → Option (Int32 × AH)) (k0 : Nat) (x1 : Int32) (x2 : Int32) (x3 : Int32) (x4 : Int32) (x6 : Int32) (s0 : Int32) (s1 : Int32) (h : AH) : Option (Int32 × AH) :=
  nm ((s1 + s0)) fun x5_1 =>
  nm (x6 + 1) fun x6_3 =>
  q39 k0 x1 x2 x3 x4 x5_1 x6_3 h
def f_X12_orders_39 : Nat → Nat → Int32 → Int32 → Int32 → Int32 → Int32 → Int32 → AH → Option (Int32 × AH)
  | 0, _, _, _, _, _, _, _, _ => none
  | n + 1, k0, x1, x2, x3, x4, x5, x6, h =>
    if (h.1 k0 34) ≤ x6 then (
      some (x5, h)
    ) else (
      ob (f_X12_doorOf k0 x1 x2 h) fun r_4 h_3 =>
      ov (f_X12_goWay k0 x6 x2 r_4 h_3) fun h_6 =>
      og (ix x3 (an (rf k0 28))) <|
      if (h_6.1 (rf k0 28) x3.toNatClampNeg) = x4 then (
        f_X12_orders_79 (f_X12_orders_39 n) k0 x1 x2 x3 x4 x6 1 x5 h_6
      ) else (
        f_X12_orders_79 (f_X12_orders_39 n) k0 x1 x2 x3 x4 x6 0 x5 h_6
      )
    )
def f_X12_orders (k0 : Nat) (x1 : Int32) (x2 : Int32) (x3 : Int32) (x4 : Int32) (h : AH) : Option (Int32 × AH) :=
  nm (sI h k0 0 0) fun h_1 =>
  ob (f_X12_isGuest k0 x1 x2 x3 h_1) fun r_5 h_4 =>
  if r_5 = 0 then (
    f_X12_orders_24 h_4
  ) else (
    ob (f_X12_isPair k0 x4 h_4) fun r_9 h_8 =>
    if r_9 = 0 then (
      f_X12_orders_24 h_8
    ) else (
      ov (f_X12_allWays k0 x2 h_8) fun h_12 =>
      f_X12_orders_39 FU k0 x1 x2 x3 x4 0 0 h_12
    )
  )
set_option maxHeartbeats 4000000 in
set_option maxRecDepth 100000 in
theorem v_X12_orders_24 {E : EV} {d : Nat} (hd : 1461 ≤ d) {r0 : Int32} {h0 : AH}  {h : AH} (hf : f_X12_orders_24 h = some (r0, h0)) : V E (d + 1) K_X12_orders (ZI E r0 h0) h [] [] 24 := by
  unfold f_X12_orders_24 at hf
  refine V_ldcw (v := (-1000000)) rfl kc_X12_352 dX12_orders_24 ?_
  exact V_iret rfl (so_s hf) dX12_orders_27
set_option maxHeartbeats 4000000 in
set_option maxRecDepth 100000 in
theorem v_X12_orders_79 {E : EV} {d : Nat} (hd : 1461 ≤ d) {r0 : Int32} {h0 : AH} {q39 : Nat → Int32 → Int32 → Int32 → Int32 → Int32 → Int32 → AH → Option (Int32 × AH)} (cq39 : ∀ (k0 : Nat) (x1 : Int32) (x2 : Int32) (x3 : Int32) (x4 : Int32) (x5 : Int32) (x6 : Int32) (h : AH), q39 k0 x1 x2 x3 x4 x5 x6 h = some (r0, h0) → kd k0 = (0, 12) → V E (d + 1) K_X12_orders (ZI E r0 h0) h [(0, .ref k0), (1, .int x1), (2, .int x2), (3, .int x3), (4, .int x4), (5, .int x5), (6, .int x6)] [] 39) {k0 : Nat} {x1 : Int32} {x2 : Int32} {x3 : Int32} {x4 : Int32} {x6 : Int32} {s0 : Int32} {s1 : Int32} {h : AH} (hf : f_X12_orders_79 q39 k0 x1 x2 x3 x4 x6 s0 s1 h = some (r0, h0)) (t_k0 : kd k0 = (0, 12)) : V E (d + 1) K_X12_orders (ZI E r0 h0) h [(0, .ref k0), (1, .int x1), (2, .int x2), (3, .int x3), (4, .int x4), (6, .int x6)] [.int s0, .int s1] 79 := by
  unfold f_X12_orders_79 at hf
  refine V_iadd dX12_orders_79 ?_
  obtain ⟨x5_1, e_2, hf⟩ := nm_s hf
  refine V_istore (L' := [(5, .int x5_1), (0, .ref k0), (1, .int x1), (2, .int x2), (3, .int x3), (4, .int x4), (6, .int x6)]) dX12_orders_80 (Nat.le_of_ble_eq_true rfl) e_2 rfl ?_
  obtain ⟨x6_3, e_4, hf⟩ := nm_s hf
  refine V_iinc (a := 1) (L' := [(6, .int x6_3), (5, .int x5_1), (0, .ref k0), (1, .int x1), (2, .int x2), (3, .int x3), (4, .int x4)]) 6 dX12_orders_82 rfl (by decide) (Nat.le_of_ble_eq_true rfl) e_4 rfl ?_
  refine V_goto (tgt := 39) dX12_orders_85 (by decide) ?_
  refine V_sub [2, 3, 4, 5, 6, 1, 0] rfl ?_
  exact cq39 _ _ _ _ _ _ _ _ hf t_k0
set_option maxHeartbeats 4000000 in
set_option maxRecDepth 100000 in
theorem v_X12_orders_39 {E : EV} {d : Nat} (hd : 1461 ≤ d) {r0 : Int32} {h0 : AH} : ∀ (n : Nat) (k0 : Nat) (x1 : Int32) (x2 : Int32) (x3 : Int32) (x4 : Int32) (x5 : Int32) (x6 : Int32) (h : AH), f_X12_orders_39 n k0 x1 x2 x3 x4 x5 x6 h = some (r0, h0) → kd k0 = (0, 12) → V E (d + 1) K_X12_orders (ZI E r0 h0) h [(0, .ref k0), (1, .int x1), (2, .int x2), (3, .int x3), (4, .int x4), (5, .int x5), (6, .int x6)] [] 39 := by
  intro n
  induction n with
  | zero =>
    intro k0 x1 x2 x3 x4 x5 x6 h hf
    rw [f_X12_orders_39] at hf
    cases hf
  | succ n ih =>
    intro k0 x1 x2 x3 x4 x5 x6 h hf t_k0
    rw [f_X12_orders_39] at hf
    refine V_iload 6 dX12_orders_39 rfl ?_
    refine V_aload_n 0 dX12_orders_41 rfl rfl ?_
    refine V_getI F_X12_353 rfl t_k0 rfl dX12_orders_42 ?_
    refine V_ic_ge (tgt := 88) dX12_orders_45 (by decide) (fun c_1 => ?_) (fun c_1 => ?_)
    · have hf := it_s c_1 hf
      refine V_iload 5 dX12_orders_88 rfl ?_
      exact V_iret rfl (so_s hf) dX12_orders_90
    · have hf := if_s c_1 hf
      refine V_aload_n 0 dX12_orders_48 rfl rfl ?_
      refine V_iload 6 dX12_orders_49 rfl ?_
      refine V_iload_n 2 dX12_orders_51 rfl rfl ?_
      refine V_aload_n 0 dX12_orders_52 rfl rfl ?_
      refine V_iload_n 1 dX12_orders_53 rfl rfl ?_
      refine V_iload_n 2 dX12_orders_54 rfl rfl ?_
      obtain ⟨r_4, h_3, e_2, hf⟩ := ob_s hf
      refine V_cvi (As := [.int x1, .int x2]) (rest := [.int x2, .int x6, .ref k0]) (c_X12_doorOf (d := d) (Nat.le_trans (Nat.le_of_ble_eq_true rfl) hd) e_2 t_k0) ML_X12_335 MV_X12_doorOf rfl t_k0 rfl rfl (Nat.le_of_ble_eq_true rfl) dX12_orders_55 ?_
      obtain ⟨h_6, e_5, hf⟩ := ov_s hf
      refine V_cvv (As := [.int x6, .int x2, .int r_4]) (rest := []) (c_X12_goWay (d := d) (Nat.le_trans (Nat.le_of_ble_eq_true rfl) hd) e_5 t_k0) ML_X12_370 MV_X12_goWay rfl t_k0 rfl rfl (Nat.le_of_ble_eq_true rfl) dX12_orders_58 ?_
      refine V_iload 5 dX12_orders_61 rfl ?_
      refine V_aload_n 0 dX12_orders_63 rfl rfl ?_
      refine V_getR F_X12_63 rfl t_k0 rfl dX12_orders_64 ?_
      refine V_iload_n 3 dX12_orders_67 rfl rfl ?_
      obtain ⟨b_7, hf⟩ := og_s hf
      refine V_iald (rfA t_k0 (Nat.le_of_ble_eq_true rfl) rfl rfl (by decide)) b_7 dX12_orders_68 ?_
      refine V_iload 4 dX12_orders_69 rfl ?_
      refine V_ic_ne (tgt := 78) dX12_orders_71 (by decide) (fun c_8 => ?_) (fun c_8 => ?_)
      · have hf := if_s c_8 hf
        refine V_iconst (v := 0) dX12_orders_78 (by decide) ?_
        refine V_sub [0, 1, 2, 3, 4, 6] rfl ?_
        exact v_X12_orders_79 hd ih hf t_k0
      · have hf := it_s c_8 hf
        refine V_iconst (v := 1) dX12_orders_74 (by decide) ?_
        refine V_goto (tgt := 79) dX12_orders_75 (by decide) ?_
        refine V_sub [0, 1, 2, 3, 4, 6] rfl ?_
        exact v_X12_orders_79 hd ih hf t_k0
set_option maxHeartbeats 4000000 in
set_option maxRecDepth 100000 in
theorem c_X12_orders {E : EV} {d : Nat} (hd : 1461 + 1 ≤ d) {k0 : Nat} {x1 : Int32} {x2 : Int32} {x3 : Int32} {x4 : Int32} {h : AH} {r0 : Int32} {h0 : AH} (hf : f_X12_orders k0 x1 x2 x3 x4 h = some (r0, h0)) (t_k0 : kd k0 = (0, 12)) : Con E d K_X12_orders (ZI E r0 h0) [.ref k0, .int x1, .int x2, .int x3, .int x4] h := by
  obtain ⟨d, rfl⟩ : ∃ d', d = d' + 1 := ⟨d - 1, by omega⟩
  have hd := Nat.le_of_succ_le_succ hd
  refine Con.ofV rfl (Nat.le_of_ble_eq_true rfl) ?_
  unfold f_X12_orders at hf
  show V E (d + 1) K_X12_orders (ZI E r0 h0) h [(0, .ref k0), (1, .int x1), (2, .int x2), (3, .int x3), (4, .int x4)] [] 0
  refine V_aload_n 0 dX12_orders_0 rfl rfl ?_
  refine V_iconst (v := 0) dX12_orders_1 (by decide) ?_
  obtain ⟨h_1, e_2, hf⟩ := nm_s hf
  refine V_putI P_X12_120 rfl t_k0 rfl e_2 dX12_orders_2 ?_
  refine V_aload_n 0 dX12_orders_5 rfl rfl ?_
  refine V_iload_n 1 dX12_orders_6 rfl rfl ?_
  refine V_iload_n 2 dX12_orders_7 rfl rfl ?_
  refine V_iload_n 3 dX12_orders_8 rfl rfl ?_
  obtain ⟨r_5, h_4, e_3, hf⟩ := ob_s hf
  refine V_cvi (As := [.int x1, .int x2, .int x3]) (rest := []) (c_X12_isGuest (d := d) (Nat.le_trans (Nat.le_of_ble_eq_true rfl) hd) e_3 t_k0) ML_X12_360 MV_X12_isGuest rfl t_k0 rfl rfl (Nat.le_of_ble_eq_true rfl) dX12_orders_9 ?_
  refine V_if_eq (tgt := 24) dX12_orders_12 (by decide) (fun c_6 => ?_) (fun c_6 => ?_)
  · have hf := it_s c_6 hf
    refine V_sub [] rfl ?_
    exact v_X12_orders_24 hd hf
  · have hf := if_s c_6 hf
    refine V_aload_n 0 dX12_orders_15 rfl rfl ?_
    refine V_iload 4 dX12_orders_16 rfl ?_
    obtain ⟨r_9, h_8, e_7, hf⟩ := ob_s hf
    refine V_cvi (As := [.int x4]) (rest := []) (c_X12_isPair (d := d) (Nat.le_trans (Nat.le_of_ble_eq_true rfl) hd) e_7 t_k0) ML_X12_364 MV_X12_isPair rfl t_k0 rfl rfl (Nat.le_of_ble_eq_true rfl) dX12_orders_18 ?_
    refine V_if_ne (tgt := 28) dX12_orders_21 (by decide) (fun c_10 => ?_) (fun c_10 => ?_)
    · have hf := if_s c_10 hf
      refine V_aload_n 0 dX12_orders_28 rfl rfl ?_
      refine V_iload_n 2 dX12_orders_29 rfl rfl ?_
      obtain ⟨h_12, e_11, hf⟩ := ov_s hf
      refine V_cvv (As := [.int x2]) (rest := []) (c_X12_allWays (d := d) (Nat.le_trans (Nat.le_of_ble_eq_true rfl) hd) e_11 t_k0) ML_X12_367 MV_X12_allWays rfl t_k0 rfl rfl (Nat.le_of_ble_eq_true rfl) dX12_orders_30 ?_
      refine V_iconst (v := 0) dX12_orders_33 (by decide) ?_
      refine V_istore (L' := [(5, .int 0), (0, .ref k0), (1, .int x1), (2, .int x2), (3, .int x3), (4, .int x4)]) dX12_orders_34 (Nat.le_of_ble_eq_true rfl) rfl rfl ?_
      refine V_iconst (v := 0) dX12_orders_36 (by decide) ?_
      refine V_istore (L' := [(6, .int 0), (5, .int 0), (0, .ref k0), (1, .int x1), (2, .int x2), (3, .int x3), (4, .int x4)]) dX12_orders_37 (Nat.le_of_ble_eq_true rfl) rfl rfl ?_
      refine V_sub [2, 3, 4, 5, 6, 1, 0] rfl ?_
      exact v_X12_orders_39 hd FU _ _ _ _ _ _ _ _ hf t_k0
    · have hf := it_s c_10 hf
      refine V_sub [] rfl ?_
      exact v_X12_orders_24 hd hf
theorem dX12_pair_0 : decode cX12_pair 0 = .ok (.aload_n 0, 1) := by decide +kernel
theorem dX12_pair_1 : decode cX12_pair 1 = .ok (.iconst 0, 1) := by decide +kernel
theorem dX12_pair_2 : decode cX12_pair 2 = .ok (.putfield 120, 3) := by decide +kernel
theorem dX12_pair_5 : decode cX12_pair 5 = .ok (.aload_n 0, 1) := by decide +kernel
theorem dX12_pair_6 : decode cX12_pair 6 = .ok (.iload_n 1, 1) := by decide +kernel
theorem dX12_pair_7 : decode cX12_pair 7 = .ok (.invokevirtual 295, 3) := by decide +kernel
theorem dX12_pair_10 : decode cX12_pair 10 = .ok (.ifCond .eq 15, 3) := by decide +kernel
theorem dX12_pair_13 : decode cX12_pair 13 = .ok (.iload_n 2, 1) := by decide +kernel
theorem dX12_pair_14 : decode cX12_pair 14 = .ok (.i2l, 1) := by decide +kernel
theorem dX12_pair_15 : decode cX12_pair 15 = .ok (.lconst 0, 1) := by decide +kernel
theorem dX12_pair_16 : decode cX12_pair 16 = .ok (.ldc2_w 304, 3) := by decide +kernel
theorem dX12_pair_19 : decode cX12_pair 19 = .ok (.invokestatic 247, 3) := by decide +kernel
theorem dX12_pair_22 : decode cX12_pair 22 = .ok (.ifCond .ne 5, 3) := by decide +kernel
theorem dX12_pair_25 : decode cX12_pair 25 = .ok (.iconst (-1), 1) := by decide +kernel
theorem dX12_pair_26 : decode cX12_pair 26 = .ok (.ireturn, 1) := by decide +kernel
theorem dX12_pair_27 : decode cX12_pair 27 = .ok (.iload_n 2, 1) := by decide +kernel
theorem dX12_pair_28 : decode cX12_pair 28 = .ok (.ifCond .ne 12, 3) := by decide +kernel
theorem dX12_pair_31 : decode cX12_pair 31 = .ok (.aload_n 0, 1) := by decide +kernel
theorem dX12_pair_32 : decode cX12_pair 32 = .ok (.getfield 51, 3) := by decide +kernel
theorem dX12_pair_35 : decode cX12_pair 35 = .ok (.iload_n 1, 1) := by decide +kernel
theorem dX12_pair_36 : decode cX12_pair 36 = .ok (.iaload, 1) := by decide +kernel
theorem dX12_pair_37 : decode cX12_pair 37 = .ok (.goto 23, 3) := by decide +kernel
theorem dX12_pair_40 : decode cX12_pair 40 = .ok (.iload_n 2, 1) := by decide +kernel
theorem dX12_pair_41 : decode cX12_pair 41 = .ok (.iconst 1, 1) := by decide +kernel
theorem dX12_pair_42 : decode cX12_pair 42 = .ok (.if_icmp .ne 12, 3) := by decide +kernel
theorem dX12_pair_45 : decode cX12_pair 45 = .ok (.aload_n 0, 1) := by decide +kernel
theorem dX12_pair_46 : decode cX12_pair 46 = .ok (.getfield 54, 3) := by decide +kernel
theorem dX12_pair_49 : decode cX12_pair 49 = .ok (.iload_n 1, 1) := by decide +kernel
theorem dX12_pair_50 : decode cX12_pair 50 = .ok (.iaload, 1) := by decide +kernel
theorem dX12_pair_51 : decode cX12_pair 51 = .ok (.goto 9, 3) := by decide +kernel
theorem dX12_pair_54 : decode cX12_pair 54 = .ok (.aload_n 0, 1) := by decide +kernel
theorem dX12_pair_55 : decode cX12_pair 55 = .ok (.getfield 48, 3) := by decide +kernel
theorem dX12_pair_58 : decode cX12_pair 58 = .ok (.iload_n 1, 1) := by decide +kernel
theorem dX12_pair_59 : decode cX12_pair 59 = .ok (.iaload, 1) := by decide +kernel
theorem dX12_pair_60 : decode cX12_pair 60 = .ok (.ireturn, 1) := by decide +kernel
def f_X12_pair_25  (h : AH) : Option (Int32 × AH) :=
  some ((-1), h)
def f_X12_pair_60 (s0 : Int32) (h : AH) : Option (Int32 × AH) :=
  some (s0, h)
def f_X12_pair (k0 : Nat) (x1 : Int32) (x2 : Int32) (h : AH) : Option (Int32 × AH) :=
  nm (sI h k0 0 0) fun h_1 =>
  ob (f_X12_isPerson k0 x1 h_1) fun r_5 h_4 =>
  if r_5 = 0 then (
    f_X12_pair_25 h_4
  ) else (
    ob (f_X12_isIn ((x2).toInt64) 0 2 h_4) fun r_9 h_8 =>
    if r_9 = 0 then (
      f_X12_pair_25 h_8
    ) else (
      if x2 = 0 then (
        og (ix x1 (an (rf k0 24))) <|
        f_X12_pair_60 (h_8.1 (rf k0 24) x1.toNatClampNeg) h_8
      ) else (
        if x2 = 1 then (
          og (ix x1 (an (rf k0 25))) <|
          f_X12_pair_60 (h_8.1 (rf k0 25) x1.toNatClampNeg) h_8
        ) else (
          og (ix x1 (an (rf k0 23))) <|
          f_X12_pair_60 (h_8.1 (rf k0 23) x1.toNatClampNeg) h_8
        )
      )
    )
  )
set_option maxHeartbeats 4000000 in
set_option maxRecDepth 100000 in
theorem v_X12_pair_25 {E : EV} {d : Nat} (hd : 1 ≤ d) {r0 : Int32} {h0 : AH}  {h : AH} (hf : f_X12_pair_25 h = some (r0, h0)) : V E (d + 1) K_X12_pair (ZI E r0 h0) h [] [] 25 := by
  unfold f_X12_pair_25 at hf
  refine V_iconst (v := (-1)) dX12_pair_25 (by decide) ?_
  exact V_iret rfl (so_s hf) dX12_pair_26
set_option maxHeartbeats 4000000 in
set_option maxRecDepth 100000 in
theorem v_X12_pair_60 {E : EV} {d : Nat} (hd : 1 ≤ d) {r0 : Int32} {h0 : AH} {s0 : Int32} {h : AH} (hf : f_X12_pair_60 s0 h = some (r0, h0)) : V E (d + 1) K_X12_pair (ZI E r0 h0) h [] [.int s0] 60 := by
  unfold f_X12_pair_60 at hf
  exact V_iret rfl (so_s hf) dX12_pair_60
set_option maxHeartbeats 4000000 in
set_option maxRecDepth 100000 in
theorem c_X12_pair {E : EV} {d : Nat} (hd : 1 + 1 ≤ d) {k0 : Nat} {x1 : Int32} {x2 : Int32} {h : AH} {r0 : Int32} {h0 : AH} (hf : f_X12_pair k0 x1 x2 h = some (r0, h0)) (t_k0 : kd k0 = (0, 12)) : Con E d K_X12_pair (ZI E r0 h0) [.ref k0, .int x1, .int x2] h := by
  obtain ⟨d, rfl⟩ : ∃ d', d = d' + 1 := ⟨d - 1, by omega⟩
  have hd := Nat.le_of_succ_le_succ hd
  refine Con.ofV rfl (Nat.le_of_ble_eq_true rfl) ?_
  unfold f_X12_pair at hf
  show V E (d + 1) K_X12_pair (ZI E r0 h0) h [(0, .ref k0), (1, .int x1), (2, .int x2)] [] 0
  refine V_aload_n 0 dX12_pair_0 rfl rfl ?_
  refine V_iconst (v := 0) dX12_pair_1 (by decide) ?_
  obtain ⟨h_1, e_2, hf⟩ := nm_s hf
  refine V_putI P_X12_120 rfl t_k0 rfl e_2 dX12_pair_2 ?_
  refine V_aload_n 0 dX12_pair_5 rfl rfl ?_
  refine V_iload_n 1 dX12_pair_6 rfl rfl ?_
  obtain ⟨r_5, h_4, e_3, hf⟩ := ob_s hf
  refine V_cvi (As := [.int x1]) (rest := []) (c_X12_isPerson (d := d) (Nat.le_trans (Nat.le_of_ble_eq_true rfl) hd) e_3 t_k0) ML_X12_295 MV_X12_isPerson rfl t_k0 rfl rfl (Nat.le_of_ble_eq_true rfl) dX12_pair_7 ?_
  refine V_if_eq (tgt := 25) dX12_pair_10 (by decide) (fun c_6 => ?_) (fun c_6 => ?_)
  · have hf := it_s c_6 hf
    refine V_sub [] rfl ?_
    exact v_X12_pair_25 hd hf
  · have hf := if_s c_6 hf
    refine V_iload_n 2 dX12_pair_13 rfl rfl ?_
    refine V_i2l dX12_pair_14 ?_
    refine V_lconst (v := 0) dX12_pair_15 (by decide) ?_
    refine V_ldc2 (v := 2) rfl kl_X12_304 dX12_pair_16 ?_
    obtain ⟨r_9, h_8, e_7, hf⟩ := ob_s hf
    refine V_csi (As := [.long ((x2).toInt64), .long 0, .long 2]) (rest := []) (c_X12_isIn (d := d) (Nat.le_trans (Nat.le_of_ble_eq_true rfl) hd) e_7) ML_X12_247 MS_X12_isIn rfl rfl rfl (Nat.le_of_ble_eq_true rfl) dX12_pair_19 ?_
    refine V_if_ne (tgt := 27) dX12_pair_22 (by decide) (fun c_10 => ?_) (fun c_10 => ?_)
    · have hf := if_s c_10 hf
      refine V_iload_n 2 dX12_pair_27 rfl rfl ?_
      refine V_if_ne (tgt := 40) dX12_pair_28 (by decide) (fun c_11 => ?_) (fun c_11 => ?_)
      · have hf := if_s c_11 hf
        refine V_iload_n 2 dX12_pair_40 rfl rfl ?_
        refine V_iconst (v := 1) dX12_pair_41 (by decide) ?_
        refine V_ic_ne (tgt := 54) dX12_pair_42 (by decide) (fun c_12 => ?_) (fun c_12 => ?_)
        · have hf := if_s c_12 hf
          refine V_aload_n 0 dX12_pair_54 rfl rfl ?_
          refine V_getR F_X12_48 rfl t_k0 rfl dX12_pair_55 ?_
          refine V_iload_n 1 dX12_pair_58 rfl rfl ?_
          obtain ⟨b_13, hf⟩ := og_s hf
          refine V_iald (rfA t_k0 (Nat.le_of_ble_eq_true rfl) rfl rfl (by decide)) b_13 dX12_pair_59 ?_
          refine V_sub [] rfl ?_
          exact v_X12_pair_60 hd hf
        · have hf := it_s c_12 hf
          refine V_aload_n 0 dX12_pair_45 rfl rfl ?_
          refine V_getR F_X12_54 rfl t_k0 rfl dX12_pair_46 ?_
          refine V_iload_n 1 dX12_pair_49 rfl rfl ?_
          obtain ⟨b_14, hf⟩ := og_s hf
          refine V_iald (rfA t_k0 (Nat.le_of_ble_eq_true rfl) rfl rfl (by decide)) b_14 dX12_pair_50 ?_
          refine V_goto (tgt := 60) dX12_pair_51 (by decide) ?_
          refine V_sub [] rfl ?_
          exact v_X12_pair_60 hd hf
      · have hf := it_s c_11 hf
        refine V_aload_n 0 dX12_pair_31 rfl rfl ?_
        refine V_getR F_X12_51 rfl t_k0 rfl dX12_pair_32 ?_
        refine V_iload_n 1 dX12_pair_35 rfl rfl ?_
        obtain ⟨b_15, hf⟩ := og_s hf
        refine V_iald (rfA t_k0 (Nat.le_of_ble_eq_true rfl) rfl rfl (by decide)) b_15 dX12_pair_36 ?_
        refine V_goto (tgt := 60) dX12_pair_37 (by decide) ?_
        refine V_sub [] rfl ?_
        exact v_X12_pair_60 hd hf
    · have hf := it_s c_10 hf
      refine V_sub [] rfl ?_
      exact v_X12_pair_25 hd hf
theorem dX12_person_0 : decode cX12_person 0 = .ok (.aload_n 0, 1) := by decide +kernel
theorem dX12_person_1 : decode cX12_person 1 = .ok (.aload_n 0, 1) := by decide +kernel
theorem dX12_person_2 : decode cX12_person 2 = .ok (.iload_n 1, 1) := by decide +kernel
theorem dX12_person_3 : decode cX12_person 3 = .ok (.invokevirtual 295, 3) := by decide +kernel
theorem dX12_person_6 : decode cX12_person 6 = .ok (.ifCond .eq 19, 3) := by decide +kernel
theorem dX12_person_9 : decode cX12_person 9 = .ok (.iload_n 2, 1) := by decide +kernel
theorem dX12_person_10 : decode cX12_person 10 = .ok (.i2l, 1) := by decide +kernel
theorem dX12_person_11 : decode cX12_person 11 = .ok (.lconst 0, 1) := by decide +kernel
theorem dX12_person_12 : decode cX12_person 12 = .ok (.ldc2_w 298, 3) := by decide +kernel
theorem dX12_person_15 : decode cX12_person 15 = .ok (.invokestatic 247, 3) := by decide +kernel
theorem dX12_person_18 : decode cX12_person 18 = .ok (.ifCond .eq 7, 3) := by decide +kernel
theorem dX12_person_21 : decode cX12_person 21 = .ok (.iconst 0, 1) := by decide +kernel
theorem dX12_person_22 : decode cX12_person 22 = .ok (.goto 4, 3) := by decide +kernel
theorem dX12_person_25 : decode cX12_person 25 = .ok (.iconst 1, 1) := by decide +kernel
theorem dX12_person_26 : decode cX12_person 26 = .ok (.putfield 120, 3) := by decide +kernel
theorem dX12_person_29 : decode cX12_person 29 = .ok (.aload_n 0, 1) := by decide +kernel
theorem dX12_person_30 : decode cX12_person 30 = .ok (.getfield 120, 3) := by decide +kernel
theorem dX12_person_33 : decode cX12_person 33 = .ok (.ifCond .le 5, 3) := by decide +kernel
theorem dX12_person_36 : decode cX12_person 36 = .ok (.iconst 0, 1) := by decide +kernel
theorem dX12_person_37 : decode cX12_person 37 = .ok (.ireturn, 1) := by decide +kernel
theorem dX12_person_38 : decode cX12_person 38 = .ok (.iload_n 2, 1) := by decide +kernel
theorem dX12_person_39 : decode cX12_person 39 = .ok (.tableswitch 80 0 5 #[37, 44, 51, 58, 66, 73], 37) := by decide +kernel
theorem dX12_person_76 : decode cX12_person 76 = .ok (.aload_n 0, 1) := by decide +kernel
theorem dX12_person_77 : decode cX12_person 77 = .ok (.iload_n 1, 1) := by decide +kernel
theorem dX12_person_78 : decode cX12_person 78 = .ok (.iconst 0, 1) := by decide +kernel
theorem dX12_person_79 : decode cX12_person 79 = .ok (.invokevirtual 300, 3) := by decide +kernel
theorem dX12_person_82 : decode cX12_person 82 = .ok (.ireturn, 1) := by decide +kernel
theorem dX12_person_83 : decode cX12_person 83 = .ok (.aload_n 0, 1) := by decide +kernel
theorem dX12_person_84 : decode cX12_person 84 = .ok (.iload_n 1, 1) := by decide +kernel
theorem dX12_person_85 : decode cX12_person 85 = .ok (.iconst 1, 1) := by decide +kernel
theorem dX12_person_86 : decode cX12_person 86 = .ok (.invokevirtual 300, 3) := by decide +kernel
theorem dX12_person_89 : decode cX12_person 89 = .ok (.ireturn, 1) := by decide +kernel
theorem dX12_person_90 : decode cX12_person 90 = .ok (.aload_n 0, 1) := by decide +kernel
theorem dX12_person_91 : decode cX12_person 91 = .ok (.iload_n 1, 1) := by decide +kernel
theorem dX12_person_92 : decode cX12_person 92 = .ok (.iconst 5, 1) := by decide +kernel
theorem dX12_person_93 : decode cX12_person 93 = .ok (.invokevirtual 300, 3) := by decide +kernel
theorem dX12_person_96 : decode cX12_person 96 = .ok (.ireturn, 1) := by decide +kernel
theorem dX12_person_97 : decode cX12_person 97 = .ok (.aload_n 0, 1) := by decide +kernel
theorem dX12_person_98 : decode cX12_person 98 = .ok (.iload_n 1, 1) := by decide +kernel
theorem dX12_person_99 : decode cX12_person 99 = .ok (.bipush 6, 2) := by decide +kernel
theorem dX12_person_101 : decode cX12_person 101 = .ok (.invokevirtual 300, 3) := by decide +kernel
theorem dX12_person_104 : decode cX12_person 104 = .ok (.ireturn, 1) := by decide +kernel
theorem dX12_person_105 : decode cX12_person 105 = .ok (.aload_n 0, 1) := by decide +kernel
theorem dX12_person_106 : decode cX12_person 106 = .ok (.iload_n 1, 1) := by decide +kernel
theorem dX12_person_107 : decode cX12_person 107 = .ok (.iconst 4, 1) := by decide +kernel
theorem dX12_person_108 : decode cX12_person 108 = .ok (.invokevirtual 300, 3) := by decide +kernel
theorem dX12_person_111 : decode cX12_person 111 = .ok (.ireturn, 1) := by decide +kernel
theorem dX12_person_112 : decode cX12_person 112 = .ok (.aload_n 0, 1) := by decide +kernel
theorem dX12_person_113 : decode cX12_person 113 = .ok (.getfield 45, 3) := by decide +kernel
theorem dX12_person_116 : decode cX12_person 116 = .ok (.iload_n 1, 1) := by decide +kernel
theorem dX12_person_117 : decode cX12_person 117 = .ok (.iaload, 1) := by decide +kernel
theorem dX12_person_118 : decode cX12_person 118 = .ok (.ireturn, 1) := by decide +kernel
theorem dX12_person_119 : decode cX12_person 119 = .ok (.aload_n 0, 1) := by decide +kernel
theorem dX12_person_120 : decode cX12_person 120 = .ok (.getfield 57, 3) := by decide +kernel
theorem dX12_person_123 : decode cX12_person 123 = .ok (.iload_n 1, 1) := by decide +kernel
theorem dX12_person_124 : decode cX12_person 124 = .ok (.iaload, 1) := by decide +kernel
theorem dX12_person_125 : decode cX12_person 125 = .ok (.ireturn, 1) := by decide +kernel
def f_X12_person_26 (k0 : Nat) (x1 : Int32) (x2 : Int32) (s0 : Int32) (sk1 : Nat) (h : AH) : Option (Int32 × AH) :=
  nm (sI h sk1 0 s0) fun h_1 =>
  if (h_1.1 k0 0) ≤ 0 then (
    if x2 = 0 then (
      ob (f_X12_partOf k0 x1 0 h_1) fun r_7 h_6 =>
      some (r_7, h_6)
    ) else (
      if x2 = 1 then (
        ob (f_X12_partOf k0 x1 1 h_1) fun r_11 h_10 =>
        some (r_11, h_10)
      ) else (
        if x2 = 2 then (
          ob (f_X12_partOf k0 x1 5 h_1) fun r_15 h_14 =>
          some (r_15, h_14)
        ) else (
          if x2 = 3 then (
            ob (f_X12_partOf k0 x1 6 h_1) fun r_19 h_18 =>
            some (r_19, h_18)
          ) else (
            if x2 = 4 then (
              ob (f_X12_partOf k0 x1 4 h_1) fun r_23 h_22 =>
              some (r_23, h_22)
            ) else (
              if x2 = 5 then (
                og (ix x1 (an (rf k0 22))) <|
                some ((h_1.1 (rf k0 22) x1.toNatClampNeg), h_1)
              ) else (
                og (ix x1 (an (rf k0 26))) <|
                some ((h_1.1 (rf k0 26) x1.toNatClampNeg), h_1)
    ))))))
  ) else (
    some (0, h_1)
  )
def f_X12_person_25 (k0 : Nat) (x1 : Int32) (x2 : Int32) (sk0 : Nat) (h : AH) : Option (Int32 × AH) :=
  f_X12_person_26 k0 x1 x2 1 sk0 h
def f_X12_person (k0 : Nat) (x1 : Int32) (x2 : Int32) (h : AH) : Option (Int32 × AH) :=
  ob (f_X12_isPerson k0 x1 h) fun r_3 h_2 =>
  if r_3 = 0 then (
    f_X12_person_25 k0 x1 x2 k0 h_2
  ) else (
    ob (f_X12_isIn ((x2).toInt64) 0 6 h_2) fun r_7 h_6 =>
    if r_7 = 0 then (
      f_X12_person_25 k0 x1 x2 k0 h_6
    ) else (
      f_X12_person_26 k0 x1 x2 0 k0 h_6
    )
  )
set_option maxHeartbeats 4000000 in
set_option maxRecDepth 100000 in
theorem v_X12_person_26 {E : EV} {d : Nat} (hd : 1 ≤ d) {r0 : Int32} {h0 : AH} {k0 : Nat} {x1 : Int32} {x2 : Int32} {s0 : Int32} {sk1 : Nat} {h : AH} (hf : f_X12_person_26 k0 x1 x2 s0 sk1 h = some (r0, h0)) (t_k0 : kd k0 = (0, 12)) (t_sk1 : kd sk1 = (0, 12)) : V E (d + 1) K_X12_person (ZI E r0 h0) h [(0, .ref k0), (1, .int x1), (2, .int x2)] [.int s0, .ref sk1] 26 := by
  unfold f_X12_person_26 at hf
  obtain ⟨h_1, e_2, hf⟩ := nm_s hf
  refine V_putI P_X12_120 rfl t_sk1 rfl e_2 dX12_person_26 ?_
  refine V_aload_n 0 dX12_person_29 rfl rfl ?_
  refine V_getI F_X12_120 rfl t_k0 rfl dX12_person_30 ?_
  refine V_if_le (tgt := 38) dX12_person_33 (by decide) (fun c_3 => ?_) (fun c_3 => ?_)
  · have hf := it_s c_3 hf
    refine V_iload_n 2 dX12_person_38 rfl rfl ?_
    by_cases c_4 : x2 = 0
    · have hf := it_s c_4 hf
      refine V_tin (off := 37) (tgt := 76) dX12_person_39 c_4 (by decide) (by decide) (by decide) (by decide) ?_
      refine V_aload_n 0 dX12_person_76 rfl rfl ?_
      refine V_iload_n 1 dX12_person_77 rfl rfl ?_
      refine V_iconst (v := 0) dX12_person_78 (by decide) ?_
      obtain ⟨r_7, h_6, e_5, hf⟩ := ob_s hf
      refine V_cvi (As := [.int x1, .int 0]) (rest := []) (c_X12_partOf (d := d) (Nat.le_trans (Nat.le_of_ble_eq_true rfl) hd) e_5 t_k0) ML_X12_300 MV_X12_partOf rfl t_k0 rfl rfl (Nat.le_of_ble_eq_true rfl) dX12_person_79 ?_
      exact V_iret rfl (so_s hf) dX12_person_82
    · have hf := if_s c_4 hf
      by_cases c_8 : x2 = 1
      · have hf := it_s c_8 hf
        refine V_tin (off := 44) (tgt := 83) dX12_person_39 c_8 (by decide) (by decide) (by decide) (by decide) ?_
        refine V_aload_n 0 dX12_person_83 rfl rfl ?_
        refine V_iload_n 1 dX12_person_84 rfl rfl ?_
        refine V_iconst (v := 1) dX12_person_85 (by decide) ?_
        obtain ⟨r_11, h_10, e_9, hf⟩ := ob_s hf
        refine V_cvi (As := [.int x1, .int 1]) (rest := []) (c_X12_partOf (d := d) (Nat.le_trans (Nat.le_of_ble_eq_true rfl) hd) e_9 t_k0) ML_X12_300 MV_X12_partOf rfl t_k0 rfl rfl (Nat.le_of_ble_eq_true rfl) dX12_person_86 ?_
        exact V_iret rfl (so_s hf) dX12_person_89
      · have hf := if_s c_8 hf
        by_cases c_12 : x2 = 2
        · have hf := it_s c_12 hf
          refine V_tin (off := 51) (tgt := 90) dX12_person_39 c_12 (by decide) (by decide) (by decide) (by decide) ?_
          refine V_aload_n 0 dX12_person_90 rfl rfl ?_
          refine V_iload_n 1 dX12_person_91 rfl rfl ?_
          refine V_iconst (v := 5) dX12_person_92 (by decide) ?_
          obtain ⟨r_15, h_14, e_13, hf⟩ := ob_s hf
          refine V_cvi (As := [.int x1, .int 5]) (rest := []) (c_X12_partOf (d := d) (Nat.le_trans (Nat.le_of_ble_eq_true rfl) hd) e_13 t_k0) ML_X12_300 MV_X12_partOf rfl t_k0 rfl rfl (Nat.le_of_ble_eq_true rfl) dX12_person_93 ?_
          exact V_iret rfl (so_s hf) dX12_person_96
        · have hf := if_s c_12 hf
          by_cases c_16 : x2 = 3
          · have hf := it_s c_16 hf
            refine V_tin (off := 58) (tgt := 97) dX12_person_39 c_16 (by decide) (by decide) (by decide) (by decide) ?_
            refine V_aload_n 0 dX12_person_97 rfl rfl ?_
            refine V_iload_n 1 dX12_person_98 rfl rfl ?_
            refine V_bipush (v := 6) dX12_person_99 (by decide) ?_
            obtain ⟨r_19, h_18, e_17, hf⟩ := ob_s hf
            refine V_cvi (As := [.int x1, .int 6]) (rest := []) (c_X12_partOf (d := d) (Nat.le_trans (Nat.le_of_ble_eq_true rfl) hd) e_17 t_k0) ML_X12_300 MV_X12_partOf rfl t_k0 rfl rfl (Nat.le_of_ble_eq_true rfl) dX12_person_101 ?_
            exact V_iret rfl (so_s hf) dX12_person_104
          · have hf := if_s c_16 hf
            by_cases c_20 : x2 = 4
            · have hf := it_s c_20 hf
              refine V_tin (off := 66) (tgt := 105) dX12_person_39 c_20 (by decide) (by decide) (by decide) (by decide) ?_
              refine V_aload_n 0 dX12_person_105 rfl rfl ?_
              refine V_iload_n 1 dX12_person_106 rfl rfl ?_
              refine V_iconst (v := 4) dX12_person_107 (by decide) ?_
              obtain ⟨r_23, h_22, e_21, hf⟩ := ob_s hf
              refine V_cvi (As := [.int x1, .int 4]) (rest := []) (c_X12_partOf (d := d) (Nat.le_trans (Nat.le_of_ble_eq_true rfl) hd) e_21 t_k0) ML_X12_300 MV_X12_partOf rfl t_k0 rfl rfl (Nat.le_of_ble_eq_true rfl) dX12_person_108 ?_
              exact V_iret rfl (so_s hf) dX12_person_111
            · have hf := if_s c_20 hf
              by_cases c_24 : x2 = 5
              · have hf := it_s c_24 hf
                refine V_tin (off := 73) (tgt := 112) dX12_person_39 c_24 (by decide) (by decide) (by decide) (by decide) ?_
                refine V_aload_n 0 dX12_person_112 rfl rfl ?_
                refine V_getR F_X12_45 rfl t_k0 rfl dX12_person_113 ?_
                refine V_iload_n 1 dX12_person_116 rfl rfl ?_
                obtain ⟨b_25, hf⟩ := og_s hf
                refine V_iald (rfA t_k0 (Nat.le_of_ble_eq_true rfl) rfl rfl (by decide)) b_25 dX12_person_117 ?_
                exact V_iret rfl (so_s hf) dX12_person_118
              · have hf := if_s c_24 hf
                have z0 := ne_ti (i := 0) c_4 (by decide)
                have z1 := ne_ti (i := 1) c_8 (by decide)
                have z2 := ne_ti (i := 2) c_12 (by decide)
                have z3 := ne_ti (i := 3) c_16 (by decide)
                have z4 := ne_ti (i := 4) c_20 (by decide)
                have z5 := ne_ti (i := 5) c_24 (by decide)
                refine V_tout (tgt := 119) dX12_person_39 (by omega) (by decide) ?_
                refine V_aload_n 0 dX12_person_119 rfl rfl ?_
                refine V_getR F_X12_57 rfl t_k0 rfl dX12_person_120 ?_
                refine V_iload_n 1 dX12_person_123 rfl rfl ?_
                obtain ⟨b_26, hf⟩ := og_s hf
                refine V_iald (rfA t_k0 (Nat.le_of_ble_eq_true rfl) rfl rfl (by decide)) b_26 dX12_person_124 ?_
                exact V_iret rfl (so_s hf) dX12_person_125
  · have hf := if_s c_3 hf
    refine V_iconst (v := 0) dX12_person_36 (by decide) ?_
    exact V_iret rfl (so_s hf) dX12_person_37
set_option maxHeartbeats 4000000 in
set_option maxRecDepth 100000 in
theorem v_X12_person_25 {E : EV} {d : Nat} (hd : 1 ≤ d) {r0 : Int32} {h0 : AH} {k0 : Nat} {x1 : Int32} {x2 : Int32} {sk0 : Nat} {h : AH} (hf : f_X12_person_25 k0 x1 x2 sk0 h = some (r0, h0)) (t_k0 : kd k0 = (0, 12)) (t_sk0 : kd sk0 = (0, 12)) : V E (d + 1) K_X12_person (ZI E r0 h0) h [(0, .ref k0), (1, .int x1), (2, .int x2)] [.ref sk0] 25 := by
  unfold f_X12_person_25 at hf
  refine V_iconst (v := 1) dX12_person_25 (by decide) ?_
  exact v_X12_person_26 hd hf t_k0 t_sk0
set_option maxHeartbeats 4000000 in
set_option maxRecDepth 100000 in
theorem c_X12_person {E : EV} {d : Nat} (hd : 1 + 1 ≤ d) {k0 : Nat} {x1 : Int32} {x2 : Int32} {h : AH} {r0 : Int32} {h0 : AH} (hf : f_X12_person k0 x1 x2 h = some (r0, h0)) (t_k0 : kd k0 = (0, 12)) : Con E d K_X12_person (ZI E r0 h0) [.ref k0, .int x1, .int x2] h := by
  obtain ⟨d, rfl⟩ : ∃ d', d = d' + 1 := ⟨d - 1, by omega⟩
  have hd := Nat.le_of_succ_le_succ hd
  refine Con.ofV rfl (Nat.le_of_ble_eq_true rfl) ?_
  unfold f_X12_person at hf
  show V E (d + 1) K_X12_person (ZI E r0 h0) h [(0, .ref k0), (1, .int x1), (2, .int x2)] [] 0
  refine V_aload_n 0 dX12_person_0 rfl rfl ?_
  refine V_aload_n 0 dX12_person_1 rfl rfl ?_
  refine V_iload_n 1 dX12_person_2 rfl rfl ?_
  obtain ⟨r_3, h_2, e_1, hf⟩ := ob_s hf
  refine V_cvi (As := [.int x1]) (rest := [.ref k0]) (c_X12_isPerson (d := d) (Nat.le_trans (Nat.le_of_ble_eq_true rfl) hd) e_1 t_k0) ML_X12_295 MV_X12_isPerson rfl t_k0 rfl rfl (Nat.le_of_ble_eq_true rfl) dX12_person_3 ?_
  refine V_if_eq (tgt := 25) dX12_person_6 (by decide) (fun c_4 => ?_) (fun c_4 => ?_)
  · have hf := it_s c_4 hf
    exact v_X12_person_25 hd hf t_k0 t_k0
  · have hf := if_s c_4 hf
    refine V_iload_n 2 dX12_person_9 rfl rfl ?_
    refine V_i2l dX12_person_10 ?_
    refine V_lconst (v := 0) dX12_person_11 (by decide) ?_
    refine V_ldc2 (v := 6) rfl kl_X12_298 dX12_person_12 ?_
    obtain ⟨r_7, h_6, e_5, hf⟩ := ob_s hf
    refine V_csi (As := [.long ((x2).toInt64), .long 0, .long 6]) (rest := [.ref k0]) (c_X12_isIn (d := d) (Nat.le_trans (Nat.le_of_ble_eq_true rfl) hd) e_5) ML_X12_247 MS_X12_isIn rfl rfl rfl (Nat.le_of_ble_eq_true rfl) dX12_person_15 ?_
    refine V_if_eq (tgt := 25) dX12_person_18 (by decide) (fun c_8 => ?_) (fun c_8 => ?_)
    · have hf := it_s c_8 hf
      exact v_X12_person_25 hd hf t_k0 t_k0
    · have hf := if_s c_8 hf
      refine V_iconst (v := 0) dX12_person_21 (by decide) ?_
      refine V_goto (tgt := 26) dX12_person_22 (by decide) ?_
      exact v_X12_person_26 hd hf t_k0 t_k0
theorem dX12_quiet_0 : decode cX12_quiet 0 = .ok (.aload_n 0, 1) := by decide +kernel
theorem dX12_quiet_1 : decode cX12_quiet 1 = .ok (.iconst 0, 1) := by decide +kernel
theorem dX12_quiet_2 : decode cX12_quiet 2 = .ok (.putfield 120, 3) := by decide +kernel
theorem dX12_quiet_5 : decode cX12_quiet 5 = .ok (.aload_n 0, 1) := by decide +kernel
theorem dX12_quiet_6 : decode cX12_quiet 6 = .ok (.getfield 283, 3) := by decide +kernel
theorem dX12_quiet_9 : decode cX12_quiet 9 = .ok (.ifCond .eq 16, 3) := by decide +kernel
theorem dX12_quiet_12 : decode cX12_quiet 12 = .ok (.aload_n 0, 1) := by decide +kernel
theorem dX12_quiet_13 : decode cX12_quiet 13 = .ok (.iload_n 1, 1) := by decide +kernel
theorem dX12_quiet_14 : decode cX12_quiet 14 = .ok (.invokevirtual 332, 3) := by decide +kernel
theorem dX12_quiet_17 : decode cX12_quiet 17 = .ok (.ifCond .eq 8, 3) := by decide +kernel
theorem dX12_quiet_20 : decode cX12_quiet 20 = .ok (.iload_n 2, 1) := by decide +kernel
theorem dX12_quiet_21 : decode cX12_quiet 21 = .ok (.iconst (-1), 1) := by decide +kernel
theorem dX12_quiet_22 : decode cX12_quiet 22 = .ok (.if_icmp .ge 5, 3) := by decide +kernel
theorem dX12_quiet_25 : decode cX12_quiet 25 = .ok (.iconst (-1), 1) := by decide +kernel
theorem dX12_quiet_26 : decode cX12_quiet 26 = .ok (.ireturn, 1) := by decide +kernel
theorem dX12_quiet_27 : decode cX12_quiet 27 = .ok (.iconst 0, 1) := by decide +kernel
theorem dX12_quiet_28 : decode cX12_quiet 28 = .ok (.istore_n 3, 1) := by decide +kernel
theorem dX12_quiet_29 : decode cX12_quiet 29 = .ok (.iconst 0, 1) := by decide +kernel
theorem dX12_quiet_30 : decode cX12_quiet 30 = .ok (.istore 4, 2) := by decide +kernel
theorem dX12_quiet_32 : decode cX12_quiet 32 = .ok (.iload 4, 2) := by decide +kernel
theorem dX12_quiet_34 : decode cX12_quiet 34 = .ok (.iconst 1, 1) := by decide +kernel
theorem dX12_quiet_35 : decode cX12_quiet 35 = .ok (.aload_n 0, 1) := by decide +kernel
theorem dX12_quiet_36 : decode cX12_quiet 36 = .ok (.getfield 283, 3) := by decide +kernel
theorem dX12_quiet_39 : decode cX12_quiet 39 = .ok (.ishl, 1) := by decide +kernel
theorem dX12_quiet_40 : decode cX12_quiet 40 = .ok (.if_icmp .ge 108, 3) := by decide +kernel
theorem dX12_quiet_43 : decode cX12_quiet 43 = .ok (.iload 4, 2) := by decide +kernel
theorem dX12_quiet_45 : decode cX12_quiet 45 = .ok (.iload_n 1, 1) := by decide +kernel
theorem dX12_quiet_46 : decode cX12_quiet 46 = .ok (.iconst (-1), 1) := by decide +kernel
theorem dX12_quiet_47 : decode cX12_quiet 47 = .ok (.ixor, 1) := by decide +kernel
theorem dX12_quiet_48 : decode cX12_quiet 48 = .ok (.iand, 1) := by decide +kernel
theorem dX12_quiet_49 : decode cX12_quiet 49 = .ok (.ifCond .eq 6, 3) := by decide +kernel
theorem dX12_quiet_52 : decode cX12_quiet 52 = .ok (.goto 90, 3) := by decide +kernel
theorem dX12_quiet_55 : decode cX12_quiet 55 = .ok (.iconst 1, 1) := by decide +kernel
theorem dX12_quiet_56 : decode cX12_quiet 56 = .ok (.istore 5, 2) := by decide +kernel
theorem dX12_quiet_58 : decode cX12_quiet 58 = .ok (.iconst 0, 1) := by decide +kernel
theorem dX12_quiet_59 : decode cX12_quiet 59 = .ok (.istore 6, 2) := by decide +kernel
theorem dX12_quiet_61 : decode cX12_quiet 61 = .ok (.iload 6, 2) := by decide +kernel
theorem dX12_quiet_63 : decode cX12_quiet 63 = .ok (.aload_n 0, 1) := by decide +kernel
theorem dX12_quiet_64 : decode cX12_quiet 64 = .ok (.getfield 283, 3) := by decide +kernel
theorem dX12_quiet_67 : decode cX12_quiet 67 = .ok (.if_icmp .ge 56, 3) := by decide +kernel
theorem dX12_quiet_70 : decode cX12_quiet 70 = .ok (.iload 5, 2) := by decide +kernel
theorem dX12_quiet_72 : decode cX12_quiet 72 = .ok (.ifCond .eq 42, 3) := by decide +kernel
theorem dX12_quiet_75 : decode cX12_quiet 75 = .ok (.iload_n 1, 1) := by decide +kernel
theorem dX12_quiet_76 : decode cX12_quiet 76 = .ok (.iload 6, 2) := by decide +kernel
theorem dX12_quiet_78 : decode cX12_quiet 78 = .ok (.invokestatic 258, 3) := by decide +kernel
theorem dX12_quiet_81 : decode cX12_quiet 81 = .ok (.ifCond .eq 29, 3) := by decide +kernel
theorem dX12_quiet_84 : decode cX12_quiet 84 = .ok (.aload_n 0, 1) := by decide +kernel
theorem dX12_quiet_85 : decode cX12_quiet 85 = .ok (.iload 6, 2) := by decide +kernel
theorem dX12_quiet_87 : decode cX12_quiet 87 = .ok (.iload_n 1, 1) := by decide +kernel
theorem dX12_quiet_88 : decode cX12_quiet 88 = .ok (.iload 4, 2) := by decide +kernel
theorem dX12_quiet_90 : decode cX12_quiet 90 = .ok (.iconst 1, 1) := by decide +kernel
theorem dX12_quiet_91 : decode cX12_quiet 91 = .ok (.iload 6, 2) := by decide +kernel
theorem dX12_quiet_93 : decode cX12_quiet 93 = .ok (.ishl, 1) := by decide +kernel
theorem dX12_quiet_94 : decode cX12_quiet 94 = .ok (.ixor, 1) := by decide +kernel
theorem dX12_quiet_95 : decode cX12_quiet 95 = .ok (.invokevirtual 394, 3) := by decide +kernel
theorem dX12_quiet_98 : decode cX12_quiet 98 = .ok (.aload_n 0, 1) := by decide +kernel
theorem dX12_quiet_99 : decode cX12_quiet 99 = .ok (.iload 6, 2) := by decide +kernel
theorem dX12_quiet_101 : decode cX12_quiet 101 = .ok (.iload_n 1, 1) := by decide +kernel
theorem dX12_quiet_102 : decode cX12_quiet 102 = .ok (.iload 4, 2) := by decide +kernel
theorem dX12_quiet_104 : decode cX12_quiet 104 = .ok (.invokevirtual 394, 3) := by decide +kernel
theorem dX12_quiet_107 : decode cX12_quiet 107 = .ok (.if_icmp .gt 7, 3) := by decide +kernel
theorem dX12_quiet_110 : decode cX12_quiet 110 = .ok (.iconst 1, 1) := by decide +kernel
theorem dX12_quiet_111 : decode cX12_quiet 111 = .ok (.goto 4, 3) := by decide +kernel
theorem dX12_quiet_114 : decode cX12_quiet 114 = .ok (.iconst 0, 1) := by decide +kernel
theorem dX12_quiet_115 : decode cX12_quiet 115 = .ok (.istore 5, 2) := by decide +kernel
theorem dX12_quiet_117 : decode cX12_quiet 117 = .ok (.iinc 6 1, 3) := by decide +kernel
theorem dX12_quiet_120 : decode cX12_quiet 120 = .ok (.goto (-59), 3) := by decide +kernel
theorem dX12_quiet_123 : decode cX12_quiet 123 = .ok (.iload 5, 2) := by decide +kernel
theorem dX12_quiet_125 : decode cX12_quiet 125 = .ok (.ifCond .ne 6, 3) := by decide +kernel
theorem dX12_quiet_128 : decode cX12_quiet 128 = .ok (.goto 14, 3) := by decide +kernel
theorem dX12_quiet_131 : decode cX12_quiet 131 = .ok (.iload_n 3, 1) := by decide +kernel
theorem dX12_quiet_132 : decode cX12_quiet 132 = .ok (.iload_n 2, 1) := by decide +kernel
theorem dX12_quiet_133 : decode cX12_quiet 133 = .ok (.if_icmp .ne 6, 3) := by decide +kernel
theorem dX12_quiet_136 : decode cX12_quiet 136 = .ok (.iload 4, 2) := by decide +kernel
theorem dX12_quiet_138 : decode cX12_quiet 138 = .ok (.ireturn, 1) := by decide +kernel
theorem dX12_quiet_139 : decode cX12_quiet 139 = .ok (.iinc 3 1, 3) := by decide +kernel
theorem dX12_quiet_142 : decode cX12_quiet 142 = .ok (.iinc 4 1, 3) := by decide +kernel
theorem dX12_quiet_145 : decode cX12_quiet 145 = .ok (.goto (-113), 3) := by decide +kernel
theorem dX12_quiet_148 : decode cX12_quiet 148 = .ok (.iload_n 2, 1) := by decide +kernel
theorem dX12_quiet_149 : decode cX12_quiet 149 = .ok (.iconst (-1), 1) := by decide +kernel
theorem dX12_quiet_150 : decode cX12_quiet 150 = .ok (.if_icmp .ne 7, 3) := by decide +kernel
theorem dX12_quiet_153 : decode cX12_quiet 153 = .ok (.iload_n 3, 1) := by decide +kernel
theorem dX12_quiet_154 : decode cX12_quiet 154 = .ok (.goto 4, 3) := by decide +kernel
theorem dX12_quiet_157 : decode cX12_quiet 157 = .ok (.iconst (-1), 1) := by decide +kernel
theorem dX12_quiet_158 : decode cX12_quiet 158 = .ok (.ireturn, 1) := by decide +kernel
theorem ML_X12_394 : MLk RX12 394 yX12_hasComing := Or.inl ml_X12_394
theorem MV_X12_hasComing : MVk K_X12_hasComing 3 12 := ⟨⟨cd_X12_hasComing, in_X12, ⟨by decide, by decide, by decide +kernel⟩, by decide⟩, im_X12_hasComing, se_X12_hasComing, _, _, rfl⟩
def f_X12_quiet_25  (h : AH) : Option (Int32 × AH) :=
  some ((-1), h)
def f_X12_quiet_142 (q32 : Nat → Int32 → Int32 → Int32 → Int32 → AH → Option (Int32 × AH)) (k0 : Nat) (x1 : Int32) (x2 : Int32) (x3 : Int32) (x4 : Int32) (h : AH) : Option (Int32 × AH) :=
  nm (x4 + 1) fun x4_1 =>
  q32 k0 x1 x2 x3 x4_1 h
def f_X12_quiet_115 (q61 : Nat → Int32 → Int32 → Int32 → Int32 → Int32 → Int32 → AH → Option (Int32 × AH)) (k0 : Nat) (x1 : Int32) (x2 : Int32) (x3 : Int32) (x4 : Int32) (x6 : Int32) (s0 : Int32) (h : AH) : Option (Int32 × AH) :=
  nm (x6 + 1) fun x6_1 =>
  q61 k0 x1 x2 x3 x4 s0 x6_1 h
def f_X12_quiet_110 (q61 : Nat → Int32 → Int32 → Int32 → Int32 → Int32 → Int32 → AH → Option (Int32 × AH)) (k0 : Nat) (x1 : Int32) (x2 : Int32) (x3 : Int32) (x4 : Int32) (x6 : Int32) (h : AH) : Option (Int32 × AH) :=
  f_X12_quiet_115 q61 k0 x1 x2 x3 x4 x6 1 h
def f_X12_quiet_114 (q61 : Nat → Int32 → Int32 → Int32 → Int32 → Int32 → Int32 → AH → Option (Int32 × AH)) (k0 : Nat) (x1 : Int32) (x2 : Int32) (x3 : Int32) (x4 : Int32) (x6 : Int32) (h : AH) : Option (Int32 × AH) :=
  f_X12_quiet_115 q61 k0 x1 x2 x3 x4 x6 0 h
def f_X12_quiet_61 (q32 : Nat → Int32 → Int32 → Int32 → Int32 → AH → Option (Int32 × AH)) : Nat → Nat → Int32 → Int32 → Int32 → Int32 → Int32 → Int32 → AH → Option (Int32 × AH)
  | 0, _, _, _, _, _, _, _, _ => none
  | n + 1, k0, x1, x2, x3, x4, x5, x6, h =>
    if (h.1 k0 20) ≤ x6 then (
      if x5 = 0 then (
        f_X12_quiet_142 q32 k0 x1 x2 x3 x4 h
      ) else (
        if x3 = x2 then (
          some (x4, h)
        ) else (
          nm (x3 + 1) fun x3_4 =>
          f_X12_quiet_142 q32 k0 x1 x2 x3_4 x4 h
        )
      )
    ) else (
      if x5 = 0 then (
        f_X12_quiet_114 (f_X12_quiet_61 q32 n) k0 x1 x2 x3 x4 x6 h
      ) else (
        ob (f_X12_has x1 x6 h) fun r_9 h_8 =>
        if r_9 = 0 then (
          f_X12_quiet_110 (f_X12_quiet_61 q32 n) k0 x1 x2 x3 x4 x6 h_8
        ) else (
          ob (f_X12_hasComing k0 x6 x1 (x4 ^^^ ((1 : Int32) <<< (x6 &&& 31))) h_8) fun r_13 h_12 =>
          ob (f_X12_hasComing k0 x6 x1 x4 h_12) fun r_16 h_15 =>
          if r_16 < r_13 then (
            f_X12_quiet_114 (f_X12_quiet_61 q32 n) k0 x1 x2 x3 x4 x6 h_15
          ) else (
            f_X12_quiet_110 (f_X12_quiet_61 q32 n) k0 x1 x2 x3 x4 x6 h_15
          )
        )
      )
    )
def f_X12_quiet_158 (s0 : Int32) (h : AH) : Option (Int32 × AH) :=
  some (s0, h)
def f_X12_quiet_32 : Nat → Nat → Int32 → Int32 → Int32 → Int32 → AH → Option (Int32 × AH)
  | 0, _, _, _, _, _, _ => none
  | n + 1, k0, x1, x2, x3, x4, h =>
    if ((1 : Int32) <<< ((h.1 k0 20) &&& 31)) ≤ x4 then (
      if x2 = (-1) then (
        f_X12_quiet_158 x3 h
      ) else (
        f_X12_quiet_158 (-1) h
      )
    ) else (
      if (x4 &&& (x1 ^^^ (-1))) = 0 then (
        f_X12_quiet_61 (f_X12_quiet_32 n) FU k0 x1 x2 x3 x4 1 0 h
      ) else (
        f_X12_quiet_142 (f_X12_quiet_32 n) k0 x1 x2 x3 x4 h
      )
    )
def f_X12_quiet (k0 : Nat) (x1 : Int32) (x2 : Int32) (h : AH) : Option (Int32 × AH) :=
  nm (sI h k0 0 0) fun h_1 =>
  if (h_1.1 k0 20) = 0 then (
    f_X12_quiet_25 h_1
  ) else (
    ob (f_X12_areGuests k0 x1 h_1) fun r_6 h_5 =>
    if r_6 = 0 then (
      f_X12_quiet_25 h_5
    ) else (
      if (-1) ≤ x2 then (
        f_X12_quiet_32 FU k0 x1 x2 0 0 h_5
      ) else (
        f_X12_quiet_25 h_5
      )
    )
  )
set_option maxHeartbeats 4000000 in
set_option maxRecDepth 100000 in
theorem v_X12_quiet_25 {E : EV} {d : Nat} (hd : 1461 ≤ d) {r0 : Int32} {h0 : AH}  {h : AH} (hf : f_X12_quiet_25 h = some (r0, h0)) : V E (d + 1) K_X12_quiet (ZI E r0 h0) h [] [] 25 := by
  unfold f_X12_quiet_25 at hf
  refine V_iconst (v := (-1)) dX12_quiet_25 (by decide) ?_
  exact V_iret rfl (so_s hf) dX12_quiet_26
set_option maxHeartbeats 4000000 in
set_option maxRecDepth 100000 in
theorem v_X12_quiet_142 {E : EV} {d : Nat} (hd : 1461 ≤ d) {r0 : Int32} {h0 : AH} {q32 : Nat → Int32 → Int32 → Int32 → Int32 → AH → Option (Int32 × AH)} (cq32 : ∀ (k0 : Nat) (x1 : Int32) (x2 : Int32) (x3 : Int32) (x4 : Int32) (h : AH), q32 k0 x1 x2 x3 x4 h = some (r0, h0) → kd k0 = (0, 12) → V E (d + 1) K_X12_quiet (ZI E r0 h0) h [(0, .ref k0), (1, .int x1), (2, .int x2), (3, .int x3), (4, .int x4)] [] 32) {k0 : Nat} {x1 : Int32} {x2 : Int32} {x3 : Int32} {x4 : Int32} {h : AH} (hf : f_X12_quiet_142 q32 k0 x1 x2 x3 x4 h = some (r0, h0)) (t_k0 : kd k0 = (0, 12)) : V E (d + 1) K_X12_quiet (ZI E r0 h0) h [(0, .ref k0), (1, .int x1), (2, .int x2), (3, .int x3), (4, .int x4)] [] 142 := by
  unfold f_X12_quiet_142 at hf
  obtain ⟨x4_1, e_2, hf⟩ := nm_s hf
  refine V_iinc (a := 1) (L' := [(4, .int x4_1), (0, .ref k0), (1, .int x1), (2, .int x2), (3, .int x3)]) 4 dX12_quiet_142 rfl (by decide) (Nat.le_of_ble_eq_true rfl) e_2 rfl ?_
  refine V_goto (tgt := 32) dX12_quiet_145 (by decide) ?_
  refine V_sub [1, 2, 3, 4, 0] rfl ?_
  exact cq32 _ _ _ _ _ _ hf t_k0
set_option maxHeartbeats 4000000 in
set_option maxRecDepth 100000 in
theorem v_X12_quiet_115 {E : EV} {d : Nat} (hd : 1461 ≤ d) {r0 : Int32} {h0 : AH} {q61 : Nat → Int32 → Int32 → Int32 → Int32 → Int32 → Int32 → AH → Option (Int32 × AH)} (cq61 : ∀ (k0 : Nat) (x1 : Int32) (x2 : Int32) (x3 : Int32) (x4 : Int32) (x5 : Int32) (x6 : Int32) (h : AH), q61 k0 x1 x2 x3 x4 x5 x6 h = some (r0, h0) → kd k0 = (0, 12) → V E (d + 1) K_X12_quiet (ZI E r0 h0) h [(0, .ref k0), (1, .int x1), (2, .int x2), (3, .int x3), (4, .int x4), (5, .int x5), (6, .int x6)] [] 61) {k0 : Nat} {x1 : Int32} {x2 : Int32} {x3 : Int32} {x4 : Int32} {x6 : Int32} {s0 : Int32} {h : AH} (hf : f_X12_quiet_115 q61 k0 x1 x2 x3 x4 x6 s0 h = some (r0, h0)) (t_k0 : kd k0 = (0, 12)) : V E (d + 1) K_X12_quiet (ZI E r0 h0) h [(0, .ref k0), (1, .int x1), (2, .int x2), (3, .int x3), (4, .int x4), (6, .int x6)] [.int s0] 115 := by
  unfold f_X12_quiet_115 at hf
  refine V_istore (L' := [(5, .int s0), (0, .ref k0), (1, .int x1), (2, .int x2), (3, .int x3), (4, .int x4), (6, .int x6)]) dX12_quiet_115 (Nat.le_of_ble_eq_true rfl) rfl rfl ?_
  obtain ⟨x6_1, e_2, hf⟩ := nm_s hf
  refine V_iinc (a := 1) (L' := [(6, .int x6_1), (5, .int s0), (0, .ref k0), (1, .int x1), (2, .int x2), (3, .int x3), (4, .int x4)]) 6 dX12_quiet_117 rfl (by decide) (Nat.le_of_ble_eq_true rfl) e_2 rfl ?_
  refine V_goto (tgt := 61) dX12_quiet_120 (by decide) ?_
  refine V_sub [2, 3, 4, 5, 6, 1, 0] rfl ?_
  exact cq61 _ _ _ _ _ _ _ _ hf t_k0
set_option maxHeartbeats 4000000 in
set_option maxRecDepth 100000 in
theorem v_X12_quiet_110 {E : EV} {d : Nat} (hd : 1461 ≤ d) {r0 : Int32} {h0 : AH} {q61 : Nat → Int32 → Int32 → Int32 → Int32 → Int32 → Int32 → AH → Option (Int32 × AH)} (cq61 : ∀ (k0 : Nat) (x1 : Int32) (x2 : Int32) (x3 : Int32) (x4 : Int32) (x5 : Int32) (x6 : Int32) (h : AH), q61 k0 x1 x2 x3 x4 x5 x6 h = some (r0, h0) → kd k0 = (0, 12) → V E (d + 1) K_X12_quiet (ZI E r0 h0) h [(0, .ref k0), (1, .int x1), (2, .int x2), (3, .int x3), (4, .int x4), (5, .int x5), (6, .int x6)] [] 61) {k0 : Nat} {x1 : Int32} {x2 : Int32} {x3 : Int32} {x4 : Int32} {x6 : Int32} {h : AH} (hf : f_X12_quiet_110 q61 k0 x1 x2 x3 x4 x6 h = some (r0, h0)) (t_k0 : kd k0 = (0, 12)) : V E (d + 1) K_X12_quiet (ZI E r0 h0) h [(0, .ref k0), (1, .int x1), (2, .int x2), (3, .int x3), (4, .int x4), (6, .int x6)] [] 110 := by
  unfold f_X12_quiet_110 at hf
  refine V_iconst (v := 1) dX12_quiet_110 (by decide) ?_
  refine V_goto (tgt := 115) dX12_quiet_111 (by decide) ?_
  exact v_X12_quiet_115 hd cq61 hf t_k0
set_option maxHeartbeats 4000000 in
set_option maxRecDepth 100000 in
theorem v_X12_quiet_114 {E : EV} {d : Nat} (hd : 1461 ≤ d) {r0 : Int32} {h0 : AH} {q61 : Nat → Int32 → Int32 → Int32 → Int32 → Int32 → Int32 → AH → Option (Int32 × AH)} (cq61 : ∀ (k0 : Nat) (x1 : Int32) (x2 : Int32) (x3 : Int32) (x4 : Int32) (x5 : Int32) (x6 : Int32) (h : AH), q61 k0 x1 x2 x3 x4 x5 x6 h = some (r0, h0) → kd k0 = (0, 12) → V E (d + 1) K_X12_quiet (ZI E r0 h0) h [(0, .ref k0), (1, .int x1), (2, .int x2), (3, .int x3), (4, .int x4), (5, .int x5), (6, .int x6)] [] 61) {k0 : Nat} {x1 : Int32} {x2 : Int32} {x3 : Int32} {x4 : Int32} {x6 : Int32} {h : AH} (hf : f_X12_quiet_114 q61 k0 x1 x2 x3 x4 x6 h = some (r0, h0)) (t_k0 : kd k0 = (0, 12)) : V E (d + 1) K_X12_quiet (ZI E r0 h0) h [(0, .ref k0), (1, .int x1), (2, .int x2), (3, .int x3), (4, .int x4), (6, .int x6)] [] 114 := by
  unfold f_X12_quiet_114 at hf
  refine V_iconst (v := 0) dX12_quiet_114 (by decide) ?_
  exact v_X12_quiet_115 hd cq61 hf t_k0
set_option maxHeartbeats 4000000 in
set_option maxRecDepth 100000 in
theorem v_X12_quiet_61 {E : EV} {d : Nat} (hd : 1461 ≤ d) {r0 : Int32} {h0 : AH} {q32 : Nat → Int32 → Int32 → Int32 → Int32 → AH → Option (Int32 × AH)} (cq32 : ∀ (k0 : Nat) (x1 : Int32) (x2 : Int32) (x3 : Int32) (x4 : Int32) (h : AH), q32 k0 x1 x2 x3 x4 h = some (r0, h0) → kd k0 = (0, 12) → V E (d + 1) K_X12_quiet (ZI E r0 h0) h [(0, .ref k0), (1, .int x1), (2, .int x2), (3, .int x3), (4, .int x4)] [] 32) : ∀ (n : Nat) (k0 : Nat) (x1 : Int32) (x2 : Int32) (x3 : Int32) (x4 : Int32) (x5 : Int32) (x6 : Int32) (h : AH), f_X12_quiet_61 q32 n k0 x1 x2 x3 x4 x5 x6 h = some (r0, h0) → kd k0 = (0, 12) → V E (d + 1) K_X12_quiet (ZI E r0 h0) h [(0, .ref k0), (1, .int x1), (2, .int x2), (3, .int x3), (4, .int x4), (5, .int x5), (6, .int x6)] [] 61 := by
  intro n
  induction n with
  | zero =>
    intro k0 x1 x2 x3 x4 x5 x6 h hf
    rw [f_X12_quiet_61] at hf
    cases hf
  | succ n ih =>
    intro k0 x1 x2 x3 x4 x5 x6 h hf t_k0
    rw [f_X12_quiet_61] at hf
    refine V_iload 6 dX12_quiet_61 rfl ?_
    refine V_aload_n 0 dX12_quiet_63 rfl rfl ?_
    refine V_getI F_X12_283 rfl t_k0 rfl dX12_quiet_64 ?_
    refine V_ic_ge (tgt := 123) dX12_quiet_67 (by decide) (fun c_1 => ?_) (fun c_1 => ?_)
    · have hf := it_s c_1 hf
      refine V_iload 5 dX12_quiet_123 rfl ?_
      refine V_if_ne (tgt := 131) dX12_quiet_125 (by decide) (fun c_2 => ?_) (fun c_2 => ?_)
      · have hf := if_s c_2 hf
        refine V_iload_n 3 dX12_quiet_131 rfl rfl ?_
        refine V_iload_n 2 dX12_quiet_132 rfl rfl ?_
        refine V_ic_ne (tgt := 139) dX12_quiet_133 (by decide) (fun c_3 => ?_) (fun c_3 => ?_)
        · have hf := if_s c_3 hf
          obtain ⟨x3_4, e_5, hf⟩ := nm_s hf
          refine V_iinc (a := 1) (L' := [(3, .int x3_4), (0, .ref k0), (1, .int x1), (2, .int x2), (4, .int x4), (5, .int x5), (6, .int x6)]) 3 dX12_quiet_139 rfl (by decide) (Nat.le_of_ble_eq_true rfl) e_5 rfl ?_
          refine V_sub [1, 2, 3, 0, 4] rfl ?_
          exact v_X12_quiet_142 hd cq32 hf t_k0
        · have hf := it_s c_3 hf
          refine V_iload 4 dX12_quiet_136 rfl ?_
          exact V_iret rfl (so_s hf) dX12_quiet_138
      · have hf := it_s c_2 hf
        refine V_goto (tgt := 142) dX12_quiet_128 (by decide) ?_
        refine V_sub [0, 1, 2, 3, 4] rfl ?_
        exact v_X12_quiet_142 hd cq32 hf t_k0
    · have hf := if_s c_1 hf
      refine V_iload 5 dX12_quiet_70 rfl ?_
      refine V_if_eq (tgt := 114) dX12_quiet_72 (by decide) (fun c_6 => ?_) (fun c_6 => ?_)
      · have hf := it_s c_6 hf
        refine V_sub [0, 1, 2, 3, 4, 6] rfl ?_
        exact v_X12_quiet_114 hd ih hf t_k0
      · have hf := if_s c_6 hf
        refine V_iload_n 1 dX12_quiet_75 rfl rfl ?_
        refine V_iload 6 dX12_quiet_76 rfl ?_
        obtain ⟨r_9, h_8, e_7, hf⟩ := ob_s hf
        refine V_csi (As := [.int x1, .int x6]) (rest := []) (c_X12_has (d := d) (Nat.le_trans (Nat.le_of_ble_eq_true rfl) hd) e_7) ML_X12_258 MS_X12_has rfl rfl rfl (Nat.le_of_ble_eq_true rfl) dX12_quiet_78 ?_
        refine V_if_eq (tgt := 110) dX12_quiet_81 (by decide) (fun c_10 => ?_) (fun c_10 => ?_)
        · have hf := it_s c_10 hf
          refine V_sub [0, 1, 2, 3, 4, 6] rfl ?_
          exact v_X12_quiet_110 hd ih hf t_k0
        · have hf := if_s c_10 hf
          refine V_aload_n 0 dX12_quiet_84 rfl rfl ?_
          refine V_iload 6 dX12_quiet_85 rfl ?_
          refine V_iload_n 1 dX12_quiet_87 rfl rfl ?_
          refine V_iload 4 dX12_quiet_88 rfl ?_
          refine V_iconst (v := 1) dX12_quiet_90 (by decide) ?_
          refine V_iload 6 dX12_quiet_91 rfl ?_
          refine V_ishl dX12_quiet_93 ?_
          refine V_ixor dX12_quiet_94 ?_
          obtain ⟨r_13, h_12, e_11, hf⟩ := ob_s hf
          refine V_cvi (As := [.int x6, .int x1, .int (x4 ^^^ ((1 : Int32) <<< (x6 &&& 31)))]) (rest := []) (c_X12_hasComing (d := d) (Nat.le_trans (Nat.le_of_ble_eq_true rfl) hd) e_11 t_k0) ML_X12_394 MV_X12_hasComing rfl t_k0 rfl rfl (Nat.le_of_ble_eq_true rfl) dX12_quiet_95 ?_
          refine V_aload_n 0 dX12_quiet_98 rfl rfl ?_
          refine V_iload 6 dX12_quiet_99 rfl ?_
          refine V_iload_n 1 dX12_quiet_101 rfl rfl ?_
          refine V_iload 4 dX12_quiet_102 rfl ?_
          obtain ⟨r_16, h_15, e_14, hf⟩ := ob_s hf
          refine V_cvi (As := [.int x6, .int x1, .int x4]) (rest := [.int r_13]) (c_X12_hasComing (d := d) (Nat.le_trans (Nat.le_of_ble_eq_true rfl) hd) e_14 t_k0) ML_X12_394 MV_X12_hasComing rfl t_k0 rfl rfl (Nat.le_of_ble_eq_true rfl) dX12_quiet_104 ?_
          refine V_ic_gt (tgt := 114) dX12_quiet_107 (by decide) (fun c_17 => ?_) (fun c_17 => ?_)
          · have hf := it_s c_17 hf
            refine V_sub [0, 1, 2, 3, 4, 6] rfl ?_
            exact v_X12_quiet_114 hd ih hf t_k0
          · have hf := if_s c_17 hf
            refine V_sub [0, 1, 2, 3, 4, 6] rfl ?_
            exact v_X12_quiet_110 hd ih hf t_k0
set_option maxHeartbeats 4000000 in
set_option maxRecDepth 100000 in
theorem v_X12_quiet_158 {E : EV} {d : Nat} (hd : 1461 ≤ d) {r0 : Int32} {h0 : AH} {s0 : Int32} {h : AH} (hf : f_X12_quiet_158 s0 h = some (r0, h0)) : V E (d + 1) K_X12_quiet (ZI E r0 h0) h [] [.int s0] 158 := by
  unfold f_X12_quiet_158 at hf
  exact V_iret rfl (so_s hf) dX12_quiet_158
set_option maxHeartbeats 4000000 in
set_option maxRecDepth 100000 in
theorem v_X12_quiet_32 {E : EV} {d : Nat} (hd : 1461 ≤ d) {r0 : Int32} {h0 : AH} : ∀ (n : Nat) (k0 : Nat) (x1 : Int32) (x2 : Int32) (x3 : Int32) (x4 : Int32) (h : AH), f_X12_quiet_32 n k0 x1 x2 x3 x4 h = some (r0, h0) → kd k0 = (0, 12) → V E (d + 1) K_X12_quiet (ZI E r0 h0) h [(0, .ref k0), (1, .int x1), (2, .int x2), (3, .int x3), (4, .int x4)] [] 32 := by
  intro n
  induction n with
  | zero =>
    intro k0 x1 x2 x3 x4 h hf
    rw [f_X12_quiet_32] at hf
    cases hf
  | succ n ih =>
    intro k0 x1 x2 x3 x4 h hf t_k0
    rw [f_X12_quiet_32] at hf
    refine V_iload 4 dX12_quiet_32 rfl ?_
    refine V_iconst (v := 1) dX12_quiet_34 (by decide) ?_
    refine V_aload_n 0 dX12_quiet_35 rfl rfl ?_
    refine V_getI F_X12_283 rfl t_k0 rfl dX12_quiet_36 ?_
    refine V_ishl dX12_quiet_39 ?_
    refine V_ic_ge (tgt := 148) dX12_quiet_40 (by decide) (fun c_1 => ?_) (fun c_1 => ?_)
    · have hf := it_s c_1 hf
      refine V_iload_n 2 dX12_quiet_148 rfl rfl ?_
      refine V_iconst (v := (-1)) dX12_quiet_149 (by decide) ?_
      refine V_ic_ne (tgt := 157) dX12_quiet_150 (by decide) (fun c_2 => ?_) (fun c_2 => ?_)
      · have hf := if_s c_2 hf
        refine V_iconst (v := (-1)) dX12_quiet_157 (by decide) ?_
        refine V_sub [] rfl ?_
        exact v_X12_quiet_158 hd hf
      · have hf := it_s c_2 hf
        refine V_iload_n 3 dX12_quiet_153 rfl rfl ?_
        refine V_goto (tgt := 158) dX12_quiet_154 (by decide) ?_
        refine V_sub [] rfl ?_
        exact v_X12_quiet_158 hd hf
    · have hf := if_s c_1 hf
      refine V_iload 4 dX12_quiet_43 rfl ?_
      refine V_iload_n 1 dX12_quiet_45 rfl rfl ?_
      refine V_iconst (v := (-1)) dX12_quiet_46 (by decide) ?_
      refine V_ixor dX12_quiet_47 ?_
      refine V_iand dX12_quiet_48 ?_
      refine V_if_eq (tgt := 55) dX12_quiet_49 (by decide) (fun c_3 => ?_) (fun c_3 => ?_)
      · have hf := it_s c_3 hf
        refine V_iconst (v := 1) dX12_quiet_55 (by decide) ?_
        refine V_istore (L' := [(5, .int 1), (0, .ref k0), (1, .int x1), (2, .int x2), (3, .int x3), (4, .int x4)]) dX12_quiet_56 (Nat.le_of_ble_eq_true rfl) rfl rfl ?_
        refine V_iconst (v := 0) dX12_quiet_58 (by decide) ?_
        refine V_istore (L' := [(6, .int 0), (5, .int 1), (0, .ref k0), (1, .int x1), (2, .int x2), (3, .int x3), (4, .int x4)]) dX12_quiet_59 (Nat.le_of_ble_eq_true rfl) rfl rfl ?_
        refine V_sub [2, 3, 4, 5, 6, 1, 0] rfl ?_
        exact v_X12_quiet_61 hd ih FU _ _ _ _ _ _ _ _ hf t_k0
      · have hf := if_s c_3 hf
        refine V_goto (tgt := 142) dX12_quiet_52 (by decide) ?_
        exact v_X12_quiet_142 hd ih hf t_k0
set_option maxHeartbeats 4000000 in
set_option maxRecDepth 100000 in
theorem c_X12_quiet {E : EV} {d : Nat} (hd : 1461 + 1 ≤ d) {k0 : Nat} {x1 : Int32} {x2 : Int32} {h : AH} {r0 : Int32} {h0 : AH} (hf : f_X12_quiet k0 x1 x2 h = some (r0, h0)) (t_k0 : kd k0 = (0, 12)) : Con E d K_X12_quiet (ZI E r0 h0) [.ref k0, .int x1, .int x2] h := by
  obtain ⟨d, rfl⟩ : ∃ d', d = d' + 1 := ⟨d - 1, by omega⟩
  have hd := Nat.le_of_succ_le_succ hd
  refine Con.ofV rfl (Nat.le_of_ble_eq_true rfl) ?_
  unfold f_X12_quiet at hf
  show V E (d + 1) K_X12_quiet (ZI E r0 h0) h [(0, .ref k0), (1, .int x1), (2, .int x2)] [] 0
  refine V_aload_n 0 dX12_quiet_0 rfl rfl ?_
  refine V_iconst (v := 0) dX12_quiet_1 (by decide) ?_
  obtain ⟨h_1, e_2, hf⟩ := nm_s hf
  refine V_putI P_X12_120 rfl t_k0 rfl e_2 dX12_quiet_2 ?_
  refine V_aload_n 0 dX12_quiet_5 rfl rfl ?_
  refine V_getI F_X12_283 rfl t_k0 rfl dX12_quiet_6 ?_
  refine V_if_eq (tgt := 25) dX12_quiet_9 (by decide) (fun c_3 => ?_) (fun c_3 => ?_)
  · have hf := it_s c_3 hf
    refine V_sub [] rfl ?_
    exact v_X12_quiet_25 hd hf
  · have hf := if_s c_3 hf
    refine V_aload_n 0 dX12_quiet_12 rfl rfl ?_
    refine V_iload_n 1 dX12_quiet_13 rfl rfl ?_
    obtain ⟨r_6, h_5, e_4, hf⟩ := ob_s hf
    refine V_cvi (As := [.int x1]) (rest := []) (c_X12_areGuests (d := d) (Nat.le_trans (Nat.le_of_ble_eq_true rfl) hd) e_4 t_k0) ML_X12_332 MV_X12_areGuests rfl t_k0 rfl rfl (Nat.le_of_ble_eq_true rfl) dX12_quiet_14 ?_
    refine V_if_eq (tgt := 25) dX12_quiet_17 (by decide) (fun c_7 => ?_) (fun c_7 => ?_)
    · have hf := it_s c_7 hf
      refine V_sub [] rfl ?_
      exact v_X12_quiet_25 hd hf
    · have hf := if_s c_7 hf
      refine V_iload_n 2 dX12_quiet_20 rfl rfl ?_
      refine V_iconst (v := (-1)) dX12_quiet_21 (by decide) ?_
      refine V_ic_ge (tgt := 27) dX12_quiet_22 (by decide) (fun c_8 => ?_) (fun c_8 => ?_)
      · have hf := it_s c_8 hf
        refine V_iconst (v := 0) dX12_quiet_27 (by decide) ?_
        refine V_istore_n (L' := [(3, .int 0), (0, .ref k0), (1, .int x1), (2, .int x2)]) dX12_quiet_28 rfl (Nat.le_of_ble_eq_true rfl) rfl rfl ?_
        refine V_iconst (v := 0) dX12_quiet_29 (by decide) ?_
        refine V_istore (L' := [(4, .int 0), (3, .int 0), (0, .ref k0), (1, .int x1), (2, .int x2)]) dX12_quiet_30 (Nat.le_of_ble_eq_true rfl) rfl rfl ?_
        refine V_sub [2, 3, 4, 1, 0] rfl ?_
        exact v_X12_quiet_32 hd FU _ _ _ _ _ _ hf t_k0
      · have hf := if_s c_8 hf
        refine V_sub [] rfl ?_
        exact v_X12_quiet_25 hd hf
theorem dX12_rests_0 : decode cX12_rests 0 = .ok (.aload_n 0, 1) := by decide +kernel
theorem dX12_rests_1 : decode cX12_rests 1 = .ok (.iconst 0, 1) := by decide +kernel
theorem dX12_rests_2 : decode cX12_rests 2 = .ok (.putfield 120, 3) := by decide +kernel
theorem dX12_rests_5 : decode cX12_rests 5 = .ok (.aload_n 0, 1) := by decide +kernel
theorem dX12_rests_6 : decode cX12_rests 6 = .ok (.iload_n 1, 1) := by decide +kernel
theorem dX12_rests_7 : decode cX12_rests 7 = .ok (.iload_n 2, 1) := by decide +kernel
theorem dX12_rests_8 : decode cX12_rests 8 = .ok (.invokevirtual 343, 3) := by decide +kernel
theorem dX12_rests_11 : decode cX12_rests 11 = .ok (.ifCond .eq 29, 3) := by decide +kernel
theorem dX12_rests_14 : decode cX12_rests 14 = .ok (.iload_n 2, 1) := by decide +kernel
theorem dX12_rests_15 : decode cX12_rests 15 = .ok (.invokestatic 309, 3) := by decide +kernel
theorem dX12_rests_18 : decode cX12_rests 18 = .ok (.iconst 4, 1) := by decide +kernel
theorem dX12_rests_19 : decode cX12_rests 19 = .ok (.if_icmp .gt 21, 3) := by decide +kernel
theorem dX12_rests_22 : decode cX12_rests 22 = .ok (.iload_n 3, 1) := by decide +kernel
theorem dX12_rests_23 : decode cX12_rests 23 = .ok (.i2l, 1) := by decide +kernel
theorem dX12_rests_24 : decode cX12_rests 24 = .ok (.lconst 1, 1) := by decide +kernel
theorem dX12_rests_25 : decode cX12_rests 25 = .ok (.ldc2_w 327, 3) := by decide +kernel
theorem dX12_rests_28 : decode cX12_rests 28 = .ok (.invokestatic 247, 3) := by decide +kernel
theorem dX12_rests_31 : decode cX12_rests 31 = .ok (.ifCond .eq 9, 3) := by decide +kernel
theorem dX12_rests_34 : decode cX12_rests 34 = .ok (.iload 4, 2) := by decide +kernel
theorem dX12_rests_36 : decode cX12_rests 36 = .ok (.iconst (-1), 1) := by decide +kernel
theorem dX12_rests_37 : decode cX12_rests 37 = .ok (.if_icmp .ge 5, 3) := by decide +kernel
theorem dX12_rests_40 : decode cX12_rests 40 = .ok (.iconst (-1), 1) := by decide +kernel
theorem dX12_rests_41 : decode cX12_rests 41 = .ok (.ireturn, 1) := by decide +kernel
theorem dX12_rests_42 : decode cX12_rests 42 = .ok (.iconst 0, 1) := by decide +kernel
theorem dX12_rests_43 : decode cX12_rests 43 = .ok (.istore 5, 2) := by decide +kernel
theorem dX12_rests_45 : decode cX12_rests 45 = .ok (.iconst 0, 1) := by decide +kernel
theorem dX12_rests_46 : decode cX12_rests 46 = .ok (.istore 6, 2) := by decide +kernel
theorem dX12_rests_48 : decode cX12_rests 48 = .ok (.iload 6, 2) := by decide +kernel
theorem dX12_rests_50 : decode cX12_rests 50 = .ok (.iconst 1, 1) := by decide +kernel
theorem dX12_rests_51 : decode cX12_rests 51 = .ok (.iconst 2, 1) := by decide +kernel
theorem dX12_rests_52 : decode cX12_rests 52 = .ok (.iload_n 2, 1) := by decide +kernel
theorem dX12_rests_53 : decode cX12_rests 53 = .ok (.invokestatic 309, 3) := by decide +kernel
theorem dX12_rests_56 : decode cX12_rests 56 = .ok (.imul, 1) := by decide +kernel
theorem dX12_rests_57 : decode cX12_rests 57 = .ok (.ishl, 1) := by decide +kernel
theorem dX12_rests_58 : decode cX12_rests 58 = .ok (.if_icmp .ge 46, 3) := by decide +kernel
theorem dX12_rests_61 : decode cX12_rests 61 = .ok (.aload_n 0, 1) := by decide +kernel
theorem dX12_rests_62 : decode cX12_rests 62 = .ok (.iload_n 2, 1) := by decide +kernel
theorem dX12_rests_63 : decode cX12_rests 63 = .ok (.iload 6, 2) := by decide +kernel
theorem dX12_rests_65 : decode cX12_rests 65 = .ok (.iload_n 3, 1) := by decide +kernel
theorem dX12_rests_66 : decode cX12_rests 66 = .ok (.invokevirtual 388, 3) := by decide +kernel
theorem dX12_rests_69 : decode cX12_rests 69 = .ok (.ifCond .eq 29, 3) := by decide +kernel
theorem dX12_rests_72 : decode cX12_rests 72 = .ok (.aload_n 0, 1) := by decide +kernel
theorem dX12_rests_73 : decode cX12_rests 73 = .ok (.iload_n 1, 1) := by decide +kernel
theorem dX12_rests_74 : decode cX12_rests 74 = .ok (.iload_n 2, 1) := by decide +kernel
theorem dX12_rests_75 : decode cX12_rests 75 = .ok (.iload_n 3, 1) := by decide +kernel
theorem dX12_rests_76 : decode cX12_rests 76 = .ok (.invokevirtual 391, 3) := by decide +kernel
theorem dX12_rests_79 : decode cX12_rests 79 = .ok (.ifCond .ne 6, 3) := by decide +kernel
theorem dX12_rests_82 : decode cX12_rests 82 = .ok (.goto 16, 3) := by decide +kernel
theorem dX12_rests_85 : decode cX12_rests 85 = .ok (.iload 5, 2) := by decide +kernel
theorem dX12_rests_87 : decode cX12_rests 87 = .ok (.iload 4, 2) := by decide +kernel
theorem dX12_rests_89 : decode cX12_rests 89 = .ok (.if_icmp .ne 6, 3) := by decide +kernel
theorem dX12_rests_92 : decode cX12_rests 92 = .ok (.iload 6, 2) := by decide +kernel
theorem dX12_rests_94 : decode cX12_rests 94 = .ok (.ireturn, 1) := by decide +kernel
theorem dX12_rests_95 : decode cX12_rests 95 = .ok (.iinc 5 1, 3) := by decide +kernel
theorem dX12_rests_98 : decode cX12_rests 98 = .ok (.iinc 6 1, 3) := by decide +kernel
theorem dX12_rests_101 : decode cX12_rests 101 = .ok (.goto (-53), 3) := by decide +kernel
theorem dX12_rests_104 : decode cX12_rests 104 = .ok (.iload 4, 2) := by decide +kernel
theorem dX12_rests_106 : decode cX12_rests 106 = .ok (.iconst (-1), 1) := by decide +kernel
theorem dX12_rests_107 : decode cX12_rests 107 = .ok (.if_icmp .ne 8, 3) := by decide +kernel
theorem dX12_rests_110 : decode cX12_rests 110 = .ok (.iload 5, 2) := by decide +kernel
theorem dX12_rests_112 : decode cX12_rests 112 = .ok (.goto 4, 3) := by decide +kernel
theorem dX12_rests_115 : decode cX12_rests 115 = .ok (.iconst (-1), 1) := by decide +kernel
theorem dX12_rests_116 : decode cX12_rests 116 = .ok (.ireturn, 1) := by decide +kernel
theorem ML_X12_388 : MLk RX12 388 yX12_layRounds := Or.inl ml_X12_388
theorem MV_X12_layRounds : MVk K_X12_layRounds 3 12 := ⟨⟨cd_X12_layRounds, in_X12, ⟨by decide, by decide, by decide +kernel⟩, by decide⟩, im_X12_layRounds, se_X12_layRounds, _, _, rfl⟩
theorem ML_X12_391 : MLk RX12 391 yX12_isRest := Or.inl ml_X12_391
theorem MV_X12_isRest : MVk K_X12_isRest 3 12 := ⟨⟨cd_X12_isRest, in_X12, ⟨by decide, by decide, by decide +kernel⟩, by decide⟩, im_X12_isRest, se_X12_isRest, _, _, rfl⟩
def f_X12_rests_40  (h : AH) : Option (Int32 × AH) :=
  some ((-1), h)
def f_X12_rests_98 (q48 : Nat → Int32 → Int32 → Int32 → Int32 → Int32 → Int32 → AH → Option (Int32 × AH)) (k0 : Nat) (x1 : Int32) (x2 : Int32) (x3 : Int32) (x4 : Int32) (x5 : Int32) (x6 : Int32) (h : AH) : Option (Int32 × AH) :=
  nm (x6 + 1) fun x6_1 =>
  q48 k0 x1 x2 x3 x4 x5 x6_1 h
def f_X12_rests_116 (s0 : Int32) (h : AH) : Option (Int32 × AH) :=
  some (s0, h)
def f_X12_rests_48 : Nat → Nat → Int32 → Int32 → Int32 → Int32 → Int32 → Int32 → AH → Option (Int32 × AH)
  | 0, _, _, _, _, _, _, _, _ => none
  | n + 1, k0, x1, x2, x3, x4, x5, x6, h =>
    ob (f_J6_bitCount_0f7a4 x2 h) fun r_3 h_2 =>
    if ((1 : Int32) <<< ((2 * r_3) &&& 31)) ≤ x6 then (
      if x4 = (-1) then (
        f_X12_rests_116 x5 h_2
      ) else (
        f_X12_rests_116 (-1) h_2
      )
    ) else (
      ob (f_X12_layRounds k0 x2 x6 x3 h_2) fun r_8 h_7 =>
      if r_8 = 0 then (
        f_X12_rests_98 (f_X12_rests_48 n) k0 x1 x2 x3 x4 x5 x6 h_7
      ) else (
        ob (f_X12_isRest k0 x1 x2 x3 h_7) fun r_12 h_11 =>
        if r_12 = 0 then (
          f_X12_rests_98 (f_X12_rests_48 n) k0 x1 x2 x3 x4 x5 x6 h_11
        ) else (
          if x5 = x4 then (
            some (x6, h_11)
          ) else (
            nm (x5 + 1) fun x5_15 =>
            f_X12_rests_98 (f_X12_rests_48 n) k0 x1 x2 x3 x4 x5_15 x6 h_11
          )
        )
      )
    )
def f_X12_rests (k0 : Nat) (x1 : Int32) (x2 : Int32) (x3 : Int32) (x4 : Int32) (h : AH) : Option (Int32 × AH) :=
  nm (sI h k0 0 0) fun h_1 =>
  ob (f_X12_isVisit k0 x1 x2 h_1) fun r_5 h_4 =>
  if r_5 = 0 then (
    f_X12_rests_40 h_4
  ) else (
    ob (f_J6_bitCount_0f7a4 x2 h_4) fun r_9 h_8 =>
    if 4 < r_9 then (
      f_X12_rests_40 h_8
    ) else (
      ob (f_X12_isIn ((x3).toInt64) 1 3 h_8) fun r_13 h_12 =>
      if r_13 = 0 then (
        f_X12_rests_40 h_12
      ) else (
        if (-1) ≤ x4 then (
          f_X12_rests_48 FU k0 x1 x2 x3 x4 0 0 h_12
        ) else (
          f_X12_rests_40 h_12
        )
      )
    )
  )
set_option maxHeartbeats 4000000 in
set_option maxRecDepth 100000 in
theorem v_X12_rests_40 {E : EV} {d : Nat} (hd : 1462 ≤ d) {r0 : Int32} {h0 : AH}  {h : AH} (hf : f_X12_rests_40 h = some (r0, h0)) : V E (d + 1) K_X12_rests (ZI E r0 h0) h [] [] 40 := by
  unfold f_X12_rests_40 at hf
  refine V_iconst (v := (-1)) dX12_rests_40 (by decide) ?_
  exact V_iret rfl (so_s hf) dX12_rests_41
set_option maxHeartbeats 4000000 in
set_option maxRecDepth 100000 in
theorem v_X12_rests_98 {E : EV} {d : Nat} (hd : 1462 ≤ d) {r0 : Int32} {h0 : AH} {q48 : Nat → Int32 → Int32 → Int32 → Int32 → Int32 → Int32 → AH → Option (Int32 × AH)} (cq48 : ∀ (k0 : Nat) (x1 : Int32) (x2 : Int32) (x3 : Int32) (x4 : Int32) (x5 : Int32) (x6 : Int32) (h : AH), q48 k0 x1 x2 x3 x4 x5 x6 h = some (r0, h0) → kd k0 = (0, 12) → V E (d + 1) K_X12_rests (ZI E r0 h0) h [(0, .ref k0), (1, .int x1), (2, .int x2), (3, .int x3), (4, .int x4), (5, .int x5), (6, .int x6)] [] 48) {k0 : Nat} {x1 : Int32} {x2 : Int32} {x3 : Int32} {x4 : Int32} {x5 : Int32} {x6 : Int32} {h : AH} (hf : f_X12_rests_98 q48 k0 x1 x2 x3 x4 x5 x6 h = some (r0, h0)) (t_k0 : kd k0 = (0, 12)) : V E (d + 1) K_X12_rests (ZI E r0 h0) h [(0, .ref k0), (1, .int x1), (2, .int x2), (3, .int x3), (4, .int x4), (5, .int x5), (6, .int x6)] [] 98 := by
  unfold f_X12_rests_98 at hf
  obtain ⟨x6_1, e_2, hf⟩ := nm_s hf
  refine V_iinc (a := 1) (L' := [(6, .int x6_1), (0, .ref k0), (1, .int x1), (2, .int x2), (3, .int x3), (4, .int x4), (5, .int x5)]) 6 dX12_rests_98 rfl (by decide) (Nat.le_of_ble_eq_true rfl) e_2 rfl ?_
  refine V_goto (tgt := 48) dX12_rests_101 (by decide) ?_
  refine V_sub [1, 2, 3, 4, 5, 6, 0] rfl ?_
  exact cq48 _ _ _ _ _ _ _ _ hf t_k0
set_option maxHeartbeats 4000000 in
set_option maxRecDepth 100000 in
theorem v_X12_rests_116 {E : EV} {d : Nat} (hd : 1462 ≤ d) {r0 : Int32} {h0 : AH} {s0 : Int32} {h : AH} (hf : f_X12_rests_116 s0 h = some (r0, h0)) : V E (d + 1) K_X12_rests (ZI E r0 h0) h [] [.int s0] 116 := by
  unfold f_X12_rests_116 at hf
  exact V_iret rfl (so_s hf) dX12_rests_116
set_option maxHeartbeats 4000000 in
set_option maxRecDepth 100000 in
theorem v_X12_rests_48 {E : EV} {d : Nat} (hd : 1462 ≤ d) {r0 : Int32} {h0 : AH} : ∀ (n : Nat) (k0 : Nat) (x1 : Int32) (x2 : Int32) (x3 : Int32) (x4 : Int32) (x5 : Int32) (x6 : Int32) (h : AH), f_X12_rests_48 n k0 x1 x2 x3 x4 x5 x6 h = some (r0, h0) → kd k0 = (0, 12) → V E (d + 1) K_X12_rests (ZI E r0 h0) h [(0, .ref k0), (1, .int x1), (2, .int x2), (3, .int x3), (4, .int x4), (5, .int x5), (6, .int x6)] [] 48 := by
  intro n
  induction n with
  | zero =>
    intro k0 x1 x2 x3 x4 x5 x6 h hf
    rw [f_X12_rests_48] at hf
    cases hf
  | succ n ih =>
    intro k0 x1 x2 x3 x4 x5 x6 h hf t_k0
    rw [f_X12_rests_48] at hf
    refine V_iload 6 dX12_rests_48 rfl ?_
    refine V_iconst (v := 1) dX12_rests_50 (by decide) ?_
    refine V_iconst (v := 2) dX12_rests_51 (by decide) ?_
    refine V_iload_n 2 dX12_rests_52 rfl rfl ?_
    obtain ⟨r_3, h_2, e_1, hf⟩ := ob_s hf
    refine V_csi (As := [.int x2]) (rest := [.int 2, .int 1, .int x6]) (c_J6_bitCount_0f7a4 (d := d) (Nat.le_trans (Nat.le_of_ble_eq_true rfl) hd) e_1) ML_X12_309 MS_J6_bitCount_0f7a4 rfl rfl rfl (Nat.le_of_ble_eq_true rfl) dX12_rests_53 ?_
    refine V_imul dX12_rests_56 ?_
    refine V_ishl dX12_rests_57 ?_
    refine V_ic_ge (tgt := 104) dX12_rests_58 (by decide) (fun c_4 => ?_) (fun c_4 => ?_)
    · have hf := it_s c_4 hf
      refine V_iload 4 dX12_rests_104 rfl ?_
      refine V_iconst (v := (-1)) dX12_rests_106 (by decide) ?_
      refine V_ic_ne (tgt := 115) dX12_rests_107 (by decide) (fun c_5 => ?_) (fun c_5 => ?_)
      · have hf := if_s c_5 hf
        refine V_iconst (v := (-1)) dX12_rests_115 (by decide) ?_
        refine V_sub [] rfl ?_
        exact v_X12_rests_116 hd hf
      · have hf := it_s c_5 hf
        refine V_iload 5 dX12_rests_110 rfl ?_
        refine V_goto (tgt := 116) dX12_rests_112 (by decide) ?_
        refine V_sub [] rfl ?_
        exact v_X12_rests_116 hd hf
    · have hf := if_s c_4 hf
      refine V_aload_n 0 dX12_rests_61 rfl rfl ?_
      refine V_iload_n 2 dX12_rests_62 rfl rfl ?_
      refine V_iload 6 dX12_rests_63 rfl ?_
      refine V_iload_n 3 dX12_rests_65 rfl rfl ?_
      obtain ⟨r_8, h_7, e_6, hf⟩ := ob_s hf
      refine V_cvi (As := [.int x2, .int x6, .int x3]) (rest := []) (c_X12_layRounds (d := d) (Nat.le_trans (Nat.le_of_ble_eq_true rfl) hd) e_6 t_k0) ML_X12_388 MV_X12_layRounds rfl t_k0 rfl rfl (Nat.le_of_ble_eq_true rfl) dX12_rests_66 ?_
      refine V_if_eq (tgt := 98) dX12_rests_69 (by decide) (fun c_9 => ?_) (fun c_9 => ?_)
      · have hf := it_s c_9 hf
        exact v_X12_rests_98 hd ih hf t_k0
      · have hf := if_s c_9 hf
        refine V_aload_n 0 dX12_rests_72 rfl rfl ?_
        refine V_iload_n 1 dX12_rests_73 rfl rfl ?_
        refine V_iload_n 2 dX12_rests_74 rfl rfl ?_
        refine V_iload_n 3 dX12_rests_75 rfl rfl ?_
        obtain ⟨r_12, h_11, e_10, hf⟩ := ob_s hf
        refine V_cvi (As := [.int x1, .int x2, .int x3]) (rest := []) (c_X12_isRest (d := d) (Nat.le_trans (Nat.le_of_ble_eq_true rfl) hd) e_10 t_k0) ML_X12_391 MV_X12_isRest rfl t_k0 rfl rfl (Nat.le_of_ble_eq_true rfl) dX12_rests_76 ?_
        refine V_if_ne (tgt := 85) dX12_rests_79 (by decide) (fun c_13 => ?_) (fun c_13 => ?_)
        · have hf := if_s c_13 hf
          refine V_iload 5 dX12_rests_85 rfl ?_
          refine V_iload 4 dX12_rests_87 rfl ?_
          refine V_ic_ne (tgt := 95) dX12_rests_89 (by decide) (fun c_14 => ?_) (fun c_14 => ?_)
          · have hf := if_s c_14 hf
            obtain ⟨x5_15, e_16, hf⟩ := nm_s hf
            refine V_iinc (a := 1) (L' := [(5, .int x5_15), (0, .ref k0), (1, .int x1), (2, .int x2), (3, .int x3), (4, .int x4), (6, .int x6)]) 5 dX12_rests_95 rfl (by decide) (Nat.le_of_ble_eq_true rfl) e_16 rfl ?_
            refine V_sub [1, 2, 3, 4, 5, 0, 6] rfl ?_
            exact v_X12_rests_98 hd ih hf t_k0
          · have hf := it_s c_14 hf
            refine V_iload 6 dX12_rests_92 rfl ?_
            exact V_iret rfl (so_s hf) dX12_rests_94
        · have hf := it_s c_13 hf
          refine V_goto (tgt := 98) dX12_rests_82 (by decide) ?_
          exact v_X12_rests_98 hd ih hf t_k0
set_option maxHeartbeats 4000000 in
set_option maxRecDepth 100000 in
theorem c_X12_rests {E : EV} {d : Nat} (hd : 1462 + 1 ≤ d) {k0 : Nat} {x1 : Int32} {x2 : Int32} {x3 : Int32} {x4 : Int32} {h : AH} {r0 : Int32} {h0 : AH} (hf : f_X12_rests k0 x1 x2 x3 x4 h = some (r0, h0)) (t_k0 : kd k0 = (0, 12)) : Con E d K_X12_rests (ZI E r0 h0) [.ref k0, .int x1, .int x2, .int x3, .int x4] h := by
  obtain ⟨d, rfl⟩ : ∃ d', d = d' + 1 := ⟨d - 1, by omega⟩
  have hd := Nat.le_of_succ_le_succ hd
  refine Con.ofV rfl (Nat.le_of_ble_eq_true rfl) ?_
  unfold f_X12_rests at hf
  show V E (d + 1) K_X12_rests (ZI E r0 h0) h [(0, .ref k0), (1, .int x1), (2, .int x2), (3, .int x3), (4, .int x4)] [] 0
  refine V_aload_n 0 dX12_rests_0 rfl rfl ?_
  refine V_iconst (v := 0) dX12_rests_1 (by decide) ?_
  obtain ⟨h_1, e_2, hf⟩ := nm_s hf
  refine V_putI P_X12_120 rfl t_k0 rfl e_2 dX12_rests_2 ?_
  refine V_aload_n 0 dX12_rests_5 rfl rfl ?_
  refine V_iload_n 1 dX12_rests_6 rfl rfl ?_
  refine V_iload_n 2 dX12_rests_7 rfl rfl ?_
  obtain ⟨r_5, h_4, e_3, hf⟩ := ob_s hf
  refine V_cvi (As := [.int x1, .int x2]) (rest := []) (c_X12_isVisit (d := d) (Nat.le_trans (Nat.le_of_ble_eq_true rfl) hd) e_3 t_k0) ML_X12_343 MV_X12_isVisit rfl t_k0 rfl rfl (Nat.le_of_ble_eq_true rfl) dX12_rests_8 ?_
  refine V_if_eq (tgt := 40) dX12_rests_11 (by decide) (fun c_6 => ?_) (fun c_6 => ?_)
  · have hf := it_s c_6 hf
    refine V_sub [] rfl ?_
    exact v_X12_rests_40 hd hf
  · have hf := if_s c_6 hf
    refine V_iload_n 2 dX12_rests_14 rfl rfl ?_
    obtain ⟨r_9, h_8, e_7, hf⟩ := ob_s hf
    refine V_csi (As := [.int x2]) (rest := []) (c_J6_bitCount_0f7a4 (d := d) (Nat.le_trans (Nat.le_of_ble_eq_true rfl) hd) e_7) ML_X12_309 MS_J6_bitCount_0f7a4 rfl rfl rfl (Nat.le_of_ble_eq_true rfl) dX12_rests_15 ?_
    refine V_iconst (v := 4) dX12_rests_18 (by decide) ?_
    refine V_ic_gt (tgt := 40) dX12_rests_19 (by decide) (fun c_10 => ?_) (fun c_10 => ?_)
    · have hf := it_s c_10 hf
      refine V_sub [] rfl ?_
      exact v_X12_rests_40 hd hf
    · have hf := if_s c_10 hf
      refine V_iload_n 3 dX12_rests_22 rfl rfl ?_
      refine V_i2l dX12_rests_23 ?_
      refine V_lconst (v := 1) dX12_rests_24 (by decide) ?_
      refine V_ldc2 (v := 3) rfl kl_X12_327 dX12_rests_25 ?_
      obtain ⟨r_13, h_12, e_11, hf⟩ := ob_s hf
      refine V_csi (As := [.long ((x3).toInt64), .long 1, .long 3]) (rest := []) (c_X12_isIn (d := d) (Nat.le_trans (Nat.le_of_ble_eq_true rfl) hd) e_11) ML_X12_247 MS_X12_isIn rfl rfl rfl (Nat.le_of_ble_eq_true rfl) dX12_rests_28 ?_
      refine V_if_eq (tgt := 40) dX12_rests_31 (by decide) (fun c_14 => ?_) (fun c_14 => ?_)
      · have hf := it_s c_14 hf
        refine V_sub [] rfl ?_
        exact v_X12_rests_40 hd hf
      · have hf := if_s c_14 hf
        refine V_iload 4 dX12_rests_34 rfl ?_
        refine V_iconst (v := (-1)) dX12_rests_36 (by decide) ?_
        refine V_ic_ge (tgt := 42) dX12_rests_37 (by decide) (fun c_15 => ?_) (fun c_15 => ?_)
        · have hf := it_s c_15 hf
          refine V_iconst (v := 0) dX12_rests_42 (by decide) ?_
          refine V_istore (L' := [(5, .int 0), (0, .ref k0), (1, .int x1), (2, .int x2), (3, .int x3), (4, .int x4)]) dX12_rests_43 (Nat.le_of_ble_eq_true rfl) rfl rfl ?_
          refine V_iconst (v := 0) dX12_rests_45 (by decide) ?_
          refine V_istore (L' := [(6, .int 0), (5, .int 0), (0, .ref k0), (1, .int x1), (2, .int x2), (3, .int x3), (4, .int x4)]) dX12_rests_46 (Nat.le_of_ble_eq_true rfl) rfl rfl ?_
          refine V_sub [2, 3, 4, 5, 6, 1, 0] rfl ?_
          exact v_X12_rests_48 hd FU _ _ _ _ _ _ _ _ hf t_k0
        · have hf := if_s c_15 hf
          refine V_sub [] rfl ?_
          exact v_X12_rests_40 hd hf
theorem dX12_rule_0 : decode cX12_rule 0 = .ok (.aload_n 0, 1) := by decide +kernel
theorem dX12_rule_1 : decode cX12_rule 1 = .ok (.iconst 0, 1) := by decide +kernel
theorem dX12_rule_2 : decode cX12_rule 2 = .ok (.putfield 120, 3) := by decide +kernel
theorem dX12_rule_5 : decode cX12_rule 5 = .ok (.aload_n 0, 1) := by decide +kernel
theorem dX12_rule_6 : decode cX12_rule 6 = .ok (.iload_n 1, 1) := by decide +kernel
theorem dX12_rule_7 : decode cX12_rule 7 = .ok (.invokevirtual 295, 3) := by decide +kernel
theorem dX12_rule_10 : decode cX12_rule 10 = .ok (.ifCond .eq 24, 3) := by decide +kernel
theorem dX12_rule_13 : decode cX12_rule 13 = .ok (.iload_n 2, 1) := by decide +kernel
theorem dX12_rule_14 : decode cX12_rule 14 = .ok (.iconst (-1), 1) := by decide +kernel
theorem dX12_rule_15 : decode cX12_rule 15 = .ok (.if_icmp .eq 21, 3) := by decide +kernel
theorem dX12_rule_18 : decode cX12_rule 18 = .ok (.iload_n 2, 1) := by decide +kernel
theorem dX12_rule_19 : decode cX12_rule 19 = .ok (.i2l, 1) := by decide +kernel
theorem dX12_rule_20 : decode cX12_rule 20 = .ok (.lconst 0, 1) := by decide +kernel
theorem dX12_rule_21 : decode cX12_rule 21 = .ok (.aload_n 0, 1) := by decide +kernel
theorem dX12_rule_22 : decode cX12_rule 22 = .ok (.getfield 278, 3) := by decide +kernel
theorem dX12_rule_25 : decode cX12_rule 25 = .ok (.iconst 1, 1) := by decide +kernel
theorem dX12_rule_26 : decode cX12_rule 26 = .ok (.isub, 1) := by decide +kernel
theorem dX12_rule_27 : decode cX12_rule 27 = .ok (.i2l, 1) := by decide +kernel
theorem dX12_rule_28 : decode cX12_rule 28 = .ok (.invokestatic 247, 3) := by decide +kernel
theorem dX12_rule_31 : decode cX12_rule 31 = .ok (.ifCond .ne 5, 3) := by decide +kernel
theorem dX12_rule_34 : decode cX12_rule 34 = .ok (.iconst 0, 1) := by decide +kernel
theorem dX12_rule_35 : decode cX12_rule 35 = .ok (.ireturn, 1) := by decide +kernel
theorem dX12_rule_36 : decode cX12_rule 36 = .ok (.aload_n 0, 1) := by decide +kernel
theorem dX12_rule_37 : decode cX12_rule 37 = .ok (.getfield 57, 3) := by decide +kernel
theorem dX12_rule_40 : decode cX12_rule 40 = .ok (.iload_n 1, 1) := by decide +kernel
theorem dX12_rule_41 : decode cX12_rule 41 = .ok (.iload_n 2, 1) := by decide +kernel
theorem dX12_rule_42 : decode cX12_rule 42 = .ok (.iastore, 1) := by decide +kernel
theorem dX12_rule_43 : decode cX12_rule 43 = .ok (.iconst 1, 1) := by decide +kernel
theorem dX12_rule_44 : decode cX12_rule 44 = .ok (.ireturn, 1) := by decide +kernel
def f_X12_rule_34  (h : AH) : Option (Int32 × AH) :=
  some (0, h)
def f_X12_rule_36 (k0 : Nat) (x1 : Int32) (x2 : Int32) (h : AH) : Option (Int32 × AH) :=
  og (ix x1 (an (rf k0 26))) <|
  nm (sI h (rf k0 26) x1.toNatClampNeg x2) fun h_2 =>
  some (1, h_2)
def f_X12_rule (k0 : Nat) (x1 : Int32) (x2 : Int32) (h : AH) : Option (Int32 × AH) :=
  nm (sI h k0 0 0) fun h_1 =>
  ob (f_X12_isPerson k0 x1 h_1) fun r_5 h_4 =>
  if r_5 = 0 then (
    f_X12_rule_34 h_4
  ) else (
    if x2 = (-1) then (
      f_X12_rule_36 k0 x1 x2 h_4
    ) else (
      ob (f_X12_isIn ((x2).toInt64) 0 ((((h_4.1 k0 7) - 1)).toInt64) h_4) fun r_10 h_9 =>
      if r_10 = 0 then (
        f_X12_rule_34 h_9
      ) else (
        f_X12_rule_36 k0 x1 x2 h_9
      )
    )
  )
set_option maxHeartbeats 4000000 in
set_option maxRecDepth 100000 in
theorem v_X12_rule_34 {E : EV} {d : Nat} (hd : 1 ≤ d) {r0 : Int32} {h0 : AH}  {h : AH} (hf : f_X12_rule_34 h = some (r0, h0)) : V E (d + 1) K_X12_rule (ZI E r0 h0) h [] [] 34 := by
  unfold f_X12_rule_34 at hf
  refine V_iconst (v := 0) dX12_rule_34 (by decide) ?_
  exact V_zret rfl (by decide) (so_s hf) dX12_rule_35
set_option maxHeartbeats 4000000 in
set_option maxRecDepth 100000 in
theorem v_X12_rule_36 {E : EV} {d : Nat} (hd : 1 ≤ d) {r0 : Int32} {h0 : AH} {k0 : Nat} {x1 : Int32} {x2 : Int32} {h : AH} (hf : f_X12_rule_36 k0 x1 x2 h = some (r0, h0)) (t_k0 : kd k0 = (0, 12)) : V E (d + 1) K_X12_rule (ZI E r0 h0) h [(0, .ref k0), (1, .int x1), (2, .int x2)] [] 36 := by
  unfold f_X12_rule_36 at hf
  refine V_aload_n 0 dX12_rule_36 rfl rfl ?_
  refine V_getR F_X12_57 rfl t_k0 rfl dX12_rule_37 ?_
  refine V_iload_n 1 dX12_rule_40 rfl rfl ?_
  refine V_iload_n 2 dX12_rule_41 rfl rfl ?_
  obtain ⟨b_1, hf⟩ := og_s hf
  obtain ⟨h_2, e_3, hf⟩ := nm_s hf
  refine V_iast (rfA t_k0 (Nat.le_of_ble_eq_true rfl) rfl rfl (by decide)) b_1 e_3 dX12_rule_42 ?_
  refine V_iconst (v := 1) dX12_rule_43 (by decide) ?_
  exact V_zret rfl (by decide) (so_s hf) dX12_rule_44
set_option maxHeartbeats 4000000 in
set_option maxRecDepth 100000 in
theorem c_X12_rule {E : EV} {d : Nat} (hd : 1 + 1 ≤ d) {k0 : Nat} {x1 : Int32} {x2 : Int32} {h : AH} {r0 : Int32} {h0 : AH} (hf : f_X12_rule k0 x1 x2 h = some (r0, h0)) (t_k0 : kd k0 = (0, 12)) : Con E d K_X12_rule (ZI E r0 h0) [.ref k0, .int x1, .int x2] h := by
  obtain ⟨d, rfl⟩ : ∃ d', d = d' + 1 := ⟨d - 1, by omega⟩
  have hd := Nat.le_of_succ_le_succ hd
  refine Con.ofV rfl (Nat.le_of_ble_eq_true rfl) ?_
  unfold f_X12_rule at hf
  show V E (d + 1) K_X12_rule (ZI E r0 h0) h [(0, .ref k0), (1, .int x1), (2, .int x2)] [] 0
  refine V_aload_n 0 dX12_rule_0 rfl rfl ?_
  refine V_iconst (v := 0) dX12_rule_1 (by decide) ?_
  obtain ⟨h_1, e_2, hf⟩ := nm_s hf
  refine V_putI P_X12_120 rfl t_k0 rfl e_2 dX12_rule_2 ?_
  refine V_aload_n 0 dX12_rule_5 rfl rfl ?_
  refine V_iload_n 1 dX12_rule_6 rfl rfl ?_
  obtain ⟨r_5, h_4, e_3, hf⟩ := ob_s hf
  refine V_cvi (As := [.int x1]) (rest := []) (c_X12_isPerson (d := d) (Nat.le_trans (Nat.le_of_ble_eq_true rfl) hd) e_3 t_k0) ML_X12_295 MV_X12_isPerson rfl t_k0 rfl rfl (Nat.le_of_ble_eq_true rfl) dX12_rule_7 ?_
  refine V_if_eq (tgt := 34) dX12_rule_10 (by decide) (fun c_6 => ?_) (fun c_6 => ?_)
  · have hf := it_s c_6 hf
    refine V_sub [] rfl ?_
    exact v_X12_rule_34 hd hf
  · have hf := if_s c_6 hf
    refine V_iload_n 2 dX12_rule_13 rfl rfl ?_
    refine V_iconst (v := (-1)) dX12_rule_14 (by decide) ?_
    refine V_ic_eq (tgt := 36) dX12_rule_15 (by decide) (fun c_7 => ?_) (fun c_7 => ?_)
    · have hf := it_s c_7 hf
      exact v_X12_rule_36 hd hf t_k0
    · have hf := if_s c_7 hf
      refine V_iload_n 2 dX12_rule_18 rfl rfl ?_
      refine V_i2l dX12_rule_19 ?_
      refine V_lconst (v := 0) dX12_rule_20 (by decide) ?_
      refine V_aload_n 0 dX12_rule_21 rfl rfl ?_
      refine V_getI F_X12_278 rfl t_k0 rfl dX12_rule_22 ?_
      refine V_iconst (v := 1) dX12_rule_25 (by decide) ?_
      refine V_isub dX12_rule_26 ?_
      refine V_i2l dX12_rule_27 ?_
      obtain ⟨r_10, h_9, e_8, hf⟩ := ob_s hf
      refine V_csi (As := [.long ((x2).toInt64), .long 0, .long ((((h_4.1 k0 7) - 1)).toInt64)]) (rest := []) (c_X12_isIn (d := d) (Nat.le_trans (Nat.le_of_ble_eq_true rfl) hd) e_8) ML_X12_247 MS_X12_isIn rfl rfl rfl (Nat.le_of_ble_eq_true rfl) dX12_rule_28 ?_
      refine V_if_ne (tgt := 36) dX12_rule_31 (by decide) (fun c_11 => ?_) (fun c_11 => ?_)
      · have hf := if_s c_11 hf
        exact v_X12_rule_36 hd hf t_k0
      · have hf := it_s c_11 hf
        refine V_sub [] rfl ?_
        exact v_X12_rule_34 hd hf
theorem dX12_sight_0 : decode cX12_sight 0 = .ok (.aload_n 0, 1) := by decide +kernel
theorem dX12_sight_1 : decode cX12_sight 1 = .ok (.iconst 0, 1) := by decide +kernel
theorem dX12_sight_2 : decode cX12_sight 2 = .ok (.putfield 120, 3) := by decide +kernel
theorem dX12_sight_5 : decode cX12_sight 5 = .ok (.aload_n 0, 1) := by decide +kernel
theorem dX12_sight_6 : decode cX12_sight 6 = .ok (.getfield 289, 3) := by decide +kernel
theorem dX12_sight_9 : decode cX12_sight 9 = .ok (.bipush 20, 2) := by decide +kernel
theorem dX12_sight_11 : decode cX12_sight 11 = .ok (.if_icmp .eq 55, 3) := by decide +kernel
theorem dX12_sight_14 : decode cX12_sight 14 = .ok (.iload_n 1, 1) := by decide +kernel
theorem dX12_sight_15 : decode cX12_sight 15 = .ok (.i2l, 1) := by decide +kernel
theorem dX12_sight_16 : decode cX12_sight 16 = .ok (.lconst 0, 1) := by decide +kernel
theorem dX12_sight_17 : decode cX12_sight 17 = .ok (.aload_n 0, 1) := by decide +kernel
theorem dX12_sight_18 : decode cX12_sight 18 = .ok (.getfield 286, 3) := by decide +kernel
theorem dX12_sight_21 : decode cX12_sight 21 = .ok (.iconst 1, 1) := by decide +kernel
theorem dX12_sight_22 : decode cX12_sight 22 = .ok (.isub, 1) := by decide +kernel
theorem dX12_sight_23 : decode cX12_sight 23 = .ok (.i2l, 1) := by decide +kernel
theorem dX12_sight_24 : decode cX12_sight 24 = .ok (.invokestatic 247, 3) := by decide +kernel
theorem dX12_sight_27 : decode cX12_sight 27 = .ok (.ifCond .eq 39, 3) := by decide +kernel
theorem dX12_sight_30 : decode cX12_sight 30 = .ok (.aload_n 0, 1) := by decide +kernel
theorem dX12_sight_31 : decode cX12_sight 31 = .ok (.iload_n 2, 1) := by decide +kernel
theorem dX12_sight_32 : decode cX12_sight 32 = .ok (.invokevirtual 295, 3) := by decide +kernel
theorem dX12_sight_35 : decode cX12_sight 35 = .ok (.ifCond .ne 17, 3) := by decide +kernel
theorem dX12_sight_38 : decode cX12_sight 38 = .ok (.iload_n 2, 1) := by decide +kernel
theorem dX12_sight_39 : decode cX12_sight 39 = .ok (.i2l, 1) := by decide +kernel
theorem dX12_sight_40 : decode cX12_sight 40 = .ok (.ldc2_w 434, 3) := by decide +kernel
theorem dX12_sight_43 : decode cX12_sight 43 = .ok (.ldc2_w 436, 3) := by decide +kernel
theorem dX12_sight_46 : decode cX12_sight 46 = .ok (.invokestatic 247, 3) := by decide +kernel
theorem dX12_sight_49 : decode cX12_sight 49 = .ok (.ifCond .eq 17, 3) := by decide +kernel
theorem dX12_sight_52 : decode cX12_sight 52 = .ok (.iload_n 3, 1) := by decide +kernel
theorem dX12_sight_53 : decode cX12_sight 53 = .ok (.i2l, 1) := by decide +kernel
theorem dX12_sight_54 : decode cX12_sight 54 = .ok (.ldc2_w 242, 3) := by decide +kernel
theorem dX12_sight_57 : decode cX12_sight 57 = .ok (.ldc2_w 438, 3) := by decide +kernel
theorem dX12_sight_60 : decode cX12_sight 60 = .ok (.invokestatic 247, 3) := by decide +kernel
theorem dX12_sight_63 : decode cX12_sight 63 = .ok (.ifCond .ne 5, 3) := by decide +kernel
theorem dX12_sight_66 : decode cX12_sight 66 = .ok (.iconst (-1), 1) := by decide +kernel
theorem dX12_sight_67 : decode cX12_sight 67 = .ok (.ireturn, 1) := by decide +kernel
theorem dX12_sight_68 : decode cX12_sight 68 = .ok (.aload_n 0, 1) := by decide +kernel
theorem dX12_sight_69 : decode cX12_sight 69 = .ok (.getfield 102, 3) := by decide +kernel
theorem dX12_sight_72 : decode cX12_sight 72 = .ok (.aload_n 0, 1) := by decide +kernel
theorem dX12_sight_73 : decode cX12_sight 73 = .ok (.getfield 289, 3) := by decide +kernel
theorem dX12_sight_76 : decode cX12_sight 76 = .ok (.iload_n 1, 1) := by decide +kernel
theorem dX12_sight_77 : decode cX12_sight 77 = .ok (.iastore, 1) := by decide +kernel
theorem dX12_sight_78 : decode cX12_sight 78 = .ok (.aload_n 0, 1) := by decide +kernel
theorem dX12_sight_79 : decode cX12_sight 79 = .ok (.getfield 105, 3) := by decide +kernel
theorem dX12_sight_82 : decode cX12_sight 82 = .ok (.aload_n 0, 1) := by decide +kernel
theorem dX12_sight_83 : decode cX12_sight 83 = .ok (.getfield 289, 3) := by decide +kernel
theorem dX12_sight_86 : decode cX12_sight 86 = .ok (.iload_n 2, 1) := by decide +kernel
theorem dX12_sight_87 : decode cX12_sight 87 = .ok (.iastore, 1) := by decide +kernel
theorem dX12_sight_88 : decode cX12_sight 88 = .ok (.aload_n 0, 1) := by decide +kernel
theorem dX12_sight_89 : decode cX12_sight 89 = .ok (.getfield 108, 3) := by decide +kernel
theorem dX12_sight_92 : decode cX12_sight 92 = .ok (.aload_n 0, 1) := by decide +kernel
theorem dX12_sight_93 : decode cX12_sight 93 = .ok (.getfield 289, 3) := by decide +kernel
theorem dX12_sight_96 : decode cX12_sight 96 = .ok (.iload_n 3, 1) := by decide +kernel
theorem dX12_sight_97 : decode cX12_sight 97 = .ok (.iastore, 1) := by decide +kernel
theorem dX12_sight_98 : decode cX12_sight 98 = .ok (.aload_n 0, 1) := by decide +kernel
theorem dX12_sight_99 : decode cX12_sight 99 = .ok (.dup, 1) := by decide +kernel
theorem dX12_sight_100 : decode cX12_sight 100 = .ok (.getfield 289, 3) := by decide +kernel
theorem dX12_sight_103 : decode cX12_sight 103 = .ok (.iconst 1, 1) := by decide +kernel
theorem dX12_sight_104 : decode cX12_sight 104 = .ok (.iadd, 1) := by decide +kernel
theorem dX12_sight_105 : decode cX12_sight 105 = .ok (.putfield 289, 3) := by decide +kernel
theorem dX12_sight_108 : decode cX12_sight 108 = .ok (.aload_n 0, 1) := by decide +kernel
theorem dX12_sight_109 : decode cX12_sight 109 = .ok (.getfield 289, 3) := by decide +kernel
theorem dX12_sight_112 : decode cX12_sight 112 = .ok (.ireturn, 1) := by decide +kernel
def f_X12_sight_66  (h : AH) : Option (Int32 × AH) :=
  some ((-1), h)
def f_X12_sight_52 (k0 : Nat) (x1 : Int32) (x2 : Int32) (x3 : Int32) (h : AH) : Option (Int32 × AH) :=
  ob (f_X12_isIn ((x3).toInt64) 20 50 h) fun r_3 h_2 =>
  if r_3 = 0 then (
    f_X12_sight_66 h_2
  ) else (
    og (ix (h_2.1 k0 50) (an (rf k0 47))) <|
    nm (sI h_2 (rf k0 47) (h_2.1 k0 50).toNatClampNeg x1) fun h_6 =>
    og (ix (h_6.1 k0 50) (an (rf k0 48))) <|
    nm (sI h_6 (rf k0 48) (h_6.1 k0 50).toNatClampNeg x2) fun h_9 =>
    og (ix (h_9.1 k0 50) (an (rf k0 49))) <|
    nm (sI h_9 (rf k0 49) (h_9.1 k0 50).toNatClampNeg x3) fun h_12 =>
    nm (sI h_12 k0 50 ((h_12.1 k0 50) + 1)) fun h_14 =>
    some ((h_14.1 k0 50), h_14)
  )
def f_X12_sight (k0 : Nat) (x1 : Int32) (x2 : Int32) (x3 : Int32) (h : AH) : Option (Int32 × AH) :=
  nm (sI h k0 0 0) fun h_1 =>
  if (h_1.1 k0 50) = 20 then (
    f_X12_sight_66 h_1
  ) else (
    ob (f_X12_isIn ((x1).toInt64) 0 ((((h_1.1 k0 32) - 1)).toInt64) h_1) fun r_6 h_5 =>
    if r_6 = 0 then (
      f_X12_sight_66 h_5
    ) else (
      ob (f_X12_isPerson k0 x2 h_5) fun r_10 h_9 =>
      if r_10 = 0 then (
        ob (f_X12_isIn ((x2).toInt64) 10 13 h_9) fun r_14 h_13 =>
        if r_14 = 0 then (
          f_X12_sight_66 h_13
        ) else (
          f_X12_sight_52 k0 x1 x2 x3 h_13
        )
      ) else (
        f_X12_sight_52 k0 x1 x2 x3 h_9
      )
    )
  )
set_option maxHeartbeats 4000000 in
set_option maxRecDepth 100000 in
theorem v_X12_sight_66 {E : EV} {d : Nat} (hd : 1 ≤ d) {r0 : Int32} {h0 : AH}  {h : AH} (hf : f_X12_sight_66 h = some (r0, h0)) : V E (d + 1) K_X12_sight (ZI E r0 h0) h [] [] 66 := by
  unfold f_X12_sight_66 at hf
  refine V_iconst (v := (-1)) dX12_sight_66 (by decide) ?_
  exact V_iret rfl (so_s hf) dX12_sight_67
set_option maxHeartbeats 4000000 in
set_option maxRecDepth 100000 in
theorem v_X12_sight_52 {E : EV} {d : Nat} (hd : 1 ≤ d) {r0 : Int32} {h0 : AH} {k0 : Nat} {x1 : Int32} {x2 : Int32} {x3 : Int32} {h : AH} (hf : f_X12_sight_52 k0 x1 x2 x3 h = some (r0, h0)) (t_k0 : kd k0 = (0, 12)) : V E (d + 1) K_X12_sight (ZI E r0 h0) h [(0, .ref k0), (1, .int x1), (2, .int x2), (3, .int x3)] [] 52 := by
  unfold f_X12_sight_52 at hf
  refine V_iload_n 3 dX12_sight_52 rfl rfl ?_
  refine V_i2l dX12_sight_53 ?_
  refine V_ldc2 (v := 20) rfl kl_X12_242 dX12_sight_54 ?_
  refine V_ldc2 (v := 50) rfl kl_X12_438 dX12_sight_57 ?_
  obtain ⟨r_3, h_2, e_1, hf⟩ := ob_s hf
  refine V_csi (As := [.long ((x3).toInt64), .long 20, .long 50]) (rest := []) (c_X12_isIn (d := d) (Nat.le_trans (Nat.le_of_ble_eq_true rfl) hd) e_1) ML_X12_247 MS_X12_isIn rfl rfl rfl (Nat.le_of_ble_eq_true rfl) dX12_sight_60 ?_
  refine V_if_ne (tgt := 68) dX12_sight_63 (by decide) (fun c_4 => ?_) (fun c_4 => ?_)
  · have hf := if_s c_4 hf
    refine V_aload_n 0 dX12_sight_68 rfl rfl ?_
    refine V_getR F_X12_102 rfl t_k0 rfl dX12_sight_69 ?_
    refine V_aload_n 0 dX12_sight_72 rfl rfl ?_
    refine V_getI F_X12_289 rfl t_k0 rfl dX12_sight_73 ?_
    refine V_iload_n 1 dX12_sight_76 rfl rfl ?_
    obtain ⟨b_5, hf⟩ := og_s hf
    obtain ⟨h_6, e_7, hf⟩ := nm_s hf
    refine V_iast (rfA t_k0 (Nat.le_of_ble_eq_true rfl) rfl rfl (by decide)) b_5 e_7 dX12_sight_77 ?_
    refine V_aload_n 0 dX12_sight_78 rfl rfl ?_
    refine V_getR F_X12_105 rfl t_k0 rfl dX12_sight_79 ?_
    refine V_aload_n 0 dX12_sight_82 rfl rfl ?_
    refine V_getI F_X12_289 rfl t_k0 rfl dX12_sight_83 ?_
    refine V_iload_n 2 dX12_sight_86 rfl rfl ?_
    obtain ⟨b_8, hf⟩ := og_s hf
    obtain ⟨h_9, e_10, hf⟩ := nm_s hf
    refine V_iast (rfA t_k0 (Nat.le_of_ble_eq_true rfl) rfl rfl (by decide)) b_8 e_10 dX12_sight_87 ?_
    refine V_aload_n 0 dX12_sight_88 rfl rfl ?_
    refine V_getR F_X12_108 rfl t_k0 rfl dX12_sight_89 ?_
    refine V_aload_n 0 dX12_sight_92 rfl rfl ?_
    refine V_getI F_X12_289 rfl t_k0 rfl dX12_sight_93 ?_
    refine V_iload_n 3 dX12_sight_96 rfl rfl ?_
    obtain ⟨b_11, hf⟩ := og_s hf
    obtain ⟨h_12, e_13, hf⟩ := nm_s hf
    refine V_iast (rfA t_k0 (Nat.le_of_ble_eq_true rfl) rfl rfl (by decide)) b_11 e_13 dX12_sight_97 ?_
    refine V_aload_n 0 dX12_sight_98 rfl rfl ?_
    refine V_dup dX12_sight_99 rfl ?_
    refine V_getI F_X12_289 rfl t_k0 rfl dX12_sight_100 ?_
    refine V_iconst (v := 1) dX12_sight_103 (by decide) ?_
    refine V_iadd dX12_sight_104 ?_
    obtain ⟨h_14, e_15, hf⟩ := nm_s hf
    refine V_putI P_X12_289 rfl t_k0 rfl e_15 dX12_sight_105 ?_
    refine V_aload_n 0 dX12_sight_108 rfl rfl ?_
    refine V_getI F_X12_289 rfl t_k0 rfl dX12_sight_109 ?_
    exact V_iret rfl (so_s hf) dX12_sight_112
  · have hf := it_s c_4 hf
    refine V_sub [] rfl ?_
    exact v_X12_sight_66 hd hf
set_option maxHeartbeats 4000000 in
set_option maxRecDepth 100000 in
theorem c_X12_sight {E : EV} {d : Nat} (hd : 1 + 1 ≤ d) {k0 : Nat} {x1 : Int32} {x2 : Int32} {x3 : Int32} {h : AH} {r0 : Int32} {h0 : AH} (hf : f_X12_sight k0 x1 x2 x3 h = some (r0, h0)) (t_k0 : kd k0 = (0, 12)) : Con E d K_X12_sight (ZI E r0 h0) [.ref k0, .int x1, .int x2, .int x3] h := by
  obtain ⟨d, rfl⟩ : ∃ d', d = d' + 1 := ⟨d - 1, by omega⟩
  have hd := Nat.le_of_succ_le_succ hd
  refine Con.ofV rfl (Nat.le_of_ble_eq_true rfl) ?_
  unfold f_X12_sight at hf
  show V E (d + 1) K_X12_sight (ZI E r0 h0) h [(0, .ref k0), (1, .int x1), (2, .int x2), (3, .int x3)] [] 0
  refine V_aload_n 0 dX12_sight_0 rfl rfl ?_
  refine V_iconst (v := 0) dX12_sight_1 (by decide) ?_
  obtain ⟨h_1, e_2, hf⟩ := nm_s hf
  refine V_putI P_X12_120 rfl t_k0 rfl e_2 dX12_sight_2 ?_
  refine V_aload_n 0 dX12_sight_5 rfl rfl ?_
  refine V_getI F_X12_289 rfl t_k0 rfl dX12_sight_6 ?_
  refine V_bipush (v := 20) dX12_sight_9 (by decide) ?_
  refine V_ic_eq (tgt := 66) dX12_sight_11 (by decide) (fun c_3 => ?_) (fun c_3 => ?_)
  · have hf := it_s c_3 hf
    refine V_sub [] rfl ?_
    exact v_X12_sight_66 hd hf
  · have hf := if_s c_3 hf
    refine V_iload_n 1 dX12_sight_14 rfl rfl ?_
    refine V_i2l dX12_sight_15 ?_
    refine V_lconst (v := 0) dX12_sight_16 (by decide) ?_
    refine V_aload_n 0 dX12_sight_17 rfl rfl ?_
    refine V_getI F_X12_286 rfl t_k0 rfl dX12_sight_18 ?_
    refine V_iconst (v := 1) dX12_sight_21 (by decide) ?_
    refine V_isub dX12_sight_22 ?_
    refine V_i2l dX12_sight_23 ?_
    obtain ⟨r_6, h_5, e_4, hf⟩ := ob_s hf
    refine V_csi (As := [.long ((x1).toInt64), .long 0, .long ((((h_1.1 k0 32) - 1)).toInt64)]) (rest := []) (c_X12_isIn (d := d) (Nat.le_trans (Nat.le_of_ble_eq_true rfl) hd) e_4) ML_X12_247 MS_X12_isIn rfl rfl rfl (Nat.le_of_ble_eq_true rfl) dX12_sight_24 ?_
    refine V_if_eq (tgt := 66) dX12_sight_27 (by decide) (fun c_7 => ?_) (fun c_7 => ?_)
    · have hf := it_s c_7 hf
      refine V_sub [] rfl ?_
      exact v_X12_sight_66 hd hf
    · have hf := if_s c_7 hf
      refine V_aload_n 0 dX12_sight_30 rfl rfl ?_
      refine V_iload_n 2 dX12_sight_31 rfl rfl ?_
      obtain ⟨r_10, h_9, e_8, hf⟩ := ob_s hf
      refine V_cvi (As := [.int x2]) (rest := []) (c_X12_isPerson (d := d) (Nat.le_trans (Nat.le_of_ble_eq_true rfl) hd) e_8 t_k0) ML_X12_295 MV_X12_isPerson rfl t_k0 rfl rfl (Nat.le_of_ble_eq_true rfl) dX12_sight_32 ?_
      refine V_if_ne (tgt := 52) dX12_sight_35 (by decide) (fun c_11 => ?_) (fun c_11 => ?_)
      · have hf := if_s c_11 hf
        exact v_X12_sight_52 hd hf t_k0
      · have hf := it_s c_11 hf
        refine V_iload_n 2 dX12_sight_38 rfl rfl ?_
        refine V_i2l dX12_sight_39 ?_
        refine V_ldc2 (v := 10) rfl kl_X12_434 dX12_sight_40 ?_
        refine V_ldc2 (v := 13) rfl kl_X12_436 dX12_sight_43 ?_
        obtain ⟨r_14, h_13, e_12, hf⟩ := ob_s hf
        refine V_csi (As := [.long ((x2).toInt64), .long 10, .long 13]) (rest := []) (c_X12_isIn (d := d) (Nat.le_trans (Nat.le_of_ble_eq_true rfl) hd) e_12) ML_X12_247 MS_X12_isIn rfl rfl rfl (Nat.le_of_ble_eq_true rfl) dX12_sight_46 ?_
        refine V_if_eq (tgt := 66) dX12_sight_49 (by decide) (fun c_15 => ?_) (fun c_15 => ?_)
        · have hf := it_s c_15 hf
          refine V_sub [] rfl ?_
          exact v_X12_sight_66 hd hf
        · have hf := if_s c_15 hf
          exact v_X12_sight_52 hd hf t_k0
theorem dX12_steady_0 : decode cX12_steady 0 = .ok (.aload_n 0, 1) := by decide +kernel
theorem dX12_steady_1 : decode cX12_steady 1 = .ok (.iconst 0, 1) := by decide +kernel
theorem dX12_steady_2 : decode cX12_steady 2 = .ok (.putfield 120, 3) := by decide +kernel
theorem dX12_steady_5 : decode cX12_steady 5 = .ok (.aload_n 0, 1) := by decide +kernel
theorem dX12_steady_6 : decode cX12_steady 6 = .ok (.getfield 283, 3) := by decide +kernel
theorem dX12_steady_9 : decode cX12_steady 9 = .ok (.ifCond .eq 11, 3) := by decide +kernel
theorem dX12_steady_12 : decode cX12_steady 12 = .ok (.aload_n 0, 1) := by decide +kernel
theorem dX12_steady_13 : decode cX12_steady 13 = .ok (.getfield 283, 3) := by decide +kernel
theorem dX12_steady_16 : decode cX12_steady 16 = .ok (.iconst 4, 1) := by decide +kernel
theorem dX12_steady_17 : decode cX12_steady 17 = .ok (.if_icmp .le 5, 3) := by decide +kernel
theorem dX12_steady_20 : decode cX12_steady 20 = .ok (.iconst (-1), 1) := by decide +kernel
theorem dX12_steady_21 : decode cX12_steady 21 = .ok (.ireturn, 1) := by decide +kernel
theorem dX12_steady_22 : decode cX12_steady 22 = .ok (.iconst 1, 1) := by decide +kernel
theorem dX12_steady_23 : decode cX12_steady 23 = .ok (.aload_n 0, 1) := by decide +kernel
theorem dX12_steady_24 : decode cX12_steady 24 = .ok (.getfield 283, 3) := by decide +kernel
theorem dX12_steady_27 : decode cX12_steady 27 = .ok (.ishl, 1) := by decide +kernel
theorem dX12_steady_28 : decode cX12_steady 28 = .ok (.iconst 1, 1) := by decide +kernel
theorem dX12_steady_29 : decode cX12_steady 29 = .ok (.isub, 1) := by decide +kernel
theorem dX12_steady_30 : decode cX12_steady 30 = .ok (.istore_n 1, 1) := by decide +kernel
theorem dX12_steady_31 : decode cX12_steady 31 = .ok (.aload_n 0, 1) := by decide +kernel
theorem dX12_steady_32 : decode cX12_steady 32 = .ok (.iload_n 1, 1) := by decide +kernel
theorem dX12_steady_33 : decode cX12_steady 33 = .ok (.invokevirtual 367, 3) := by decide +kernel
theorem dX12_steady_36 : decode cX12_steady 36 = .ok (.iconst 0, 1) := by decide +kernel
theorem dX12_steady_37 : decode cX12_steady 37 = .ok (.istore_n 2, 1) := by decide +kernel
theorem dX12_steady_38 : decode cX12_steady 38 = .ok (.iload_n 2, 1) := by decide +kernel
theorem dX12_steady_39 : decode cX12_steady 39 = .ok (.aload_n 0, 1) := by decide +kernel
theorem dX12_steady_40 : decode cX12_steady 40 = .ok (.getfield 353, 3) := by decide +kernel
theorem dX12_steady_43 : decode cX12_steady 43 = .ok (.if_icmp .ge 54, 3) := by decide +kernel
theorem dX12_steady_46 : decode cX12_steady 46 = .ok (.aload_n 0, 1) := by decide +kernel
theorem dX12_steady_47 : decode cX12_steady 47 = .ok (.iload_n 2, 1) := by decide +kernel
theorem dX12_steady_48 : decode cX12_steady 48 = .ok (.iload_n 1, 1) := by decide +kernel
theorem dX12_steady_49 : decode cX12_steady 49 = .ok (.aload_n 0, 1) := by decide +kernel
theorem dX12_steady_50 : decode cX12_steady 50 = .ok (.iconst 0, 1) := by decide +kernel
theorem dX12_steady_51 : decode cX12_steady 51 = .ok (.iload_n 1, 1) := by decide +kernel
theorem dX12_steady_52 : decode cX12_steady 52 = .ok (.invokevirtual 335, 3) := by decide +kernel
theorem dX12_steady_55 : decode cX12_steady 55 = .ok (.invokevirtual 370, 3) := by decide +kernel
theorem dX12_steady_58 : decode cX12_steady 58 = .ok (.iconst 0, 1) := by decide +kernel
theorem dX12_steady_59 : decode cX12_steady 59 = .ok (.istore_n 3, 1) := by decide +kernel
theorem dX12_steady_60 : decode cX12_steady 60 = .ok (.iload_n 3, 1) := by decide +kernel
theorem dX12_steady_61 : decode cX12_steady 61 = .ok (.aload_n 0, 1) := by decide +kernel
theorem dX12_steady_62 : decode cX12_steady 62 = .ok (.getfield 283, 3) := by decide +kernel
theorem dX12_steady_65 : decode cX12_steady 65 = .ok (.if_icmp .ge 26, 3) := by decide +kernel
theorem dX12_steady_68 : decode cX12_steady 68 = .ok (.aload_n 0, 1) := by decide +kernel
theorem dX12_steady_69 : decode cX12_steady 69 = .ok (.getfield 63, 3) := by decide +kernel
theorem dX12_steady_72 : decode cX12_steady 72 = .ok (.iload_n 3, 1) := by decide +kernel
theorem dX12_steady_73 : decode cX12_steady 73 = .ok (.iaload, 1) := by decide +kernel
theorem dX12_steady_74 : decode cX12_steady 74 = .ok (.aload_n 0, 1) := by decide +kernel
theorem dX12_steady_75 : decode cX12_steady 75 = .ok (.getfield 45, 3) := by decide +kernel
theorem dX12_steady_78 : decode cX12_steady 78 = .ok (.iload_n 3, 1) := by decide +kernel
theorem dX12_steady_79 : decode cX12_steady 79 = .ok (.iaload, 1) := by decide +kernel
theorem dX12_steady_80 : decode cX12_steady 80 = .ok (.if_icmp .eq 5, 3) := by decide +kernel
theorem dX12_steady_83 : decode cX12_steady 83 = .ok (.iconst 0, 1) := by decide +kernel
theorem dX12_steady_84 : decode cX12_steady 84 = .ok (.ireturn, 1) := by decide +kernel
theorem dX12_steady_85 : decode cX12_steady 85 = .ok (.iinc 3 1, 3) := by decide +kernel
theorem dX12_steady_88 : decode cX12_steady 88 = .ok (.goto (-28), 3) := by decide +kernel
theorem dX12_steady_91 : decode cX12_steady 91 = .ok (.iinc 2 1, 3) := by decide +kernel
theorem dX12_steady_94 : decode cX12_steady 94 = .ok (.goto (-56), 3) := by decide +kernel
theorem dX12_steady_97 : decode cX12_steady 97 = .ok (.iconst 1, 1) := by decide +kernel
theorem dX12_steady_98 : decode cX12_steady 98 = .ok (.ireturn, 1) := by decide +kernel
def f_X12_steady_20  (h : AH) : Option (Int32 × AH) :=
  some ((-1), h)
def f_X12_steady_60 (q38 : Nat → Int32 → Int32 → AH → Option (Int32 × AH)) : Nat → Nat → Int32 → Int32 → Int32 → AH → Option (Int32 × AH)
  | 0, _, _, _, _, _ => none
  | n + 1, k0, x1, x2, x3, h =>
    if (h.1 k0 20) ≤ x3 then (
      nm (x2 + 1) fun x2_2 =>
      q38 k0 x1 x2_2 h
    ) else (
      og (ix x3 (an (rf k0 28))) <|
      og (ix x3 (an (rf k0 22))) <|
      if (h.1 (rf k0 28) x3.toNatClampNeg) = (h.1 (rf k0 22) x3.toNatClampNeg) then (
        nm (x3 + 1) fun x3_7 =>
        f_X12_steady_60 q38 n k0 x1 x2 x3_7 h
      ) else (
        some (0, h)
      )
    )
def f_X12_steady_38 : Nat → Nat → Int32 → Int32 → AH → Option (Int32 × AH)
  | 0, _, _, _, _ => none
  | n + 1, k0, x1, x2, h =>
    if (h.1 k0 34) ≤ x2 then (
      some (1, h)
    ) else (
      ob (f_X12_doorOf k0 0 x1 h) fun r_4 h_3 =>
      ov (f_X12_goWay k0 x2 x1 r_4 h_3) fun h_6 =>
      f_X12_steady_60 (f_X12_steady_38 n) FU k0 x1 x2 0 h_6
    )
def f_X12_steady (k0 : Nat) (h : AH) : Option (Int32 × AH) :=
  nm (sI h k0 0 0) fun h_1 =>
  if (h_1.1 k0 20) = 0 then (
    f_X12_steady_20 h_1
  ) else (
    if (h_1.1 k0 20) ≤ 4 then (
      nm ((((1 : Int32) <<< ((h_1.1 k0 20) &&& 31)) - 1)) fun x1_5 =>
      ov (f_X12_allWays k0 x1_5 h_1) fun h_8 =>
      f_X12_steady_38 FU k0 x1_5 0 h_8
    ) else (
      f_X12_steady_20 h_1
    )
  )
set_option maxHeartbeats 4000000 in
set_option maxRecDepth 100000 in
theorem v_X12_steady_20 {E : EV} {d : Nat} (hd : 1461 ≤ d) {r0 : Int32} {h0 : AH}  {h : AH} (hf : f_X12_steady_20 h = some (r0, h0)) : V E (d + 1) K_X12_steady (ZI E r0 h0) h [] [] 20 := by
  unfold f_X12_steady_20 at hf
  refine V_iconst (v := (-1)) dX12_steady_20 (by decide) ?_
  exact V_iret rfl (so_s hf) dX12_steady_21
set_option maxHeartbeats 4000000 in
set_option maxRecDepth 100000 in
theorem v_X12_steady_60 {E : EV} {d : Nat} (hd : 1461 ≤ d) {r0 : Int32} {h0 : AH} {q38 : Nat → Int32 → Int32 → AH → Option (Int32 × AH)} (cq38 : ∀ (k0 : Nat) (x1 : Int32) (x2 : Int32) (h : AH), q38 k0 x1 x2 h = some (r0, h0) → kd k0 = (0, 12) → V E (d + 1) K_X12_steady (ZI E r0 h0) h [(0, .ref k0), (1, .int x1), (2, .int x2)] [] 38) : ∀ (n : Nat) (k0 : Nat) (x1 : Int32) (x2 : Int32) (x3 : Int32) (h : AH), f_X12_steady_60 q38 n k0 x1 x2 x3 h = some (r0, h0) → kd k0 = (0, 12) → V E (d + 1) K_X12_steady (ZI E r0 h0) h [(0, .ref k0), (1, .int x1), (2, .int x2), (3, .int x3)] [] 60 := by
  intro n
  induction n with
  | zero =>
    intro k0 x1 x2 x3 h hf
    rw [f_X12_steady_60] at hf
    cases hf
  | succ n ih =>
    intro k0 x1 x2 x3 h hf t_k0
    rw [f_X12_steady_60] at hf
    refine V_iload_n 3 dX12_steady_60 rfl rfl ?_
    refine V_aload_n 0 dX12_steady_61 rfl rfl ?_
    refine V_getI F_X12_283 rfl t_k0 rfl dX12_steady_62 ?_
    refine V_ic_ge (tgt := 91) dX12_steady_65 (by decide) (fun c_1 => ?_) (fun c_1 => ?_)
    · have hf := it_s c_1 hf
      obtain ⟨x2_2, e_3, hf⟩ := nm_s hf
      refine V_iinc (a := 1) (L' := [(2, .int x2_2), (0, .ref k0), (1, .int x1), (3, .int x3)]) 2 dX12_steady_91 rfl (by decide) (Nat.le_of_ble_eq_true rfl) e_3 rfl ?_
      refine V_goto (tgt := 38) dX12_steady_94 (by decide) ?_
      refine V_sub [1, 2, 0] rfl ?_
      exact cq38 _ _ _ _ hf t_k0
    · have hf := if_s c_1 hf
      refine V_aload_n 0 dX12_steady_68 rfl rfl ?_
      refine V_getR F_X12_63 rfl t_k0 rfl dX12_steady_69 ?_
      refine V_iload_n 3 dX12_steady_72 rfl rfl ?_
      obtain ⟨b_4, hf⟩ := og_s hf
      refine V_iald (rfA t_k0 (Nat.le_of_ble_eq_true rfl) rfl rfl (by decide)) b_4 dX12_steady_73 ?_
      refine V_aload_n 0 dX12_steady_74 rfl rfl ?_
      refine V_getR F_X12_45 rfl t_k0 rfl dX12_steady_75 ?_
      refine V_iload_n 3 dX12_steady_78 rfl rfl ?_
      obtain ⟨b_5, hf⟩ := og_s hf
      refine V_iald (rfA t_k0 (Nat.le_of_ble_eq_true rfl) rfl rfl (by decide)) b_5 dX12_steady_79 ?_
      refine V_ic_eq (tgt := 85) dX12_steady_80 (by decide) (fun c_6 => ?_) (fun c_6 => ?_)
      · have hf := it_s c_6 hf
        obtain ⟨x3_7, e_8, hf⟩ := nm_s hf
        refine V_iinc (a := 1) (L' := [(3, .int x3_7), (0, .ref k0), (1, .int x1), (2, .int x2)]) 3 dX12_steady_85 rfl (by decide) (Nat.le_of_ble_eq_true rfl) e_8 rfl ?_
        refine V_goto (tgt := 60) dX12_steady_88 (by decide) ?_
        refine V_sub [1, 2, 3, 0] rfl ?_
        exact ih _ _ _ _ _ hf t_k0
      · have hf := if_s c_6 hf
        refine V_iconst (v := 0) dX12_steady_83 (by decide) ?_
        exact V_iret rfl (so_s hf) dX12_steady_84
set_option maxHeartbeats 4000000 in
set_option maxRecDepth 100000 in
theorem v_X12_steady_38 {E : EV} {d : Nat} (hd : 1461 ≤ d) {r0 : Int32} {h0 : AH} : ∀ (n : Nat) (k0 : Nat) (x1 : Int32) (x2 : Int32) (h : AH), f_X12_steady_38 n k0 x1 x2 h = some (r0, h0) → kd k0 = (0, 12) → V E (d + 1) K_X12_steady (ZI E r0 h0) h [(0, .ref k0), (1, .int x1), (2, .int x2)] [] 38 := by
  intro n
  induction n with
  | zero =>
    intro k0 x1 x2 h hf
    rw [f_X12_steady_38] at hf
    cases hf
  | succ n ih =>
    intro k0 x1 x2 h hf t_k0
    rw [f_X12_steady_38] at hf
    refine V_iload_n 2 dX12_steady_38 rfl rfl ?_
    refine V_aload_n 0 dX12_steady_39 rfl rfl ?_
    refine V_getI F_X12_353 rfl t_k0 rfl dX12_steady_40 ?_
    refine V_ic_ge (tgt := 97) dX12_steady_43 (by decide) (fun c_1 => ?_) (fun c_1 => ?_)
    · have hf := it_s c_1 hf
      refine V_iconst (v := 1) dX12_steady_97 (by decide) ?_
      exact V_iret rfl (so_s hf) dX12_steady_98
    · have hf := if_s c_1 hf
      refine V_aload_n 0 dX12_steady_46 rfl rfl ?_
      refine V_iload_n 2 dX12_steady_47 rfl rfl ?_
      refine V_iload_n 1 dX12_steady_48 rfl rfl ?_
      refine V_aload_n 0 dX12_steady_49 rfl rfl ?_
      refine V_iconst (v := 0) dX12_steady_50 (by decide) ?_
      refine V_iload_n 1 dX12_steady_51 rfl rfl ?_
      obtain ⟨r_4, h_3, e_2, hf⟩ := ob_s hf
      refine V_cvi (As := [.int 0, .int x1]) (rest := [.int x1, .int x2, .ref k0]) (c_X12_doorOf (d := d) (Nat.le_trans (Nat.le_of_ble_eq_true rfl) hd) e_2 t_k0) ML_X12_335 MV_X12_doorOf rfl t_k0 rfl rfl (Nat.le_of_ble_eq_true rfl) dX12_steady_52 ?_
      obtain ⟨h_6, e_5, hf⟩ := ov_s hf
      refine V_cvv (As := [.int x2, .int x1, .int r_4]) (rest := []) (c_X12_goWay (d := d) (Nat.le_trans (Nat.le_of_ble_eq_true rfl) hd) e_5 t_k0) ML_X12_370 MV_X12_goWay rfl t_k0 rfl rfl (Nat.le_of_ble_eq_true rfl) dX12_steady_55 ?_
      refine V_iconst (v := 0) dX12_steady_58 (by decide) ?_
      refine V_istore_n (L' := [(3, .int 0), (0, .ref k0), (1, .int x1), (2, .int x2)]) dX12_steady_59 rfl (Nat.le_of_ble_eq_true rfl) rfl rfl ?_
      refine V_sub [1, 2, 3, 0] rfl ?_
      exact v_X12_steady_60 hd ih FU _ _ _ _ _ hf t_k0
set_option maxHeartbeats 4000000 in
set_option maxRecDepth 100000 in
theorem c_X12_steady {E : EV} {d : Nat} (hd : 1461 + 1 ≤ d) {k0 : Nat} {h : AH} {r0 : Int32} {h0 : AH} (hf : f_X12_steady k0 h = some (r0, h0)) (t_k0 : kd k0 = (0, 12)) : Con E d K_X12_steady (ZI E r0 h0) [.ref k0] h := by
  obtain ⟨d, rfl⟩ : ∃ d', d = d' + 1 := ⟨d - 1, by omega⟩
  have hd := Nat.le_of_succ_le_succ hd
  refine Con.ofV rfl (Nat.le_of_ble_eq_true rfl) ?_
  unfold f_X12_steady at hf
  show V E (d + 1) K_X12_steady (ZI E r0 h0) h [(0, .ref k0)] [] 0
  refine V_aload_n 0 dX12_steady_0 rfl rfl ?_
  refine V_iconst (v := 0) dX12_steady_1 (by decide) ?_
  obtain ⟨h_1, e_2, hf⟩ := nm_s hf
  refine V_putI P_X12_120 rfl t_k0 rfl e_2 dX12_steady_2 ?_
  refine V_aload_n 0 dX12_steady_5 rfl rfl ?_
  refine V_getI F_X12_283 rfl t_k0 rfl dX12_steady_6 ?_
  refine V_if_eq (tgt := 20) dX12_steady_9 (by decide) (fun c_3 => ?_) (fun c_3 => ?_)
  · have hf := it_s c_3 hf
    refine V_sub [] rfl ?_
    exact v_X12_steady_20 hd hf
  · have hf := if_s c_3 hf
    refine V_aload_n 0 dX12_steady_12 rfl rfl ?_
    refine V_getI F_X12_283 rfl t_k0 rfl dX12_steady_13 ?_
    refine V_iconst (v := 4) dX12_steady_16 (by decide) ?_
    refine V_ic_le (tgt := 22) dX12_steady_17 (by decide) (fun c_4 => ?_) (fun c_4 => ?_)
    · have hf := it_s c_4 hf
      refine V_iconst (v := 1) dX12_steady_22 (by decide) ?_
      refine V_aload_n 0 dX12_steady_23 rfl rfl ?_
      refine V_getI F_X12_283 rfl t_k0 rfl dX12_steady_24 ?_
      refine V_ishl dX12_steady_27 ?_
      refine V_iconst (v := 1) dX12_steady_28 (by decide) ?_
      refine V_isub dX12_steady_29 ?_
      obtain ⟨x1_5, e_6, hf⟩ := nm_s hf
      refine V_istore_n (L' := [(1, .int x1_5), (0, .ref k0)]) dX12_steady_30 rfl (Nat.le_of_ble_eq_true rfl) e_6 rfl ?_
      refine V_aload_n 1 dX12_steady_31 rfl rfl ?_
      refine V_iload_n 0 dX12_steady_32 rfl rfl ?_
      obtain ⟨h_8, e_7, hf⟩ := ov_s hf
      refine V_cvv (As := [.int x1_5]) (rest := []) (c_X12_allWays (d := d) (Nat.le_trans (Nat.le_of_ble_eq_true rfl) hd) e_7 t_k0) ML_X12_367 MV_X12_allWays rfl t_k0 rfl rfl (Nat.le_of_ble_eq_true rfl) dX12_steady_33 ?_
      refine V_iconst (v := 0) dX12_steady_36 (by decide) ?_
      refine V_istore_n (L' := [(2, .int 0), (1, .int x1_5), (0, .ref k0)]) dX12_steady_37 rfl (Nat.le_of_ble_eq_true rfl) rfl rfl ?_
      refine V_sub [2, 1, 0] rfl ?_
      exact v_X12_steady_38 hd FU _ _ _ _ hf t_k0
    · have hf := if_s c_4 hf
      refine V_sub [] rfl ?_
      exact v_X12_steady_20 hd hf
theorem dX12_swap_0 : decode cX12_swap 0 = .ok (.aload_n 0, 1) := by decide +kernel
theorem dX12_swap_1 : decode cX12_swap 1 = .ok (.iconst 0, 1) := by decide +kernel
theorem dX12_swap_2 : decode cX12_swap 2 = .ok (.putfield 120, 3) := by decide +kernel
theorem dX12_swap_5 : decode cX12_swap 5 = .ok (.aload_n 0, 1) := by decide +kernel
theorem dX12_swap_6 : decode cX12_swap 6 = .ok (.iload_n 1, 1) := by decide +kernel
theorem dX12_swap_7 : decode cX12_swap 7 = .ok (.iload_n 2, 1) := by decide +kernel
theorem dX12_swap_8 : decode cX12_swap 8 = .ok (.iload 4, 2) := by decide +kernel
theorem dX12_swap_10 : decode cX12_swap 10 = .ok (.invokevirtual 360, 3) := by decide +kernel
theorem dX12_swap_13 : decode cX12_swap 13 = .ok (.ifCond .eq 37, 3) := by decide +kernel
theorem dX12_swap_16 : decode cX12_swap 16 = .ok (.aload_n 0, 1) := by decide +kernel
theorem dX12_swap_17 : decode cX12_swap 17 = .ok (.iload 5, 2) := by decide +kernel
theorem dX12_swap_19 : decode cX12_swap 19 = .ok (.invokevirtual 295, 3) := by decide +kernel
theorem dX12_swap_22 : decode cX12_swap 22 = .ok (.ifCond .eq 28, 3) := by decide +kernel
theorem dX12_swap_25 : decode cX12_swap 25 = .ok (.iload_n 2, 1) := by decide +kernel
theorem dX12_swap_26 : decode cX12_swap 26 = .ok (.iload 5, 2) := by decide +kernel
theorem dX12_swap_28 : decode cX12_swap 28 = .ok (.invokestatic 258, 3) := by decide +kernel
theorem dX12_swap_31 : decode cX12_swap 31 = .ok (.ifCond .eq 19, 3) := by decide +kernel
theorem dX12_swap_34 : decode cX12_swap 34 = .ok (.iload 4, 2) := by decide +kernel
theorem dX12_swap_36 : decode cX12_swap 36 = .ok (.iload 5, 2) := by decide +kernel
theorem dX12_swap_38 : decode cX12_swap 38 = .ok (.if_icmp .eq 12, 3) := by decide +kernel
theorem dX12_swap_41 : decode cX12_swap 41 = .ok (.aload_n 0, 1) := by decide +kernel
theorem dX12_swap_42 : decode cX12_swap 42 = .ok (.iload_n 2, 1) := by decide +kernel
theorem dX12_swap_43 : decode cX12_swap 43 = .ok (.iload_n 3, 1) := by decide +kernel
theorem dX12_swap_44 : decode cX12_swap 44 = .ok (.invokevirtual 346, 3) := by decide +kernel
theorem dX12_swap_47 : decode cX12_swap 47 = .ok (.ifCond .ne 7, 3) := by decide +kernel
theorem dX12_swap_50 : decode cX12_swap 50 = .ok (.ldc_w 352, 3) := by decide +kernel
theorem dX12_swap_53 : decode cX12_swap 53 = .ok (.ireturn, 1) := by decide +kernel
theorem dX12_swap_54 : decode cX12_swap 54 = .ok (.aload_n 0, 1) := by decide +kernel
theorem dX12_swap_55 : decode cX12_swap 55 = .ok (.aload_n 0, 1) := by decide +kernel
theorem dX12_swap_56 : decode cX12_swap 56 = .ok (.iload_n 1, 1) := by decide +kernel
theorem dX12_swap_57 : decode cX12_swap 57 = .ok (.iload_n 2, 1) := by decide +kernel
theorem dX12_swap_58 : decode cX12_swap 58 = .ok (.invokevirtual 335, 3) := by decide +kernel
theorem dX12_swap_61 : decode cX12_swap 61 = .ok (.invokevirtual 338, 3) := by decide +kernel
theorem dX12_swap_64 : decode cX12_swap 64 = .ok (.aload_n 0, 1) := by decide +kernel
theorem dX12_swap_65 : decode cX12_swap 65 = .ok (.iload 4, 2) := by decide +kernel
theorem dX12_swap_67 : decode cX12_swap 67 = .ok (.invokevirtual 373, 3) := by decide +kernel
theorem dX12_swap_70 : decode cX12_swap 70 = .ok (.aload_n 0, 1) := by decide +kernel
theorem dX12_swap_71 : decode cX12_swap 71 = .ok (.iload 5, 2) := by decide +kernel
theorem dX12_swap_73 : decode cX12_swap 73 = .ok (.invokevirtual 373, 3) := by decide +kernel
theorem dX12_swap_76 : decode cX12_swap 76 = .ok (.iadd, 1) := by decide +kernel
theorem dX12_swap_77 : decode cX12_swap 77 = .ok (.istore 6, 2) := by decide +kernel
theorem dX12_swap_79 : decode cX12_swap 79 = .ok (.iconst 0, 1) := by decide +kernel
theorem dX12_swap_80 : decode cX12_swap 80 = .ok (.istore 7, 2) := by decide +kernel
theorem dX12_swap_82 : decode cX12_swap 82 = .ok (.iload 7, 2) := by decide +kernel
theorem dX12_swap_84 : decode cX12_swap 84 = .ok (.aload_n 0, 1) := by decide +kernel
theorem dX12_swap_85 : decode cX12_swap 85 = .ok (.getfield 321, 3) := by decide +kernel
theorem dX12_swap_88 : decode cX12_swap 88 = .ok (.if_icmp .ge 57, 3) := by decide +kernel
theorem dX12_swap_91 : decode cX12_swap 91 = .ok (.aload_n 0, 1) := by decide +kernel
theorem dX12_swap_92 : decode cX12_swap 92 = .ok (.getfield 60, 3) := by decide +kernel
theorem dX12_swap_95 : decode cX12_swap 95 = .ok (.iload 7, 2) := by decide +kernel
theorem dX12_swap_97 : decode cX12_swap 97 = .ok (.aload_n 0, 1) := by decide +kernel
theorem dX12_swap_98 : decode cX12_swap 98 = .ok (.getfield 60, 3) := by decide +kernel
theorem dX12_swap_101 : decode cX12_swap 101 = .ok (.iload 7, 2) := by decide +kernel
theorem dX12_swap_103 : decode cX12_swap 103 = .ok (.iaload, 1) := by decide +kernel
theorem dX12_swap_104 : decode cX12_swap 104 = .ok (.iload 4, 2) := by decide +kernel
theorem dX12_swap_106 : decode cX12_swap 106 = .ok (.if_icmp .ne 8, 3) := by decide +kernel
theorem dX12_swap_109 : decode cX12_swap 109 = .ok (.iload 5, 2) := by decide +kernel
theorem dX12_swap_111 : decode cX12_swap 111 = .ok (.goto 27, 3) := by decide +kernel
theorem dX12_swap_114 : decode cX12_swap 114 = .ok (.aload_n 0, 1) := by decide +kernel
theorem dX12_swap_115 : decode cX12_swap 115 = .ok (.getfield 60, 3) := by decide +kernel
theorem dX12_swap_118 : decode cX12_swap 118 = .ok (.iload 7, 2) := by decide +kernel
theorem dX12_swap_120 : decode cX12_swap 120 = .ok (.iaload, 1) := by decide +kernel
theorem dX12_swap_121 : decode cX12_swap 121 = .ok (.iload 5, 2) := by decide +kernel
theorem dX12_swap_123 : decode cX12_swap 123 = .ok (.if_icmp .ne 8, 3) := by decide +kernel
theorem dX12_swap_126 : decode cX12_swap 126 = .ok (.iload 4, 2) := by decide +kernel
theorem dX12_swap_128 : decode cX12_swap 128 = .ok (.goto 10, 3) := by decide +kernel
theorem dX12_swap_131 : decode cX12_swap 131 = .ok (.aload_n 0, 1) := by decide +kernel
theorem dX12_swap_132 : decode cX12_swap 132 = .ok (.getfield 60, 3) := by decide +kernel
theorem dX12_swap_135 : decode cX12_swap 135 = .ok (.iload 7, 2) := by decide +kernel
theorem dX12_swap_137 : decode cX12_swap 137 = .ok (.iaload, 1) := by decide +kernel
theorem dX12_swap_138 : decode cX12_swap 138 = .ok (.iastore, 1) := by decide +kernel
theorem dX12_swap_139 : decode cX12_swap 139 = .ok (.iinc 7 1, 3) := by decide +kernel
theorem dX12_swap_142 : decode cX12_swap 142 = .ok (.goto (-60), 3) := by decide +kernel
theorem dX12_swap_145 : decode cX12_swap 145 = .ok (.aload_n 0, 1) := by decide +kernel
theorem dX12_swap_146 : decode cX12_swap 146 = .ok (.aload_n 0, 1) := by decide +kernel
theorem dX12_swap_147 : decode cX12_swap 147 = .ok (.iload_n 1, 1) := by decide +kernel
theorem dX12_swap_148 : decode cX12_swap 148 = .ok (.iload_n 2, 1) := by decide +kernel
theorem dX12_swap_149 : decode cX12_swap 149 = .ok (.invokevirtual 335, 3) := by decide +kernel
theorem dX12_swap_152 : decode cX12_swap 152 = .ok (.invokevirtual 338, 3) := by decide +kernel
theorem dX12_swap_155 : decode cX12_swap 155 = .ok (.aload_n 0, 1) := by decide +kernel
theorem dX12_swap_156 : decode cX12_swap 156 = .ok (.iload 4, 2) := by decide +kernel
theorem dX12_swap_158 : decode cX12_swap 158 = .ok (.invokevirtual 373, 3) := by decide +kernel
theorem dX12_swap_161 : decode cX12_swap 161 = .ok (.aload_n 0, 1) := by decide +kernel
theorem dX12_swap_162 : decode cX12_swap 162 = .ok (.iload 5, 2) := by decide +kernel
theorem dX12_swap_164 : decode cX12_swap 164 = .ok (.invokevirtual 373, 3) := by decide +kernel
theorem dX12_swap_167 : decode cX12_swap 167 = .ok (.iadd, 1) := by decide +kernel
theorem dX12_swap_168 : decode cX12_swap 168 = .ok (.iload 6, 2) := by decide +kernel
theorem dX12_swap_170 : decode cX12_swap 170 = .ok (.isub, 1) := by decide +kernel
theorem dX12_swap_171 : decode cX12_swap 171 = .ok (.ireturn, 1) := by decide +kernel
def f_X12_swap_50  (h : AH) : Option (Int32 × AH) :=
  some ((-1000000), h)
def f_X12_swap_138 (q82 : Nat → Int32 → Int32 → Int32 → Int32 → Int32 → Int32 → AH → Option (Int32 × AH)) (k0 : Nat) (x1 : Int32) (x2 : Int32) (x4 : Int32) (x5 : Int32) (x6 : Int32) (x7 : Int32) (s0 : Int32) (s1 : Int32) (sk2 : Nat) (h : AH) : Option (Int32 × AH) :=
  og (ix s1 (an sk2)) <|
  nm (sI h sk2 s1.toNatClampNeg s0) fun h_2 =>
  nm (x7 + 1) fun x7_4 =>
  q82 k0 x1 x2 x4 x5 x6 x7_4 h_2
def f_X12_swap_82 : Nat → Nat → Int32 → Int32 → Int32 → Int32 → Int32 → Int32 → AH → Option (Int32 × AH)
  | 0, _, _, _, _, _, _, _, _ => none
  | n + 1, k0, x1, x2, x4, x5, x6, x7, h =>
    if (h.1 k0 29) ≤ x7 then (
      ob (f_X12_doorOf k0 x1 x2 h) fun r_4 h_3 =>
      ov (f_X12_go k0 r_4 h_3) fun h_6 =>
      ob (f_X12_worthOf k0 x4 h_6) fun r_9 h_8 =>
      ob (f_X12_worthOf k0 x5 h_8) fun r_12 h_11 =>
      some (((r_9 + r_12) - x6), h_11)
    ) else (
      og (ix x7 (an (rf k0 27))) <|
      if (h.1 (rf k0 27) x7.toNatClampNeg) = x4 then (
        f_X12_swap_138 (f_X12_swap_82 n) k0 x1 x2 x4 x5 x6 x7 x5 x7 (rf k0 27) h
      ) else (
        og (ix x7 (an (rf k0 27))) <|
        if (h.1 (rf k0 27) x7.toNatClampNeg) = x5 then (
          f_X12_swap_138 (f_X12_swap_82 n) k0 x1 x2 x4 x5 x6 x7 x4 x7 (rf k0 27) h
        ) else (
          og (ix x7 (an (rf k0 27))) <|
          f_X12_swap_138 (f_X12_swap_82 n) k0 x1 x2 x4 x5 x6 x7 (h.1 (rf k0 27) x7.toNatClampNeg) x7 (rf k0 27) h
        )
      )
    )
def f_X12_swap (k0 : Nat) (x1 : Int32) (x2 : Int32) (x3 : Int32) (x4 : Int32) (x5 : Int32) (h : AH) : Option (Int32 × AH) :=
  nm (sI h k0 0 0) fun h_1 =>
  ob (f_X12_isGuest k0 x1 x2 x4 h_1) fun r_5 h_4 =>
  if r_5 = 0 then (
    f_X12_swap_50 h_4
  ) else (
    ob (f_X12_isPerson k0 x5 h_4) fun r_9 h_8 =>
    if r_9 = 0 then (
      f_X12_swap_50 h_8
    ) else (
      ob (f_X12_has x2 x5 h_8) fun r_13 h_12 =>
      if r_13 = 0 then (
        f_X12_swap_50 h_12
      ) else (
        if x4 = x5 then (
          f_X12_swap_50 h_12
        ) else (
          ob (f_X12_layOrder k0 x2 x3 h_12) fun r_18 h_17 =>
          if r_18 = 0 then (
            f_X12_swap_50 h_17
          ) else (
            ob (f_X12_doorOf k0 x1 x2 h_17) fun r_22 h_21 =>
            ov (f_X12_go k0 r_22 h_21) fun h_24 =>
            ob (f_X12_worthOf k0 x4 h_24) fun r_27 h_26 =>
            ob (f_X12_worthOf k0 x5 h_26) fun r_30 h_29 =>
            nm ((r_27 + r_30)) fun x6_31 =>
            f_X12_swap_82 FU k0 x1 x2 x4 x5 x6_31 0 h_29
          )
        )
      )
    )
  )
set_option maxHeartbeats 4000000 in
set_option maxRecDepth 100000 in
theorem v_X12_swap_50 {E : EV} {d : Nat} (hd : 1460 ≤ d) {r0 : Int32} {h0 : AH}  {h : AH} (hf : f_X12_swap_50 h = some (r0, h0)) : V E (d + 1) K_X12_swap (ZI E r0 h0) h [] [] 50 := by
  unfold f_X12_swap_50 at hf
  refine V_ldcw (v := (-1000000)) rfl kc_X12_352 dX12_swap_50 ?_
  exact V_iret rfl (so_s hf) dX12_swap_53
set_option maxHeartbeats 4000000 in
set_option maxRecDepth 100000 in
theorem v_X12_swap_138 {E : EV} {d : Nat} (hd : 1460 ≤ d) {r0 : Int32} {h0 : AH} {q82 : Nat → Int32 → Int32 → Int32 → Int32 → Int32 → Int32 → AH → Option (Int32 × AH)} (cq82 : ∀ (k0 : Nat) (x1 : Int32) (x2 : Int32) (x4 : Int32) (x5 : Int32) (x6 : Int32) (x7 : Int32) (h : AH), q82 k0 x1 x2 x4 x5 x6 x7 h = some (r0, h0) → kd k0 = (0, 12) → V E (d + 1) K_X12_swap (ZI E r0 h0) h [(0, .ref k0), (1, .int x1), (2, .int x2), (4, .int x4), (5, .int x5), (6, .int x6), (7, .int x7)] [] 82) {k0 : Nat} {x1 : Int32} {x2 : Int32} {x4 : Int32} {x5 : Int32} {x6 : Int32} {x7 : Int32} {s0 : Int32} {s1 : Int32} {sk2 : Nat} {h : AH} (hf : f_X12_swap_138 q82 k0 x1 x2 x4 x5 x6 x7 s0 s1 sk2 h = some (r0, h0)) (t_k0 : kd k0 = (0, 12)) (t_sk2 : (kd sk2).1 = 1) : V E (d + 1) K_X12_swap (ZI E r0 h0) h [(0, .ref k0), (1, .int x1), (2, .int x2), (4, .int x4), (5, .int x5), (6, .int x6), (7, .int x7)] [.int s0, .int s1, .ref sk2] 138 := by
  unfold f_X12_swap_138 at hf
  obtain ⟨b_1, hf⟩ := og_s hf
  obtain ⟨h_2, e_3, hf⟩ := nm_s hf
  refine V_iast t_sk2 b_1 e_3 dX12_swap_138 ?_
  obtain ⟨x7_4, e_5, hf⟩ := nm_s hf
  refine V_iinc (a := 1) (L' := [(7, .int x7_4), (0, .ref k0), (1, .int x1), (2, .int x2), (4, .int x4), (5, .int x5), (6, .int x6)]) 6 dX12_swap_139 rfl (by decide) (Nat.le_of_ble_eq_true rfl) e_5 rfl ?_
  refine V_goto (tgt := 82) dX12_swap_142 (by decide) ?_
  refine V_sub [1, 2, 3, 4, 5, 6, 0] rfl ?_
  exact cq82 _ _ _ _ _ _ _ _ hf t_k0
set_option maxHeartbeats 4000000 in
set_option maxRecDepth 100000 in
theorem v_X12_swap_82 {E : EV} {d : Nat} (hd : 1460 ≤ d) {r0 : Int32} {h0 : AH} : ∀ (n : Nat) (k0 : Nat) (x1 : Int32) (x2 : Int32) (x4 : Int32) (x5 : Int32) (x6 : Int32) (x7 : Int32) (h : AH), f_X12_swap_82 n k0 x1 x2 x4 x5 x6 x7 h = some (r0, h0) → kd k0 = (0, 12) → V E (d + 1) K_X12_swap (ZI E r0 h0) h [(0, .ref k0), (1, .int x1), (2, .int x2), (4, .int x4), (5, .int x5), (6, .int x6), (7, .int x7)] [] 82 := by
  intro n
  induction n with
  | zero =>
    intro k0 x1 x2 x4 x5 x6 x7 h hf
    rw [f_X12_swap_82] at hf
    cases hf
  | succ n ih =>
    intro k0 x1 x2 x4 x5 x6 x7 h hf t_k0
    rw [f_X12_swap_82] at hf
    refine V_iload 6 dX12_swap_82 rfl ?_
    refine V_aload_n 0 dX12_swap_84 rfl rfl ?_
    refine V_getI F_X12_321 rfl t_k0 rfl dX12_swap_85 ?_
    refine V_ic_ge (tgt := 145) dX12_swap_88 (by decide) (fun c_1 => ?_) (fun c_1 => ?_)
    · have hf := it_s c_1 hf
      refine V_aload_n 0 dX12_swap_145 rfl rfl ?_
      refine V_aload_n 0 dX12_swap_146 rfl rfl ?_
      refine V_iload_n 1 dX12_swap_147 rfl rfl ?_
      refine V_iload_n 2 dX12_swap_148 rfl rfl ?_
      obtain ⟨r_4, h_3, e_2, hf⟩ := ob_s hf
      refine V_cvi (As := [.int x1, .int x2]) (rest := [.ref k0]) (c_X12_doorOf (d := d) (Nat.le_trans (Nat.le_of_ble_eq_true rfl) hd) e_2 t_k0) ML_X12_335 MV_X12_doorOf rfl t_k0 rfl rfl (Nat.le_of_ble_eq_true rfl) dX12_swap_149 ?_
      obtain ⟨h_6, e_5, hf⟩ := ov_s hf
      refine V_cvv (As := [.int r_4]) (rest := []) (c_X12_go (d := d) (Nat.le_trans (Nat.le_of_ble_eq_true rfl) hd) e_5 t_k0) ML_X12_338 MV_X12_go rfl t_k0 rfl rfl (Nat.le_of_ble_eq_true rfl) dX12_swap_152 ?_
      refine V_aload_n 0 dX12_swap_155 rfl rfl ?_
      refine V_iload 3 dX12_swap_156 rfl ?_
      obtain ⟨r_9, h_8, e_7, hf⟩ := ob_s hf
      refine V_cvi (As := [.int x4]) (rest := []) (c_X12_worthOf (d := d) (Nat.le_trans (Nat.le_of_ble_eq_true rfl) hd) e_7 t_k0) ML_X12_373 MV_X12_worthOf rfl t_k0 rfl rfl (Nat.le_of_ble_eq_true rfl) dX12_swap_158 ?_
      refine V_aload_n 0 dX12_swap_161 rfl rfl ?_
      refine V_iload 4 dX12_swap_162 rfl ?_
      obtain ⟨r_12, h_11, e_10, hf⟩ := ob_s hf
      refine V_cvi (As := [.int x5]) (rest := [.int r_9]) (c_X12_worthOf (d := d) (Nat.le_trans (Nat.le_of_ble_eq_true rfl) hd) e_10 t_k0) ML_X12_373 MV_X12_worthOf rfl t_k0 rfl rfl (Nat.le_of_ble_eq_true rfl) dX12_swap_164 ?_
      refine V_iadd dX12_swap_167 ?_
      refine V_iload 5 dX12_swap_168 rfl ?_
      refine V_isub dX12_swap_170 ?_
      exact V_iret rfl (so_s hf) dX12_swap_171
    · have hf := if_s c_1 hf
      refine V_aload_n 0 dX12_swap_91 rfl rfl ?_
      refine V_getR F_X12_60 rfl t_k0 rfl dX12_swap_92 ?_
      refine V_iload 6 dX12_swap_95 rfl ?_
      refine V_aload_n 0 dX12_swap_97 rfl rfl ?_
      refine V_getR F_X12_60 rfl t_k0 rfl dX12_swap_98 ?_
      refine V_iload 6 dX12_swap_101 rfl ?_
      obtain ⟨b_13, hf⟩ := og_s hf
      refine V_iald (rfA t_k0 (Nat.le_of_ble_eq_true rfl) rfl rfl (by decide)) b_13 dX12_swap_103 ?_
      refine V_iload 3 dX12_swap_104 rfl ?_
      refine V_ic_ne (tgt := 114) dX12_swap_106 (by decide) (fun c_14 => ?_) (fun c_14 => ?_)
      · have hf := if_s c_14 hf
        refine V_aload_n 0 dX12_swap_114 rfl rfl ?_
        refine V_getR F_X12_60 rfl t_k0 rfl dX12_swap_115 ?_
        refine V_iload 6 dX12_swap_118 rfl ?_
        obtain ⟨b_15, hf⟩ := og_s hf
        refine V_iald (rfA t_k0 (Nat.le_of_ble_eq_true rfl) rfl rfl (by decide)) b_15 dX12_swap_120 ?_
        refine V_iload 4 dX12_swap_121 rfl ?_
        refine V_ic_ne (tgt := 131) dX12_swap_123 (by decide) (fun c_16 => ?_) (fun c_16 => ?_)
        · have hf := if_s c_16 hf
          refine V_aload_n 0 dX12_swap_131 rfl rfl ?_
          refine V_getR F_X12_60 rfl t_k0 rfl dX12_swap_132 ?_
          refine V_iload 6 dX12_swap_135 rfl ?_
          obtain ⟨b_17, hf⟩ := og_s hf
          refine V_iald (rfA t_k0 (Nat.le_of_ble_eq_true rfl) rfl rfl (by decide)) b_17 dX12_swap_137 ?_
          exact v_X12_swap_138 hd ih hf t_k0 (rfA t_k0 (Nat.le_of_ble_eq_true rfl) rfl rfl (by decide))
        · have hf := it_s c_16 hf
          refine V_iload 3 dX12_swap_126 rfl ?_
          refine V_goto (tgt := 138) dX12_swap_128 (by decide) ?_
          exact v_X12_swap_138 hd ih hf t_k0 (rfA t_k0 (Nat.le_of_ble_eq_true rfl) rfl rfl (by decide))
      · have hf := it_s c_14 hf
        refine V_iload 4 dX12_swap_109 rfl ?_
        refine V_goto (tgt := 138) dX12_swap_111 (by decide) ?_
        exact v_X12_swap_138 hd ih hf t_k0 (rfA t_k0 (Nat.le_of_ble_eq_true rfl) rfl rfl (by decide))
set_option maxHeartbeats 4000000 in
set_option maxRecDepth 100000 in
theorem c_X12_swap {E : EV} {d : Nat} (hd : 1460 + 1 ≤ d) {k0 : Nat} {x1 : Int32} {x2 : Int32} {x3 : Int32} {x4 : Int32} {x5 : Int32} {h : AH} {r0 : Int32} {h0 : AH} (hf : f_X12_swap k0 x1 x2 x3 x4 x5 h = some (r0, h0)) (t_k0 : kd k0 = (0, 12)) : Con E d K_X12_swap (ZI E r0 h0) [.ref k0, .int x1, .int x2, .int x3, .int x4, .int x5] h := by
  obtain ⟨d, rfl⟩ : ∃ d', d = d' + 1 := ⟨d - 1, by omega⟩
  have hd := Nat.le_of_succ_le_succ hd
  refine Con.ofV rfl (Nat.le_of_ble_eq_true rfl) ?_
  unfold f_X12_swap at hf
  show V E (d + 1) K_X12_swap (ZI E r0 h0) h [(0, .ref k0), (1, .int x1), (2, .int x2), (3, .int x3), (4, .int x4), (5, .int x5)] [] 0
  refine V_aload_n 0 dX12_swap_0 rfl rfl ?_
  refine V_iconst (v := 0) dX12_swap_1 (by decide) ?_
  obtain ⟨h_1, e_2, hf⟩ := nm_s hf
  refine V_putI P_X12_120 rfl t_k0 rfl e_2 dX12_swap_2 ?_
  refine V_aload_n 0 dX12_swap_5 rfl rfl ?_
  refine V_iload_n 1 dX12_swap_6 rfl rfl ?_
  refine V_iload_n 2 dX12_swap_7 rfl rfl ?_
  refine V_iload 4 dX12_swap_8 rfl ?_
  obtain ⟨r_5, h_4, e_3, hf⟩ := ob_s hf
  refine V_cvi (As := [.int x1, .int x2, .int x4]) (rest := []) (c_X12_isGuest (d := d) (Nat.le_trans (Nat.le_of_ble_eq_true rfl) hd) e_3 t_k0) ML_X12_360 MV_X12_isGuest rfl t_k0 rfl rfl (Nat.le_of_ble_eq_true rfl) dX12_swap_10 ?_
  refine V_if_eq (tgt := 50) dX12_swap_13 (by decide) (fun c_6 => ?_) (fun c_6 => ?_)
  · have hf := it_s c_6 hf
    refine V_sub [] rfl ?_
    exact v_X12_swap_50 hd hf
  · have hf := if_s c_6 hf
    refine V_aload_n 0 dX12_swap_16 rfl rfl ?_
    refine V_iload 5 dX12_swap_17 rfl ?_
    obtain ⟨r_9, h_8, e_7, hf⟩ := ob_s hf
    refine V_cvi (As := [.int x5]) (rest := []) (c_X12_isPerson (d := d) (Nat.le_trans (Nat.le_of_ble_eq_true rfl) hd) e_7 t_k0) ML_X12_295 MV_X12_isPerson rfl t_k0 rfl rfl (Nat.le_of_ble_eq_true rfl) dX12_swap_19 ?_
    refine V_if_eq (tgt := 50) dX12_swap_22 (by decide) (fun c_10 => ?_) (fun c_10 => ?_)
    · have hf := it_s c_10 hf
      refine V_sub [] rfl ?_
      exact v_X12_swap_50 hd hf
    · have hf := if_s c_10 hf
      refine V_iload_n 2 dX12_swap_25 rfl rfl ?_
      refine V_iload 5 dX12_swap_26 rfl ?_
      obtain ⟨r_13, h_12, e_11, hf⟩ := ob_s hf
      refine V_csi (As := [.int x2, .int x5]) (rest := []) (c_X12_has (d := d) (Nat.le_trans (Nat.le_of_ble_eq_true rfl) hd) e_11) ML_X12_258 MS_X12_has rfl rfl rfl (Nat.le_of_ble_eq_true rfl) dX12_swap_28 ?_
      refine V_if_eq (tgt := 50) dX12_swap_31 (by decide) (fun c_14 => ?_) (fun c_14 => ?_)
      · have hf := it_s c_14 hf
        refine V_sub [] rfl ?_
        exact v_X12_swap_50 hd hf
      · have hf := if_s c_14 hf
        refine V_iload 4 dX12_swap_34 rfl ?_
        refine V_iload 5 dX12_swap_36 rfl ?_
        refine V_ic_eq (tgt := 50) dX12_swap_38 (by decide) (fun c_15 => ?_) (fun c_15 => ?_)
        · have hf := it_s c_15 hf
          refine V_sub [] rfl ?_
          exact v_X12_swap_50 hd hf
        · have hf := if_s c_15 hf
          refine V_aload_n 0 dX12_swap_41 rfl rfl ?_
          refine V_iload_n 2 dX12_swap_42 rfl rfl ?_
          refine V_iload_n 3 dX12_swap_43 rfl rfl ?_
          obtain ⟨r_18, h_17, e_16, hf⟩ := ob_s hf
          refine V_cvi (As := [.int x2, .int x3]) (rest := []) (c_X12_layOrder (d := d) (Nat.le_trans (Nat.le_of_ble_eq_true rfl) hd) e_16 t_k0) ML_X12_346 MV_X12_layOrder rfl t_k0 rfl rfl (Nat.le_of_ble_eq_true rfl) dX12_swap_44 ?_
          refine V_if_ne (tgt := 54) dX12_swap_47 (by decide) (fun c_19 => ?_) (fun c_19 => ?_)
          · have hf := if_s c_19 hf
            refine V_aload_n 0 dX12_swap_54 rfl rfl ?_
            refine V_aload_n 0 dX12_swap_55 rfl rfl ?_
            refine V_iload_n 1 dX12_swap_56 rfl rfl ?_
            refine V_iload_n 2 dX12_swap_57 rfl rfl ?_
            obtain ⟨r_22, h_21, e_20, hf⟩ := ob_s hf
            refine V_cvi (As := [.int x1, .int x2]) (rest := [.ref k0]) (c_X12_doorOf (d := d) (Nat.le_trans (Nat.le_of_ble_eq_true rfl) hd) e_20 t_k0) ML_X12_335 MV_X12_doorOf rfl t_k0 rfl rfl (Nat.le_of_ble_eq_true rfl) dX12_swap_58 ?_
            obtain ⟨h_24, e_23, hf⟩ := ov_s hf
            refine V_cvv (As := [.int r_22]) (rest := []) (c_X12_go (d := d) (Nat.le_trans (Nat.le_of_ble_eq_true rfl) hd) e_23 t_k0) ML_X12_338 MV_X12_go rfl t_k0 rfl rfl (Nat.le_of_ble_eq_true rfl) dX12_swap_61 ?_
            refine V_aload_n 0 dX12_swap_64 rfl rfl ?_
            refine V_iload 4 dX12_swap_65 rfl ?_
            obtain ⟨r_27, h_26, e_25, hf⟩ := ob_s hf
            refine V_cvi (As := [.int x4]) (rest := []) (c_X12_worthOf (d := d) (Nat.le_trans (Nat.le_of_ble_eq_true rfl) hd) e_25 t_k0) ML_X12_373 MV_X12_worthOf rfl t_k0 rfl rfl (Nat.le_of_ble_eq_true rfl) dX12_swap_67 ?_
            refine V_aload_n 0 dX12_swap_70 rfl rfl ?_
            refine V_iload 5 dX12_swap_71 rfl ?_
            obtain ⟨r_30, h_29, e_28, hf⟩ := ob_s hf
            refine V_cvi (As := [.int x5]) (rest := [.int r_27]) (c_X12_worthOf (d := d) (Nat.le_trans (Nat.le_of_ble_eq_true rfl) hd) e_28 t_k0) ML_X12_373 MV_X12_worthOf rfl t_k0 rfl rfl (Nat.le_of_ble_eq_true rfl) dX12_swap_73 ?_
            refine V_iadd dX12_swap_76 ?_
            obtain ⟨x6_31, e_32, hf⟩ := nm_s hf
            refine V_istore (L' := [(6, .int x6_31), (0, .ref k0), (1, .int x1), (2, .int x2), (3, .int x3), (4, .int x4), (5, .int x5)]) dX12_swap_77 (Nat.le_of_ble_eq_true rfl) e_32 rfl ?_
            refine V_iconst (v := 0) dX12_swap_79 (by decide) ?_
            refine V_istore (L' := [(7, .int 0), (6, .int x6_31), (0, .ref k0), (1, .int x1), (2, .int x2), (3, .int x3), (4, .int x4), (5, .int x5)]) dX12_swap_80 (Nat.le_of_ble_eq_true rfl) rfl rfl ?_
            refine V_sub [2, 3, 4, 6, 7, 1, 0] rfl ?_
            exact v_X12_swap_82 hd FU _ _ _ _ _ _ _ _ hf t_k0
          · have hf := it_s c_19 hf
            refine V_sub [] rfl ?_
            exact v_X12_swap_50 hd hf
theorem dX12_text_0 : decode cX12_text 0 = .ok (.aload_n 0, 1) := by decide +kernel
theorem dX12_text_1 : decode cX12_text 1 = .ok (.iconst 0, 1) := by decide +kernel
theorem dX12_text_2 : decode cX12_text 2 = .ok (.putfield 120, 3) := by decide +kernel
theorem dX12_text_5 : decode cX12_text 5 = .ok (.iload_n 1, 1) := by decide +kernel
theorem dX12_text_6 : decode cX12_text 6 = .ok (.i2l, 1) := by decide +kernel
theorem dX12_text_7 : decode cX12_text 7 = .ok (.lconst 0, 1) := by decide +kernel
theorem dX12_text_8 : decode cX12_text 8 = .ok (.lconst 1, 1) := by decide +kernel
theorem dX12_text_9 : decode cX12_text 9 = .ok (.invokestatic 247, 3) := by decide +kernel
theorem dX12_text_12 : decode cX12_text 12 = .ok (.ifCond .eq 25, 3) := by decide +kernel
theorem dX12_text_15 : decode cX12_text 15 = .ok (.iload_n 1, 1) := by decide +kernel
theorem dX12_text_16 : decode cX12_text 16 = .ok (.iconst 1, 1) := by decide +kernel
theorem dX12_text_17 : decode cX12_text 17 = .ok (.if_icmp .ne 11, 3) := by decide +kernel
theorem dX12_text_20 : decode cX12_text 20 = .ok (.aload_n 0, 1) := by decide +kernel
theorem dX12_text_21 : decode cX12_text 21 = .ok (.getfield 278, 3) := by decide +kernel
theorem dX12_text_24 : decode cX12_text 24 = .ok (.iconst 4, 1) := by decide +kernel
theorem dX12_text_25 : decode cX12_text 25 = .ok (.if_icmp .eq 12, 3) := by decide +kernel
theorem dX12_text_28 : decode cX12_text 28 = .ok (.aload_n 0, 1) := by decide +kernel
theorem dX12_text_29 : decode cX12_text 29 = .ok (.iload_n 1, 1) := by decide +kernel
theorem dX12_text_30 : decode cX12_text 30 = .ok (.invokevirtual 281, 3) := by decide +kernel
theorem dX12_text_33 : decode cX12_text 33 = .ok (.iconst (-1), 1) := by decide +kernel
theorem dX12_text_34 : decode cX12_text 34 = .ok (.if_icmp .eq 5, 3) := by decide +kernel
theorem dX12_text_37 : decode cX12_text 37 = .ok (.iconst (-1), 1) := by decide +kernel
theorem dX12_text_38 : decode cX12_text 38 = .ok (.ireturn, 1) := by decide +kernel
theorem dX12_text_39 : decode cX12_text 39 = .ok (.aload_n 0, 1) := by decide +kernel
theorem dX12_text_40 : decode cX12_text 40 = .ok (.getfield 134, 3) := by decide +kernel
theorem dX12_text_43 : decode cX12_text 43 = .ok (.istore_n 2, 1) := by decide +kernel
theorem dX12_text_44 : decode cX12_text 44 = .ok (.aload_n 0, 1) := by decide +kernel
theorem dX12_text_45 : decode cX12_text 45 = .ok (.iconst 0, 1) := by decide +kernel
theorem dX12_text_46 : decode cX12_text 46 = .ok (.putfield 134, 3) := by decide +kernel
theorem dX12_text_49 : decode cX12_text 49 = .ok (.iload_n 1, 1) := by decide +kernel
theorem dX12_text_50 : decode cX12_text 50 = .ok (.iconst 1, 1) := by decide +kernel
theorem dX12_text_51 : decode cX12_text 51 = .ok (.if_icmp .ne 64, 3) := by decide +kernel
theorem dX12_text_54 : decode cX12_text 54 = .ok (.iconst 0, 1) := by decide +kernel
theorem dX12_text_55 : decode cX12_text 55 = .ok (.istore_n 3, 1) := by decide +kernel
theorem dX12_text_56 : decode cX12_text 56 = .ok (.iload_n 3, 1) := by decide +kernel
theorem dX12_text_57 : decode cX12_text 57 = .ok (.iload_n 2, 1) := by decide +kernel
theorem dX12_text_58 : decode cX12_text 58 = .ok (.if_icmp .ge 30, 3) := by decide +kernel
theorem dX12_text_61 : decode cX12_text 61 = .ok (.aload_n 0, 1) := by decide +kernel
theorem dX12_text_62 : decode cX12_text 62 = .ok (.getfield 13, 3) := by decide +kernel
theorem dX12_text_65 : decode cX12_text 65 = .ok (.sipush 160, 3) := by decide +kernel
theorem dX12_text_68 : decode cX12_text 68 = .ok (.aload_n 0, 1) := by decide +kernel
theorem dX12_text_69 : decode cX12_text 69 = .ok (.getfield 278, 3) := by decide +kernel
theorem dX12_text_72 : decode cX12_text 72 = .ok (.imul, 1) := by decide +kernel
theorem dX12_text_73 : decode cX12_text 73 = .ok (.iload_n 3, 1) := by decide +kernel
theorem dX12_text_74 : decode cX12_text 74 = .ok (.iadd, 1) := by decide +kernel
theorem dX12_text_75 : decode cX12_text 75 = .ok (.aload_n 0, 1) := by decide +kernel
theorem dX12_text_76 : decode cX12_text 76 = .ok (.getfield 9, 3) := by decide +kernel
theorem dX12_text_79 : decode cX12_text 79 = .ok (.iload_n 3, 1) := by decide +kernel
theorem dX12_text_80 : decode cX12_text 80 = .ok (.baload, 1) := by decide +kernel
theorem dX12_text_81 : decode cX12_text 81 = .ok (.bastore, 1) := by decide +kernel
theorem dX12_text_82 : decode cX12_text 82 = .ok (.iinc 3 1, 3) := by decide +kernel
theorem dX12_text_85 : decode cX12_text 85 = .ok (.goto (-29), 3) := by decide +kernel
theorem dX12_text_88 : decode cX12_text 88 = .ok (.aload_n 0, 1) := by decide +kernel
theorem dX12_text_89 : decode cX12_text 89 = .ok (.getfield 16, 3) := by decide +kernel
theorem dX12_text_92 : decode cX12_text 92 = .ok (.aload_n 0, 1) := by decide +kernel
theorem dX12_text_93 : decode cX12_text 93 = .ok (.getfield 278, 3) := by decide +kernel
theorem dX12_text_96 : decode cX12_text 96 = .ok (.iload_n 2, 1) := by decide +kernel
theorem dX12_text_97 : decode cX12_text 97 = .ok (.iastore, 1) := by decide +kernel
theorem dX12_text_98 : decode cX12_text 98 = .ok (.aload_n 0, 1) := by decide +kernel
theorem dX12_text_99 : decode cX12_text 99 = .ok (.dup, 1) := by decide +kernel
theorem dX12_text_100 : decode cX12_text 100 = .ok (.getfield 278, 3) := by decide +kernel
theorem dX12_text_103 : decode cX12_text 103 = .ok (.iconst 1, 1) := by decide +kernel
theorem dX12_text_104 : decode cX12_text 104 = .ok (.iadd, 1) := by decide +kernel
theorem dX12_text_105 : decode cX12_text 105 = .ok (.putfield 278, 3) := by decide +kernel
theorem dX12_text_108 : decode cX12_text 108 = .ok (.aload_n 0, 1) := by decide +kernel
theorem dX12_text_109 : decode cX12_text 109 = .ok (.getfield 278, 3) := by decide +kernel
theorem dX12_text_112 : decode cX12_text 112 = .ok (.iconst 1, 1) := by decide +kernel
theorem dX12_text_113 : decode cX12_text 113 = .ok (.isub, 1) := by decide +kernel
theorem dX12_text_114 : decode cX12_text 114 = .ok (.ireturn, 1) := by decide +kernel
theorem dX12_text_115 : decode cX12_text 115 = .ok (.aload_n 0, 1) := by decide +kernel
theorem dX12_text_116 : decode cX12_text 116 = .ok (.aload_n 0, 1) := by decide +kernel
theorem dX12_text_117 : decode cX12_text 117 = .ok (.getfield 266, 3) := by decide +kernel
theorem dX12_text_120 : decode cX12_text 120 = .ok (.putfield 283, 3) := by decide +kernel
theorem dX12_text_123 : decode cX12_text 123 = .ok (.iconst 0, 1) := by decide +kernel
theorem dX12_text_124 : decode cX12_text 124 = .ok (.istore_n 3, 1) := by decide +kernel
theorem dX12_text_125 : decode cX12_text 125 = .ok (.iload_n 3, 1) := by decide +kernel
theorem dX12_text_126 : decode cX12_text 126 = .ok (.bipush 42, 2) := by decide +kernel
theorem dX12_text_128 : decode cX12_text 128 = .ok (.if_icmp .ge 24, 3) := by decide +kernel
theorem dX12_text_131 : decode cX12_text 131 = .ok (.aload_n 0, 1) := by decide +kernel
theorem dX12_text_132 : decode cX12_text 132 = .ok (.getfield 42, 3) := by decide +kernel
theorem dX12_text_135 : decode cX12_text 135 = .ok (.iload_n 3, 1) := by decide +kernel
theorem dX12_text_136 : decode cX12_text 136 = .ok (.aload_n 0, 1) := by decide +kernel
theorem dX12_text_137 : decode cX12_text 137 = .ok (.getfield 42, 3) := by decide +kernel
theorem dX12_text_140 : decode cX12_text 140 = .ok (.bipush 42, 2) := by decide +kernel
theorem dX12_text_142 : decode cX12_text 142 = .ok (.iload_n 3, 1) := by decide +kernel
theorem dX12_text_143 : decode cX12_text 143 = .ok (.iadd, 1) := by decide +kernel
theorem dX12_text_144 : decode cX12_text 144 = .ok (.iaload, 1) := by decide +kernel
theorem dX12_text_145 : decode cX12_text 145 = .ok (.iastore, 1) := by decide +kernel
theorem dX12_text_146 : decode cX12_text 146 = .ok (.iinc 3 1, 3) := by decide +kernel
theorem dX12_text_149 : decode cX12_text 149 = .ok (.goto (-24), 3) := by decide +kernel
theorem dX12_text_152 : decode cX12_text 152 = .ok (.iconst 0, 1) := by decide +kernel
theorem dX12_text_153 : decode cX12_text 153 = .ok (.istore_n 3, 1) := by decide +kernel
theorem dX12_text_154 : decode cX12_text 154 = .ok (.iload_n 3, 1) := by decide +kernel
theorem dX12_text_155 : decode cX12_text 155 = .ok (.bipush 6, 2) := by decide +kernel
theorem dX12_text_157 : decode cX12_text 157 = .ok (.if_icmp .ge 64, 3) := by decide +kernel
theorem dX12_text_160 : decode cX12_text 160 = .ok (.aload_n 0, 1) := by decide +kernel
theorem dX12_text_161 : decode cX12_text 161 = .ok (.getfield 45, 3) := by decide +kernel
theorem dX12_text_164 : decode cX12_text 164 = .ok (.iload_n 3, 1) := by decide +kernel
theorem dX12_text_165 : decode cX12_text 165 = .ok (.iload_n 3, 1) := by decide +kernel
theorem dX12_text_166 : decode cX12_text 166 = .ok (.iastore, 1) := by decide +kernel
theorem dX12_text_167 : decode cX12_text 167 = .ok (.aload_n 0, 1) := by decide +kernel
theorem dX12_text_168 : decode cX12_text 168 = .ok (.getfield 48, 3) := by decide +kernel
theorem dX12_text_171 : decode cX12_text 171 = .ok (.iload_n 3, 1) := by decide +kernel
theorem dX12_text_172 : decode cX12_text 172 = .ok (.iload_n 3, 1) := by decide +kernel
theorem dX12_text_173 : decode cX12_text 173 = .ok (.iastore, 1) := by decide +kernel
theorem dX12_text_174 : decode cX12_text 174 = .ok (.aload_n 0, 1) := by decide +kernel
theorem dX12_text_175 : decode cX12_text 175 = .ok (.getfield 51, 3) := by decide +kernel
theorem dX12_text_178 : decode cX12_text 178 = .ok (.iload_n 3, 1) := by decide +kernel
theorem dX12_text_179 : decode cX12_text 179 = .ok (.aload_n 0, 1) := by decide +kernel
theorem dX12_text_180 : decode cX12_text 180 = .ok (.getfield 42, 3) := by decide +kernel
theorem dX12_text_183 : decode cX12_text 183 = .ok (.bipush 7, 2) := by decide +kernel
theorem dX12_text_185 : decode cX12_text 185 = .ok (.iload_n 3, 1) := by decide +kernel
theorem dX12_text_186 : decode cX12_text 186 = .ok (.imul, 1) := by decide +kernel
theorem dX12_text_187 : decode cX12_text 187 = .ok (.iconst 3, 1) := by decide +kernel
theorem dX12_text_188 : decode cX12_text 188 = .ok (.iadd, 1) := by decide +kernel
theorem dX12_text_189 : decode cX12_text 189 = .ok (.iaload, 1) := by decide +kernel
theorem dX12_text_190 : decode cX12_text 190 = .ok (.iastore, 1) := by decide +kernel
theorem dX12_text_191 : decode cX12_text 191 = .ok (.aload_n 0, 1) := by decide +kernel
theorem dX12_text_192 : decode cX12_text 192 = .ok (.getfield 54, 3) := by decide +kernel
theorem dX12_text_195 : decode cX12_text 195 = .ok (.iload_n 3, 1) := by decide +kernel
theorem dX12_text_196 : decode cX12_text 196 = .ok (.aload_n 0, 1) := by decide +kernel
theorem dX12_text_197 : decode cX12_text 197 = .ok (.getfield 42, 3) := by decide +kernel
theorem dX12_text_200 : decode cX12_text 200 = .ok (.bipush 7, 2) := by decide +kernel
theorem dX12_text_202 : decode cX12_text 202 = .ok (.iload_n 3, 1) := by decide +kernel
theorem dX12_text_203 : decode cX12_text 203 = .ok (.imul, 1) := by decide +kernel
theorem dX12_text_204 : decode cX12_text 204 = .ok (.iconst 2, 1) := by decide +kernel
theorem dX12_text_205 : decode cX12_text 205 = .ok (.iadd, 1) := by decide +kernel
theorem dX12_text_206 : decode cX12_text 206 = .ok (.iaload, 1) := by decide +kernel
theorem dX12_text_207 : decode cX12_text 207 = .ok (.iastore, 1) := by decide +kernel
theorem dX12_text_208 : decode cX12_text 208 = .ok (.aload_n 0, 1) := by decide +kernel
theorem dX12_text_209 : decode cX12_text 209 = .ok (.getfield 57, 3) := by decide +kernel
theorem dX12_text_212 : decode cX12_text 212 = .ok (.iload_n 3, 1) := by decide +kernel
theorem dX12_text_213 : decode cX12_text 213 = .ok (.iconst (-1), 1) := by decide +kernel
theorem dX12_text_214 : decode cX12_text 214 = .ok (.iastore, 1) := by decide +kernel
theorem dX12_text_215 : decode cX12_text 215 = .ok (.iinc 3 1, 3) := by decide +kernel
theorem dX12_text_218 : decode cX12_text 218 = .ok (.goto (-64), 3) := by decide +kernel
theorem dX12_text_221 : decode cX12_text 221 = .ok (.aload_n 0, 1) := by decide +kernel
theorem dX12_text_222 : decode cX12_text 222 = .ok (.iconst 0, 1) := by decide +kernel
theorem dX12_text_223 : decode cX12_text 223 = .ok (.putfield 286, 3) := by decide +kernel
theorem dX12_text_226 : decode cX12_text 226 = .ok (.aload_n 0, 1) := by decide +kernel
theorem dX12_text_227 : decode cX12_text 227 = .ok (.iconst 0, 1) := by decide +kernel
theorem dX12_text_228 : decode cX12_text 228 = .ok (.putfield 289, 3) := by decide +kernel
theorem dX12_text_231 : decode cX12_text 231 = .ok (.aload_n 0, 1) := by decide +kernel
theorem dX12_text_232 : decode cX12_text 232 = .ok (.iconst 0, 1) := by decide +kernel
theorem dX12_text_233 : decode cX12_text 233 = .ok (.putfield 292, 3) := by decide +kernel
theorem dX12_text_236 : decode cX12_text 236 = .ok (.aload_n 0, 1) := by decide +kernel
theorem dX12_text_237 : decode cX12_text 237 = .ok (.getfield 283, 3) := by decide +kernel
theorem dX12_text_240 : decode cX12_text 240 = .ok (.ireturn, 1) := by decide +kernel
theorem P_X12_278 : FPk RX12 278 12 7 .int := ⟨RX12, TX12, 58, tyX12, rfl, rfl, iw_X12, by decide, Or.inl fl_X12_278, tyX12_ok, nmX12, rfl, by decide +kernel⟩
theorem ML_X12_281 : MLk RX12 281 yX12_fault := Or.inl ml_X12_281
theorem MV_X12_fault : MVk K_X12_fault 1 12 := ⟨⟨cd_X12_fault, in_X12, ⟨by decide, by decide, by decide +kernel⟩, by decide⟩, im_X12_fault, se_X12_fault, _, _, rfl⟩
theorem P_X12_283 : FPk RX12 283 12 20 .int := ⟨RX12, TX12, 58, tyX12, rfl, rfl, iw_X12, by decide, Or.inl fl_X12_283, tyX12_ok, nmX12, rfl, by decide +kernel⟩
def f_X12_text_37  (h : AH) : Option (Int32 × AH) :=
  some ((-1), h)
def f_X12_text_56 : Nat → Nat → Int32 → Int32 → AH → Option (Int32 × AH)
  | 0, _, _, _, _ => none
  | n + 1, k0, x2, x3, h =>
    if x2 ≤ x3 then (
      og (ix (h.1 k0 7) (an (rf k0 3))) <|
      nm (sI h (rf k0 3) (h.1 k0 7).toNatClampNeg x2) fun h_3 =>
      nm (sI h_3 k0 7 ((h_3.1 k0 7) + 1)) fun h_5 =>
      some (((h_5.1 k0 7) - 1), h_5)
    ) else (
      og (ix x3 (an (rf k0 1))) <|
      og (ix ((160 * (h.1 k0 7)) + x3) (an (rf k0 2))) <|
      nm (sI h (rf k0 2) ((160 * (h.1 k0 7)) + x3).toNatClampNeg (vp_nar .byte (h.1 (rf k0 1) x3.toNatClampNeg))) fun h_9 =>
      nm (x3 + 1) fun x3_11 =>
      f_X12_text_56 n k0 x2 x3_11 h_9
    )
def f_X12_text_154 : Nat → Nat → Int32 → AH → Option (Int32 × AH)
  | 0, _, _, _ => none
  | n + 1, k0, x3, h =>
    if 6 ≤ x3 then (
      nm (sI h k0 32 0) fun h_2 =>
      nm (sI h_2 k0 50 0) fun h_4 =>
      nm (sI h_4 k0 57 0) fun h_6 =>
      some ((h_6.1 k0 20), h_6)
    ) else (
      og (ix x3 (an (rf k0 22))) <|
      nm (sI h (rf k0 22) x3.toNatClampNeg x3) fun h_9 =>
      og (ix x3 (an (rf k0 23))) <|
      nm (sI h_9 (rf k0 23) x3.toNatClampNeg x3) fun h_12 =>
      og (ix ((7 * x3) + 3) (an (rf k0 19))) <|
      og (ix x3 (an (rf k0 24))) <|
      nm (sI h_12 (rf k0 24) x3.toNatClampNeg (h_12.1 (rf k0 19) ((7 * x3) + 3).toNatClampNeg)) fun h_16 =>
      og (ix ((7 * x3) + 2) (an (rf k0 19))) <|
      og (ix x3 (an (rf k0 25))) <|
      nm (sI h_16 (rf k0 25) x3.toNatClampNeg (h_16.1 (rf k0 19) ((7 * x3) + 2).toNatClampNeg)) fun h_20 =>
      og (ix x3 (an (rf k0 26))) <|
      nm (sI h_20 (rf k0 26) x3.toNatClampNeg (-1)) fun h_23 =>
      nm (x3 + 1) fun x3_25 =>
      f_X12_text_154 n k0 x3_25 h_23
    )
def f_X12_text_125 : Nat → Nat → Int32 → AH → Option (Int32 × AH)
  | 0, _, _, _ => none
  | n + 1, k0, x3, h =>
    if 42 ≤ x3 then (
      f_X12_text_154 FU k0 0 h
    ) else (
      og (ix (42 + x3) (an (rf k0 19))) <|
      og (ix x3 (an (rf k0 19))) <|
      nm (sI h (rf k0 19) x3.toNatClampNeg (h.1 (rf k0 19) (42 + x3).toNatClampNeg)) fun h_4 =>
      nm (x3 + 1) fun x3_6 =>
      f_X12_text_125 n k0 x3_6 h_4
    )
def f_X12_text_28 (k0 : Nat) (x1 : Int32) (h : AH) : Option (Int32 × AH) :=
  ob (f_X12_fault k0 x1 h) fun r_3 h_2 =>
  if r_3 = (-1) then (
    nm ((h_2.1 k0 6)) fun x2_5 =>
    nm (sI h_2 k0 6 0) fun h_7 =>
    if x1 = 1 then (
      f_X12_text_56 FU k0 x2_5 0 h_7
    ) else (
      nm (sI h_7 k0 20 (h_7.1 k0 21)) fun h_10 =>
      f_X12_text_125 FU k0 0 h_10
    )
  ) else (
    f_X12_text_37 h_2
  )
def f_X12_text (k0 : Nat) (x1 : Int32) (h : AH) : Option (Int32 × AH) :=
  nm (sI h k0 0 0) fun h_1 =>
  ob (f_X12_isIn ((x1).toInt64) 0 1 h_1) fun r_5 h_4 =>
  if r_5 = 0 then (
    f_X12_text_37 h_4
  ) else (
    if x1 = 1 then (
      if (h_4.1 k0 7) = 4 then (
        f_X12_text_37 h_4
      ) else (
        f_X12_text_28 k0 x1 h_4
      )
    ) else (
      f_X12_text_28 k0 x1 h_4
    )
  )
set_option maxHeartbeats 4000000 in
set_option maxRecDepth 100000 in
theorem v_X12_text_37 {E : EV} {d : Nat} (hd : 1458 ≤ d) {r0 : Int32} {h0 : AH}  {h : AH} (hf : f_X12_text_37 h = some (r0, h0)) : V E (d + 1) K_X12_text (ZI E r0 h0) h [] [] 37 := by
  unfold f_X12_text_37 at hf
  refine V_iconst (v := (-1)) dX12_text_37 (by decide) ?_
  exact V_iret rfl (so_s hf) dX12_text_38
set_option maxHeartbeats 4000000 in
set_option maxRecDepth 100000 in
theorem v_X12_text_56 {E : EV} {d : Nat} (hd : 1458 ≤ d) {r0 : Int32} {h0 : AH} : ∀ (n : Nat) (k0 : Nat) (x2 : Int32) (x3 : Int32) (h : AH), f_X12_text_56 n k0 x2 x3 h = some (r0, h0) → kd k0 = (0, 12) → V E (d + 1) K_X12_text (ZI E r0 h0) h [(0, .ref k0), (2, .int x2), (3, .int x3)] [] 56 := by
  intro n
  induction n with
  | zero =>
    intro k0 x2 x3 h hf
    rw [f_X12_text_56] at hf
    cases hf
  | succ n ih =>
    intro k0 x2 x3 h hf t_k0
    rw [f_X12_text_56] at hf
    refine V_iload_n 2 dX12_text_56 rfl rfl ?_
    refine V_iload_n 1 dX12_text_57 rfl rfl ?_
    refine V_ic_ge (tgt := 88) dX12_text_58 (by decide) (fun c_1 => ?_) (fun c_1 => ?_)
    · have hf := it_s c_1 hf
      refine V_aload_n 0 dX12_text_88 rfl rfl ?_
      refine V_getR F_X12_16 rfl t_k0 rfl dX12_text_89 ?_
      refine V_aload_n 0 dX12_text_92 rfl rfl ?_
      refine V_getI F_X12_278 rfl t_k0 rfl dX12_text_93 ?_
      refine V_iload_n 1 dX12_text_96 rfl rfl ?_
      obtain ⟨b_2, hf⟩ := og_s hf
      obtain ⟨h_3, e_4, hf⟩ := nm_s hf
      refine V_iast (rfA t_k0 (Nat.le_of_ble_eq_true rfl) rfl rfl (by decide)) b_2 e_4 dX12_text_97 ?_
      refine V_aload_n 0 dX12_text_98 rfl rfl ?_
      refine V_dup dX12_text_99 rfl ?_
      refine V_getI F_X12_278 rfl t_k0 rfl dX12_text_100 ?_
      refine V_iconst (v := 1) dX12_text_103 (by decide) ?_
      refine V_iadd dX12_text_104 ?_
      obtain ⟨h_5, e_6, hf⟩ := nm_s hf
      refine V_putI P_X12_278 rfl t_k0 rfl e_6 dX12_text_105 ?_
      refine V_aload_n 0 dX12_text_108 rfl rfl ?_
      refine V_getI F_X12_278 rfl t_k0 rfl dX12_text_109 ?_
      refine V_iconst (v := 1) dX12_text_112 (by decide) ?_
      refine V_isub dX12_text_113 ?_
      exact V_iret rfl (so_s hf) dX12_text_114
    · have hf := if_s c_1 hf
      refine V_aload_n 0 dX12_text_61 rfl rfl ?_
      refine V_getR F_X12_13 rfl t_k0 rfl dX12_text_62 ?_
      refine V_sipush (v := 160) dX12_text_65 (by decide) ?_
      refine V_aload_n 0 dX12_text_68 rfl rfl ?_
      refine V_getI F_X12_278 rfl t_k0 rfl dX12_text_69 ?_
      refine V_imul dX12_text_72 ?_
      refine V_iload_n 2 dX12_text_73 rfl rfl ?_
      refine V_iadd dX12_text_74 ?_
      refine V_aload_n 0 dX12_text_75 rfl rfl ?_
      refine V_getR F_X12_9 rfl t_k0 rfl dX12_text_76 ?_
      refine V_iload_n 2 dX12_text_79 rfl rfl ?_
      obtain ⟨b_7, hf⟩ := og_s hf
      refine V_bald (rfA t_k0 (Nat.le_of_ble_eq_true rfl) rfl rfl (by decide)) b_7 dX12_text_80 ?_
      obtain ⟨b_8, hf⟩ := og_s hf
      obtain ⟨h_9, e_10, hf⟩ := nm_s hf
      refine V_bast (rfA t_k0 (Nat.le_of_ble_eq_true rfl) rfl rfl (by decide)) b_8 e_10 dX12_text_81 ?_
      obtain ⟨x3_11, e_12, hf⟩ := nm_s hf
      refine V_iinc (a := 1) (L' := [(3, .int x3_11), (0, .ref k0), (2, .int x2)]) 2 dX12_text_82 rfl (by decide) (Nat.le_of_ble_eq_true rfl) e_12 rfl ?_
      refine V_goto (tgt := 56) dX12_text_85 (by decide) ?_
      refine V_sub [1, 2, 0] rfl ?_
      exact ih _ _ _ _ hf t_k0
set_option maxHeartbeats 4000000 in
set_option maxRecDepth 100000 in
theorem v_X12_text_154 {E : EV} {d : Nat} (hd : 1458 ≤ d) {r0 : Int32} {h0 : AH} : ∀ (n : Nat) (k0 : Nat) (x3 : Int32) (h : AH), f_X12_text_154 n k0 x3 h = some (r0, h0) → kd k0 = (0, 12) → V E (d + 1) K_X12_text (ZI E r0 h0) h [(0, .ref k0), (3, .int x3)] [] 154 := by
  intro n
  induction n with
  | zero =>
    intro k0 x3 h hf
    rw [f_X12_text_154] at hf
    cases hf
  | succ n ih =>
    intro k0 x3 h hf t_k0
    rw [f_X12_text_154] at hf
    refine V_iload_n 1 dX12_text_154 rfl rfl ?_
    refine V_bipush (v := 6) dX12_text_155 (by decide) ?_
    refine V_ic_ge (tgt := 221) dX12_text_157 (by decide) (fun c_1 => ?_) (fun c_1 => ?_)
    · have hf := it_s c_1 hf
      refine V_aload_n 0 dX12_text_221 rfl rfl ?_
      refine V_iconst (v := 0) dX12_text_222 (by decide) ?_
      obtain ⟨h_2, e_3, hf⟩ := nm_s hf
      refine V_putI P_X12_286 rfl t_k0 rfl e_3 dX12_text_223 ?_
      refine V_aload_n 0 dX12_text_226 rfl rfl ?_
      refine V_iconst (v := 0) dX12_text_227 (by decide) ?_
      obtain ⟨h_4, e_5, hf⟩ := nm_s hf
      refine V_putI P_X12_289 rfl t_k0 rfl e_5 dX12_text_228 ?_
      refine V_aload_n 0 dX12_text_231 rfl rfl ?_
      refine V_iconst (v := 0) dX12_text_232 (by decide) ?_
      obtain ⟨h_6, e_7, hf⟩ := nm_s hf
      refine V_putZ P_X12_292 rfl t_k0 rfl (by decide) e_7 dX12_text_233 ?_
      refine V_aload_n 0 dX12_text_236 rfl rfl ?_
      refine V_getI F_X12_283 rfl t_k0 rfl dX12_text_237 ?_
      exact V_iret rfl (so_s hf) dX12_text_240
    · have hf := if_s c_1 hf
      refine V_aload_n 0 dX12_text_160 rfl rfl ?_
      refine V_getR F_X12_45 rfl t_k0 rfl dX12_text_161 ?_
      refine V_iload_n 1 dX12_text_164 rfl rfl ?_
      refine V_iload_n 1 dX12_text_165 rfl rfl ?_
      obtain ⟨b_8, hf⟩ := og_s hf
      obtain ⟨h_9, e_10, hf⟩ := nm_s hf
      refine V_iast (rfA t_k0 (Nat.le_of_ble_eq_true rfl) rfl rfl (by decide)) b_8 e_10 dX12_text_166 ?_
      refine V_aload_n 0 dX12_text_167 rfl rfl ?_
      refine V_getR F_X12_48 rfl t_k0 rfl dX12_text_168 ?_
      refine V_iload_n 1 dX12_text_171 rfl rfl ?_
      refine V_iload_n 1 dX12_text_172 rfl rfl ?_
      obtain ⟨b_11, hf⟩ := og_s hf
      obtain ⟨h_12, e_13, hf⟩ := nm_s hf
      refine V_iast (rfA t_k0 (Nat.le_of_ble_eq_true rfl) rfl rfl (by decide)) b_11 e_13 dX12_text_173 ?_
      refine V_aload_n 0 dX12_text_174 rfl rfl ?_
      refine V_getR F_X12_51 rfl t_k0 rfl dX12_text_175 ?_
      refine V_iload_n 1 dX12_text_178 rfl rfl ?_
      refine V_aload_n 0 dX12_text_179 rfl rfl ?_
      refine V_getR F_X12_42 rfl t_k0 rfl dX12_text_180 ?_
      refine V_bipush (v := 7) dX12_text_183 (by decide) ?_
      refine V_iload_n 1 dX12_text_185 rfl rfl ?_
      refine V_imul dX12_text_186 ?_
      refine V_iconst (v := 3) dX12_text_187 (by decide) ?_
      refine V_iadd dX12_text_188 ?_
      obtain ⟨b_14, hf⟩ := og_s hf
      refine V_iald (rfA t_k0 (Nat.le_of_ble_eq_true rfl) rfl rfl (by decide)) b_14 dX12_text_189 ?_
      obtain ⟨b_15, hf⟩ := og_s hf
      obtain ⟨h_16, e_17, hf⟩ := nm_s hf
      refine V_iast (rfA t_k0 (Nat.le_of_ble_eq_true rfl) rfl rfl (by decide)) b_15 e_17 dX12_text_190 ?_
      refine V_aload_n 0 dX12_text_191 rfl rfl ?_
      refine V_getR F_X12_54 rfl t_k0 rfl dX12_text_192 ?_
      refine V_iload_n 1 dX12_text_195 rfl rfl ?_
      refine V_aload_n 0 dX12_text_196 rfl rfl ?_
      refine V_getR F_X12_42 rfl t_k0 rfl dX12_text_197 ?_
      refine V_bipush (v := 7) dX12_text_200 (by decide) ?_
      refine V_iload_n 1 dX12_text_202 rfl rfl ?_
      refine V_imul dX12_text_203 ?_
      refine V_iconst (v := 2) dX12_text_204 (by decide) ?_
      refine V_iadd dX12_text_205 ?_
      obtain ⟨b_18, hf⟩ := og_s hf
      refine V_iald (rfA t_k0 (Nat.le_of_ble_eq_true rfl) rfl rfl (by decide)) b_18 dX12_text_206 ?_
      obtain ⟨b_19, hf⟩ := og_s hf
      obtain ⟨h_20, e_21, hf⟩ := nm_s hf
      refine V_iast (rfA t_k0 (Nat.le_of_ble_eq_true rfl) rfl rfl (by decide)) b_19 e_21 dX12_text_207 ?_
      refine V_aload_n 0 dX12_text_208 rfl rfl ?_
      refine V_getR F_X12_57 rfl t_k0 rfl dX12_text_209 ?_
      refine V_iload_n 1 dX12_text_212 rfl rfl ?_
      refine V_iconst (v := (-1)) dX12_text_213 (by decide) ?_
      obtain ⟨b_22, hf⟩ := og_s hf
      obtain ⟨h_23, e_24, hf⟩ := nm_s hf
      refine V_iast (rfA t_k0 (Nat.le_of_ble_eq_true rfl) rfl rfl (by decide)) b_22 e_24 dX12_text_214 ?_
      obtain ⟨x3_25, e_26, hf⟩ := nm_s hf
      refine V_iinc (a := 1) (L' := [(3, .int x3_25), (0, .ref k0)]) 1 dX12_text_215 rfl (by decide) (Nat.le_of_ble_eq_true rfl) e_26 rfl ?_
      refine V_goto (tgt := 154) dX12_text_218 (by decide) ?_
      refine V_sub [1, 0] rfl ?_
      exact ih _ _ _ hf t_k0
set_option maxHeartbeats 4000000 in
set_option maxRecDepth 100000 in
theorem v_X12_text_125 {E : EV} {d : Nat} (hd : 1458 ≤ d) {r0 : Int32} {h0 : AH} : ∀ (n : Nat) (k0 : Nat) (x3 : Int32) (h : AH), f_X12_text_125 n k0 x3 h = some (r0, h0) → kd k0 = (0, 12) → V E (d + 1) K_X12_text (ZI E r0 h0) h [(0, .ref k0), (3, .int x3)] [] 125 := by
  intro n
  induction n with
  | zero =>
    intro k0 x3 h hf
    rw [f_X12_text_125] at hf
    cases hf
  | succ n ih =>
    intro k0 x3 h hf t_k0
    rw [f_X12_text_125] at hf
    refine V_iload_n 1 dX12_text_125 rfl rfl ?_
    refine V_bipush (v := 42) dX12_text_126 (by decide) ?_
    refine V_ic_ge (tgt := 152) dX12_text_128 (by decide) (fun c_1 => ?_) (fun c_1 => ?_)
    · have hf := it_s c_1 hf
      refine V_iconst (v := 0) dX12_text_152 (by decide) ?_
      refine V_istore_n (L' := [(3, .int 0), (0, .ref k0)]) dX12_text_153 rfl (Nat.le_of_ble_eq_true rfl) rfl rfl ?_
      refine V_sub [1, 0] rfl ?_
      exact v_X12_text_154 hd FU _ _ _ hf t_k0
    · have hf := if_s c_1 hf
      refine V_aload_n 0 dX12_text_131 rfl rfl ?_
      refine V_getR F_X12_42 rfl t_k0 rfl dX12_text_132 ?_
      refine V_iload_n 1 dX12_text_135 rfl rfl ?_
      refine V_aload_n 0 dX12_text_136 rfl rfl ?_
      refine V_getR F_X12_42 rfl t_k0 rfl dX12_text_137 ?_
      refine V_bipush (v := 42) dX12_text_140 (by decide) ?_
      refine V_iload_n 1 dX12_text_142 rfl rfl ?_
      refine V_iadd dX12_text_143 ?_
      obtain ⟨b_2, hf⟩ := og_s hf
      refine V_iald (rfA t_k0 (Nat.le_of_ble_eq_true rfl) rfl rfl (by decide)) b_2 dX12_text_144 ?_
      obtain ⟨b_3, hf⟩ := og_s hf
      obtain ⟨h_4, e_5, hf⟩ := nm_s hf
      refine V_iast (rfA t_k0 (Nat.le_of_ble_eq_true rfl) rfl rfl (by decide)) b_3 e_5 dX12_text_145 ?_
      obtain ⟨x3_6, e_7, hf⟩ := nm_s hf
      refine V_iinc (a := 1) (L' := [(3, .int x3_6), (0, .ref k0)]) 1 dX12_text_146 rfl (by decide) (Nat.le_of_ble_eq_true rfl) e_7 rfl ?_
      refine V_goto (tgt := 125) dX12_text_149 (by decide) ?_
      refine V_sub [1, 0] rfl ?_
      exact ih _ _ _ hf t_k0
set_option maxHeartbeats 4000000 in
set_option maxRecDepth 100000 in
theorem v_X12_text_28 {E : EV} {d : Nat} (hd : 1458 ≤ d) {r0 : Int32} {h0 : AH} {k0 : Nat} {x1 : Int32} {h : AH} (hf : f_X12_text_28 k0 x1 h = some (r0, h0)) (t_k0 : kd k0 = (0, 12)) : V E (d + 1) K_X12_text (ZI E r0 h0) h [(0, .ref k0), (1, .int x1)] [] 28 := by
  unfold f_X12_text_28 at hf
  refine V_aload_n 0 dX12_text_28 rfl rfl ?_
  refine V_iload_n 1 dX12_text_29 rfl rfl ?_
  obtain ⟨r_3, h_2, e_1, hf⟩ := ob_s hf
  refine V_cvi (As := [.int x1]) (rest := []) (c_X12_fault (d := d) (Nat.le_trans (Nat.le_of_ble_eq_true rfl) hd) e_1 t_k0) ML_X12_281 MV_X12_fault rfl t_k0 rfl rfl (Nat.le_of_ble_eq_true rfl) dX12_text_30 ?_
  refine V_iconst (v := (-1)) dX12_text_33 (by decide) ?_
  refine V_ic_eq (tgt := 39) dX12_text_34 (by decide) (fun c_4 => ?_) (fun c_4 => ?_)
  · have hf := it_s c_4 hf
    refine V_aload_n 0 dX12_text_39 rfl rfl ?_
    refine V_getI F_X12_134 rfl t_k0 rfl dX12_text_40 ?_
    obtain ⟨x2_5, e_6, hf⟩ := nm_s hf
    refine V_istore_n (L' := [(2, .int x2_5), (0, .ref k0), (1, .int x1)]) dX12_text_43 rfl (Nat.le_of_ble_eq_true rfl) e_6 rfl ?_
    refine V_aload_n 1 dX12_text_44 rfl rfl ?_
    refine V_iconst (v := 0) dX12_text_45 (by decide) ?_
    obtain ⟨h_7, e_8, hf⟩ := nm_s hf
    refine V_putI P_X12_134 rfl t_k0 rfl e_8 dX12_text_46 ?_
    refine V_iload_n 2 dX12_text_49 rfl rfl ?_
    refine V_iconst (v := 1) dX12_text_50 (by decide) ?_
    refine V_ic_ne (tgt := 115) dX12_text_51 (by decide) (fun c_9 => ?_) (fun c_9 => ?_)
    · have hf := if_s c_9 hf
      refine V_aload_n 1 dX12_text_115 rfl rfl ?_
      refine V_aload_n 1 dX12_text_116 rfl rfl ?_
      refine V_getI F_X12_266 rfl t_k0 rfl dX12_text_117 ?_
      obtain ⟨h_10, e_11, hf⟩ := nm_s hf
      refine V_putI P_X12_283 rfl t_k0 rfl e_11 dX12_text_120 ?_
      refine V_iconst (v := 0) dX12_text_123 (by decide) ?_
      refine V_istore_n (L' := [(3, .int 0), (2, .int x2_5), (0, .ref k0), (1, .int x1)]) dX12_text_124 rfl (Nat.le_of_ble_eq_true rfl) rfl rfl ?_
      refine V_sub [2, 0] rfl ?_
      exact v_X12_text_125 hd FU _ _ _ hf t_k0
    · have hf := it_s c_9 hf
      refine V_iconst (v := 0) dX12_text_54 (by decide) ?_
      refine V_istore_n (L' := [(3, .int 0), (2, .int x2_5), (0, .ref k0), (1, .int x1)]) dX12_text_55 rfl (Nat.le_of_ble_eq_true rfl) rfl rfl ?_
      refine V_sub [2, 1, 0] rfl ?_
      exact v_X12_text_56 hd FU _ _ _ _ hf t_k0
  · have hf := if_s c_4 hf
    refine V_sub [] rfl ?_
    exact v_X12_text_37 hd hf
set_option maxHeartbeats 4000000 in
set_option maxRecDepth 100000 in
theorem c_X12_text {E : EV} {d : Nat} (hd : 1458 + 1 ≤ d) {k0 : Nat} {x1 : Int32} {h : AH} {r0 : Int32} {h0 : AH} (hf : f_X12_text k0 x1 h = some (r0, h0)) (t_k0 : kd k0 = (0, 12)) : Con E d K_X12_text (ZI E r0 h0) [.ref k0, .int x1] h := by
  obtain ⟨d, rfl⟩ : ∃ d', d = d' + 1 := ⟨d - 1, by omega⟩
  have hd := Nat.le_of_succ_le_succ hd
  refine Con.ofV rfl (Nat.le_of_ble_eq_true rfl) ?_
  unfold f_X12_text at hf
  show V E (d + 1) K_X12_text (ZI E r0 h0) h [(0, .ref k0), (1, .int x1)] [] 0
  refine V_aload_n 0 dX12_text_0 rfl rfl ?_
  refine V_iconst (v := 0) dX12_text_1 (by decide) ?_
  obtain ⟨h_1, e_2, hf⟩ := nm_s hf
  refine V_putI P_X12_120 rfl t_k0 rfl e_2 dX12_text_2 ?_
  refine V_iload_n 1 dX12_text_5 rfl rfl ?_
  refine V_i2l dX12_text_6 ?_
  refine V_lconst (v := 0) dX12_text_7 (by decide) ?_
  refine V_lconst (v := 1) dX12_text_8 (by decide) ?_
  obtain ⟨r_5, h_4, e_3, hf⟩ := ob_s hf
  refine V_csi (As := [.long ((x1).toInt64), .long 0, .long 1]) (rest := []) (c_X12_isIn (d := d) (Nat.le_trans (Nat.le_of_ble_eq_true rfl) hd) e_3) ML_X12_247 MS_X12_isIn rfl rfl rfl (Nat.le_of_ble_eq_true rfl) dX12_text_9 ?_
  refine V_if_eq (tgt := 37) dX12_text_12 (by decide) (fun c_6 => ?_) (fun c_6 => ?_)
  · have hf := it_s c_6 hf
    refine V_sub [] rfl ?_
    exact v_X12_text_37 hd hf
  · have hf := if_s c_6 hf
    refine V_iload_n 1 dX12_text_15 rfl rfl ?_
    refine V_iconst (v := 1) dX12_text_16 (by decide) ?_
    refine V_ic_ne (tgt := 28) dX12_text_17 (by decide) (fun c_7 => ?_) (fun c_7 => ?_)
    · have hf := if_s c_7 hf
      exact v_X12_text_28 hd hf t_k0
    · have hf := it_s c_7 hf
      refine V_aload_n 0 dX12_text_20 rfl rfl ?_
      refine V_getI F_X12_278 rfl t_k0 rfl dX12_text_21 ?_
      refine V_iconst (v := 4) dX12_text_24 (by decide) ?_
      refine V_ic_eq (tgt := 37) dX12_text_25 (by decide) (fun c_8 => ?_) (fun c_8 => ?_)
      · have hf := it_s c_8 hf
        refine V_sub [] rfl ?_
        exact v_X12_text_37 hd hf
      · have hf := if_s c_8 hf
        exact v_X12_text_28 hd hf t_k0
