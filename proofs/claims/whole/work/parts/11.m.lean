theorem dX10_readNumber_0 : decode cX10_readNumber 0 = .ok (.iconst 0, 1) := by decide +kernel
theorem dX10_readNumber_1 : decode cX10_readNumber 1 = .ok (.istore_n 2, 1) := by decide +kernel
theorem dX10_readNumber_2 : decode cX10_readNumber 2 = .ok (.iconst 0, 1) := by decide +kernel
theorem dX10_readNumber_3 : decode cX10_readNumber 3 = .ok (.istore_n 3, 1) := by decide +kernel
theorem dX10_readNumber_4 : decode cX10_readNumber 4 = .ok (.aload_n 0, 1) := by decide +kernel
theorem dX10_readNumber_5 : decode cX10_readNumber 5 = .ok (.invokevirtual 22, 3) := by decide +kernel
theorem dX10_readNumber_8 : decode cX10_readNumber 8 = .ok (.istore 4, 2) := by decide +kernel
theorem dX10_readNumber_10 : decode cX10_readNumber 10 = .ok (.iload_n 3, 1) := by decide +kernel
theorem dX10_readNumber_11 : decode cX10_readNumber 11 = .ok (.iload_n 1, 1) := by decide +kernel
theorem dX10_readNumber_12 : decode cX10_readNumber 12 = .ok (.if_icmp .ge 64, 3) := by decide +kernel
theorem dX10_readNumber_15 : decode cX10_readNumber 15 = .ok (.iload 4, 2) := by decide +kernel
theorem dX10_readNumber_17 : decode cX10_readNumber 17 = .ok (.invokestatic 26, 3) := by decide +kernel
theorem dX10_readNumber_20 : decode cX10_readNumber 20 = .ok (.ifCond .eq 56, 3) := by decide +kernel
theorem dX10_readNumber_23 : decode cX10_readNumber 23 = .ok (.iload_n 2, 1) := by decide +kernel
theorem dX10_readNumber_24 : decode cX10_readNumber 24 = .ok (.bipush 10, 2) := by decide +kernel
theorem dX10_readNumber_26 : decode cX10_readNumber 26 = .ok (.imul, 1) := by decide +kernel
theorem dX10_readNumber_27 : decode cX10_readNumber 27 = .ok (.iload 4, 2) := by decide +kernel
theorem dX10_readNumber_29 : decode cX10_readNumber 29 = .ok (.iadd, 1) := by decide +kernel
theorem dX10_readNumber_30 : decode cX10_readNumber 30 = .ok (.bipush 48, 2) := by decide +kernel
theorem dX10_readNumber_32 : decode cX10_readNumber 32 = .ok (.isub, 1) := by decide +kernel
theorem dX10_readNumber_33 : decode cX10_readNumber 33 = .ok (.istore_n 2, 1) := by decide +kernel
theorem dX10_readNumber_34 : decode cX10_readNumber 34 = .ok (.iinc 3 1, 3) := by decide +kernel
theorem dX10_readNumber_37 : decode cX10_readNumber 37 = .ok (.aload_n 0, 1) := by decide +kernel
theorem dX10_readNumber_38 : decode cX10_readNumber 38 = .ok (.dup, 1) := by decide +kernel
theorem dX10_readNumber_39 : decode cX10_readNumber 39 = .ok (.getfield 19, 3) := by decide +kernel
theorem dX10_readNumber_42 : decode cX10_readNumber 42 = .ok (.iconst 1, 1) := by decide +kernel
theorem dX10_readNumber_43 : decode cX10_readNumber 43 = .ok (.iadd, 1) := by decide +kernel
theorem dX10_readNumber_44 : decode cX10_readNumber 44 = .ok (.putfield 19, 3) := by decide +kernel
theorem dX10_readNumber_47 : decode cX10_readNumber 47 = .ok (.aload_n 0, 1) := by decide +kernel
theorem dX10_readNumber_48 : decode cX10_readNumber 48 = .ok (.getfield 19, 3) := by decide +kernel
theorem dX10_readNumber_51 : decode cX10_readNumber 51 = .ok (.aload_n 0, 1) := by decide +kernel
theorem dX10_readNumber_52 : decode cX10_readNumber 52 = .ok (.getfield 15, 3) := by decide +kernel
theorem dX10_readNumber_55 : decode cX10_readNumber 55 = .ok (.if_icmp .ge 15, 3) := by decide +kernel
theorem dX10_readNumber_58 : decode cX10_readNumber 58 = .ok (.aload_n 0, 1) := by decide +kernel
theorem dX10_readNumber_59 : decode cX10_readNumber 59 = .ok (.getfield 9, 3) := by decide +kernel
theorem dX10_readNumber_62 : decode cX10_readNumber 62 = .ok (.aload_n 0, 1) := by decide +kernel
theorem dX10_readNumber_63 : decode cX10_readNumber 63 = .ok (.getfield 19, 3) := by decide +kernel
theorem dX10_readNumber_66 : decode cX10_readNumber 66 = .ok (.caload, 1) := by decide +kernel
theorem dX10_readNumber_67 : decode cX10_readNumber 67 = .ok (.goto 4, 3) := by decide +kernel
theorem dX10_readNumber_70 : decode cX10_readNumber 70 = .ok (.iconst (-1), 1) := by decide +kernel
theorem dX10_readNumber_71 : decode cX10_readNumber 71 = .ok (.istore 4, 2) := by decide +kernel
theorem dX10_readNumber_73 : decode cX10_readNumber 73 = .ok (.goto (-63), 3) := by decide +kernel
theorem dX10_readNumber_76 : decode cX10_readNumber 76 = .ok (.iload_n 3, 1) := by decide +kernel
theorem dX10_readNumber_77 : decode cX10_readNumber 77 = .ok (.ifCond .eq 11, 3) := by decide +kernel
theorem dX10_readNumber_80 : decode cX10_readNumber 80 = .ok (.iload 4, 2) := by decide +kernel
theorem dX10_readNumber_82 : decode cX10_readNumber 82 = .ok (.invokestatic 26, 3) := by decide +kernel
theorem dX10_readNumber_85 : decode cX10_readNumber 85 = .ok (.ifCond .eq 7, 3) := by decide +kernel
theorem dX10_readNumber_88 : decode cX10_readNumber 88 = .ok (.iconst (-1), 1) := by decide +kernel
theorem dX10_readNumber_89 : decode cX10_readNumber 89 = .ok (.goto 4, 3) := by decide +kernel
theorem dX10_readNumber_92 : decode cX10_readNumber 92 = .ok (.iload_n 2, 1) := by decide +kernel
theorem dX10_readNumber_93 : decode cX10_readNumber 93 = .ok (.ireturn, 1) := by decide +kernel
theorem ML_X10_26 : MLk RX10 26 yX11_isDigit := Or.inr ⟨_, mn_X10_26⟩
theorem MS_X11_isDigit : MSk K_X11_isDigit 1 := ⟨⟨cd_X11_isDigit, in_X11, ⟨by decide, by decide, by decide +kernel⟩, by decide⟩, st_X11_isDigit⟩
def f_X10_readNumber_71 (q10 : Nat → Int32 → Int32 → Int32 → Int32 → AH → Option (Int32 × AH)) (k0 : Nat) (x1 : Int32) (x2 : Int32) (x3 : Int32) (s0 : Int32) (h : AH) : Option (Int32 × AH) :=
  q10 k0 x1 x2 x3 s0 h
def f_X10_readNumber_93 (s0 : Int32) (h : AH) : Option (Int32 × AH) :=
  some (s0, h)
def f_X10_readNumber_88  (h : AH) : Option (Int32 × AH) :=
  f_X10_readNumber_93 (-1) h
def f_X10_readNumber_76 (x2 : Int32) (x3 : Int32) (x4 : Int32) (h : AH) : Option (Int32 × AH) :=
  if x3 = 0 then (
    f_X10_readNumber_88 h
  ) else (
    ob (f_X11_isDigit x4 h) fun r_4 h_3 =>
    if r_4 = 0 then (
      f_X10_readNumber_93 x2 h_3
    ) else (
      f_X10_readNumber_88 h_3
    )
  )
def f_X10_readNumber_10 : Nat → Nat → Int32 → Int32 → Int32 → Int32 → AH → Option (Int32 × AH)
  | 0, _, _, _, _, _, _ => none
  | n + 1, k0, x1, x2, x3, x4, h =>
    if x1 ≤ x3 then (
      f_X10_readNumber_76 x2 x3 x4 h
    ) else (
      ob (f_X11_isDigit x4 h) fun r_4 h_3 =>
      if r_4 = 0 then (
        f_X10_readNumber_76 x2 x3 x4 h_3
      ) else (
        nm ((((x2 * 10) + x4) - 48)) fun x2_6 =>
        nm (x3 + 1) fun x3_8 =>
        nm (sI h_3 k0 2 ((h_3.1 k0 2) + 1)) fun h_10 =>
        if (h_10.1 k0 1) ≤ (h_10.1 k0 2) then (
          f_X10_readNumber_71 (f_X10_readNumber_10 n) k0 x1 x2_6 x3_8 (-1) h_10
        ) else (
          og (ix (h_10.1 k0 2) (an (rf k0 0))) <|
          f_X10_readNumber_71 (f_X10_readNumber_10 n) k0 x1 x2_6 x3_8 (h_10.1 (rf k0 0) (h_10.1 k0 2).toNatClampNeg) h_10
        )
      )
    )
def f_X10_readNumber (k0 : Nat) (x1 : Int32) (h : AH) : Option (Int32 × AH) :=
  ob (f_X10_next k0 h) fun r_3 h_2 =>
  f_X10_readNumber_10 FU k0 x1 0 0 r_3 h_2
set_option maxHeartbeats 4000000 in
set_option maxRecDepth 100000 in
theorem v_X10_readNumber_71 {E : EV} {d : Nat} (hd : 1 ≤ d) {r0 : Int32} {h0 : AH} {q10 : Nat → Int32 → Int32 → Int32 → Int32 → AH → Option (Int32 × AH)} (cq10 : ∀ (k0 : Nat) (x1 : Int32) (x2 : Int32) (x3 : Int32) (x4 : Int32) (h : AH), q10 k0 x1 x2 x3 x4 h = some (r0, h0) → kd k0 = (0, 10) → V E (d + 1) K_X10_readNumber (ZI E r0 h0) h [(0, .ref k0), (1, .int x1), (2, .int x2), (3, .int x3), (4, .int x4)] [] 10) {k0 : Nat} {x1 : Int32} {x2 : Int32} {x3 : Int32} {s0 : Int32} {h : AH} (hf : f_X10_readNumber_71 q10 k0 x1 x2 x3 s0 h = some (r0, h0)) (t_k0 : kd k0 = (0, 10)) : V E (d + 1) K_X10_readNumber (ZI E r0 h0) h [(0, .ref k0), (1, .int x1), (2, .int x2), (3, .int x3)] [.int s0] 71 := by
  unfold f_X10_readNumber_71 at hf
  refine V_istore (L' := [(4, .int s0), (0, .ref k0), (1, .int x1), (2, .int x2), (3, .int x3)]) dX10_readNumber_71 (Nat.le_of_ble_eq_true rfl) rfl rfl ?_
  refine V_goto (tgt := 10) dX10_readNumber_73 (by decide) ?_
  refine V_sub [1, 2, 3, 4, 0] rfl ?_
  exact cq10 _ _ _ _ _ _ hf t_k0
set_option maxHeartbeats 4000000 in
set_option maxRecDepth 100000 in
theorem v_X10_readNumber_93 {E : EV} {d : Nat} (hd : 1 ≤ d) {r0 : Int32} {h0 : AH} {s0 : Int32} {h : AH} (hf : f_X10_readNumber_93 s0 h = some (r0, h0)) : V E (d + 1) K_X10_readNumber (ZI E r0 h0) h [] [.int s0] 93 := by
  unfold f_X10_readNumber_93 at hf
  exact V_iret rfl (so_s hf) dX10_readNumber_93
set_option maxHeartbeats 4000000 in
set_option maxRecDepth 100000 in
theorem v_X10_readNumber_88 {E : EV} {d : Nat} (hd : 1 ≤ d) {r0 : Int32} {h0 : AH}  {h : AH} (hf : f_X10_readNumber_88 h = some (r0, h0)) : V E (d + 1) K_X10_readNumber (ZI E r0 h0) h [] [] 88 := by
  unfold f_X10_readNumber_88 at hf
  refine V_iconst (v := (-1)) dX10_readNumber_88 (by decide) ?_
  refine V_goto (tgt := 93) dX10_readNumber_89 (by decide) ?_
  exact v_X10_readNumber_93 hd hf
set_option maxHeartbeats 4000000 in
set_option maxRecDepth 100000 in
theorem v_X10_readNumber_76 {E : EV} {d : Nat} (hd : 1 ≤ d) {r0 : Int32} {h0 : AH} {x2 : Int32} {x3 : Int32} {x4 : Int32} {h : AH} (hf : f_X10_readNumber_76 x2 x3 x4 h = some (r0, h0)) : V E (d + 1) K_X10_readNumber (ZI E r0 h0) h [(2, .int x2), (3, .int x3), (4, .int x4)] [] 76 := by
  unfold f_X10_readNumber_76 at hf
  refine V_iload_n 1 dX10_readNumber_76 rfl rfl ?_
  refine V_if_eq (tgt := 88) dX10_readNumber_77 (by decide) (fun c_1 => ?_) (fun c_1 => ?_)
  · have hf := it_s c_1 hf
    refine V_sub [] rfl ?_
    exact v_X10_readNumber_88 hd hf
  · have hf := if_s c_1 hf
    refine V_iload 2 dX10_readNumber_80 rfl ?_
    obtain ⟨r_4, h_3, e_2, hf⟩ := ob_s hf
    refine V_csi (As := [.int x4]) (rest := []) (c_X11_isDigit (d := d) (Nat.le_trans (Nat.le_of_ble_eq_true rfl) hd) e_2) ML_X10_26 MS_X11_isDigit rfl rfl rfl (Nat.le_of_ble_eq_true rfl) dX10_readNumber_82 ?_
    refine V_if_eq (tgt := 92) dX10_readNumber_85 (by decide) (fun c_5 => ?_) (fun c_5 => ?_)
    · have hf := it_s c_5 hf
      refine V_iload_n 0 dX10_readNumber_92 rfl rfl ?_
      refine V_sub [] rfl ?_
      exact v_X10_readNumber_93 hd hf
    · have hf := if_s c_5 hf
      refine V_sub [] rfl ?_
      exact v_X10_readNumber_88 hd hf
set_option maxHeartbeats 4000000 in
set_option maxRecDepth 100000 in
theorem v_X10_readNumber_10 {E : EV} {d : Nat} (hd : 1 ≤ d) {r0 : Int32} {h0 : AH} : ∀ (n : Nat) (k0 : Nat) (x1 : Int32) (x2 : Int32) (x3 : Int32) (x4 : Int32) (h : AH), f_X10_readNumber_10 n k0 x1 x2 x3 x4 h = some (r0, h0) → kd k0 = (0, 10) → V E (d + 1) K_X10_readNumber (ZI E r0 h0) h [(0, .ref k0), (1, .int x1), (2, .int x2), (3, .int x3), (4, .int x4)] [] 10 := by
  intro n
  induction n with
  | zero =>
    intro k0 x1 x2 x3 x4 h hf
    rw [f_X10_readNumber_10] at hf
    cases hf
  | succ n ih =>
    intro k0 x1 x2 x3 x4 h hf t_k0
    rw [f_X10_readNumber_10] at hf
    refine V_iload_n 3 dX10_readNumber_10 rfl rfl ?_
    refine V_iload_n 1 dX10_readNumber_11 rfl rfl ?_
    refine V_ic_ge (tgt := 76) dX10_readNumber_12 (by decide) (fun c_1 => ?_) (fun c_1 => ?_)
    · have hf := it_s c_1 hf
      refine V_sub [2, 3, 4] rfl ?_
      exact v_X10_readNumber_76 hd hf
    · have hf := if_s c_1 hf
      refine V_iload 4 dX10_readNumber_15 rfl ?_
      obtain ⟨r_4, h_3, e_2, hf⟩ := ob_s hf
      refine V_csi (As := [.int x4]) (rest := []) (c_X11_isDigit (d := d) (Nat.le_trans (Nat.le_of_ble_eq_true rfl) hd) e_2) ML_X10_26 MS_X11_isDigit rfl rfl rfl (Nat.le_of_ble_eq_true rfl) dX10_readNumber_17 ?_
      refine V_if_eq (tgt := 76) dX10_readNumber_20 (by decide) (fun c_5 => ?_) (fun c_5 => ?_)
      · have hf := it_s c_5 hf
        refine V_sub [2, 3, 4] rfl ?_
        exact v_X10_readNumber_76 hd hf
      · have hf := if_s c_5 hf
        refine V_iload_n 2 dX10_readNumber_23 rfl rfl ?_
        refine V_bipush (v := 10) dX10_readNumber_24 (by decide) ?_
        refine V_imul dX10_readNumber_26 ?_
        refine V_iload 4 dX10_readNumber_27 rfl ?_
        refine V_iadd dX10_readNumber_29 ?_
        refine V_bipush (v := 48) dX10_readNumber_30 (by decide) ?_
        refine V_isub dX10_readNumber_32 ?_
        obtain ⟨x2_6, e_7, hf⟩ := nm_s hf
        refine V_istore_n (L' := [(2, .int x2_6), (0, .ref k0), (1, .int x1), (3, .int x3), (4, .int x4)]) dX10_readNumber_33 rfl (Nat.le_of_ble_eq_true rfl) e_7 rfl ?_
        obtain ⟨x3_8, e_9, hf⟩ := nm_s hf
        refine V_iinc (a := 1) (L' := [(3, .int x3_8), (2, .int x2_6), (0, .ref k0), (1, .int x1), (4, .int x4)]) 3 dX10_readNumber_34 rfl (by decide) (Nat.le_of_ble_eq_true rfl) e_9 rfl ?_
        refine V_aload_n 2 dX10_readNumber_37 rfl rfl ?_
        refine V_dup dX10_readNumber_38 rfl ?_
        refine V_getI F_X10_19 rfl t_k0 rfl dX10_readNumber_39 ?_
        refine V_iconst (v := 1) dX10_readNumber_42 (by decide) ?_
        refine V_iadd dX10_readNumber_43 ?_
        obtain ⟨h_10, e_11, hf⟩ := nm_s hf
        refine V_putI P_X10_19 rfl t_k0 rfl e_11 dX10_readNumber_44 ?_
        refine V_aload_n 2 dX10_readNumber_47 rfl rfl ?_
        refine V_getI F_X10_19 rfl t_k0 rfl dX10_readNumber_48 ?_
        refine V_aload_n 2 dX10_readNumber_51 rfl rfl ?_
        refine V_getI F_X10_15 rfl t_k0 rfl dX10_readNumber_52 ?_
        refine V_ic_ge (tgt := 70) dX10_readNumber_55 (by decide) (fun c_12 => ?_) (fun c_12 => ?_)
        · have hf := it_s c_12 hf
          refine V_iconst (v := (-1)) dX10_readNumber_70 (by decide) ?_
          refine V_sub [2, 3, 1, 0] rfl ?_
          exact v_X10_readNumber_71 hd ih hf t_k0
        · have hf := if_s c_12 hf
          refine V_aload_n 2 dX10_readNumber_58 rfl rfl ?_
          refine V_getR F_X10_9 rfl t_k0 rfl dX10_readNumber_59 ?_
          refine V_aload_n 2 dX10_readNumber_62 rfl rfl ?_
          refine V_getI F_X10_19 rfl t_k0 rfl dX10_readNumber_63 ?_
          obtain ⟨b_13, hf⟩ := og_s hf
          refine V_cald (rfA t_k0 (Nat.le_of_ble_eq_true rfl) rfl rfl (by decide)) b_13 dX10_readNumber_66 ?_
          refine V_goto (tgt := 71) dX10_readNumber_67 (by decide) ?_
          refine V_sub [2, 3, 1, 0] rfl ?_
          exact v_X10_readNumber_71 hd ih hf t_k0
set_option maxHeartbeats 4000000 in
set_option maxRecDepth 100000 in
theorem c_X10_readNumber {E : EV} {d : Nat} (hd : 1 + 1 ≤ d) {k0 : Nat} {x1 : Int32} {h : AH} {r0 : Int32} {h0 : AH} (hf : f_X10_readNumber k0 x1 h = some (r0, h0)) (t_k0 : kd k0 = (0, 10)) : Con E d K_X10_readNumber (ZI E r0 h0) [.ref k0, .int x1] h := by
  obtain ⟨d, rfl⟩ : ∃ d', d = d' + 1 := ⟨d - 1, by omega⟩
  have hd := Nat.le_of_succ_le_succ hd
  refine Con.ofV rfl (Nat.le_of_ble_eq_true rfl) ?_
  unfold f_X10_readNumber at hf
  show V E (d + 1) K_X10_readNumber (ZI E r0 h0) h [(0, .ref k0), (1, .int x1)] [] 0
  refine V_iconst (v := 0) dX10_readNumber_0 (by decide) ?_
  refine V_istore_n (L' := [(2, .int 0), (0, .ref k0), (1, .int x1)]) dX10_readNumber_1 rfl (Nat.le_of_ble_eq_true rfl) rfl rfl ?_
  refine V_iconst (v := 0) dX10_readNumber_2 (by decide) ?_
  refine V_istore_n (L' := [(3, .int 0), (2, .int 0), (0, .ref k0), (1, .int x1)]) dX10_readNumber_3 rfl (Nat.le_of_ble_eq_true rfl) rfl rfl ?_
  refine V_aload_n 2 dX10_readNumber_4 rfl rfl ?_
  obtain ⟨r_3, h_2, e_1, hf⟩ := ob_s hf
  refine V_cvi (As := []) (rest := []) (c_X10_next (d := d) (Nat.le_trans (Nat.le_of_ble_eq_true rfl) hd) e_1 t_k0) ML_X10_22 MV_X10_next rfl t_k0 rfl rfl (Nat.le_of_ble_eq_true rfl) dX10_readNumber_5 ?_
  refine V_istore (L' := [(4, .int r_3), (3, .int 0), (2, .int 0), (0, .ref k0), (1, .int x1)]) dX10_readNumber_8 (Nat.le_of_ble_eq_true rfl) rfl rfl ?_
  refine V_sub [3, 4, 2, 1, 0] rfl ?_
  exact v_X10_readNumber_10 hd FU _ _ _ _ _ _ hf t_k0
theorem dX11_agree_0 : decode cX11_agree 0 = .ok (.aload_n 0, 1) := by decide +kernel
theorem dX11_agree_1 : decode cX11_agree 1 = .ok (.getfield 19, 3) := by decide +kernel
theorem dX11_agree_4 : decode cX11_agree 4 = .ok (.getfield 144, 3) := by decide +kernel
theorem dX11_agree_7 : decode cX11_agree 7 = .ok (.ifCond .ne 5, 3) := by decide +kernel
theorem dX11_agree_10 : decode cX11_agree 10 = .ok (.iconst (-1), 1) := by decide +kernel
theorem dX11_agree_11 : decode cX11_agree 11 = .ok (.ireturn, 1) := by decide +kernel
theorem dX11_agree_12 : decode cX11_agree 12 = .ok (.iconst 0, 1) := by decide +kernel
theorem dX11_agree_13 : decode cX11_agree 13 = .ok (.istore_n 1, 1) := by decide +kernel
theorem dX11_agree_14 : decode cX11_agree 14 = .ok (.iconst 0, 1) := by decide +kernel
theorem dX11_agree_15 : decode cX11_agree 15 = .ok (.istore_n 2, 1) := by decide +kernel
theorem dX11_agree_16 : decode cX11_agree 16 = .ok (.iload_n 2, 1) := by decide +kernel
theorem dX11_agree_17 : decode cX11_agree 17 = .ok (.aload_n 0, 1) := by decide +kernel
theorem dX11_agree_18 : decode cX11_agree 18 = .ok (.getfield 19, 3) := by decide +kernel
theorem dX11_agree_21 : decode cX11_agree 21 = .ok (.getfield 144, 3) := by decide +kernel
theorem dX11_agree_24 : decode cX11_agree 24 = .ok (.if_icmp .ge 35, 3) := by decide +kernel
theorem dX11_agree_27 : decode cX11_agree 27 = .ok (.aload_n 0, 1) := by decide +kernel
theorem dX11_agree_28 : decode cX11_agree 28 = .ok (.getfield 55, 3) := by decide +kernel
theorem dX11_agree_31 : decode cX11_agree 31 = .ok (.iload_n 2, 1) := by decide +kernel
theorem dX11_agree_32 : decode cX11_agree 32 = .ok (.aload_n 0, 1) := by decide +kernel
theorem dX11_agree_33 : decode cX11_agree 33 = .ok (.getfield 19, 3) := by decide +kernel
theorem dX11_agree_36 : decode cX11_agree 36 = .ok (.iload_n 2, 1) := by decide +kernel
theorem dX11_agree_37 : decode cX11_agree 37 = .ok (.iconst 3, 1) := by decide +kernel
theorem dX11_agree_38 : decode cX11_agree 38 = .ok (.invokevirtual 162, 3) := by decide +kernel
theorem dX11_agree_41 : decode cX11_agree 41 = .ok (.invokevirtual 323, 3) := by decide +kernel
theorem dX11_agree_44 : decode cX11_agree 44 = .ok (.ifCond .eq 9, 3) := by decide +kernel
theorem dX11_agree_47 : decode cX11_agree 47 = .ok (.iload_n 1, 1) := by decide +kernel
theorem dX11_agree_48 : decode cX11_agree 48 = .ok (.iconst 1, 1) := by decide +kernel
theorem dX11_agree_49 : decode cX11_agree 49 = .ok (.iload_n 2, 1) := by decide +kernel
theorem dX11_agree_50 : decode cX11_agree 50 = .ok (.ishl, 1) := by decide +kernel
theorem dX11_agree_51 : decode cX11_agree 51 = .ok (.ior, 1) := by decide +kernel
theorem dX11_agree_52 : decode cX11_agree 52 = .ok (.istore_n 1, 1) := by decide +kernel
theorem dX11_agree_53 : decode cX11_agree 53 = .ok (.iinc 2 1, 3) := by decide +kernel
theorem dX11_agree_56 : decode cX11_agree 56 = .ok (.goto (-40), 3) := by decide +kernel
theorem dX11_agree_59 : decode cX11_agree 59 = .ok (.iload_n 1, 1) := by decide +kernel
theorem dX11_agree_60 : decode cX11_agree 60 = .ok (.ireturn, 1) := by decide +kernel
theorem F_X11_19 : FLk RX11 19 11 1 := ⟨RX11, TX11, 16, rfl, rfl, iw_X11, by decide, Or.inl fl_X11_19⟩
theorem F_X11_144 : FLk RX11 144 6 2 := ⟨RX6, TX6, 3, rfl, rfl, iw_X6, by decide, Or.inr ⟨_, fn_X11_144⟩⟩
theorem F_X11_55 : FLk RX11 55 11 9 := ⟨RX11, TX11, 16, rfl, rfl, iw_X11, by decide, Or.inl fl_X11_55⟩
theorem ML_X11_162 : MLk RX11 162 yX6_item := Or.inl ml_X11_162
theorem ML_X11_323 : MLk RX11 323 yX1_isSeenAlways := Or.inl ml_X11_323
theorem MV_X1_isSeenAlways : MVk K_X1_isSeenAlways 2 1 := ⟨⟨cd_X1_isSeenAlways, in_X1, ⟨by decide, by decide, by decide +kernel⟩, by decide⟩, im_X1_isSeenAlways, se_X1_isSeenAlways, _, _, rfl⟩
def f_X11_agree_53 (q16 : Nat → Int32 → Int32 → AH → Option (Int32 × AH)) (k0 : Nat) (x1 : Int32) (x2 : Int32) (h : AH) : Option (Int32 × AH) :=
  nm (x2 + 1) fun x2_1 =>
  q16 k0 x1 x2_1 h
def f_X11_agree_16 : Nat → Nat → Int32 → Int32 → AH → Option (Int32 × AH)
  | 0, _, _, _, _ => none
  | n + 1, k0, x1, x2, h =>
    if (h.1 (rf k0 1) 2) ≤ x2 then (
      some (x1, h)
    ) else (
      ob (f_X6_item (rf k0 1) x2 3 h) fun r_4 h_3 =>
      ob (f_X1_isSeenAlways (rf k0 9) x2 r_4 h_3) fun r_7 h_6 =>
      if r_7 = 0 then (
        f_X11_agree_53 (f_X11_agree_16 n) k0 x1 x2 h_6
      ) else (
        nm ((x1 ||| ((1 : Int32) <<< (x2 &&& 31)))) fun x1_9 =>
        f_X11_agree_53 (f_X11_agree_16 n) k0 x1_9 x2 h_6
      )
    )
def f_X11_agree (k0 : Nat) (h : AH) : Option (Int32 × AH) :=
  if (h.1 (rf k0 1) 2) = 0 then (
    some ((-1), h)
  ) else (
    f_X11_agree_16 FU k0 0 0 h
  )
set_option maxHeartbeats 4000000 in
set_option maxRecDepth 100000 in
theorem v_X11_agree_53 {E : EV} {d : Nat} (hd : 2 ≤ d) {r0 : Int32} {h0 : AH} {q16 : Nat → Int32 → Int32 → AH → Option (Int32 × AH)} (cq16 : ∀ (k0 : Nat) (x1 : Int32) (x2 : Int32) (h : AH), q16 k0 x1 x2 h = some (r0, h0) → kd k0 = (0, 11) → V E (d + 1) K_X11_agree (ZI E r0 h0) h [(0, .ref k0), (1, .int x1), (2, .int x2)] [] 16) {k0 : Nat} {x1 : Int32} {x2 : Int32} {h : AH} (hf : f_X11_agree_53 q16 k0 x1 x2 h = some (r0, h0)) (t_k0 : kd k0 = (0, 11)) : V E (d + 1) K_X11_agree (ZI E r0 h0) h [(0, .ref k0), (1, .int x1), (2, .int x2)] [] 53 := by
  unfold f_X11_agree_53 at hf
  obtain ⟨x2_1, e_2, hf⟩ := nm_s hf
  refine V_iinc (a := 1) (L' := [(2, .int x2_1), (0, .ref k0), (1, .int x1)]) 2 dX11_agree_53 rfl (by decide) (Nat.le_of_ble_eq_true rfl) e_2 rfl ?_
  refine V_goto (tgt := 16) dX11_agree_56 (by decide) ?_
  refine V_sub [1, 2, 0] rfl ?_
  exact cq16 _ _ _ _ hf t_k0
set_option maxHeartbeats 4000000 in
set_option maxRecDepth 100000 in
theorem v_X11_agree_16 {E : EV} {d : Nat} (hd : 2 ≤ d) {r0 : Int32} {h0 : AH} : ∀ (n : Nat) (k0 : Nat) (x1 : Int32) (x2 : Int32) (h : AH), f_X11_agree_16 n k0 x1 x2 h = some (r0, h0) → kd k0 = (0, 11) → V E (d + 1) K_X11_agree (ZI E r0 h0) h [(0, .ref k0), (1, .int x1), (2, .int x2)] [] 16 := by
  intro n
  induction n with
  | zero =>
    intro k0 x1 x2 h hf
    rw [f_X11_agree_16] at hf
    cases hf
  | succ n ih =>
    intro k0 x1 x2 h hf t_k0
    rw [f_X11_agree_16] at hf
    refine V_iload_n 2 dX11_agree_16 rfl rfl ?_
    refine V_aload_n 0 dX11_agree_17 rfl rfl ?_
    refine V_getR F_X11_19 rfl t_k0 rfl dX11_agree_18 ?_
    refine V_getI F_X11_144 rfl (rfO t_k0 (Nat.le_of_ble_eq_true rfl) rfl rfl) rfl dX11_agree_21 ?_
    refine V_ic_ge (tgt := 59) dX11_agree_24 (by decide) (fun c_1 => ?_) (fun c_1 => ?_)
    · have hf := it_s c_1 hf
      refine V_iload_n 1 dX11_agree_59 rfl rfl ?_
      exact V_iret rfl (so_s hf) dX11_agree_60
    · have hf := if_s c_1 hf
      refine V_aload_n 0 dX11_agree_27 rfl rfl ?_
      refine V_getR F_X11_55 rfl t_k0 rfl dX11_agree_28 ?_
      refine V_iload_n 2 dX11_agree_31 rfl rfl ?_
      refine V_aload_n 0 dX11_agree_32 rfl rfl ?_
      refine V_getR F_X11_19 rfl t_k0 rfl dX11_agree_33 ?_
      refine V_iload_n 2 dX11_agree_36 rfl rfl ?_
      refine V_iconst (v := 3) dX11_agree_37 (by decide) ?_
      obtain ⟨r_4, h_3, e_2, hf⟩ := ob_s hf
      refine V_cvi (As := [.int x2, .int 3]) (rest := [.int x2, .ref (rf k0 9)]) (c_X6_item (d := d) (Nat.le_trans (Nat.le_of_ble_eq_true rfl) hd) e_2 (rfO t_k0 (Nat.le_of_ble_eq_true rfl) rfl rfl)) ML_X11_162 MV_X6_item rfl (rfO t_k0 (Nat.le_of_ble_eq_true rfl) rfl rfl) rfl rfl (Nat.le_of_ble_eq_true rfl) dX11_agree_38 ?_
      obtain ⟨r_7, h_6, e_5, hf⟩ := ob_s hf
      refine V_cvi (As := [.int x2, .int r_4]) (rest := []) (c_X1_isSeenAlways (d := d) (Nat.le_trans (Nat.le_of_ble_eq_true rfl) hd) e_5 (rfO t_k0 (Nat.le_of_ble_eq_true rfl) rfl rfl)) ML_X11_323 MV_X1_isSeenAlways rfl (rfO t_k0 (Nat.le_of_ble_eq_true rfl) rfl rfl) rfl rfl (Nat.le_of_ble_eq_true rfl) dX11_agree_41 ?_
      refine V_if_eq (tgt := 53) dX11_agree_44 (by decide) (fun c_8 => ?_) (fun c_8 => ?_)
      · have hf := it_s c_8 hf
        exact v_X11_agree_53 hd ih hf t_k0
      · have hf := if_s c_8 hf
        refine V_iload_n 1 dX11_agree_47 rfl rfl ?_
        refine V_iconst (v := 1) dX11_agree_48 (by decide) ?_
        refine V_iload_n 2 dX11_agree_49 rfl rfl ?_
        refine V_ishl dX11_agree_50 ?_
        refine V_ior dX11_agree_51 ?_
        obtain ⟨x1_9, e_10, hf⟩ := nm_s hf
        refine V_istore_n (L' := [(1, .int x1_9), (0, .ref k0), (2, .int x2)]) dX11_agree_52 rfl (Nat.le_of_ble_eq_true rfl) e_10 rfl ?_
        refine V_sub [1, 0, 2] rfl ?_
        exact v_X11_agree_53 hd ih hf t_k0
set_option maxHeartbeats 4000000 in
set_option maxRecDepth 100000 in
theorem c_X11_agree {E : EV} {d : Nat} (hd : 2 + 1 ≤ d) {k0 : Nat} {h : AH} {r0 : Int32} {h0 : AH} (hf : f_X11_agree k0 h = some (r0, h0)) (t_k0 : kd k0 = (0, 11)) : Con E d K_X11_agree (ZI E r0 h0) [.ref k0] h := by
  obtain ⟨d, rfl⟩ : ∃ d', d = d' + 1 := ⟨d - 1, by omega⟩
  have hd := Nat.le_of_succ_le_succ hd
  refine Con.ofV rfl (Nat.le_of_ble_eq_true rfl) ?_
  unfold f_X11_agree at hf
  show V E (d + 1) K_X11_agree (ZI E r0 h0) h [(0, .ref k0)] [] 0
  refine V_aload_n 0 dX11_agree_0 rfl rfl ?_
  refine V_getR F_X11_19 rfl t_k0 rfl dX11_agree_1 ?_
  refine V_getI F_X11_144 rfl (rfO t_k0 (Nat.le_of_ble_eq_true rfl) rfl rfl) rfl dX11_agree_4 ?_
  refine V_if_ne (tgt := 12) dX11_agree_7 (by decide) (fun c_1 => ?_) (fun c_1 => ?_)
  · have hf := if_s c_1 hf
    refine V_iconst (v := 0) dX11_agree_12 (by decide) ?_
    refine V_istore_n (L' := [(1, .int 0), (0, .ref k0)]) dX11_agree_13 rfl (Nat.le_of_ble_eq_true rfl) rfl rfl ?_
    refine V_iconst (v := 0) dX11_agree_14 (by decide) ?_
    refine V_istore_n (L' := [(2, .int 0), (1, .int 0), (0, .ref k0)]) dX11_agree_15 rfl (Nat.le_of_ble_eq_true rfl) rfl rfl ?_
    refine V_sub [2, 1, 0] rfl ?_
    exact v_X11_agree_16 hd FU _ _ _ _ hf t_k0
  · have hf := it_s c_1 hf
    refine V_iconst (v := (-1)) dX11_agree_10 (by decide) ?_
    exact V_iret rfl (so_s hf) dX11_agree_11
theorem dX9_copy_0 : decode cX9_copy 0 = .ok (.aload_n 1, 1) := by decide +kernel
theorem dX9_copy_1 : decode cX9_copy 1 = .ok (.getfield 9, 3) := by decide +kernel
theorem dX9_copy_4 : decode cX9_copy 4 = .ok (.iconst 0, 1) := by decide +kernel
theorem dX9_copy_5 : decode cX9_copy 5 = .ok (.aload_n 0, 1) := by decide +kernel
theorem dX9_copy_6 : decode cX9_copy 6 = .ok (.getfield 9, 3) := by decide +kernel
theorem dX9_copy_9 : decode cX9_copy 9 = .ok (.iconst 0, 1) := by decide +kernel
theorem dX9_copy_10 : decode cX9_copy 10 = .ok (.bipush 6, 2) := by decide +kernel
theorem dX9_copy_12 : decode cX9_copy 12 = .ok (.invokestatic 31, 3) := by decide +kernel
theorem dX9_copy_15 : decode cX9_copy 15 = .ok (.aload_n 1, 1) := by decide +kernel
theorem dX9_copy_16 : decode cX9_copy 16 = .ok (.getfield 15, 3) := by decide +kernel
theorem dX9_copy_19 : decode cX9_copy 19 = .ok (.iconst 0, 1) := by decide +kernel
theorem dX9_copy_20 : decode cX9_copy 20 = .ok (.aload_n 0, 1) := by decide +kernel
theorem dX9_copy_21 : decode cX9_copy 21 = .ok (.getfield 15, 3) := by decide +kernel
theorem dX9_copy_24 : decode cX9_copy 24 = .ok (.iconst 0, 1) := by decide +kernel
theorem dX9_copy_25 : decode cX9_copy 25 = .ok (.bipush 6, 2) := by decide +kernel
theorem dX9_copy_27 : decode cX9_copy 27 = .ok (.invokestatic 31, 3) := by decide +kernel
theorem dX9_copy_30 : decode cX9_copy 30 = .ok (.aload_n 1, 1) := by decide +kernel
theorem dX9_copy_31 : decode cX9_copy 31 = .ok (.getfield 18, 3) := by decide +kernel
theorem dX9_copy_34 : decode cX9_copy 34 = .ok (.iconst 0, 1) := by decide +kernel
theorem dX9_copy_35 : decode cX9_copy 35 = .ok (.aload_n 0, 1) := by decide +kernel
theorem dX9_copy_36 : decode cX9_copy 36 = .ok (.getfield 18, 3) := by decide +kernel
theorem dX9_copy_39 : decode cX9_copy 39 = .ok (.iconst 0, 1) := by decide +kernel
theorem dX9_copy_40 : decode cX9_copy 40 = .ok (.bipush 6, 2) := by decide +kernel
theorem dX9_copy_42 : decode cX9_copy 42 = .ok (.invokestatic 31, 3) := by decide +kernel
theorem dX9_copy_45 : decode cX9_copy 45 = .ok (.return_, 1) := by decide +kernel
theorem F_X9_9 : FLk RX9 9 9 0 := ⟨RX9, TX9, 3, rfl, rfl, iw_X9, by decide, Or.inl fl_X9_9⟩
theorem F_X9_15 : FLk RX9 15 9 1 := ⟨RX9, TX9, 3, rfl, rfl, iw_X9, by decide, Or.inl fl_X9_15⟩
theorem F_X9_18 : FLk RX9 18 9 2 := ⟨RX9, TX9, 3, rfl, rfl, iw_X9, by decide, Or.inl fl_X9_18⟩
def f_X9_copy (k0 : Nat) (k1 : Nat) (h : AH) : Option AH :=
  og (cok 0 0 6 (an (rf k1 0)) (an (rf k0 0))) <|
  nm (sCp h (rf k1 0) 0 (rf k0 0) 0 6) fun h_2 =>
  og (cok 0 0 6 (an (rf k1 1)) (an (rf k0 1))) <|
  nm (sCp h_2 (rf k1 1) 0 (rf k0 1) 0 6) fun h_5 =>
  og (cok 0 0 6 (an (rf k1 2)) (an (rf k0 2))) <|
  nm (sCp h_5 (rf k1 2) 0 (rf k0 2) 0 6) fun h_8 =>
  some h_8
set_option maxHeartbeats 4000000 in
set_option maxRecDepth 100000 in
theorem c_X9_copy {E : EV} {d : Nat} (hd : 0 + 1 ≤ d) {k0 : Nat} {k1 : Nat} {h : AH} {h0 : AH} (hf : f_X9_copy k0 k1 h = some h0) (t_k0 : kd k0 = (0, 9)) (t_k1 : kd k1 = (0, 9)) : Con E d K_X9_copy (ZV E h0) [.ref k0, .ref k1] h := by
  obtain ⟨d, rfl⟩ : ∃ d', d = d' + 1 := ⟨d - 1, by omega⟩
  have hd := Nat.le_of_succ_le_succ hd
  refine Con.ofV rfl (Nat.le_of_ble_eq_true rfl) ?_
  unfold f_X9_copy at hf
  show V E (d + 1) K_X9_copy (ZV E h0) h [(0, .ref k0), (1, .ref k1)] [] 0
  refine V_aload_n 1 dX9_copy_0 rfl rfl ?_
  refine V_getR F_X9_9 rfl t_k1 rfl dX9_copy_1 ?_
  refine V_iconst (v := 0) dX9_copy_4 (by decide) ?_
  refine V_aload_n 0 dX9_copy_5 rfl rfl ?_
  refine V_getR F_X9_9 rfl t_k0 rfl dX9_copy_6 ?_
  refine V_iconst (v := 0) dX9_copy_9 (by decide) ?_
  refine V_bipush (v := 6) dX9_copy_10 (by decide) ?_
  obtain ⟨b_1, hf⟩ := og_s hf
  obtain ⟨h_2, e_3, hf⟩ := nm_s hf
  refine V_acopy ml_X9_31 rfl (rfA t_k1 (Nat.le_of_ble_eq_true rfl) rfl rfl (by decide)) (rfA t_k0 (Nat.le_of_ble_eq_true rfl) rfl rfl (by decide)) b_1 e_3 (Nat.le_of_ble_eq_true rfl) dX9_copy_12 ?_
  refine V_aload_n 1 dX9_copy_15 rfl rfl ?_
  refine V_getR F_X9_15 rfl t_k1 rfl dX9_copy_16 ?_
  refine V_iconst (v := 0) dX9_copy_19 (by decide) ?_
  refine V_aload_n 0 dX9_copy_20 rfl rfl ?_
  refine V_getR F_X9_15 rfl t_k0 rfl dX9_copy_21 ?_
  refine V_iconst (v := 0) dX9_copy_24 (by decide) ?_
  refine V_bipush (v := 6) dX9_copy_25 (by decide) ?_
  obtain ⟨b_4, hf⟩ := og_s hf
  obtain ⟨h_5, e_6, hf⟩ := nm_s hf
  refine V_acopy ml_X9_31 rfl (rfA t_k1 (Nat.le_of_ble_eq_true rfl) rfl rfl (by decide)) (rfA t_k0 (Nat.le_of_ble_eq_true rfl) rfl rfl (by decide)) b_4 e_6 (Nat.le_of_ble_eq_true rfl) dX9_copy_27 ?_
  refine V_aload_n 1 dX9_copy_30 rfl rfl ?_
  refine V_getR F_X9_18 rfl t_k1 rfl dX9_copy_31 ?_
  refine V_iconst (v := 0) dX9_copy_34 (by decide) ?_
  refine V_aload_n 0 dX9_copy_35 rfl rfl ?_
  refine V_getR F_X9_18 rfl t_k0 rfl dX9_copy_36 ?_
  refine V_iconst (v := 0) dX9_copy_39 (by decide) ?_
  refine V_bipush (v := 6) dX9_copy_40 (by decide) ?_
  obtain ⟨b_7, hf⟩ := og_s hf
  obtain ⟨h_8, e_9, hf⟩ := nm_s hf
  refine V_acopy ml_X9_31 rfl (rfA t_k1 (Nat.le_of_ble_eq_true rfl) rfl rfl (by decide)) (rfA t_k0 (Nat.le_of_ble_eq_true rfl) rfl rfl (by decide)) b_7 e_9 (Nat.le_of_ble_eq_true rfl) dX9_copy_42 ?_
  exact V_vret rfl (so_s hf) dX9_copy_45
theorem dX11_back_0 : decode cX11_back 0 = .ok (.aload_n 0, 1) := by decide +kernel
theorem dX11_back_1 : decode cX11_back 1 = .ok (.getfield 140, 3) := by decide +kernel
theorem dX11_back_4 : decode cX11_back 4 = .ok (.ifCond .ne 5, 3) := by decide +kernel
theorem dX11_back_7 : decode cX11_back 7 = .ok (.iconst (-1), 1) := by decide +kernel
theorem dX11_back_8 : decode cX11_back 8 = .ok (.ireturn, 1) := by decide +kernel
theorem dX11_back_9 : decode cX11_back 9 = .ok (.aload_n 0, 1) := by decide +kernel
theorem dX11_back_10 : decode cX11_back 10 = .ok (.getfield 45, 3) := by decide +kernel
theorem dX11_back_13 : decode cX11_back 13 = .ok (.aload_n 0, 1) := by decide +kernel
theorem dX11_back_14 : decode cX11_back 14 = .ok (.getfield 49, 3) := by decide +kernel
theorem dX11_back_17 : decode cX11_back 17 = .ok (.invokevirtual 352, 3) := by decide +kernel
theorem dX11_back_20 : decode cX11_back 20 = .ok (.aload_n 0, 1) := by decide +kernel
theorem dX11_back_21 : decode cX11_back 21 = .ok (.getfield 55, 3) := by decide +kernel
theorem dX11_back_24 : decode cX11_back 24 = .ok (.invokevirtual 356, 3) := by decide +kernel
theorem dX11_back_27 : decode cX11_back 27 = .ok (.aload_n 0, 1) := by decide +kernel
theorem dX11_back_28 : decode cX11_back 28 = .ok (.getfield 55, 3) := by decide +kernel
theorem dX11_back_31 : decode cX11_back 31 = .ok (.getfield 192, 3) := by decide +kernel
theorem dX11_back_34 : decode cX11_back 34 = .ok (.ireturn, 1) := by decide +kernel
theorem F_X11_140 : FLk RX11 140 11 8 := ⟨RX11, TX11, 16, rfl, rfl, iw_X11, by decide, Or.inl fl_X11_140⟩
theorem F_X11_45 : FLk RX11 45 11 6 := ⟨RX11, TX11, 16, rfl, rfl, iw_X11, by decide, Or.inl fl_X11_45⟩
theorem F_X11_49 : FLk RX11 49 11 7 := ⟨RX11, TX11, 16, rfl, rfl, iw_X11, by decide, Or.inl fl_X11_49⟩
theorem ML_X11_352 : MLk RX11 352 yX9_copy := Or.inl ml_X11_352
theorem MV_X9_copy : MVk K_X9_copy 1 9 := ⟨⟨cd_X9_copy, in_X9, ⟨by decide, by decide, by decide +kernel⟩, by decide⟩, im_X9_copy, se_X9_copy, _, _, rfl⟩
theorem ML_X11_356 : MLk RX11 356 yX1_restore := Or.inl ml_X11_356
theorem MV_X1_restore : MVk K_X1_restore 0 1 := ⟨⟨cd_X1_restore, in_X1, ⟨by decide, by decide, by decide +kernel⟩, by decide⟩, im_X1_restore, se_X1_restore, _, _, rfl⟩
theorem F_X11_192 : FLk RX11 192 1 2 := ⟨RX1, TX1, 6, rfl, rfl, iw_X1, by decide, Or.inr ⟨_, fn_X11_192⟩⟩
def f_X11_back (k0 : Nat) (h : AH) : Option (Int32 × AH) :=
  if (h.1 k0 8) = 0 then (
    some ((-1), h)
  ) else (
    ov (f_X9_copy (rf k0 6) (rf k0 7) h) fun h_3 =>
    ov (f_X1_restore (rf k0 9) h_3) fun h_5 =>
    some ((h_5.1 (rf k0 9) 2), h_5)
  )
set_option maxHeartbeats 4000000 in
set_option maxRecDepth 100000 in
theorem c_X11_back {E : EV} {d : Nat} (hd : 1 + 1 ≤ d) {k0 : Nat} {h : AH} {r0 : Int32} {h0 : AH} (hf : f_X11_back k0 h = some (r0, h0)) (t_k0 : kd k0 = (0, 11)) : Con E d K_X11_back (ZI E r0 h0) [.ref k0] h := by
  obtain ⟨d, rfl⟩ : ∃ d', d = d' + 1 := ⟨d - 1, by omega⟩
  have hd := Nat.le_of_succ_le_succ hd
  refine Con.ofV rfl (Nat.le_of_ble_eq_true rfl) ?_
  unfold f_X11_back at hf
  show V E (d + 1) K_X11_back (ZI E r0 h0) h [(0, .ref k0)] [] 0
  refine V_aload_n 0 dX11_back_0 rfl rfl ?_
  refine V_getI F_X11_140 rfl t_k0 rfl dX11_back_1 ?_
  refine V_if_ne (tgt := 9) dX11_back_4 (by decide) (fun c_1 => ?_) (fun c_1 => ?_)
  · have hf := if_s c_1 hf
    refine V_aload_n 0 dX11_back_9 rfl rfl ?_
    refine V_getR F_X11_45 rfl t_k0 rfl dX11_back_10 ?_
    refine V_aload_n 0 dX11_back_13 rfl rfl ?_
    refine V_getR F_X11_49 rfl t_k0 rfl dX11_back_14 ?_
    obtain ⟨h_3, e_2, hf⟩ := ov_s hf
    refine V_cvv (As := [.ref (rf k0 7)]) (rest := []) (c_X9_copy (d := d) (Nat.le_trans (Nat.le_of_ble_eq_true rfl) hd) e_2 (rfO t_k0 (Nat.le_of_ble_eq_true rfl) rfl rfl) (rfO t_k0 (Nat.le_of_ble_eq_true rfl) rfl rfl)) ML_X11_352 MV_X9_copy rfl (rfO t_k0 (Nat.le_of_ble_eq_true rfl) rfl rfl) rfl rfl (Nat.le_of_ble_eq_true rfl) dX11_back_17 ?_
    refine V_aload_n 0 dX11_back_20 rfl rfl ?_
    refine V_getR F_X11_55 rfl t_k0 rfl dX11_back_21 ?_
    obtain ⟨h_5, e_4, hf⟩ := ov_s hf
    refine V_cvv (As := []) (rest := []) (c_X1_restore (d := d) (Nat.le_trans (Nat.le_of_ble_eq_true rfl) hd) e_4 (rfO t_k0 (Nat.le_of_ble_eq_true rfl) rfl rfl)) ML_X11_356 MV_X1_restore rfl (rfO t_k0 (Nat.le_of_ble_eq_true rfl) rfl rfl) rfl rfl (Nat.le_of_ble_eq_true rfl) dX11_back_24 ?_
    refine V_aload_n 0 dX11_back_27 rfl rfl ?_
    refine V_getR F_X11_55 rfl t_k0 rfl dX11_back_28 ?_
    refine V_getI F_X11_192 rfl (rfO t_k0 (Nat.le_of_ble_eq_true rfl) rfl rfl) rfl dX11_back_31 ?_
    exact V_iret rfl (so_s hf) dX11_back_34
  · have hf := it_s c_1 hf
    refine V_iconst (v := (-1)) dX11_back_7 (by decide) ?_
    exact V_iret rfl (so_s hf) dX11_back_8
theorem dX11_isKnown_0 : decode cX11_isKnown 0 = .ok (.iload_n 1, 1) := by decide +kernel
theorem dX11_isKnown_1 : decode cX11_isKnown 1 = .ok (.ifCond .lt 18, 3) := by decide +kernel
theorem dX11_isKnown_4 : decode cX11_isKnown 4 = .ok (.iload_n 1, 1) := by decide +kernel
theorem dX11_isKnown_5 : decode cX11_isKnown 5 = .ok (.aload_n 0, 1) := by decide +kernel
theorem dX11_isKnown_6 : decode cX11_isKnown 6 = .ok (.getfield 19, 3) := by decide +kernel
theorem dX11_isKnown_9 : decode cX11_isKnown 9 = .ok (.getfield 144, 3) := by decide +kernel
theorem dX11_isKnown_12 : decode cX11_isKnown 12 = .ok (.if_icmp .ge 7, 3) := by decide +kernel
theorem dX11_isKnown_15 : decode cX11_isKnown 15 = .ok (.iconst 1, 1) := by decide +kernel
theorem dX11_isKnown_16 : decode cX11_isKnown 16 = .ok (.goto 4, 3) := by decide +kernel
theorem dX11_isKnown_19 : decode cX11_isKnown 19 = .ok (.iconst 0, 1) := by decide +kernel
theorem dX11_isKnown_20 : decode cX11_isKnown 20 = .ok (.ireturn, 1) := by decide +kernel
def f_X11_isKnown_20 (s0 : Int32) (h : AH) : Option (Int32 × AH) :=
  og (bz s0) <|
  some (s0, h)
def f_X11_isKnown_19  (h : AH) : Option (Int32 × AH) :=
  f_X11_isKnown_20 0 h
def f_X11_isKnown (k0 : Nat) (x1 : Int32) (h : AH) : Option (Int32 × AH) :=
  if x1 < 0 then (
    f_X11_isKnown_19 h
  ) else (
    if (h.1 (rf k0 1) 2) ≤ x1 then (
      f_X11_isKnown_19 h
    ) else (
      f_X11_isKnown_20 1 h
    )
  )
set_option maxHeartbeats 4000000 in
set_option maxRecDepth 100000 in
theorem v_X11_isKnown_20 {E : EV} {d : Nat} (hd : 0 ≤ d) {r0 : Int32} {h0 : AH} {s0 : Int32} {h : AH} (hf : f_X11_isKnown_20 s0 h = some (r0, h0)) : V E (d + 1) K_X11_isKnown (ZI E r0 h0) h [] [.int s0] 20 := by
  unfold f_X11_isKnown_20 at hf
  obtain ⟨b_1, hf⟩ := og_s hf
  exact V_zret rfl b_1 (so_s hf) dX11_isKnown_20
set_option maxHeartbeats 4000000 in
set_option maxRecDepth 100000 in
theorem v_X11_isKnown_19 {E : EV} {d : Nat} (hd : 0 ≤ d) {r0 : Int32} {h0 : AH}  {h : AH} (hf : f_X11_isKnown_19 h = some (r0, h0)) : V E (d + 1) K_X11_isKnown (ZI E r0 h0) h [] [] 19 := by
  unfold f_X11_isKnown_19 at hf
  refine V_iconst (v := 0) dX11_isKnown_19 (by decide) ?_
  exact v_X11_isKnown_20 hd hf
set_option maxHeartbeats 4000000 in
set_option maxRecDepth 100000 in
theorem c_X11_isKnown {E : EV} {d : Nat} (hd : 0 + 1 ≤ d) {k0 : Nat} {x1 : Int32} {h : AH} {r0 : Int32} {h0 : AH} (hf : f_X11_isKnown k0 x1 h = some (r0, h0)) (t_k0 : kd k0 = (0, 11)) : Con E d K_X11_isKnown (ZI E r0 h0) [.ref k0, .int x1] h := by
  obtain ⟨d, rfl⟩ : ∃ d', d = d' + 1 := ⟨d - 1, by omega⟩
  have hd := Nat.le_of_succ_le_succ hd
  refine Con.ofV rfl (Nat.le_of_ble_eq_true rfl) ?_
  unfold f_X11_isKnown at hf
  show V E (d + 1) K_X11_isKnown (ZI E r0 h0) h [(0, .ref k0), (1, .int x1)] [] 0
  refine V_iload_n 1 dX11_isKnown_0 rfl rfl ?_
  refine V_if_lt (tgt := 19) dX11_isKnown_1 (by decide) (fun c_1 => ?_) (fun c_1 => ?_)
  · have hf := it_s c_1 hf
    refine V_sub [] rfl ?_
    exact v_X11_isKnown_19 hd hf
  · have hf := if_s c_1 hf
    refine V_iload_n 1 dX11_isKnown_4 rfl rfl ?_
    refine V_aload_n 0 dX11_isKnown_5 rfl rfl ?_
    refine V_getR F_X11_19 rfl t_k0 rfl dX11_isKnown_6 ?_
    refine V_getI F_X11_144 rfl (rfO t_k0 (Nat.le_of_ble_eq_true rfl) rfl rfl) rfl dX11_isKnown_9 ?_
    refine V_ic_ge (tgt := 19) dX11_isKnown_12 (by decide) (fun c_2 => ?_) (fun c_2 => ?_)
    · have hf := it_s c_2 hf
      refine V_sub [] rfl ?_
      exact v_X11_isKnown_19 hd hf
    · have hf := if_s c_2 hf
      refine V_iconst (v := 1) dX11_isKnown_15 (by decide) ?_
      refine V_goto (tgt := 20) dX11_isKnown_16 (by decide) ?_
      refine V_sub [] rfl ?_
      exact v_X11_isKnown_20 hd hf
theorem dX11_been_0 : decode cX11_been 0 = .ok (.aload_n 0, 1) := by decide +kernel
theorem dX11_been_1 : decode cX11_been 1 = .ok (.iload_n 1, 1) := by decide +kernel
theorem dX11_been_2 : decode cX11_been 2 = .ok (.invokevirtual 151, 3) := by decide +kernel
theorem dX11_been_5 : decode cX11_been 5 = .ok (.ifCond .eq 19, 3) := by decide +kernel
theorem dX11_been_8 : decode cX11_been 8 = .ok (.iload_n 2, 1) := by decide +kernel
theorem dX11_been_9 : decode cX11_been 9 = .ok (.iconst (-1), 1) := by decide +kernel
theorem dX11_been_10 : decode cX11_been 10 = .ok (.if_icmp .lt 14, 3) := by decide +kernel
theorem dX11_been_13 : decode cX11_been 13 = .ok (.iload_n 2, 1) := by decide +kernel
theorem dX11_been_14 : decode cX11_been 14 = .ok (.aload_n 0, 1) := by decide +kernel
theorem dX11_been_15 : decode cX11_been 15 = .ok (.getfield 55, 3) := by decide +kernel
theorem dX11_been_18 : decode cX11_been 18 = .ok (.getfield 192, 3) := by decide +kernel
theorem dX11_been_21 : decode cX11_been 21 = .ok (.if_icmp .lt 5, 3) := by decide +kernel
theorem dX11_been_24 : decode cX11_been 24 = .ok (.iconst (-1), 1) := by decide +kernel
theorem dX11_been_25 : decode cX11_been 25 = .ok (.ireturn, 1) := by decide +kernel
theorem dX11_been_26 : decode cX11_been 26 = .ok (.iload_n 2, 1) := by decide +kernel
theorem dX11_been_27 : decode cX11_been 27 = .ok (.iconst (-1), 1) := by decide +kernel
theorem dX11_been_28 : decode cX11_been 28 = .ok (.if_icmp .ne 14, 3) := by decide +kernel
theorem dX11_been_31 : decode cX11_been 31 = .ok (.aload_n 0, 1) := by decide +kernel
theorem dX11_been_32 : decode cX11_been 32 = .ok (.getfield 55, 3) := by decide +kernel
theorem dX11_been_35 : decode cX11_been 35 = .ok (.iload_n 1, 1) := by decide +kernel
theorem dX11_been_36 : decode cX11_been 36 = .ok (.invokevirtual 326, 3) := by decide +kernel
theorem dX11_been_39 : decode cX11_been 39 = .ok (.goto 12, 3) := by decide +kernel
theorem dX11_been_42 : decode cX11_been 42 = .ok (.aload_n 0, 1) := by decide +kernel
theorem dX11_been_43 : decode cX11_been 43 = .ok (.getfield 55, 3) := by decide +kernel
theorem dX11_been_46 : decode cX11_been 46 = .ok (.iload_n 2, 1) := by decide +kernel
theorem dX11_been_47 : decode cX11_been 47 = .ok (.iload_n 1, 1) := by decide +kernel
theorem dX11_been_48 : decode cX11_been 48 = .ok (.invokevirtual 329, 3) := by decide +kernel
theorem dX11_been_51 : decode cX11_been 51 = .ok (.ireturn, 1) := by decide +kernel
theorem ML_X11_151 : MLk RX11 151 yX11_isKnown := Or.inl ml_X11_151
theorem MV_X11_isKnown : MVk K_X11_isKnown 1 11 := ⟨⟨cd_X11_isKnown, in_X11, ⟨by decide, by decide, by decide +kernel⟩, by decide⟩, im_X11_isKnown, se_X11_isKnown, _, _, rfl⟩
theorem ML_X11_329 : MLk RX11 329 yX1_placeOf := Or.inl ml_X11_329
theorem ML_X11_326 : MLk RX11 326 yX1_placesOf := Or.inl ml_X11_326
theorem MV_X1_placesOf : MVk K_X1_placesOf 1 1 := ⟨⟨cd_X1_placesOf, in_X1, ⟨by decide, by decide, by decide +kernel⟩, by decide⟩, im_X1_placesOf, se_X1_placesOf, _, _, rfl⟩
def f_X11_been_24  (h : AH) : Option (Int32 × AH) :=
  some ((-1), h)
def f_X11_been_51 (s0 : Int32) (h : AH) : Option (Int32 × AH) :=
  some (s0, h)
def f_X11_been (k0 : Nat) (x1 : Int32) (x2 : Int32) (h : AH) : Option (Int32 × AH) :=
  ob (f_X11_isKnown k0 x1 h) fun r_3 h_2 =>
  if r_3 = 0 then (
    f_X11_been_24 h_2
  ) else (
    if x2 < (-1) then (
      f_X11_been_24 h_2
    ) else (
      if x2 < (h_2.1 (rf k0 9) 2) then (
        if x2 = (-1) then (
          ob (f_X1_placesOf (rf k0 9) x1 h_2) fun r_13 h_12 =>
          f_X11_been_51 r_13 h_12
        ) else (
          ob (f_X1_placeOf (rf k0 9) x2 x1 h_2) fun r_10 h_9 =>
          f_X11_been_51 r_10 h_9
        )
      ) else (
        f_X11_been_24 h_2
      )
    )
  )
set_option maxHeartbeats 4000000 in
set_option maxRecDepth 100000 in
theorem v_X11_been_24 {E : EV} {d : Nat} (hd : 2 ≤ d) {r0 : Int32} {h0 : AH}  {h : AH} (hf : f_X11_been_24 h = some (r0, h0)) : V E (d + 1) K_X11_been (ZI E r0 h0) h [] [] 24 := by
  unfold f_X11_been_24 at hf
  refine V_iconst (v := (-1)) dX11_been_24 (by decide) ?_
  exact V_iret rfl (so_s hf) dX11_been_25
set_option maxHeartbeats 4000000 in
set_option maxRecDepth 100000 in
theorem v_X11_been_51 {E : EV} {d : Nat} (hd : 2 ≤ d) {r0 : Int32} {h0 : AH} {s0 : Int32} {h : AH} (hf : f_X11_been_51 s0 h = some (r0, h0)) : V E (d + 1) K_X11_been (ZI E r0 h0) h [] [.int s0] 51 := by
  unfold f_X11_been_51 at hf
  exact V_iret rfl (so_s hf) dX11_been_51
set_option maxHeartbeats 4000000 in
set_option maxRecDepth 100000 in
theorem c_X11_been {E : EV} {d : Nat} (hd : 2 + 1 ≤ d) {k0 : Nat} {x1 : Int32} {x2 : Int32} {h : AH} {r0 : Int32} {h0 : AH} (hf : f_X11_been k0 x1 x2 h = some (r0, h0)) (t_k0 : kd k0 = (0, 11)) : Con E d K_X11_been (ZI E r0 h0) [.ref k0, .int x1, .int x2] h := by
  obtain ⟨d, rfl⟩ : ∃ d', d = d' + 1 := ⟨d - 1, by omega⟩
  have hd := Nat.le_of_succ_le_succ hd
  refine Con.ofV rfl (Nat.le_of_ble_eq_true rfl) ?_
  unfold f_X11_been at hf
  show V E (d + 1) K_X11_been (ZI E r0 h0) h [(0, .ref k0), (1, .int x1), (2, .int x2)] [] 0
  refine V_aload_n 0 dX11_been_0 rfl rfl ?_
  refine V_iload_n 1 dX11_been_1 rfl rfl ?_
  obtain ⟨r_3, h_2, e_1, hf⟩ := ob_s hf
  refine V_cvi (As := [.int x1]) (rest := []) (c_X11_isKnown (d := d) (Nat.le_trans (Nat.le_of_ble_eq_true rfl) hd) e_1 t_k0) ML_X11_151 MV_X11_isKnown rfl t_k0 rfl rfl (Nat.le_of_ble_eq_true rfl) dX11_been_2 ?_
  refine V_if_eq (tgt := 24) dX11_been_5 (by decide) (fun c_4 => ?_) (fun c_4 => ?_)
  · have hf := it_s c_4 hf
    refine V_sub [] rfl ?_
    exact v_X11_been_24 hd hf
  · have hf := if_s c_4 hf
    refine V_iload_n 2 dX11_been_8 rfl rfl ?_
    refine V_iconst (v := (-1)) dX11_been_9 (by decide) ?_
    refine V_ic_lt (tgt := 24) dX11_been_10 (by decide) (fun c_5 => ?_) (fun c_5 => ?_)
    · have hf := it_s c_5 hf
      refine V_sub [] rfl ?_
      exact v_X11_been_24 hd hf
    · have hf := if_s c_5 hf
      refine V_iload_n 2 dX11_been_13 rfl rfl ?_
      refine V_aload_n 0 dX11_been_14 rfl rfl ?_
      refine V_getR F_X11_55 rfl t_k0 rfl dX11_been_15 ?_
      refine V_getI F_X11_192 rfl (rfO t_k0 (Nat.le_of_ble_eq_true rfl) rfl rfl) rfl dX11_been_18 ?_
      refine V_ic_lt (tgt := 26) dX11_been_21 (by decide) (fun c_6 => ?_) (fun c_6 => ?_)
      · have hf := it_s c_6 hf
        refine V_iload_n 2 dX11_been_26 rfl rfl ?_
        refine V_iconst (v := (-1)) dX11_been_27 (by decide) ?_
        refine V_ic_ne (tgt := 42) dX11_been_28 (by decide) (fun c_7 => ?_) (fun c_7 => ?_)
        · have hf := if_s c_7 hf
          refine V_aload_n 0 dX11_been_42 rfl rfl ?_
          refine V_getR F_X11_55 rfl t_k0 rfl dX11_been_43 ?_
          refine V_iload_n 2 dX11_been_46 rfl rfl ?_
          refine V_iload_n 1 dX11_been_47 rfl rfl ?_
          obtain ⟨r_10, h_9, e_8, hf⟩ := ob_s hf
          refine V_cvi (As := [.int x2, .int x1]) (rest := []) (c_X1_placeOf (d := d) (Nat.le_trans (Nat.le_of_ble_eq_true rfl) hd) e_8 (rfO t_k0 (Nat.le_of_ble_eq_true rfl) rfl rfl)) ML_X11_329 MV_X1_placeOf rfl (rfO t_k0 (Nat.le_of_ble_eq_true rfl) rfl rfl) rfl rfl (Nat.le_of_ble_eq_true rfl) dX11_been_48 ?_
          refine V_sub [] rfl ?_
          exact v_X11_been_51 hd hf
        · have hf := it_s c_7 hf
          refine V_aload_n 0 dX11_been_31 rfl rfl ?_
          refine V_getR F_X11_55 rfl t_k0 rfl dX11_been_32 ?_
          refine V_iload_n 1 dX11_been_35 rfl rfl ?_
          obtain ⟨r_13, h_12, e_11, hf⟩ := ob_s hf
          refine V_cvi (As := [.int x1]) (rest := []) (c_X1_placesOf (d := d) (Nat.le_trans (Nat.le_of_ble_eq_true rfl) hd) e_11 (rfO t_k0 (Nat.le_of_ble_eq_true rfl) rfl rfl)) ML_X11_326 MV_X1_placesOf rfl (rfO t_k0 (Nat.le_of_ble_eq_true rfl) rfl rfl) rfl rfl (Nat.le_of_ble_eq_true rfl) dX11_been_36 ?_
          refine V_goto (tgt := 51) dX11_been_39 (by decide) ?_
          refine V_sub [] rfl ?_
          exact v_X11_been_51 hd hf
      · have hf := if_s c_6 hf
        refine V_sub [] rfl ?_
        exact v_X11_been_24 hd hf
theorem dX2_open_0 : decode cX2_open 0 = .ok (.iconst 0, 1) := by decide +kernel
theorem dX2_open_1 : decode cX2_open 1 = .ok (.istore_n 2, 1) := by decide +kernel
theorem dX2_open_2 : decode cX2_open 2 = .ok (.iload_n 2, 1) := by decide +kernel
theorem dX2_open_3 : decode cX2_open 3 = .ok (.bipush 6, 2) := by decide +kernel
theorem dX2_open_5 : decode cX2_open 5 = .ok (.if_icmp .ge 36, 3) := by decide +kernel
theorem dX2_open_8 : decode cX2_open 8 = .ok (.aload_n 0, 1) := by decide +kernel
theorem dX2_open_9 : decode cX2_open 9 = .ok (.getfield 9, 3) := by decide +kernel
theorem dX2_open_12 : decode cX2_open 12 = .ok (.iload_n 2, 1) := by decide +kernel
theorem dX2_open_13 : decode cX2_open 13 = .ok (.aload_n 0, 1) := by decide +kernel
theorem dX2_open_14 : decode cX2_open 14 = .ok (.getfield 35, 3) := by decide +kernel
theorem dX2_open_17 : decode cX2_open 17 = .ok (.iload_n 2, 1) := by decide +kernel
theorem dX2_open_18 : decode cX2_open 18 = .ok (.iconst 3, 1) := by decide +kernel
theorem dX2_open_19 : decode cX2_open 19 = .ok (.invokevirtual 43, 3) := by decide +kernel
theorem dX2_open_22 : decode cX2_open 22 = .ok (.iastore, 1) := by decide +kernel
theorem dX2_open_23 : decode cX2_open 23 = .ok (.aload_n 0, 1) := by decide +kernel
theorem dX2_open_24 : decode cX2_open 24 = .ok (.getfield 15, 3) := by decide +kernel
theorem dX2_open_27 : decode cX2_open 27 = .ok (.iload_n 2, 1) := by decide +kernel
theorem dX2_open_28 : decode cX2_open 28 = .ok (.aload_n 1, 1) := by decide +kernel
theorem dX2_open_29 : decode cX2_open 29 = .ok (.getfield 49, 3) := by decide +kernel
theorem dX2_open_32 : decode cX2_open 32 = .ok (.iload_n 2, 1) := by decide +kernel
theorem dX2_open_33 : decode cX2_open 33 = .ok (.iaload, 1) := by decide +kernel
theorem dX2_open_34 : decode cX2_open 34 = .ok (.iastore, 1) := by decide +kernel
theorem dX2_open_35 : decode cX2_open 35 = .ok (.iinc 2 1, 3) := by decide +kernel
theorem dX2_open_38 : decode cX2_open 38 = .ok (.goto (-36), 3) := by decide +kernel
theorem dX2_open_41 : decode cX2_open 41 = .ok (.aload_n 0, 1) := by decide +kernel
theorem dX2_open_42 : decode cX2_open 42 = .ok (.invokevirtual 52, 3) := by decide +kernel
theorem dX2_open_45 : decode cX2_open 45 = .ok (.return_, 1) := by decide +kernel
theorem ML_X2_52 : MLk RX2 52 yX2_forget := Or.inl ml_X2_52
theorem F_X2_49 : FLk RX2 49 9 2 := ⟨RX9, TX9, 3, rfl, rfl, iw_X9, by decide, Or.inr ⟨_, fn_X2_49⟩⟩
def f_X2_open_2 : Nat → Nat → Nat → Int32 → AH → Option AH
  | 0, _, _, _, _ => none
  | n + 1, k0, k1, x2, h =>
    if 6 ≤ x2 then (
      ov (f_X2_forget k0 h) fun h_3 =>
      some h_3
    ) else (
      ob (f_X6_item (rf k0 0) x2 3 h) fun r_6 h_5 =>
      og (ix x2 (an (rf k0 2))) <|
      nm (sI h_5 (rf k0 2) x2.toNatClampNeg r_6) fun h_8 =>
      og (ix x2 (an (rf k1 2))) <|
      og (ix x2 (an (rf k0 3))) <|
      nm (sI h_8 (rf k0 3) x2.toNatClampNeg (h_8.1 (rf k1 2) x2.toNatClampNeg)) fun h_12 =>
      nm (x2 + 1) fun x2_14 =>
      f_X2_open_2 n k0 k1 x2_14 h_12
    )
def f_X2_open (k0 : Nat) (k1 : Nat) (h : AH) : Option AH :=
  f_X2_open_2 FU k0 k1 0 h
set_option maxHeartbeats 4000000 in
set_option maxRecDepth 100000 in
theorem v_X2_open_2 {E : EV} {d : Nat} (hd : 2 ≤ d) {h0 : AH} : ∀ (n : Nat) (k0 : Nat) (k1 : Nat) (x2 : Int32) (h : AH), f_X2_open_2 n k0 k1 x2 h = some h0 → kd k0 = (0, 2) → kd k1 = (0, 9) → V E (d + 1) K_X2_open (ZV E h0) h [(0, .ref k0), (1, .ref k1), (2, .int x2)] [] 2 := by
  intro n
  induction n with
  | zero =>
    intro k0 k1 x2 h hf
    rw [f_X2_open_2] at hf
    cases hf
  | succ n ih =>
    intro k0 k1 x2 h hf t_k0 t_k1
    rw [f_X2_open_2] at hf
    refine V_iload_n 2 dX2_open_2 rfl rfl ?_
    refine V_bipush (v := 6) dX2_open_3 (by decide) ?_
    refine V_ic_ge (tgt := 41) dX2_open_5 (by decide) (fun c_1 => ?_) (fun c_1 => ?_)
    · have hf := it_s c_1 hf
      refine V_aload_n 0 dX2_open_41 rfl rfl ?_
      obtain ⟨h_3, e_2, hf⟩ := ov_s hf
      refine V_cvv (As := []) (rest := []) (c_X2_forget (d := d) (Nat.le_trans (Nat.le_of_ble_eq_true rfl) hd) e_2 t_k0) ML_X2_52 MV_X2_forget rfl t_k0 rfl rfl (Nat.le_of_ble_eq_true rfl) dX2_open_42 ?_
      exact V_vret rfl (so_s hf) dX2_open_45
    · have hf := if_s c_1 hf
      refine V_aload_n 0 dX2_open_8 rfl rfl ?_
      refine V_getR F_X2_9 rfl t_k0 rfl dX2_open_9 ?_
      refine V_iload_n 2 dX2_open_12 rfl rfl ?_
      refine V_aload_n 0 dX2_open_13 rfl rfl ?_
      refine V_getR F_X2_35 rfl t_k0 rfl dX2_open_14 ?_
      refine V_iload_n 2 dX2_open_17 rfl rfl ?_
      refine V_iconst (v := 3) dX2_open_18 (by decide) ?_
      obtain ⟨r_6, h_5, e_4, hf⟩ := ob_s hf
      refine V_cvi (As := [.int x2, .int 3]) (rest := [.int x2, .ref (rf k0 2)]) (c_X6_item (d := d) (Nat.le_trans (Nat.le_of_ble_eq_true rfl) hd) e_4 (rfO t_k0 (Nat.le_of_ble_eq_true rfl) rfl rfl)) ML_X2_43 MV_X6_item rfl (rfO t_k0 (Nat.le_of_ble_eq_true rfl) rfl rfl) rfl rfl (Nat.le_of_ble_eq_true rfl) dX2_open_19 ?_
      obtain ⟨b_7, hf⟩ := og_s hf
      obtain ⟨h_8, e_9, hf⟩ := nm_s hf
      refine V_iast (rfA t_k0 (Nat.le_of_ble_eq_true rfl) rfl rfl (by decide)) b_7 e_9 dX2_open_22 ?_
      refine V_aload_n 0 dX2_open_23 rfl rfl ?_
      refine V_getR F_X2_15 rfl t_k0 rfl dX2_open_24 ?_
      refine V_iload_n 2 dX2_open_27 rfl rfl ?_
      refine V_aload_n 1 dX2_open_28 rfl rfl ?_
      refine V_getR F_X2_49 rfl t_k1 rfl dX2_open_29 ?_
      refine V_iload_n 2 dX2_open_32 rfl rfl ?_
      obtain ⟨b_10, hf⟩ := og_s hf
      refine V_iald (rfA t_k1 (Nat.le_of_ble_eq_true rfl) rfl rfl (by decide)) b_10 dX2_open_33 ?_
      obtain ⟨b_11, hf⟩ := og_s hf
      obtain ⟨h_12, e_13, hf⟩ := nm_s hf
      refine V_iast (rfA t_k0 (Nat.le_of_ble_eq_true rfl) rfl rfl (by decide)) b_11 e_13 dX2_open_34 ?_
      obtain ⟨x2_14, e_15, hf⟩ := nm_s hf
      refine V_iinc (a := 1) (L' := [(2, .int x2_14), (0, .ref k0), (1, .ref k1)]) 2 dX2_open_35 rfl (by decide) (Nat.le_of_ble_eq_true rfl) e_15 rfl ?_
      refine V_goto (tgt := 2) dX2_open_38 (by decide) ?_
      refine V_sub [1, 2, 0] rfl ?_
      exact ih _ _ _ _ hf t_k0 t_k1
set_option maxHeartbeats 4000000 in
set_option maxRecDepth 100000 in
theorem c_X2_open {E : EV} {d : Nat} (hd : 2 + 1 ≤ d) {k0 : Nat} {k1 : Nat} {h : AH} {h0 : AH} (hf : f_X2_open k0 k1 h = some h0) (t_k0 : kd k0 = (0, 2)) (t_k1 : kd k1 = (0, 9)) : Con E d K_X2_open (ZV E h0) [.ref k0, .ref k1] h := by
  obtain ⟨d, rfl⟩ : ∃ d', d = d' + 1 := ⟨d - 1, by omega⟩
  have hd := Nat.le_of_succ_le_succ hd
  refine Con.ofV rfl (Nat.le_of_ble_eq_true rfl) ?_
  unfold f_X2_open at hf
  show V E (d + 1) K_X2_open (ZV E h0) h [(0, .ref k0), (1, .ref k1)] [] 0
  refine V_iconst (v := 0) dX2_open_0 (by decide) ?_
  refine V_istore_n (L' := [(2, .int 0), (0, .ref k0), (1, .ref k1)]) dX2_open_1 rfl (Nat.le_of_ble_eq_true rfl) rfl rfl ?_
  refine V_sub [1, 2, 0] rfl ?_
  exact v_X2_open_2 hd FU _ _ _ _ hf t_k0 t_k1
theorem dX4_stateNow_0 : decode cX4_stateNow 0 = .ok (.iconst 0, 1) := by decide +kernel
theorem dX4_stateNow_1 : decode cX4_stateNow 1 = .ok (.istore_n 1, 1) := by decide +kernel
theorem dX4_stateNow_2 : decode cX4_stateNow 2 = .ok (.iconst 0, 1) := by decide +kernel
theorem dX4_stateNow_3 : decode cX4_stateNow 3 = .ok (.istore_n 2, 1) := by decide +kernel
theorem dX4_stateNow_4 : decode cX4_stateNow 4 = .ok (.iload_n 2, 1) := by decide +kernel
theorem dX4_stateNow_5 : decode cX4_stateNow 5 = .ok (.aload_n 0, 1) := by decide +kernel
theorem dX4_stateNow_6 : decode cX4_stateNow 6 = .ok (.getfield 24, 3) := by decide +kernel
theorem dX4_stateNow_9 : decode cX4_stateNow 9 = .ok (.getfield 39, 3) := by decide +kernel
theorem dX4_stateNow_12 : decode cX4_stateNow 12 = .ok (.if_icmp .ge 29, 3) := by decide +kernel
theorem dX4_stateNow_15 : decode cX4_stateNow 15 = .ok (.iload_n 1, 1) := by decide +kernel
theorem dX4_stateNow_16 : decode cX4_stateNow 16 = .ok (.aload_n 0, 1) := by decide +kernel
theorem dX4_stateNow_17 : decode cX4_stateNow 17 = .ok (.getfield 28, 3) := by decide +kernel
theorem dX4_stateNow_20 : decode cX4_stateNow 20 = .ok (.getfield 45, 3) := by decide +kernel
theorem dX4_stateNow_23 : decode cX4_stateNow 23 = .ok (.iload_n 2, 1) := by decide +kernel
theorem dX4_stateNow_24 : decode cX4_stateNow 24 = .ok (.iaload, 1) := by decide +kernel
theorem dX4_stateNow_25 : decode cX4_stateNow 25 = .ok (.iconst 1, 1) := by decide +kernel
theorem dX4_stateNow_26 : decode cX4_stateNow 26 = .ok (.iadd, 1) := by decide +kernel
theorem dX4_stateNow_27 : decode cX4_stateNow 27 = .ok (.getstatic 36, 3) := by decide +kernel
theorem dX4_stateNow_30 : decode cX4_stateNow 30 = .ok (.iload_n 2, 1) := by decide +kernel
theorem dX4_stateNow_31 : decode cX4_stateNow 31 = .ok (.iaload, 1) := by decide +kernel
theorem dX4_stateNow_32 : decode cX4_stateNow 32 = .ok (.imul, 1) := by decide +kernel
theorem dX4_stateNow_33 : decode cX4_stateNow 33 = .ok (.iadd, 1) := by decide +kernel
theorem dX4_stateNow_34 : decode cX4_stateNow 34 = .ok (.istore_n 1, 1) := by decide +kernel
theorem dX4_stateNow_35 : decode cX4_stateNow 35 = .ok (.iinc 2 1, 3) := by decide +kernel
theorem dX4_stateNow_38 : decode cX4_stateNow 38 = .ok (.goto (-34), 3) := by decide +kernel
theorem dX4_stateNow_41 : decode cX4_stateNow 41 = .ok (.iload_n 1, 1) := by decide +kernel
theorem dX4_stateNow_42 : decode cX4_stateNow 42 = .ok (.ireturn, 1) := by decide +kernel
theorem F_X4_24 : FLk RX4 24 4 0 := ⟨RX4, TX4, 9, rfl, rfl, iw_X4, by decide, Or.inl fl_X4_24⟩
theorem F_X4_39 : FLk RX4 39 6 2 := ⟨RX6, TX6, 3, rfl, rfl, iw_X6, by decide, Or.inr ⟨_, fn_X4_39⟩⟩
theorem F_X4_28 : FLk RX4 28 4 1 := ⟨RX4, TX4, 9, rfl, rfl, iw_X4, by decide, Or.inl fl_X4_28⟩
theorem F_X4_45 : FLk RX4 45 9 0 := ⟨RX9, TX9, 3, rfl, rfl, iw_X9, by decide, Or.inr ⟨_, fn_X4_45⟩⟩
theorem S_X4_36 : SLk RX4 36 6 := ⟨by decide, Or.inl fl_X4_36⟩
def f_X4_stateNow_4 : Nat → Nat → Int32 → Int32 → AH → Option (Int32 × AH)
  | 0, _, _, _, _ => none
  | n + 1, k0, x1, x2, h =>
    if (h.1 (rf k0 0) 2) ≤ x2 then (
      some (x1, h)
    ) else (
      og (ix x2 (an (rf (rf k0 1) 0))) <|
      og (ix x2 (sN 6)) <|
      nm ((x1 + (((h.1 (rf (rf k0 1) 0) x2.toNatClampNeg) + 1) * (sT 6 x2.toNatClampNeg)))) fun x1_4 =>
      nm (x2 + 1) fun x2_6 =>
      f_X4_stateNow_4 n k0 x1_4 x2_6 h
    )
def f_X4_stateNow (k0 : Nat) (h : AH) : Option (Int32 × AH) :=
  f_X4_stateNow_4 FU k0 0 0 h
set_option maxHeartbeats 4000000 in
set_option maxRecDepth 100000 in
theorem v_X4_stateNow_4 {E : EV} {d : Nat} (hd : 0 ≤ d) {r0 : Int32} {h0 : AH} : ∀ (n : Nat) (k0 : Nat) (x1 : Int32) (x2 : Int32) (h : AH), f_X4_stateNow_4 n k0 x1 x2 h = some (r0, h0) → kd k0 = (0, 4) → V E (d + 1) K_X4_stateNow (ZI E r0 h0) h [(0, .ref k0), (1, .int x1), (2, .int x2)] [] 4 := by
  intro n
  induction n with
  | zero =>
    intro k0 x1 x2 h hf
    rw [f_X4_stateNow_4] at hf
    cases hf
  | succ n ih =>
    intro k0 x1 x2 h hf t_k0
    rw [f_X4_stateNow_4] at hf
    refine V_iload_n 2 dX4_stateNow_4 rfl rfl ?_
    refine V_aload_n 0 dX4_stateNow_5 rfl rfl ?_
    refine V_getR F_X4_24 rfl t_k0 rfl dX4_stateNow_6 ?_
    refine V_getI F_X4_39 rfl (rfO t_k0 (Nat.le_of_ble_eq_true rfl) rfl rfl) rfl dX4_stateNow_9 ?_
    refine V_ic_ge (tgt := 41) dX4_stateNow_12 (by decide) (fun c_1 => ?_) (fun c_1 => ?_)
    · have hf := it_s c_1 hf
      refine V_iload_n 1 dX4_stateNow_41 rfl rfl ?_
      exact V_iret rfl (so_s hf) dX4_stateNow_42
    · have hf := if_s c_1 hf
      refine V_iload_n 1 dX4_stateNow_15 rfl rfl ?_
      refine V_aload_n 0 dX4_stateNow_16 rfl rfl ?_
      refine V_getR F_X4_28 rfl t_k0 rfl dX4_stateNow_17 ?_
      refine V_getR F_X4_45 rfl (rfO t_k0 (Nat.le_of_ble_eq_true rfl) rfl rfl) rfl dX4_stateNow_20 ?_
      refine V_iload_n 2 dX4_stateNow_23 rfl rfl ?_
      obtain ⟨b_2, hf⟩ := og_s hf
      refine V_iald (rfA (rfO t_k0 (Nat.le_of_ble_eq_true rfl) rfl rfl) (Nat.le_of_ble_eq_true rfl) rfl rfl (by decide)) b_2 dX4_stateNow_24 ?_
      refine V_iconst (v := 1) dX4_stateNow_25 (by decide) ?_
      refine V_iadd dX4_stateNow_26 ?_
      refine V_gets S_X4_36 rfl rfl dX4_stateNow_27 ?_
      refine V_iload_n 2 dX4_stateNow_30 rfl rfl ?_
      obtain ⟨b_3, hf⟩ := og_s hf
      refine V_tald (i := 6) (by decide) rfl b_3 dX4_stateNow_31 ?_
      refine V_imul dX4_stateNow_32 ?_
      refine V_iadd dX4_stateNow_33 ?_
      obtain ⟨x1_4, e_5, hf⟩ := nm_s hf
      refine V_istore_n (L' := [(1, .int x1_4), (0, .ref k0), (2, .int x2)]) dX4_stateNow_34 rfl (Nat.le_of_ble_eq_true rfl) e_5 rfl ?_
      obtain ⟨x2_6, e_7, hf⟩ := nm_s hf
      refine V_iinc (a := 1) (L' := [(2, .int x2_6), (1, .int x1_4), (0, .ref k0)]) 2 dX4_stateNow_35 rfl (by decide) (Nat.le_of_ble_eq_true rfl) e_7 rfl ?_
      refine V_goto (tgt := 4) dX4_stateNow_38 (by decide) ?_
      refine V_sub [2, 1, 0] rfl ?_
      exact ih _ _ _ _ hf t_k0
set_option maxHeartbeats 4000000 in
set_option maxRecDepth 100000 in
theorem c_X4_stateNow {E : EV} {d : Nat} (hd : 0 + 1 ≤ d) {k0 : Nat} {h : AH} {r0 : Int32} {h0 : AH} (hf : f_X4_stateNow k0 h = some (r0, h0)) (t_k0 : kd k0 = (0, 4)) : Con E d K_X4_stateNow (ZI E r0 h0) [.ref k0] h := by
  obtain ⟨d, rfl⟩ : ∃ d', d = d' + 1 := ⟨d - 1, by omega⟩
  have hd := Nat.le_of_succ_le_succ hd
  refine Con.ofV rfl (Nat.le_of_ble_eq_true rfl) ?_
  unfold f_X4_stateNow at hf
  show V E (d + 1) K_X4_stateNow (ZI E r0 h0) h [(0, .ref k0)] [] 0
  refine V_iconst (v := 0) dX4_stateNow_0 (by decide) ?_
  refine V_istore_n (L' := [(1, .int 0), (0, .ref k0)]) dX4_stateNow_1 rfl (Nat.le_of_ble_eq_true rfl) rfl rfl ?_
  refine V_iconst (v := 0) dX4_stateNow_2 (by decide) ?_
  refine V_istore_n (L' := [(2, .int 0), (1, .int 0), (0, .ref k0)]) dX4_stateNow_3 rfl (Nat.le_of_ble_eq_true rfl) rfl rfl ?_
  refine V_sub [2, 1, 0] rfl ?_
  exact v_X4_stateNow_4 hd FU _ _ _ _ hf t_k0
theorem dX4_reach_0 : decode cX4_reach 0 = .ok (.aload_n 0, 1) := by decide +kernel
theorem dX4_reach_1 : decode cX4_reach 1 = .ok (.getfield 18, 3) := by decide +kernel
theorem dX4_reach_4 : decode cX4_reach 4 = .ok (.iload_n 1, 1) := by decide +kernel
theorem dX4_reach_5 : decode cX4_reach 5 = .ok (.iaload, 1) := by decide +kernel
theorem dX4_reach_6 : decode cX4_reach 6 = .ok (.iconst (-1), 1) := by decide +kernel
theorem dX4_reach_7 : decode cX4_reach 7 = .ok (.if_icmp .ne 40, 3) := by decide +kernel
theorem dX4_reach_10 : decode cX4_reach 10 = .ok (.aload_n 0, 1) := by decide +kernel
theorem dX4_reach_11 : decode cX4_reach 11 = .ok (.getfield 105, 3) := by decide +kernel
theorem dX4_reach_14 : decode cX4_reach 14 = .ok (.sipush 625, 3) := by decide +kernel
theorem dX4_reach_17 : decode cX4_reach 17 = .ok (.if_icmp .ge 30, 3) := by decide +kernel
theorem dX4_reach_20 : decode cX4_reach 20 = .ok (.aload_n 0, 1) := by decide +kernel
theorem dX4_reach_21 : decode cX4_reach 21 = .ok (.getfield 18, 3) := by decide +kernel
theorem dX4_reach_24 : decode cX4_reach 24 = .ok (.iload_n 1, 1) := by decide +kernel
theorem dX4_reach_25 : decode cX4_reach 25 = .ok (.iload_n 2, 1) := by decide +kernel
theorem dX4_reach_26 : decode cX4_reach 26 = .ok (.iastore, 1) := by decide +kernel
theorem dX4_reach_27 : decode cX4_reach 27 = .ok (.aload_n 0, 1) := by decide +kernel
theorem dX4_reach_28 : decode cX4_reach 28 = .ok (.getfield 21, 3) := by decide +kernel
theorem dX4_reach_31 : decode cX4_reach 31 = .ok (.aload_n 0, 1) := by decide +kernel
theorem dX4_reach_32 : decode cX4_reach 32 = .ok (.getfield 105, 3) := by decide +kernel
theorem dX4_reach_35 : decode cX4_reach 35 = .ok (.iload_n 1, 1) := by decide +kernel
theorem dX4_reach_36 : decode cX4_reach 36 = .ok (.iastore, 1) := by decide +kernel
theorem dX4_reach_37 : decode cX4_reach 37 = .ok (.aload_n 0, 1) := by decide +kernel
theorem dX4_reach_38 : decode cX4_reach 38 = .ok (.dup, 1) := by decide +kernel
theorem dX4_reach_39 : decode cX4_reach 39 = .ok (.getfield 105, 3) := by decide +kernel
theorem dX4_reach_42 : decode cX4_reach 42 = .ok (.iconst 1, 1) := by decide +kernel
theorem dX4_reach_43 : decode cX4_reach 43 = .ok (.iadd, 1) := by decide +kernel
theorem dX4_reach_44 : decode cX4_reach 44 = .ok (.putfield 105, 3) := by decide +kernel
theorem dX4_reach_47 : decode cX4_reach 47 = .ok (.return_, 1) := by decide +kernel
theorem F_X4_18 : FLk RX4 18 4 6 := ⟨RX4, TX4, 9, rfl, rfl, iw_X4, by decide, Or.inl fl_X4_18⟩
theorem F_X4_105 : FLk RX4 105 4 8 := ⟨RX4, TX4, 9, rfl, rfl, iw_X4, by decide, Or.inl fl_X4_105⟩
theorem F_X4_21 : FLk RX4 21 4 7 := ⟨RX4, TX4, 9, rfl, rfl, iw_X4, by decide, Or.inl fl_X4_21⟩
theorem P_X4_105 : FPk RX4 105 4 8 .int := ⟨RX4, TX4, 9, tyX4, rfl, rfl, iw_X4, by decide, Or.inl fl_X4_105, tyX4_ok, nmX4, rfl, by decide +kernel⟩
def f_X4_reach_47  (h : AH) : Option AH :=
  some h
def f_X4_reach (k0 : Nat) (x1 : Int32) (x2 : Int32) (h : AH) : Option AH :=
  og (ix x1 (an (rf k0 6))) <|
  if (h.1 (rf k0 6) x1.toNatClampNeg) = (-1) then (
    if 625 ≤ (h.1 k0 8) then (
      f_X4_reach_47 h
    ) else (
      og (ix x1 (an (rf k0 6))) <|
      nm (sI h (rf k0 6) x1.toNatClampNeg x2) fun h_5 =>
      og (ix (h_5.1 k0 8) (an (rf k0 7))) <|
      nm (sI h_5 (rf k0 7) (h_5.1 k0 8).toNatClampNeg x1) fun h_8 =>
      nm (sI h_8 k0 8 ((h_8.1 k0 8) + 1)) fun h_10 =>
      f_X4_reach_47 h_10
    )
  ) else (
    f_X4_reach_47 h
  )
set_option maxHeartbeats 4000000 in
set_option maxRecDepth 100000 in
theorem v_X4_reach_47 {E : EV} {d : Nat} (hd : 0 ≤ d) {h0 : AH}  {h : AH} (hf : f_X4_reach_47 h = some h0) : V E (d + 1) K_X4_reach (ZV E h0) h [] [] 47 := by
  unfold f_X4_reach_47 at hf
  exact V_vret rfl (so_s hf) dX4_reach_47
set_option maxHeartbeats 4000000 in
set_option maxRecDepth 100000 in
theorem c_X4_reach {E : EV} {d : Nat} (hd : 0 + 1 ≤ d) {k0 : Nat} {x1 : Int32} {x2 : Int32} {h : AH} {h0 : AH} (hf : f_X4_reach k0 x1 x2 h = some h0) (t_k0 : kd k0 = (0, 4)) : Con E d K_X4_reach (ZV E h0) [.ref k0, .int x1, .int x2] h := by
  obtain ⟨d, rfl⟩ : ∃ d', d = d' + 1 := ⟨d - 1, by omega⟩
  have hd := Nat.le_of_succ_le_succ hd
  refine Con.ofV rfl (Nat.le_of_ble_eq_true rfl) ?_
  unfold f_X4_reach at hf
  show V E (d + 1) K_X4_reach (ZV E h0) h [(0, .ref k0), (1, .int x1), (2, .int x2)] [] 0
  refine V_aload_n 0 dX4_reach_0 rfl rfl ?_
  refine V_getR F_X4_18 rfl t_k0 rfl dX4_reach_1 ?_
  refine V_iload_n 1 dX4_reach_4 rfl rfl ?_
  obtain ⟨b_1, hf⟩ := og_s hf
  refine V_iald (rfA t_k0 (Nat.le_of_ble_eq_true rfl) rfl rfl (by decide)) b_1 dX4_reach_5 ?_
  refine V_iconst (v := (-1)) dX4_reach_6 (by decide) ?_
  refine V_ic_ne (tgt := 47) dX4_reach_7 (by decide) (fun c_2 => ?_) (fun c_2 => ?_)
  · have hf := if_s c_2 hf
    refine V_sub [] rfl ?_
    exact v_X4_reach_47 hd hf
  · have hf := it_s c_2 hf
    refine V_aload_n 0 dX4_reach_10 rfl rfl ?_
    refine V_getI F_X4_105 rfl t_k0 rfl dX4_reach_11 ?_
    refine V_sipush (v := 625) dX4_reach_14 (by decide) ?_
    refine V_ic_ge (tgt := 47) dX4_reach_17 (by decide) (fun c_3 => ?_) (fun c_3 => ?_)
    · have hf := it_s c_3 hf
      refine V_sub [] rfl ?_
      exact v_X4_reach_47 hd hf
    · have hf := if_s c_3 hf
      refine V_aload_n 0 dX4_reach_20 rfl rfl ?_
      refine V_getR F_X4_18 rfl t_k0 rfl dX4_reach_21 ?_
      refine V_iload_n 1 dX4_reach_24 rfl rfl ?_
      refine V_iload_n 2 dX4_reach_25 rfl rfl ?_
      obtain ⟨b_4, hf⟩ := og_s hf
      obtain ⟨h_5, e_6, hf⟩ := nm_s hf
      refine V_iast (rfA t_k0 (Nat.le_of_ble_eq_true rfl) rfl rfl (by decide)) b_4 e_6 dX4_reach_26 ?_
      refine V_aload_n 0 dX4_reach_27 rfl rfl ?_
      refine V_getR F_X4_21 rfl t_k0 rfl dX4_reach_28 ?_
      refine V_aload_n 0 dX4_reach_31 rfl rfl ?_
      refine V_getI F_X4_105 rfl t_k0 rfl dX4_reach_32 ?_
      refine V_iload_n 1 dX4_reach_35 rfl rfl ?_
      obtain ⟨b_7, hf⟩ := og_s hf
      obtain ⟨h_8, e_9, hf⟩ := nm_s hf
      refine V_iast (rfA t_k0 (Nat.le_of_ble_eq_true rfl) rfl rfl (by decide)) b_7 e_9 dX4_reach_36 ?_
      refine V_aload_n 0 dX4_reach_37 rfl rfl ?_
      refine V_dup dX4_reach_38 rfl ?_
      refine V_getI F_X4_105 rfl t_k0 rfl dX4_reach_39 ?_
      refine V_iconst (v := 1) dX4_reach_42 (by decide) ?_
      refine V_iadd dX4_reach_43 ?_
      obtain ⟨h_10, e_11, hf⟩ := nm_s hf
      refine V_putI P_X4_105 rfl t_k0 rfl e_11 dX4_reach_44 ?_
      refine V_sub [] rfl ?_
      exact v_X4_reach_47 hd hf
theorem dX4_pairIn_0 : decode cX4_pairIn 0 = .ok (.iload_n 0, 1) := by decide +kernel
theorem dX4_pairIn_1 : decode cX4_pairIn 1 = .ok (.getstatic 36, 3) := by decide +kernel
theorem dX4_pairIn_4 : decode cX4_pairIn 4 = .ok (.iload_n 1, 1) := by decide +kernel
theorem dX4_pairIn_5 : decode cX4_pairIn 5 = .ok (.iaload, 1) := by decide +kernel
theorem dX4_pairIn_6 : decode cX4_pairIn 6 = .ok (.idiv, 1) := by decide +kernel
theorem dX4_pairIn_7 : decode cX4_pairIn 7 = .ok (.iconst 5, 1) := by decide +kernel
theorem dX4_pairIn_8 : decode cX4_pairIn 8 = .ok (.irem, 1) := by decide +kernel
theorem dX4_pairIn_9 : decode cX4_pairIn 9 = .ok (.iconst 1, 1) := by decide +kernel
theorem dX4_pairIn_10 : decode cX4_pairIn 10 = .ok (.isub, 1) := by decide +kernel
theorem dX4_pairIn_11 : decode cX4_pairIn 11 = .ok (.ireturn, 1) := by decide +kernel
def f_X4_pairIn (x0 : Int32) (x1 : Int32) (h : AH) : Option (Int32 × AH) :=
  og (ix x1 (sN 6)) <|
  og (decide (¬ (sT 6 x1.toNatClampNeg) = 0)) <|
  some (((jirem (x0 / (sT 6 x1.toNatClampNeg)) 5) - 1), h)
set_option maxHeartbeats 4000000 in
set_option maxRecDepth 100000 in
theorem c_X4_pairIn {E : EV} {d : Nat} (hd : 0 + 1 ≤ d) {x0 : Int32} {x1 : Int32} {h : AH} {r0 : Int32} {h0 : AH} (hf : f_X4_pairIn x0 x1 h = some (r0, h0)) : Con E d K_X4_pairIn (ZI E r0 h0) [.int x0, .int x1] h := by
  obtain ⟨d, rfl⟩ : ∃ d', d = d' + 1 := ⟨d - 1, by omega⟩
  have hd := Nat.le_of_succ_le_succ hd
  refine Con.ofV rfl (Nat.le_of_ble_eq_true rfl) ?_
  unfold f_X4_pairIn at hf
  show V E (d + 1) K_X4_pairIn (ZI E r0 h0) h [(0, .int x0), (1, .int x1)] [] 0
  refine V_iload_n 0 dX4_pairIn_0 rfl rfl ?_
  refine V_gets S_X4_36 rfl rfl dX4_pairIn_1 ?_
  refine V_iload_n 1 dX4_pairIn_4 rfl rfl ?_
  obtain ⟨b_1, hf⟩ := og_s hf
  refine V_tald (i := 6) (by decide) rfl b_1 dX4_pairIn_5 ?_
  obtain ⟨b_2, hf⟩ := og_s hf
  refine V_idiv dX4_pairIn_6 (of_decide_eq_true b_2) ?_
  refine V_iconst (v := 5) dX4_pairIn_7 (by decide) ?_
  refine V_irem dX4_pairIn_8 (by decide) ?_
  refine V_iconst (v := 1) dX4_pairIn_9 (by decide) ?_
  refine V_isub dX4_pairIn_10 ?_
  exact V_iret rfl (so_s hf) dX4_pairIn_11
theorem dX4_pairsAround_0 : decode cX4_pairsAround 0 = .ok (.iconst 0, 1) := by decide +kernel
theorem dX4_pairsAround_1 : decode cX4_pairsAround 1 = .ok (.istore_n 1, 1) := by decide +kernel
theorem dX4_pairsAround_2 : decode cX4_pairsAround 2 = .ok (.iconst 0, 1) := by decide +kernel
theorem dX4_pairsAround_3 : decode cX4_pairsAround 3 = .ok (.istore_n 2, 1) := by decide +kernel
theorem dX4_pairsAround_4 : decode cX4_pairsAround 4 = .ok (.iload_n 2, 1) := by decide +kernel
theorem dX4_pairsAround_5 : decode cX4_pairsAround 5 = .ok (.aload_n 0, 1) := by decide +kernel
theorem dX4_pairsAround_6 : decode cX4_pairsAround 6 = .ok (.getfield 24, 3) := by decide +kernel
theorem dX4_pairsAround_9 : decode cX4_pairsAround 9 = .ok (.getfield 39, 3) := by decide +kernel
theorem dX4_pairsAround_12 : decode cX4_pairsAround 12 = .ok (.if_icmp .ge 33, 3) := by decide +kernel
theorem dX4_pairsAround_15 : decode cX4_pairsAround 15 = .ok (.iload_n 1, 1) := by decide +kernel
theorem dX4_pairsAround_16 : decode cX4_pairsAround 16 = .ok (.aload_n 0, 1) := by decide +kernel
theorem dX4_pairsAround_17 : decode cX4_pairsAround 17 = .ok (.getfield 28, 3) := by decide +kernel
theorem dX4_pairsAround_20 : decode cX4_pairsAround 20 = .ok (.getfield 50, 3) := by decide +kernel
theorem dX4_pairsAround_23 : decode cX4_pairsAround 23 = .ok (.iload_n 2, 1) := by decide +kernel
theorem dX4_pairsAround_24 : decode cX4_pairsAround 24 = .ok (.iaload, 1) := by decide +kernel
theorem dX4_pairsAround_25 : decode cX4_pairsAround 25 = .ok (.bipush 10, 2) := by decide +kernel
theorem dX4_pairsAround_27 : decode cX4_pairsAround 27 = .ok (.if_icmp .gt 9, 3) := by decide +kernel
theorem dX4_pairsAround_30 : decode cX4_pairsAround 30 = .ok (.iconst 1, 1) := by decide +kernel
theorem dX4_pairsAround_31 : decode cX4_pairsAround 31 = .ok (.iload_n 2, 1) := by decide +kernel
theorem dX4_pairsAround_32 : decode cX4_pairsAround 32 = .ok (.ishl, 1) := by decide +kernel
theorem dX4_pairsAround_33 : decode cX4_pairsAround 33 = .ok (.goto 4, 3) := by decide +kernel
theorem dX4_pairsAround_36 : decode cX4_pairsAround 36 = .ok (.iconst 0, 1) := by decide +kernel
theorem dX4_pairsAround_37 : decode cX4_pairsAround 37 = .ok (.ior, 1) := by decide +kernel
theorem dX4_pairsAround_38 : decode cX4_pairsAround 38 = .ok (.istore_n 1, 1) := by decide +kernel
theorem dX4_pairsAround_39 : decode cX4_pairsAround 39 = .ok (.iinc 2 1, 3) := by decide +kernel
theorem dX4_pairsAround_42 : decode cX4_pairsAround 42 = .ok (.goto (-38), 3) := by decide +kernel
theorem dX4_pairsAround_45 : decode cX4_pairsAround 45 = .ok (.iload_n 1, 1) := by decide +kernel
theorem dX4_pairsAround_46 : decode cX4_pairsAround 46 = .ok (.ireturn, 1) := by decide +kernel
theorem F_X4_50 : FLk RX4 50 9 1 := ⟨RX9, TX9, 3, rfl, rfl, iw_X9, by decide, Or.inr ⟨_, fn_X4_50⟩⟩
def f_X4_pairsAround_37 (q4 : Nat → Int32 → Int32 → AH → Option (Int32 × AH)) (k0 : Nat) (x2 : Int32) (s0 : Int32) (s1 : Int32) (h : AH) : Option (Int32 × AH) :=
  nm ((s1 ||| s0)) fun x1_1 =>
  nm (x2 + 1) fun x2_3 =>
  q4 k0 x1_1 x2_3 h
def f_X4_pairsAround_4 : Nat → Nat → Int32 → Int32 → AH → Option (Int32 × AH)
  | 0, _, _, _, _ => none
  | n + 1, k0, x1, x2, h =>
    if (h.1 (rf k0 0) 2) ≤ x2 then (
      some (x1, h)
    ) else (
      og (ix x2 (an (rf (rf k0 1) 1))) <|
      if 10 < (h.1 (rf (rf k0 1) 1) x2.toNatClampNeg) then (
        f_X4_pairsAround_37 (f_X4_pairsAround_4 n) k0 x2 0 x1 h
      ) else (
        f_X4_pairsAround_37 (f_X4_pairsAround_4 n) k0 x2 ((1 : Int32) <<< (x2 &&& 31)) x1 h
      )
    )
def f_X4_pairsAround (k0 : Nat) (h : AH) : Option (Int32 × AH) :=
  f_X4_pairsAround_4 FU k0 0 0 h
set_option maxHeartbeats 4000000 in
set_option maxRecDepth 100000 in
theorem v_X4_pairsAround_37 {E : EV} {d : Nat} (hd : 0 ≤ d) {r0 : Int32} {h0 : AH} {q4 : Nat → Int32 → Int32 → AH → Option (Int32 × AH)} (cq4 : ∀ (k0 : Nat) (x1 : Int32) (x2 : Int32) (h : AH), q4 k0 x1 x2 h = some (r0, h0) → kd k0 = (0, 4) → V E (d + 1) K_X4_pairsAround (ZI E r0 h0) h [(0, .ref k0), (1, .int x1), (2, .int x2)] [] 4) {k0 : Nat} {x2 : Int32} {s0 : Int32} {s1 : Int32} {h : AH} (hf : f_X4_pairsAround_37 q4 k0 x2 s0 s1 h = some (r0, h0)) (t_k0 : kd k0 = (0, 4)) : V E (d + 1) K_X4_pairsAround (ZI E r0 h0) h [(0, .ref k0), (2, .int x2)] [.int s0, .int s1] 37 := by
  unfold f_X4_pairsAround_37 at hf
  refine V_ior dX4_pairsAround_37 ?_
  obtain ⟨x1_1, e_2, hf⟩ := nm_s hf
  refine V_istore_n (L' := [(1, .int x1_1), (0, .ref k0), (2, .int x2)]) dX4_pairsAround_38 rfl (Nat.le_of_ble_eq_true rfl) e_2 rfl ?_
  obtain ⟨x2_3, e_4, hf⟩ := nm_s hf
  refine V_iinc (a := 1) (L' := [(2, .int x2_3), (1, .int x1_1), (0, .ref k0)]) 2 dX4_pairsAround_39 rfl (by decide) (Nat.le_of_ble_eq_true rfl) e_4 rfl ?_
  refine V_goto (tgt := 4) dX4_pairsAround_42 (by decide) ?_
  refine V_sub [2, 1, 0] rfl ?_
  exact cq4 _ _ _ _ hf t_k0
set_option maxHeartbeats 4000000 in
set_option maxRecDepth 100000 in
theorem v_X4_pairsAround_4 {E : EV} {d : Nat} (hd : 0 ≤ d) {r0 : Int32} {h0 : AH} : ∀ (n : Nat) (k0 : Nat) (x1 : Int32) (x2 : Int32) (h : AH), f_X4_pairsAround_4 n k0 x1 x2 h = some (r0, h0) → kd k0 = (0, 4) → V E (d + 1) K_X4_pairsAround (ZI E r0 h0) h [(0, .ref k0), (1, .int x1), (2, .int x2)] [] 4 := by
  intro n
  induction n with
  | zero =>
    intro k0 x1 x2 h hf
    rw [f_X4_pairsAround_4] at hf
    cases hf
  | succ n ih =>
    intro k0 x1 x2 h hf t_k0
    rw [f_X4_pairsAround_4] at hf
    refine V_iload_n 2 dX4_pairsAround_4 rfl rfl ?_
    refine V_aload_n 0 dX4_pairsAround_5 rfl rfl ?_
    refine V_getR F_X4_24 rfl t_k0 rfl dX4_pairsAround_6 ?_
    refine V_getI F_X4_39 rfl (rfO t_k0 (Nat.le_of_ble_eq_true rfl) rfl rfl) rfl dX4_pairsAround_9 ?_
    refine V_ic_ge (tgt := 45) dX4_pairsAround_12 (by decide) (fun c_1 => ?_) (fun c_1 => ?_)
    · have hf := it_s c_1 hf
      refine V_iload_n 1 dX4_pairsAround_45 rfl rfl ?_
      exact V_iret rfl (so_s hf) dX4_pairsAround_46
    · have hf := if_s c_1 hf
      refine V_iload_n 1 dX4_pairsAround_15 rfl rfl ?_
      refine V_aload_n 0 dX4_pairsAround_16 rfl rfl ?_
      refine V_getR F_X4_28 rfl t_k0 rfl dX4_pairsAround_17 ?_
      refine V_getR F_X4_50 rfl (rfO t_k0 (Nat.le_of_ble_eq_true rfl) rfl rfl) rfl dX4_pairsAround_20 ?_
      refine V_iload_n 2 dX4_pairsAround_23 rfl rfl ?_
      obtain ⟨b_2, hf⟩ := og_s hf
      refine V_iald (rfA (rfO t_k0 (Nat.le_of_ble_eq_true rfl) rfl rfl) (Nat.le_of_ble_eq_true rfl) rfl rfl (by decide)) b_2 dX4_pairsAround_24 ?_
      refine V_bipush (v := 10) dX4_pairsAround_25 (by decide) ?_
      refine V_ic_gt (tgt := 36) dX4_pairsAround_27 (by decide) (fun c_3 => ?_) (fun c_3 => ?_)
      · have hf := it_s c_3 hf
        refine V_iconst (v := 0) dX4_pairsAround_36 (by decide) ?_
        refine V_sub [0, 2] rfl ?_
        exact v_X4_pairsAround_37 hd ih hf t_k0
      · have hf := if_s c_3 hf
        refine V_iconst (v := 1) dX4_pairsAround_30 (by decide) ?_
        refine V_iload_n 2 dX4_pairsAround_31 rfl rfl ?_
        refine V_ishl dX4_pairsAround_32 ?_
        refine V_goto (tgt := 37) dX4_pairsAround_33 (by decide) ?_
        refine V_sub [0, 2] rfl ?_
        exact v_X4_pairsAround_37 hd ih hf t_k0
set_option maxHeartbeats 4000000 in
set_option maxRecDepth 100000 in
theorem c_X4_pairsAround {E : EV} {d : Nat} (hd : 0 + 1 ≤ d) {k0 : Nat} {h : AH} {r0 : Int32} {h0 : AH} (hf : f_X4_pairsAround k0 h = some (r0, h0)) (t_k0 : kd k0 = (0, 4)) : Con E d K_X4_pairsAround (ZI E r0 h0) [.ref k0] h := by
  obtain ⟨d, rfl⟩ : ∃ d', d = d' + 1 := ⟨d - 1, by omega⟩
  have hd := Nat.le_of_succ_le_succ hd
  refine Con.ofV rfl (Nat.le_of_ble_eq_true rfl) ?_
  unfold f_X4_pairsAround at hf
  show V E (d + 1) K_X4_pairsAround (ZI E r0 h0) h [(0, .ref k0)] [] 0
  refine V_iconst (v := 0) dX4_pairsAround_0 (by decide) ?_
  refine V_istore_n (L' := [(1, .int 0), (0, .ref k0)]) dX4_pairsAround_1 rfl (Nat.le_of_ble_eq_true rfl) rfl rfl ?_
  refine V_iconst (v := 0) dX4_pairsAround_2 (by decide) ?_
  refine V_istore_n (L' := [(2, .int 0), (1, .int 0), (0, .ref k0)]) dX4_pairsAround_3 rfl (Nat.le_of_ble_eq_true rfl) rfl rfl ?_
  refine V_sub [2, 1, 0] rfl ?_
  exact v_X4_pairsAround_4 hd FU _ _ _ _ hf t_k0
theorem dX4_pairsFor_0 : decode cX4_pairsFor 0 = .ok (.aload_n 0, 1) := by decide +kernel
theorem dX4_pairsFor_1 : decode cX4_pairsFor 1 = .ok (.invokevirtual 70, 3) := by decide +kernel
theorem dX4_pairsFor_4 : decode cX4_pairsFor 4 = .ok (.istore_n 3, 1) := by decide +kernel
theorem dX4_pairsFor_5 : decode cX4_pairsFor 5 = .ok (.iconst 0, 1) := by decide +kernel
theorem dX4_pairsFor_6 : decode cX4_pairsFor 6 = .ok (.istore 4, 2) := by decide +kernel
theorem dX4_pairsFor_8 : decode cX4_pairsFor 8 = .ok (.iload 4, 2) := by decide +kernel
theorem dX4_pairsFor_10 : decode cX4_pairsFor 10 = .ok (.aload_n 0, 1) := by decide +kernel
theorem dX4_pairsFor_11 : decode cX4_pairsFor 11 = .ok (.getfield 24, 3) := by decide +kernel
theorem dX4_pairsFor_14 : decode cX4_pairsFor 14 = .ok (.getfield 39, 3) := by decide +kernel
theorem dX4_pairsFor_17 : decode cX4_pairsFor 17 = .ok (.if_icmp .ge 41, 3) := by decide +kernel
theorem dX4_pairsFor_20 : decode cX4_pairsFor 20 = .ok (.iload_n 1, 1) := by decide +kernel
theorem dX4_pairsFor_21 : decode cX4_pairsFor 21 = .ok (.iload 4, 2) := by decide +kernel
theorem dX4_pairsFor_23 : decode cX4_pairsFor 23 = .ok (.invokestatic 67, 3) := by decide +kernel
theorem dX4_pairsFor_26 : decode cX4_pairsFor 26 = .ok (.istore 5, 2) := by decide +kernel
theorem dX4_pairsFor_28 : decode cX4_pairsFor 28 = .ok (.iload 5, 2) := by decide +kernel
theorem dX4_pairsFor_30 : decode cX4_pairsFor 30 = .ok (.iconst (-1), 1) := by decide +kernel
theorem dX4_pairsFor_31 : decode cX4_pairsFor 31 = .ok (.if_icmp .eq 21, 3) := by decide +kernel
theorem dX4_pairsFor_34 : decode cX4_pairsFor 34 = .ok (.iload_n 2, 1) := by decide +kernel
theorem dX4_pairsFor_35 : decode cX4_pairsFor 35 = .ok (.iload 4, 2) := by decide +kernel
theorem dX4_pairsFor_37 : decode cX4_pairsFor 37 = .ok (.invokestatic 121, 3) := by decide +kernel
theorem dX4_pairsFor_40 : decode cX4_pairsFor 40 = .ok (.ifCond .ne 12, 3) := by decide +kernel
theorem dX4_pairsFor_43 : decode cX4_pairsFor 43 = .ok (.iload_n 3, 1) := by decide +kernel
theorem dX4_pairsFor_44 : decode cX4_pairsFor 44 = .ok (.iconst 1, 1) := by decide +kernel
theorem dX4_pairsFor_45 : decode cX4_pairsFor 45 = .ok (.iload 5, 2) := by decide +kernel
theorem dX4_pairsFor_47 : decode cX4_pairsFor 47 = .ok (.ishl, 1) := by decide +kernel
theorem dX4_pairsFor_48 : decode cX4_pairsFor 48 = .ok (.iconst (-1), 1) := by decide +kernel
theorem dX4_pairsFor_49 : decode cX4_pairsFor 49 = .ok (.ixor, 1) := by decide +kernel
theorem dX4_pairsFor_50 : decode cX4_pairsFor 50 = .ok (.iand, 1) := by decide +kernel
theorem dX4_pairsFor_51 : decode cX4_pairsFor 51 = .ok (.istore_n 3, 1) := by decide +kernel
theorem dX4_pairsFor_52 : decode cX4_pairsFor 52 = .ok (.iinc 4 1, 3) := by decide +kernel
theorem dX4_pairsFor_55 : decode cX4_pairsFor 55 = .ok (.goto (-47), 3) := by decide +kernel
theorem dX4_pairsFor_58 : decode cX4_pairsFor 58 = .ok (.iload_n 3, 1) := by decide +kernel
theorem dX4_pairsFor_59 : decode cX4_pairsFor 59 = .ok (.ireturn, 1) := by decide +kernel
theorem ML_X4_67 : MLk RX4 67 yX4_pairIn := Or.inl ml_X4_67
theorem MS_X4_pairIn : MSk K_X4_pairIn 2 := ⟨⟨cd_X4_pairIn, in_X4, ⟨by decide, by decide, by decide +kernel⟩, by decide⟩, st_X4_pairIn⟩
theorem ML_X4_121 : MLk RX4 121 yX11_isIn := Or.inr ⟨_, mn_X4_121⟩
theorem ML_X4_70 : MLk RX4 70 yX4_pairsAround := Or.inl ml_X4_70
theorem MV_X4_pairsAround : MVk K_X4_pairsAround 0 4 := ⟨⟨cd_X4_pairsAround, in_X4, ⟨by decide, by decide, by decide +kernel⟩, by decide⟩, im_X4_pairsAround, se_X4_pairsAround, _, _, rfl⟩
def f_X4_pairsFor_52 (q8 : Nat → Int32 → Int32 → Int32 → Int32 → AH → Option (Int32 × AH)) (k0 : Nat) (x1 : Int32) (x2 : Int32) (x3 : Int32) (x4 : Int32) (h : AH) : Option (Int32 × AH) :=
  nm (x4 + 1) fun x4_1 =>
  q8 k0 x1 x2 x3 x4_1 h
def f_X4_pairsFor_8 : Nat → Nat → Int32 → Int32 → Int32 → Int32 → AH → Option (Int32 × AH)
  | 0, _, _, _, _, _, _ => none
  | n + 1, k0, x1, x2, x3, x4, h =>
    if (h.1 (rf k0 0) 2) ≤ x4 then (
      some (x3, h)
    ) else (
      ob (f_X4_pairIn x1 x4 h) fun r_4 h_3 =>
      if r_4 = (-1) then (
        f_X4_pairsFor_52 (f_X4_pairsFor_8 n) k0 x1 x2 x3 x4 h_3
      ) else (
        ob (f_X11_isIn x2 x4 h_3) fun r_8 h_7 =>
        if r_8 = 0 then (
          nm ((x3 &&& (((1 : Int32) <<< (r_4 &&& 31)) ^^^ (-1)))) fun x3_10 =>
          f_X4_pairsFor_52 (f_X4_pairsFor_8 n) k0 x1 x2 x3_10 x4 h_7
        ) else (
          f_X4_pairsFor_52 (f_X4_pairsFor_8 n) k0 x1 x2 x3 x4 h_7
        )
      )
    )
def f_X4_pairsFor (k0 : Nat) (x1 : Int32) (x2 : Int32) (h : AH) : Option (Int32 × AH) :=
  ob (f_X4_pairsAround k0 h) fun r_3 h_2 =>
  f_X4_pairsFor_8 FU k0 x1 x2 r_3 0 h_2
set_option maxHeartbeats 4000000 in
set_option maxRecDepth 100000 in
theorem v_X4_pairsFor_52 {E : EV} {d : Nat} (hd : 1 ≤ d) {r0 : Int32} {h0 : AH} {q8 : Nat → Int32 → Int32 → Int32 → Int32 → AH → Option (Int32 × AH)} (cq8 : ∀ (k0 : Nat) (x1 : Int32) (x2 : Int32) (x3 : Int32) (x4 : Int32) (h : AH), q8 k0 x1 x2 x3 x4 h = some (r0, h0) → kd k0 = (0, 4) → V E (d + 1) K_X4_pairsFor (ZI E r0 h0) h [(0, .ref k0), (1, .int x1), (2, .int x2), (3, .int x3), (4, .int x4)] [] 8) {k0 : Nat} {x1 : Int32} {x2 : Int32} {x3 : Int32} {x4 : Int32} {h : AH} (hf : f_X4_pairsFor_52 q8 k0 x1 x2 x3 x4 h = some (r0, h0)) (t_k0 : kd k0 = (0, 4)) : V E (d + 1) K_X4_pairsFor (ZI E r0 h0) h [(0, .ref k0), (1, .int x1), (2, .int x2), (3, .int x3), (4, .int x4)] [] 52 := by
  unfold f_X4_pairsFor_52 at hf
  obtain ⟨x4_1, e_2, hf⟩ := nm_s hf
  refine V_iinc (a := 1) (L' := [(4, .int x4_1), (0, .ref k0), (1, .int x1), (2, .int x2), (3, .int x3)]) 4 dX4_pairsFor_52 rfl (by decide) (Nat.le_of_ble_eq_true rfl) e_2 rfl ?_
  refine V_goto (tgt := 8) dX4_pairsFor_55 (by decide) ?_
  refine V_sub [1, 2, 3, 4, 0] rfl ?_
  exact cq8 _ _ _ _ _ _ hf t_k0
set_option maxHeartbeats 4000000 in
set_option maxRecDepth 100000 in
theorem v_X4_pairsFor_8 {E : EV} {d : Nat} (hd : 1 ≤ d) {r0 : Int32} {h0 : AH} : ∀ (n : Nat) (k0 : Nat) (x1 : Int32) (x2 : Int32) (x3 : Int32) (x4 : Int32) (h : AH), f_X4_pairsFor_8 n k0 x1 x2 x3 x4 h = some (r0, h0) → kd k0 = (0, 4) → V E (d + 1) K_X4_pairsFor (ZI E r0 h0) h [(0, .ref k0), (1, .int x1), (2, .int x2), (3, .int x3), (4, .int x4)] [] 8 := by
  intro n
  induction n with
  | zero =>
    intro k0 x1 x2 x3 x4 h hf
    rw [f_X4_pairsFor_8] at hf
    cases hf
  | succ n ih =>
    intro k0 x1 x2 x3 x4 h hf t_k0
    rw [f_X4_pairsFor_8] at hf
    refine V_iload 4 dX4_pairsFor_8 rfl ?_
    refine V_aload_n 0 dX4_pairsFor_10 rfl rfl ?_
    refine V_getR F_X4_24 rfl t_k0 rfl dX4_pairsFor_11 ?_
    refine V_getI F_X4_39 rfl (rfO t_k0 (Nat.le_of_ble_eq_true rfl) rfl rfl) rfl dX4_pairsFor_14 ?_
    refine V_ic_ge (tgt := 58) dX4_pairsFor_17 (by decide) (fun c_1 => ?_) (fun c_1 => ?_)
    · have hf := it_s c_1 hf
      refine V_iload_n 3 dX4_pairsFor_58 rfl rfl ?_
      exact V_iret rfl (so_s hf) dX4_pairsFor_59
    · have hf := if_s c_1 hf
      refine V_iload_n 1 dX4_pairsFor_20 rfl rfl ?_
      refine V_iload 4 dX4_pairsFor_21 rfl ?_
      obtain ⟨r_4, h_3, e_2, hf⟩ := ob_s hf
      refine V_csi (As := [.int x1, .int x4]) (rest := []) (c_X4_pairIn (d := d) (Nat.le_trans (Nat.le_of_ble_eq_true rfl) hd) e_2) ML_X4_67 MS_X4_pairIn rfl rfl rfl (Nat.le_of_ble_eq_true rfl) dX4_pairsFor_23 ?_
      refine V_istore (L' := [(5, .int r_4), (0, .ref k0), (1, .int x1), (2, .int x2), (3, .int x3), (4, .int x4)]) dX4_pairsFor_26 (Nat.le_of_ble_eq_true rfl) rfl rfl ?_
      refine V_iload 0 dX4_pairsFor_28 rfl ?_
      refine V_iconst (v := (-1)) dX4_pairsFor_30 (by decide) ?_
      refine V_ic_eq (tgt := 52) dX4_pairsFor_31 (by decide) (fun c_5 => ?_) (fun c_5 => ?_)
      · have hf := it_s c_5 hf
        refine V_sub [1, 2, 3, 4, 5] rfl ?_
        exact v_X4_pairsFor_52 hd ih hf t_k0
      · have hf := if_s c_5 hf
        refine V_iload_n 3 dX4_pairsFor_34 rfl rfl ?_
        refine V_iload 5 dX4_pairsFor_35 rfl ?_
        obtain ⟨r_8, h_7, e_6, hf⟩ := ob_s hf
        refine V_csi (As := [.int x2, .int x4]) (rest := []) (c_X11_isIn (d := d) (Nat.le_trans (Nat.le_of_ble_eq_true rfl) hd) e_6) ML_X4_121 MS_X11_isIn rfl rfl rfl (Nat.le_of_ble_eq_true rfl) dX4_pairsFor_37 ?_
        refine V_if_ne (tgt := 52) dX4_pairsFor_40 (by decide) (fun c_9 => ?_) (fun c_9 => ?_)
        · have hf := if_s c_9 hf
          refine V_sub [1, 2, 3, 4, 5] rfl ?_
          exact v_X4_pairsFor_52 hd ih hf t_k0
        · have hf := it_s c_9 hf
          refine V_iload_n 4 dX4_pairsFor_43 rfl rfl ?_
          refine V_iconst (v := 1) dX4_pairsFor_44 (by decide) ?_
          refine V_iload 0 dX4_pairsFor_45 rfl ?_
          refine V_ishl dX4_pairsFor_47 ?_
          refine V_iconst (v := (-1)) dX4_pairsFor_48 (by decide) ?_
          refine V_ixor dX4_pairsFor_49 ?_
          refine V_iand dX4_pairsFor_50 ?_
          obtain ⟨x3_10, e_11, hf⟩ := nm_s hf
          refine V_istore_n (L' := [(3, .int x3_10), (5, .int r_4), (0, .ref k0), (1, .int x1), (2, .int x2), (4, .int x4)]) dX4_pairsFor_51 rfl (Nat.le_of_ble_eq_true rfl) e_11 rfl ?_
          refine V_sub [2, 3, 4, 0, 5] rfl ?_
          exact v_X4_pairsFor_52 hd ih hf t_k0
set_option maxHeartbeats 4000000 in
set_option maxRecDepth 100000 in
theorem c_X4_pairsFor {E : EV} {d : Nat} (hd : 1 + 1 ≤ d) {k0 : Nat} {x1 : Int32} {x2 : Int32} {h : AH} {r0 : Int32} {h0 : AH} (hf : f_X4_pairsFor k0 x1 x2 h = some (r0, h0)) (t_k0 : kd k0 = (0, 4)) : Con E d K_X4_pairsFor (ZI E r0 h0) [.ref k0, .int x1, .int x2] h := by
  obtain ⟨d, rfl⟩ : ∃ d', d = d' + 1 := ⟨d - 1, by omega⟩
  have hd := Nat.le_of_succ_le_succ hd
  refine Con.ofV rfl (Nat.le_of_ble_eq_true rfl) ?_
  unfold f_X4_pairsFor at hf
  show V E (d + 1) K_X4_pairsFor (ZI E r0 h0) h [(0, .ref k0), (1, .int x1), (2, .int x2)] [] 0
  refine V_aload_n 0 dX4_pairsFor_0 rfl rfl ?_
  obtain ⟨r_3, h_2, e_1, hf⟩ := ob_s hf
  refine V_cvi (As := []) (rest := []) (c_X4_pairsAround (d := d) (Nat.le_trans (Nat.le_of_ble_eq_true rfl) hd) e_1 t_k0) ML_X4_70 MV_X4_pairsAround rfl t_k0 rfl rfl (Nat.le_of_ble_eq_true rfl) dX4_pairsFor_1 ?_
  refine V_istore_n (L' := [(3, .int r_3), (0, .ref k0), (1, .int x1), (2, .int x2)]) dX4_pairsFor_4 rfl (Nat.le_of_ble_eq_true rfl) rfl rfl ?_
  refine V_iconst (v := 0) dX4_pairsFor_5 (by decide) ?_
  refine V_istore (L' := [(4, .int 0), (3, .int r_3), (0, .ref k0), (1, .int x1), (2, .int x2)]) dX4_pairsFor_6 (Nat.le_of_ble_eq_true rfl) rfl rfl ?_
  refine V_sub [2, 3, 4, 1, 0] rfl ?_
  exact v_X4_pairsFor_8 hd FU _ _ _ _ _ _ hf t_k0
theorem dX5_first_0 : decode cX5_first 0 = .ok (.aload_n 0, 1) := by decide +kernel
theorem dX5_first_1 : decode cX5_first 1 = .ok (.iload_n 2, 1) := by decide +kernel
theorem dX5_first_2 : decode cX5_first 2 = .ok (.invokevirtual 56, 3) := by decide +kernel
theorem dX5_first_5 : decode cX5_first 5 = .ok (.aload_n 0, 1) := by decide +kernel
theorem dX5_first_6 : decode cX5_first 6 = .ok (.iload_n 1, 1) := by decide +kernel
theorem dX5_first_7 : decode cX5_first 7 = .ok (.invokevirtual 59, 3) := by decide +kernel
theorem dX5_first_10 : decode cX5_first 10 = .ok (.getstatic 62, 3) := by decide +kernel
theorem dX5_first_13 : decode cX5_first 13 = .ok (.aload_n 0, 1) := by decide +kernel
theorem dX5_first_14 : decode cX5_first 14 = .ok (.getfield 34, 3) := by decide +kernel
theorem dX5_first_17 : decode cX5_first 17 = .ok (.iaload, 1) := by decide +kernel
theorem dX5_first_18 : decode cX5_first 18 = .ok (.ireturn, 1) := by decide +kernel
theorem ML_X5_56 : MLk RX5 56 yX5_lowest := Or.inl ml_X5_56
theorem ML_X5_59 : MLk RX5 59 yX5_begin := Or.inl ml_X5_59
theorem S_X5_62 : SLk RX5 62 3 := ⟨by decide, Or.inr ⟨_, fn_X5_62⟩⟩
def f_X5_first (k0 : Nat) (x1 : Int32) (x2 : Int32) (h : AH) : Option (Int32 × AH) :=
  ov (f_X5_lowest k0 x2 h) fun h_2 =>
  ov (f_X5_begin k0 x1 h_2) fun h_4 =>
  og (ix (h_4.1 k0 2) (sN 3)) <|
  some ((sT 3 (h_4.1 k0 2).toNatClampNeg), h_4)
set_option maxHeartbeats 4000000 in
set_option maxRecDepth 100000 in
theorem c_X5_first {E : EV} {d : Nat} (hd : 2 + 1 ≤ d) {k0 : Nat} {x1 : Int32} {x2 : Int32} {h : AH} {r0 : Int32} {h0 : AH} (hf : f_X5_first k0 x1 x2 h = some (r0, h0)) (t_k0 : kd k0 = (0, 5)) : Con E d K_X5_first (ZI E r0 h0) [.ref k0, .int x1, .int x2] h := by
  obtain ⟨d, rfl⟩ : ∃ d', d = d' + 1 := ⟨d - 1, by omega⟩
  have hd := Nat.le_of_succ_le_succ hd
  refine Con.ofV rfl (Nat.le_of_ble_eq_true rfl) ?_
  unfold f_X5_first at hf
  show V E (d + 1) K_X5_first (ZI E r0 h0) h [(0, .ref k0), (1, .int x1), (2, .int x2)] [] 0
  refine V_aload_n 0 dX5_first_0 rfl rfl ?_
  refine V_iload_n 2 dX5_first_1 rfl rfl ?_
  obtain ⟨h_2, e_1, hf⟩ := ov_s hf
  refine V_cvv (As := [.int x2]) (rest := []) (c_X5_lowest (d := d) (Nat.le_trans (Nat.le_of_ble_eq_true rfl) hd) e_1 t_k0) ML_X5_56 MV_X5_lowest rfl t_k0 rfl rfl (Nat.le_of_ble_eq_true rfl) dX5_first_2 ?_
  refine V_aload_n 0 dX5_first_5 rfl rfl ?_
  refine V_iload_n 1 dX5_first_6 rfl rfl ?_
  obtain ⟨h_4, e_3, hf⟩ := ov_s hf
  refine V_cvv (As := [.int x1]) (rest := []) (c_X5_begin (d := d) (Nat.le_trans (Nat.le_of_ble_eq_true rfl) hd) e_3 t_k0) ML_X5_59 MV_X5_begin rfl t_k0 rfl rfl (Nat.le_of_ble_eq_true rfl) dX5_first_7 ?_
  refine V_gets S_X5_62 rfl rfl dX5_first_10 ?_
  refine V_aload_n 0 dX5_first_13 rfl rfl ?_
  refine V_getI F_X5_34 rfl t_k0 rfl dX5_first_14 ?_
  obtain ⟨b_5, hf⟩ := og_s hf
  refine V_tald (i := 3) (by decide) rfl b_5 dX5_first_17 ?_
  exact V_iret rfl (so_s hf) dX5_first_18
theorem dX4_stateBehind_0 : decode cX4_stateBehind 0 = .ok (.iload_n 1, 1) := by decide +kernel
theorem dX4_stateBehind_1 : decode cX4_stateBehind 1 = .ok (.istore_n 2, 1) := by decide +kernel
theorem dX4_stateBehind_2 : decode cX4_stateBehind 2 = .ok (.iconst 0, 1) := by decide +kernel
theorem dX4_stateBehind_3 : decode cX4_stateBehind 3 = .ok (.istore_n 3, 1) := by decide +kernel
theorem dX4_stateBehind_4 : decode cX4_stateBehind 4 = .ok (.iload_n 3, 1) := by decide +kernel
theorem dX4_stateBehind_5 : decode cX4_stateBehind 5 = .ok (.aload_n 0, 1) := by decide +kernel
theorem dX4_stateBehind_6 : decode cX4_stateBehind 6 = .ok (.getfield 32, 3) := by decide +kernel
theorem dX4_stateBehind_9 : decode cX4_stateBehind 9 = .ok (.getfield 92, 3) := by decide +kernel
theorem dX4_stateBehind_12 : decode cX4_stateBehind 12 = .ok (.if_icmp .ge 47, 3) := by decide +kernel
theorem dX4_stateBehind_15 : decode cX4_stateBehind 15 = .ok (.aload_n 0, 1) := by decide +kernel
theorem dX4_stateBehind_16 : decode cX4_stateBehind 16 = .ok (.getfield 32, 3) := by decide +kernel
theorem dX4_stateBehind_19 : decode cX4_stateBehind 19 = .ok (.getfield 93, 3) := by decide +kernel
theorem dX4_stateBehind_22 : decode cX4_stateBehind 22 = .ok (.iload_n 3, 1) := by decide +kernel
theorem dX4_stateBehind_23 : decode cX4_stateBehind 23 = .ok (.iaload, 1) := by decide +kernel
theorem dX4_stateBehind_24 : decode cX4_stateBehind 24 = .ok (.istore 4, 2) := by decide +kernel
theorem dX4_stateBehind_26 : decode cX4_stateBehind 26 = .ok (.iload_n 2, 1) := by decide +kernel
theorem dX4_stateBehind_27 : decode cX4_stateBehind 27 = .ok (.aload_n 0, 1) := by decide +kernel
theorem dX4_stateBehind_28 : decode cX4_stateBehind 28 = .ok (.getfield 32, 3) := by decide +kernel
theorem dX4_stateBehind_31 : decode cX4_stateBehind 31 = .ok (.getfield 96, 3) := by decide +kernel
theorem dX4_stateBehind_34 : decode cX4_stateBehind 34 = .ok (.iload 4, 2) := by decide +kernel
theorem dX4_stateBehind_36 : decode cX4_stateBehind 36 = .ok (.iaload, 1) := by decide +kernel
theorem dX4_stateBehind_37 : decode cX4_stateBehind 37 = .ok (.iload_n 1, 1) := by decide +kernel
theorem dX4_stateBehind_38 : decode cX4_stateBehind 38 = .ok (.iload 4, 2) := by decide +kernel
theorem dX4_stateBehind_40 : decode cX4_stateBehind 40 = .ok (.invokestatic 67, 3) := by decide +kernel
theorem dX4_stateBehind_43 : decode cX4_stateBehind 43 = .ok (.isub, 1) := by decide +kernel
theorem dX4_stateBehind_44 : decode cX4_stateBehind 44 = .ok (.getstatic 36, 3) := by decide +kernel
theorem dX4_stateBehind_47 : decode cX4_stateBehind 47 = .ok (.iload 4, 2) := by decide +kernel
theorem dX4_stateBehind_49 : decode cX4_stateBehind 49 = .ok (.iaload, 1) := by decide +kernel
theorem dX4_stateBehind_50 : decode cX4_stateBehind 50 = .ok (.imul, 1) := by decide +kernel
theorem dX4_stateBehind_51 : decode cX4_stateBehind 51 = .ok (.iadd, 1) := by decide +kernel
theorem dX4_stateBehind_52 : decode cX4_stateBehind 52 = .ok (.istore_n 2, 1) := by decide +kernel
theorem dX4_stateBehind_53 : decode cX4_stateBehind 53 = .ok (.iinc 3 1, 3) := by decide +kernel
theorem dX4_stateBehind_56 : decode cX4_stateBehind 56 = .ok (.goto (-52), 3) := by decide +kernel
theorem dX4_stateBehind_59 : decode cX4_stateBehind 59 = .ok (.iload_n 2, 1) := by decide +kernel
theorem dX4_stateBehind_60 : decode cX4_stateBehind 60 = .ok (.ireturn, 1) := by decide +kernel
theorem F_X4_32 : FLk RX4 32 4 2 := ⟨RX4, TX4, 9, rfl, rfl, iw_X4, by decide, Or.inl fl_X4_32⟩
theorem F_X4_92 : FLk RX4 92 5 2 := ⟨RX5, TX5, 6, rfl, rfl, iw_X5, by decide, Or.inr ⟨_, fn_X4_92⟩⟩
theorem F_X4_93 : FLk RX4 93 5 1 := ⟨RX5, TX5, 6, rfl, rfl, iw_X5, by decide, Or.inr ⟨_, fn_X4_93⟩⟩
theorem F_X4_96 : FLk RX4 96 5 3 := ⟨RX5, TX5, 6, rfl, rfl, iw_X5, by decide, Or.inr ⟨_, fn_X4_96⟩⟩
def f_X4_stateBehind_4 : Nat → Nat → Int32 → Int32 → Int32 → AH → Option (Int32 × AH)
  | 0, _, _, _, _, _ => none
  | n + 1, k0, x1, x2, x3, h =>
    if (h.1 (rf k0 2) 2) ≤ x3 then (
      some (x2, h)
    ) else (
      og (ix x3 (an (rf (rf k0 2) 1))) <|
      nm ((h.1 (rf (rf k0 2) 1) x3.toNatClampNeg)) fun x4_3 =>
      og (ix x4_3 (an (rf (rf k0 2) 3))) <|
      ob (f_X4_pairIn x1 x4_3 h) fun r_8 h_7 =>
      og (ix x4_3 (sN 6)) <|
      nm ((x2 + (((h.1 (rf (rf k0 2) 3) x4_3.toNatClampNeg) - r_8) * (sT 6 x4_3.toNatClampNeg)))) fun x2_10 =>
      nm (x3 + 1) fun x3_12 =>
      f_X4_stateBehind_4 n k0 x1 x2_10 x3_12 h_7
    )
def f_X4_stateBehind (k0 : Nat) (x1 : Int32) (h : AH) : Option (Int32 × AH) :=
  f_X4_stateBehind_4 FU k0 x1 x1 0 h
set_option maxHeartbeats 4000000 in
set_option maxRecDepth 100000 in
theorem v_X4_stateBehind_4 {E : EV} {d : Nat} (hd : 1 ≤ d) {r0 : Int32} {h0 : AH} : ∀ (n : Nat) (k0 : Nat) (x1 : Int32) (x2 : Int32) (x3 : Int32) (h : AH), f_X4_stateBehind_4 n k0 x1 x2 x3 h = some (r0, h0) → kd k0 = (0, 4) → V E (d + 1) K_X4_stateBehind (ZI E r0 h0) h [(0, .ref k0), (1, .int x1), (2, .int x2), (3, .int x3)] [] 4 := by
  intro n
  induction n with
  | zero =>
    intro k0 x1 x2 x3 h hf
    rw [f_X4_stateBehind_4] at hf
    cases hf
  | succ n ih =>
    intro k0 x1 x2 x3 h hf t_k0
    rw [f_X4_stateBehind_4] at hf
    refine V_iload_n 3 dX4_stateBehind_4 rfl rfl ?_
    refine V_aload_n 0 dX4_stateBehind_5 rfl rfl ?_
    refine V_getR F_X4_32 rfl t_k0 rfl dX4_stateBehind_6 ?_
    refine V_getI F_X4_92 rfl (rfO t_k0 (Nat.le_of_ble_eq_true rfl) rfl rfl) rfl dX4_stateBehind_9 ?_
    refine V_ic_ge (tgt := 59) dX4_stateBehind_12 (by decide) (fun c_1 => ?_) (fun c_1 => ?_)
    · have hf := it_s c_1 hf
      refine V_iload_n 2 dX4_stateBehind_59 rfl rfl ?_
      exact V_iret rfl (so_s hf) dX4_stateBehind_60
    · have hf := if_s c_1 hf
      refine V_aload_n 0 dX4_stateBehind_15 rfl rfl ?_
      refine V_getR F_X4_32 rfl t_k0 rfl dX4_stateBehind_16 ?_
      refine V_getR F_X4_93 rfl (rfO t_k0 (Nat.le_of_ble_eq_true rfl) rfl rfl) rfl dX4_stateBehind_19 ?_
      refine V_iload_n 3 dX4_stateBehind_22 rfl rfl ?_
      obtain ⟨b_2, hf⟩ := og_s hf
      refine V_iald (rfA (rfO t_k0 (Nat.le_of_ble_eq_true rfl) rfl rfl) (Nat.le_of_ble_eq_true rfl) rfl rfl (by decide)) b_2 dX4_stateBehind_23 ?_
      obtain ⟨x4_3, e_4, hf⟩ := nm_s hf
      refine V_istore (L' := [(4, .int x4_3), (0, .ref k0), (1, .int x1), (2, .int x2), (3, .int x3)]) dX4_stateBehind_24 (Nat.le_of_ble_eq_true rfl) e_4 rfl ?_
      refine V_iload_n 3 dX4_stateBehind_26 rfl rfl ?_
      refine V_aload_n 1 dX4_stateBehind_27 rfl rfl ?_
      refine V_getR F_X4_32 rfl t_k0 rfl dX4_stateBehind_28 ?_
      refine V_getR F_X4_96 rfl (rfO t_k0 (Nat.le_of_ble_eq_true rfl) rfl rfl) rfl dX4_stateBehind_31 ?_
      refine V_iload 0 dX4_stateBehind_34 rfl ?_
      obtain ⟨b_5, hf⟩ := og_s hf
      refine V_iald (rfA (rfO t_k0 (Nat.le_of_ble_eq_true rfl) rfl rfl) (Nat.le_of_ble_eq_true rfl) rfl rfl (by decide)) b_5 dX4_stateBehind_36 ?_
      refine V_iload_n 2 dX4_stateBehind_37 rfl rfl ?_
      refine V_iload 0 dX4_stateBehind_38 rfl ?_
      obtain ⟨r_8, h_7, e_6, hf⟩ := ob_s hf
      refine V_csi (As := [.int x1, .int x4_3]) (rest := [.int (h.1 (rf (rf k0 2) 3) x4_3.toNatClampNeg), .int x2]) (c_X4_pairIn (d := d) (Nat.le_trans (Nat.le_of_ble_eq_true rfl) hd) e_6) ML_X4_67 MS_X4_pairIn rfl rfl rfl (Nat.le_of_ble_eq_true rfl) dX4_stateBehind_40 ?_
      refine V_isub dX4_stateBehind_43 ?_
      refine V_gets S_X4_36 rfl rfl dX4_stateBehind_44 ?_
      refine V_iload 0 dX4_stateBehind_47 rfl ?_
      obtain ⟨b_9, hf⟩ := og_s hf
      refine V_tald (i := 6) (by decide) rfl b_9 dX4_stateBehind_49 ?_
      refine V_imul dX4_stateBehind_50 ?_
      refine V_iadd dX4_stateBehind_51 ?_
      obtain ⟨x2_10, e_11, hf⟩ := nm_s hf
      refine V_istore_n (L' := [(2, .int x2_10), (4, .int x4_3), (0, .ref k0), (1, .int x1), (3, .int x3)]) dX4_stateBehind_52 rfl (Nat.le_of_ble_eq_true rfl) e_11 rfl ?_
      obtain ⟨x3_12, e_13, hf⟩ := nm_s hf
      refine V_iinc (a := 1) (L' := [(3, .int x3_12), (2, .int x2_10), (4, .int x4_3), (0, .ref k0), (1, .int x1)]) 4 dX4_stateBehind_53 rfl (by decide) (Nat.le_of_ble_eq_true rfl) e_13 rfl ?_
      refine V_goto (tgt := 4) dX4_stateBehind_56 (by decide) ?_
      refine V_sub [3, 4, 1, 0] rfl ?_
      exact ih _ _ _ _ _ hf t_k0
set_option maxHeartbeats 4000000 in
set_option maxRecDepth 100000 in
theorem c_X4_stateBehind {E : EV} {d : Nat} (hd : 1 + 1 ≤ d) {k0 : Nat} {x1 : Int32} {h : AH} {r0 : Int32} {h0 : AH} (hf : f_X4_stateBehind k0 x1 h = some (r0, h0)) (t_k0 : kd k0 = (0, 4)) : Con E d K_X4_stateBehind (ZI E r0 h0) [.ref k0, .int x1] h := by
  obtain ⟨d, rfl⟩ : ∃ d', d = d' + 1 := ⟨d - 1, by omega⟩
  have hd := Nat.le_of_succ_le_succ hd
  refine Con.ofV rfl (Nat.le_of_ble_eq_true rfl) ?_
  unfold f_X4_stateBehind at hf
  show V E (d + 1) K_X4_stateBehind (ZI E r0 h0) h [(0, .ref k0), (1, .int x1)] [] 0
  refine V_iload_n 1 dX4_stateBehind_0 rfl rfl ?_
  refine V_istore_n (L' := [(2, .int x1), (0, .ref k0), (1, .int x1)]) dX4_stateBehind_1 rfl (Nat.le_of_ble_eq_true rfl) rfl rfl ?_
  refine V_iconst (v := 0) dX4_stateBehind_2 (by decide) ?_
  refine V_istore_n (L' := [(3, .int 0), (2, .int x1), (0, .ref k0), (1, .int x1)]) dX4_stateBehind_3 rfl (Nat.le_of_ble_eq_true rfl) rfl rfl ?_
  refine V_sub [2, 3, 1, 0] rfl ?_
  exact v_X4_stateBehind_4 hd FU _ _ _ _ _ hf t_k0
theorem dX5_exchange_0 : decode cX5_exchange 0 = .ok (.aload_n 0, 1) := by decide +kernel
theorem dX5_exchange_1 : decode cX5_exchange 1 = .ok (.getfield 9, 3) := by decide +kernel
theorem dX5_exchange_4 : decode cX5_exchange 4 = .ok (.iload_n 1, 1) := by decide +kernel
theorem dX5_exchange_5 : decode cX5_exchange 5 = .ok (.iaload, 1) := by decide +kernel
theorem dX5_exchange_6 : decode cX5_exchange 6 = .ok (.istore_n 3, 1) := by decide +kernel
theorem dX5_exchange_7 : decode cX5_exchange 7 = .ok (.aload_n 0, 1) := by decide +kernel
theorem dX5_exchange_8 : decode cX5_exchange 8 = .ok (.getfield 9, 3) := by decide +kernel
theorem dX5_exchange_11 : decode cX5_exchange 11 = .ok (.iload_n 1, 1) := by decide +kernel
theorem dX5_exchange_12 : decode cX5_exchange 12 = .ok (.aload_n 0, 1) := by decide +kernel
theorem dX5_exchange_13 : decode cX5_exchange 13 = .ok (.getfield 9, 3) := by decide +kernel
theorem dX5_exchange_16 : decode cX5_exchange 16 = .ok (.iload_n 2, 1) := by decide +kernel
theorem dX5_exchange_17 : decode cX5_exchange 17 = .ok (.iaload, 1) := by decide +kernel
theorem dX5_exchange_18 : decode cX5_exchange 18 = .ok (.iastore, 1) := by decide +kernel
theorem dX5_exchange_19 : decode cX5_exchange 19 = .ok (.aload_n 0, 1) := by decide +kernel
theorem dX5_exchange_20 : decode cX5_exchange 20 = .ok (.getfield 9, 3) := by decide +kernel
theorem dX5_exchange_23 : decode cX5_exchange 23 = .ok (.iload_n 2, 1) := by decide +kernel
theorem dX5_exchange_24 : decode cX5_exchange 24 = .ok (.iload_n 3, 1) := by decide +kernel
theorem dX5_exchange_25 : decode cX5_exchange 25 = .ok (.iastore, 1) := by decide +kernel
theorem dX5_exchange_26 : decode cX5_exchange 26 = .ok (.return_, 1) := by decide +kernel
def f_X5_exchange (k0 : Nat) (x1 : Int32) (x2 : Int32) (h : AH) : Option AH :=
  og (ix x1 (an (rf k0 1))) <|
  nm ((h.1 (rf k0 1) x1.toNatClampNeg)) fun x3_2 =>
  og (ix x2 (an (rf k0 1))) <|
  og (ix x1 (an (rf k0 1))) <|
  nm (sI h (rf k0 1) x1.toNatClampNeg (h.1 (rf k0 1) x2.toNatClampNeg)) fun h_6 =>
  og (ix x2 (an (rf k0 1))) <|
  nm (sI h_6 (rf k0 1) x2.toNatClampNeg x3_2) fun h_9 =>
  some h_9
set_option maxHeartbeats 4000000 in
set_option maxRecDepth 100000 in
theorem c_X5_exchange {E : EV} {d : Nat} (hd : 0 + 1 ≤ d) {k0 : Nat} {x1 : Int32} {x2 : Int32} {h : AH} {h0 : AH} (hf : f_X5_exchange k0 x1 x2 h = some h0) (t_k0 : kd k0 = (0, 5)) : Con E d K_X5_exchange (ZV E h0) [.ref k0, .int x1, .int x2] h := by
  obtain ⟨d, rfl⟩ : ∃ d', d = d' + 1 := ⟨d - 1, by omega⟩
  have hd := Nat.le_of_succ_le_succ hd
  refine Con.ofV rfl (Nat.le_of_ble_eq_true rfl) ?_
  unfold f_X5_exchange at hf
  show V E (d + 1) K_X5_exchange (ZV E h0) h [(0, .ref k0), (1, .int x1), (2, .int x2)] [] 0
  refine V_aload_n 0 dX5_exchange_0 rfl rfl ?_
  refine V_getR F_X5_9 rfl t_k0 rfl dX5_exchange_1 ?_
  refine V_iload_n 1 dX5_exchange_4 rfl rfl ?_
  obtain ⟨b_1, hf⟩ := og_s hf
  refine V_iald (rfA t_k0 (Nat.le_of_ble_eq_true rfl) rfl rfl (by decide)) b_1 dX5_exchange_5 ?_
  obtain ⟨x3_2, e_3, hf⟩ := nm_s hf
  refine V_istore_n (L' := [(3, .int x3_2), (0, .ref k0), (1, .int x1), (2, .int x2)]) dX5_exchange_6 rfl (Nat.le_of_ble_eq_true rfl) e_3 rfl ?_
  refine V_aload_n 1 dX5_exchange_7 rfl rfl ?_
  refine V_getR F_X5_9 rfl t_k0 rfl dX5_exchange_8 ?_
  refine V_iload_n 2 dX5_exchange_11 rfl rfl ?_
  refine V_aload_n 1 dX5_exchange_12 rfl rfl ?_
  refine V_getR F_X5_9 rfl t_k0 rfl dX5_exchange_13 ?_
  refine V_iload_n 3 dX5_exchange_16 rfl rfl ?_
  obtain ⟨b_4, hf⟩ := og_s hf
  refine V_iald (rfA t_k0 (Nat.le_of_ble_eq_true rfl) rfl rfl (by decide)) b_4 dX5_exchange_17 ?_
  obtain ⟨b_5, hf⟩ := og_s hf
  obtain ⟨h_6, e_7, hf⟩ := nm_s hf
  refine V_iast (rfA t_k0 (Nat.le_of_ble_eq_true rfl) rfl rfl (by decide)) b_5 e_7 dX5_exchange_18 ?_
  refine V_aload_n 1 dX5_exchange_19 rfl rfl ?_
  refine V_getR F_X5_9 rfl t_k0 rfl dX5_exchange_20 ?_
  refine V_iload_n 3 dX5_exchange_23 rfl rfl ?_
  refine V_iload_n 0 dX5_exchange_24 rfl rfl ?_
  obtain ⟨b_8, hf⟩ := og_s hf
  obtain ⟨h_9, e_10, hf⟩ := nm_s hf
  refine V_iast (rfA t_k0 (Nat.le_of_ble_eq_true rfl) rfl rfl (by decide)) b_8 e_10 dX5_exchange_25 ?_
  exact V_vret rfl (so_s hf) dX5_exchange_26
theorem dX5_advance_0 : decode cX5_advance 0 = .ok (.aload_n 0, 1) := by decide +kernel
theorem dX5_advance_1 : decode cX5_advance 1 = .ok (.getfield 34, 3) := by decide +kernel
theorem dX5_advance_4 : decode cX5_advance 4 = .ok (.iconst 2, 1) := by decide +kernel
theorem dX5_advance_5 : decode cX5_advance 5 = .ok (.isub, 1) := by decide +kernel
theorem dX5_advance_6 : decode cX5_advance 6 = .ok (.istore_n 1, 1) := by decide +kernel
theorem dX5_advance_7 : decode cX5_advance 7 = .ok (.iload_n 1, 1) := by decide +kernel
theorem dX5_advance_8 : decode cX5_advance 8 = .ok (.ifCond .lt 26, 3) := by decide +kernel
theorem dX5_advance_11 : decode cX5_advance 11 = .ok (.aload_n 0, 1) := by decide +kernel
theorem dX5_advance_12 : decode cX5_advance 12 = .ok (.getfield 9, 3) := by decide +kernel
theorem dX5_advance_15 : decode cX5_advance 15 = .ok (.iload_n 1, 1) := by decide +kernel
theorem dX5_advance_16 : decode cX5_advance 16 = .ok (.iaload, 1) := by decide +kernel
theorem dX5_advance_17 : decode cX5_advance 17 = .ok (.aload_n 0, 1) := by decide +kernel
theorem dX5_advance_18 : decode cX5_advance 18 = .ok (.getfield 9, 3) := by decide +kernel
theorem dX5_advance_21 : decode cX5_advance 21 = .ok (.iload_n 1, 1) := by decide +kernel
theorem dX5_advance_22 : decode cX5_advance 22 = .ok (.iconst 1, 1) := by decide +kernel
theorem dX5_advance_23 : decode cX5_advance 23 = .ok (.iadd, 1) := by decide +kernel
theorem dX5_advance_24 : decode cX5_advance 24 = .ok (.iaload, 1) := by decide +kernel
theorem dX5_advance_25 : decode cX5_advance 25 = .ok (.if_icmp .le 9, 3) := by decide +kernel
theorem dX5_advance_28 : decode cX5_advance 28 = .ok (.iinc 1 (-1), 3) := by decide +kernel
theorem dX5_advance_31 : decode cX5_advance 31 = .ok (.goto (-24), 3) := by decide +kernel
theorem dX5_advance_34 : decode cX5_advance 34 = .ok (.iload_n 1, 1) := by decide +kernel
theorem dX5_advance_35 : decode cX5_advance 35 = .ok (.ifCond .ge 8, 3) := by decide +kernel
theorem dX5_advance_38 : decode cX5_advance 38 = .ok (.aload_n 0, 1) := by decide +kernel
theorem dX5_advance_39 : decode cX5_advance 39 = .ok (.getfield 34, 3) := by decide +kernel
theorem dX5_advance_42 : decode cX5_advance 42 = .ok (.ireturn, 1) := by decide +kernel
theorem dX5_advance_43 : decode cX5_advance 43 = .ok (.aload_n 0, 1) := by decide +kernel
theorem dX5_advance_44 : decode cX5_advance 44 = .ok (.getfield 34, 3) := by decide +kernel
theorem dX5_advance_47 : decode cX5_advance 47 = .ok (.iconst 1, 1) := by decide +kernel
theorem dX5_advance_48 : decode cX5_advance 48 = .ok (.isub, 1) := by decide +kernel
theorem dX5_advance_49 : decode cX5_advance 49 = .ok (.istore_n 2, 1) := by decide +kernel
theorem dX5_advance_50 : decode cX5_advance 50 = .ok (.iload_n 2, 1) := by decide +kernel
theorem dX5_advance_51 : decode cX5_advance 51 = .ok (.iload_n 1, 1) := by decide +kernel
theorem dX5_advance_52 : decode cX5_advance 52 = .ok (.if_icmp .le 24, 3) := by decide +kernel
theorem dX5_advance_55 : decode cX5_advance 55 = .ok (.aload_n 0, 1) := by decide +kernel
theorem dX5_advance_56 : decode cX5_advance 56 = .ok (.getfield 9, 3) := by decide +kernel
theorem dX5_advance_59 : decode cX5_advance 59 = .ok (.iload_n 2, 1) := by decide +kernel
theorem dX5_advance_60 : decode cX5_advance 60 = .ok (.iaload, 1) := by decide +kernel
theorem dX5_advance_61 : decode cX5_advance 61 = .ok (.aload_n 0, 1) := by decide +kernel
theorem dX5_advance_62 : decode cX5_advance 62 = .ok (.getfield 9, 3) := by decide +kernel
theorem dX5_advance_65 : decode cX5_advance 65 = .ok (.iload_n 1, 1) := by decide +kernel
theorem dX5_advance_66 : decode cX5_advance 66 = .ok (.iaload, 1) := by decide +kernel
theorem dX5_advance_67 : decode cX5_advance 67 = .ok (.if_icmp .ge 9, 3) := by decide +kernel
theorem dX5_advance_70 : decode cX5_advance 70 = .ok (.iinc 2 (-1), 3) := by decide +kernel
theorem dX5_advance_73 : decode cX5_advance 73 = .ok (.goto (-23), 3) := by decide +kernel
theorem dX5_advance_76 : decode cX5_advance 76 = .ok (.aload_n 0, 1) := by decide +kernel
theorem dX5_advance_77 : decode cX5_advance 77 = .ok (.iload_n 1, 1) := by decide +kernel
theorem dX5_advance_78 : decode cX5_advance 78 = .ok (.iload_n 2, 1) := by decide +kernel
theorem dX5_advance_79 : decode cX5_advance 79 = .ok (.invokevirtual 46, 3) := by decide +kernel
theorem dX5_advance_82 : decode cX5_advance 82 = .ok (.aload_n 0, 1) := by decide +kernel
theorem dX5_advance_83 : decode cX5_advance 83 = .ok (.getfield 34, 3) := by decide +kernel
theorem dX5_advance_86 : decode cX5_advance 86 = .ok (.iconst 1, 1) := by decide +kernel
theorem dX5_advance_87 : decode cX5_advance 87 = .ok (.isub, 1) := by decide +kernel
theorem dX5_advance_88 : decode cX5_advance 88 = .ok (.istore_n 3, 1) := by decide +kernel
theorem dX5_advance_89 : decode cX5_advance 89 = .ok (.iload_n 1, 1) := by decide +kernel
theorem dX5_advance_90 : decode cX5_advance 90 = .ok (.iconst 1, 1) := by decide +kernel
theorem dX5_advance_91 : decode cX5_advance 91 = .ok (.iadd, 1) := by decide +kernel
theorem dX5_advance_92 : decode cX5_advance 92 = .ok (.istore 4, 2) := by decide +kernel
theorem dX5_advance_94 : decode cX5_advance 94 = .ok (.iload 4, 2) := by decide +kernel
theorem dX5_advance_96 : decode cX5_advance 96 = .ok (.iload_n 3, 1) := by decide +kernel
theorem dX5_advance_97 : decode cX5_advance 97 = .ok (.if_icmp .ge 19, 3) := by decide +kernel
theorem dX5_advance_100 : decode cX5_advance 100 = .ok (.aload_n 0, 1) := by decide +kernel
theorem dX5_advance_101 : decode cX5_advance 101 = .ok (.iload 4, 2) := by decide +kernel
theorem dX5_advance_103 : decode cX5_advance 103 = .ok (.iload_n 3, 1) := by decide +kernel
theorem dX5_advance_104 : decode cX5_advance 104 = .ok (.invokevirtual 46, 3) := by decide +kernel
theorem dX5_advance_107 : decode cX5_advance 107 = .ok (.iinc 3 (-1), 3) := by decide +kernel
theorem dX5_advance_110 : decode cX5_advance 110 = .ok (.iinc 4 1, 3) := by decide +kernel
theorem dX5_advance_113 : decode cX5_advance 113 = .ok (.goto (-19), 3) := by decide +kernel
theorem dX5_advance_116 : decode cX5_advance 116 = .ok (.iload_n 1, 1) := by decide +kernel
theorem dX5_advance_117 : decode cX5_advance 117 = .ok (.ireturn, 1) := by decide +kernel
theorem ML_X5_46 : MLk RX5 46 yX5_exchange := Or.inl ml_X5_46
theorem MV_X5_exchange : MVk K_X5_exchange 2 5 := ⟨⟨cd_X5_exchange, in_X5, ⟨by decide, by decide, by decide +kernel⟩, by decide⟩, im_X5_exchange, se_X5_exchange, _, _, rfl⟩
def f_X5_advance_94 : Nat → Nat → Int32 → Int32 → Int32 → AH → Option (Int32 × AH)
  | 0, _, _, _, _, _ => none
  | n + 1, k0, x1, x3, x4, h =>
    if x3 ≤ x4 then (
      some (x1, h)
    ) else (
      ov (f_X5_exchange k0 x4 x3 h) fun h_3 =>
      nm (x3 + (-1)) fun x3_4 =>
      nm (x4 + 1) fun x4_6 =>
      f_X5_advance_94 n k0 x1 x3_4 x4_6 h_3
    )
def f_X5_advance_76 (k0 : Nat) (x1 : Int32) (x2 : Int32) (h : AH) : Option (Int32 × AH) :=
  ov (f_X5_exchange k0 x1 x2 h) fun h_2 =>
  nm (((h_2.1 k0 2) - 1)) fun x3_3 =>
  nm ((x1 + 1)) fun x4_5 =>
  f_X5_advance_94 FU k0 x1 x3_3 x4_5 h_2
def f_X5_advance_50 : Nat → Nat → Int32 → Int32 → AH → Option (Int32 × AH)
  | 0, _, _, _, _ => none
  | n + 1, k0, x1, x2, h =>
    if x2 ≤ x1 then (
      f_X5_advance_76 k0 x1 x2 h
    ) else (
      og (ix x2 (an (rf k0 1))) <|
      og (ix x1 (an (rf k0 1))) <|
      if (h.1 (rf k0 1) x1.toNatClampNeg) ≤ (h.1 (rf k0 1) x2.toNatClampNeg) then (
        f_X5_advance_76 k0 x1 x2 h
      ) else (
        nm (x2 + (-1)) fun x2_5 =>
        f_X5_advance_50 n k0 x1 x2_5 h
      )
    )
def f_X5_advance_34 (k0 : Nat) (x1 : Int32) (h : AH) : Option (Int32 × AH) :=
  if 0 ≤ x1 then (
    nm (((h.1 k0 2) - 1)) fun x2_2 =>
    f_X5_advance_50 FU k0 x1 x2_2 h
  ) else (
    some ((h.1 k0 2), h)
  )
def f_X5_advance_7 : Nat → Nat → Int32 → AH → Option (Int32 × AH)
  | 0, _, _, _ => none
  | n + 1, k0, x1, h =>
    if x1 < 0 then (
      f_X5_advance_34 k0 x1 h
    ) else (
      og (ix x1 (an (rf k0 1))) <|
      og (ix (x1 + 1) (an (rf k0 1))) <|
      if (h.1 (rf k0 1) x1.toNatClampNeg) ≤ (h.1 (rf k0 1) (x1 + 1).toNatClampNeg) then (
        f_X5_advance_34 k0 x1 h
      ) else (
        nm (x1 + (-1)) fun x1_5 =>
        f_X5_advance_7 n k0 x1_5 h
      )
    )
def f_X5_advance (k0 : Nat) (h : AH) : Option (Int32 × AH) :=
  nm (((h.1 k0 2) - 2)) fun x1_1 =>
  f_X5_advance_7 FU k0 x1_1 h
set_option maxHeartbeats 4000000 in
set_option maxRecDepth 100000 in
theorem v_X5_advance_94 {E : EV} {d : Nat} (hd : 1 ≤ d) {r0 : Int32} {h0 : AH} : ∀ (n : Nat) (k0 : Nat) (x1 : Int32) (x3 : Int32) (x4 : Int32) (h : AH), f_X5_advance_94 n k0 x1 x3 x4 h = some (r0, h0) → kd k0 = (0, 5) → V E (d + 1) K_X5_advance (ZI E r0 h0) h [(0, .ref k0), (1, .int x1), (3, .int x3), (4, .int x4)] [] 94 := by
  intro n
  induction n with
  | zero =>
    intro k0 x1 x3 x4 h hf
    rw [f_X5_advance_94] at hf
    cases hf
  | succ n ih =>
    intro k0 x1 x3 x4 h hf t_k0
    rw [f_X5_advance_94] at hf
    refine V_iload 3 dX5_advance_94 rfl ?_
    refine V_iload_n 2 dX5_advance_96 rfl rfl ?_
    refine V_ic_ge (tgt := 116) dX5_advance_97 (by decide) (fun c_1 => ?_) (fun c_1 => ?_)
    · have hf := it_s c_1 hf
      refine V_iload_n 1 dX5_advance_116 rfl rfl ?_
      exact V_iret rfl (so_s hf) dX5_advance_117
    · have hf := if_s c_1 hf
      refine V_aload_n 0 dX5_advance_100 rfl rfl ?_
      refine V_iload 3 dX5_advance_101 rfl ?_
      refine V_iload_n 2 dX5_advance_103 rfl rfl ?_
      obtain ⟨h_3, e_2, hf⟩ := ov_s hf
      refine V_cvv (As := [.int x4, .int x3]) (rest := []) (c_X5_exchange (d := d) (Nat.le_trans (Nat.le_of_ble_eq_true rfl) hd) e_2 t_k0) ML_X5_46 MV_X5_exchange rfl t_k0 rfl rfl (Nat.le_of_ble_eq_true rfl) dX5_advance_104 ?_
      obtain ⟨x3_4, e_5, hf⟩ := nm_s hf
      refine V_iinc (a := (-1)) (L' := [(3, .int x3_4), (0, .ref k0), (1, .int x1), (4, .int x4)]) 2 dX5_advance_107 rfl (by decide) (Nat.le_of_ble_eq_true rfl) e_5 rfl ?_
      obtain ⟨x4_6, e_7, hf⟩ := nm_s hf
      refine V_iinc (a := 1) (L' := [(4, .int x4_6), (3, .int x3_4), (0, .ref k0), (1, .int x1)]) 3 dX5_advance_110 rfl (by decide) (Nat.le_of_ble_eq_true rfl) e_7 rfl ?_
      refine V_goto (tgt := 94) dX5_advance_113 (by decide) ?_
      refine V_sub [2, 3, 1, 0] rfl ?_
      exact ih _ _ _ _ _ hf t_k0
set_option maxHeartbeats 4000000 in
set_option maxRecDepth 100000 in
theorem v_X5_advance_76 {E : EV} {d : Nat} (hd : 1 ≤ d) {r0 : Int32} {h0 : AH} {k0 : Nat} {x1 : Int32} {x2 : Int32} {h : AH} (hf : f_X5_advance_76 k0 x1 x2 h = some (r0, h0)) (t_k0 : kd k0 = (0, 5)) : V E (d + 1) K_X5_advance (ZI E r0 h0) h [(0, .ref k0), (1, .int x1), (2, .int x2)] [] 76 := by
  unfold f_X5_advance_76 at hf
  refine V_aload_n 0 dX5_advance_76 rfl rfl ?_
  refine V_iload_n 1 dX5_advance_77 rfl rfl ?_
  refine V_iload_n 2 dX5_advance_78 rfl rfl ?_
  obtain ⟨h_2, e_1, hf⟩ := ov_s hf
  refine V_cvv (As := [.int x1, .int x2]) (rest := []) (c_X5_exchange (d := d) (Nat.le_trans (Nat.le_of_ble_eq_true rfl) hd) e_1 t_k0) ML_X5_46 MV_X5_exchange rfl t_k0 rfl rfl (Nat.le_of_ble_eq_true rfl) dX5_advance_79 ?_
  refine V_aload_n 0 dX5_advance_82 rfl rfl ?_
  refine V_getI F_X5_34 rfl t_k0 rfl dX5_advance_83 ?_
  refine V_iconst (v := 1) dX5_advance_86 (by decide) ?_
  refine V_isub dX5_advance_87 ?_
  obtain ⟨x3_3, e_4, hf⟩ := nm_s hf
  refine V_istore_n (L' := [(3, .int x3_3), (0, .ref k0), (1, .int x1), (2, .int x2)]) dX5_advance_88 rfl (Nat.le_of_ble_eq_true rfl) e_4 rfl ?_
  refine V_iload_n 2 dX5_advance_89 rfl rfl ?_
  refine V_iconst (v := 1) dX5_advance_90 (by decide) ?_
  refine V_iadd dX5_advance_91 ?_
  obtain ⟨x4_5, e_6, hf⟩ := nm_s hf
  refine V_istore (L' := [(4, .int x4_5), (3, .int x3_3), (0, .ref k0), (1, .int x1), (2, .int x2)]) dX5_advance_92 (Nat.le_of_ble_eq_true rfl) e_6 rfl ?_
  refine V_sub [2, 3, 1, 0] rfl ?_
  exact v_X5_advance_94 hd FU _ _ _ _ _ hf t_k0
set_option maxHeartbeats 4000000 in
set_option maxRecDepth 100000 in
theorem v_X5_advance_50 {E : EV} {d : Nat} (hd : 1 ≤ d) {r0 : Int32} {h0 : AH} : ∀ (n : Nat) (k0 : Nat) (x1 : Int32) (x2 : Int32) (h : AH), f_X5_advance_50 n k0 x1 x2 h = some (r0, h0) → kd k0 = (0, 5) → V E (d + 1) K_X5_advance (ZI E r0 h0) h [(0, .ref k0), (1, .int x1), (2, .int x2)] [] 50 := by
  intro n
  induction n with
  | zero =>
    intro k0 x1 x2 h hf
    rw [f_X5_advance_50] at hf
    cases hf
  | succ n ih =>
    intro k0 x1 x2 h hf t_k0
    rw [f_X5_advance_50] at hf
    refine V_iload_n 2 dX5_advance_50 rfl rfl ?_
    refine V_iload_n 1 dX5_advance_51 rfl rfl ?_
    refine V_ic_le (tgt := 76) dX5_advance_52 (by decide) (fun c_1 => ?_) (fun c_1 => ?_)
    · have hf := it_s c_1 hf
      exact v_X5_advance_76 hd hf t_k0
    · have hf := if_s c_1 hf
      refine V_aload_n 0 dX5_advance_55 rfl rfl ?_
      refine V_getR F_X5_9 rfl t_k0 rfl dX5_advance_56 ?_
      refine V_iload_n 2 dX5_advance_59 rfl rfl ?_
      obtain ⟨b_2, hf⟩ := og_s hf
      refine V_iald (rfA t_k0 (Nat.le_of_ble_eq_true rfl) rfl rfl (by decide)) b_2 dX5_advance_60 ?_
      refine V_aload_n 0 dX5_advance_61 rfl rfl ?_
      refine V_getR F_X5_9 rfl t_k0 rfl dX5_advance_62 ?_
      refine V_iload_n 1 dX5_advance_65 rfl rfl ?_
      obtain ⟨b_3, hf⟩ := og_s hf
      refine V_iald (rfA t_k0 (Nat.le_of_ble_eq_true rfl) rfl rfl (by decide)) b_3 dX5_advance_66 ?_
      refine V_ic_ge (tgt := 76) dX5_advance_67 (by decide) (fun c_4 => ?_) (fun c_4 => ?_)
      · have hf := it_s c_4 hf
        exact v_X5_advance_76 hd hf t_k0
      · have hf := if_s c_4 hf
        obtain ⟨x2_5, e_6, hf⟩ := nm_s hf
        refine V_iinc (a := (-1)) (L' := [(2, .int x2_5), (0, .ref k0), (1, .int x1)]) 2 dX5_advance_70 rfl (by decide) (Nat.le_of_ble_eq_true rfl) e_6 rfl ?_
        refine V_goto (tgt := 50) dX5_advance_73 (by decide) ?_
        refine V_sub [1, 2, 0] rfl ?_
        exact ih _ _ _ _ hf t_k0
set_option maxHeartbeats 4000000 in
set_option maxRecDepth 100000 in
theorem v_X5_advance_34 {E : EV} {d : Nat} (hd : 1 ≤ d) {r0 : Int32} {h0 : AH} {k0 : Nat} {x1 : Int32} {h : AH} (hf : f_X5_advance_34 k0 x1 h = some (r0, h0)) (t_k0 : kd k0 = (0, 5)) : V E (d + 1) K_X5_advance (ZI E r0 h0) h [(0, .ref k0), (1, .int x1)] [] 34 := by
  unfold f_X5_advance_34 at hf
  refine V_iload_n 1 dX5_advance_34 rfl rfl ?_
  refine V_if_ge (tgt := 43) dX5_advance_35 (by decide) (fun c_1 => ?_) (fun c_1 => ?_)
  · have hf := it_s c_1 hf
    refine V_aload_n 0 dX5_advance_43 rfl rfl ?_
    refine V_getI F_X5_34 rfl t_k0 rfl dX5_advance_44 ?_
    refine V_iconst (v := 1) dX5_advance_47 (by decide) ?_
    refine V_isub dX5_advance_48 ?_
    obtain ⟨x2_2, e_3, hf⟩ := nm_s hf
    refine V_istore_n (L' := [(2, .int x2_2), (0, .ref k0), (1, .int x1)]) dX5_advance_49 rfl (Nat.le_of_ble_eq_true rfl) e_3 rfl ?_
    refine V_sub [1, 2, 0] rfl ?_
    exact v_X5_advance_50 hd FU _ _ _ _ hf t_k0
  · have hf := if_s c_1 hf
    refine V_aload_n 0 dX5_advance_38 rfl rfl ?_
    refine V_getI F_X5_34 rfl t_k0 rfl dX5_advance_39 ?_
    exact V_iret rfl (so_s hf) dX5_advance_42
set_option maxHeartbeats 4000000 in
set_option maxRecDepth 100000 in
theorem v_X5_advance_7 {E : EV} {d : Nat} (hd : 1 ≤ d) {r0 : Int32} {h0 : AH} : ∀ (n : Nat) (k0 : Nat) (x1 : Int32) (h : AH), f_X5_advance_7 n k0 x1 h = some (r0, h0) → kd k0 = (0, 5) → V E (d + 1) K_X5_advance (ZI E r0 h0) h [(0, .ref k0), (1, .int x1)] [] 7 := by
  intro n
  induction n with
  | zero =>
    intro k0 x1 h hf
    rw [f_X5_advance_7] at hf
    cases hf
  | succ n ih =>
    intro k0 x1 h hf t_k0
    rw [f_X5_advance_7] at hf
    refine V_iload_n 1 dX5_advance_7 rfl rfl ?_
    refine V_if_lt (tgt := 34) dX5_advance_8 (by decide) (fun c_1 => ?_) (fun c_1 => ?_)
    · have hf := it_s c_1 hf
      exact v_X5_advance_34 hd hf t_k0
    · have hf := if_s c_1 hf
      refine V_aload_n 0 dX5_advance_11 rfl rfl ?_
      refine V_getR F_X5_9 rfl t_k0 rfl dX5_advance_12 ?_
      refine V_iload_n 1 dX5_advance_15 rfl rfl ?_
      obtain ⟨b_2, hf⟩ := og_s hf
      refine V_iald (rfA t_k0 (Nat.le_of_ble_eq_true rfl) rfl rfl (by decide)) b_2 dX5_advance_16 ?_
      refine V_aload_n 0 dX5_advance_17 rfl rfl ?_
      refine V_getR F_X5_9 rfl t_k0 rfl dX5_advance_18 ?_
      refine V_iload_n 1 dX5_advance_21 rfl rfl ?_
      refine V_iconst (v := 1) dX5_advance_22 (by decide) ?_
      refine V_iadd dX5_advance_23 ?_
      obtain ⟨b_3, hf⟩ := og_s hf
      refine V_iald (rfA t_k0 (Nat.le_of_ble_eq_true rfl) rfl rfl (by decide)) b_3 dX5_advance_24 ?_
      refine V_ic_le (tgt := 34) dX5_advance_25 (by decide) (fun c_4 => ?_) (fun c_4 => ?_)
      · have hf := it_s c_4 hf
        exact v_X5_advance_34 hd hf t_k0
      · have hf := if_s c_4 hf
        obtain ⟨x1_5, e_6, hf⟩ := nm_s hf
        refine V_iinc (a := (-1)) (L' := [(1, .int x1_5), (0, .ref k0)]) 1 dX5_advance_28 rfl (by decide) (Nat.le_of_ble_eq_true rfl) e_6 rfl ?_
        refine V_goto (tgt := 7) dX5_advance_31 (by decide) ?_
        refine V_sub [1, 0] rfl ?_
        exact ih _ _ _ hf t_k0
set_option maxHeartbeats 4000000 in
set_option maxRecDepth 100000 in
theorem c_X5_advance {E : EV} {d : Nat} (hd : 1 + 1 ≤ d) {k0 : Nat} {h : AH} {r0 : Int32} {h0 : AH} (hf : f_X5_advance k0 h = some (r0, h0)) (t_k0 : kd k0 = (0, 5)) : Con E d K_X5_advance (ZI E r0 h0) [.ref k0] h := by
  obtain ⟨d, rfl⟩ : ∃ d', d = d' + 1 := ⟨d - 1, by omega⟩
  have hd := Nat.le_of_succ_le_succ hd
  refine Con.ofV rfl (Nat.le_of_ble_eq_true rfl) ?_
  unfold f_X5_advance at hf
  show V E (d + 1) K_X5_advance (ZI E r0 h0) h [(0, .ref k0)] [] 0
  refine V_aload_n 0 dX5_advance_0 rfl rfl ?_
  refine V_getI F_X5_34 rfl t_k0 rfl dX5_advance_1 ?_
  refine V_iconst (v := 2) dX5_advance_4 (by decide) ?_
  refine V_isub dX5_advance_5 ?_
  obtain ⟨x1_1, e_2, hf⟩ := nm_s hf
  refine V_istore_n (L' := [(1, .int x1_1), (0, .ref k0)]) dX5_advance_6 rfl (Nat.le_of_ble_eq_true rfl) e_2 rfl ?_
  refine V_sub [1, 0] rfl ?_
  exact v_X5_advance_7 hd FU _ _ _ hf t_k0
theorem dX4_spread_0 : decode cX4_spread 0 = .ok (.aload_n 0, 1) := by decide +kernel
theorem dX4_spread_1 : decode cX4_spread 1 = .ok (.getfield 32, 3) := by decide +kernel
theorem dX4_spread_4 : decode cX4_spread 4 = .ok (.aload_n 0, 1) := by decide +kernel
theorem dX4_spread_5 : decode cX4_spread 5 = .ok (.iload_n 1, 1) := by decide +kernel
theorem dX4_spread_6 : decode cX4_spread 6 = .ok (.iload_n 2, 1) := by decide +kernel
theorem dX4_spread_7 : decode cX4_spread 7 = .ok (.invokevirtual 118, 3) := by decide +kernel
theorem dX4_spread_10 : decode cX4_spread 10 = .ok (.iload_n 2, 1) := by decide +kernel
theorem dX4_spread_11 : decode cX4_spread 11 = .ok (.invokevirtual 73, 3) := by decide +kernel
theorem dX4_spread_14 : decode cX4_spread 14 = .ok (.istore_n 3, 1) := by decide +kernel
theorem dX4_spread_15 : decode cX4_spread 15 = .ok (.iconst 0, 1) := by decide +kernel
theorem dX4_spread_16 : decode cX4_spread 16 = .ok (.istore 4, 2) := by decide +kernel
theorem dX4_spread_18 : decode cX4_spread 18 = .ok (.iconst 0, 1) := by decide +kernel
theorem dX4_spread_19 : decode cX4_spread 19 = .ok (.istore 5, 2) := by decide +kernel
theorem dX4_spread_21 : decode cX4_spread 21 = .ok (.iload 5, 2) := by decide +kernel
theorem dX4_spread_23 : decode cX4_spread 23 = .ok (.iload_n 3, 1) := by decide +kernel
theorem dX4_spread_24 : decode cX4_spread 24 = .ok (.if_icmp .ge 44, 3) := by decide +kernel
theorem dX4_spread_27 : decode cX4_spread 27 = .ok (.aload_n 0, 1) := by decide +kernel
theorem dX4_spread_28 : decode cX4_spread 28 = .ok (.getfield 32, 3) := by decide +kernel
theorem dX4_spread_31 : decode cX4_spread 31 = .ok (.iload 4, 2) := by decide +kernel
theorem dX4_spread_33 : decode cX4_spread 33 = .ok (.invokevirtual 78, 3) := by decide +kernel
theorem dX4_spread_36 : decode cX4_spread 36 = .ok (.aload_n 0, 1) := by decide +kernel
theorem dX4_spread_37 : decode cX4_spread 37 = .ok (.aload_n 0, 1) := by decide +kernel
theorem dX4_spread_38 : decode cX4_spread 38 = .ok (.iload_n 1, 1) := by decide +kernel
theorem dX4_spread_39 : decode cX4_spread 39 = .ok (.invokevirtual 82, 3) := by decide +kernel
theorem dX4_spread_42 : decode cX4_spread 42 = .ok (.aload_n 0, 1) := by decide +kernel
theorem dX4_spread_43 : decode cX4_spread 43 = .ok (.getfield 18, 3) := by decide +kernel
theorem dX4_spread_46 : decode cX4_spread 46 = .ok (.iload_n 1, 1) := by decide +kernel
theorem dX4_spread_47 : decode cX4_spread 47 = .ok (.iaload, 1) := by decide +kernel
theorem dX4_spread_48 : decode cX4_spread 48 = .ok (.iconst 1, 1) := by decide +kernel
theorem dX4_spread_49 : decode cX4_spread 49 = .ok (.iadd, 1) := by decide +kernel
theorem dX4_spread_50 : decode cX4_spread 50 = .ok (.invokevirtual 111, 3) := by decide +kernel
theorem dX4_spread_53 : decode cX4_spread 53 = .ok (.aload_n 0, 1) := by decide +kernel
theorem dX4_spread_54 : decode cX4_spread 54 = .ok (.getfield 32, 3) := by decide +kernel
theorem dX4_spread_57 : decode cX4_spread 57 = .ok (.invokevirtual 89, 3) := by decide +kernel
theorem dX4_spread_60 : decode cX4_spread 60 = .ok (.istore 4, 2) := by decide +kernel
theorem dX4_spread_62 : decode cX4_spread 62 = .ok (.iinc 5 1, 3) := by decide +kernel
theorem dX4_spread_65 : decode cX4_spread 65 = .ok (.goto (-44), 3) := by decide +kernel
theorem dX4_spread_68 : decode cX4_spread 68 = .ok (.return_, 1) := by decide +kernel
theorem ML_X4_78 : MLk RX4 78 yX5_go := Or.inl ml_X4_78
theorem ML_X4_82 : MLk RX4 82 yX4_stateBehind := Or.inl ml_X4_82
theorem MV_X4_stateBehind : MVk K_X4_stateBehind 1 4 := ⟨⟨cd_X4_stateBehind, in_X4, ⟨by decide, by decide, by decide +kernel⟩, by decide⟩, im_X4_stateBehind, se_X4_stateBehind, _, _, rfl⟩
theorem ML_X4_111 : MLk RX4 111 yX4_reach := Or.inl ml_X4_111
theorem MV_X4_reach : MVk K_X4_reach 2 4 := ⟨⟨cd_X4_reach, in_X4, ⟨by decide, by decide, by decide +kernel⟩, by decide⟩, im_X4_reach, se_X4_reach, _, _, rfl⟩
theorem ML_X4_89 : MLk RX4 89 yX5_advance := Or.inl ml_X4_89
theorem MV_X5_advance : MVk K_X5_advance 0 5 := ⟨⟨cd_X5_advance, in_X5, ⟨by decide, by decide, by decide +kernel⟩, by decide⟩, im_X5_advance, se_X5_advance, _, _, rfl⟩
theorem ML_X4_118 : MLk RX4 118 yX4_pairsFor := Or.inl ml_X4_118
theorem MV_X4_pairsFor : MVk K_X4_pairsFor 2 4 := ⟨⟨cd_X4_pairsFor, in_X4, ⟨by decide, by decide, by decide +kernel⟩, by decide⟩, im_X4_pairsFor, se_X4_pairsFor, _, _, rfl⟩
theorem ML_X4_73 : MLk RX4 73 yX5_first := Or.inl ml_X4_73
theorem MV_X5_first : MVk K_X5_first 2 5 := ⟨⟨cd_X5_first, in_X5, ⟨by decide, by decide, by decide +kernel⟩, by decide⟩, im_X5_first, se_X5_first, _, _, rfl⟩
def f_X4_spread_21 : Nat → Nat → Int32 → Int32 → Int32 → Int32 → AH → Option AH
  | 0, _, _, _, _, _, _ => none
  | n + 1, k0, x1, x3, x4, x5, h =>
    if x3 ≤ x5 then (
      some h
    ) else (
      ov (f_X5_go (rf k0 2) x4 h) fun h_3 =>
      ob (f_X4_stateBehind k0 x1 h_3) fun r_6 h_5 =>
      og (ix x1 (an (rf k0 6))) <|
      ov (f_X4_reach k0 r_6 ((h_5.1 (rf k0 6) x1.toNatClampNeg) + 1) h_5) fun h_9 =>
      ob (f_X5_advance (rf k0 2) h_9) fun r_12 h_11 =>
      nm (x5 + 1) fun x5_13 =>
      f_X4_spread_21 n k0 x1 x3 r_12 x5_13 h_11
    )
def f_X4_spread (k0 : Nat) (x1 : Int32) (x2 : Int32) (h : AH) : Option AH :=
  ob (f_X4_pairsFor k0 x1 x2 h) fun r_3 h_2 =>
  ob (f_X5_first (rf k0 2) r_3 x2 h_2) fun r_6 h_5 =>
  f_X4_spread_21 FU k0 x1 r_6 0 0 h_5
set_option maxHeartbeats 4000000 in
set_option maxRecDepth 100000 in
theorem v_X4_spread_21 {E : EV} {d : Nat} (hd : 5 ≤ d) {h0 : AH} : ∀ (n : Nat) (k0 : Nat) (x1 : Int32) (x3 : Int32) (x4 : Int32) (x5 : Int32) (h : AH), f_X4_spread_21 n k0 x1 x3 x4 x5 h = some h0 → kd k0 = (0, 4) → V E (d + 1) K_X4_spread (ZV E h0) h [(0, .ref k0), (1, .int x1), (3, .int x3), (4, .int x4), (5, .int x5)] [] 21 := by
  intro n
  induction n with
  | zero =>
    intro k0 x1 x3 x4 x5 h hf
    rw [f_X4_spread_21] at hf
    cases hf
  | succ n ih =>
    intro k0 x1 x3 x4 x5 h hf t_k0
    rw [f_X4_spread_21] at hf
    refine V_iload 4 dX4_spread_21 rfl ?_
    refine V_iload_n 2 dX4_spread_23 rfl rfl ?_
    refine V_ic_ge (tgt := 68) dX4_spread_24 (by decide) (fun c_1 => ?_) (fun c_1 => ?_)
    · have hf := it_s c_1 hf
      exact V_vret rfl (so_s hf) dX4_spread_68
    · have hf := if_s c_1 hf
      refine V_aload_n 0 dX4_spread_27 rfl rfl ?_
      refine V_getR F_X4_32 rfl t_k0 rfl dX4_spread_28 ?_
      refine V_iload 3 dX4_spread_31 rfl ?_
      obtain ⟨h_3, e_2, hf⟩ := ov_s hf
      refine V_cvv (As := [.int x4]) (rest := []) (c_X5_go (d := d) (Nat.le_trans (Nat.le_of_ble_eq_true rfl) hd) e_2 (rfO t_k0 (Nat.le_of_ble_eq_true rfl) rfl rfl)) ML_X4_78 MV_X5_go rfl (rfO t_k0 (Nat.le_of_ble_eq_true rfl) rfl rfl) rfl rfl (Nat.le_of_ble_eq_true rfl) dX4_spread_33 ?_
      refine V_aload_n 0 dX4_spread_36 rfl rfl ?_
      refine V_aload_n 0 dX4_spread_37 rfl rfl ?_
      refine V_iload_n 1 dX4_spread_38 rfl rfl ?_
      obtain ⟨r_6, h_5, e_4, hf⟩ := ob_s hf
      refine V_cvi (As := [.int x1]) (rest := [.ref k0]) (c_X4_stateBehind (d := d) (Nat.le_trans (Nat.le_of_ble_eq_true rfl) hd) e_4 t_k0) ML_X4_82 MV_X4_stateBehind rfl t_k0 rfl rfl (Nat.le_of_ble_eq_true rfl) dX4_spread_39 ?_
      refine V_aload_n 0 dX4_spread_42 rfl rfl ?_
      refine V_getR F_X4_18 rfl t_k0 rfl dX4_spread_43 ?_
      refine V_iload_n 1 dX4_spread_46 rfl rfl ?_
      obtain ⟨b_7, hf⟩ := og_s hf
      refine V_iald (rfA t_k0 (Nat.le_of_ble_eq_true rfl) rfl rfl (by decide)) b_7 dX4_spread_47 ?_
      refine V_iconst (v := 1) dX4_spread_48 (by decide) ?_
      refine V_iadd dX4_spread_49 ?_
      obtain ⟨h_9, e_8, hf⟩ := ov_s hf
      refine V_cvv (As := [.int r_6, .int ((h_5.1 (rf k0 6) x1.toNatClampNeg) + 1)]) (rest := []) (c_X4_reach (d := d) (Nat.le_trans (Nat.le_of_ble_eq_true rfl) hd) e_8 t_k0) ML_X4_111 MV_X4_reach rfl t_k0 rfl rfl (Nat.le_of_ble_eq_true rfl) dX4_spread_50 ?_
      refine V_aload_n 0 dX4_spread_53 rfl rfl ?_
      refine V_getR F_X4_32 rfl t_k0 rfl dX4_spread_54 ?_
      obtain ⟨r_12, h_11, e_10, hf⟩ := ob_s hf
      refine V_cvi (As := []) (rest := []) (c_X5_advance (d := d) (Nat.le_trans (Nat.le_of_ble_eq_true rfl) hd) e_10 (rfO t_k0 (Nat.le_of_ble_eq_true rfl) rfl rfl)) ML_X4_89 MV_X5_advance rfl (rfO t_k0 (Nat.le_of_ble_eq_true rfl) rfl rfl) rfl rfl (Nat.le_of_ble_eq_true rfl) dX4_spread_57 ?_
      refine V_istore (L' := [(4, .int r_12), (0, .ref k0), (1, .int x1), (3, .int x3), (5, .int x5)]) dX4_spread_60 (Nat.le_of_ble_eq_true rfl) rfl rfl ?_
      obtain ⟨x5_13, e_14, hf⟩ := nm_s hf
      refine V_iinc (a := 1) (L' := [(5, .int x5_13), (4, .int r_12), (0, .ref k0), (1, .int x1), (3, .int x3)]) 4 dX4_spread_62 rfl (by decide) (Nat.le_of_ble_eq_true rfl) e_14 rfl ?_
      refine V_goto (tgt := 21) dX4_spread_65 (by decide) ?_
      refine V_sub [2, 3, 4, 1, 0] rfl ?_
      exact ih _ _ _ _ _ _ hf t_k0
set_option maxHeartbeats 4000000 in
set_option maxRecDepth 100000 in
theorem c_X4_spread {E : EV} {d : Nat} (hd : 5 + 1 ≤ d) {k0 : Nat} {x1 : Int32} {x2 : Int32} {h : AH} {h0 : AH} (hf : f_X4_spread k0 x1 x2 h = some h0) (t_k0 : kd k0 = (0, 4)) : Con E d K_X4_spread (ZV E h0) [.ref k0, .int x1, .int x2] h := by
  obtain ⟨d, rfl⟩ : ∃ d', d = d' + 1 := ⟨d - 1, by omega⟩
  have hd := Nat.le_of_succ_le_succ hd
  refine Con.ofV rfl (Nat.le_of_ble_eq_true rfl) ?_
  unfold f_X4_spread at hf
  show V E (d + 1) K_X4_spread (ZV E h0) h [(0, .ref k0), (1, .int x1), (2, .int x2)] [] 0
  refine V_aload_n 0 dX4_spread_0 rfl rfl ?_
  refine V_getR F_X4_32 rfl t_k0 rfl dX4_spread_1 ?_
  refine V_aload_n 0 dX4_spread_4 rfl rfl ?_
  refine V_iload_n 1 dX4_spread_5 rfl rfl ?_
  refine V_iload_n 2 dX4_spread_6 rfl rfl ?_
  obtain ⟨r_3, h_2, e_1, hf⟩ := ob_s hf
  refine V_cvi (As := [.int x1, .int x2]) (rest := [.ref (rf k0 2)]) (c_X4_pairsFor (d := d) (Nat.le_trans (Nat.le_of_ble_eq_true rfl) hd) e_1 t_k0) ML_X4_118 MV_X4_pairsFor rfl t_k0 rfl rfl (Nat.le_of_ble_eq_true rfl) dX4_spread_7 ?_
  refine V_iload_n 2 dX4_spread_10 rfl rfl ?_
  obtain ⟨r_6, h_5, e_4, hf⟩ := ob_s hf
  refine V_cvi (As := [.int r_3, .int x2]) (rest := []) (c_X5_first (d := d) (Nat.le_trans (Nat.le_of_ble_eq_true rfl) hd) e_4 (rfO t_k0 (Nat.le_of_ble_eq_true rfl) rfl rfl)) ML_X4_73 MV_X5_first rfl (rfO t_k0 (Nat.le_of_ble_eq_true rfl) rfl rfl) rfl rfl (Nat.le_of_ble_eq_true rfl) dX4_spread_11 ?_
  refine V_istore_n (L' := [(3, .int r_6), (0, .ref k0), (1, .int x1), (2, .int x2)]) dX4_spread_14 rfl (Nat.le_of_ble_eq_true rfl) rfl rfl ?_
  refine V_iconst (v := 0) dX4_spread_15 (by decide) ?_
  refine V_istore (L' := [(4, .int 0), (3, .int r_6), (0, .ref k0), (1, .int x1), (2, .int x2)]) dX4_spread_16 (Nat.le_of_ble_eq_true rfl) rfl rfl ?_
  refine V_iconst (v := 0) dX4_spread_18 (by decide) ?_
  refine V_istore (L' := [(5, .int 0), (4, .int 0), (3, .int r_6), (0, .ref k0), (1, .int x1), (2, .int x2)]) dX4_spread_19 (Nat.le_of_ble_eq_true rfl) rfl rfl ?_
  refine V_sub [3, 4, 2, 1, 0] rfl ?_
  exact v_X4_spread_21 hd FU _ _ _ _ _ _ hf t_k0
theorem dX4_fewest_0 : decode cX4_fewest 0 = .ok (.aload_n 0, 1) := by decide +kernel
theorem dX4_fewest_1 : decode cX4_fewest 1 = .ok (.getfield 18, 3) := by decide +kernel
theorem dX4_fewest_4 : decode cX4_fewest 4 = .ok (.iconst (-1), 1) := by decide +kernel
theorem dX4_fewest_5 : decode cX4_fewest 5 = .ok (.invokestatic 99, 3) := by decide +kernel
theorem dX4_fewest_8 : decode cX4_fewest 8 = .ok (.aload_n 0, 1) := by decide +kernel
theorem dX4_fewest_9 : decode cX4_fewest 9 = .ok (.iconst 0, 1) := by decide +kernel
theorem dX4_fewest_10 : decode cX4_fewest 10 = .ok (.putfield 105, 3) := by decide +kernel
theorem dX4_fewest_13 : decode cX4_fewest 13 = .ok (.aload_n 0, 1) := by decide +kernel
theorem dX4_fewest_14 : decode cX4_fewest 14 = .ok (.aload_n 0, 1) := by decide +kernel
theorem dX4_fewest_15 : decode cX4_fewest 15 = .ok (.invokevirtual 108, 3) := by decide +kernel
theorem dX4_fewest_18 : decode cX4_fewest 18 = .ok (.iconst 0, 1) := by decide +kernel
theorem dX4_fewest_19 : decode cX4_fewest 19 = .ok (.invokevirtual 111, 3) := by decide +kernel
theorem dX4_fewest_22 : decode cX4_fewest 22 = .ok (.iconst 0, 1) := by decide +kernel
theorem dX4_fewest_23 : decode cX4_fewest 23 = .ok (.istore_n 3, 1) := by decide +kernel
theorem dX4_fewest_24 : decode cX4_fewest 24 = .ok (.iload_n 3, 1) := by decide +kernel
theorem dX4_fewest_25 : decode cX4_fewest 25 = .ok (.sipush 625, 3) := by decide +kernel
theorem dX4_fewest_28 : decode cX4_fewest 28 = .ok (.if_icmp .ge 74, 3) := by decide +kernel
theorem dX4_fewest_31 : decode cX4_fewest 31 = .ok (.iload_n 3, 1) := by decide +kernel
theorem dX4_fewest_32 : decode cX4_fewest 32 = .ok (.aload_n 0, 1) := by decide +kernel
theorem dX4_fewest_33 : decode cX4_fewest 33 = .ok (.getfield 105, 3) := by decide +kernel
theorem dX4_fewest_36 : decode cX4_fewest 36 = .ok (.if_icmp .ge 66, 3) := by decide +kernel
theorem dX4_fewest_39 : decode cX4_fewest 39 = .ok (.aload_n 0, 1) := by decide +kernel
theorem dX4_fewest_40 : decode cX4_fewest 40 = .ok (.getfield 21, 3) := by decide +kernel
theorem dX4_fewest_43 : decode cX4_fewest 43 = .ok (.iload_n 3, 1) := by decide +kernel
theorem dX4_fewest_44 : decode cX4_fewest 44 = .ok (.iaload, 1) := by decide +kernel
theorem dX4_fewest_45 : decode cX4_fewest 45 = .ok (.istore 4, 2) := by decide +kernel
theorem dX4_fewest_47 : decode cX4_fewest 47 = .ok (.iload 4, 2) := by decide +kernel
theorem dX4_fewest_49 : decode cX4_fewest 49 = .ok (.iload_n 1, 1) := by decide +kernel
theorem dX4_fewest_50 : decode cX4_fewest 50 = .ok (.invokestatic 67, 3) := by decide +kernel
theorem dX4_fewest_53 : decode cX4_fewest 53 = .ok (.iload_n 2, 1) := by decide +kernel
theorem dX4_fewest_54 : decode cX4_fewest 54 = .ok (.if_icmp .ne 11, 3) := by decide +kernel
theorem dX4_fewest_57 : decode cX4_fewest 57 = .ok (.aload_n 0, 1) := by decide +kernel
theorem dX4_fewest_58 : decode cX4_fewest 58 = .ok (.getfield 18, 3) := by decide +kernel
theorem dX4_fewest_61 : decode cX4_fewest 61 = .ok (.iload 4, 2) := by decide +kernel
theorem dX4_fewest_63 : decode cX4_fewest 63 = .ok (.iaload, 1) := by decide +kernel
theorem dX4_fewest_64 : decode cX4_fewest 64 = .ok (.ireturn, 1) := by decide +kernel
theorem dX4_fewest_65 : decode cX4_fewest 65 = .ok (.iconst 1, 1) := by decide +kernel
theorem dX4_fewest_66 : decode cX4_fewest 66 = .ok (.istore 5, 2) := by decide +kernel
theorem dX4_fewest_68 : decode cX4_fewest 68 = .ok (.iload 5, 2) := by decide +kernel
theorem dX4_fewest_70 : decode cX4_fewest 70 = .ok (.iconst 1, 1) := by decide +kernel
theorem dX4_fewest_71 : decode cX4_fewest 71 = .ok (.aload_n 0, 1) := by decide +kernel
theorem dX4_fewest_72 : decode cX4_fewest 72 = .ok (.getfield 24, 3) := by decide +kernel
theorem dX4_fewest_75 : decode cX4_fewest 75 = .ok (.getfield 39, 3) := by decide +kernel
theorem dX4_fewest_78 : decode cX4_fewest 78 = .ok (.ishl, 1) := by decide +kernel
theorem dX4_fewest_79 : decode cX4_fewest 79 = .ok (.if_icmp .ge 17, 3) := by decide +kernel
theorem dX4_fewest_82 : decode cX4_fewest 82 = .ok (.aload_n 0, 1) := by decide +kernel
theorem dX4_fewest_83 : decode cX4_fewest 83 = .ok (.iload 4, 2) := by decide +kernel
theorem dX4_fewest_85 : decode cX4_fewest 85 = .ok (.iload 5, 2) := by decide +kernel
theorem dX4_fewest_87 : decode cX4_fewest 87 = .ok (.invokevirtual 115, 3) := by decide +kernel
theorem dX4_fewest_90 : decode cX4_fewest 90 = .ok (.iinc 5 1, 3) := by decide +kernel
theorem dX4_fewest_93 : decode cX4_fewest 93 = .ok (.goto (-25), 3) := by decide +kernel
theorem dX4_fewest_96 : decode cX4_fewest 96 = .ok (.iinc 3 1, 3) := by decide +kernel
theorem dX4_fewest_99 : decode cX4_fewest 99 = .ok (.goto (-75), 3) := by decide +kernel
theorem dX4_fewest_102 : decode cX4_fewest 102 = .ok (.iconst (-1), 1) := by decide +kernel
theorem dX4_fewest_103 : decode cX4_fewest 103 = .ok (.ireturn, 1) := by decide +kernel
theorem ML_X4_115 : MLk RX4 115 yX4_spread := Or.inl ml_X4_115
theorem MV_X4_spread : MVk K_X4_spread 2 4 := ⟨⟨cd_X4_spread, in_X4, ⟨by decide, by decide, by decide +kernel⟩, by decide⟩, im_X4_spread, se_X4_spread, _, _, rfl⟩
theorem ML_X4_99 : MLk RX4 99 yJ7_fill_53178 := Or.inl ml_X4_99
theorem ML_X4_108 : MLk RX4 108 yX4_stateNow := Or.inl ml_X4_108
theorem MV_X4_stateNow : MVk K_X4_stateNow 0 4 := ⟨⟨cd_X4_stateNow, in_X4, ⟨by decide, by decide, by decide +kernel⟩, by decide⟩, im_X4_stateNow, se_X4_stateNow, _, _, rfl⟩
def f_X4_fewest_68 (q24 : Nat → Int32 → Int32 → Int32 → AH → Option (Int32 × AH)) : Nat → Nat → Int32 → Int32 → Int32 → Int32 → Int32 → AH → Option (Int32 × AH)
  | 0, _, _, _, _, _, _, _ => none
  | n + 1, k0, x1, x2, x3, x4, x5, h =>
    if ((1 : Int32) <<< ((h.1 (rf k0 0) 2) &&& 31)) ≤ x5 then (
      nm (x3 + 1) fun x3_2 =>
      q24 k0 x1 x2 x3_2 h
    ) else (
      ov (f_X4_spread k0 x4 x5 h) fun h_5 =>
      nm (x5 + 1) fun x5_6 =>
      f_X4_fewest_68 q24 n k0 x1 x2 x3 x4 x5_6 h_5
    )
def f_X4_fewest_102  (h : AH) : Option (Int32 × AH) :=
  some ((-1), h)
def f_X4_fewest_24 : Nat → Nat → Int32 → Int32 → Int32 → AH → Option (Int32 × AH)
  | 0, _, _, _, _, _ => none
  | n + 1, k0, x1, x2, x3, h =>
    if 625 ≤ x3 then (
      f_X4_fewest_102 h
    ) else (
      if (h.1 k0 8) ≤ x3 then (
        f_X4_fewest_102 h
      ) else (
        og (ix x3 (an (rf k0 7))) <|
        nm ((h.1 (rf k0 7) x3.toNatClampNeg)) fun x4_4 =>
        ob (f_X4_pairIn x4_4 x1 h) fun r_8 h_7 =>
        if r_8 = x2 then (
          og (ix x4_4 (an (rf k0 6))) <|
          some ((h_7.1 (rf k0 6) x4_4.toNatClampNeg), h_7)
        ) else (
          f_X4_fewest_68 (f_X4_fewest_24 n) FU k0 x1 x2 x3 x4_4 1 h_7
        )
      )
    )
def f_X4_fewest (k0 : Nat) (x1 : Int32) (x2 : Int32) (h : AH) : Option (Int32 × AH) :=
  ov (f_J7_fill_53178 (rf k0 6) (-1) h) fun h_2 =>
  nm (sI h_2 k0 8 0) fun h_3 =>
  ob (f_X4_stateNow k0 h_3) fun r_7 h_6 =>
  ov (f_X4_reach k0 r_7 0 h_6) fun h_9 =>
  f_X4_fewest_24 FU k0 x1 x2 0 h_9
set_option maxHeartbeats 4000000 in
set_option maxRecDepth 100000 in
theorem v_X4_fewest_68 {E : EV} {d : Nat} (hd : 6 ≤ d) {r0 : Int32} {h0 : AH} {q24 : Nat → Int32 → Int32 → Int32 → AH → Option (Int32 × AH)} (cq24 : ∀ (k0 : Nat) (x1 : Int32) (x2 : Int32) (x3 : Int32) (h : AH), q24 k0 x1 x2 x3 h = some (r0, h0) → kd k0 = (0, 4) → V E (d + 1) K_X4_fewest (ZI E r0 h0) h [(0, .ref k0), (1, .int x1), (2, .int x2), (3, .int x3)] [] 24) : ∀ (n : Nat) (k0 : Nat) (x1 : Int32) (x2 : Int32) (x3 : Int32) (x4 : Int32) (x5 : Int32) (h : AH), f_X4_fewest_68 q24 n k0 x1 x2 x3 x4 x5 h = some (r0, h0) → kd k0 = (0, 4) → V E (d + 1) K_X4_fewest (ZI E r0 h0) h [(0, .ref k0), (1, .int x1), (2, .int x2), (3, .int x3), (4, .int x4), (5, .int x5)] [] 68 := by
  intro n
  induction n with
  | zero =>
    intro k0 x1 x2 x3 x4 x5 h hf
    rw [f_X4_fewest_68] at hf
    cases hf
  | succ n ih =>
    intro k0 x1 x2 x3 x4 x5 h hf t_k0
    rw [f_X4_fewest_68] at hf
    refine V_iload 5 dX4_fewest_68 rfl ?_
    refine V_iconst (v := 1) dX4_fewest_70 (by decide) ?_
    refine V_aload_n 0 dX4_fewest_71 rfl rfl ?_
    refine V_getR F_X4_24 rfl t_k0 rfl dX4_fewest_72 ?_
    refine V_getI F_X4_39 rfl (rfO t_k0 (Nat.le_of_ble_eq_true rfl) rfl rfl) rfl dX4_fewest_75 ?_
    refine V_ishl dX4_fewest_78 ?_
    refine V_ic_ge (tgt := 96) dX4_fewest_79 (by decide) (fun c_1 => ?_) (fun c_1 => ?_)
    · have hf := it_s c_1 hf
      obtain ⟨x3_2, e_3, hf⟩ := nm_s hf
      refine V_iinc (a := 1) (L' := [(3, .int x3_2), (0, .ref k0), (1, .int x1), (2, .int x2), (4, .int x4), (5, .int x5)]) 3 dX4_fewest_96 rfl (by decide) (Nat.le_of_ble_eq_true rfl) e_3 rfl ?_
      refine V_goto (tgt := 24) dX4_fewest_99 (by decide) ?_
      refine V_sub [1, 2, 3, 0] rfl ?_
      exact cq24 _ _ _ _ _ hf t_k0
    · have hf := if_s c_1 hf
      refine V_aload_n 0 dX4_fewest_82 rfl rfl ?_
      refine V_iload 4 dX4_fewest_83 rfl ?_
      refine V_iload 5 dX4_fewest_85 rfl ?_
      obtain ⟨h_5, e_4, hf⟩ := ov_s hf
      refine V_cvv (As := [.int x4, .int x5]) (rest := []) (c_X4_spread (d := d) (Nat.le_trans (Nat.le_of_ble_eq_true rfl) hd) e_4 t_k0) ML_X4_115 MV_X4_spread rfl t_k0 rfl rfl (Nat.le_of_ble_eq_true rfl) dX4_fewest_87 ?_
      obtain ⟨x5_6, e_7, hf⟩ := nm_s hf
      refine V_iinc (a := 1) (L' := [(5, .int x5_6), (0, .ref k0), (1, .int x1), (2, .int x2), (3, .int x3), (4, .int x4)]) 5 dX4_fewest_90 rfl (by decide) (Nat.le_of_ble_eq_true rfl) e_7 rfl ?_
      refine V_goto (tgt := 68) dX4_fewest_93 (by decide) ?_
      refine V_sub [1, 2, 3, 4, 5, 0] rfl ?_
      exact ih _ _ _ _ _ _ _ hf t_k0
set_option maxHeartbeats 4000000 in
set_option maxRecDepth 100000 in
theorem v_X4_fewest_102 {E : EV} {d : Nat} (hd : 6 ≤ d) {r0 : Int32} {h0 : AH}  {h : AH} (hf : f_X4_fewest_102 h = some (r0, h0)) : V E (d + 1) K_X4_fewest (ZI E r0 h0) h [] [] 102 := by
  unfold f_X4_fewest_102 at hf
  refine V_iconst (v := (-1)) dX4_fewest_102 (by decide) ?_
  exact V_iret rfl (so_s hf) dX4_fewest_103
set_option maxHeartbeats 4000000 in
set_option maxRecDepth 100000 in
theorem v_X4_fewest_24 {E : EV} {d : Nat} (hd : 6 ≤ d) {r0 : Int32} {h0 : AH} : ∀ (n : Nat) (k0 : Nat) (x1 : Int32) (x2 : Int32) (x3 : Int32) (h : AH), f_X4_fewest_24 n k0 x1 x2 x3 h = some (r0, h0) → kd k0 = (0, 4) → V E (d + 1) K_X4_fewest (ZI E r0 h0) h [(0, .ref k0), (1, .int x1), (2, .int x2), (3, .int x3)] [] 24 := by
  intro n
  induction n with
  | zero =>
    intro k0 x1 x2 x3 h hf
    rw [f_X4_fewest_24] at hf
    cases hf
  | succ n ih =>
    intro k0 x1 x2 x3 h hf t_k0
    rw [f_X4_fewest_24] at hf
    refine V_iload_n 3 dX4_fewest_24 rfl rfl ?_
    refine V_sipush (v := 625) dX4_fewest_25 (by decide) ?_
    refine V_ic_ge (tgt := 102) dX4_fewest_28 (by decide) (fun c_1 => ?_) (fun c_1 => ?_)
    · have hf := it_s c_1 hf
      refine V_sub [] rfl ?_
      exact v_X4_fewest_102 hd hf
    · have hf := if_s c_1 hf
      refine V_iload_n 3 dX4_fewest_31 rfl rfl ?_
      refine V_aload_n 0 dX4_fewest_32 rfl rfl ?_
      refine V_getI F_X4_105 rfl t_k0 rfl dX4_fewest_33 ?_
      refine V_ic_ge (tgt := 102) dX4_fewest_36 (by decide) (fun c_2 => ?_) (fun c_2 => ?_)
      · have hf := it_s c_2 hf
        refine V_sub [] rfl ?_
        exact v_X4_fewest_102 hd hf
      · have hf := if_s c_2 hf
        refine V_aload_n 0 dX4_fewest_39 rfl rfl ?_
        refine V_getR F_X4_21 rfl t_k0 rfl dX4_fewest_40 ?_
        refine V_iload_n 3 dX4_fewest_43 rfl rfl ?_
        obtain ⟨b_3, hf⟩ := og_s hf
        refine V_iald (rfA t_k0 (Nat.le_of_ble_eq_true rfl) rfl rfl (by decide)) b_3 dX4_fewest_44 ?_
        obtain ⟨x4_4, e_5, hf⟩ := nm_s hf
        refine V_istore (L' := [(4, .int x4_4), (0, .ref k0), (1, .int x1), (2, .int x2), (3, .int x3)]) dX4_fewest_45 (Nat.le_of_ble_eq_true rfl) e_5 rfl ?_
        refine V_iload 0 dX4_fewest_47 rfl ?_
        refine V_iload_n 2 dX4_fewest_49 rfl rfl ?_
        obtain ⟨r_8, h_7, e_6, hf⟩ := ob_s hf
        refine V_csi (As := [.int x4_4, .int x1]) (rest := []) (c_X4_pairIn (d := d) (Nat.le_trans (Nat.le_of_ble_eq_true rfl) hd) e_6) ML_X4_67 MS_X4_pairIn rfl rfl rfl (Nat.le_of_ble_eq_true rfl) dX4_fewest_50 ?_
        refine V_iload_n 3 dX4_fewest_53 rfl rfl ?_
        refine V_ic_ne (tgt := 65) dX4_fewest_54 (by decide) (fun c_9 => ?_) (fun c_9 => ?_)
        · have hf := if_s c_9 hf
          refine V_iconst (v := 1) dX4_fewest_65 (by decide) ?_
          refine V_istore (L' := [(5, .int 1), (4, .int x4_4), (0, .ref k0), (1, .int x1), (2, .int x2), (3, .int x3)]) dX4_fewest_66 (Nat.le_of_ble_eq_true rfl) rfl rfl ?_
          refine V_sub [2, 3, 4, 5, 1, 0] rfl ?_
          exact v_X4_fewest_68 hd ih FU _ _ _ _ _ _ _ hf t_k0
        · have hf := it_s c_9 hf
          refine V_aload_n 1 dX4_fewest_57 rfl rfl ?_
          refine V_getR F_X4_18 rfl t_k0 rfl dX4_fewest_58 ?_
          refine V_iload 0 dX4_fewest_61 rfl ?_
          obtain ⟨b_10, hf⟩ := og_s hf
          refine V_iald (rfA t_k0 (Nat.le_of_ble_eq_true rfl) rfl rfl (by decide)) b_10 dX4_fewest_63 ?_
          exact V_iret rfl (so_s hf) dX4_fewest_64
set_option maxHeartbeats 4000000 in
set_option maxRecDepth 100000 in
theorem c_X4_fewest {E : EV} {d : Nat} (hd : 6 + 1 ≤ d) {k0 : Nat} {x1 : Int32} {x2 : Int32} {h : AH} {r0 : Int32} {h0 : AH} (hf : f_X4_fewest k0 x1 x2 h = some (r0, h0)) (t_k0 : kd k0 = (0, 4)) : Con E d K_X4_fewest (ZI E r0 h0) [.ref k0, .int x1, .int x2] h := by
  obtain ⟨d, rfl⟩ : ∃ d', d = d' + 1 := ⟨d - 1, by omega⟩
  have hd := Nat.le_of_succ_le_succ hd
  refine Con.ofV rfl (Nat.le_of_ble_eq_true rfl) ?_
  unfold f_X4_fewest at hf
  show V E (d + 1) K_X4_fewest (ZI E r0 h0) h [(0, .ref k0), (1, .int x1), (2, .int x2)] [] 0
  refine V_aload_n 0 dX4_fewest_0 rfl rfl ?_
  refine V_getR F_X4_18 rfl t_k0 rfl dX4_fewest_1 ?_
  refine V_iconst (v := (-1)) dX4_fewest_4 (by decide) ?_
  obtain ⟨h_2, e_1, hf⟩ := ov_s hf
  refine V_csv (As := [.ref (rf k0 6), .int (-1)]) (rest := []) (c_J7_fill_53178 (d := d) (Nat.le_trans (Nat.le_of_ble_eq_true rfl) hd) e_1 (rfA t_k0 (Nat.le_of_ble_eq_true rfl) rfl rfl (by decide))) ML_X4_99 MS_J7_fill_53178 rfl rfl rfl (Nat.le_of_ble_eq_true rfl) dX4_fewest_5 ?_
  refine V_aload_n 0 dX4_fewest_8 rfl rfl ?_
  refine V_iconst (v := 0) dX4_fewest_9 (by decide) ?_
  obtain ⟨h_3, e_4, hf⟩ := nm_s hf
  refine V_putI P_X4_105 rfl t_k0 rfl e_4 dX4_fewest_10 ?_
  refine V_aload_n 0 dX4_fewest_13 rfl rfl ?_
  refine V_aload_n 0 dX4_fewest_14 rfl rfl ?_
  obtain ⟨r_7, h_6, e_5, hf⟩ := ob_s hf
  refine V_cvi (As := []) (rest := [.ref k0]) (c_X4_stateNow (d := d) (Nat.le_trans (Nat.le_of_ble_eq_true rfl) hd) e_5 t_k0) ML_X4_108 MV_X4_stateNow rfl t_k0 rfl rfl (Nat.le_of_ble_eq_true rfl) dX4_fewest_15 ?_
  refine V_iconst (v := 0) dX4_fewest_18 (by decide) ?_
  obtain ⟨h_9, e_8, hf⟩ := ov_s hf
  refine V_cvv (As := [.int r_7, .int 0]) (rest := []) (c_X4_reach (d := d) (Nat.le_trans (Nat.le_of_ble_eq_true rfl) hd) e_8 t_k0) ML_X4_111 MV_X4_reach rfl t_k0 rfl rfl (Nat.le_of_ble_eq_true rfl) dX4_fewest_19 ?_
  refine V_iconst (v := 0) dX4_fewest_22 (by decide) ?_
  refine V_istore_n (L' := [(3, .int 0), (0, .ref k0), (1, .int x1), (2, .int x2)]) dX4_fewest_23 rfl (Nat.le_of_ble_eq_true rfl) rfl rfl ?_
  refine V_sub [1, 2, 3, 0] rfl ?_
  exact v_X4_fewest_24 hd FU _ _ _ _ _ hf t_k0
theorem dX11_bring_0 : decode cX11_bring 0 = .ok (.aload_n 0, 1) := by decide +kernel
theorem dX11_bring_1 : decode cX11_bring 1 = .ok (.iload_n 1, 1) := by decide +kernel
theorem dX11_bring_2 : decode cX11_bring 2 = .ok (.invokevirtual 151, 3) := by decide +kernel
theorem dX11_bring_5 : decode cX11_bring 5 = .ok (.ifCond .eq 22, 3) := by decide +kernel
theorem dX11_bring_8 : decode cX11_bring 8 = .ok (.aload_n 0, 1) := by decide +kernel
theorem dX11_bring_9 : decode cX11_bring 9 = .ok (.iload_n 2, 1) := by decide +kernel
theorem dX11_bring_10 : decode cX11_bring 10 = .ok (.invokevirtual 151, 3) := by decide +kernel
theorem dX11_bring_13 : decode cX11_bring 13 = .ok (.ifCond .eq 14, 3) := by decide +kernel
theorem dX11_bring_16 : decode cX11_bring 16 = .ok (.aload_n 0, 1) := by decide +kernel
theorem dX11_bring_17 : decode cX11_bring 17 = .ok (.getfield 19, 3) := by decide +kernel
theorem dX11_bring_20 : decode cX11_bring 20 = .ok (.getfield 144, 3) := by decide +kernel
theorem dX11_bring_23 : decode cX11_bring 23 = .ok (.iconst 4, 1) := by decide +kernel
theorem dX11_bring_24 : decode cX11_bring 24 = .ok (.if_icmp .le 5, 3) := by decide +kernel
theorem dX11_bring_27 : decode cX11_bring 27 = .ok (.iconst (-1), 1) := by decide +kernel
theorem dX11_bring_28 : decode cX11_bring 28 = .ok (.ireturn, 1) := by decide +kernel
theorem dX11_bring_29 : decode cX11_bring 29 = .ok (.aload_n 0, 1) := by decide +kernel
theorem dX11_bring_30 : decode cX11_bring 30 = .ok (.getfield 64, 3) := by decide +kernel
theorem dX11_bring_33 : decode cX11_bring 33 = .ok (.aload_n 0, 1) := by decide +kernel
theorem dX11_bring_34 : decode cX11_bring 34 = .ok (.getfield 45, 3) := by decide +kernel
theorem dX11_bring_37 : decode cX11_bring 37 = .ok (.invokevirtual 211, 3) := by decide +kernel
theorem dX11_bring_40 : decode cX11_bring 40 = .ok (.aload_n 0, 1) := by decide +kernel
theorem dX11_bring_41 : decode cX11_bring 41 = .ok (.getfield 98, 3) := by decide +kernel
theorem dX11_bring_44 : decode cX11_bring 44 = .ok (.iload_n 1, 1) := by decide +kernel
theorem dX11_bring_45 : decode cX11_bring 45 = .ok (.iload_n 2, 1) := by decide +kernel
theorem dX11_bring_46 : decode cX11_bring 46 = .ok (.invokevirtual 346, 3) := by decide +kernel
theorem dX11_bring_49 : decode cX11_bring 49 = .ok (.ireturn, 1) := by decide +kernel
theorem F_X11_64 : FLk RX11 64 11 10 := ⟨RX11, TX11, 16, rfl, rfl, iw_X11, by decide, Or.inl fl_X11_64⟩
theorem ML_X11_211 : MLk RX11 211 yX2_open := Or.inl ml_X11_211
theorem MV_X2_open : MVk K_X2_open 1 2 := ⟨⟨cd_X2_open, in_X2, ⟨by decide, by decide, by decide +kernel⟩, by decide⟩, im_X2_open, se_X2_open, _, _, rfl⟩
theorem F_X11_98 : FLk RX11 98 11 14 := ⟨RX11, TX11, 16, rfl, rfl, iw_X11, by decide, Or.inl fl_X11_98⟩
theorem ML_X11_346 : MLk RX11 346 yX4_fewest := Or.inl ml_X11_346
theorem MV_X4_fewest : MVk K_X4_fewest 2 4 := ⟨⟨cd_X4_fewest, in_X4, ⟨by decide, by decide, by decide +kernel⟩, by decide⟩, im_X4_fewest, se_X4_fewest, _, _, rfl⟩
def f_X11_bring_27  (h : AH) : Option (Int32 × AH) :=
  some ((-1), h)
def f_X11_bring (k0 : Nat) (x1 : Int32) (x2 : Int32) (h : AH) : Option (Int32 × AH) :=
  ob (f_X11_isKnown k0 x1 h) fun r_3 h_2 =>
  if r_3 = 0 then (
    f_X11_bring_27 h_2
  ) else (
    ob (f_X11_isKnown k0 x2 h_2) fun r_7 h_6 =>
    if r_7 = 0 then (
      f_X11_bring_27 h_6
    ) else (
      if (h_6.1 (rf k0 1) 2) ≤ 4 then (
        ov (f_X2_open (rf k0 10) (rf k0 6) h_6) fun h_11 =>
        ob (f_X4_fewest (rf k0 14) x1 x2 h_11) fun r_14 h_13 =>
        some (r_14, h_13)
      ) else (
        f_X11_bring_27 h_6
      )
    )
  )
set_option maxHeartbeats 4000000 in
set_option maxRecDepth 100000 in
theorem v_X11_bring_27 {E : EV} {d : Nat} (hd : 7 ≤ d) {r0 : Int32} {h0 : AH}  {h : AH} (hf : f_X11_bring_27 h = some (r0, h0)) : V E (d + 1) K_X11_bring (ZI E r0 h0) h [] [] 27 := by
  unfold f_X11_bring_27 at hf
  refine V_iconst (v := (-1)) dX11_bring_27 (by decide) ?_
  exact V_iret rfl (so_s hf) dX11_bring_28
set_option maxHeartbeats 4000000 in
set_option maxRecDepth 100000 in
theorem c_X11_bring {E : EV} {d : Nat} (hd : 7 + 1 ≤ d) {k0 : Nat} {x1 : Int32} {x2 : Int32} {h : AH} {r0 : Int32} {h0 : AH} (hf : f_X11_bring k0 x1 x2 h = some (r0, h0)) (t_k0 : kd k0 = (0, 11)) : Con E d K_X11_bring (ZI E r0 h0) [.ref k0, .int x1, .int x2] h := by
  obtain ⟨d, rfl⟩ : ∃ d', d = d' + 1 := ⟨d - 1, by omega⟩
  have hd := Nat.le_of_succ_le_succ hd
  refine Con.ofV rfl (Nat.le_of_ble_eq_true rfl) ?_
  unfold f_X11_bring at hf
  show V E (d + 1) K_X11_bring (ZI E r0 h0) h [(0, .ref k0), (1, .int x1), (2, .int x2)] [] 0
  refine V_aload_n 0 dX11_bring_0 rfl rfl ?_
  refine V_iload_n 1 dX11_bring_1 rfl rfl ?_
  obtain ⟨r_3, h_2, e_1, hf⟩ := ob_s hf
  refine V_cvi (As := [.int x1]) (rest := []) (c_X11_isKnown (d := d) (Nat.le_trans (Nat.le_of_ble_eq_true rfl) hd) e_1 t_k0) ML_X11_151 MV_X11_isKnown rfl t_k0 rfl rfl (Nat.le_of_ble_eq_true rfl) dX11_bring_2 ?_
  refine V_if_eq (tgt := 27) dX11_bring_5 (by decide) (fun c_4 => ?_) (fun c_4 => ?_)
  · have hf := it_s c_4 hf
    refine V_sub [] rfl ?_
    exact v_X11_bring_27 hd hf
  · have hf := if_s c_4 hf
    refine V_aload_n 0 dX11_bring_8 rfl rfl ?_
    refine V_iload_n 2 dX11_bring_9 rfl rfl ?_
    obtain ⟨r_7, h_6, e_5, hf⟩ := ob_s hf
    refine V_cvi (As := [.int x2]) (rest := []) (c_X11_isKnown (d := d) (Nat.le_trans (Nat.le_of_ble_eq_true rfl) hd) e_5 t_k0) ML_X11_151 MV_X11_isKnown rfl t_k0 rfl rfl (Nat.le_of_ble_eq_true rfl) dX11_bring_10 ?_
    refine V_if_eq (tgt := 27) dX11_bring_13 (by decide) (fun c_8 => ?_) (fun c_8 => ?_)
    · have hf := it_s c_8 hf
      refine V_sub [] rfl ?_
      exact v_X11_bring_27 hd hf
    · have hf := if_s c_8 hf
      refine V_aload_n 0 dX11_bring_16 rfl rfl ?_
      refine V_getR F_X11_19 rfl t_k0 rfl dX11_bring_17 ?_
      refine V_getI F_X11_144 rfl (rfO t_k0 (Nat.le_of_ble_eq_true rfl) rfl rfl) rfl dX11_bring_20 ?_
      refine V_iconst (v := 4) dX11_bring_23 (by decide) ?_
      refine V_ic_le (tgt := 29) dX11_bring_24 (by decide) (fun c_9 => ?_) (fun c_9 => ?_)
      · have hf := it_s c_9 hf
        refine V_aload_n 0 dX11_bring_29 rfl rfl ?_
        refine V_getR F_X11_64 rfl t_k0 rfl dX11_bring_30 ?_
        refine V_aload_n 0 dX11_bring_33 rfl rfl ?_
        refine V_getR F_X11_45 rfl t_k0 rfl dX11_bring_34 ?_
        obtain ⟨h_11, e_10, hf⟩ := ov_s hf
        refine V_cvv (As := [.ref (rf k0 6)]) (rest := []) (c_X2_open (d := d) (Nat.le_trans (Nat.le_of_ble_eq_true rfl) hd) e_10 (rfO t_k0 (Nat.le_of_ble_eq_true rfl) rfl rfl) (rfO t_k0 (Nat.le_of_ble_eq_true rfl) rfl rfl)) ML_X11_211 MV_X2_open rfl (rfO t_k0 (Nat.le_of_ble_eq_true rfl) rfl rfl) rfl rfl (Nat.le_of_ble_eq_true rfl) dX11_bring_37 ?_
        refine V_aload_n 0 dX11_bring_40 rfl rfl ?_
        refine V_getR F_X11_98 rfl t_k0 rfl dX11_bring_41 ?_
        refine V_iload_n 1 dX11_bring_44 rfl rfl ?_
        refine V_iload_n 2 dX11_bring_45 rfl rfl ?_
        obtain ⟨r_14, h_13, e_12, hf⟩ := ob_s hf
        refine V_cvi (As := [.int x1, .int x2]) (rest := []) (c_X4_fewest (d := d) (Nat.le_trans (Nat.le_of_ble_eq_true rfl) hd) e_12 (rfO t_k0 (Nat.le_of_ble_eq_true rfl) rfl rfl)) ML_X11_346 MV_X4_fewest rfl (rfO t_k0 (Nat.le_of_ble_eq_true rfl) rfl rfl) rfl rfl (Nat.le_of_ble_eq_true rfl) dX11_bring_46 ?_
        exact V_iret rfl (so_s hf) dX11_bring_49
      · have hf := if_s c_9 hf
        refine V_sub [] rfl ?_
        exact v_X11_bring_27 hd hf
theorem dX11_everybody_0 : decode cX11_everybody 0 = .ok (.iconst 1, 1) := by decide +kernel
theorem dX11_everybody_1 : decode cX11_everybody 1 = .ok (.aload_n 0, 1) := by decide +kernel
theorem dX11_everybody_2 : decode cX11_everybody 2 = .ok (.getfield 19, 3) := by decide +kernel
theorem dX11_everybody_5 : decode cX11_everybody 5 = .ok (.getfield 144, 3) := by decide +kernel
theorem dX11_everybody_8 : decode cX11_everybody 8 = .ok (.ishl, 1) := by decide +kernel
theorem dX11_everybody_9 : decode cX11_everybody 9 = .ok (.iconst 1, 1) := by decide +kernel
theorem dX11_everybody_10 : decode cX11_everybody 10 = .ok (.isub, 1) := by decide +kernel
theorem dX11_everybody_11 : decode cX11_everybody 11 = .ok (.ireturn, 1) := by decide +kernel
def f_X11_everybody (k0 : Nat) (h : AH) : Option (Int32 × AH) :=
  some ((((1 : Int32) <<< ((h.1 (rf k0 1) 2) &&& 31)) - 1), h)
set_option maxHeartbeats 4000000 in
set_option maxRecDepth 100000 in
theorem c_X11_everybody {E : EV} {d : Nat} (hd : 0 + 1 ≤ d) {k0 : Nat} {h : AH} {r0 : Int32} {h0 : AH} (hf : f_X11_everybody k0 h = some (r0, h0)) (t_k0 : kd k0 = (0, 11)) : Con E d K_X11_everybody (ZI E r0 h0) [.ref k0] h := by
  obtain ⟨d, rfl⟩ : ∃ d', d = d' + 1 := ⟨d - 1, by omega⟩
  have hd := Nat.le_of_succ_le_succ hd
  refine Con.ofV rfl (Nat.le_of_ble_eq_true rfl) ?_
  unfold f_X11_everybody at hf
  show V E (d + 1) K_X11_everybody (ZI E r0 h0) h [(0, .ref k0)] [] 0
  refine V_iconst (v := 1) dX11_everybody_0 (by decide) ?_
  refine V_aload_n 0 dX11_everybody_1 rfl rfl ?_
  refine V_getR F_X11_19 rfl t_k0 rfl dX11_everybody_2 ?_
  refine V_getI F_X11_144 rfl (rfO t_k0 (Nat.le_of_ble_eq_true rfl) rfl rfl) rfl dX11_everybody_5 ?_
  refine V_ishl dX11_everybody_8 ?_
  refine V_iconst (v := 1) dX11_everybody_9 (by decide) ?_
  refine V_isub dX11_everybody_10 ?_
  exact V_iret rfl (so_s hf) dX11_everybody_11
theorem dX11_isParty_0 : decode cX11_isParty 0 = .ok (.iload_n 1, 1) := by decide +kernel
theorem dX11_isParty_1 : decode cX11_isParty 1 = .ok (.ifCond .lt 24, 3) := by decide +kernel
theorem dX11_isParty_4 : decode cX11_isParty 4 = .ok (.iload_n 1, 1) := by decide +kernel
theorem dX11_isParty_5 : decode cX11_isParty 5 = .ok (.iconst 4, 1) := by decide +kernel
theorem dX11_isParty_6 : decode cX11_isParty 6 = .ok (.if_icmp .ge 19, 3) := by decide +kernel
theorem dX11_isParty_9 : decode cX11_isParty 9 = .ok (.iload_n 2, 1) := by decide +kernel
theorem dX11_isParty_10 : decode cX11_isParty 10 = .ok (.ifCond .le 15, 3) := by decide +kernel
theorem dX11_isParty_13 : decode cX11_isParty 13 = .ok (.iload_n 2, 1) := by decide +kernel
theorem dX11_isParty_14 : decode cX11_isParty 14 = .ok (.aload_n 0, 1) := by decide +kernel
theorem dX11_isParty_15 : decode cX11_isParty 15 = .ok (.invokevirtual 280, 3) := by decide +kernel
theorem dX11_isParty_18 : decode cX11_isParty 18 = .ok (.if_icmp .gt 7, 3) := by decide +kernel
theorem dX11_isParty_21 : decode cX11_isParty 21 = .ok (.iconst 1, 1) := by decide +kernel
theorem dX11_isParty_22 : decode cX11_isParty 22 = .ok (.goto 4, 3) := by decide +kernel
theorem dX11_isParty_25 : decode cX11_isParty 25 = .ok (.iconst 0, 1) := by decide +kernel
theorem dX11_isParty_26 : decode cX11_isParty 26 = .ok (.ireturn, 1) := by decide +kernel
theorem ML_X11_280 : MLk RX11 280 yX11_everybody := Or.inl ml_X11_280
theorem MV_X11_everybody : MVk K_X11_everybody 0 11 := ⟨⟨cd_X11_everybody, in_X11, ⟨by decide, by decide, by decide +kernel⟩, by decide⟩, im_X11_everybody, se_X11_everybody, _, _, rfl⟩
def f_X11_isParty_26 (s0 : Int32) (h : AH) : Option (Int32 × AH) :=
  og (bz s0) <|
  some (s0, h)
def f_X11_isParty_25  (h : AH) : Option (Int32 × AH) :=
  f_X11_isParty_26 0 h
def f_X11_isParty (k0 : Nat) (x1 : Int32) (x2 : Int32) (h : AH) : Option (Int32 × AH) :=
  if x1 < 0 then (
    f_X11_isParty_25 h
  ) else (
    if 4 ≤ x1 then (
      f_X11_isParty_25 h
    ) else (
      if x2 ≤ 0 then (
        f_X11_isParty_25 h
      ) else (
        ob (f_X11_everybody k0 h) fun r_6 h_5 =>
        if r_6 < x2 then (
          f_X11_isParty_25 h_5
        ) else (
          f_X11_isParty_26 1 h_5
        )
      )
    )
  )
set_option maxHeartbeats 4000000 in
set_option maxRecDepth 100000 in
theorem v_X11_isParty_26 {E : EV} {d : Nat} (hd : 1 ≤ d) {r0 : Int32} {h0 : AH} {s0 : Int32} {h : AH} (hf : f_X11_isParty_26 s0 h = some (r0, h0)) : V E (d + 1) K_X11_isParty (ZI E r0 h0) h [] [.int s0] 26 := by
  unfold f_X11_isParty_26 at hf
  obtain ⟨b_1, hf⟩ := og_s hf
  exact V_zret rfl b_1 (so_s hf) dX11_isParty_26
set_option maxHeartbeats 4000000 in
set_option maxRecDepth 100000 in
theorem v_X11_isParty_25 {E : EV} {d : Nat} (hd : 1 ≤ d) {r0 : Int32} {h0 : AH}  {h : AH} (hf : f_X11_isParty_25 h = some (r0, h0)) : V E (d + 1) K_X11_isParty (ZI E r0 h0) h [] [] 25 := by
  unfold f_X11_isParty_25 at hf
  refine V_iconst (v := 0) dX11_isParty_25 (by decide) ?_
  exact v_X11_isParty_26 hd hf
set_option maxHeartbeats 4000000 in
set_option maxRecDepth 100000 in
theorem c_X11_isParty {E : EV} {d : Nat} (hd : 1 + 1 ≤ d) {k0 : Nat} {x1 : Int32} {x2 : Int32} {h : AH} {r0 : Int32} {h0 : AH} (hf : f_X11_isParty k0 x1 x2 h = some (r0, h0)) (t_k0 : kd k0 = (0, 11)) : Con E d K_X11_isParty (ZI E r0 h0) [.ref k0, .int x1, .int x2] h := by
  obtain ⟨d, rfl⟩ : ∃ d', d = d' + 1 := ⟨d - 1, by omega⟩
  have hd := Nat.le_of_succ_le_succ hd
  refine Con.ofV rfl (Nat.le_of_ble_eq_true rfl) ?_
  unfold f_X11_isParty at hf
  show V E (d + 1) K_X11_isParty (ZI E r0 h0) h [(0, .ref k0), (1, .int x1), (2, .int x2)] [] 0
  refine V_iload_n 1 dX11_isParty_0 rfl rfl ?_
  refine V_if_lt (tgt := 25) dX11_isParty_1 (by decide) (fun c_1 => ?_) (fun c_1 => ?_)
  · have hf := it_s c_1 hf
    refine V_sub [] rfl ?_
    exact v_X11_isParty_25 hd hf
  · have hf := if_s c_1 hf
    refine V_iload_n 1 dX11_isParty_4 rfl rfl ?_
    refine V_iconst (v := 4) dX11_isParty_5 (by decide) ?_
    refine V_ic_ge (tgt := 25) dX11_isParty_6 (by decide) (fun c_2 => ?_) (fun c_2 => ?_)
    · have hf := it_s c_2 hf
      refine V_sub [] rfl ?_
      exact v_X11_isParty_25 hd hf
    · have hf := if_s c_2 hf
      refine V_iload_n 2 dX11_isParty_9 rfl rfl ?_
      refine V_if_le (tgt := 25) dX11_isParty_10 (by decide) (fun c_3 => ?_) (fun c_3 => ?_)
      · have hf := it_s c_3 hf
        refine V_sub [] rfl ?_
        exact v_X11_isParty_25 hd hf
      · have hf := if_s c_3 hf
        refine V_iload_n 2 dX11_isParty_13 rfl rfl ?_
        refine V_aload_n 0 dX11_isParty_14 rfl rfl ?_
        obtain ⟨r_6, h_5, e_4, hf⟩ := ob_s hf
        refine V_cvi (As := []) (rest := [.int x2]) (c_X11_everybody (d := d) (Nat.le_trans (Nat.le_of_ble_eq_true rfl) hd) e_4 t_k0) ML_X11_280 MV_X11_everybody rfl t_k0 rfl rfl (Nat.le_of_ble_eq_true rfl) dX11_isParty_15 ?_
        refine V_ic_gt (tgt := 25) dX11_isParty_18 (by decide) (fun c_7 => ?_) (fun c_7 => ?_)
        · have hf := it_s c_7 hf
          refine V_sub [] rfl ?_
          exact v_X11_isParty_25 hd hf
        · have hf := if_s c_7 hf
          refine V_iconst (v := 1) dX11_isParty_21 (by decide) ?_
          refine V_goto (tgt := 26) dX11_isParty_22 (by decide) ?_
          refine V_sub [] rfl ?_
          exact v_X11_isParty_26 hd hf
theorem dX11_isGuest_0 : decode cX11_isGuest 0 = .ok (.aload_n 0, 1) := by decide +kernel
theorem dX11_isGuest_1 : decode cX11_isGuest 1 = .ok (.iload_n 2, 1) := by decide +kernel
theorem dX11_isGuest_2 : decode cX11_isGuest 2 = .ok (.invokevirtual 151, 3) := by decide +kernel
theorem dX11_isGuest_5 : decode cX11_isGuest 5 = .ok (.ifCond .eq 15, 3) := by decide +kernel
theorem dX11_isGuest_8 : decode cX11_isGuest 8 = .ok (.iload_n 1, 1) := by decide +kernel
theorem dX11_isGuest_9 : decode cX11_isGuest 9 = .ok (.iload_n 2, 1) := by decide +kernel
theorem dX11_isGuest_10 : decode cX11_isGuest 10 = .ok (.invokestatic 247, 3) := by decide +kernel
theorem dX11_isGuest_13 : decode cX11_isGuest 13 = .ok (.ifCond .eq 7, 3) := by decide +kernel
theorem dX11_isGuest_16 : decode cX11_isGuest 16 = .ok (.iconst 1, 1) := by decide +kernel
theorem dX11_isGuest_17 : decode cX11_isGuest 17 = .ok (.goto 4, 3) := by decide +kernel
theorem dX11_isGuest_20 : decode cX11_isGuest 20 = .ok (.iconst 0, 1) := by decide +kernel
theorem dX11_isGuest_21 : decode cX11_isGuest 21 = .ok (.ireturn, 1) := by decide +kernel
theorem ML_X11_247 : MLk RX11 247 yX11_isIn := Or.inl ml_X11_247
def f_X11_isGuest_21 (s0 : Int32) (h : AH) : Option (Int32 × AH) :=
  og (bz s0) <|
  some (s0, h)
def f_X11_isGuest_20  (h : AH) : Option (Int32 × AH) :=
  f_X11_isGuest_21 0 h
def f_X11_isGuest (k0 : Nat) (x1 : Int32) (x2 : Int32) (h : AH) : Option (Int32 × AH) :=
  ob (f_X11_isKnown k0 x2 h) fun r_3 h_2 =>
  if r_3 = 0 then (
    f_X11_isGuest_20 h_2
  ) else (
    ob (f_X11_isIn x1 x2 h_2) fun r_7 h_6 =>
    if r_7 = 0 then (
      f_X11_isGuest_20 h_6
    ) else (
      f_X11_isGuest_21 1 h_6
    )
  )
set_option maxHeartbeats 4000000 in
set_option maxRecDepth 100000 in
theorem v_X11_isGuest_21 {E : EV} {d : Nat} (hd : 1 ≤ d) {r0 : Int32} {h0 : AH} {s0 : Int32} {h : AH} (hf : f_X11_isGuest_21 s0 h = some (r0, h0)) : V E (d + 1) K_X11_isGuest (ZI E r0 h0) h [] [.int s0] 21 := by
  unfold f_X11_isGuest_21 at hf
  obtain ⟨b_1, hf⟩ := og_s hf
  exact V_zret rfl b_1 (so_s hf) dX11_isGuest_21
set_option maxHeartbeats 4000000 in
set_option maxRecDepth 100000 in
theorem v_X11_isGuest_20 {E : EV} {d : Nat} (hd : 1 ≤ d) {r0 : Int32} {h0 : AH}  {h : AH} (hf : f_X11_isGuest_20 h = some (r0, h0)) : V E (d + 1) K_X11_isGuest (ZI E r0 h0) h [] [] 20 := by
  unfold f_X11_isGuest_20 at hf
  refine V_iconst (v := 0) dX11_isGuest_20 (by decide) ?_
  exact v_X11_isGuest_21 hd hf
set_option maxHeartbeats 4000000 in
set_option maxRecDepth 100000 in
theorem c_X11_isGuest {E : EV} {d : Nat} (hd : 1 + 1 ≤ d) {k0 : Nat} {x1 : Int32} {x2 : Int32} {h : AH} {r0 : Int32} {h0 : AH} (hf : f_X11_isGuest k0 x1 x2 h = some (r0, h0)) (t_k0 : kd k0 = (0, 11)) : Con E d K_X11_isGuest (ZI E r0 h0) [.ref k0, .int x1, .int x2] h := by
  obtain ⟨d, rfl⟩ : ∃ d', d = d' + 1 := ⟨d - 1, by omega⟩
  have hd := Nat.le_of_succ_le_succ hd
  refine Con.ofV rfl (Nat.le_of_ble_eq_true rfl) ?_
  unfold f_X11_isGuest at hf
  show V E (d + 1) K_X11_isGuest (ZI E r0 h0) h [(0, .ref k0), (1, .int x1), (2, .int x2)] [] 0
  refine V_aload_n 0 dX11_isGuest_0 rfl rfl ?_
  refine V_iload_n 2 dX11_isGuest_1 rfl rfl ?_
  obtain ⟨r_3, h_2, e_1, hf⟩ := ob_s hf
  refine V_cvi (As := [.int x2]) (rest := []) (c_X11_isKnown (d := d) (Nat.le_trans (Nat.le_of_ble_eq_true rfl) hd) e_1 t_k0) ML_X11_151 MV_X11_isKnown rfl t_k0 rfl rfl (Nat.le_of_ble_eq_true rfl) dX11_isGuest_2 ?_
  refine V_if_eq (tgt := 20) dX11_isGuest_5 (by decide) (fun c_4 => ?_) (fun c_4 => ?_)
  · have hf := it_s c_4 hf
    refine V_sub [] rfl ?_
    exact v_X11_isGuest_20 hd hf
  · have hf := if_s c_4 hf
    refine V_iload_n 1 dX11_isGuest_8 rfl rfl ?_
    refine V_iload_n 2 dX11_isGuest_9 rfl rfl ?_
    obtain ⟨r_7, h_6, e_5, hf⟩ := ob_s hf
    refine V_csi (As := [.int x1, .int x2]) (rest := []) (c_X11_isIn (d := d) (Nat.le_trans (Nat.le_of_ble_eq_true rfl) hd) e_5) ML_X11_247 MS_X11_isIn rfl rfl rfl (Nat.le_of_ble_eq_true rfl) dX11_isGuest_10 ?_
    refine V_if_eq (tgt := 20) dX11_isGuest_13 (by decide) (fun c_8 => ?_) (fun c_8 => ?_)
    · have hf := it_s c_8 hf
      refine V_sub [] rfl ?_
      exact v_X11_isGuest_20 hd hf
    · have hf := if_s c_8 hf
      refine V_iconst (v := 1) dX11_isGuest_16 (by decide) ?_
      refine V_goto (tgt := 21) dX11_isGuest_17 (by decide) ?_
      refine V_sub [] rfl ?_
      exact v_X11_isGuest_21 hd hf
theorem dX9_pairsAt_0 : decode cX9_pairsAt 0 = .ok (.iconst 0, 1) := by decide +kernel
theorem dX9_pairsAt_1 : decode cX9_pairsAt 1 = .ok (.istore_n 3, 1) := by decide +kernel
theorem dX9_pairsAt_2 : decode cX9_pairsAt 2 = .ok (.iconst 0, 1) := by decide +kernel
theorem dX9_pairsAt_3 : decode cX9_pairsAt 3 = .ok (.istore 4, 2) := by decide +kernel
theorem dX9_pairsAt_5 : decode cX9_pairsAt 5 = .ok (.iload 4, 2) := by decide +kernel
theorem dX9_pairsAt_7 : decode cX9_pairsAt 7 = .ok (.bipush 6, 2) := by decide +kernel
theorem dX9_pairsAt_9 : decode cX9_pairsAt 9 = .ok (.if_icmp .ge 67, 3) := by decide +kernel
theorem dX9_pairsAt_12 : decode cX9_pairsAt 12 = .ok (.aload_n 0, 1) := by decide +kernel
theorem dX9_pairsAt_13 : decode cX9_pairsAt 13 = .ok (.getfield 15, 3) := by decide +kernel
theorem dX9_pairsAt_16 : decode cX9_pairsAt 16 = .ok (.iload 4, 2) := by decide +kernel
theorem dX9_pairsAt_18 : decode cX9_pairsAt 18 = .ok (.iaload, 1) := by decide +kernel
theorem dX9_pairsAt_19 : decode cX9_pairsAt 19 = .ok (.istore 5, 2) := by decide +kernel
theorem dX9_pairsAt_21 : decode cX9_pairsAt 21 = .ok (.iload 5, 2) := by decide +kernel
theorem dX9_pairsAt_23 : decode cX9_pairsAt 23 = .ok (.ifCond .lt 14, 3) := by decide +kernel
theorem dX9_pairsAt_26 : decode cX9_pairsAt 26 = .ok (.iload 5, 2) := by decide +kernel
theorem dX9_pairsAt_28 : decode cX9_pairsAt 28 = .ok (.bipush 6, 2) := by decide +kernel
theorem dX9_pairsAt_30 : decode cX9_pairsAt 30 = .ok (.if_icmp .ge 7, 3) := by decide +kernel
theorem dX9_pairsAt_33 : decode cX9_pairsAt 33 = .ok (.iconst 1, 1) := by decide +kernel
theorem dX9_pairsAt_34 : decode cX9_pairsAt 34 = .ok (.goto 4, 3) := by decide +kernel
theorem dX9_pairsAt_37 : decode cX9_pairsAt 37 = .ok (.iconst 0, 1) := by decide +kernel
theorem dX9_pairsAt_38 : decode cX9_pairsAt 38 = .ok (.istore 6, 2) := by decide +kernel
theorem dX9_pairsAt_40 : decode cX9_pairsAt 40 = .ok (.iload 5, 2) := by decide +kernel
theorem dX9_pairsAt_42 : decode cX9_pairsAt 42 = .ok (.bipush 10, 2) := by decide +kernel
theorem dX9_pairsAt_44 : decode cX9_pairsAt 44 = .ok (.iload_n 1, 1) := by decide +kernel
theorem dX9_pairsAt_45 : decode cX9_pairsAt 45 = .ok (.iadd, 1) := by decide +kernel
theorem dX9_pairsAt_46 : decode cX9_pairsAt 46 = .ok (.if_icmp .eq 17, 3) := by decide +kernel
theorem dX9_pairsAt_49 : decode cX9_pairsAt 49 = .ok (.iload 6, 2) := by decide +kernel
theorem dX9_pairsAt_51 : decode cX9_pairsAt 51 = .ok (.ifCond .eq 19, 3) := by decide +kernel
theorem dX9_pairsAt_54 : decode cX9_pairsAt 54 = .ok (.iload_n 2, 1) := by decide +kernel
theorem dX9_pairsAt_55 : decode cX9_pairsAt 55 = .ok (.iload 5, 2) := by decide +kernel
theorem dX9_pairsAt_57 : decode cX9_pairsAt 57 = .ok (.invokestatic 37, 3) := by decide +kernel
theorem dX9_pairsAt_60 : decode cX9_pairsAt 60 = .ok (.ifCond .eq 10, 3) := by decide +kernel
theorem dX9_pairsAt_63 : decode cX9_pairsAt 63 = .ok (.iload_n 3, 1) := by decide +kernel
theorem dX9_pairsAt_64 : decode cX9_pairsAt 64 = .ok (.iconst 1, 1) := by decide +kernel
theorem dX9_pairsAt_65 : decode cX9_pairsAt 65 = .ok (.iload 4, 2) := by decide +kernel
theorem dX9_pairsAt_67 : decode cX9_pairsAt 67 = .ok (.ishl, 1) := by decide +kernel
theorem dX9_pairsAt_68 : decode cX9_pairsAt 68 = .ok (.ior, 1) := by decide +kernel
theorem dX9_pairsAt_69 : decode cX9_pairsAt 69 = .ok (.istore_n 3, 1) := by decide +kernel
theorem dX9_pairsAt_70 : decode cX9_pairsAt 70 = .ok (.iinc 4 1, 3) := by decide +kernel
theorem dX9_pairsAt_73 : decode cX9_pairsAt 73 = .ok (.goto (-68), 3) := by decide +kernel
theorem dX9_pairsAt_76 : decode cX9_pairsAt 76 = .ok (.iload_n 3, 1) := by decide +kernel
theorem dX9_pairsAt_77 : decode cX9_pairsAt 77 = .ok (.ireturn, 1) := by decide +kernel
theorem ML_X9_37 : MLk RX9 37 yX11_isIn := Or.inr ⟨_, mn_X9_37⟩
def f_X9_pairsAt_70 (q5 : Nat → Int32 → Int32 → Int32 → Int32 → AH → Option (Int32 × AH)) (k0 : Nat) (x1 : Int32) (x2 : Int32) (x3 : Int32) (x4 : Int32) (h : AH) : Option (Int32 × AH) :=
  nm (x4 + 1) fun x4_1 =>
  q5 k0 x1 x2 x3 x4_1 h
def f_X9_pairsAt_63 (q5 : Nat → Int32 → Int32 → Int32 → Int32 → AH → Option (Int32 × AH)) (k0 : Nat) (x1 : Int32) (x2 : Int32) (x3 : Int32) (x4 : Int32) (h : AH) : Option (Int32 × AH) :=
  nm ((x3 ||| ((1 : Int32) <<< (x4 &&& 31)))) fun x3_1 =>
  f_X9_pairsAt_70 q5 k0 x1 x2 x3_1 x4 h
def f_X9_pairsAt_38 (q5 : Nat → Int32 → Int32 → Int32 → Int32 → AH → Option (Int32 × AH)) (k0 : Nat) (x1 : Int32) (x2 : Int32) (x3 : Int32) (x4 : Int32) (x5 : Int32) (s0 : Int32) (h : AH) : Option (Int32 × AH) :=
  if x5 = (10 + x1) then (
    f_X9_pairsAt_63 q5 k0 x1 x2 x3 x4 h
  ) else (
    if s0 = 0 then (
      f_X9_pairsAt_70 q5 k0 x1 x2 x3 x4 h
    ) else (
      ob (f_X11_isIn x2 x5 h) fun r_5 h_4 =>
      if r_5 = 0 then (
        f_X9_pairsAt_70 q5 k0 x1 x2 x3 x4 h_4
      ) else (
        f_X9_pairsAt_63 q5 k0 x1 x2 x3 x4 h_4
      )
    )
  )
def f_X9_pairsAt_37 (q5 : Nat → Int32 → Int32 → Int32 → Int32 → AH → Option (Int32 × AH)) (k0 : Nat) (x1 : Int32) (x2 : Int32) (x3 : Int32) (x4 : Int32) (x5 : Int32) (h : AH) : Option (Int32 × AH) :=
  f_X9_pairsAt_38 q5 k0 x1 x2 x3 x4 x5 0 h
def f_X9_pairsAt_5 : Nat → Nat → Int32 → Int32 → Int32 → Int32 → AH → Option (Int32 × AH)
  | 0, _, _, _, _, _, _ => none
  | n + 1, k0, x1, x2, x3, x4, h =>
    if 6 ≤ x4 then (
      some (x3, h)
    ) else (
      og (ix x4 (an (rf k0 1))) <|
      nm ((h.1 (rf k0 1) x4.toNatClampNeg)) fun x5_3 =>
      if x5_3 < 0 then (
        f_X9_pairsAt_37 (f_X9_pairsAt_5 n) k0 x1 x2 x3 x4 x5_3 h
      ) else (
        if 6 ≤ x5_3 then (
          f_X9_pairsAt_37 (f_X9_pairsAt_5 n) k0 x1 x2 x3 x4 x5_3 h
        ) else (
          f_X9_pairsAt_38 (f_X9_pairsAt_5 n) k0 x1 x2 x3 x4 x5_3 1 h
        )
      )
    )
def f_X9_pairsAt (k0 : Nat) (x1 : Int32) (x2 : Int32) (h : AH) : Option (Int32 × AH) :=
  f_X9_pairsAt_5 FU k0 x1 x2 0 0 h
set_option maxHeartbeats 4000000 in
set_option maxRecDepth 100000 in
theorem v_X9_pairsAt_70 {E : EV} {d : Nat} (hd : 1 ≤ d) {r0 : Int32} {h0 : AH} {q5 : Nat → Int32 → Int32 → Int32 → Int32 → AH → Option (Int32 × AH)} (cq5 : ∀ (k0 : Nat) (x1 : Int32) (x2 : Int32) (x3 : Int32) (x4 : Int32) (h : AH), q5 k0 x1 x2 x3 x4 h = some (r0, h0) → kd k0 = (0, 9) → V E (d + 1) K_X9_pairsAt (ZI E r0 h0) h [(0, .ref k0), (1, .int x1), (2, .int x2), (3, .int x3), (4, .int x4)] [] 5) {k0 : Nat} {x1 : Int32} {x2 : Int32} {x3 : Int32} {x4 : Int32} {h : AH} (hf : f_X9_pairsAt_70 q5 k0 x1 x2 x3 x4 h = some (r0, h0)) (t_k0 : kd k0 = (0, 9)) : V E (d + 1) K_X9_pairsAt (ZI E r0 h0) h [(0, .ref k0), (1, .int x1), (2, .int x2), (3, .int x3), (4, .int x4)] [] 70 := by
  unfold f_X9_pairsAt_70 at hf
  obtain ⟨x4_1, e_2, hf⟩ := nm_s hf
  refine V_iinc (a := 1) (L' := [(4, .int x4_1), (0, .ref k0), (1, .int x1), (2, .int x2), (3, .int x3)]) 4 dX9_pairsAt_70 rfl (by decide) (Nat.le_of_ble_eq_true rfl) e_2 rfl ?_
  refine V_goto (tgt := 5) dX9_pairsAt_73 (by decide) ?_
  refine V_sub [1, 2, 3, 4, 0] rfl ?_
  exact cq5 _ _ _ _ _ _ hf t_k0
set_option maxHeartbeats 4000000 in
set_option maxRecDepth 100000 in
theorem v_X9_pairsAt_63 {E : EV} {d : Nat} (hd : 1 ≤ d) {r0 : Int32} {h0 : AH} {q5 : Nat → Int32 → Int32 → Int32 → Int32 → AH → Option (Int32 × AH)} (cq5 : ∀ (k0 : Nat) (x1 : Int32) (x2 : Int32) (x3 : Int32) (x4 : Int32) (h : AH), q5 k0 x1 x2 x3 x4 h = some (r0, h0) → kd k0 = (0, 9) → V E (d + 1) K_X9_pairsAt (ZI E r0 h0) h [(0, .ref k0), (1, .int x1), (2, .int x2), (3, .int x3), (4, .int x4)] [] 5) {k0 : Nat} {x1 : Int32} {x2 : Int32} {x3 : Int32} {x4 : Int32} {h : AH} (hf : f_X9_pairsAt_63 q5 k0 x1 x2 x3 x4 h = some (r0, h0)) (t_k0 : kd k0 = (0, 9)) : V E (d + 1) K_X9_pairsAt (ZI E r0 h0) h [(0, .ref k0), (1, .int x1), (2, .int x2), (3, .int x3), (4, .int x4)] [] 63 := by
  unfold f_X9_pairsAt_63 at hf
  refine V_iload_n 3 dX9_pairsAt_63 rfl rfl ?_
  refine V_iconst (v := 1) dX9_pairsAt_64 (by decide) ?_
  refine V_iload 4 dX9_pairsAt_65 rfl ?_
  refine V_ishl dX9_pairsAt_67 ?_
  refine V_ior dX9_pairsAt_68 ?_
  obtain ⟨x3_1, e_2, hf⟩ := nm_s hf
  refine V_istore_n (L' := [(3, .int x3_1), (0, .ref k0), (1, .int x1), (2, .int x2), (4, .int x4)]) dX9_pairsAt_69 rfl (Nat.le_of_ble_eq_true rfl) e_2 rfl ?_
  refine V_sub [1, 2, 3, 0, 4] rfl ?_
  exact v_X9_pairsAt_70 hd cq5 hf t_k0
set_option maxHeartbeats 4000000 in
set_option maxRecDepth 100000 in
theorem v_X9_pairsAt_38 {E : EV} {d : Nat} (hd : 1 ≤ d) {r0 : Int32} {h0 : AH} {q5 : Nat → Int32 → Int32 → Int32 → Int32 → AH → Option (Int32 × AH)} (cq5 : ∀ (k0 : Nat) (x1 : Int32) (x2 : Int32) (x3 : Int32) (x4 : Int32) (h : AH), q5 k0 x1 x2 x3 x4 h = some (r0, h0) → kd k0 = (0, 9) → V E (d + 1) K_X9_pairsAt (ZI E r0 h0) h [(0, .ref k0), (1, .int x1), (2, .int x2), (3, .int x3), (4, .int x4)] [] 5) {k0 : Nat} {x1 : Int32} {x2 : Int32} {x3 : Int32} {x4 : Int32} {x5 : Int32} {s0 : Int32} {h : AH} (hf : f_X9_pairsAt_38 q5 k0 x1 x2 x3 x4 x5 s0 h = some (r0, h0)) (t_k0 : kd k0 = (0, 9)) : V E (d + 1) K_X9_pairsAt (ZI E r0 h0) h [(0, .ref k0), (1, .int x1), (2, .int x2), (3, .int x3), (4, .int x4), (5, .int x5)] [.int s0] 38 := by
  unfold f_X9_pairsAt_38 at hf
  refine V_istore (L' := [(6, .int s0), (0, .ref k0), (1, .int x1), (2, .int x2), (3, .int x3), (4, .int x4), (5, .int x5)]) dX9_pairsAt_38 (Nat.le_of_ble_eq_true rfl) rfl rfl ?_
  refine V_iload 6 dX9_pairsAt_40 rfl ?_
  refine V_bipush (v := 10) dX9_pairsAt_42 (by decide) ?_
  refine V_iload_n 2 dX9_pairsAt_44 rfl rfl ?_
  refine V_iadd dX9_pairsAt_45 ?_
  refine V_ic_eq (tgt := 63) dX9_pairsAt_46 (by decide) (fun c_1 => ?_) (fun c_1 => ?_)
  · have hf := it_s c_1 hf
    refine V_sub [1, 2, 3, 4, 5] rfl ?_
    exact v_X9_pairsAt_63 hd cq5 hf t_k0
  · have hf := if_s c_1 hf
    refine V_iload 0 dX9_pairsAt_49 rfl ?_
    refine V_if_eq (tgt := 70) dX9_pairsAt_51 (by decide) (fun c_2 => ?_) (fun c_2 => ?_)
    · have hf := it_s c_2 hf
      refine V_sub [1, 2, 3, 4, 5] rfl ?_
      exact v_X9_pairsAt_70 hd cq5 hf t_k0
    · have hf := if_s c_2 hf
      refine V_iload_n 3 dX9_pairsAt_54 rfl rfl ?_
      refine V_iload 6 dX9_pairsAt_55 rfl ?_
      obtain ⟨r_5, h_4, e_3, hf⟩ := ob_s hf
      refine V_csi (As := [.int x2, .int x5]) (rest := []) (c_X11_isIn (d := d) (Nat.le_trans (Nat.le_of_ble_eq_true rfl) hd) e_3) ML_X9_37 MS_X11_isIn rfl rfl rfl (Nat.le_of_ble_eq_true rfl) dX9_pairsAt_57 ?_
      refine V_if_eq (tgt := 70) dX9_pairsAt_60 (by decide) (fun c_6 => ?_) (fun c_6 => ?_)
      · have hf := it_s c_6 hf
        refine V_sub [1, 2, 3, 4, 5] rfl ?_
        exact v_X9_pairsAt_70 hd cq5 hf t_k0
      · have hf := if_s c_6 hf
        refine V_sub [1, 2, 3, 4, 5] rfl ?_
        exact v_X9_pairsAt_63 hd cq5 hf t_k0
set_option maxHeartbeats 4000000 in
set_option maxRecDepth 100000 in
theorem v_X9_pairsAt_37 {E : EV} {d : Nat} (hd : 1 ≤ d) {r0 : Int32} {h0 : AH} {q5 : Nat → Int32 → Int32 → Int32 → Int32 → AH → Option (Int32 × AH)} (cq5 : ∀ (k0 : Nat) (x1 : Int32) (x2 : Int32) (x3 : Int32) (x4 : Int32) (h : AH), q5 k0 x1 x2 x3 x4 h = some (r0, h0) → kd k0 = (0, 9) → V E (d + 1) K_X9_pairsAt (ZI E r0 h0) h [(0, .ref k0), (1, .int x1), (2, .int x2), (3, .int x3), (4, .int x4)] [] 5) {k0 : Nat} {x1 : Int32} {x2 : Int32} {x3 : Int32} {x4 : Int32} {x5 : Int32} {h : AH} (hf : f_X9_pairsAt_37 q5 k0 x1 x2 x3 x4 x5 h = some (r0, h0)) (t_k0 : kd k0 = (0, 9)) : V E (d + 1) K_X9_pairsAt (ZI E r0 h0) h [(0, .ref k0), (1, .int x1), (2, .int x2), (3, .int x3), (4, .int x4), (5, .int x5)] [] 37 := by
  unfold f_X9_pairsAt_37 at hf
  refine V_iconst (v := 0) dX9_pairsAt_37 (by decide) ?_
  exact v_X9_pairsAt_38 hd cq5 hf t_k0
set_option maxHeartbeats 4000000 in
set_option maxRecDepth 100000 in
theorem v_X9_pairsAt_5 {E : EV} {d : Nat} (hd : 1 ≤ d) {r0 : Int32} {h0 : AH} : ∀ (n : Nat) (k0 : Nat) (x1 : Int32) (x2 : Int32) (x3 : Int32) (x4 : Int32) (h : AH), f_X9_pairsAt_5 n k0 x1 x2 x3 x4 h = some (r0, h0) → kd k0 = (0, 9) → V E (d + 1) K_X9_pairsAt (ZI E r0 h0) h [(0, .ref k0), (1, .int x1), (2, .int x2), (3, .int x3), (4, .int x4)] [] 5 := by
  intro n
  induction n with
  | zero =>
    intro k0 x1 x2 x3 x4 h hf
    rw [f_X9_pairsAt_5] at hf
    cases hf
  | succ n ih =>
    intro k0 x1 x2 x3 x4 h hf t_k0
    rw [f_X9_pairsAt_5] at hf
    refine V_iload 4 dX9_pairsAt_5 rfl ?_
    refine V_bipush (v := 6) dX9_pairsAt_7 (by decide) ?_
    refine V_ic_ge (tgt := 76) dX9_pairsAt_9 (by decide) (fun c_1 => ?_) (fun c_1 => ?_)
    · have hf := it_s c_1 hf
      refine V_iload_n 3 dX9_pairsAt_76 rfl rfl ?_
      exact V_iret rfl (so_s hf) dX9_pairsAt_77
    · have hf := if_s c_1 hf
      refine V_aload_n 0 dX9_pairsAt_12 rfl rfl ?_
      refine V_getR F_X9_15 rfl t_k0 rfl dX9_pairsAt_13 ?_
      refine V_iload 4 dX9_pairsAt_16 rfl ?_
      obtain ⟨b_2, hf⟩ := og_s hf
      refine V_iald (rfA t_k0 (Nat.le_of_ble_eq_true rfl) rfl rfl (by decide)) b_2 dX9_pairsAt_18 ?_
      obtain ⟨x5_3, e_4, hf⟩ := nm_s hf
      refine V_istore (L' := [(5, .int x5_3), (0, .ref k0), (1, .int x1), (2, .int x2), (3, .int x3), (4, .int x4)]) dX9_pairsAt_19 (Nat.le_of_ble_eq_true rfl) e_4 rfl ?_
      refine V_iload 0 dX9_pairsAt_21 rfl ?_
      refine V_if_lt (tgt := 37) dX9_pairsAt_23 (by decide) (fun c_5 => ?_) (fun c_5 => ?_)
      · have hf := it_s c_5 hf
        refine V_sub [1, 2, 3, 4, 5, 0] rfl ?_
        exact v_X9_pairsAt_37 hd ih hf t_k0
      · have hf := if_s c_5 hf
        refine V_iload 0 dX9_pairsAt_26 rfl ?_
        refine V_bipush (v := 6) dX9_pairsAt_28 (by decide) ?_
        refine V_ic_ge (tgt := 37) dX9_pairsAt_30 (by decide) (fun c_6 => ?_) (fun c_6 => ?_)
        · have hf := it_s c_6 hf
          refine V_sub [1, 2, 3, 4, 5, 0] rfl ?_
          exact v_X9_pairsAt_37 hd ih hf t_k0
        · have hf := if_s c_6 hf
          refine V_iconst (v := 1) dX9_pairsAt_33 (by decide) ?_
          refine V_goto (tgt := 38) dX9_pairsAt_34 (by decide) ?_
          refine V_sub [1, 2, 3, 4, 5, 0] rfl ?_
          exact v_X9_pairsAt_38 hd ih hf t_k0
set_option maxHeartbeats 4000000 in
set_option maxRecDepth 100000 in
theorem c_X9_pairsAt {E : EV} {d : Nat} (hd : 1 + 1 ≤ d) {k0 : Nat} {x1 : Int32} {x2 : Int32} {h : AH} {r0 : Int32} {h0 : AH} (hf : f_X9_pairsAt k0 x1 x2 h = some (r0, h0)) (t_k0 : kd k0 = (0, 9)) : Con E d K_X9_pairsAt (ZI E r0 h0) [.ref k0, .int x1, .int x2] h := by
  obtain ⟨d, rfl⟩ : ∃ d', d = d' + 1 := ⟨d - 1, by omega⟩
  have hd := Nat.le_of_succ_le_succ hd
  refine Con.ofV rfl (Nat.le_of_ble_eq_true rfl) ?_
  unfold f_X9_pairsAt at hf
  show V E (d + 1) K_X9_pairsAt (ZI E r0 h0) h [(0, .ref k0), (1, .int x1), (2, .int x2)] [] 0
  refine V_iconst (v := 0) dX9_pairsAt_0 (by decide) ?_
  refine V_istore_n (L' := [(3, .int 0), (0, .ref k0), (1, .int x1), (2, .int x2)]) dX9_pairsAt_1 rfl (Nat.le_of_ble_eq_true rfl) rfl rfl ?_
  refine V_iconst (v := 0) dX9_pairsAt_2 (by decide) ?_
  refine V_istore (L' := [(4, .int 0), (3, .int 0), (0, .ref k0), (1, .int x1), (2, .int x2)]) dX9_pairsAt_3 (Nat.le_of_ble_eq_true rfl) rfl rfl ?_
  refine V_sub [2, 3, 4, 1, 0] rfl ?_
  exact v_X9_pairsAt_5 hd FU _ _ _ _ _ _ hf t_k0
theorem dX11_openDoor_0 : decode cX11_openDoor 0 = .ok (.aload_n 0, 1) := by decide +kernel
theorem dX11_openDoor_1 : decode cX11_openDoor 1 = .ok (.getfield 64, 3) := by decide +kernel
theorem dX11_openDoor_4 : decode cX11_openDoor 4 = .ok (.aload_n 0, 1) := by decide +kernel
theorem dX11_openDoor_5 : decode cX11_openDoor 5 = .ok (.getfield 45, 3) := by decide +kernel
theorem dX11_openDoor_8 : decode cX11_openDoor 8 = .ok (.invokevirtual 211, 3) := by decide +kernel
theorem dX11_openDoor_11 : decode cX11_openDoor 11 = .ok (.aload_n 0, 1) := by decide +kernel
theorem dX11_openDoor_12 : decode cX11_openDoor 12 = .ok (.getfield 45, 3) := by decide +kernel
theorem dX11_openDoor_15 : decode cX11_openDoor 15 = .ok (.iload_n 1, 1) := by decide +kernel
theorem dX11_openDoor_16 : decode cX11_openDoor 16 = .ok (.iload_n 2, 1) := by decide +kernel
theorem dX11_openDoor_17 : decode cX11_openDoor 17 = .ok (.invokevirtual 214, 3) := by decide +kernel
theorem dX11_openDoor_20 : decode cX11_openDoor 20 = .ok (.ireturn, 1) := by decide +kernel
theorem ML_X11_214 : MLk RX11 214 yX9_pairsAt := Or.inl ml_X11_214
theorem MV_X9_pairsAt : MVk K_X9_pairsAt 2 9 := ⟨⟨cd_X9_pairsAt, in_X9, ⟨by decide, by decide, by decide +kernel⟩, by decide⟩, im_X9_pairsAt, se_X9_pairsAt, _, _, rfl⟩
def f_X11_openDoor (k0 : Nat) (x1 : Int32) (x2 : Int32) (h : AH) : Option (Int32 × AH) :=
  ov (f_X2_open (rf k0 10) (rf k0 6) h) fun h_2 =>
  ob (f_X9_pairsAt (rf k0 6) x1 x2 h_2) fun r_5 h_4 =>
  some (r_5, h_4)
set_option maxHeartbeats 4000000 in
set_option maxRecDepth 100000 in
theorem c_X11_openDoor {E : EV} {d : Nat} (hd : 3 + 1 ≤ d) {k0 : Nat} {x1 : Int32} {x2 : Int32} {h : AH} {r0 : Int32} {h0 : AH} (hf : f_X11_openDoor k0 x1 x2 h = some (r0, h0)) (t_k0 : kd k0 = (0, 11)) : Con E d K_X11_openDoor (ZI E r0 h0) [.ref k0, .int x1, .int x2] h := by
  obtain ⟨d, rfl⟩ : ∃ d', d = d' + 1 := ⟨d - 1, by omega⟩
  have hd := Nat.le_of_succ_le_succ hd
  refine Con.ofV rfl (Nat.le_of_ble_eq_true rfl) ?_
  unfold f_X11_openDoor at hf
  show V E (d + 1) K_X11_openDoor (ZI E r0 h0) h [(0, .ref k0), (1, .int x1), (2, .int x2)] [] 0
  refine V_aload_n 0 dX11_openDoor_0 rfl rfl ?_
  refine V_getR F_X11_64 rfl t_k0 rfl dX11_openDoor_1 ?_
  refine V_aload_n 0 dX11_openDoor_4 rfl rfl ?_
  refine V_getR F_X11_45 rfl t_k0 rfl dX11_openDoor_5 ?_
  obtain ⟨h_2, e_1, hf⟩ := ov_s hf
  refine V_cvv (As := [.ref (rf k0 6)]) (rest := []) (c_X2_open (d := d) (Nat.le_trans (Nat.le_of_ble_eq_true rfl) hd) e_1 (rfO t_k0 (Nat.le_of_ble_eq_true rfl) rfl rfl) (rfO t_k0 (Nat.le_of_ble_eq_true rfl) rfl rfl)) ML_X11_211 MV_X2_open rfl (rfO t_k0 (Nat.le_of_ble_eq_true rfl) rfl rfl) rfl rfl (Nat.le_of_ble_eq_true rfl) dX11_openDoor_8 ?_
  refine V_aload_n 0 dX11_openDoor_11 rfl rfl ?_
  refine V_getR F_X11_45 rfl t_k0 rfl dX11_openDoor_12 ?_
  refine V_iload_n 1 dX11_openDoor_15 rfl rfl ?_
  refine V_iload_n 2 dX11_openDoor_16 rfl rfl ?_
  obtain ⟨r_5, h_4, e_3, hf⟩ := ob_s hf
  refine V_cvi (As := [.int x1, .int x2]) (rest := []) (c_X9_pairsAt (d := d) (Nat.le_trans (Nat.le_of_ble_eq_true rfl) hd) e_3 (rfO t_k0 (Nat.le_of_ble_eq_true rfl) rfl rfl)) ML_X11_214 MV_X9_pairsAt rfl (rfO t_k0 (Nat.le_of_ble_eq_true rfl) rfl rfl) rfl rfl (Nat.le_of_ble_eq_true rfl) dX11_openDoor_17 ?_
  exact V_iret rfl (so_s hf) dX11_openDoor_20
theorem dX2_replace_0 : decode cX2_replace 0 = .ok (.aload_n 0, 1) := by decide +kernel
theorem dX2_replace_1 : decode cX2_replace 1 = .ok (.getfield 9, 3) := by decide +kernel
theorem dX2_replace_4 : decode cX2_replace 4 = .ok (.iload_n 1, 1) := by decide +kernel
theorem dX2_replace_5 : decode cX2_replace 5 = .ok (.iload_n 2, 1) := by decide +kernel
theorem dX2_replace_6 : decode cX2_replace 6 = .ok (.iastore, 1) := by decide +kernel
theorem dX2_replace_7 : decode cX2_replace 7 = .ok (.aload_n 0, 1) := by decide +kernel
theorem dX2_replace_8 : decode cX2_replace 8 = .ok (.getfield 15, 3) := by decide +kernel
theorem dX2_replace_11 : decode cX2_replace 11 = .ok (.iload_n 1, 1) := by decide +kernel
theorem dX2_replace_12 : decode cX2_replace 12 = .ok (.iload_n 3, 1) := by decide +kernel
theorem dX2_replace_13 : decode cX2_replace 13 = .ok (.iastore, 1) := by decide +kernel
theorem dX2_replace_14 : decode cX2_replace 14 = .ok (.iconst 0, 1) := by decide +kernel
theorem dX2_replace_15 : decode cX2_replace 15 = .ok (.istore 4, 2) := by decide +kernel
theorem dX2_replace_17 : decode cX2_replace 17 = .ok (.iload 4, 2) := by decide +kernel
theorem dX2_replace_19 : decode cX2_replace 19 = .ok (.bipush 6, 2) := by decide +kernel
theorem dX2_replace_21 : decode cX2_replace 21 = .ok (.if_icmp .ge 49, 3) := by decide +kernel
theorem dX2_replace_24 : decode cX2_replace 24 = .ok (.iload 4, 2) := by decide +kernel
theorem dX2_replace_26 : decode cX2_replace 26 = .ok (.bipush 6, 2) := by decide +kernel
theorem dX2_replace_28 : decode cX2_replace 28 = .ok (.imul, 1) := by decide +kernel
theorem dX2_replace_29 : decode cX2_replace 29 = .ok (.iload_n 1, 1) := by decide +kernel
theorem dX2_replace_30 : decode cX2_replace 30 = .ok (.iadd, 1) := by decide +kernel
theorem dX2_replace_31 : decode cX2_replace 31 = .ok (.bipush 7, 2) := by decide +kernel
theorem dX2_replace_33 : decode cX2_replace 33 = .ok (.imul, 1) := by decide +kernel
theorem dX2_replace_34 : decode cX2_replace 34 = .ok (.istore 5, 2) := by decide +kernel
theorem dX2_replace_36 : decode cX2_replace 36 = .ok (.iconst 0, 1) := by decide +kernel
theorem dX2_replace_37 : decode cX2_replace 37 = .ok (.istore 6, 2) := by decide +kernel
theorem dX2_replace_39 : decode cX2_replace 39 = .ok (.iload 6, 2) := by decide +kernel
theorem dX2_replace_41 : decode cX2_replace 41 = .ok (.bipush 7, 2) := by decide +kernel
theorem dX2_replace_43 : decode cX2_replace 43 = .ok (.if_icmp .ge 21, 3) := by decide +kernel
theorem dX2_replace_46 : decode cX2_replace 46 = .ok (.aload_n 0, 1) := by decide +kernel
theorem dX2_replace_47 : decode cX2_replace 47 = .ok (.getfield 18, 3) := by decide +kernel
theorem dX2_replace_50 : decode cX2_replace 50 = .ok (.iload 5, 2) := by decide +kernel
theorem dX2_replace_52 : decode cX2_replace 52 = .ok (.iload 6, 2) := by decide +kernel
theorem dX2_replace_54 : decode cX2_replace 54 = .ok (.iadd, 1) := by decide +kernel
theorem dX2_replace_55 : decode cX2_replace 55 = .ok (.bipush (-2), 2) := by decide +kernel
theorem dX2_replace_57 : decode cX2_replace 57 = .ok (.iastore, 1) := by decide +kernel
theorem dX2_replace_58 : decode cX2_replace 58 = .ok (.iinc 6 1, 3) := by decide +kernel
theorem dX2_replace_61 : decode cX2_replace 61 = .ok (.goto (-22), 3) := by decide +kernel
theorem dX2_replace_64 : decode cX2_replace 64 = .ok (.iinc 4 1, 3) := by decide +kernel
theorem dX2_replace_67 : decode cX2_replace 67 = .ok (.goto (-50), 3) := by decide +kernel
theorem dX2_replace_70 : decode cX2_replace 70 = .ok (.aload_n 0, 1) := by decide +kernel
theorem dX2_replace_71 : decode cX2_replace 71 = .ok (.getfield 21, 3) := by decide +kernel
theorem dX2_replace_74 : decode cX2_replace 74 = .ok (.bipush (-2), 2) := by decide +kernel
theorem dX2_replace_76 : decode cX2_replace 76 = .ok (.invokestatic 55, 3) := by decide +kernel
theorem dX2_replace_79 : decode cX2_replace 79 = .ok (.return_, 1) := by decide +kernel
def f_X2_replace_39 (q17 : Nat → Int32 → Int32 → AH → Option AH) : Nat → Nat → Int32 → Int32 → Int32 → Int32 → AH → Option AH
  | 0, _, _, _, _, _, _ => none
  | n + 1, k0, x1, x4, x5, x6, h =>
    if 7 ≤ x6 then (
      nm (x4 + 1) fun x4_2 =>
      q17 k0 x1 x4_2 h
    ) else (
      og (ix (x5 + x6) (an (rf k0 4))) <|
      nm (sI h (rf k0 4) (x5 + x6).toNatClampNeg (-2)) fun h_5 =>
      nm (x6 + 1) fun x6_7 =>
      f_X2_replace_39 q17 n k0 x1 x4 x5 x6_7 h_5
    )
def f_X2_replace_17 : Nat → Nat → Int32 → Int32 → AH → Option AH
  | 0, _, _, _, _ => none
  | n + 1, k0, x1, x4, h =>
    if 6 ≤ x4 then (
      ov (f_J7_fill_53178 (rf k0 5) (-2) h) fun h_3 =>
      some h_3
    ) else (
      nm ((((x4 * 6) + x1) * 7)) fun x5_4 =>
      f_X2_replace_39 (f_X2_replace_17 n) FU k0 x1 x4 x5_4 0 h
    )
def f_X2_replace (k0 : Nat) (x1 : Int32) (x2 : Int32) (x3 : Int32) (h : AH) : Option AH :=
  og (ix x1 (an (rf k0 2))) <|
  nm (sI h (rf k0 2) x1.toNatClampNeg x2) fun h_2 =>
  og (ix x1 (an (rf k0 3))) <|
  nm (sI h_2 (rf k0 3) x1.toNatClampNeg x3) fun h_5 =>
  f_X2_replace_17 FU k0 x1 0 h_5
set_option maxHeartbeats 4000000 in
set_option maxRecDepth 100000 in
theorem v_X2_replace_39 {E : EV} {d : Nat} (hd : 1 ≤ d) {h0 : AH} {q17 : Nat → Int32 → Int32 → AH → Option AH} (cq17 : ∀ (k0 : Nat) (x1 : Int32) (x4 : Int32) (h : AH), q17 k0 x1 x4 h = some h0 → kd k0 = (0, 2) → V E (d + 1) K_X2_replace (ZV E h0) h [(0, .ref k0), (1, .int x1), (4, .int x4)] [] 17) : ∀ (n : Nat) (k0 : Nat) (x1 : Int32) (x4 : Int32) (x5 : Int32) (x6 : Int32) (h : AH), f_X2_replace_39 q17 n k0 x1 x4 x5 x6 h = some h0 → kd k0 = (0, 2) → V E (d + 1) K_X2_replace (ZV E h0) h [(0, .ref k0), (1, .int x1), (4, .int x4), (5, .int x5), (6, .int x6)] [] 39 := by
  intro n
  induction n with
  | zero =>
    intro k0 x1 x4 x5 x6 h hf
    rw [f_X2_replace_39] at hf
    cases hf
  | succ n ih =>
    intro k0 x1 x4 x5 x6 h hf t_k0
    rw [f_X2_replace_39] at hf
    refine V_iload 4 dX2_replace_39 rfl ?_
    refine V_bipush (v := 7) dX2_replace_41 (by decide) ?_
    refine V_ic_ge (tgt := 64) dX2_replace_43 (by decide) (fun c_1 => ?_) (fun c_1 => ?_)
    · have hf := it_s c_1 hf
      obtain ⟨x4_2, e_3, hf⟩ := nm_s hf
      refine V_iinc (a := 1) (L' := [(4, .int x4_2), (0, .ref k0), (1, .int x1), (5, .int x5), (6, .int x6)]) 2 dX2_replace_64 rfl (by decide) (Nat.le_of_ble_eq_true rfl) e_3 rfl ?_
      refine V_goto (tgt := 17) dX2_replace_67 (by decide) ?_
      refine V_sub [1, 2, 0] rfl ?_
      exact cq17 _ _ _ _ hf t_k0
    · have hf := if_s c_1 hf
      refine V_aload_n 0 dX2_replace_46 rfl rfl ?_
      refine V_getR F_X2_18 rfl t_k0 rfl dX2_replace_47 ?_
      refine V_iload 3 dX2_replace_50 rfl ?_
      refine V_iload 4 dX2_replace_52 rfl ?_
      refine V_iadd dX2_replace_54 ?_
      refine V_bipush (v := (-2)) dX2_replace_55 (by decide) ?_
      obtain ⟨b_4, hf⟩ := og_s hf
      obtain ⟨h_5, e_6, hf⟩ := nm_s hf
      refine V_iast (rfA t_k0 (Nat.le_of_ble_eq_true rfl) rfl rfl (by decide)) b_4 e_6 dX2_replace_57 ?_
      obtain ⟨x6_7, e_8, hf⟩ := nm_s hf
      refine V_iinc (a := 1) (L' := [(6, .int x6_7), (0, .ref k0), (1, .int x1), (4, .int x4), (5, .int x5)]) 4 dX2_replace_58 rfl (by decide) (Nat.le_of_ble_eq_true rfl) e_8 rfl ?_
      refine V_goto (tgt := 39) dX2_replace_61 (by decide) ?_
      refine V_sub [1, 2, 3, 4, 0] rfl ?_
      exact ih _ _ _ _ _ _ hf t_k0
set_option maxHeartbeats 4000000 in
set_option maxRecDepth 100000 in
theorem v_X2_replace_17 {E : EV} {d : Nat} (hd : 1 ≤ d) {h0 : AH} : ∀ (n : Nat) (k0 : Nat) (x1 : Int32) (x4 : Int32) (h : AH), f_X2_replace_17 n k0 x1 x4 h = some h0 → kd k0 = (0, 2) → V E (d + 1) K_X2_replace (ZV E h0) h [(0, .ref k0), (1, .int x1), (4, .int x4)] [] 17 := by
  intro n
  induction n with
  | zero =>
    intro k0 x1 x4 h hf
    rw [f_X2_replace_17] at hf
    cases hf
  | succ n ih =>
    intro k0 x1 x4 h hf t_k0
    rw [f_X2_replace_17] at hf
    refine V_iload 2 dX2_replace_17 rfl ?_
    refine V_bipush (v := 6) dX2_replace_19 (by decide) ?_
    refine V_ic_ge (tgt := 70) dX2_replace_21 (by decide) (fun c_1 => ?_) (fun c_1 => ?_)
    · have hf := it_s c_1 hf
      refine V_aload_n 0 dX2_replace_70 rfl rfl ?_
      refine V_getR F_X2_21 rfl t_k0 rfl dX2_replace_71 ?_
      refine V_bipush (v := (-2)) dX2_replace_74 (by decide) ?_
      obtain ⟨h_3, e_2, hf⟩ := ov_s hf
      refine V_csv (As := [.ref (rf k0 5), .int (-2)]) (rest := []) (c_J7_fill_53178 (d := d) (Nat.le_trans (Nat.le_of_ble_eq_true rfl) hd) e_2 (rfA t_k0 (Nat.le_of_ble_eq_true rfl) rfl rfl (by decide))) ML_X2_55 MS_J7_fill_53178 rfl rfl rfl (Nat.le_of_ble_eq_true rfl) dX2_replace_76 ?_
      exact V_vret rfl (so_s hf) dX2_replace_79
    · have hf := if_s c_1 hf
      refine V_iload 2 dX2_replace_24 rfl ?_
      refine V_bipush (v := 6) dX2_replace_26 (by decide) ?_
      refine V_imul dX2_replace_28 ?_
      refine V_iload_n 1 dX2_replace_29 rfl rfl ?_
      refine V_iadd dX2_replace_30 ?_
      refine V_bipush (v := 7) dX2_replace_31 (by decide) ?_
      refine V_imul dX2_replace_33 ?_
      obtain ⟨x5_4, e_5, hf⟩ := nm_s hf
      refine V_istore (L' := [(5, .int x5_4), (0, .ref k0), (1, .int x1), (4, .int x4)]) dX2_replace_34 (Nat.le_of_ble_eq_true rfl) e_5 rfl ?_
      refine V_iconst (v := 0) dX2_replace_36 (by decide) ?_
      refine V_istore (L' := [(6, .int 0), (5, .int x5_4), (0, .ref k0), (1, .int x1), (4, .int x4)]) dX2_replace_37 (Nat.le_of_ble_eq_true rfl) rfl rfl ?_
      refine V_sub [2, 3, 4, 1, 0] rfl ?_
      exact v_X2_replace_39 hd ih FU _ _ _ _ _ _ hf t_k0
set_option maxHeartbeats 4000000 in
set_option maxRecDepth 100000 in
theorem c_X2_replace {E : EV} {d : Nat} (hd : 1 + 1 ≤ d) {k0 : Nat} {x1 : Int32} {x2 : Int32} {x3 : Int32} {h : AH} {h0 : AH} (hf : f_X2_replace k0 x1 x2 x3 h = some h0) (t_k0 : kd k0 = (0, 2)) : Con E d K_X2_replace (ZV E h0) [.ref k0, .int x1, .int x2, .int x3] h := by
  obtain ⟨d, rfl⟩ : ∃ d', d = d' + 1 := ⟨d - 1, by omega⟩
  have hd := Nat.le_of_succ_le_succ hd
  refine Con.ofV rfl (Nat.le_of_ble_eq_true rfl) ?_
  unfold f_X2_replace at hf
  show V E (d + 1) K_X2_replace (ZV E h0) h [(0, .ref k0), (1, .int x1), (2, .int x2), (3, .int x3)] [] 0
  refine V_aload_n 0 dX2_replace_0 rfl rfl ?_
  refine V_getR F_X2_9 rfl t_k0 rfl dX2_replace_1 ?_
  refine V_iload_n 1 dX2_replace_4 rfl rfl ?_
  refine V_iload_n 2 dX2_replace_5 rfl rfl ?_
  obtain ⟨b_1, hf⟩ := og_s hf
  obtain ⟨h_2, e_3, hf⟩ := nm_s hf
  refine V_iast (rfA t_k0 (Nat.le_of_ble_eq_true rfl) rfl rfl (by decide)) b_1 e_3 dX2_replace_6 ?_
  refine V_aload_n 0 dX2_replace_7 rfl rfl ?_
  refine V_getR F_X2_15 rfl t_k0 rfl dX2_replace_8 ?_
  refine V_iload_n 1 dX2_replace_11 rfl rfl ?_
  refine V_iload_n 3 dX2_replace_12 rfl rfl ?_
  obtain ⟨b_4, hf⟩ := og_s hf
  obtain ⟨h_5, e_6, hf⟩ := nm_s hf
  refine V_iast (rfA t_k0 (Nat.le_of_ble_eq_true rfl) rfl rfl (by decide)) b_4 e_6 dX2_replace_13 ?_
  refine V_iconst (v := 0) dX2_replace_14 (by decide) ?_
  refine V_istore (L' := [(4, .int 0), (0, .ref k0), (1, .int x1), (2, .int x2), (3, .int x3)]) dX2_replace_15 (Nat.le_of_ble_eq_true rfl) rfl rfl ?_
  refine V_sub [1, 2, 0] rfl ?_
  exact v_X2_replace_17 hd FU _ _ _ _ hf t_k0
theorem dX2_isEverTaken_0 : decode cX2_isEverTaken 0 = .ok (.iconst 1, 1) := by decide +kernel
theorem dX2_isEverTaken_1 : decode cX2_isEverTaken 1 = .ok (.istore_n 3, 1) := by decide +kernel
theorem dX2_isEverTaken_2 : decode cX2_isEverTaken 2 = .ok (.iload_n 3, 1) := by decide +kernel
theorem dX2_isEverTaken_3 : decode cX2_isEverTaken 3 = .ok (.bipush 7, 2) := by decide +kernel
theorem dX2_isEverTaken_5 : decode cX2_isEverTaken 5 = .ok (.if_icmp .ge 21, 3) := by decide +kernel
theorem dX2_isEverTaken_8 : decode cX2_isEverTaken 8 = .ok (.aload_n 0, 1) := by decide +kernel
theorem dX2_isEverTaken_9 : decode cX2_isEverTaken 9 = .ok (.iload_n 1, 1) := by decide +kernel
theorem dX2_isEverTaken_10 : decode cX2_isEverTaken 10 = .ok (.iload_n 2, 1) := by decide +kernel
theorem dX2_isEverTaken_11 : decode cX2_isEverTaken 11 = .ok (.iload_n 3, 1) := by decide +kernel
theorem dX2_isEverTaken_12 : decode cX2_isEverTaken 12 = .ok (.invokevirtual 71, 3) := by decide +kernel
theorem dX2_isEverTaken_15 : decode cX2_isEverTaken 15 = .ok (.ifCond .le 5, 3) := by decide +kernel
theorem dX2_isEverTaken_18 : decode cX2_isEverTaken 18 = .ok (.iconst 1, 1) := by decide +kernel
theorem dX2_isEverTaken_19 : decode cX2_isEverTaken 19 = .ok (.ireturn, 1) := by decide +kernel
theorem dX2_isEverTaken_20 : decode cX2_isEverTaken 20 = .ok (.iinc 3 1, 3) := by decide +kernel
theorem dX2_isEverTaken_23 : decode cX2_isEverTaken 23 = .ok (.goto (-21), 3) := by decide +kernel
theorem dX2_isEverTaken_26 : decode cX2_isEverTaken 26 = .ok (.iconst 0, 1) := by decide +kernel
theorem dX2_isEverTaken_27 : decode cX2_isEverTaken 27 = .ok (.ireturn, 1) := by decide +kernel
def f_X2_isEverTaken_2 : Nat → Nat → Int32 → Int32 → Int32 → AH → Option (Int32 × AH)
  | 0, _, _, _, _, _ => none
  | n + 1, k0, x1, x2, x3, h =>
    if 7 ≤ x3 then (
      some (0, h)
    ) else (
      ob (f_X2_desire k0 x1 x2 x3 h) fun r_4 h_3 =>
      if r_4 ≤ 0 then (
        nm (x3 + 1) fun x3_6 =>
        f_X2_isEverTaken_2 n k0 x1 x2 x3_6 h_3
      ) else (
        some (1, h_3)
      )
    )
def f_X2_isEverTaken (k0 : Nat) (x1 : Int32) (x2 : Int32) (h : AH) : Option (Int32 × AH) :=
  f_X2_isEverTaken_2 FU k0 x1 x2 1 h
set_option maxHeartbeats 4000000 in
set_option maxRecDepth 100000 in
theorem v_X2_isEverTaken_2 {E : EV} {d : Nat} (hd : 3 ≤ d) {r0 : Int32} {h0 : AH} : ∀ (n : Nat) (k0 : Nat) (x1 : Int32) (x2 : Int32) (x3 : Int32) (h : AH), f_X2_isEverTaken_2 n k0 x1 x2 x3 h = some (r0, h0) → kd k0 = (0, 2) → V E (d + 1) K_X2_isEverTaken (ZI E r0 h0) h [(0, .ref k0), (1, .int x1), (2, .int x2), (3, .int x3)] [] 2 := by
  intro n
  induction n with
  | zero =>
    intro k0 x1 x2 x3 h hf
    rw [f_X2_isEverTaken_2] at hf
    cases hf
  | succ n ih =>
    intro k0 x1 x2 x3 h hf t_k0
    rw [f_X2_isEverTaken_2] at hf
    refine V_iload_n 3 dX2_isEverTaken_2 rfl rfl ?_
    refine V_bipush (v := 7) dX2_isEverTaken_3 (by decide) ?_
    refine V_ic_ge (tgt := 26) dX2_isEverTaken_5 (by decide) (fun c_1 => ?_) (fun c_1 => ?_)
    · have hf := it_s c_1 hf
      refine V_iconst (v := 0) dX2_isEverTaken_26 (by decide) ?_
      exact V_zret rfl (by decide) (so_s hf) dX2_isEverTaken_27
    · have hf := if_s c_1 hf
      refine V_aload_n 0 dX2_isEverTaken_8 rfl rfl ?_
      refine V_iload_n 1 dX2_isEverTaken_9 rfl rfl ?_
      refine V_iload_n 2 dX2_isEverTaken_10 rfl rfl ?_
      refine V_iload_n 3 dX2_isEverTaken_11 rfl rfl ?_
      obtain ⟨r_4, h_3, e_2, hf⟩ := ob_s hf
      refine V_cvi (As := [.int x1, .int x2, .int x3]) (rest := []) (c_X2_desire (d := d) (Nat.le_trans (Nat.le_of_ble_eq_true rfl) hd) e_2 t_k0) ML_X2_71 MV_X2_desire rfl t_k0 rfl rfl (Nat.le_of_ble_eq_true rfl) dX2_isEverTaken_12 ?_
      refine V_if_le (tgt := 20) dX2_isEverTaken_15 (by decide) (fun c_5 => ?_) (fun c_5 => ?_)
      · have hf := it_s c_5 hf
        obtain ⟨x3_6, e_7, hf⟩ := nm_s hf
        refine V_iinc (a := 1) (L' := [(3, .int x3_6), (0, .ref k0), (1, .int x1), (2, .int x2)]) 3 dX2_isEverTaken_20 rfl (by decide) (Nat.le_of_ble_eq_true rfl) e_7 rfl ?_
        refine V_goto (tgt := 2) dX2_isEverTaken_23 (by decide) ?_
        refine V_sub [1, 2, 3, 0] rfl ?_
        exact ih _ _ _ _ _ hf t_k0
      · have hf := if_s c_5 hf
        refine V_iconst (v := 1) dX2_isEverTaken_18 (by decide) ?_
        exact V_zret rfl (by decide) (so_s hf) dX2_isEverTaken_19
set_option maxHeartbeats 4000000 in
set_option maxRecDepth 100000 in
theorem c_X2_isEverTaken {E : EV} {d : Nat} (hd : 3 + 1 ≤ d) {k0 : Nat} {x1 : Int32} {x2 : Int32} {h : AH} {r0 : Int32} {h0 : AH} (hf : f_X2_isEverTaken k0 x1 x2 h = some (r0, h0)) (t_k0 : kd k0 = (0, 2)) : Con E d K_X2_isEverTaken (ZI E r0 h0) [.ref k0, .int x1, .int x2] h := by
  obtain ⟨d, rfl⟩ : ∃ d', d = d' + 1 := ⟨d - 1, by omega⟩
  have hd := Nat.le_of_succ_le_succ hd
  refine Con.ofV rfl (Nat.le_of_ble_eq_true rfl) ?_
  unfold f_X2_isEverTaken at hf
  show V E (d + 1) K_X2_isEverTaken (ZI E r0 h0) h [(0, .ref k0), (1, .int x1), (2, .int x2)] [] 0
  refine V_iconst (v := 1) dX2_isEverTaken_0 (by decide) ?_
  refine V_istore_n (L' := [(3, .int 1), (0, .ref k0), (1, .int x1), (2, .int x2)]) dX2_isEverTaken_1 rfl (Nat.le_of_ble_eq_true rfl) rfl rfl ?_
  refine V_sub [1, 2, 3, 0] rfl ?_
  exact v_X2_isEverTaken_2 hd FU _ _ _ _ _ hf t_k0
theorem dX5_countOrders_0 : decode cX5_countOrders 0 = .ok (.aload_n 0, 1) := by decide +kernel
theorem dX5_countOrders_1 : decode cX5_countOrders 1 = .ok (.iload_n 1, 1) := by decide +kernel
theorem dX5_countOrders_2 : decode cX5_countOrders 2 = .ok (.iload_n 2, 1) := by decide +kernel
theorem dX5_countOrders_3 : decode cX5_countOrders 3 = .ok (.invokevirtual 68, 3) := by decide +kernel
theorem dX5_countOrders_6 : decode cX5_countOrders 6 = .ok (.istore 5, 2) := by decide +kernel
theorem dX5_countOrders_8 : decode cX5_countOrders 8 = .ok (.iconst 0, 1) := by decide +kernel
theorem dX5_countOrders_9 : decode cX5_countOrders 9 = .ok (.istore 6, 2) := by decide +kernel
theorem dX5_countOrders_11 : decode cX5_countOrders 11 = .ok (.iconst 0, 1) := by decide +kernel
theorem dX5_countOrders_12 : decode cX5_countOrders 12 = .ok (.istore 7, 2) := by decide +kernel
theorem dX5_countOrders_14 : decode cX5_countOrders 14 = .ok (.iconst 0, 1) := by decide +kernel
theorem dX5_countOrders_15 : decode cX5_countOrders 15 = .ok (.istore 8, 2) := by decide +kernel
theorem dX5_countOrders_17 : decode cX5_countOrders 17 = .ok (.iload 8, 2) := by decide +kernel
theorem dX5_countOrders_19 : decode cX5_countOrders 19 = .ok (.iload 5, 2) := by decide +kernel
theorem dX5_countOrders_21 : decode cX5_countOrders 21 = .ok (.if_icmp .ge 42, 3) := by decide +kernel
theorem dX5_countOrders_24 : decode cX5_countOrders 24 = .ok (.aload_n 0, 1) := by decide +kernel
theorem dX5_countOrders_25 : decode cX5_countOrders 25 = .ok (.iload 7, 2) := by decide +kernel
theorem dX5_countOrders_27 : decode cX5_countOrders 27 = .ok (.invokevirtual 71, 3) := by decide +kernel
theorem dX5_countOrders_30 : decode cX5_countOrders 30 = .ok (.iload 6, 2) := by decide +kernel
theorem dX5_countOrders_32 : decode cX5_countOrders 32 = .ok (.aload_n 0, 1) := by decide +kernel
theorem dX5_countOrders_33 : decode cX5_countOrders 33 = .ok (.getfield 15, 3) := by decide +kernel
theorem dX5_countOrders_36 : decode cX5_countOrders 36 = .ok (.iload_n 3, 1) := by decide +kernel
theorem dX5_countOrders_37 : decode cX5_countOrders 37 = .ok (.iaload, 1) := by decide +kernel
theorem dX5_countOrders_38 : decode cX5_countOrders 38 = .ok (.iload 4, 2) := by decide +kernel
theorem dX5_countOrders_40 : decode cX5_countOrders 40 = .ok (.if_icmp .ne 7, 3) := by decide +kernel
theorem dX5_countOrders_43 : decode cX5_countOrders 43 = .ok (.iconst 1, 1) := by decide +kernel
theorem dX5_countOrders_44 : decode cX5_countOrders 44 = .ok (.goto 4, 3) := by decide +kernel
theorem dX5_countOrders_47 : decode cX5_countOrders 47 = .ok (.iconst 0, 1) := by decide +kernel
theorem dX5_countOrders_48 : decode cX5_countOrders 48 = .ok (.iadd, 1) := by decide +kernel
theorem dX5_countOrders_49 : decode cX5_countOrders 49 = .ok (.istore 6, 2) := by decide +kernel
theorem dX5_countOrders_51 : decode cX5_countOrders 51 = .ok (.aload_n 0, 1) := by decide +kernel
theorem dX5_countOrders_52 : decode cX5_countOrders 52 = .ok (.invokevirtual 74, 3) := by decide +kernel
theorem dX5_countOrders_55 : decode cX5_countOrders 55 = .ok (.istore 7, 2) := by decide +kernel
theorem dX5_countOrders_57 : decode cX5_countOrders 57 = .ok (.iinc 8 1, 3) := by decide +kernel
theorem dX5_countOrders_60 : decode cX5_countOrders 60 = .ok (.goto (-43), 3) := by decide +kernel
theorem dX5_countOrders_63 : decode cX5_countOrders 63 = .ok (.iload 6, 2) := by decide +kernel
theorem dX5_countOrders_65 : decode cX5_countOrders 65 = .ok (.ireturn, 1) := by decide +kernel
theorem ML_X5_74 : MLk RX5 74 yX5_advance := Or.inl ml_X5_74
theorem ML_X5_71 : MLk RX5 71 yX5_go := Or.inl ml_X5_71
theorem ML_X5_68 : MLk RX5 68 yX5_first := Or.inl ml_X5_68
def f_X5_countOrders_48 (q17 : Nat → Int32 → Int32 → Int32 → Int32 → Int32 → Int32 → AH → Option (Int32 × AH)) (k0 : Nat) (x3 : Int32) (x4 : Int32) (x5 : Int32) (x8 : Int32) (s0 : Int32) (s1 : Int32) (h : AH) : Option (Int32 × AH) :=
  nm ((s1 + s0)) fun x6_1 =>
  ob (f_X5_advance k0 h) fun r_5 h_4 =>
  nm (x8 + 1) fun x8_6 =>
  q17 k0 x3 x4 x5 x6_1 r_5 x8_6 h_4
def f_X5_countOrders_17 : Nat → Nat → Int32 → Int32 → Int32 → Int32 → Int32 → Int32 → AH → Option (Int32 × AH)
  | 0, _, _, _, _, _, _, _, _ => none
  | n + 1, k0, x3, x4, x5, x6, x7, x8, h =>
    if x5 ≤ x8 then (
      some (x6, h)
    ) else (
      ov (f_X5_go k0 x7 h) fun h_3 =>
      og (ix x3 (an (rf k0 3))) <|
      if (h_3.1 (rf k0 3) x3.toNatClampNeg) = x4 then (
        f_X5_countOrders_48 (f_X5_countOrders_17 n) k0 x3 x4 x5 x8 1 x6 h_3
      ) else (
        f_X5_countOrders_48 (f_X5_countOrders_17 n) k0 x3 x4 x5 x8 0 x6 h_3
      )
    )
def f_X5_countOrders (k0 : Nat) (x1 : Int32) (x2 : Int32) (x3 : Int32) (x4 : Int32) (h : AH) : Option (Int32 × AH) :=
  ob (f_X5_first k0 x1 x2 h) fun r_3 h_2 =>
  f_X5_countOrders_17 FU k0 x3 x4 r_3 0 0 0 h_2
set_option maxHeartbeats 4000000 in
set_option maxRecDepth 100000 in
theorem v_X5_countOrders_48 {E : EV} {d : Nat} (hd : 5 ≤ d) {r0 : Int32} {h0 : AH} {q17 : Nat → Int32 → Int32 → Int32 → Int32 → Int32 → Int32 → AH → Option (Int32 × AH)} (cq17 : ∀ (k0 : Nat) (x3 : Int32) (x4 : Int32) (x5 : Int32) (x6 : Int32) (x7 : Int32) (x8 : Int32) (h : AH), q17 k0 x3 x4 x5 x6 x7 x8 h = some (r0, h0) → kd k0 = (0, 5) → V E (d + 1) K_X5_countOrders (ZI E r0 h0) h [(0, .ref k0), (3, .int x3), (4, .int x4), (5, .int x5), (6, .int x6), (7, .int x7), (8, .int x8)] [] 17) {k0 : Nat} {x3 : Int32} {x4 : Int32} {x5 : Int32} {x8 : Int32} {s0 : Int32} {s1 : Int32} {h : AH} (hf : f_X5_countOrders_48 q17 k0 x3 x4 x5 x8 s0 s1 h = some (r0, h0)) (t_k0 : kd k0 = (0, 5)) : V E (d + 1) K_X5_countOrders (ZI E r0 h0) h [(0, .ref k0), (3, .int x3), (4, .int x4), (5, .int x5), (8, .int x8)] [.int s0, .int s1] 48 := by
  unfold f_X5_countOrders_48 at hf
  refine V_iadd dX5_countOrders_48 ?_
  obtain ⟨x6_1, e_2, hf⟩ := nm_s hf
  refine V_istore (L' := [(6, .int x6_1), (0, .ref k0), (3, .int x3), (4, .int x4), (5, .int x5), (8, .int x8)]) dX5_countOrders_49 (Nat.le_of_ble_eq_true rfl) e_2 rfl ?_
  refine V_aload_n 1 dX5_countOrders_51 rfl rfl ?_
  obtain ⟨r_5, h_4, e_3, hf⟩ := ob_s hf
  refine V_cvi (As := []) (rest := []) (c_X5_advance (d := d) (Nat.le_trans (Nat.le_of_ble_eq_true rfl) hd) e_3 t_k0) ML_X5_74 MV_X5_advance rfl t_k0 rfl rfl (Nat.le_of_ble_eq_true rfl) dX5_countOrders_52 ?_
  refine V_istore (L' := [(7, .int r_5), (6, .int x6_1), (0, .ref k0), (3, .int x3), (4, .int x4), (5, .int x5), (8, .int x8)]) dX5_countOrders_55 (Nat.le_of_ble_eq_true rfl) rfl rfl ?_
  obtain ⟨x8_6, e_7, hf⟩ := nm_s hf
  refine V_iinc (a := 1) (L' := [(8, .int x8_6), (7, .int r_5), (6, .int x6_1), (0, .ref k0), (3, .int x3), (4, .int x4), (5, .int x5)]) 6 dX5_countOrders_57 rfl (by decide) (Nat.le_of_ble_eq_true rfl) e_7 rfl ?_
  refine V_goto (tgt := 17) dX5_countOrders_60 (by decide) ?_
  refine V_sub [3, 4, 5, 6, 2, 1, 0] rfl ?_
  exact cq17 _ _ _ _ _ _ _ _ hf t_k0
set_option maxHeartbeats 4000000 in
set_option maxRecDepth 100000 in
theorem v_X5_countOrders_17 {E : EV} {d : Nat} (hd : 5 ≤ d) {r0 : Int32} {h0 : AH} : ∀ (n : Nat) (k0 : Nat) (x3 : Int32) (x4 : Int32) (x5 : Int32) (x6 : Int32) (x7 : Int32) (x8 : Int32) (h : AH), f_X5_countOrders_17 n k0 x3 x4 x5 x6 x7 x8 h = some (r0, h0) → kd k0 = (0, 5) → V E (d + 1) K_X5_countOrders (ZI E r0 h0) h [(0, .ref k0), (3, .int x3), (4, .int x4), (5, .int x5), (6, .int x6), (7, .int x7), (8, .int x8)] [] 17 := by
  intro n
  induction n with
  | zero =>
    intro k0 x3 x4 x5 x6 x7 x8 h hf
    rw [f_X5_countOrders_17] at hf
    cases hf
  | succ n ih =>
    intro k0 x3 x4 x5 x6 x7 x8 h hf t_k0
    rw [f_X5_countOrders_17] at hf
    refine V_iload 6 dX5_countOrders_17 rfl ?_
    refine V_iload 3 dX5_countOrders_19 rfl ?_
    refine V_ic_ge (tgt := 63) dX5_countOrders_21 (by decide) (fun c_1 => ?_) (fun c_1 => ?_)
    · have hf := it_s c_1 hf
      refine V_iload 4 dX5_countOrders_63 rfl ?_
      exact V_iret rfl (so_s hf) dX5_countOrders_65
    · have hf := if_s c_1 hf
      refine V_aload_n 0 dX5_countOrders_24 rfl rfl ?_
      refine V_iload 5 dX5_countOrders_25 rfl ?_
      obtain ⟨h_3, e_2, hf⟩ := ov_s hf
      refine V_cvv (As := [.int x7]) (rest := []) (c_X5_go (d := d) (Nat.le_trans (Nat.le_of_ble_eq_true rfl) hd) e_2 t_k0) ML_X5_71 MV_X5_go rfl t_k0 rfl rfl (Nat.le_of_ble_eq_true rfl) dX5_countOrders_27 ?_
      refine V_iload 4 dX5_countOrders_30 rfl ?_
      refine V_aload_n 0 dX5_countOrders_32 rfl rfl ?_
      refine V_getR F_X5_15 rfl t_k0 rfl dX5_countOrders_33 ?_
      refine V_iload_n 1 dX5_countOrders_36 rfl rfl ?_
      obtain ⟨b_4, hf⟩ := og_s hf
      refine V_iald (rfA t_k0 (Nat.le_of_ble_eq_true rfl) rfl rfl (by decide)) b_4 dX5_countOrders_37 ?_
      refine V_iload 2 dX5_countOrders_38 rfl ?_
      refine V_ic_ne (tgt := 47) dX5_countOrders_40 (by decide) (fun c_5 => ?_) (fun c_5 => ?_)
      · have hf := if_s c_5 hf
        refine V_iconst (v := 0) dX5_countOrders_47 (by decide) ?_
        refine V_sub [0, 1, 2, 3, 6] rfl ?_
        exact v_X5_countOrders_48 hd ih hf t_k0
      · have hf := it_s c_5 hf
        refine V_iconst (v := 1) dX5_countOrders_43 (by decide) ?_
        refine V_goto (tgt := 48) dX5_countOrders_44 (by decide) ?_
        refine V_sub [0, 1, 2, 3, 6] rfl ?_
        exact v_X5_countOrders_48 hd ih hf t_k0
set_option maxHeartbeats 4000000 in
set_option maxRecDepth 100000 in
theorem c_X5_countOrders {E : EV} {d : Nat} (hd : 5 + 1 ≤ d) {k0 : Nat} {x1 : Int32} {x2 : Int32} {x3 : Int32} {x4 : Int32} {h : AH} {r0 : Int32} {h0 : AH} (hf : f_X5_countOrders k0 x1 x2 x3 x4 h = some (r0, h0)) (t_k0 : kd k0 = (0, 5)) : Con E d K_X5_countOrders (ZI E r0 h0) [.ref k0, .int x1, .int x2, .int x3, .int x4] h := by
  obtain ⟨d, rfl⟩ : ∃ d', d = d' + 1 := ⟨d - 1, by omega⟩
  have hd := Nat.le_of_succ_le_succ hd
  refine Con.ofV rfl (Nat.le_of_ble_eq_true rfl) ?_
  unfold f_X5_countOrders at hf
  show V E (d + 1) K_X5_countOrders (ZI E r0 h0) h [(0, .ref k0), (1, .int x1), (2, .int x2), (3, .int x3), (4, .int x4)] [] 0
  refine V_aload_n 0 dX5_countOrders_0 rfl rfl ?_
  refine V_iload_n 1 dX5_countOrders_1 rfl rfl ?_
  refine V_iload_n 2 dX5_countOrders_2 rfl rfl ?_
  obtain ⟨r_3, h_2, e_1, hf⟩ := ob_s hf
  refine V_cvi (As := [.int x1, .int x2]) (rest := []) (c_X5_first (d := d) (Nat.le_trans (Nat.le_of_ble_eq_true rfl) hd) e_1 t_k0) ML_X5_68 MV_X5_first rfl t_k0 rfl rfl (Nat.le_of_ble_eq_true rfl) dX5_countOrders_3 ?_
  refine V_istore (L' := [(5, .int r_3), (0, .ref k0), (1, .int x1), (2, .int x2), (3, .int x3), (4, .int x4)]) dX5_countOrders_6 (Nat.le_of_ble_eq_true rfl) rfl rfl ?_
  refine V_iconst (v := 0) dX5_countOrders_8 (by decide) ?_
  refine V_istore (L' := [(6, .int 0), (5, .int r_3), (0, .ref k0), (1, .int x1), (2, .int x2), (3, .int x3), (4, .int x4)]) dX5_countOrders_9 (Nat.le_of_ble_eq_true rfl) rfl rfl ?_
  refine V_iconst (v := 0) dX5_countOrders_11 (by decide) ?_
  refine V_istore (L' := [(7, .int 0), (6, .int 0), (5, .int r_3), (0, .ref k0), (1, .int x1), (2, .int x2), (3, .int x3), (4, .int x4)]) dX5_countOrders_12 (Nat.le_of_ble_eq_true rfl) rfl rfl ?_
  refine V_iconst (v := 0) dX5_countOrders_14 (by decide) ?_
  refine V_istore (L' := [(8, .int 0), (7, .int 0), (6, .int 0), (5, .int r_3), (0, .ref k0), (1, .int x1), (2, .int x2), (3, .int x3), (4, .int x4)]) dX5_countOrders_15 (Nat.le_of_ble_eq_true rfl) rfl rfl ?_
  refine V_sub [4, 7, 8, 3, 2, 1, 0] rfl ?_
  exact v_X5_countOrders_17 hd FU _ _ _ _ _ _ _ _ hf t_k0
theorem dX11_cobbler_0 : decode cX11_cobbler 0 = .ok (.aload_n 0, 1) := by decide +kernel
theorem dX11_cobbler_1 : decode cX11_cobbler 1 = .ok (.iload_n 1, 1) := by decide +kernel
theorem dX11_cobbler_2 : decode cX11_cobbler 2 = .ok (.iload_n 2, 1) := by decide +kernel
theorem dX11_cobbler_3 : decode cX11_cobbler 3 = .ok (.invokevirtual 182, 3) := by decide +kernel
theorem dX11_cobbler_6 : decode cX11_cobbler 6 = .ok (.ifCond .eq 35, 3) := by decide +kernel
theorem dX11_cobbler_9 : decode cX11_cobbler 9 = .ok (.aload_n 0, 1) := by decide +kernel
theorem dX11_cobbler_10 : decode cX11_cobbler 10 = .ok (.iload_n 2, 1) := by decide +kernel
theorem dX11_cobbler_11 : decode cX11_cobbler 11 = .ok (.iload_n 3, 1) := by decide +kernel
theorem dX11_cobbler_12 : decode cX11_cobbler 12 = .ok (.invokevirtual 217, 3) := by decide +kernel
theorem dX11_cobbler_15 : decode cX11_cobbler 15 = .ok (.ifCond .eq 26, 3) := by decide +kernel
theorem dX11_cobbler_18 : decode cX11_cobbler 18 = .ok (.iload 4, 2) := by decide +kernel
theorem dX11_cobbler_20 : decode cX11_cobbler 20 = .ok (.ifCond .lt 21, 3) := by decide +kernel
theorem dX11_cobbler_23 : decode cX11_cobbler 23 = .ok (.iload 4, 2) := by decide +kernel
theorem dX11_cobbler_25 : decode cX11_cobbler 25 = .ok (.bipush 99, 2) := by decide +kernel
theorem dX11_cobbler_27 : decode cX11_cobbler 27 = .ok (.if_icmp .gt 14, 3) := by decide +kernel
theorem dX11_cobbler_30 : decode cX11_cobbler 30 = .ok (.iload 5, 2) := by decide +kernel
theorem dX11_cobbler_32 : decode cX11_cobbler 32 = .ok (.ifCond .lt 9, 3) := by decide +kernel
theorem dX11_cobbler_35 : decode cX11_cobbler 35 = .ok (.iload 5, 2) := by decide +kernel
theorem dX11_cobbler_37 : decode cX11_cobbler 37 = .ok (.iconst 1, 1) := by decide +kernel
theorem dX11_cobbler_38 : decode cX11_cobbler 38 = .ok (.if_icmp .le 5, 3) := by decide +kernel
theorem dX11_cobbler_41 : decode cX11_cobbler 41 = .ok (.iconst (-1), 1) := by decide +kernel
theorem dX11_cobbler_42 : decode cX11_cobbler 42 = .ok (.ireturn, 1) := by decide +kernel
theorem dX11_cobbler_43 : decode cX11_cobbler 43 = .ok (.aload_n 0, 1) := by decide +kernel
theorem dX11_cobbler_44 : decode cX11_cobbler 44 = .ok (.iload_n 1, 1) := by decide +kernel
theorem dX11_cobbler_45 : decode cX11_cobbler 45 = .ok (.iload_n 2, 1) := by decide +kernel
theorem dX11_cobbler_46 : decode cX11_cobbler 46 = .ok (.invokevirtual 195, 3) := by decide +kernel
theorem dX11_cobbler_49 : decode cX11_cobbler 49 = .ok (.istore 6, 2) := by decide +kernel
theorem dX11_cobbler_51 : decode cX11_cobbler 51 = .ok (.aload_n 0, 1) := by decide +kernel
theorem dX11_cobbler_52 : decode cX11_cobbler 52 = .ok (.getfield 45, 3) := by decide +kernel
theorem dX11_cobbler_55 : decode cX11_cobbler 55 = .ok (.getfield 166, 3) := by decide +kernel
theorem dX11_cobbler_58 : decode cX11_cobbler 58 = .ok (.iload_n 3, 1) := by decide +kernel
theorem dX11_cobbler_59 : decode cX11_cobbler 59 = .ok (.iaload, 1) := by decide +kernel
theorem dX11_cobbler_60 : decode cX11_cobbler 60 = .ok (.iconst (-1), 1) := by decide +kernel
theorem dX11_cobbler_61 : decode cX11_cobbler 61 = .ok (.if_icmp .eq 21, 3) := by decide +kernel
theorem dX11_cobbler_64 : decode cX11_cobbler 64 = .ok (.iload 6, 2) := by decide +kernel
theorem dX11_cobbler_66 : decode cX11_cobbler 66 = .ok (.iconst 1, 1) := by decide +kernel
theorem dX11_cobbler_67 : decode cX11_cobbler 67 = .ok (.aload_n 0, 1) := by decide +kernel
theorem dX11_cobbler_68 : decode cX11_cobbler 68 = .ok (.getfield 45, 3) := by decide +kernel
theorem dX11_cobbler_71 : decode cX11_cobbler 71 = .ok (.getfield 166, 3) := by decide +kernel
theorem dX11_cobbler_74 : decode cX11_cobbler 74 = .ok (.iload_n 3, 1) := by decide +kernel
theorem dX11_cobbler_75 : decode cX11_cobbler 75 = .ok (.iaload, 1) := by decide +kernel
theorem dX11_cobbler_76 : decode cX11_cobbler 76 = .ok (.ishl, 1) := by decide +kernel
theorem dX11_cobbler_77 : decode cX11_cobbler 77 = .ok (.iconst (-1), 1) := by decide +kernel
theorem dX11_cobbler_78 : decode cX11_cobbler 78 = .ok (.ixor, 1) := by decide +kernel
theorem dX11_cobbler_79 : decode cX11_cobbler 79 = .ok (.iand, 1) := by decide +kernel
theorem dX11_cobbler_80 : decode cX11_cobbler 80 = .ok (.istore 6, 2) := by decide +kernel
theorem dX11_cobbler_82 : decode cX11_cobbler 82 = .ok (.iload 6, 2) := by decide +kernel
theorem dX11_cobbler_84 : decode cX11_cobbler 84 = .ok (.iconst 1, 1) := by decide +kernel
theorem dX11_cobbler_85 : decode cX11_cobbler 85 = .ok (.iload_n 3, 1) := by decide +kernel
theorem dX11_cobbler_86 : decode cX11_cobbler 86 = .ok (.ishl, 1) := by decide +kernel
theorem dX11_cobbler_87 : decode cX11_cobbler 87 = .ok (.ior, 1) := by decide +kernel
theorem dX11_cobbler_88 : decode cX11_cobbler 88 = .ok (.istore 6, 2) := by decide +kernel
theorem dX11_cobbler_90 : decode cX11_cobbler 90 = .ok (.bipush 20, 2) := by decide +kernel
theorem dX11_cobbler_92 : decode cX11_cobbler 92 = .ok (.istore 7, 2) := by decide +kernel
theorem dX11_cobbler_94 : decode cX11_cobbler 94 = .ok (.iconst 0, 1) := by decide +kernel
theorem dX11_cobbler_95 : decode cX11_cobbler 95 = .ok (.istore 8, 2) := by decide +kernel
theorem dX11_cobbler_97 : decode cX11_cobbler 97 = .ok (.bipush 20, 2) := by decide +kernel
theorem dX11_cobbler_99 : decode cX11_cobbler 99 = .ok (.istore 9, 2) := by decide +kernel
theorem dX11_cobbler_101 : decode cX11_cobbler 101 = .ok (.iload 9, 2) := by decide +kernel
theorem dX11_cobbler_103 : decode cX11_cobbler 103 = .ok (.bipush 50, 2) := by decide +kernel
theorem dX11_cobbler_105 : decode cX11_cobbler 105 = .ok (.if_icmp .gt 66, 3) := by decide +kernel
theorem dX11_cobbler_108 : decode cX11_cobbler 108 = .ok (.aload_n 0, 1) := by decide +kernel
theorem dX11_cobbler_109 : decode cX11_cobbler 109 = .ok (.getfield 64, 3) := by decide +kernel
theorem dX11_cobbler_112 : decode cX11_cobbler 112 = .ok (.iload_n 3, 1) := by decide +kernel
theorem dX11_cobbler_113 : decode cX11_cobbler 113 = .ok (.iload 9, 2) := by decide +kernel
theorem dX11_cobbler_115 : decode cX11_cobbler 115 = .ok (.iload 4, 2) := by decide +kernel
theorem dX11_cobbler_117 : decode cX11_cobbler 117 = .ok (.invokevirtual 297, 3) := by decide +kernel
theorem dX11_cobbler_120 : decode cX11_cobbler 120 = .ok (.aload_n 0, 1) := by decide +kernel
theorem dX11_cobbler_121 : decode cX11_cobbler 121 = .ok (.getfield 64, 3) := by decide +kernel
theorem dX11_cobbler_124 : decode cX11_cobbler 124 = .ok (.iload_n 3, 1) := by decide +kernel
theorem dX11_cobbler_125 : decode cX11_cobbler 125 = .ok (.iload_n 3, 1) := by decide +kernel
theorem dX11_cobbler_126 : decode cX11_cobbler 126 = .ok (.invokevirtual 301, 3) := by decide +kernel
theorem dX11_cobbler_129 : decode cX11_cobbler 129 = .ok (.ifCond .eq 18, 3) := by decide +kernel
theorem dX11_cobbler_132 : decode cX11_cobbler 132 = .ok (.aload_n 0, 1) := by decide +kernel
theorem dX11_cobbler_133 : decode cX11_cobbler 133 = .ok (.getfield 73, 3) := by decide +kernel
theorem dX11_cobbler_136 : decode cX11_cobbler 136 = .ok (.iload 6, 2) := by decide +kernel
theorem dX11_cobbler_138 : decode cX11_cobbler 138 = .ok (.iload_n 2, 1) := by decide +kernel
theorem dX11_cobbler_139 : decode cX11_cobbler 139 = .ok (.iload_n 3, 1) := by decide +kernel
theorem dX11_cobbler_140 : decode cX11_cobbler 140 = .ok (.iload_n 3, 1) := by decide +kernel
theorem dX11_cobbler_141 : decode cX11_cobbler 141 = .ok (.invokevirtual 227, 3) := by decide +kernel
theorem dX11_cobbler_144 : decode cX11_cobbler 144 = .ok (.goto 4, 3) := by decide +kernel
theorem dX11_cobbler_147 : decode cX11_cobbler 147 = .ok (.iconst 0, 1) := by decide +kernel
theorem dX11_cobbler_148 : decode cX11_cobbler 148 = .ok (.istore 10, 2) := by decide +kernel
theorem dX11_cobbler_150 : decode cX11_cobbler 150 = .ok (.iload 10, 2) := by decide +kernel
theorem dX11_cobbler_152 : decode cX11_cobbler 152 = .ok (.iload 8, 2) := by decide +kernel
theorem dX11_cobbler_154 : decode cX11_cobbler 154 = .ok (.if_icmp .le 11, 3) := by decide +kernel
theorem dX11_cobbler_157 : decode cX11_cobbler 157 = .ok (.iload 10, 2) := by decide +kernel
theorem dX11_cobbler_159 : decode cX11_cobbler 159 = .ok (.istore 8, 2) := by decide +kernel
theorem dX11_cobbler_161 : decode cX11_cobbler 161 = .ok (.iload 9, 2) := by decide +kernel
theorem dX11_cobbler_163 : decode cX11_cobbler 163 = .ok (.istore 7, 2) := by decide +kernel
theorem dX11_cobbler_165 : decode cX11_cobbler 165 = .ok (.iinc 9 1, 3) := by decide +kernel
theorem dX11_cobbler_168 : decode cX11_cobbler 168 = .ok (.goto (-67), 3) := by decide +kernel
theorem dX11_cobbler_171 : decode cX11_cobbler 171 = .ok (.iload 5, 2) := by decide +kernel
theorem dX11_cobbler_173 : decode cX11_cobbler 173 = .ok (.ifCond .ne 8, 3) := by decide +kernel
theorem dX11_cobbler_176 : decode cX11_cobbler 176 = .ok (.iload 7, 2) := by decide +kernel
theorem dX11_cobbler_178 : decode cX11_cobbler 178 = .ok (.goto 5, 3) := by decide +kernel
theorem dX11_cobbler_181 : decode cX11_cobbler 181 = .ok (.iload 8, 2) := by decide +kernel
theorem dX11_cobbler_183 : decode cX11_cobbler 183 = .ok (.ireturn, 1) := by decide +kernel
theorem ML_X11_297 : MLk RX11 297 yX2_replace := Or.inl ml_X11_297
theorem MV_X2_replace : MVk K_X2_replace 3 2 := ⟨⟨cd_X2_replace, in_X2, ⟨by decide, by decide, by decide +kernel⟩, by decide⟩, im_X2_replace, se_X2_replace, _, _, rfl⟩
theorem ML_X11_301 : MLk RX11 301 yX2_isEverTaken := Or.inl ml_X11_301
theorem MV_X2_isEverTaken : MVk K_X2_isEverTaken 2 2 := ⟨⟨cd_X2_isEverTaken, in_X2, ⟨by decide, by decide, by decide +kernel⟩, by decide⟩, im_X2_isEverTaken, se_X2_isEverTaken, _, _, rfl⟩
theorem F_X11_73 : FLk RX11 73 11 11 := ⟨RX11, TX11, 16, rfl, rfl, iw_X11, by decide, Or.inl fl_X11_73⟩
theorem ML_X11_227 : MLk RX11 227 yX5_countOrders := Or.inl ml_X11_227
theorem MV_X5_countOrders : MVk K_X5_countOrders 4 5 := ⟨⟨cd_X5_countOrders, in_X5, ⟨by decide, by decide, by decide +kernel⟩, by decide⟩, im_X5_countOrders, se_X5_countOrders, _, _, rfl⟩
theorem ML_X11_182 : MLk RX11 182 yX11_isParty := Or.inl ml_X11_182
theorem MV_X11_isParty : MVk K_X11_isParty 2 11 := ⟨⟨cd_X11_isParty, in_X11, ⟨by decide, by decide, by decide +kernel⟩, by decide⟩, im_X11_isParty, se_X11_isParty, _, _, rfl⟩
theorem ML_X11_217 : MLk RX11 217 yX11_isGuest := Or.inl ml_X11_217
theorem MV_X11_isGuest : MVk K_X11_isGuest 2 11 := ⟨⟨cd_X11_isGuest, in_X11, ⟨by decide, by decide, by decide +kernel⟩, by decide⟩, im_X11_isGuest, se_X11_isGuest, _, _, rfl⟩
theorem ML_X11_195 : MLk RX11 195 yX11_openDoor := Or.inl ml_X11_195
theorem MV_X11_openDoor : MVk K_X11_openDoor 2 11 := ⟨⟨cd_X11_openDoor, in_X11, ⟨by decide, by decide, by decide +kernel⟩, by decide⟩, im_X11_openDoor, se_X11_openDoor, _, _, rfl⟩
theorem F_X11_166 : FLk RX11 166 9 0 := ⟨RX9, TX9, 3, rfl, rfl, iw_X9, by decide, Or.inr ⟨_, fn_X11_166⟩⟩
def f_X11_cobbler_41  (h : AH) : Option (Int32 × AH) :=
  some ((-1), h)
def f_X11_cobbler_165 (q101 : Nat → Int32 → Int32 → Int32 → Int32 → Int32 → Int32 → Int32 → Int32 → AH → Option (Int32 × AH)) (k0 : Nat) (x2 : Int32) (x3 : Int32) (x4 : Int32) (x5 : Int32) (x6 : Int32) (x7 : Int32) (x8 : Int32) (x9 : Int32) (h : AH) : Option (Int32 × AH) :=
  nm (x9 + 1) fun x9_1 =>
  q101 k0 x2 x3 x4 x5 x6 x7 x8 x9_1 h
def f_X11_cobbler_148 (q101 : Nat → Int32 → Int32 → Int32 → Int32 → Int32 → Int32 → Int32 → Int32 → AH → Option (Int32 × AH)) (k0 : Nat) (x2 : Int32) (x3 : Int32) (x4 : Int32) (x5 : Int32) (x6 : Int32) (x7 : Int32) (x8 : Int32) (x9 : Int32) (s0 : Int32) (h : AH) : Option (Int32 × AH) :=
  if s0 ≤ x8 then (
    f_X11_cobbler_165 q101 k0 x2 x3 x4 x5 x6 x7 x8 x9 h
  ) else (
    f_X11_cobbler_165 q101 k0 x2 x3 x4 x5 x6 x9 s0 x9 h
  )
def f_X11_cobbler_183 (s0 : Int32) (h : AH) : Option (Int32 × AH) :=
  some (s0, h)
def f_X11_cobbler_101 : Nat → Nat → Int32 → Int32 → Int32 → Int32 → Int32 → Int32 → Int32 → Int32 → AH → Option (Int32 × AH)
  | 0, _, _, _, _, _, _, _, _, _, _ => none
  | n + 1, k0, x2, x3, x4, x5, x6, x7, x8, x9, h =>
    if 50 < x9 then (
      if x5 = 0 then (
        f_X11_cobbler_183 x7 h
      ) else (
        f_X11_cobbler_183 x8 h
      )
    ) else (
      ov (f_X2_replace (rf k0 10) x3 x9 x4 h) fun h_4 =>
      ob (f_X2_isEverTaken (rf k0 10) x3 x3 h_4) fun r_7 h_6 =>
      if r_7 = 0 then (
        f_X11_cobbler_148 (f_X11_cobbler_101 n) k0 x2 x3 x4 x5 x6 x7 x8 x9 0 h_6
      ) else (
        ob (f_X5_countOrders (rf k0 11) x6 x2 x3 x3 h_6) fun r_11 h_10 =>
        f_X11_cobbler_148 (f_X11_cobbler_101 n) k0 x2 x3 x4 x5 x6 x7 x8 x9 r_11 h_10
      )
    )
def f_X11_cobbler_82 (k0 : Nat) (x2 : Int32) (x3 : Int32) (x4 : Int32) (x5 : Int32) (x6 : Int32) (h : AH) : Option (Int32 × AH) :=
  nm ((x6 ||| ((1 : Int32) <<< (x3 &&& 31)))) fun x6_1 =>
  f_X11_cobbler_101 FU k0 x2 x3 x4 x5 x6_1 20 0 20 h
def f_X11_cobbler (k0 : Nat) (x1 : Int32) (x2 : Int32) (x3 : Int32) (x4 : Int32) (x5 : Int32) (h : AH) : Option (Int32 × AH) :=
  ob (f_X11_isParty k0 x1 x2 h) fun r_3 h_2 =>
  if r_3 = 0 then (
    f_X11_cobbler_41 h_2
  ) else (
    ob (f_X11_isGuest k0 x2 x3 h_2) fun r_7 h_6 =>
    if r_7 = 0 then (
      f_X11_cobbler_41 h_6
    ) else (
      if x4 < 0 then (
        f_X11_cobbler_41 h_6
      ) else (
        if 99 < x4 then (
          f_X11_cobbler_41 h_6
        ) else (
          if x5 < 0 then (
            f_X11_cobbler_41 h_6
          ) else (
            if x5 ≤ 1 then (
              ob (f_X11_openDoor k0 x1 x2 h_6) fun r_15 h_14 =>
              og (ix x3 (an (rf (rf k0 6) 0))) <|
              if (h_14.1 (rf (rf k0 6) 0) x3.toNatClampNeg) = (-1) then (
                f_X11_cobbler_82 k0 x2 x3 x4 x5 r_15 h_14
              ) else (
                og (ix x3 (an (rf (rf k0 6) 0))) <|
                nm ((r_15 &&& (((1 : Int32) <<< ((h_14.1 (rf (rf k0 6) 0) x3.toNatClampNeg) &&& 31)) ^^^ (-1)))) fun x6_19 =>
                f_X11_cobbler_82 k0 x2 x3 x4 x5 x6_19 h_14
              )
            ) else (
              f_X11_cobbler_41 h_6
            )
          )
        )
      )
    )
  )
set_option maxHeartbeats 4000000 in
set_option maxRecDepth 100000 in
theorem v_X11_cobbler_41 {E : EV} {d : Nat} (hd : 6 ≤ d) {r0 : Int32} {h0 : AH}  {h : AH} (hf : f_X11_cobbler_41 h = some (r0, h0)) : V E (d + 1) K_X11_cobbler (ZI E r0 h0) h [] [] 41 := by
  unfold f_X11_cobbler_41 at hf
  refine V_iconst (v := (-1)) dX11_cobbler_41 (by decide) ?_
  exact V_iret rfl (so_s hf) dX11_cobbler_42
set_option maxHeartbeats 4000000 in
set_option maxRecDepth 100000 in
theorem v_X11_cobbler_165 {E : EV} {d : Nat} (hd : 6 ≤ d) {r0 : Int32} {h0 : AH} {q101 : Nat → Int32 → Int32 → Int32 → Int32 → Int32 → Int32 → Int32 → Int32 → AH → Option (Int32 × AH)} (cq101 : ∀ (k0 : Nat) (x2 : Int32) (x3 : Int32) (x4 : Int32) (x5 : Int32) (x6 : Int32) (x7 : Int32) (x8 : Int32) (x9 : Int32) (h : AH), q101 k0 x2 x3 x4 x5 x6 x7 x8 x9 h = some (r0, h0) → kd k0 = (0, 11) → V E (d + 1) K_X11_cobbler (ZI E r0 h0) h [(0, .ref k0), (2, .int x2), (3, .int x3), (4, .int x4), (5, .int x5), (6, .int x6), (7, .int x7), (8, .int x8), (9, .int x9)] [] 101) {k0 : Nat} {x2 : Int32} {x3 : Int32} {x4 : Int32} {x5 : Int32} {x6 : Int32} {x7 : Int32} {x8 : Int32} {x9 : Int32} {h : AH} (hf : f_X11_cobbler_165 q101 k0 x2 x3 x4 x5 x6 x7 x8 x9 h = some (r0, h0)) (t_k0 : kd k0 = (0, 11)) : V E (d + 1) K_X11_cobbler (ZI E r0 h0) h [(0, .ref k0), (2, .int x2), (3, .int x3), (4, .int x4), (5, .int x5), (6, .int x6), (7, .int x7), (8, .int x8), (9, .int x9)] [] 165 := by
  unfold f_X11_cobbler_165 at hf
  obtain ⟨x9_1, e_2, hf⟩ := nm_s hf
  refine V_iinc (a := 1) (L' := [(9, .int x9_1), (0, .ref k0), (2, .int x2), (3, .int x3), (4, .int x4), (5, .int x5), (6, .int x6), (7, .int x7), (8, .int x8)]) 8 dX11_cobbler_165 rfl (by decide) (Nat.le_of_ble_eq_true rfl) e_2 rfl ?_
  refine V_goto (tgt := 101) dX11_cobbler_168 (by decide) ?_
  refine V_sub [1, 2, 3, 4, 5, 6, 7, 8, 0] rfl ?_
  exact cq101 _ _ _ _ _ _ _ _ _ _ hf t_k0
set_option maxHeartbeats 4000000 in
set_option maxRecDepth 100000 in
theorem v_X11_cobbler_148 {E : EV} {d : Nat} (hd : 6 ≤ d) {r0 : Int32} {h0 : AH} {q101 : Nat → Int32 → Int32 → Int32 → Int32 → Int32 → Int32 → Int32 → Int32 → AH → Option (Int32 × AH)} (cq101 : ∀ (k0 : Nat) (x2 : Int32) (x3 : Int32) (x4 : Int32) (x5 : Int32) (x6 : Int32) (x7 : Int32) (x8 : Int32) (x9 : Int32) (h : AH), q101 k0 x2 x3 x4 x5 x6 x7 x8 x9 h = some (r0, h0) → kd k0 = (0, 11) → V E (d + 1) K_X11_cobbler (ZI E r0 h0) h [(0, .ref k0), (2, .int x2), (3, .int x3), (4, .int x4), (5, .int x5), (6, .int x6), (7, .int x7), (8, .int x8), (9, .int x9)] [] 101) {k0 : Nat} {x2 : Int32} {x3 : Int32} {x4 : Int32} {x5 : Int32} {x6 : Int32} {x7 : Int32} {x8 : Int32} {x9 : Int32} {s0 : Int32} {h : AH} (hf : f_X11_cobbler_148 q101 k0 x2 x3 x4 x5 x6 x7 x8 x9 s0 h = some (r0, h0)) (t_k0 : kd k0 = (0, 11)) : V E (d + 1) K_X11_cobbler (ZI E r0 h0) h [(0, .ref k0), (2, .int x2), (3, .int x3), (4, .int x4), (5, .int x5), (6, .int x6), (7, .int x7), (8, .int x8), (9, .int x9)] [.int s0] 148 := by
  unfold f_X11_cobbler_148 at hf
  refine V_istore (L' := [(10, .int s0), (0, .ref k0), (2, .int x2), (3, .int x3), (4, .int x4), (5, .int x5), (6, .int x6), (7, .int x7), (8, .int x8), (9, .int x9)]) dX11_cobbler_148 (Nat.le_of_ble_eq_true rfl) rfl rfl ?_
  refine V_iload 0 dX11_cobbler_150 rfl ?_
  refine V_iload 8 dX11_cobbler_152 rfl ?_
  refine V_ic_le (tgt := 165) dX11_cobbler_154 (by decide) (fun c_1 => ?_) (fun c_1 => ?_)
  · have hf := it_s c_1 hf
    refine V_sub [1, 2, 3, 4, 5, 6, 7, 8, 9] rfl ?_
    exact v_X11_cobbler_165 hd cq101 hf t_k0
  · have hf := if_s c_1 hf
    refine V_iload 0 dX11_cobbler_157 rfl ?_
    refine V_istore (L' := [(8, .int s0), (10, .int s0), (0, .ref k0), (2, .int x2), (3, .int x3), (4, .int x4), (5, .int x5), (6, .int x6), (7, .int x7), (9, .int x9)]) dX11_cobbler_159 (Nat.le_of_ble_eq_true rfl) rfl rfl ?_
    refine V_iload 9 dX11_cobbler_161 rfl ?_
    refine V_istore (L' := [(7, .int x9), (8, .int s0), (10, .int s0), (0, .ref k0), (2, .int x2), (3, .int x3), (4, .int x4), (5, .int x5), (6, .int x6), (9, .int x9)]) dX11_cobbler_163 (Nat.le_of_ble_eq_true rfl) rfl rfl ?_
    refine V_sub [3, 4, 5, 6, 7, 8, 0, 1, 9] rfl ?_
    exact v_X11_cobbler_165 hd cq101 hf t_k0
set_option maxHeartbeats 4000000 in
set_option maxRecDepth 100000 in
theorem v_X11_cobbler_183 {E : EV} {d : Nat} (hd : 6 ≤ d) {r0 : Int32} {h0 : AH} {s0 : Int32} {h : AH} (hf : f_X11_cobbler_183 s0 h = some (r0, h0)) : V E (d + 1) K_X11_cobbler (ZI E r0 h0) h [] [.int s0] 183 := by
  unfold f_X11_cobbler_183 at hf
  exact V_iret rfl (so_s hf) dX11_cobbler_183
set_option maxHeartbeats 4000000 in
set_option maxRecDepth 100000 in
theorem v_X11_cobbler_101 {E : EV} {d : Nat} (hd : 6 ≤ d) {r0 : Int32} {h0 : AH} : ∀ (n : Nat) (k0 : Nat) (x2 : Int32) (x3 : Int32) (x4 : Int32) (x5 : Int32) (x6 : Int32) (x7 : Int32) (x8 : Int32) (x9 : Int32) (h : AH), f_X11_cobbler_101 n k0 x2 x3 x4 x5 x6 x7 x8 x9 h = some (r0, h0) → kd k0 = (0, 11) → V E (d + 1) K_X11_cobbler (ZI E r0 h0) h [(0, .ref k0), (2, .int x2), (3, .int x3), (4, .int x4), (5, .int x5), (6, .int x6), (7, .int x7), (8, .int x8), (9, .int x9)] [] 101 := by
  intro n
  induction n with
  | zero =>
    intro k0 x2 x3 x4 x5 x6 x7 x8 x9 h hf
    rw [f_X11_cobbler_101] at hf
    cases hf
  | succ n ih =>
    intro k0 x2 x3 x4 x5 x6 x7 x8 x9 h hf t_k0
    rw [f_X11_cobbler_101] at hf
    refine V_iload 8 dX11_cobbler_101 rfl ?_
    refine V_bipush (v := 50) dX11_cobbler_103 (by decide) ?_
    refine V_ic_gt (tgt := 171) dX11_cobbler_105 (by decide) (fun c_1 => ?_) (fun c_1 => ?_)
    · have hf := it_s c_1 hf
      refine V_iload 4 dX11_cobbler_171 rfl ?_
      refine V_if_ne (tgt := 181) dX11_cobbler_173 (by decide) (fun c_2 => ?_) (fun c_2 => ?_)
      · have hf := if_s c_2 hf
        refine V_iload 7 dX11_cobbler_181 rfl ?_
        refine V_sub [] rfl ?_
        exact v_X11_cobbler_183 hd hf
      · have hf := it_s c_2 hf
        refine V_iload 6 dX11_cobbler_176 rfl ?_
        refine V_goto (tgt := 183) dX11_cobbler_178 (by decide) ?_
        refine V_sub [] rfl ?_
        exact v_X11_cobbler_183 hd hf
    · have hf := if_s c_1 hf
      refine V_aload_n 0 dX11_cobbler_108 rfl rfl ?_
      refine V_getR F_X11_64 rfl t_k0 rfl dX11_cobbler_109 ?_
      refine V_iload_n 2 dX11_cobbler_112 rfl rfl ?_
      refine V_iload 8 dX11_cobbler_113 rfl ?_
      refine V_iload 3 dX11_cobbler_115 rfl ?_
      obtain ⟨h_4, e_3, hf⟩ := ov_s hf
      refine V_cvv (As := [.int x3, .int x9, .int x4]) (rest := []) (c_X2_replace (d := d) (Nat.le_trans (Nat.le_of_ble_eq_true rfl) hd) e_3 (rfO t_k0 (Nat.le_of_ble_eq_true rfl) rfl rfl)) ML_X11_297 MV_X2_replace rfl (rfO t_k0 (Nat.le_of_ble_eq_true rfl) rfl rfl) rfl rfl (Nat.le_of_ble_eq_true rfl) dX11_cobbler_117 ?_
      refine V_aload_n 0 dX11_cobbler_120 rfl rfl ?_
      refine V_getR F_X11_64 rfl t_k0 rfl dX11_cobbler_121 ?_
      refine V_iload_n 2 dX11_cobbler_124 rfl rfl ?_
      refine V_iload_n 2 dX11_cobbler_125 rfl rfl ?_
      obtain ⟨r_7, h_6, e_5, hf⟩ := ob_s hf
      refine V_cvi (As := [.int x3, .int x3]) (rest := []) (c_X2_isEverTaken (d := d) (Nat.le_trans (Nat.le_of_ble_eq_true rfl) hd) e_5 (rfO t_k0 (Nat.le_of_ble_eq_true rfl) rfl rfl)) ML_X11_301 MV_X2_isEverTaken rfl (rfO t_k0 (Nat.le_of_ble_eq_true rfl) rfl rfl) rfl rfl (Nat.le_of_ble_eq_true rfl) dX11_cobbler_126 ?_
      refine V_if_eq (tgt := 147) dX11_cobbler_129 (by decide) (fun c_8 => ?_) (fun c_8 => ?_)
      · have hf := it_s c_8 hf
        refine V_iconst (v := 0) dX11_cobbler_147 (by decide) ?_
        exact v_X11_cobbler_148 hd ih hf t_k0
      · have hf := if_s c_8 hf
        refine V_aload_n 0 dX11_cobbler_132 rfl rfl ?_
        refine V_getR F_X11_73 rfl t_k0 rfl dX11_cobbler_133 ?_
        refine V_iload 5 dX11_cobbler_136 rfl ?_
        refine V_iload_n 1 dX11_cobbler_138 rfl rfl ?_
        refine V_iload_n 2 dX11_cobbler_139 rfl rfl ?_
        refine V_iload_n 2 dX11_cobbler_140 rfl rfl ?_
        obtain ⟨r_11, h_10, e_9, hf⟩ := ob_s hf
        refine V_cvi (As := [.int x6, .int x2, .int x3, .int x3]) (rest := []) (c_X5_countOrders (d := d) (Nat.le_trans (Nat.le_of_ble_eq_true rfl) hd) e_9 (rfO t_k0 (Nat.le_of_ble_eq_true rfl) rfl rfl)) ML_X11_227 MV_X5_countOrders rfl (rfO t_k0 (Nat.le_of_ble_eq_true rfl) rfl rfl) rfl rfl (Nat.le_of_ble_eq_true rfl) dX11_cobbler_141 ?_
        refine V_goto (tgt := 148) dX11_cobbler_144 (by decide) ?_
        exact v_X11_cobbler_148 hd ih hf t_k0
set_option maxHeartbeats 4000000 in
set_option maxRecDepth 100000 in
theorem v_X11_cobbler_82 {E : EV} {d : Nat} (hd : 6 ≤ d) {r0 : Int32} {h0 : AH} {k0 : Nat} {x2 : Int32} {x3 : Int32} {x4 : Int32} {x5 : Int32} {x6 : Int32} {h : AH} (hf : f_X11_cobbler_82 k0 x2 x3 x4 x5 x6 h = some (r0, h0)) (t_k0 : kd k0 = (0, 11)) : V E (d + 1) K_X11_cobbler (ZI E r0 h0) h [(0, .ref k0), (2, .int x2), (3, .int x3), (4, .int x4), (5, .int x5), (6, .int x6)] [] 82 := by
  unfold f_X11_cobbler_82 at hf
  refine V_iload 5 dX11_cobbler_82 rfl ?_
  refine V_iconst (v := 1) dX11_cobbler_84 (by decide) ?_
  refine V_iload_n 2 dX11_cobbler_85 rfl rfl ?_
  refine V_ishl dX11_cobbler_86 ?_
  refine V_ior dX11_cobbler_87 ?_
  obtain ⟨x6_1, e_2, hf⟩ := nm_s hf
  refine V_istore (L' := [(6, .int x6_1), (0, .ref k0), (2, .int x2), (3, .int x3), (4, .int x4), (5, .int x5)]) dX11_cobbler_88 (Nat.le_of_ble_eq_true rfl) e_2 rfl ?_
  refine V_bipush (v := 20) dX11_cobbler_90 (by decide) ?_
  refine V_istore (L' := [(7, .int 20), (6, .int x6_1), (0, .ref k0), (2, .int x2), (3, .int x3), (4, .int x4), (5, .int x5)]) dX11_cobbler_92 (Nat.le_of_ble_eq_true rfl) rfl rfl ?_
  refine V_iconst (v := 0) dX11_cobbler_94 (by decide) ?_
  refine V_istore (L' := [(8, .int 0), (7, .int 20), (6, .int x6_1), (0, .ref k0), (2, .int x2), (3, .int x3), (4, .int x4), (5, .int x5)]) dX11_cobbler_95 (Nat.le_of_ble_eq_true rfl) rfl rfl ?_
  refine V_bipush (v := 20) dX11_cobbler_97 (by decide) ?_
  refine V_istore (L' := [(9, .int 20), (8, .int 0), (7, .int 20), (6, .int x6_1), (0, .ref k0), (2, .int x2), (3, .int x3), (4, .int x4), (5, .int x5)]) dX11_cobbler_99 (Nat.le_of_ble_eq_true rfl) rfl rfl ?_
  refine V_sub [4, 5, 6, 7, 8, 3, 2, 1, 0] rfl ?_
  exact v_X11_cobbler_101 hd FU _ _ _ _ _ _ _ _ _ _ hf t_k0
set_option maxHeartbeats 4000000 in
set_option maxRecDepth 100000 in
theorem c_X11_cobbler {E : EV} {d : Nat} (hd : 6 + 1 ≤ d) {k0 : Nat} {x1 : Int32} {x2 : Int32} {x3 : Int32} {x4 : Int32} {x5 : Int32} {h : AH} {r0 : Int32} {h0 : AH} (hf : f_X11_cobbler k0 x1 x2 x3 x4 x5 h = some (r0, h0)) (t_k0 : kd k0 = (0, 11)) : Con E d K_X11_cobbler (ZI E r0 h0) [.ref k0, .int x1, .int x2, .int x3, .int x4, .int x5] h := by
  obtain ⟨d, rfl⟩ : ∃ d', d = d' + 1 := ⟨d - 1, by omega⟩
  have hd := Nat.le_of_succ_le_succ hd
  refine Con.ofV rfl (Nat.le_of_ble_eq_true rfl) ?_
  unfold f_X11_cobbler at hf
  show V E (d + 1) K_X11_cobbler (ZI E r0 h0) h [(0, .ref k0), (1, .int x1), (2, .int x2), (3, .int x3), (4, .int x4), (5, .int x5)] [] 0
  refine V_aload_n 0 dX11_cobbler_0 rfl rfl ?_
  refine V_iload_n 1 dX11_cobbler_1 rfl rfl ?_
  refine V_iload_n 2 dX11_cobbler_2 rfl rfl ?_
  obtain ⟨r_3, h_2, e_1, hf⟩ := ob_s hf
  refine V_cvi (As := [.int x1, .int x2]) (rest := []) (c_X11_isParty (d := d) (Nat.le_trans (Nat.le_of_ble_eq_true rfl) hd) e_1 t_k0) ML_X11_182 MV_X11_isParty rfl t_k0 rfl rfl (Nat.le_of_ble_eq_true rfl) dX11_cobbler_3 ?_
  refine V_if_eq (tgt := 41) dX11_cobbler_6 (by decide) (fun c_4 => ?_) (fun c_4 => ?_)
  · have hf := it_s c_4 hf
    refine V_sub [] rfl ?_
    exact v_X11_cobbler_41 hd hf
  · have hf := if_s c_4 hf
    refine V_aload_n 0 dX11_cobbler_9 rfl rfl ?_
    refine V_iload_n 2 dX11_cobbler_10 rfl rfl ?_
    refine V_iload_n 3 dX11_cobbler_11 rfl rfl ?_
    obtain ⟨r_7, h_6, e_5, hf⟩ := ob_s hf
    refine V_cvi (As := [.int x2, .int x3]) (rest := []) (c_X11_isGuest (d := d) (Nat.le_trans (Nat.le_of_ble_eq_true rfl) hd) e_5 t_k0) ML_X11_217 MV_X11_isGuest rfl t_k0 rfl rfl (Nat.le_of_ble_eq_true rfl) dX11_cobbler_12 ?_
    refine V_if_eq (tgt := 41) dX11_cobbler_15 (by decide) (fun c_8 => ?_) (fun c_8 => ?_)
    · have hf := it_s c_8 hf
      refine V_sub [] rfl ?_
      exact v_X11_cobbler_41 hd hf
    · have hf := if_s c_8 hf
      refine V_iload 4 dX11_cobbler_18 rfl ?_
      refine V_if_lt (tgt := 41) dX11_cobbler_20 (by decide) (fun c_9 => ?_) (fun c_9 => ?_)
      · have hf := it_s c_9 hf
        refine V_sub [] rfl ?_
        exact v_X11_cobbler_41 hd hf
      · have hf := if_s c_9 hf
        refine V_iload 4 dX11_cobbler_23 rfl ?_
        refine V_bipush (v := 99) dX11_cobbler_25 (by decide) ?_
        refine V_ic_gt (tgt := 41) dX11_cobbler_27 (by decide) (fun c_10 => ?_) (fun c_10 => ?_)
        · have hf := it_s c_10 hf
          refine V_sub [] rfl ?_
          exact v_X11_cobbler_41 hd hf
        · have hf := if_s c_10 hf
          refine V_iload 5 dX11_cobbler_30 rfl ?_
          refine V_if_lt (tgt := 41) dX11_cobbler_32 (by decide) (fun c_11 => ?_) (fun c_11 => ?_)
          · have hf := it_s c_11 hf
            refine V_sub [] rfl ?_
            exact v_X11_cobbler_41 hd hf
          · have hf := if_s c_11 hf
            refine V_iload 5 dX11_cobbler_35 rfl ?_
            refine V_iconst (v := 1) dX11_cobbler_37 (by decide) ?_
            refine V_ic_le (tgt := 43) dX11_cobbler_38 (by decide) (fun c_12 => ?_) (fun c_12 => ?_)
            · have hf := it_s c_12 hf
              refine V_aload_n 0 dX11_cobbler_43 rfl rfl ?_
              refine V_iload_n 1 dX11_cobbler_44 rfl rfl ?_
              refine V_iload_n 2 dX11_cobbler_45 rfl rfl ?_
              obtain ⟨r_15, h_14, e_13, hf⟩ := ob_s hf
              refine V_cvi (As := [.int x1, .int x2]) (rest := []) (c_X11_openDoor (d := d) (Nat.le_trans (Nat.le_of_ble_eq_true rfl) hd) e_13 t_k0) ML_X11_195 MV_X11_openDoor rfl t_k0 rfl rfl (Nat.le_of_ble_eq_true rfl) dX11_cobbler_46 ?_
              refine V_istore (L' := [(6, .int r_15), (0, .ref k0), (1, .int x1), (2, .int x2), (3, .int x3), (4, .int x4), (5, .int x5)]) dX11_cobbler_49 (Nat.le_of_ble_eq_true rfl) rfl rfl ?_
              refine V_aload_n 1 dX11_cobbler_51 rfl rfl ?_
              refine V_getR F_X11_45 rfl t_k0 rfl dX11_cobbler_52 ?_
              refine V_getR F_X11_166 rfl (rfO t_k0 (Nat.le_of_ble_eq_true rfl) rfl rfl) rfl dX11_cobbler_55 ?_
              refine V_iload_n 4 dX11_cobbler_58 rfl rfl ?_
              obtain ⟨b_16, hf⟩ := og_s hf
              refine V_iald (rfA (rfO t_k0 (Nat.le_of_ble_eq_true rfl) rfl rfl) (Nat.le_of_ble_eq_true rfl) rfl rfl (by decide)) b_16 dX11_cobbler_59 ?_
              refine V_iconst (v := (-1)) dX11_cobbler_60 (by decide) ?_
              refine V_ic_eq (tgt := 82) dX11_cobbler_61 (by decide) (fun c_17 => ?_) (fun c_17 => ?_)
              · have hf := it_s c_17 hf
                refine V_sub [1, 3, 4, 5, 6, 0] rfl ?_
                exact v_X11_cobbler_82 hd hf t_k0
              · have hf := if_s c_17 hf
                refine V_iload 0 dX11_cobbler_64 rfl ?_
                refine V_iconst (v := 1) dX11_cobbler_66 (by decide) ?_
                refine V_aload_n 1 dX11_cobbler_67 rfl rfl ?_
                refine V_getR F_X11_45 rfl t_k0 rfl dX11_cobbler_68 ?_
                refine V_getR F_X11_166 rfl (rfO t_k0 (Nat.le_of_ble_eq_true rfl) rfl rfl) rfl dX11_cobbler_71 ?_
                refine V_iload_n 4 dX11_cobbler_74 rfl rfl ?_
                obtain ⟨b_18, hf⟩ := og_s hf
                refine V_iald (rfA (rfO t_k0 (Nat.le_of_ble_eq_true rfl) rfl rfl) (Nat.le_of_ble_eq_true rfl) rfl rfl (by decide)) b_18 dX11_cobbler_75 ?_
                refine V_ishl dX11_cobbler_76 ?_
                refine V_iconst (v := (-1)) dX11_cobbler_77 (by decide) ?_
                refine V_ixor dX11_cobbler_78 ?_
                refine V_iand dX11_cobbler_79 ?_
                obtain ⟨x6_19, e_20, hf⟩ := nm_s hf
                refine V_istore (L' := [(6, .int x6_19), (0, .ref k0), (1, .int x1), (2, .int x2), (3, .int x3), (4, .int x4), (5, .int x5)]) dX11_cobbler_80 (Nat.le_of_ble_eq_true rfl) e_20 rfl ?_
                refine V_sub [1, 3, 4, 5, 6, 0] rfl ?_
                exact v_X11_cobbler_82 hd hf t_k0
            · have hf := if_s c_12 hf
              refine V_sub [] rfl ?_
              exact v_X11_cobbler_41 hd hf
theorem dX9_alone_0 : decode cX9_alone 0 = .ok (.iconst 0, 1) := by decide +kernel
theorem dX9_alone_1 : decode cX9_alone 1 = .ok (.istore_n 1, 1) := by decide +kernel
theorem dX9_alone_2 : decode cX9_alone 2 = .ok (.iconst 0, 1) := by decide +kernel
theorem dX9_alone_3 : decode cX9_alone 3 = .ok (.istore_n 2, 1) := by decide +kernel
theorem dX9_alone_4 : decode cX9_alone 4 = .ok (.iload_n 2, 1) := by decide +kernel
theorem dX9_alone_5 : decode cX9_alone 5 = .ok (.bipush 6, 2) := by decide +kernel
theorem dX9_alone_7 : decode cX9_alone 7 = .ok (.if_icmp .ge 28, 3) := by decide +kernel
theorem dX9_alone_10 : decode cX9_alone 10 = .ok (.iload_n 1, 1) := by decide +kernel
theorem dX9_alone_11 : decode cX9_alone 11 = .ok (.aload_n 0, 1) := by decide +kernel
theorem dX9_alone_12 : decode cX9_alone 12 = .ok (.getfield 15, 3) := by decide +kernel
theorem dX9_alone_15 : decode cX9_alone 15 = .ok (.iload_n 2, 1) := by decide +kernel
theorem dX9_alone_16 : decode cX9_alone 16 = .ok (.iaload, 1) := by decide +kernel
theorem dX9_alone_17 : decode cX9_alone 17 = .ok (.bipush 10, 2) := by decide +kernel
theorem dX9_alone_19 : decode cX9_alone 19 = .ok (.if_icmp .lt 7, 3) := by decide +kernel
theorem dX9_alone_22 : decode cX9_alone 22 = .ok (.iconst 1, 1) := by decide +kernel
theorem dX9_alone_23 : decode cX9_alone 23 = .ok (.goto 4, 3) := by decide +kernel
theorem dX9_alone_26 : decode cX9_alone 26 = .ok (.iconst 0, 1) := by decide +kernel
theorem dX9_alone_27 : decode cX9_alone 27 = .ok (.iadd, 1) := by decide +kernel
theorem dX9_alone_28 : decode cX9_alone 28 = .ok (.istore_n 1, 1) := by decide +kernel
theorem dX9_alone_29 : decode cX9_alone 29 = .ok (.iinc 2 1, 3) := by decide +kernel
theorem dX9_alone_32 : decode cX9_alone 32 = .ok (.goto (-28), 3) := by decide +kernel
theorem dX9_alone_35 : decode cX9_alone 35 = .ok (.iload_n 1, 1) := by decide +kernel
theorem dX9_alone_36 : decode cX9_alone 36 = .ok (.ireturn, 1) := by decide +kernel
def f_X9_alone_27 (q4 : Nat → Int32 → Int32 → AH → Option (Int32 × AH)) (k0 : Nat) (x2 : Int32) (s0 : Int32) (s1 : Int32) (h : AH) : Option (Int32 × AH) :=
  nm ((s1 + s0)) fun x1_1 =>
  nm (x2 + 1) fun x2_3 =>
  q4 k0 x1_1 x2_3 h
def f_X9_alone_4 : Nat → Nat → Int32 → Int32 → AH → Option (Int32 × AH)
  | 0, _, _, _, _ => none
  | n + 1, k0, x1, x2, h =>
    if 6 ≤ x2 then (
      some (x1, h)
    ) else (
      og (ix x2 (an (rf k0 1))) <|
      if (h.1 (rf k0 1) x2.toNatClampNeg) < 10 then (
        f_X9_alone_27 (f_X9_alone_4 n) k0 x2 0 x1 h
      ) else (
        f_X9_alone_27 (f_X9_alone_4 n) k0 x2 1 x1 h
      )
    )
def f_X9_alone (k0 : Nat) (h : AH) : Option (Int32 × AH) :=
  f_X9_alone_4 FU k0 0 0 h
set_option maxHeartbeats 4000000 in
set_option maxRecDepth 100000 in
theorem v_X9_alone_27 {E : EV} {d : Nat} (hd : 0 ≤ d) {r0 : Int32} {h0 : AH} {q4 : Nat → Int32 → Int32 → AH → Option (Int32 × AH)} (cq4 : ∀ (k0 : Nat) (x1 : Int32) (x2 : Int32) (h : AH), q4 k0 x1 x2 h = some (r0, h0) → kd k0 = (0, 9) → V E (d + 1) K_X9_alone (ZI E r0 h0) h [(0, .ref k0), (1, .int x1), (2, .int x2)] [] 4) {k0 : Nat} {x2 : Int32} {s0 : Int32} {s1 : Int32} {h : AH} (hf : f_X9_alone_27 q4 k0 x2 s0 s1 h = some (r0, h0)) (t_k0 : kd k0 = (0, 9)) : V E (d + 1) K_X9_alone (ZI E r0 h0) h [(0, .ref k0), (2, .int x2)] [.int s0, .int s1] 27 := by
  unfold f_X9_alone_27 at hf
  refine V_iadd dX9_alone_27 ?_
  obtain ⟨x1_1, e_2, hf⟩ := nm_s hf
  refine V_istore_n (L' := [(1, .int x1_1), (0, .ref k0), (2, .int x2)]) dX9_alone_28 rfl (Nat.le_of_ble_eq_true rfl) e_2 rfl ?_
  obtain ⟨x2_3, e_4, hf⟩ := nm_s hf
  refine V_iinc (a := 1) (L' := [(2, .int x2_3), (1, .int x1_1), (0, .ref k0)]) 2 dX9_alone_29 rfl (by decide) (Nat.le_of_ble_eq_true rfl) e_4 rfl ?_
  refine V_goto (tgt := 4) dX9_alone_32 (by decide) ?_
  refine V_sub [2, 1, 0] rfl ?_
  exact cq4 _ _ _ _ hf t_k0
set_option maxHeartbeats 4000000 in
set_option maxRecDepth 100000 in
theorem v_X9_alone_4 {E : EV} {d : Nat} (hd : 0 ≤ d) {r0 : Int32} {h0 : AH} : ∀ (n : Nat) (k0 : Nat) (x1 : Int32) (x2 : Int32) (h : AH), f_X9_alone_4 n k0 x1 x2 h = some (r0, h0) → kd k0 = (0, 9) → V E (d + 1) K_X9_alone (ZI E r0 h0) h [(0, .ref k0), (1, .int x1), (2, .int x2)] [] 4 := by
  intro n
  induction n with
  | zero =>
    intro k0 x1 x2 h hf
    rw [f_X9_alone_4] at hf
    cases hf
  | succ n ih =>
    intro k0 x1 x2 h hf t_k0
    rw [f_X9_alone_4] at hf
    refine V_iload_n 2 dX9_alone_4 rfl rfl ?_
    refine V_bipush (v := 6) dX9_alone_5 (by decide) ?_
    refine V_ic_ge (tgt := 35) dX9_alone_7 (by decide) (fun c_1 => ?_) (fun c_1 => ?_)
    · have hf := it_s c_1 hf
      refine V_iload_n 1 dX9_alone_35 rfl rfl ?_
      exact V_iret rfl (so_s hf) dX9_alone_36
    · have hf := if_s c_1 hf
      refine V_iload_n 1 dX9_alone_10 rfl rfl ?_
      refine V_aload_n 0 dX9_alone_11 rfl rfl ?_
      refine V_getR F_X9_15 rfl t_k0 rfl dX9_alone_12 ?_
      refine V_iload_n 2 dX9_alone_15 rfl rfl ?_
      obtain ⟨b_2, hf⟩ := og_s hf
      refine V_iald (rfA t_k0 (Nat.le_of_ble_eq_true rfl) rfl rfl (by decide)) b_2 dX9_alone_16 ?_
      refine V_bipush (v := 10) dX9_alone_17 (by decide) ?_
      refine V_ic_lt (tgt := 26) dX9_alone_19 (by decide) (fun c_3 => ?_) (fun c_3 => ?_)
      · have hf := it_s c_3 hf
        refine V_iconst (v := 0) dX9_alone_26 (by decide) ?_
        refine V_sub [0, 2] rfl ?_
        exact v_X9_alone_27 hd ih hf t_k0
      · have hf := if_s c_3 hf
        refine V_iconst (v := 1) dX9_alone_22 (by decide) ?_
        refine V_goto (tgt := 27) dX9_alone_23 (by decide) ?_
        refine V_sub [0, 2] rfl ?_
        exact v_X9_alone_27 hd ih hf t_k0
set_option maxHeartbeats 4000000 in
set_option maxRecDepth 100000 in
theorem c_X9_alone {E : EV} {d : Nat} (hd : 0 + 1 ≤ d) {k0 : Nat} {h : AH} {r0 : Int32} {h0 : AH} (hf : f_X9_alone k0 h = some (r0, h0)) (t_k0 : kd k0 = (0, 9)) : Con E d K_X9_alone (ZI E r0 h0) [.ref k0] h := by
  obtain ⟨d, rfl⟩ : ∃ d', d = d' + 1 := ⟨d - 1, by omega⟩
  have hd := Nat.le_of_succ_le_succ hd
  refine Con.ofV rfl (Nat.le_of_ble_eq_true rfl) ?_
  unfold f_X9_alone at hf
  show V E (d + 1) K_X9_alone (ZI E r0 h0) h [(0, .ref k0)] [] 0
  refine V_iconst (v := 0) dX9_alone_0 (by decide) ?_
  refine V_istore_n (L' := [(1, .int 0), (0, .ref k0)]) dX9_alone_1 rfl (Nat.le_of_ble_eq_true rfl) rfl rfl ?_
  refine V_iconst (v := 0) dX9_alone_2 (by decide) ?_
  refine V_istore_n (L' := [(2, .int 0), (1, .int 0), (0, .ref k0)]) dX9_alone_3 rfl (Nat.le_of_ble_eq_true rfl) rfl rfl ?_
  refine V_sub [2, 1, 0] rfl ?_
  exact v_X9_alone_4 hd FU _ _ _ _ hf t_k0
theorem dX11_count_0 : decode cX11_count 0 = .ok (.iload_n 1, 1) := by decide +kernel
theorem dX11_count_1 : decode cX11_count 1 = .ok (.tableswitch 84 0 5 #[39, 47, 52, 60, 68, 76], 39) := by decide +kernel
theorem dX11_count_40 : decode cX11_count 40 = .ok (.aload_n 0, 1) := by decide +kernel
theorem dX11_count_41 : decode cX11_count 41 = .ok (.getfield 19, 3) := by decide +kernel
theorem dX11_count_44 : decode cX11_count 44 = .ok (.getfield 144, 3) := by decide +kernel
theorem dX11_count_47 : decode cX11_count 47 = .ok (.ireturn, 1) := by decide +kernel
theorem dX11_count_48 : decode cX11_count 48 = .ok (.aload_n 0, 1) := by decide +kernel
theorem dX11_count_49 : decode cX11_count 49 = .ok (.getfield 124, 3) := by decide +kernel
theorem dX11_count_52 : decode cX11_count 52 = .ok (.ireturn, 1) := by decide +kernel
theorem dX11_count_53 : decode cX11_count 53 = .ok (.aload_n 0, 1) := by decide +kernel
theorem dX11_count_54 : decode cX11_count 54 = .ok (.getfield 12, 3) := by decide +kernel
theorem dX11_count_57 : decode cX11_count 57 = .ok (.getfield 106, 3) := by decide +kernel
theorem dX11_count_60 : decode cX11_count 60 = .ok (.ireturn, 1) := by decide +kernel
theorem dX11_count_61 : decode cX11_count 61 = .ok (.aload_n 0, 1) := by decide +kernel
theorem dX11_count_62 : decode cX11_count 62 = .ok (.getfield 55, 3) := by decide +kernel
theorem dX11_count_65 : decode cX11_count 65 = .ok (.getfield 192, 3) := by decide +kernel
theorem dX11_count_68 : decode cX11_count 68 = .ok (.ireturn, 1) := by decide +kernel
theorem dX11_count_69 : decode cX11_count 69 = .ok (.aload_n 0, 1) := by decide +kernel
theorem dX11_count_70 : decode cX11_count 70 = .ok (.getfield 55, 3) := by decide +kernel
theorem dX11_count_73 : decode cX11_count 73 = .ok (.getfield 317, 3) := by decide +kernel
theorem dX11_count_76 : decode cX11_count 76 = .ok (.ireturn, 1) := by decide +kernel
theorem dX11_count_77 : decode cX11_count 77 = .ok (.aload_n 0, 1) := by decide +kernel
theorem dX11_count_78 : decode cX11_count 78 = .ok (.getfield 45, 3) := by decide +kernel
theorem dX11_count_81 : decode cX11_count 81 = .ok (.invokevirtual 359, 3) := by decide +kernel
theorem dX11_count_84 : decode cX11_count 84 = .ok (.ireturn, 1) := by decide +kernel
theorem dX11_count_85 : decode cX11_count 85 = .ok (.ldc 220, 2) := by decide +kernel
theorem dX11_count_87 : decode cX11_count 87 = .ok (.ireturn, 1) := by decide +kernel
theorem F_X11_124 : FLk RX11 124 11 5 := ⟨RX11, TX11, 16, rfl, rfl, iw_X11, by decide, Or.inl fl_X11_124⟩
theorem F_X11_12 : FLk RX11 12 11 0 := ⟨RX11, TX11, 16, rfl, rfl, iw_X11, by decide, Or.inl fl_X11_12⟩
theorem F_X11_106 : FLk RX11 106 10 1 := ⟨RX10, TX10, 3, rfl, rfl, iw_X10, by decide, Or.inr ⟨_, fn_X11_106⟩⟩
theorem F_X11_317 : FLk RX11 317 1 3 := ⟨RX1, TX1, 6, rfl, rfl, iw_X1, by decide, Or.inr ⟨_, fn_X11_317⟩⟩
theorem ML_X11_359 : MLk RX11 359 yX9_alone := Or.inl ml_X11_359
theorem MV_X9_alone : MVk K_X9_alone 0 9 := ⟨⟨cd_X9_alone, in_X9, ⟨by decide, by decide, by decide +kernel⟩, by decide⟩, im_X9_alone, se_X9_alone, _, _, rfl⟩
def f_X11_count (k0 : Nat) (x1 : Int32) (h : AH) : Option (Int32 × AH) :=
  if x1 = 0 then (
    some ((h.1 (rf k0 1) 2), h)
  ) else (
    if x1 = 1 then (
      some ((h.1 k0 5), h)
    ) else (
      if x1 = 2 then (
        some ((h.1 (rf k0 0) 1), h)
      ) else (
        if x1 = 3 then (
          some ((h.1 (rf k0 9) 2), h)
        ) else (
          if x1 = 4 then (
            some ((h.1 (rf k0 9) 3), h)
          ) else (
            if x1 = 5 then (
              ob (f_X9_alone (rf k0 6) h) fun r_9 h_8 =>
              some (r_9, h_8)
            ) else (
              some ((-1000000), h)
  ))))))
set_option maxHeartbeats 4000000 in
set_option maxRecDepth 100000 in
theorem c_X11_count {E : EV} {d : Nat} (hd : 1 + 1 ≤ d) {k0 : Nat} {x1 : Int32} {h : AH} {r0 : Int32} {h0 : AH} (hf : f_X11_count k0 x1 h = some (r0, h0)) (t_k0 : kd k0 = (0, 11)) : Con E d K_X11_count (ZI E r0 h0) [.ref k0, .int x1] h := by
  obtain ⟨d, rfl⟩ : ∃ d', d = d' + 1 := ⟨d - 1, by omega⟩
  have hd := Nat.le_of_succ_le_succ hd
  refine Con.ofV rfl (Nat.le_of_ble_eq_true rfl) ?_
  unfold f_X11_count at hf
  show V E (d + 1) K_X11_count (ZI E r0 h0) h [(0, .ref k0), (1, .int x1)] [] 0
  refine V_iload_n 1 dX11_count_0 rfl rfl ?_
  by_cases c_1 : x1 = 0
  · have hf := it_s c_1 hf
    refine V_tin (off := 39) (tgt := 40) dX11_count_1 c_1 (by decide) (by decide) (by decide) (by decide) ?_
    refine V_aload_n 0 dX11_count_40 rfl rfl ?_
    refine V_getR F_X11_19 rfl t_k0 rfl dX11_count_41 ?_
    refine V_getI F_X11_144 rfl (rfO t_k0 (Nat.le_of_ble_eq_true rfl) rfl rfl) rfl dX11_count_44 ?_
    exact V_iret rfl (so_s hf) dX11_count_47
  · have hf := if_s c_1 hf
    by_cases c_2 : x1 = 1
    · have hf := it_s c_2 hf
      refine V_tin (off := 47) (tgt := 48) dX11_count_1 c_2 (by decide) (by decide) (by decide) (by decide) ?_
      refine V_aload_n 0 dX11_count_48 rfl rfl ?_
      refine V_getI F_X11_124 rfl t_k0 rfl dX11_count_49 ?_
      exact V_iret rfl (so_s hf) dX11_count_52
    · have hf := if_s c_2 hf
      by_cases c_3 : x1 = 2
      · have hf := it_s c_3 hf
        refine V_tin (off := 52) (tgt := 53) dX11_count_1 c_3 (by decide) (by decide) (by decide) (by decide) ?_
        refine V_aload_n 0 dX11_count_53 rfl rfl ?_
        refine V_getR F_X11_12 rfl t_k0 rfl dX11_count_54 ?_
        refine V_getI F_X11_106 rfl (rfO t_k0 (Nat.le_of_ble_eq_true rfl) rfl rfl) rfl dX11_count_57 ?_
        exact V_iret rfl (so_s hf) dX11_count_60
      · have hf := if_s c_3 hf
        by_cases c_4 : x1 = 3
        · have hf := it_s c_4 hf
          refine V_tin (off := 60) (tgt := 61) dX11_count_1 c_4 (by decide) (by decide) (by decide) (by decide) ?_
          refine V_aload_n 0 dX11_count_61 rfl rfl ?_
          refine V_getR F_X11_55 rfl t_k0 rfl dX11_count_62 ?_
          refine V_getI F_X11_192 rfl (rfO t_k0 (Nat.le_of_ble_eq_true rfl) rfl rfl) rfl dX11_count_65 ?_
          exact V_iret rfl (so_s hf) dX11_count_68
        · have hf := if_s c_4 hf
          by_cases c_5 : x1 = 4
          · have hf := it_s c_5 hf
            refine V_tin (off := 68) (tgt := 69) dX11_count_1 c_5 (by decide) (by decide) (by decide) (by decide) ?_
            refine V_aload_n 0 dX11_count_69 rfl rfl ?_
            refine V_getR F_X11_55 rfl t_k0 rfl dX11_count_70 ?_
            refine V_getI F_X11_317 rfl (rfO t_k0 (Nat.le_of_ble_eq_true rfl) rfl rfl) rfl dX11_count_73 ?_
            exact V_iret rfl (so_s hf) dX11_count_76
          · have hf := if_s c_5 hf
            by_cases c_6 : x1 = 5
            · have hf := it_s c_6 hf
              refine V_tin (off := 76) (tgt := 77) dX11_count_1 c_6 (by decide) (by decide) (by decide) (by decide) ?_
              refine V_aload_n 0 dX11_count_77 rfl rfl ?_
              refine V_getR F_X11_45 rfl t_k0 rfl dX11_count_78 ?_
              obtain ⟨r_9, h_8, e_7, hf⟩ := ob_s hf
              refine V_cvi (As := []) (rest := []) (c_X9_alone (d := d) (Nat.le_trans (Nat.le_of_ble_eq_true rfl) hd) e_7 (rfO t_k0 (Nat.le_of_ble_eq_true rfl) rfl rfl)) ML_X11_359 MV_X9_alone rfl (rfO t_k0 (Nat.le_of_ble_eq_true rfl) rfl rfl) rfl rfl (Nat.le_of_ble_eq_true rfl) dX11_count_81 ?_
              exact V_iret rfl (so_s hf) dX11_count_84
            · have hf := if_s c_6 hf
              have z0 := ne_ti (i := 0) c_1 (by decide)
              have z1 := ne_ti (i := 1) c_2 (by decide)
              have z2 := ne_ti (i := 2) c_3 (by decide)
              have z3 := ne_ti (i := 3) c_4 (by decide)
              have z4 := ne_ti (i := 4) c_5 (by decide)
              have z5 := ne_ti (i := 5) c_6 (by decide)
              refine V_tout (tgt := 85) dX11_count_1 (by omega) (by decide) ?_
              refine V_ldc (v := (-1000000)) rfl kc_X11_220 dX11_count_85 ?_
              exact V_iret rfl (so_s hf) dX11_count_87
theorem dX11_draw_0 : decode cX11_draw 0 = .ok (.aload_n 0, 1) := by decide +kernel
theorem dX11_draw_1 : decode cX11_draw 1 = .ok (.aload_n 0, 1) := by decide +kernel
theorem dX11_draw_2 : decode cX11_draw 2 = .ok (.getfield 264, 3) := by decide +kernel
theorem dX11_draw_5 : decode cX11_draw 5 = .ok (.ldc2_w 290, 3) := by decide +kernel
theorem dX11_draw_8 : decode cX11_draw 8 = .ok (.lmul, 1) := by decide +kernel
theorem dX11_draw_9 : decode cX11_draw 9 = .ok (.ldc2_w 292, 3) := by decide +kernel
theorem dX11_draw_12 : decode cX11_draw 12 = .ok (.ladd, 1) := by decide +kernel
theorem dX11_draw_13 : decode cX11_draw 13 = .ok (.putfield 264, 3) := by decide +kernel
theorem dX11_draw_16 : decode cX11_draw 16 = .ok (.iload_n 1, 1) := by decide +kernel
theorem dX11_draw_17 : decode cX11_draw 17 = .ok (.iconst 1, 1) := by decide +kernel
theorem dX11_draw_18 : decode cX11_draw 18 = .ok (.if_icmp .ge 7, 3) := by decide +kernel
theorem dX11_draw_21 : decode cX11_draw 21 = .ok (.iconst 0, 1) := by decide +kernel
theorem dX11_draw_22 : decode cX11_draw 22 = .ok (.goto 14, 3) := by decide +kernel
theorem dX11_draw_25 : decode cX11_draw 25 = .ok (.aload_n 0, 1) := by decide +kernel
theorem dX11_draw_26 : decode cX11_draw 26 = .ok (.getfield 264, 3) := by decide +kernel
theorem dX11_draw_29 : decode cX11_draw 29 = .ok (.bipush 33, 2) := by decide +kernel
theorem dX11_draw_31 : decode cX11_draw 31 = .ok (.lushr, 1) := by decide +kernel
theorem dX11_draw_32 : decode cX11_draw 32 = .ok (.iload_n 1, 1) := by decide +kernel
theorem dX11_draw_33 : decode cX11_draw 33 = .ok (.i2l, 1) := by decide +kernel
theorem dX11_draw_34 : decode cX11_draw 34 = .ok (.lrem, 1) := by decide +kernel
theorem dX11_draw_35 : decode cX11_draw 35 = .ok (.l2i, 1) := by decide +kernel
theorem dX11_draw_36 : decode cX11_draw 36 = .ok (.ireturn, 1) := by decide +kernel
theorem F_X11_264 : FLk RX11 264 11 15 := ⟨RX11, TX11, 16, rfl, rfl, iw_X11, by decide, Or.inl fl_X11_264⟩
theorem P_X11_264 : FPk RX11 264 11 15 .long := ⟨RX11, TX11, 16, tyX11, rfl, rfl, iw_X11, by decide, Or.inl fl_X11_264, tyX11_ok, nmX11, rfl, by decide +kernel⟩
def f_X11_draw_36 (s0 : Int32) (h : AH) : Option (Int32 × AH) :=
  some (s0, h)
def f_X11_draw (k0 : Nat) (x1 : Int32) (h : AH) : Option (Int32 × AH) :=
  nm (sL h k0 (((h.2.1 k0) * 6364136223846793005) + 1442695040888963407)) fun h_1 =>
  if 1 ≤ x1 then (
    og (decide (¬ ((x1).toInt64) = 0)) <|
    f_X11_draw_36 (((jlrem (jlushr (h_1.2.1 k0) 33) ((x1).toInt64))).toInt32) h_1
  ) else (
    f_X11_draw_36 0 h_1
  )
set_option maxHeartbeats 4000000 in
set_option maxRecDepth 100000 in
theorem v_X11_draw_36 {E : EV} {d : Nat} (hd : 0 ≤ d) {r0 : Int32} {h0 : AH} {s0 : Int32} {h : AH} (hf : f_X11_draw_36 s0 h = some (r0, h0)) : V E (d + 1) K_X11_draw (ZI E r0 h0) h [] [.int s0] 36 := by
  unfold f_X11_draw_36 at hf
  exact V_iret rfl (so_s hf) dX11_draw_36
set_option maxHeartbeats 4000000 in
set_option maxRecDepth 100000 in
theorem c_X11_draw {E : EV} {d : Nat} (hd : 0 + 1 ≤ d) {k0 : Nat} {x1 : Int32} {h : AH} {r0 : Int32} {h0 : AH} (hf : f_X11_draw k0 x1 h = some (r0, h0)) (t_k0 : kd k0 = (0, 11)) : Con E d K_X11_draw (ZI E r0 h0) [.ref k0, .int x1] h := by
  obtain ⟨d, rfl⟩ : ∃ d', d = d' + 1 := ⟨d - 1, by omega⟩
  have hd := Nat.le_of_succ_le_succ hd
  refine Con.ofV rfl (Nat.le_of_ble_eq_true rfl) ?_
  unfold f_X11_draw at hf
  show V E (d + 1) K_X11_draw (ZI E r0 h0) h [(0, .ref k0), (1, .int x1)] [] 0
  refine V_aload_n 0 dX11_draw_0 rfl rfl ?_
  refine V_aload_n 0 dX11_draw_1 rfl rfl ?_
  refine V_getL F_X11_264 rfl t_k0 rfl dX11_draw_2 ?_
  refine V_ldc2 (v := 6364136223846793005) rfl kl_X11_290 dX11_draw_5 ?_
  refine V_lmul dX11_draw_8 ?_
  refine V_ldc2 (v := 1442695040888963407) rfl kl_X11_292 dX11_draw_9 ?_
  refine V_ladd dX11_draw_12 ?_
  obtain ⟨h_1, e_2, hf⟩ := nm_s hf
  refine V_putL P_X11_264 rfl t_k0 rfl (by decide) e_2 dX11_draw_13 ?_
  refine V_iload_n 1 dX11_draw_16 rfl rfl ?_
  refine V_iconst (v := 1) dX11_draw_17 (by decide) ?_
  refine V_ic_ge (tgt := 25) dX11_draw_18 (by decide) (fun c_3 => ?_) (fun c_3 => ?_)
  · have hf := it_s c_3 hf
    refine V_aload_n 0 dX11_draw_25 rfl rfl ?_
    refine V_getL F_X11_264 rfl t_k0 rfl dX11_draw_26 ?_
    refine V_bipush (v := 33) dX11_draw_29 (by decide) ?_
    refine V_lushr dX11_draw_31 ?_
    refine V_iload_n 1 dX11_draw_32 rfl rfl ?_
    refine V_i2l dX11_draw_33 ?_
    obtain ⟨b_4, hf⟩ := og_s hf
    refine V_lrem dX11_draw_34 (of_decide_eq_true b_4) ?_
    refine V_l2i dX11_draw_35 ?_
    refine V_sub [] rfl ?_
    exact v_X11_draw_36 hd hf
  · have hf := if_s c_3 hf
    refine V_iconst (v := 0) dX11_draw_21 (by decide) ?_
    refine V_goto (tgt := 36) dX11_draw_22 (by decide) ?_
    refine V_sub [] rfl ?_
    exact v_X11_draw_36 hd hf
theorem dX11_drawGuests_0 : decode cX11_drawGuests 0 = .ok (.iconst 0, 1) := by decide +kernel
theorem dX11_drawGuests_1 : decode cX11_drawGuests 1 = .ok (.istore_n 1, 1) := by decide +kernel
theorem dX11_drawGuests_2 : decode cX11_drawGuests 2 = .ok (.iconst 0, 1) := by decide +kernel
theorem dX11_drawGuests_3 : decode cX11_drawGuests 3 = .ok (.istore_n 2, 1) := by decide +kernel
theorem dX11_drawGuests_4 : decode cX11_drawGuests 4 = .ok (.iload_n 2, 1) := by decide +kernel
theorem dX11_drawGuests_5 : decode cX11_drawGuests 5 = .ok (.aload_n 0, 1) := by decide +kernel
theorem dX11_drawGuests_6 : decode cX11_drawGuests 6 = .ok (.getfield 19, 3) := by decide +kernel
theorem dX11_drawGuests_9 : decode cX11_drawGuests 9 = .ok (.getfield 144, 3) := by decide +kernel
theorem dX11_drawGuests_12 : decode cX11_drawGuests 12 = .ok (.if_icmp .ge 19, 3) := by decide +kernel
theorem dX11_drawGuests_15 : decode cX11_drawGuests 15 = .ok (.iload_n 1, 1) := by decide +kernel
theorem dX11_drawGuests_16 : decode cX11_drawGuests 16 = .ok (.aload_n 0, 1) := by decide +kernel
theorem dX11_drawGuests_17 : decode cX11_drawGuests 17 = .ok (.iconst 2, 1) := by decide +kernel
theorem dX11_drawGuests_18 : decode cX11_drawGuests 18 = .ok (.invokevirtual 268, 3) := by decide +kernel
theorem dX11_drawGuests_21 : decode cX11_drawGuests 21 = .ok (.iload_n 2, 1) := by decide +kernel
theorem dX11_drawGuests_22 : decode cX11_drawGuests 22 = .ok (.ishl, 1) := by decide +kernel
theorem dX11_drawGuests_23 : decode cX11_drawGuests 23 = .ok (.ior, 1) := by decide +kernel
theorem dX11_drawGuests_24 : decode cX11_drawGuests 24 = .ok (.istore_n 1, 1) := by decide +kernel
theorem dX11_drawGuests_25 : decode cX11_drawGuests 25 = .ok (.iinc 2 1, 3) := by decide +kernel
theorem dX11_drawGuests_28 : decode cX11_drawGuests 28 = .ok (.goto (-24), 3) := by decide +kernel
theorem dX11_drawGuests_31 : decode cX11_drawGuests 31 = .ok (.iload_n 1, 1) := by decide +kernel
theorem dX11_drawGuests_32 : decode cX11_drawGuests 32 = .ok (.ifCond .ne 10, 3) := by decide +kernel
theorem dX11_drawGuests_35 : decode cX11_drawGuests 35 = .ok (.aload_n 0, 1) := by decide +kernel
theorem dX11_drawGuests_36 : decode cX11_drawGuests 36 = .ok (.invokevirtual 280, 3) := by decide +kernel
theorem dX11_drawGuests_39 : decode cX11_drawGuests 39 = .ok (.goto 4, 3) := by decide +kernel
theorem dX11_drawGuests_42 : decode cX11_drawGuests 42 = .ok (.iload_n 1, 1) := by decide +kernel
theorem dX11_drawGuests_43 : decode cX11_drawGuests 43 = .ok (.ireturn, 1) := by decide +kernel
theorem ML_X11_268 : MLk RX11 268 yX11_draw := Or.inl ml_X11_268
theorem MV_X11_draw : MVk K_X11_draw 1 11 := ⟨⟨cd_X11_draw, in_X11, ⟨by decide, by decide, by decide +kernel⟩, by decide⟩, im_X11_draw, se_X11_draw, _, _, rfl⟩
def f_X11_drawGuests_43 (s0 : Int32) (h : AH) : Option (Int32 × AH) :=
  some (s0, h)
def f_X11_drawGuests_4 : Nat → Nat → Int32 → Int32 → AH → Option (Int32 × AH)
  | 0, _, _, _, _ => none
  | n + 1, k0, x1, x2, h =>
    if (h.1 (rf k0 1) 2) ≤ x2 then (
      if x1 = 0 then (
        ob (f_X11_everybody k0 h) fun r_5 h_4 =>
        f_X11_drawGuests_43 r_5 h_4
      ) else (
        f_X11_drawGuests_43 x1 h
      )
    ) else (
      ob (f_X11_draw k0 2 h) fun r_8 h_7 =>
      nm ((x1 ||| (r_8 <<< (x2 &&& 31)))) fun x1_9 =>
      nm (x2 + 1) fun x2_11 =>
      f_X11_drawGuests_4 n k0 x1_9 x2_11 h_7
    )
def f_X11_drawGuests (k0 : Nat) (h : AH) : Option (Int32 × AH) :=
  f_X11_drawGuests_4 FU k0 0 0 h
set_option maxHeartbeats 4000000 in
set_option maxRecDepth 100000 in
theorem v_X11_drawGuests_43 {E : EV} {d : Nat} (hd : 1 ≤ d) {r0 : Int32} {h0 : AH} {s0 : Int32} {h : AH} (hf : f_X11_drawGuests_43 s0 h = some (r0, h0)) : V E (d + 1) K_X11_drawGuests (ZI E r0 h0) h [] [.int s0] 43 := by
  unfold f_X11_drawGuests_43 at hf
  exact V_iret rfl (so_s hf) dX11_drawGuests_43
set_option maxHeartbeats 4000000 in
set_option maxRecDepth 100000 in
theorem v_X11_drawGuests_4 {E : EV} {d : Nat} (hd : 1 ≤ d) {r0 : Int32} {h0 : AH} : ∀ (n : Nat) (k0 : Nat) (x1 : Int32) (x2 : Int32) (h : AH), f_X11_drawGuests_4 n k0 x1 x2 h = some (r0, h0) → kd k0 = (0, 11) → V E (d + 1) K_X11_drawGuests (ZI E r0 h0) h [(0, .ref k0), (1, .int x1), (2, .int x2)] [] 4 := by
  intro n
  induction n with
  | zero =>
    intro k0 x1 x2 h hf
    rw [f_X11_drawGuests_4] at hf
    cases hf
  | succ n ih =>
    intro k0 x1 x2 h hf t_k0
    rw [f_X11_drawGuests_4] at hf
    refine V_iload_n 2 dX11_drawGuests_4 rfl rfl ?_
    refine V_aload_n 0 dX11_drawGuests_5 rfl rfl ?_
    refine V_getR F_X11_19 rfl t_k0 rfl dX11_drawGuests_6 ?_
    refine V_getI F_X11_144 rfl (rfO t_k0 (Nat.le_of_ble_eq_true rfl) rfl rfl) rfl dX11_drawGuests_9 ?_
    refine V_ic_ge (tgt := 31) dX11_drawGuests_12 (by decide) (fun c_1 => ?_) (fun c_1 => ?_)
    · have hf := it_s c_1 hf
      refine V_iload_n 1 dX11_drawGuests_31 rfl rfl ?_
      refine V_if_ne (tgt := 42) dX11_drawGuests_32 (by decide) (fun c_2 => ?_) (fun c_2 => ?_)
      · have hf := if_s c_2 hf
        refine V_iload_n 1 dX11_drawGuests_42 rfl rfl ?_
        refine V_sub [] rfl ?_
        exact v_X11_drawGuests_43 hd hf
      · have hf := it_s c_2 hf
        refine V_aload_n 0 dX11_drawGuests_35 rfl rfl ?_
        obtain ⟨r_5, h_4, e_3, hf⟩ := ob_s hf
        refine V_cvi (As := []) (rest := []) (c_X11_everybody (d := d) (Nat.le_trans (Nat.le_of_ble_eq_true rfl) hd) e_3 t_k0) ML_X11_280 MV_X11_everybody rfl t_k0 rfl rfl (Nat.le_of_ble_eq_true rfl) dX11_drawGuests_36 ?_
        refine V_goto (tgt := 43) dX11_drawGuests_39 (by decide) ?_
        refine V_sub [] rfl ?_
        exact v_X11_drawGuests_43 hd hf
    · have hf := if_s c_1 hf
      refine V_iload_n 1 dX11_drawGuests_15 rfl rfl ?_
      refine V_aload_n 0 dX11_drawGuests_16 rfl rfl ?_
      refine V_iconst (v := 2) dX11_drawGuests_17 (by decide) ?_
      obtain ⟨r_8, h_7, e_6, hf⟩ := ob_s hf
      refine V_cvi (As := [.int 2]) (rest := [.int x1]) (c_X11_draw (d := d) (Nat.le_trans (Nat.le_of_ble_eq_true rfl) hd) e_6 t_k0) ML_X11_268 MV_X11_draw rfl t_k0 rfl rfl (Nat.le_of_ble_eq_true rfl) dX11_drawGuests_18 ?_
      refine V_iload_n 2 dX11_drawGuests_21 rfl rfl ?_
      refine V_ishl dX11_drawGuests_22 ?_
      refine V_ior dX11_drawGuests_23 ?_
      obtain ⟨x1_9, e_10, hf⟩ := nm_s hf
      refine V_istore_n (L' := [(1, .int x1_9), (0, .ref k0), (2, .int x2)]) dX11_drawGuests_24 rfl (Nat.le_of_ble_eq_true rfl) e_10 rfl ?_
      obtain ⟨x2_11, e_12, hf⟩ := nm_s hf
      refine V_iinc (a := 1) (L' := [(2, .int x2_11), (1, .int x1_9), (0, .ref k0)]) 2 dX11_drawGuests_25 rfl (by decide) (Nat.le_of_ble_eq_true rfl) e_12 rfl ?_
      refine V_goto (tgt := 4) dX11_drawGuests_28 (by decide) ?_
      refine V_sub [2, 1, 0] rfl ?_
      exact ih _ _ _ _ hf t_k0
set_option maxHeartbeats 4000000 in
set_option maxRecDepth 100000 in
theorem c_X11_drawGuests {E : EV} {d : Nat} (hd : 1 + 1 ≤ d) {k0 : Nat} {h : AH} {r0 : Int32} {h0 : AH} (hf : f_X11_drawGuests k0 h = some (r0, h0)) (t_k0 : kd k0 = (0, 11)) : Con E d K_X11_drawGuests (ZI E r0 h0) [.ref k0] h := by
  obtain ⟨d, rfl⟩ : ∃ d', d = d' + 1 := ⟨d - 1, by omega⟩
  have hd := Nat.le_of_succ_le_succ hd
  refine Con.ofV rfl (Nat.le_of_ble_eq_true rfl) ?_
  unfold f_X11_drawGuests at hf
  show V E (d + 1) K_X11_drawGuests (ZI E r0 h0) h [(0, .ref k0)] [] 0
  refine V_iconst (v := 0) dX11_drawGuests_0 (by decide) ?_
  refine V_istore_n (L' := [(1, .int 0), (0, .ref k0)]) dX11_drawGuests_1 rfl (Nat.le_of_ble_eq_true rfl) rfl rfl ?_
  refine V_iconst (v := 0) dX11_drawGuests_2 (by decide) ?_
  refine V_istore_n (L' := [(2, .int 0), (1, .int 0), (0, .ref k0)]) dX11_drawGuests_3 rfl (Nat.le_of_ble_eq_true rfl) rfl rfl ?_
  refine V_sub [2, 1, 0] rfl ?_
  exact v_X11_drawGuests_4 hd FU _ _ _ _ hf t_k0
theorem dX11_drawOrder_0 : decode cX11_drawOrder 0 = .ok (.aload_n 0, 1) := by decide +kernel
theorem dX11_drawOrder_1 : decode cX11_drawOrder 1 = .ok (.getfield 73, 3) := by decide +kernel
theorem dX11_drawOrder_4 : decode cX11_drawOrder 4 = .ok (.iload_n 1, 1) := by decide +kernel
theorem dX11_drawOrder_5 : decode cX11_drawOrder 5 = .ok (.invokevirtual 283, 3) := by decide +kernel
theorem dX11_drawOrder_8 : decode cX11_drawOrder 8 = .ok (.aload_n 0, 1) := by decide +kernel
theorem dX11_drawOrder_9 : decode cX11_drawOrder 9 = .ok (.getfield 73, 3) := by decide +kernel
theorem dX11_drawOrder_12 : decode cX11_drawOrder 12 = .ok (.getfield 286, 3) := by decide +kernel
theorem dX11_drawOrder_15 : decode cX11_drawOrder 15 = .ok (.iconst 1, 1) := by decide +kernel
theorem dX11_drawOrder_16 : decode cX11_drawOrder 16 = .ok (.isub, 1) := by decide +kernel
theorem dX11_drawOrder_17 : decode cX11_drawOrder 17 = .ok (.istore_n 2, 1) := by decide +kernel
theorem dX11_drawOrder_18 : decode cX11_drawOrder 18 = .ok (.iload_n 2, 1) := by decide +kernel
theorem dX11_drawOrder_19 : decode cX11_drawOrder 19 = .ok (.ifCond .le 24, 3) := by decide +kernel
theorem dX11_drawOrder_22 : decode cX11_drawOrder 22 = .ok (.aload_n 0, 1) := by decide +kernel
theorem dX11_drawOrder_23 : decode cX11_drawOrder 23 = .ok (.getfield 73, 3) := by decide +kernel
theorem dX11_drawOrder_26 : decode cX11_drawOrder 26 = .ok (.iload_n 2, 1) := by decide +kernel
theorem dX11_drawOrder_27 : decode cX11_drawOrder 27 = .ok (.aload_n 0, 1) := by decide +kernel
theorem dX11_drawOrder_28 : decode cX11_drawOrder 28 = .ok (.iload_n 2, 1) := by decide +kernel
theorem dX11_drawOrder_29 : decode cX11_drawOrder 29 = .ok (.iconst 1, 1) := by decide +kernel
theorem dX11_drawOrder_30 : decode cX11_drawOrder 30 = .ok (.iadd, 1) := by decide +kernel
theorem dX11_drawOrder_31 : decode cX11_drawOrder 31 = .ok (.invokevirtual 268, 3) := by decide +kernel
theorem dX11_drawOrder_34 : decode cX11_drawOrder 34 = .ok (.invokevirtual 287, 3) := by decide +kernel
theorem dX11_drawOrder_37 : decode cX11_drawOrder 37 = .ok (.iinc 2 (-1), 3) := by decide +kernel
theorem dX11_drawOrder_40 : decode cX11_drawOrder 40 = .ok (.goto (-22), 3) := by decide +kernel
theorem dX11_drawOrder_43 : decode cX11_drawOrder 43 = .ok (.return_, 1) := by decide +kernel
theorem ML_X11_287 : MLk RX11 287 yX5_exchange := Or.inl ml_X11_287
theorem ML_X11_283 : MLk RX11 283 yX5_lowest := Or.inl ml_X11_283
theorem F_X11_286 : FLk RX11 286 5 2 := ⟨RX5, TX5, 6, rfl, rfl, iw_X5, by decide, Or.inr ⟨_, fn_X11_286⟩⟩
def f_X11_drawOrder_18 : Nat → Nat → Int32 → AH → Option AH
  | 0, _, _, _ => none
  | n + 1, k0, x2, h =>
    if x2 ≤ 0 then (
      some h
    ) else (
      ob (f_X11_draw k0 (x2 + 1) h) fun r_4 h_3 =>
      ov (f_X5_exchange (rf k0 11) x2 r_4 h_3) fun h_6 =>
      nm (x2 + (-1)) fun x2_7 =>
      f_X11_drawOrder_18 n k0 x2_7 h_6
    )
def f_X11_drawOrder (k0 : Nat) (x1 : Int32) (h : AH) : Option AH :=
  ov (f_X5_lowest (rf k0 11) x1 h) fun h_2 =>
  nm (((h_2.1 (rf k0 11) 2) - 1)) fun x2_3 =>
  f_X11_drawOrder_18 FU k0 x2_3 h_2
set_option maxHeartbeats 4000000 in
set_option maxRecDepth 100000 in
theorem v_X11_drawOrder_18 {E : EV} {d : Nat} (hd : 2 ≤ d) {h0 : AH} : ∀ (n : Nat) (k0 : Nat) (x2 : Int32) (h : AH), f_X11_drawOrder_18 n k0 x2 h = some h0 → kd k0 = (0, 11) → V E (d + 1) K_X11_drawOrder (ZV E h0) h [(0, .ref k0), (2, .int x2)] [] 18 := by
  intro n
  induction n with
  | zero =>
    intro k0 x2 h hf
    rw [f_X11_drawOrder_18] at hf
    cases hf
  | succ n ih =>
    intro k0 x2 h hf t_k0
    rw [f_X11_drawOrder_18] at hf
    refine V_iload_n 1 dX11_drawOrder_18 rfl rfl ?_
    refine V_if_le (tgt := 43) dX11_drawOrder_19 (by decide) (fun c_1 => ?_) (fun c_1 => ?_)
    · have hf := it_s c_1 hf
      exact V_vret rfl (so_s hf) dX11_drawOrder_43
    · have hf := if_s c_1 hf
      refine V_aload_n 0 dX11_drawOrder_22 rfl rfl ?_
      refine V_getR F_X11_73 rfl t_k0 rfl dX11_drawOrder_23 ?_
      refine V_iload_n 1 dX11_drawOrder_26 rfl rfl ?_
      refine V_aload_n 0 dX11_drawOrder_27 rfl rfl ?_
      refine V_iload_n 1 dX11_drawOrder_28 rfl rfl ?_
      refine V_iconst (v := 1) dX11_drawOrder_29 (by decide) ?_
      refine V_iadd dX11_drawOrder_30 ?_
      obtain ⟨r_4, h_3, e_2, hf⟩ := ob_s hf
      refine V_cvi (As := [.int (x2 + 1)]) (rest := [.int x2, .ref (rf k0 11)]) (c_X11_draw (d := d) (Nat.le_trans (Nat.le_of_ble_eq_true rfl) hd) e_2 t_k0) ML_X11_268 MV_X11_draw rfl t_k0 rfl rfl (Nat.le_of_ble_eq_true rfl) dX11_drawOrder_31 ?_
      obtain ⟨h_6, e_5, hf⟩ := ov_s hf
      refine V_cvv (As := [.int x2, .int r_4]) (rest := []) (c_X5_exchange (d := d) (Nat.le_trans (Nat.le_of_ble_eq_true rfl) hd) e_5 (rfO t_k0 (Nat.le_of_ble_eq_true rfl) rfl rfl)) ML_X11_287 MV_X5_exchange rfl (rfO t_k0 (Nat.le_of_ble_eq_true rfl) rfl rfl) rfl rfl (Nat.le_of_ble_eq_true rfl) dX11_drawOrder_34 ?_
      obtain ⟨x2_7, e_8, hf⟩ := nm_s hf
      refine V_iinc (a := (-1)) (L' := [(2, .int x2_7), (0, .ref k0)]) 1 dX11_drawOrder_37 rfl (by decide) (Nat.le_of_ble_eq_true rfl) e_8 rfl ?_
      refine V_goto (tgt := 18) dX11_drawOrder_40 (by decide) ?_
      refine V_sub [1, 0] rfl ?_
      exact ih _ _ _ hf t_k0
set_option maxHeartbeats 4000000 in
set_option maxRecDepth 100000 in
theorem c_X11_drawOrder {E : EV} {d : Nat} (hd : 2 + 1 ≤ d) {k0 : Nat} {x1 : Int32} {h : AH} {h0 : AH} (hf : f_X11_drawOrder k0 x1 h = some h0) (t_k0 : kd k0 = (0, 11)) : Con E d K_X11_drawOrder (ZV E h0) [.ref k0, .int x1] h := by
  obtain ⟨d, rfl⟩ : ∃ d', d = d' + 1 := ⟨d - 1, by omega⟩
  have hd := Nat.le_of_succ_le_succ hd
  refine Con.ofV rfl (Nat.le_of_ble_eq_true rfl) ?_
  unfold f_X11_drawOrder at hf
  show V E (d + 1) K_X11_drawOrder (ZV E h0) h [(0, .ref k0), (1, .int x1)] [] 0
  refine V_aload_n 0 dX11_drawOrder_0 rfl rfl ?_
  refine V_getR F_X11_73 rfl t_k0 rfl dX11_drawOrder_1 ?_
  refine V_iload_n 1 dX11_drawOrder_4 rfl rfl ?_
  obtain ⟨h_2, e_1, hf⟩ := ov_s hf
  refine V_cvv (As := [.int x1]) (rest := []) (c_X5_lowest (d := d) (Nat.le_trans (Nat.le_of_ble_eq_true rfl) hd) e_1 (rfO t_k0 (Nat.le_of_ble_eq_true rfl) rfl rfl)) ML_X11_283 MV_X5_lowest rfl (rfO t_k0 (Nat.le_of_ble_eq_true rfl) rfl rfl) rfl rfl (Nat.le_of_ble_eq_true rfl) dX11_drawOrder_5 ?_
  refine V_aload_n 0 dX11_drawOrder_8 rfl rfl ?_
  refine V_getR F_X11_73 rfl t_k0 rfl dX11_drawOrder_9 ?_
  refine V_getI F_X11_286 rfl (rfO t_k0 (Nat.le_of_ble_eq_true rfl) rfl rfl) rfl dX11_drawOrder_12 ?_
  refine V_iconst (v := 1) dX11_drawOrder_15 (by decide) ?_
  refine V_isub dX11_drawOrder_16 ?_
  obtain ⟨x2_3, e_4, hf⟩ := nm_s hf
  refine V_istore_n (L' := [(2, .int x2_3), (0, .ref k0), (1, .int x1)]) dX11_drawOrder_17 rfl (Nat.le_of_ble_eq_true rfl) e_4 rfl ?_
  refine V_sub [1, 0] rfl ?_
  exact v_X11_drawOrder_18 hd FU _ _ _ hf t_k0
theorem dX3_worthWith_0 : decode cX3_worthWith 0 = .ok (.aload_n 0, 1) := by decide +kernel
theorem dX3_worthWith_1 : decode cX3_worthWith 1 = .ok (.getfield 15, 3) := by decide +kernel
theorem dX3_worthWith_4 : decode cX3_worthWith 4 = .ok (.getfield 50, 3) := by decide +kernel
theorem dX3_worthWith_7 : decode cX3_worthWith 7 = .ok (.iload_n 1, 1) := by decide +kernel
theorem dX3_worthWith_8 : decode cX3_worthWith 8 = .ok (.iaload, 1) := by decide +kernel
theorem dX3_worthWith_9 : decode cX3_worthWith 9 = .ok (.aload_n 0, 1) := by decide +kernel
theorem dX3_worthWith_10 : decode cX3_worthWith 10 = .ok (.getfield 9, 3) := by decide +kernel
theorem dX3_worthWith_13 : decode cX3_worthWith 13 = .ok (.iload_n 2, 1) := by decide +kernel
theorem dX3_worthWith_14 : decode cX3_worthWith 14 = .ok (.iconst 1, 1) := by decide +kernel
theorem dX3_worthWith_15 : decode cX3_worthWith 15 = .ok (.isub, 1) := by decide +kernel
theorem dX3_worthWith_16 : decode cX3_worthWith 16 = .ok (.bipush 64, 2) := by decide +kernel
theorem dX3_worthWith_18 : decode cX3_worthWith 18 = .ok (.imul, 1) := by decide +kernel
theorem dX3_worthWith_19 : decode cX3_worthWith 19 = .ok (.iload_n 3, 1) := by decide +kernel
theorem dX3_worthWith_20 : decode cX3_worthWith 20 = .ok (.iconst 1, 1) := by decide +kernel
theorem dX3_worthWith_21 : decode cX3_worthWith 21 = .ok (.iload_n 1, 1) := by decide +kernel
theorem dX3_worthWith_22 : decode cX3_worthWith 22 = .ok (.ishl, 1) := by decide +kernel
theorem dX3_worthWith_23 : decode cX3_worthWith 23 = .ok (.iconst (-1), 1) := by decide +kernel
theorem dX3_worthWith_24 : decode cX3_worthWith 24 = .ok (.ixor, 1) := by decide +kernel
theorem dX3_worthWith_25 : decode cX3_worthWith 25 = .ok (.iand, 1) := by decide +kernel
theorem dX3_worthWith_26 : decode cX3_worthWith 26 = .ok (.iadd, 1) := by decide +kernel
theorem dX3_worthWith_27 : decode cX3_worthWith 27 = .ok (.iaload, 1) := by decide +kernel
theorem dX3_worthWith_28 : decode cX3_worthWith 28 = .ok (.iadd, 1) := by decide +kernel
theorem dX3_worthWith_29 : decode cX3_worthWith 29 = .ok (.ireturn, 1) := by decide +kernel
theorem F_X3_15 : FLk RX3 15 3 0 := ⟨RX3, TX3, 2, rfl, rfl, iw_X3, by decide, Or.inl fl_X3_15⟩
theorem F_X3_50 : FLk RX3 50 2 3 := ⟨RX2, TX2, 7, rfl, rfl, iw_X2, by decide, Or.inr ⟨_, fn_X3_50⟩⟩
theorem F_X3_9 : FLk RX3 9 3 1 := ⟨RX3, TX3, 2, rfl, rfl, iw_X3, by decide, Or.inl fl_X3_9⟩
def f_X3_worthWith (k0 : Nat) (x1 : Int32) (x2 : Int32) (x3 : Int32) (h : AH) : Option (Int32 × AH) :=
  og (ix x1 (an (rf (rf k0 0) 3))) <|
  og (ix (((x2 - 1) * 64) + (x3 &&& (((1 : Int32) <<< (x1 &&& 31)) ^^^ (-1)))) (an (rf k0 1))) <|
  some (((h.1 (rf (rf k0 0) 3) x1.toNatClampNeg) + (h.1 (rf k0 1) (((x2 - 1) * 64) + (x3 &&& (((1 : Int32) <<< (x1 &&& 31)) ^^^ (-1)))).toNatClampNeg)), h)
set_option maxHeartbeats 4000000 in
set_option maxRecDepth 100000 in
theorem c_X3_worthWith {E : EV} {d : Nat} (hd : 0 + 1 ≤ d) {k0 : Nat} {x1 : Int32} {x2 : Int32} {x3 : Int32} {h : AH} {r0 : Int32} {h0 : AH} (hf : f_X3_worthWith k0 x1 x2 x3 h = some (r0, h0)) (t_k0 : kd k0 = (0, 3)) : Con E d K_X3_worthWith (ZI E r0 h0) [.ref k0, .int x1, .int x2, .int x3] h := by
  obtain ⟨d, rfl⟩ : ∃ d', d = d' + 1 := ⟨d - 1, by omega⟩
  have hd := Nat.le_of_succ_le_succ hd
  refine Con.ofV rfl (Nat.le_of_ble_eq_true rfl) ?_
  unfold f_X3_worthWith at hf
  show V E (d + 1) K_X3_worthWith (ZI E r0 h0) h [(0, .ref k0), (1, .int x1), (2, .int x2), (3, .int x3)] [] 0
  refine V_aload_n 0 dX3_worthWith_0 rfl rfl ?_
  refine V_getR F_X3_15 rfl t_k0 rfl dX3_worthWith_1 ?_
  refine V_getR F_X3_50 rfl (rfO t_k0 (Nat.le_of_ble_eq_true rfl) rfl rfl) rfl dX3_worthWith_4 ?_
  refine V_iload_n 1 dX3_worthWith_7 rfl rfl ?_
  obtain ⟨b_1, hf⟩ := og_s hf
  refine V_iald (rfA (rfO t_k0 (Nat.le_of_ble_eq_true rfl) rfl rfl) (Nat.le_of_ble_eq_true rfl) rfl rfl (by decide)) b_1 dX3_worthWith_8 ?_
  refine V_aload_n 0 dX3_worthWith_9 rfl rfl ?_
  refine V_getR F_X3_9 rfl t_k0 rfl dX3_worthWith_10 ?_
  refine V_iload_n 2 dX3_worthWith_13 rfl rfl ?_
  refine V_iconst (v := 1) dX3_worthWith_14 (by decide) ?_
  refine V_isub dX3_worthWith_15 ?_
  refine V_bipush (v := 64) dX3_worthWith_16 (by decide) ?_
  refine V_imul dX3_worthWith_18 ?_
  refine V_iload_n 3 dX3_worthWith_19 rfl rfl ?_
  refine V_iconst (v := 1) dX3_worthWith_20 (by decide) ?_
  refine V_iload_n 1 dX3_worthWith_21 rfl rfl ?_
  refine V_ishl dX3_worthWith_22 ?_
  refine V_iconst (v := (-1)) dX3_worthWith_23 (by decide) ?_
  refine V_ixor dX3_worthWith_24 ?_
  refine V_iand dX3_worthWith_25 ?_
  refine V_iadd dX3_worthWith_26 ?_
  obtain ⟨b_2, hf⟩ := og_s hf
  refine V_iald (rfA t_k0 (Nat.le_of_ble_eq_true rfl) rfl rfl (by decide)) b_2 dX3_worthWith_27 ?_
  refine V_iadd dX3_worthWith_28 ?_
  exact V_iret rfl (so_s hf) dX3_worthWith_29
theorem dX3_bestOf_0 : decode cX3_bestOf 0 = .ok (.aload_n 0, 1) := by decide +kernel
theorem dX3_bestOf_1 : decode cX3_bestOf 1 = .ok (.getfield 9, 3) := by decide +kernel
theorem dX3_bestOf_4 : decode cX3_bestOf 4 = .ok (.iload_n 2, 1) := by decide +kernel
theorem dX3_bestOf_5 : decode cX3_bestOf 5 = .ok (.iconst 1, 1) := by decide +kernel
theorem dX3_bestOf_6 : decode cX3_bestOf 6 = .ok (.isub, 1) := by decide +kernel
theorem dX3_bestOf_7 : decode cX3_bestOf 7 = .ok (.bipush 64, 2) := by decide +kernel
theorem dX3_bestOf_9 : decode cX3_bestOf 9 = .ok (.imul, 1) := by decide +kernel
theorem dX3_bestOf_10 : decode cX3_bestOf 10 = .ok (.iload_n 3, 1) := by decide +kernel
theorem dX3_bestOf_11 : decode cX3_bestOf 11 = .ok (.iadd, 1) := by decide +kernel
theorem dX3_bestOf_12 : decode cX3_bestOf 12 = .ok (.iaload, 1) := by decide +kernel
theorem dX3_bestOf_13 : decode cX3_bestOf 13 = .ok (.istore 4, 2) := by decide +kernel
theorem dX3_bestOf_15 : decode cX3_bestOf 15 = .ok (.iconst 0, 1) := by decide +kernel
theorem dX3_bestOf_16 : decode cX3_bestOf 16 = .ok (.istore 5, 2) := by decide +kernel
theorem dX3_bestOf_18 : decode cX3_bestOf 18 = .ok (.iload 5, 2) := by decide +kernel
theorem dX3_bestOf_20 : decode cX3_bestOf 20 = .ok (.bipush 6, 2) := by decide +kernel
theorem dX3_bestOf_22 : decode cX3_bestOf 22 = .ok (.if_icmp .ge 57, 3) := by decide +kernel
theorem dX3_bestOf_25 : decode cX3_bestOf 25 = .ok (.iload_n 3, 1) := by decide +kernel
theorem dX3_bestOf_26 : decode cX3_bestOf 26 = .ok (.iload 5, 2) := by decide +kernel
theorem dX3_bestOf_28 : decode cX3_bestOf 28 = .ok (.invokestatic 19, 3) := by decide +kernel
theorem dX3_bestOf_31 : decode cX3_bestOf 31 = .ok (.ifCond .eq 42, 3) := by decide +kernel
theorem dX3_bestOf_34 : decode cX3_bestOf 34 = .ok (.aload_n 0, 1) := by decide +kernel
theorem dX3_bestOf_35 : decode cX3_bestOf 35 = .ok (.getfield 15, 3) := by decide +kernel
theorem dX3_bestOf_38 : decode cX3_bestOf 38 = .ok (.getfield 27, 3) := by decide +kernel
theorem dX3_bestOf_41 : decode cX3_bestOf 41 = .ok (.iload_n 1, 1) := by decide +kernel
theorem dX3_bestOf_42 : decode cX3_bestOf 42 = .ok (.aload_n 0, 1) := by decide +kernel
theorem dX3_bestOf_43 : decode cX3_bestOf 43 = .ok (.getfield 15, 3) := by decide +kernel
theorem dX3_bestOf_46 : decode cX3_bestOf 46 = .ok (.getfield 33, 3) := by decide +kernel
theorem dX3_bestOf_49 : decode cX3_bestOf 49 = .ok (.iload 5, 2) := by decide +kernel
theorem dX3_bestOf_51 : decode cX3_bestOf 51 = .ok (.iaload, 1) := by decide +kernel
theorem dX3_bestOf_52 : decode cX3_bestOf 52 = .ok (.invokevirtual 36, 3) := by decide +kernel
theorem dX3_bestOf_55 : decode cX3_bestOf 55 = .ok (.ifCond .eq 18, 3) := by decide +kernel
theorem dX3_bestOf_58 : decode cX3_bestOf 58 = .ok (.iload 4, 2) := by decide +kernel
theorem dX3_bestOf_60 : decode cX3_bestOf 60 = .ok (.aload_n 0, 1) := by decide +kernel
theorem dX3_bestOf_61 : decode cX3_bestOf 61 = .ok (.iload 5, 2) := by decide +kernel
theorem dX3_bestOf_63 : decode cX3_bestOf 63 = .ok (.iload_n 2, 1) := by decide +kernel
theorem dX3_bestOf_64 : decode cX3_bestOf 64 = .ok (.iload_n 3, 1) := by decide +kernel
theorem dX3_bestOf_65 : decode cX3_bestOf 65 = .ok (.invokevirtual 41, 3) := by decide +kernel
theorem dX3_bestOf_68 : decode cX3_bestOf 68 = .ok (.invokestatic 44, 3) := by decide +kernel
theorem dX3_bestOf_71 : decode cX3_bestOf 71 = .ok (.istore 4, 2) := by decide +kernel
theorem dX3_bestOf_73 : decode cX3_bestOf 73 = .ok (.iinc 5 1, 3) := by decide +kernel
theorem dX3_bestOf_76 : decode cX3_bestOf 76 = .ok (.goto (-58), 3) := by decide +kernel
theorem dX3_bestOf_79 : decode cX3_bestOf 79 = .ok (.iload 4, 2) := by decide +kernel
theorem dX3_bestOf_81 : decode cX3_bestOf 81 = .ok (.ireturn, 1) := by decide +kernel
theorem ML_X3_19 : MLk RX3 19 yX11_isIn := Or.inr ⟨_, mn_X3_19⟩
theorem F_X3_27 : FLk RX3 27 2 0 := ⟨RX2, TX2, 7, rfl, rfl, iw_X2, by decide, Or.inr ⟨_, fn_X3_27⟩⟩
theorem F_X3_33 : FLk RX3 33 2 2 := ⟨RX2, TX2, 7, rfl, rfl, iw_X2, by decide, Or.inr ⟨_, fn_X3_33⟩⟩
theorem ML_X3_36 : MLk RX3 36 yX6_canWear := Or.inl ml_X3_36
theorem ML_X3_41 : MLk RX3 41 yX3_worthWith := Or.inl ml_X3_41
theorem MV_X3_worthWith : MVk K_X3_worthWith 3 3 := ⟨⟨cd_X3_worthWith, in_X3, ⟨by decide, by decide, by decide +kernel⟩, by decide⟩, im_X3_worthWith, se_X3_worthWith, _, _, rfl⟩
def f_X3_bestOf_73 (q18 : Nat → Int32 → Int32 → Int32 → Int32 → Int32 → AH → Option (Int32 × AH)) (k0 : Nat) (x1 : Int32) (x2 : Int32) (x3 : Int32) (x4 : Int32) (x5 : Int32) (h : AH) : Option (Int32 × AH) :=
  nm (x5 + 1) fun x5_1 =>
  q18 k0 x1 x2 x3 x4 x5_1 h
def f_X3_bestOf_18 : Nat → Nat → Int32 → Int32 → Int32 → Int32 → Int32 → AH → Option (Int32 × AH)
  | 0, _, _, _, _, _, _, _ => none
  | n + 1, k0, x1, x2, x3, x4, x5, h =>
    if 6 ≤ x5 then (
      some (x4, h)
    ) else (
      ob (f_X11_isIn x3 x5 h) fun r_4 h_3 =>
      if r_4 = 0 then (
        f_X3_bestOf_73 (f_X3_bestOf_18 n) k0 x1 x2 x3 x4 x5 h_3
      ) else (
        og (ix x5 (an (rf (rf k0 0) 2))) <|
        ob (f_X6_canWear (rf (rf k0 0) 0) x1 (h_3.1 (rf (rf k0 0) 2) x5.toNatClampNeg) h_3) fun r_9 h_8 =>
        if r_9 = 0 then (
          f_X3_bestOf_73 (f_X3_bestOf_18 n) k0 x1 x2 x3 x4 x5 h_8
        ) else (
          ob (f_X3_worthWith k0 x5 x2 x3 h_8) fun r_13 h_12 =>
          nm ((if x4 < r_13 then r_13 else x4)) fun x4_14 =>
          f_X3_bestOf_73 (f_X3_bestOf_18 n) k0 x1 x2 x3 x4_14 x5 h_12
        )
      )
    )
def f_X3_bestOf (k0 : Nat) (x1 : Int32) (x2 : Int32) (x3 : Int32) (h : AH) : Option (Int32 × AH) :=
  og (ix (((x2 - 1) * 64) + x3) (an (rf k0 1))) <|
  nm ((h.1 (rf k0 1) (((x2 - 1) * 64) + x3).toNatClampNeg)) fun x4_2 =>
  f_X3_bestOf_18 FU k0 x1 x2 x3 x4_2 0 h
set_option maxHeartbeats 4000000 in
set_option maxRecDepth 100000 in
theorem v_X3_bestOf_73 {E : EV} {d : Nat} (hd : 2 ≤ d) {r0 : Int32} {h0 : AH} {q18 : Nat → Int32 → Int32 → Int32 → Int32 → Int32 → AH → Option (Int32 × AH)} (cq18 : ∀ (k0 : Nat) (x1 : Int32) (x2 : Int32) (x3 : Int32) (x4 : Int32) (x5 : Int32) (h : AH), q18 k0 x1 x2 x3 x4 x5 h = some (r0, h0) → kd k0 = (0, 3) → V E (d + 1) K_X3_bestOf (ZI E r0 h0) h [(0, .ref k0), (1, .int x1), (2, .int x2), (3, .int x3), (4, .int x4), (5, .int x5)] [] 18) {k0 : Nat} {x1 : Int32} {x2 : Int32} {x3 : Int32} {x4 : Int32} {x5 : Int32} {h : AH} (hf : f_X3_bestOf_73 q18 k0 x1 x2 x3 x4 x5 h = some (r0, h0)) (t_k0 : kd k0 = (0, 3)) : V E (d + 1) K_X3_bestOf (ZI E r0 h0) h [(0, .ref k0), (1, .int x1), (2, .int x2), (3, .int x3), (4, .int x4), (5, .int x5)] [] 73 := by
  unfold f_X3_bestOf_73 at hf
  obtain ⟨x5_1, e_2, hf⟩ := nm_s hf
  refine V_iinc (a := 1) (L' := [(5, .int x5_1), (0, .ref k0), (1, .int x1), (2, .int x2), (3, .int x3), (4, .int x4)]) 5 dX3_bestOf_73 rfl (by decide) (Nat.le_of_ble_eq_true rfl) e_2 rfl ?_
  refine V_goto (tgt := 18) dX3_bestOf_76 (by decide) ?_
  refine V_sub [1, 2, 3, 4, 5, 0] rfl ?_
  exact cq18 _ _ _ _ _ _ _ hf t_k0
set_option maxHeartbeats 4000000 in
set_option maxRecDepth 100000 in
theorem v_X3_bestOf_18 {E : EV} {d : Nat} (hd : 2 ≤ d) {r0 : Int32} {h0 : AH} : ∀ (n : Nat) (k0 : Nat) (x1 : Int32) (x2 : Int32) (x3 : Int32) (x4 : Int32) (x5 : Int32) (h : AH), f_X3_bestOf_18 n k0 x1 x2 x3 x4 x5 h = some (r0, h0) → kd k0 = (0, 3) → V E (d + 1) K_X3_bestOf (ZI E r0 h0) h [(0, .ref k0), (1, .int x1), (2, .int x2), (3, .int x3), (4, .int x4), (5, .int x5)] [] 18 := by
  intro n
  induction n with
  | zero =>
    intro k0 x1 x2 x3 x4 x5 h hf
    rw [f_X3_bestOf_18] at hf
    cases hf
  | succ n ih =>
    intro k0 x1 x2 x3 x4 x5 h hf t_k0
    rw [f_X3_bestOf_18] at hf
    refine V_iload 5 dX3_bestOf_18 rfl ?_
    refine V_bipush (v := 6) dX3_bestOf_20 (by decide) ?_
    refine V_ic_ge (tgt := 79) dX3_bestOf_22 (by decide) (fun c_1 => ?_) (fun c_1 => ?_)
    · have hf := it_s c_1 hf
      refine V_iload 4 dX3_bestOf_79 rfl ?_
      exact V_iret rfl (so_s hf) dX3_bestOf_81
    · have hf := if_s c_1 hf
      refine V_iload_n 3 dX3_bestOf_25 rfl rfl ?_
      refine V_iload 5 dX3_bestOf_26 rfl ?_
      obtain ⟨r_4, h_3, e_2, hf⟩ := ob_s hf
      refine V_csi (As := [.int x3, .int x5]) (rest := []) (c_X11_isIn (d := d) (Nat.le_trans (Nat.le_of_ble_eq_true rfl) hd) e_2) ML_X3_19 MS_X11_isIn rfl rfl rfl (Nat.le_of_ble_eq_true rfl) dX3_bestOf_28 ?_
      refine V_if_eq (tgt := 73) dX3_bestOf_31 (by decide) (fun c_5 => ?_) (fun c_5 => ?_)
      · have hf := it_s c_5 hf
        exact v_X3_bestOf_73 hd ih hf t_k0
      · have hf := if_s c_5 hf
        refine V_aload_n 0 dX3_bestOf_34 rfl rfl ?_
        refine V_getR F_X3_15 rfl t_k0 rfl dX3_bestOf_35 ?_
        refine V_getR F_X3_27 rfl (rfO t_k0 (Nat.le_of_ble_eq_true rfl) rfl rfl) rfl dX3_bestOf_38 ?_
        refine V_iload_n 1 dX3_bestOf_41 rfl rfl ?_
        refine V_aload_n 0 dX3_bestOf_42 rfl rfl ?_
        refine V_getR F_X3_15 rfl t_k0 rfl dX3_bestOf_43 ?_
        refine V_getR F_X3_33 rfl (rfO t_k0 (Nat.le_of_ble_eq_true rfl) rfl rfl) rfl dX3_bestOf_46 ?_
        refine V_iload 5 dX3_bestOf_49 rfl ?_
        obtain ⟨b_6, hf⟩ := og_s hf
        refine V_iald (rfA (rfO t_k0 (Nat.le_of_ble_eq_true rfl) rfl rfl) (Nat.le_of_ble_eq_true rfl) rfl rfl (by decide)) b_6 dX3_bestOf_51 ?_
        obtain ⟨r_9, h_8, e_7, hf⟩ := ob_s hf
        refine V_cvi (As := [.int x1, .int (h_3.1 (rf (rf k0 0) 2) x5.toNatClampNeg)]) (rest := []) (c_X6_canWear (d := d) (Nat.le_trans (Nat.le_of_ble_eq_true rfl) hd) e_7 (rfO (rfO t_k0 (Nat.le_of_ble_eq_true rfl) rfl rfl) (Nat.le_of_ble_eq_true rfl) rfl rfl)) ML_X3_36 MV_X6_canWear rfl (rfO (rfO t_k0 (Nat.le_of_ble_eq_true rfl) rfl rfl) (Nat.le_of_ble_eq_true rfl) rfl rfl) rfl rfl (Nat.le_of_ble_eq_true rfl) dX3_bestOf_52 ?_
        refine V_if_eq (tgt := 73) dX3_bestOf_55 (by decide) (fun c_10 => ?_) (fun c_10 => ?_)
        · have hf := it_s c_10 hf
          exact v_X3_bestOf_73 hd ih hf t_k0
        · have hf := if_s c_10 hf
          refine V_iload 4 dX3_bestOf_58 rfl ?_
          refine V_aload_n 0 dX3_bestOf_60 rfl rfl ?_
          refine V_iload 5 dX3_bestOf_61 rfl ?_
          refine V_iload_n 2 dX3_bestOf_63 rfl rfl ?_
          refine V_iload_n 3 dX3_bestOf_64 rfl rfl ?_
          obtain ⟨r_13, h_12, e_11, hf⟩ := ob_s hf
          refine V_cvi (As := [.int x5, .int x2, .int x3]) (rest := [.int x4]) (c_X3_worthWith (d := d) (Nat.le_trans (Nat.le_of_ble_eq_true rfl) hd) e_11 t_k0) ML_X3_41 MV_X3_worthWith rfl t_k0 rfl rfl (Nat.le_of_ble_eq_true rfl) dX3_bestOf_65 ?_
          refine V_mmax ml_X3_44 rfl (Nat.le_of_ble_eq_true rfl) dX3_bestOf_68 ?_
          obtain ⟨x4_14, e_15, hf⟩ := nm_s hf
          refine V_istore (L' := [(4, .int x4_14), (0, .ref k0), (1, .int x1), (2, .int x2), (3, .int x3), (5, .int x5)]) dX3_bestOf_71 (Nat.le_of_ble_eq_true rfl) e_15 rfl ?_
          refine V_sub [1, 2, 3, 4, 0, 5] rfl ?_
          exact v_X3_bestOf_73 hd ih hf t_k0
set_option maxHeartbeats 4000000 in
set_option maxRecDepth 100000 in
theorem c_X3_bestOf {E : EV} {d : Nat} (hd : 2 + 1 ≤ d) {k0 : Nat} {x1 : Int32} {x2 : Int32} {x3 : Int32} {h : AH} {r0 : Int32} {h0 : AH} (hf : f_X3_bestOf k0 x1 x2 x3 h = some (r0, h0)) (t_k0 : kd k0 = (0, 3)) : Con E d K_X3_bestOf (ZI E r0 h0) [.ref k0, .int x1, .int x2, .int x3] h := by
  obtain ⟨d, rfl⟩ : ∃ d', d = d' + 1 := ⟨d - 1, by omega⟩
  have hd := Nat.le_of_succ_le_succ hd
  refine Con.ofV rfl (Nat.le_of_ble_eq_true rfl) ?_
  unfold f_X3_bestOf at hf
  show V E (d + 1) K_X3_bestOf (ZI E r0 h0) h [(0, .ref k0), (1, .int x1), (2, .int x2), (3, .int x3)] [] 0
  refine V_aload_n 0 dX3_bestOf_0 rfl rfl ?_
  refine V_getR F_X3_9 rfl t_k0 rfl dX3_bestOf_1 ?_
  refine V_iload_n 2 dX3_bestOf_4 rfl rfl ?_
  refine V_iconst (v := 1) dX3_bestOf_5 (by decide) ?_
  refine V_isub dX3_bestOf_6 ?_
  refine V_bipush (v := 64) dX3_bestOf_7 (by decide) ?_
  refine V_imul dX3_bestOf_9 ?_
  refine V_iload_n 3 dX3_bestOf_10 rfl rfl ?_
  refine V_iadd dX3_bestOf_11 ?_
  obtain ⟨b_1, hf⟩ := og_s hf
  refine V_iald (rfA t_k0 (Nat.le_of_ble_eq_true rfl) rfl rfl (by decide)) b_1 dX3_bestOf_12 ?_
  obtain ⟨x4_2, e_3, hf⟩ := nm_s hf
  refine V_istore (L' := [(4, .int x4_2), (0, .ref k0), (1, .int x1), (2, .int x2), (3, .int x3)]) dX3_bestOf_13 (Nat.le_of_ble_eq_true rfl) e_3 rfl ?_
  refine V_iconst (v := 0) dX3_bestOf_15 (by decide) ?_
  refine V_istore (L' := [(5, .int 0), (4, .int x4_2), (0, .ref k0), (1, .int x1), (2, .int x2), (3, .int x3)]) dX3_bestOf_16 (Nat.le_of_ble_eq_true rfl) rfl rfl ?_
  refine V_sub [2, 3, 4, 5, 1, 0] rfl ?_
  exact v_X3_bestOf_18 hd FU _ _ _ _ _ _ _ hf t_k0
theorem dX3_greatest_0 : decode cX3_greatest 0 = .ok (.iconst 0, 1) := by decide +kernel
theorem dX3_greatest_1 : decode cX3_greatest 1 = .ok (.istore_n 3, 1) := by decide +kernel
theorem dX3_greatest_2 : decode cX3_greatest 2 = .ok (.iconst 5, 1) := by decide +kernel
theorem dX3_greatest_3 : decode cX3_greatest 3 = .ok (.istore 4, 2) := by decide +kernel
theorem dX3_greatest_5 : decode cX3_greatest 5 = .ok (.iload 4, 2) := by decide +kernel
theorem dX3_greatest_7 : decode cX3_greatest 7 = .ok (.ifCond .lt 66, 3) := by decide +kernel
theorem dX3_greatest_10 : decode cX3_greatest 10 = .ok (.iload_n 2, 1) := by decide +kernel
theorem dX3_greatest_11 : decode cX3_greatest 11 = .ok (.iload 4, 2) := by decide +kernel
theorem dX3_greatest_13 : decode cX3_greatest 13 = .ok (.invokestatic 19, 3) := by decide +kernel
theorem dX3_greatest_16 : decode cX3_greatest 16 = .ok (.ifCond .eq 51, 3) := by decide +kernel
theorem dX3_greatest_19 : decode cX3_greatest 19 = .ok (.iinc 3 1, 3) := by decide +kernel
theorem dX3_greatest_22 : decode cX3_greatest 22 = .ok (.iconst 0, 1) := by decide +kernel
theorem dX3_greatest_23 : decode cX3_greatest 23 = .ok (.istore 5, 2) := by decide +kernel
theorem dX3_greatest_25 : decode cX3_greatest 25 = .ok (.iload 5, 2) := by decide +kernel
theorem dX3_greatest_27 : decode cX3_greatest 27 = .ok (.iload_n 1, 1) := by decide +kernel
theorem dX3_greatest_28 : decode cX3_greatest 28 = .ok (.if_icmp .gt 39, 3) := by decide +kernel
theorem dX3_greatest_31 : decode cX3_greatest 31 = .ok (.iload 5, 2) := by decide +kernel
theorem dX3_greatest_33 : decode cX3_greatest 33 = .ok (.iload_n 1, 1) := by decide +kernel
theorem dX3_greatest_34 : decode cX3_greatest 34 = .ok (.iconst (-1), 1) := by decide +kernel
theorem dX3_greatest_35 : decode cX3_greatest 35 = .ok (.ixor, 1) := by decide +kernel
theorem dX3_greatest_36 : decode cX3_greatest 36 = .ok (.iand, 1) := by decide +kernel
theorem dX3_greatest_37 : decode cX3_greatest 37 = .ok (.ifCond .ne 24, 3) := by decide +kernel
theorem dX3_greatest_40 : decode cX3_greatest 40 = .ok (.aload_n 0, 1) := by decide +kernel
theorem dX3_greatest_41 : decode cX3_greatest 41 = .ok (.getfield 9, 3) := by decide +kernel
theorem dX3_greatest_44 : decode cX3_greatest 44 = .ok (.iload_n 3, 1) := by decide +kernel
theorem dX3_greatest_45 : decode cX3_greatest 45 = .ok (.bipush 64, 2) := by decide +kernel
theorem dX3_greatest_47 : decode cX3_greatest 47 = .ok (.imul, 1) := by decide +kernel
theorem dX3_greatest_48 : decode cX3_greatest 48 = .ok (.iload 5, 2) := by decide +kernel
theorem dX3_greatest_50 : decode cX3_greatest 50 = .ok (.iadd, 1) := by decide +kernel
theorem dX3_greatest_51 : decode cX3_greatest 51 = .ok (.aload_n 0, 1) := by decide +kernel
theorem dX3_greatest_52 : decode cX3_greatest 52 = .ok (.iload 4, 2) := by decide +kernel
theorem dX3_greatest_54 : decode cX3_greatest 54 = .ok (.iload_n 3, 1) := by decide +kernel
theorem dX3_greatest_55 : decode cX3_greatest 55 = .ok (.iload 5, 2) := by decide +kernel
theorem dX3_greatest_57 : decode cX3_greatest 57 = .ok (.invokevirtual 23, 3) := by decide +kernel
theorem dX3_greatest_60 : decode cX3_greatest 60 = .ok (.iastore, 1) := by decide +kernel
theorem dX3_greatest_61 : decode cX3_greatest 61 = .ok (.iinc 5 1, 3) := by decide +kernel
theorem dX3_greatest_64 : decode cX3_greatest 64 = .ok (.goto (-39), 3) := by decide +kernel
theorem dX3_greatest_67 : decode cX3_greatest 67 = .ok (.iinc 4 (-1), 3) := by decide +kernel
theorem dX3_greatest_70 : decode cX3_greatest 70 = .ok (.goto (-65), 3) := by decide +kernel
theorem dX3_greatest_73 : decode cX3_greatest 73 = .ok (.aload_n 0, 1) := by decide +kernel
theorem dX3_greatest_74 : decode cX3_greatest 74 = .ok (.getfield 9, 3) := by decide +kernel
theorem dX3_greatest_77 : decode cX3_greatest 77 = .ok (.iload_n 3, 1) := by decide +kernel
theorem dX3_greatest_78 : decode cX3_greatest 78 = .ok (.bipush 64, 2) := by decide +kernel
theorem dX3_greatest_80 : decode cX3_greatest 80 = .ok (.imul, 1) := by decide +kernel
theorem dX3_greatest_81 : decode cX3_greatest 81 = .ok (.iload_n 1, 1) := by decide +kernel
theorem dX3_greatest_82 : decode cX3_greatest 82 = .ok (.iadd, 1) := by decide +kernel
theorem dX3_greatest_83 : decode cX3_greatest 83 = .ok (.iaload, 1) := by decide +kernel
theorem dX3_greatest_84 : decode cX3_greatest 84 = .ok (.ireturn, 1) := by decide +kernel
theorem ML_X3_23 : MLk RX3 23 yX3_bestOf := Or.inl ml_X3_23
theorem MV_X3_bestOf : MVk K_X3_bestOf 3 3 := ⟨⟨cd_X3_bestOf, in_X3, ⟨by decide, by decide, by decide +kernel⟩, by decide⟩, im_X3_bestOf, se_X3_bestOf, _, _, rfl⟩
def f_X3_greatest_61 (q25 : Nat → Int32 → Int32 → Int32 → Int32 → Int32 → AH → Option (Int32 × AH)) (k0 : Nat) (x1 : Int32) (x2 : Int32) (x3 : Int32) (x4 : Int32) (x5 : Int32) (h : AH) : Option (Int32 × AH) :=
  nm (x5 + 1) fun x5_1 =>
  q25 k0 x1 x2 x3 x4 x5_1 h
def f_X3_greatest_67 (q5 : Nat → Int32 → Int32 → Int32 → Int32 → AH → Option (Int32 × AH)) (k0 : Nat) (x1 : Int32) (x2 : Int32) (x3 : Int32) (x4 : Int32) (h : AH) : Option (Int32 × AH) :=
  nm (x4 + (-1)) fun x4_1 =>
  q5 k0 x1 x2 x3 x4_1 h
def f_X3_greatest_25 (q5 : Nat → Int32 → Int32 → Int32 → Int32 → AH → Option (Int32 × AH)) : Nat → Nat → Int32 → Int32 → Int32 → Int32 → Int32 → AH → Option (Int32 × AH)
  | 0, _, _, _, _, _, _, _ => none
  | n + 1, k0, x1, x2, x3, x4, x5, h =>
    if x1 < x5 then (
      f_X3_greatest_67 q5 k0 x1 x2 x3 x4 h
    ) else (
      if (x5 &&& (x1 ^^^ (-1))) = 0 then (
        ob (f_X3_bestOf k0 x4 x3 x5 h) fun r_5 h_4 =>
        og (ix ((x3 * 64) + x5) (an (rf k0 1))) <|
        nm (sI h_4 (rf k0 1) ((x3 * 64) + x5).toNatClampNeg r_5) fun h_7 =>
        f_X3_greatest_61 (f_X3_greatest_25 q5 n) k0 x1 x2 x3 x4 x5 h_7
      ) else (
        f_X3_greatest_61 (f_X3_greatest_25 q5 n) k0 x1 x2 x3 x4 x5 h
      )
    )
def f_X3_greatest_5 : Nat → Nat → Int32 → Int32 → Int32 → Int32 → AH → Option (Int32 × AH)
  | 0, _, _, _, _, _, _ => none
  | n + 1, k0, x1, x2, x3, x4, h =>
    if x4 < 0 then (
      og (ix ((x3 * 64) + x1) (an (rf k0 1))) <|
      some ((h.1 (rf k0 1) ((x3 * 64) + x1).toNatClampNeg), h)
    ) else (
      ob (f_X11_isIn x2 x4 h) fun r_5 h_4 =>
      if r_5 = 0 then (
        f_X3_greatest_67 (f_X3_greatest_5 n) k0 x1 x2 x3 x4 h_4
      ) else (
        nm (x3 + 1) fun x3_7 =>
        f_X3_greatest_25 (f_X3_greatest_5 n) FU k0 x1 x2 x3_7 x4 0 h_4
      )
    )
def f_X3_greatest (k0 : Nat) (x1 : Int32) (x2 : Int32) (h : AH) : Option (Int32 × AH) :=
  f_X3_greatest_5 FU k0 x1 x2 0 5 h
set_option maxHeartbeats 4000000 in
set_option maxRecDepth 100000 in
theorem v_X3_greatest_61 {E : EV} {d : Nat} (hd : 3 ≤ d) {r0 : Int32} {h0 : AH} {q25 : Nat → Int32 → Int32 → Int32 → Int32 → Int32 → AH → Option (Int32 × AH)} (cq25 : ∀ (k0 : Nat) (x1 : Int32) (x2 : Int32) (x3 : Int32) (x4 : Int32) (x5 : Int32) (h : AH), q25 k0 x1 x2 x3 x4 x5 h = some (r0, h0) → kd k0 = (0, 3) → V E (d + 1) K_X3_greatest (ZI E r0 h0) h [(0, .ref k0), (1, .int x1), (2, .int x2), (3, .int x3), (4, .int x4), (5, .int x5)] [] 25) {k0 : Nat} {x1 : Int32} {x2 : Int32} {x3 : Int32} {x4 : Int32} {x5 : Int32} {h : AH} (hf : f_X3_greatest_61 q25 k0 x1 x2 x3 x4 x5 h = some (r0, h0)) (t_k0 : kd k0 = (0, 3)) : V E (d + 1) K_X3_greatest (ZI E r0 h0) h [(0, .ref k0), (1, .int x1), (2, .int x2), (3, .int x3), (4, .int x4), (5, .int x5)] [] 61 := by
  unfold f_X3_greatest_61 at hf
  obtain ⟨x5_1, e_2, hf⟩ := nm_s hf
  refine V_iinc (a := 1) (L' := [(5, .int x5_1), (0, .ref k0), (1, .int x1), (2, .int x2), (3, .int x3), (4, .int x4)]) 5 dX3_greatest_61 rfl (by decide) (Nat.le_of_ble_eq_true rfl) e_2 rfl ?_
  refine V_goto (tgt := 25) dX3_greatest_64 (by decide) ?_
  refine V_sub [1, 2, 3, 4, 5, 0] rfl ?_
  exact cq25 _ _ _ _ _ _ _ hf t_k0
set_option maxHeartbeats 4000000 in
set_option maxRecDepth 100000 in
theorem v_X3_greatest_67 {E : EV} {d : Nat} (hd : 3 ≤ d) {r0 : Int32} {h0 : AH} {q5 : Nat → Int32 → Int32 → Int32 → Int32 → AH → Option (Int32 × AH)} (cq5 : ∀ (k0 : Nat) (x1 : Int32) (x2 : Int32) (x3 : Int32) (x4 : Int32) (h : AH), q5 k0 x1 x2 x3 x4 h = some (r0, h0) → kd k0 = (0, 3) → V E (d + 1) K_X3_greatest (ZI E r0 h0) h [(0, .ref k0), (1, .int x1), (2, .int x2), (3, .int x3), (4, .int x4)] [] 5) {k0 : Nat} {x1 : Int32} {x2 : Int32} {x3 : Int32} {x4 : Int32} {h : AH} (hf : f_X3_greatest_67 q5 k0 x1 x2 x3 x4 h = some (r0, h0)) (t_k0 : kd k0 = (0, 3)) : V E (d + 1) K_X3_greatest (ZI E r0 h0) h [(0, .ref k0), (1, .int x1), (2, .int x2), (3, .int x3), (4, .int x4)] [] 67 := by
  unfold f_X3_greatest_67 at hf
  obtain ⟨x4_1, e_2, hf⟩ := nm_s hf
  refine V_iinc (a := (-1)) (L' := [(4, .int x4_1), (0, .ref k0), (1, .int x1), (2, .int x2), (3, .int x3)]) 4 dX3_greatest_67 rfl (by decide) (Nat.le_of_ble_eq_true rfl) e_2 rfl ?_
  refine V_goto (tgt := 5) dX3_greatest_70 (by decide) ?_
  refine V_sub [1, 2, 3, 4, 0] rfl ?_
  exact cq5 _ _ _ _ _ _ hf t_k0
set_option maxHeartbeats 4000000 in
set_option maxRecDepth 100000 in
theorem v_X3_greatest_25 {E : EV} {d : Nat} (hd : 3 ≤ d) {r0 : Int32} {h0 : AH} {q5 : Nat → Int32 → Int32 → Int32 → Int32 → AH → Option (Int32 × AH)} (cq5 : ∀ (k0 : Nat) (x1 : Int32) (x2 : Int32) (x3 : Int32) (x4 : Int32) (h : AH), q5 k0 x1 x2 x3 x4 h = some (r0, h0) → kd k0 = (0, 3) → V E (d + 1) K_X3_greatest (ZI E r0 h0) h [(0, .ref k0), (1, .int x1), (2, .int x2), (3, .int x3), (4, .int x4)] [] 5) : ∀ (n : Nat) (k0 : Nat) (x1 : Int32) (x2 : Int32) (x3 : Int32) (x4 : Int32) (x5 : Int32) (h : AH), f_X3_greatest_25 q5 n k0 x1 x2 x3 x4 x5 h = some (r0, h0) → kd k0 = (0, 3) → V E (d + 1) K_X3_greatest (ZI E r0 h0) h [(0, .ref k0), (1, .int x1), (2, .int x2), (3, .int x3), (4, .int x4), (5, .int x5)] [] 25 := by
  intro n
  induction n with
  | zero =>
    intro k0 x1 x2 x3 x4 x5 h hf
    rw [f_X3_greatest_25] at hf
    cases hf
  | succ n ih =>
    intro k0 x1 x2 x3 x4 x5 h hf t_k0
    rw [f_X3_greatest_25] at hf
    refine V_iload 5 dX3_greatest_25 rfl ?_
    refine V_iload_n 1 dX3_greatest_27 rfl rfl ?_
    refine V_ic_gt (tgt := 67) dX3_greatest_28 (by decide) (fun c_1 => ?_) (fun c_1 => ?_)
    · have hf := it_s c_1 hf
      refine V_sub [0, 1, 2, 3, 4] rfl ?_
      exact v_X3_greatest_67 hd cq5 hf t_k0
    · have hf := if_s c_1 hf
      refine V_iload 5 dX3_greatest_31 rfl ?_
      refine V_iload_n 1 dX3_greatest_33 rfl rfl ?_
      refine V_iconst (v := (-1)) dX3_greatest_34 (by decide) ?_
      refine V_ixor dX3_greatest_35 ?_
      refine V_iand dX3_greatest_36 ?_
      refine V_if_ne (tgt := 61) dX3_greatest_37 (by decide) (fun c_2 => ?_) (fun c_2 => ?_)
      · have hf := if_s c_2 hf
        exact v_X3_greatest_61 hd ih hf t_k0
      · have hf := it_s c_2 hf
        refine V_aload_n 0 dX3_greatest_40 rfl rfl ?_
        refine V_getR F_X3_9 rfl t_k0 rfl dX3_greatest_41 ?_
        refine V_iload_n 3 dX3_greatest_44 rfl rfl ?_
        refine V_bipush (v := 64) dX3_greatest_45 (by decide) ?_
        refine V_imul dX3_greatest_47 ?_
        refine V_iload 5 dX3_greatest_48 rfl ?_
        refine V_iadd dX3_greatest_50 ?_
        refine V_aload_n 0 dX3_greatest_51 rfl rfl ?_
        refine V_iload 4 dX3_greatest_52 rfl ?_
        refine V_iload_n 3 dX3_greatest_54 rfl rfl ?_
        refine V_iload 5 dX3_greatest_55 rfl ?_
        obtain ⟨r_5, h_4, e_3, hf⟩ := ob_s hf
        refine V_cvi (As := [.int x4, .int x3, .int x5]) (rest := [.int ((x3 * 64) + x5), .ref (rf k0 1)]) (c_X3_bestOf (d := d) (Nat.le_trans (Nat.le_of_ble_eq_true rfl) hd) e_3 t_k0) ML_X3_23 MV_X3_bestOf rfl t_k0 rfl rfl (Nat.le_of_ble_eq_true rfl) dX3_greatest_57 ?_
        obtain ⟨b_6, hf⟩ := og_s hf
        obtain ⟨h_7, e_8, hf⟩ := nm_s hf
        refine V_iast (rfA t_k0 (Nat.le_of_ble_eq_true rfl) rfl rfl (by decide)) b_6 e_8 dX3_greatest_60 ?_
        exact v_X3_greatest_61 hd ih hf t_k0
set_option maxHeartbeats 4000000 in
set_option maxRecDepth 100000 in
theorem v_X3_greatest_5 {E : EV} {d : Nat} (hd : 3 ≤ d) {r0 : Int32} {h0 : AH} : ∀ (n : Nat) (k0 : Nat) (x1 : Int32) (x2 : Int32) (x3 : Int32) (x4 : Int32) (h : AH), f_X3_greatest_5 n k0 x1 x2 x3 x4 h = some (r0, h0) → kd k0 = (0, 3) → V E (d + 1) K_X3_greatest (ZI E r0 h0) h [(0, .ref k0), (1, .int x1), (2, .int x2), (3, .int x3), (4, .int x4)] [] 5 := by
  intro n
  induction n with
  | zero =>
    intro k0 x1 x2 x3 x4 h hf
    rw [f_X3_greatest_5] at hf
    cases hf
  | succ n ih =>
    intro k0 x1 x2 x3 x4 h hf t_k0
    rw [f_X3_greatest_5] at hf
    refine V_iload 4 dX3_greatest_5 rfl ?_
    refine V_if_lt (tgt := 73) dX3_greatest_7 (by decide) (fun c_1 => ?_) (fun c_1 => ?_)
    · have hf := it_s c_1 hf
      refine V_aload_n 0 dX3_greatest_73 rfl rfl ?_
      refine V_getR F_X3_9 rfl t_k0 rfl dX3_greatest_74 ?_
      refine V_iload_n 3 dX3_greatest_77 rfl rfl ?_
      refine V_bipush (v := 64) dX3_greatest_78 (by decide) ?_
      refine V_imul dX3_greatest_80 ?_
      refine V_iload_n 1 dX3_greatest_81 rfl rfl ?_
      refine V_iadd dX3_greatest_82 ?_
      obtain ⟨b_2, hf⟩ := og_s hf
      refine V_iald (rfA t_k0 (Nat.le_of_ble_eq_true rfl) rfl rfl (by decide)) b_2 dX3_greatest_83 ?_
      exact V_iret rfl (so_s hf) dX3_greatest_84
    · have hf := if_s c_1 hf
      refine V_iload_n 2 dX3_greatest_10 rfl rfl ?_
      refine V_iload 4 dX3_greatest_11 rfl ?_
      obtain ⟨r_5, h_4, e_3, hf⟩ := ob_s hf
      refine V_csi (As := [.int x2, .int x4]) (rest := []) (c_X11_isIn (d := d) (Nat.le_trans (Nat.le_of_ble_eq_true rfl) hd) e_3) ML_X3_19 MS_X11_isIn rfl rfl rfl (Nat.le_of_ble_eq_true rfl) dX3_greatest_13 ?_
      refine V_if_eq (tgt := 67) dX3_greatest_16 (by decide) (fun c_6 => ?_) (fun c_6 => ?_)
      · have hf := it_s c_6 hf
        exact v_X3_greatest_67 hd ih hf t_k0
      · have hf := if_s c_6 hf
        obtain ⟨x3_7, e_8, hf⟩ := nm_s hf
        refine V_iinc (a := 1) (L' := [(3, .int x3_7), (0, .ref k0), (1, .int x1), (2, .int x2), (4, .int x4)]) 3 dX3_greatest_19 rfl (by decide) (Nat.le_of_ble_eq_true rfl) e_8 rfl ?_
        refine V_iconst (v := 0) dX3_greatest_22 (by decide) ?_
        refine V_istore (L' := [(5, .int 0), (3, .int x3_7), (0, .ref k0), (1, .int x1), (2, .int x2), (4, .int x4)]) dX3_greatest_23 (Nat.le_of_ble_eq_true rfl) rfl rfl ?_
        refine V_sub [2, 3, 4, 1, 5, 0] rfl ?_
        exact v_X3_greatest_25 hd ih FU _ _ _ _ _ _ _ hf t_k0
set_option maxHeartbeats 4000000 in
set_option maxRecDepth 100000 in
theorem c_X3_greatest {E : EV} {d : Nat} (hd : 3 + 1 ≤ d) {k0 : Nat} {x1 : Int32} {x2 : Int32} {h : AH} {r0 : Int32} {h0 : AH} (hf : f_X3_greatest k0 x1 x2 h = some (r0, h0)) (t_k0 : kd k0 = (0, 3)) : Con E d K_X3_greatest (ZI E r0 h0) [.ref k0, .int x1, .int x2] h := by
  obtain ⟨d, rfl⟩ : ∃ d', d = d' + 1 := ⟨d - 1, by omega⟩
  have hd := Nat.le_of_succ_le_succ hd
  refine Con.ofV rfl (Nat.le_of_ble_eq_true rfl) ?_
  unfold f_X3_greatest at hf
  show V E (d + 1) K_X3_greatest (ZI E r0 h0) h [(0, .ref k0), (1, .int x1), (2, .int x2)] [] 0
  refine V_iconst (v := 0) dX3_greatest_0 (by decide) ?_
  refine V_istore_n (L' := [(3, .int 0), (0, .ref k0), (1, .int x1), (2, .int x2)]) dX3_greatest_1 rfl (Nat.le_of_ble_eq_true rfl) rfl rfl ?_
  refine V_iconst (v := 5) dX3_greatest_2 (by decide) ?_
  refine V_istore (L' := [(4, .int 5), (3, .int 0), (0, .ref k0), (1, .int x1), (2, .int x2)]) dX3_greatest_3 (Nat.le_of_ble_eq_true rfl) rfl rfl ?_
  refine V_sub [2, 3, 4, 1, 0] rfl ?_
  exact v_X3_greatest_5 hd FU _ _ _ _ _ _ hf t_k0
theorem dX3_lowestOf_0 : decode cX3_lowestOf 0 = .ok (.iconst 0, 1) := by decide +kernel
theorem dX3_lowestOf_1 : decode cX3_lowestOf 1 = .ok (.istore 4, 2) := by decide +kernel
theorem dX3_lowestOf_3 : decode cX3_lowestOf 3 = .ok (.iload 4, 2) := by decide +kernel
theorem dX3_lowestOf_5 : decode cX3_lowestOf 5 = .ok (.bipush 6, 2) := by decide +kernel
theorem dX3_lowestOf_7 : decode cX3_lowestOf 7 = .ok (.if_icmp .ge 67, 3) := by decide +kernel
theorem dX3_lowestOf_10 : decode cX3_lowestOf 10 = .ok (.iload_n 3, 1) := by decide +kernel
theorem dX3_lowestOf_11 : decode cX3_lowestOf 11 = .ok (.iload 4, 2) := by decide +kernel
theorem dX3_lowestOf_13 : decode cX3_lowestOf 13 = .ok (.invokestatic 19, 3) := by decide +kernel
theorem dX3_lowestOf_16 : decode cX3_lowestOf 16 = .ok (.ifCond .eq 52, 3) := by decide +kernel
theorem dX3_lowestOf_19 : decode cX3_lowestOf 19 = .ok (.aload_n 0, 1) := by decide +kernel
theorem dX3_lowestOf_20 : decode cX3_lowestOf 20 = .ok (.getfield 15, 3) := by decide +kernel
theorem dX3_lowestOf_23 : decode cX3_lowestOf 23 = .ok (.getfield 27, 3) := by decide +kernel
theorem dX3_lowestOf_26 : decode cX3_lowestOf 26 = .ok (.iload_n 1, 1) := by decide +kernel
theorem dX3_lowestOf_27 : decode cX3_lowestOf 27 = .ok (.aload_n 0, 1) := by decide +kernel
theorem dX3_lowestOf_28 : decode cX3_lowestOf 28 = .ok (.getfield 15, 3) := by decide +kernel
theorem dX3_lowestOf_31 : decode cX3_lowestOf 31 = .ok (.getfield 33, 3) := by decide +kernel
theorem dX3_lowestOf_34 : decode cX3_lowestOf 34 = .ok (.iload 4, 2) := by decide +kernel
theorem dX3_lowestOf_36 : decode cX3_lowestOf 36 = .ok (.iaload, 1) := by decide +kernel
theorem dX3_lowestOf_37 : decode cX3_lowestOf 37 = .ok (.invokevirtual 36, 3) := by decide +kernel
theorem dX3_lowestOf_40 : decode cX3_lowestOf 40 = .ok (.ifCond .eq 28, 3) := by decide +kernel
theorem dX3_lowestOf_43 : decode cX3_lowestOf 43 = .ok (.aload_n 0, 1) := by decide +kernel
theorem dX3_lowestOf_44 : decode cX3_lowestOf 44 = .ok (.iload 4, 2) := by decide +kernel
theorem dX3_lowestOf_46 : decode cX3_lowestOf 46 = .ok (.iload_n 2, 1) := by decide +kernel
theorem dX3_lowestOf_47 : decode cX3_lowestOf 47 = .ok (.iload_n 3, 1) := by decide +kernel
theorem dX3_lowestOf_48 : decode cX3_lowestOf 48 = .ok (.invokevirtual 41, 3) := by decide +kernel
theorem dX3_lowestOf_51 : decode cX3_lowestOf 51 = .ok (.aload_n 0, 1) := by decide +kernel
theorem dX3_lowestOf_52 : decode cX3_lowestOf 52 = .ok (.getfield 9, 3) := by decide +kernel
theorem dX3_lowestOf_55 : decode cX3_lowestOf 55 = .ok (.iload_n 2, 1) := by decide +kernel
theorem dX3_lowestOf_56 : decode cX3_lowestOf 56 = .ok (.bipush 64, 2) := by decide +kernel
theorem dX3_lowestOf_58 : decode cX3_lowestOf 58 = .ok (.imul, 1) := by decide +kernel
theorem dX3_lowestOf_59 : decode cX3_lowestOf 59 = .ok (.iload_n 3, 1) := by decide +kernel
theorem dX3_lowestOf_60 : decode cX3_lowestOf 60 = .ok (.iadd, 1) := by decide +kernel
theorem dX3_lowestOf_61 : decode cX3_lowestOf 61 = .ok (.iaload, 1) := by decide +kernel
theorem dX3_lowestOf_62 : decode cX3_lowestOf 62 = .ok (.if_icmp .ne 6, 3) := by decide +kernel
theorem dX3_lowestOf_65 : decode cX3_lowestOf 65 = .ok (.iload 4, 2) := by decide +kernel
theorem dX3_lowestOf_67 : decode cX3_lowestOf 67 = .ok (.ireturn, 1) := by decide +kernel
theorem dX3_lowestOf_68 : decode cX3_lowestOf 68 = .ok (.iinc 4 1, 3) := by decide +kernel
theorem dX3_lowestOf_71 : decode cX3_lowestOf 71 = .ok (.goto (-68), 3) := by decide +kernel
theorem dX3_lowestOf_74 : decode cX3_lowestOf 74 = .ok (.iconst (-1), 1) := by decide +kernel
theorem dX3_lowestOf_75 : decode cX3_lowestOf 75 = .ok (.ireturn, 1) := by decide +kernel
def f_X3_lowestOf_68 (q3 : Nat → Int32 → Int32 → Int32 → Int32 → AH → Option (Int32 × AH)) (k0 : Nat) (x1 : Int32) (x2 : Int32) (x3 : Int32) (x4 : Int32) (h : AH) : Option (Int32 × AH) :=
  nm (x4 + 1) fun x4_1 =>
  q3 k0 x1 x2 x3 x4_1 h
def f_X3_lowestOf_3 : Nat → Nat → Int32 → Int32 → Int32 → Int32 → AH → Option (Int32 × AH)
  | 0, _, _, _, _, _, _ => none
  | n + 1, k0, x1, x2, x3, x4, h =>
    if 6 ≤ x4 then (
      some ((-1), h)
    ) else (
      ob (f_X11_isIn x3 x4 h) fun r_4 h_3 =>
      if r_4 = 0 then (
        f_X3_lowestOf_68 (f_X3_lowestOf_3 n) k0 x1 x2 x3 x4 h_3
      ) else (
        og (ix x4 (an (rf (rf k0 0) 2))) <|
        ob (f_X6_canWear (rf (rf k0 0) 0) x1 (h_3.1 (rf (rf k0 0) 2) x4.toNatClampNeg) h_3) fun r_9 h_8 =>
        if r_9 = 0 then (
          f_X3_lowestOf_68 (f_X3_lowestOf_3 n) k0 x1 x2 x3 x4 h_8
        ) else (
          ob (f_X3_worthWith k0 x4 x2 x3 h_8) fun r_13 h_12 =>
          og (ix ((x2 * 64) + x3) (an (rf k0 1))) <|
          if r_13 = (h_12.1 (rf k0 1) ((x2 * 64) + x3).toNatClampNeg) then (
            some (x4, h_12)
          ) else (
            f_X3_lowestOf_68 (f_X3_lowestOf_3 n) k0 x1 x2 x3 x4 h_12
          )
        )
      )
    )
def f_X3_lowestOf (k0 : Nat) (x1 : Int32) (x2 : Int32) (x3 : Int32) (h : AH) : Option (Int32 × AH) :=
  f_X3_lowestOf_3 FU k0 x1 x2 x3 0 h
set_option maxHeartbeats 4000000 in
set_option maxRecDepth 100000 in
theorem v_X3_lowestOf_68 {E : EV} {d : Nat} (hd : 2 ≤ d) {r0 : Int32} {h0 : AH} {q3 : Nat → Int32 → Int32 → Int32 → Int32 → AH → Option (Int32 × AH)} (cq3 : ∀ (k0 : Nat) (x1 : Int32) (x2 : Int32) (x3 : Int32) (x4 : Int32) (h : AH), q3 k0 x1 x2 x3 x4 h = some (r0, h0) → kd k0 = (0, 3) → V E (d + 1) K_X3_lowestOf (ZI E r0 h0) h [(0, .ref k0), (1, .int x1), (2, .int x2), (3, .int x3), (4, .int x4)] [] 3) {k0 : Nat} {x1 : Int32} {x2 : Int32} {x3 : Int32} {x4 : Int32} {h : AH} (hf : f_X3_lowestOf_68 q3 k0 x1 x2 x3 x4 h = some (r0, h0)) (t_k0 : kd k0 = (0, 3)) : V E (d + 1) K_X3_lowestOf (ZI E r0 h0) h [(0, .ref k0), (1, .int x1), (2, .int x2), (3, .int x3), (4, .int x4)] [] 68 := by
  unfold f_X3_lowestOf_68 at hf
  obtain ⟨x4_1, e_2, hf⟩ := nm_s hf
  refine V_iinc (a := 1) (L' := [(4, .int x4_1), (0, .ref k0), (1, .int x1), (2, .int x2), (3, .int x3)]) 4 dX3_lowestOf_68 rfl (by decide) (Nat.le_of_ble_eq_true rfl) e_2 rfl ?_
  refine V_goto (tgt := 3) dX3_lowestOf_71 (by decide) ?_
  refine V_sub [1, 2, 3, 4, 0] rfl ?_
  exact cq3 _ _ _ _ _ _ hf t_k0
set_option maxHeartbeats 4000000 in
set_option maxRecDepth 100000 in
theorem v_X3_lowestOf_3 {E : EV} {d : Nat} (hd : 2 ≤ d) {r0 : Int32} {h0 : AH} : ∀ (n : Nat) (k0 : Nat) (x1 : Int32) (x2 : Int32) (x3 : Int32) (x4 : Int32) (h : AH), f_X3_lowestOf_3 n k0 x1 x2 x3 x4 h = some (r0, h0) → kd k0 = (0, 3) → V E (d + 1) K_X3_lowestOf (ZI E r0 h0) h [(0, .ref k0), (1, .int x1), (2, .int x2), (3, .int x3), (4, .int x4)] [] 3 := by
  intro n
  induction n with
  | zero =>
    intro k0 x1 x2 x3 x4 h hf
    rw [f_X3_lowestOf_3] at hf
    cases hf
  | succ n ih =>
    intro k0 x1 x2 x3 x4 h hf t_k0
    rw [f_X3_lowestOf_3] at hf
    refine V_iload 4 dX3_lowestOf_3 rfl ?_
    refine V_bipush (v := 6) dX3_lowestOf_5 (by decide) ?_
    refine V_ic_ge (tgt := 74) dX3_lowestOf_7 (by decide) (fun c_1 => ?_) (fun c_1 => ?_)
    · have hf := it_s c_1 hf
      refine V_iconst (v := (-1)) dX3_lowestOf_74 (by decide) ?_
      exact V_iret rfl (so_s hf) dX3_lowestOf_75
    · have hf := if_s c_1 hf
      refine V_iload_n 3 dX3_lowestOf_10 rfl rfl ?_
      refine V_iload 4 dX3_lowestOf_11 rfl ?_
      obtain ⟨r_4, h_3, e_2, hf⟩ := ob_s hf
      refine V_csi (As := [.int x3, .int x4]) (rest := []) (c_X11_isIn (d := d) (Nat.le_trans (Nat.le_of_ble_eq_true rfl) hd) e_2) ML_X3_19 MS_X11_isIn rfl rfl rfl (Nat.le_of_ble_eq_true rfl) dX3_lowestOf_13 ?_
      refine V_if_eq (tgt := 68) dX3_lowestOf_16 (by decide) (fun c_5 => ?_) (fun c_5 => ?_)
      · have hf := it_s c_5 hf
        exact v_X3_lowestOf_68 hd ih hf t_k0
      · have hf := if_s c_5 hf
        refine V_aload_n 0 dX3_lowestOf_19 rfl rfl ?_
        refine V_getR F_X3_15 rfl t_k0 rfl dX3_lowestOf_20 ?_
        refine V_getR F_X3_27 rfl (rfO t_k0 (Nat.le_of_ble_eq_true rfl) rfl rfl) rfl dX3_lowestOf_23 ?_
        refine V_iload_n 1 dX3_lowestOf_26 rfl rfl ?_
        refine V_aload_n 0 dX3_lowestOf_27 rfl rfl ?_
        refine V_getR F_X3_15 rfl t_k0 rfl dX3_lowestOf_28 ?_
        refine V_getR F_X3_33 rfl (rfO t_k0 (Nat.le_of_ble_eq_true rfl) rfl rfl) rfl dX3_lowestOf_31 ?_
        refine V_iload 4 dX3_lowestOf_34 rfl ?_
        obtain ⟨b_6, hf⟩ := og_s hf
        refine V_iald (rfA (rfO t_k0 (Nat.le_of_ble_eq_true rfl) rfl rfl) (Nat.le_of_ble_eq_true rfl) rfl rfl (by decide)) b_6 dX3_lowestOf_36 ?_
        obtain ⟨r_9, h_8, e_7, hf⟩ := ob_s hf
        refine V_cvi (As := [.int x1, .int (h_3.1 (rf (rf k0 0) 2) x4.toNatClampNeg)]) (rest := []) (c_X6_canWear (d := d) (Nat.le_trans (Nat.le_of_ble_eq_true rfl) hd) e_7 (rfO (rfO t_k0 (Nat.le_of_ble_eq_true rfl) rfl rfl) (Nat.le_of_ble_eq_true rfl) rfl rfl)) ML_X3_36 MV_X6_canWear rfl (rfO (rfO t_k0 (Nat.le_of_ble_eq_true rfl) rfl rfl) (Nat.le_of_ble_eq_true rfl) rfl rfl) rfl rfl (Nat.le_of_ble_eq_true rfl) dX3_lowestOf_37 ?_
        refine V_if_eq (tgt := 68) dX3_lowestOf_40 (by decide) (fun c_10 => ?_) (fun c_10 => ?_)
        · have hf := it_s c_10 hf
          exact v_X3_lowestOf_68 hd ih hf t_k0
        · have hf := if_s c_10 hf
          refine V_aload_n 0 dX3_lowestOf_43 rfl rfl ?_
          refine V_iload 4 dX3_lowestOf_44 rfl ?_
          refine V_iload_n 2 dX3_lowestOf_46 rfl rfl ?_
          refine V_iload_n 3 dX3_lowestOf_47 rfl rfl ?_
          obtain ⟨r_13, h_12, e_11, hf⟩ := ob_s hf
          refine V_cvi (As := [.int x4, .int x2, .int x3]) (rest := []) (c_X3_worthWith (d := d) (Nat.le_trans (Nat.le_of_ble_eq_true rfl) hd) e_11 t_k0) ML_X3_41 MV_X3_worthWith rfl t_k0 rfl rfl (Nat.le_of_ble_eq_true rfl) dX3_lowestOf_48 ?_
          refine V_aload_n 0 dX3_lowestOf_51 rfl rfl ?_
          refine V_getR F_X3_9 rfl t_k0 rfl dX3_lowestOf_52 ?_
          refine V_iload_n 2 dX3_lowestOf_55 rfl rfl ?_
          refine V_bipush (v := 64) dX3_lowestOf_56 (by decide) ?_
          refine V_imul dX3_lowestOf_58 ?_
          refine V_iload_n 3 dX3_lowestOf_59 rfl rfl ?_
          refine V_iadd dX3_lowestOf_60 ?_
          obtain ⟨b_14, hf⟩ := og_s hf
          refine V_iald (rfA t_k0 (Nat.le_of_ble_eq_true rfl) rfl rfl (by decide)) b_14 dX3_lowestOf_61 ?_
          refine V_ic_ne (tgt := 68) dX3_lowestOf_62 (by decide) (fun c_15 => ?_) (fun c_15 => ?_)
          · have hf := if_s c_15 hf
            exact v_X3_lowestOf_68 hd ih hf t_k0
          · have hf := it_s c_15 hf
            refine V_iload 4 dX3_lowestOf_65 rfl ?_
            exact V_iret rfl (so_s hf) dX3_lowestOf_67
set_option maxHeartbeats 4000000 in
set_option maxRecDepth 100000 in
theorem c_X3_lowestOf {E : EV} {d : Nat} (hd : 2 + 1 ≤ d) {k0 : Nat} {x1 : Int32} {x2 : Int32} {x3 : Int32} {h : AH} {r0 : Int32} {h0 : AH} (hf : f_X3_lowestOf k0 x1 x2 x3 h = some (r0, h0)) (t_k0 : kd k0 = (0, 3)) : Con E d K_X3_lowestOf (ZI E r0 h0) [.ref k0, .int x1, .int x2, .int x3] h := by
  obtain ⟨d, rfl⟩ : ∃ d', d = d' + 1 := ⟨d - 1, by omega⟩
  have hd := Nat.le_of_succ_le_succ hd
  refine Con.ofV rfl (Nat.le_of_ble_eq_true rfl) ?_
  unfold f_X3_lowestOf at hf
  show V E (d + 1) K_X3_lowestOf (ZI E r0 h0) h [(0, .ref k0), (1, .int x1), (2, .int x2), (3, .int x3)] [] 0
  refine V_iconst (v := 0) dX3_lowestOf_0 (by decide) ?_
  refine V_istore (L' := [(4, .int 0), (0, .ref k0), (1, .int x1), (2, .int x2), (3, .int x3)]) dX3_lowestOf_1 (Nat.le_of_ble_eq_true rfl) rfl rfl ?_
  refine V_sub [1, 2, 3, 4, 0] rfl ?_
  exact v_X3_lowestOf_3 hd FU _ _ _ _ _ _ hf t_k0
theorem dX3_pairOf_0 : decode cX3_pairOf 0 = .ok (.iload_n 2, 1) := by decide +kernel
theorem dX3_pairOf_1 : decode cX3_pairOf 1 = .ok (.istore 4, 2) := by decide +kernel
theorem dX3_pairOf_3 : decode cX3_pairOf 3 = .ok (.iload_n 3, 1) := by decide +kernel
theorem dX3_pairOf_4 : decode cX3_pairOf 4 = .ok (.invokestatic 53, 3) := by decide +kernel
theorem dX3_pairOf_7 : decode cX3_pairOf 7 = .ok (.istore 5, 2) := by decide +kernel
theorem dX3_pairOf_9 : decode cX3_pairOf 9 = .ok (.iconst (-1), 1) := by decide +kernel
theorem dX3_pairOf_10 : decode cX3_pairOf 10 = .ok (.istore 6, 2) := by decide +kernel
theorem dX3_pairOf_12 : decode cX3_pairOf 12 = .ok (.iconst 0, 1) := by decide +kernel
theorem dX3_pairOf_13 : decode cX3_pairOf 13 = .ok (.istore 7, 2) := by decide +kernel
theorem dX3_pairOf_15 : decode cX3_pairOf 15 = .ok (.iload 7, 2) := by decide +kernel
theorem dX3_pairOf_17 : decode cX3_pairOf 17 = .ok (.iload_n 1, 1) := by decide +kernel
theorem dX3_pairOf_18 : decode cX3_pairOf 18 = .ok (.if_icmp .gt 55, 3) := by decide +kernel
theorem dX3_pairOf_21 : decode cX3_pairOf 21 = .ok (.iload_n 3, 1) := by decide +kernel
theorem dX3_pairOf_22 : decode cX3_pairOf 22 = .ok (.iload 7, 2) := by decide +kernel
theorem dX3_pairOf_24 : decode cX3_pairOf 24 = .ok (.invokestatic 19, 3) := by decide +kernel
theorem dX3_pairOf_27 : decode cX3_pairOf 27 = .ok (.ifCond .eq 40, 3) := by decide +kernel
theorem dX3_pairOf_30 : decode cX3_pairOf 30 = .ok (.aload_n 0, 1) := by decide +kernel
theorem dX3_pairOf_31 : decode cX3_pairOf 31 = .ok (.iload 7, 2) := by decide +kernel
theorem dX3_pairOf_33 : decode cX3_pairOf 33 = .ok (.iload 5, 2) := by decide +kernel
theorem dX3_pairOf_35 : decode cX3_pairOf 35 = .ok (.iload 4, 2) := by decide +kernel
theorem dX3_pairOf_37 : decode cX3_pairOf 37 = .ok (.invokevirtual 59, 3) := by decide +kernel
theorem dX3_pairOf_40 : decode cX3_pairOf 40 = .ok (.istore 6, 2) := by decide +kernel
theorem dX3_pairOf_42 : decode cX3_pairOf 42 = .ok (.iload 6, 2) := by decide +kernel
theorem dX3_pairOf_44 : decode cX3_pairOf 44 = .ok (.iconst (-1), 1) := by decide +kernel
theorem dX3_pairOf_45 : decode cX3_pairOf 45 = .ok (.if_icmp .ne 8, 3) := by decide +kernel
theorem dX3_pairOf_48 : decode cX3_pairOf 48 = .ok (.iload 4, 2) := by decide +kernel
theorem dX3_pairOf_50 : decode cX3_pairOf 50 = .ok (.goto 12, 3) := by decide +kernel
theorem dX3_pairOf_53 : decode cX3_pairOf 53 = .ok (.iload 4, 2) := by decide +kernel
theorem dX3_pairOf_55 : decode cX3_pairOf 55 = .ok (.iconst 1, 1) := by decide +kernel
theorem dX3_pairOf_56 : decode cX3_pairOf 56 = .ok (.iload 6, 2) := by decide +kernel
theorem dX3_pairOf_58 : decode cX3_pairOf 58 = .ok (.ishl, 1) := by decide +kernel
theorem dX3_pairOf_59 : decode cX3_pairOf 59 = .ok (.iconst (-1), 1) := by decide +kernel
theorem dX3_pairOf_60 : decode cX3_pairOf 60 = .ok (.ixor, 1) := by decide +kernel
theorem dX3_pairOf_61 : decode cX3_pairOf 61 = .ok (.iand, 1) := by decide +kernel
theorem dX3_pairOf_62 : decode cX3_pairOf 62 = .ok (.istore 4, 2) := by decide +kernel
theorem dX3_pairOf_64 : decode cX3_pairOf 64 = .ok (.iinc 5 (-1), 3) := by decide +kernel
theorem dX3_pairOf_67 : decode cX3_pairOf 67 = .ok (.iinc 7 1, 3) := by decide +kernel
theorem dX3_pairOf_70 : decode cX3_pairOf 70 = .ok (.goto (-55), 3) := by decide +kernel
theorem dX3_pairOf_73 : decode cX3_pairOf 73 = .ok (.iload 6, 2) := by decide +kernel
theorem dX3_pairOf_75 : decode cX3_pairOf 75 = .ok (.ireturn, 1) := by decide +kernel
theorem ML_X3_59 : MLk RX3 59 yX3_lowestOf := Or.inl ml_X3_59
theorem MV_X3_lowestOf : MVk K_X3_lowestOf 3 3 := ⟨⟨cd_X3_lowestOf, in_X3, ⟨by decide, by decide, by decide +kernel⟩, by decide⟩, im_X3_lowestOf, se_X3_lowestOf, _, _, rfl⟩
theorem ML_X3_53 : MLk RX3 53 yJ6_bitCount_0f7a4 := Or.inl ml_X3_53
def f_X3_pairOf_67 (q15 : Nat → Int32 → Int32 → Int32 → Int32 → Int32 → Int32 → AH → Option (Int32 × AH)) (k0 : Nat) (x1 : Int32) (x3 : Int32) (x4 : Int32) (x5 : Int32) (x6 : Int32) (x7 : Int32) (h : AH) : Option (Int32 × AH) :=
  nm (x7 + 1) fun x7_1 =>
  q15 k0 x1 x3 x4 x5 x6 x7_1 h
def f_X3_pairOf_62 (q15 : Nat → Int32 → Int32 → Int32 → Int32 → Int32 → Int32 → AH → Option (Int32 × AH)) (k0 : Nat) (x1 : Int32) (x3 : Int32) (x5 : Int32) (x6 : Int32) (x7 : Int32) (s0 : Int32) (h : AH) : Option (Int32 × AH) :=
  nm (x5 + (-1)) fun x5_1 =>
  f_X3_pairOf_67 q15 k0 x1 x3 s0 x5_1 x6 x7 h
def f_X3_pairOf_15 : Nat → Nat → Int32 → Int32 → Int32 → Int32 → Int32 → Int32 → AH → Option (Int32 × AH)
  | 0, _, _, _, _, _, _, _, _ => none
  | n + 1, k0, x1, x3, x4, x5, x6, x7, h =>
    if x1 < x7 then (
      some (x6, h)
    ) else (
      ob (f_X11_isIn x3 x7 h) fun r_4 h_3 =>
      if r_4 = 0 then (
        f_X3_pairOf_67 (f_X3_pairOf_15 n) k0 x1 x3 x4 x5 x6 x7 h_3
      ) else (
        ob (f_X3_lowestOf k0 x7 x5 x4 h_3) fun r_8 h_7 =>
        if r_8 = (-1) then (
          f_X3_pairOf_62 (f_X3_pairOf_15 n) k0 x1 x3 x5 r_8 x7 x4 h_7
        ) else (
          f_X3_pairOf_62 (f_X3_pairOf_15 n) k0 x1 x3 x5 r_8 x7 (x4 &&& (((1 : Int32) <<< (r_8 &&& 31)) ^^^ (-1))) h_7
        )
      )
    )
def f_X3_pairOf (k0 : Nat) (x1 : Int32) (x2 : Int32) (x3 : Int32) (h : AH) : Option (Int32 × AH) :=
  ob (f_J6_bitCount_0f7a4 x3 h) fun r_3 h_2 =>
  f_X3_pairOf_15 FU k0 x1 x3 x2 r_3 (-1) 0 h_2
set_option maxHeartbeats 4000000 in
set_option maxRecDepth 100000 in
theorem v_X3_pairOf_67 {E : EV} {d : Nat} (hd : 3 ≤ d) {r0 : Int32} {h0 : AH} {q15 : Nat → Int32 → Int32 → Int32 → Int32 → Int32 → Int32 → AH → Option (Int32 × AH)} (cq15 : ∀ (k0 : Nat) (x1 : Int32) (x3 : Int32) (x4 : Int32) (x5 : Int32) (x6 : Int32) (x7 : Int32) (h : AH), q15 k0 x1 x3 x4 x5 x6 x7 h = some (r0, h0) → kd k0 = (0, 3) → V E (d + 1) K_X3_pairOf (ZI E r0 h0) h [(0, .ref k0), (1, .int x1), (3, .int x3), (4, .int x4), (5, .int x5), (6, .int x6), (7, .int x7)] [] 15) {k0 : Nat} {x1 : Int32} {x3 : Int32} {x4 : Int32} {x5 : Int32} {x6 : Int32} {x7 : Int32} {h : AH} (hf : f_X3_pairOf_67 q15 k0 x1 x3 x4 x5 x6 x7 h = some (r0, h0)) (t_k0 : kd k0 = (0, 3)) : V E (d + 1) K_X3_pairOf (ZI E r0 h0) h [(0, .ref k0), (1, .int x1), (3, .int x3), (4, .int x4), (5, .int x5), (6, .int x6), (7, .int x7)] [] 67 := by
  unfold f_X3_pairOf_67 at hf
  obtain ⟨x7_1, e_2, hf⟩ := nm_s hf
  refine V_iinc (a := 1) (L' := [(7, .int x7_1), (0, .ref k0), (1, .int x1), (3, .int x3), (4, .int x4), (5, .int x5), (6, .int x6)]) 6 dX3_pairOf_67 rfl (by decide) (Nat.le_of_ble_eq_true rfl) e_2 rfl ?_
  refine V_goto (tgt := 15) dX3_pairOf_70 (by decide) ?_
  refine V_sub [1, 2, 3, 4, 5, 6, 0] rfl ?_
  exact cq15 _ _ _ _ _ _ _ _ hf t_k0
set_option maxHeartbeats 4000000 in
set_option maxRecDepth 100000 in
theorem v_X3_pairOf_62 {E : EV} {d : Nat} (hd : 3 ≤ d) {r0 : Int32} {h0 : AH} {q15 : Nat → Int32 → Int32 → Int32 → Int32 → Int32 → Int32 → AH → Option (Int32 × AH)} (cq15 : ∀ (k0 : Nat) (x1 : Int32) (x3 : Int32) (x4 : Int32) (x5 : Int32) (x6 : Int32) (x7 : Int32) (h : AH), q15 k0 x1 x3 x4 x5 x6 x7 h = some (r0, h0) → kd k0 = (0, 3) → V E (d + 1) K_X3_pairOf (ZI E r0 h0) h [(0, .ref k0), (1, .int x1), (3, .int x3), (4, .int x4), (5, .int x5), (6, .int x6), (7, .int x7)] [] 15) {k0 : Nat} {x1 : Int32} {x3 : Int32} {x5 : Int32} {x6 : Int32} {x7 : Int32} {s0 : Int32} {h : AH} (hf : f_X3_pairOf_62 q15 k0 x1 x3 x5 x6 x7 s0 h = some (r0, h0)) (t_k0 : kd k0 = (0, 3)) : V E (d + 1) K_X3_pairOf (ZI E r0 h0) h [(0, .ref k0), (1, .int x1), (3, .int x3), (5, .int x5), (6, .int x6), (7, .int x7)] [.int s0] 62 := by
  unfold f_X3_pairOf_62 at hf
  refine V_istore (L' := [(4, .int s0), (0, .ref k0), (1, .int x1), (3, .int x3), (5, .int x5), (6, .int x6), (7, .int x7)]) dX3_pairOf_62 (Nat.le_of_ble_eq_true rfl) rfl rfl ?_
  obtain ⟨x5_1, e_2, hf⟩ := nm_s hf
  refine V_iinc (a := (-1)) (L' := [(5, .int x5_1), (4, .int s0), (0, .ref k0), (1, .int x1), (3, .int x3), (6, .int x6), (7, .int x7)]) 4 dX3_pairOf_64 rfl (by decide) (Nat.le_of_ble_eq_true rfl) e_2 rfl ?_
  refine V_sub [2, 3, 4, 1, 0, 5, 6] rfl ?_
  exact v_X3_pairOf_67 hd cq15 hf t_k0
set_option maxHeartbeats 4000000 in
set_option maxRecDepth 100000 in
theorem v_X3_pairOf_15 {E : EV} {d : Nat} (hd : 3 ≤ d) {r0 : Int32} {h0 : AH} : ∀ (n : Nat) (k0 : Nat) (x1 : Int32) (x3 : Int32) (x4 : Int32) (x5 : Int32) (x6 : Int32) (x7 : Int32) (h : AH), f_X3_pairOf_15 n k0 x1 x3 x4 x5 x6 x7 h = some (r0, h0) → kd k0 = (0, 3) → V E (d + 1) K_X3_pairOf (ZI E r0 h0) h [(0, .ref k0), (1, .int x1), (3, .int x3), (4, .int x4), (5, .int x5), (6, .int x6), (7, .int x7)] [] 15 := by
  intro n
  induction n with
  | zero =>
    intro k0 x1 x3 x4 x5 x6 x7 h hf
    rw [f_X3_pairOf_15] at hf
    cases hf
  | succ n ih =>
    intro k0 x1 x3 x4 x5 x6 x7 h hf t_k0
    rw [f_X3_pairOf_15] at hf
    refine V_iload 6 dX3_pairOf_15 rfl ?_
    refine V_iload_n 1 dX3_pairOf_17 rfl rfl ?_
    refine V_ic_gt (tgt := 73) dX3_pairOf_18 (by decide) (fun c_1 => ?_) (fun c_1 => ?_)
    · have hf := it_s c_1 hf
      refine V_iload 5 dX3_pairOf_73 rfl ?_
      exact V_iret rfl (so_s hf) dX3_pairOf_75
    · have hf := if_s c_1 hf
      refine V_iload_n 2 dX3_pairOf_21 rfl rfl ?_
      refine V_iload 6 dX3_pairOf_22 rfl ?_
      obtain ⟨r_4, h_3, e_2, hf⟩ := ob_s hf
      refine V_csi (As := [.int x3, .int x7]) (rest := []) (c_X11_isIn (d := d) (Nat.le_trans (Nat.le_of_ble_eq_true rfl) hd) e_2) ML_X3_19 MS_X11_isIn rfl rfl rfl (Nat.le_of_ble_eq_true rfl) dX3_pairOf_24 ?_
      refine V_if_eq (tgt := 67) dX3_pairOf_27 (by decide) (fun c_5 => ?_) (fun c_5 => ?_)
      · have hf := it_s c_5 hf
        exact v_X3_pairOf_67 hd ih hf t_k0
      · have hf := if_s c_5 hf
        refine V_aload_n 0 dX3_pairOf_30 rfl rfl ?_
        refine V_iload 6 dX3_pairOf_31 rfl ?_
        refine V_iload 4 dX3_pairOf_33 rfl ?_
        refine V_iload 3 dX3_pairOf_35 rfl ?_
        obtain ⟨r_8, h_7, e_6, hf⟩ := ob_s hf
        refine V_cvi (As := [.int x7, .int x5, .int x4]) (rest := []) (c_X3_lowestOf (d := d) (Nat.le_trans (Nat.le_of_ble_eq_true rfl) hd) e_6 t_k0) ML_X3_59 MV_X3_lowestOf rfl t_k0 rfl rfl (Nat.le_of_ble_eq_true rfl) dX3_pairOf_37 ?_
        refine V_istore (L' := [(6, .int r_8), (0, .ref k0), (1, .int x1), (3, .int x3), (4, .int x4), (5, .int x5), (7, .int x7)]) dX3_pairOf_40 (Nat.le_of_ble_eq_true rfl) rfl rfl ?_
        refine V_iload 0 dX3_pairOf_42 rfl ?_
        refine V_iconst (v := (-1)) dX3_pairOf_44 (by decide) ?_
        refine V_ic_ne (tgt := 53) dX3_pairOf_45 (by decide) (fun c_9 => ?_) (fun c_9 => ?_)
        · have hf := if_s c_9 hf
          refine V_iload 4 dX3_pairOf_53 rfl ?_
          refine V_iconst (v := 1) dX3_pairOf_55 (by decide) ?_
          refine V_iload 0 dX3_pairOf_56 rfl ?_
          refine V_ishl dX3_pairOf_58 ?_
          refine V_iconst (v := (-1)) dX3_pairOf_59 (by decide) ?_
          refine V_ixor dX3_pairOf_60 ?_
          refine V_iand dX3_pairOf_61 ?_
          refine V_sub [1, 2, 3, 5, 0, 6] rfl ?_
          exact v_X3_pairOf_62 hd ih hf t_k0
        · have hf := it_s c_9 hf
          refine V_iload 4 dX3_pairOf_48 rfl ?_
          refine V_goto (tgt := 62) dX3_pairOf_50 (by decide) ?_
          refine V_sub [1, 2, 3, 5, 0, 6] rfl ?_
          exact v_X3_pairOf_62 hd ih hf t_k0
set_option maxHeartbeats 4000000 in
set_option maxRecDepth 100000 in
theorem c_X3_pairOf {E : EV} {d : Nat} (hd : 3 + 1 ≤ d) {k0 : Nat} {x1 : Int32} {x2 : Int32} {x3 : Int32} {h : AH} {r0 : Int32} {h0 : AH} (hf : f_X3_pairOf k0 x1 x2 x3 h = some (r0, h0)) (t_k0 : kd k0 = (0, 3)) : Con E d K_X3_pairOf (ZI E r0 h0) [.ref k0, .int x1, .int x2, .int x3] h := by
  obtain ⟨d, rfl⟩ : ∃ d', d = d' + 1 := ⟨d - 1, by omega⟩
  have hd := Nat.le_of_succ_le_succ hd
  refine Con.ofV rfl (Nat.le_of_ble_eq_true rfl) ?_
  unfold f_X3_pairOf at hf
  show V E (d + 1) K_X3_pairOf (ZI E r0 h0) h [(0, .ref k0), (1, .int x1), (2, .int x2), (3, .int x3)] [] 0
  refine V_iload_n 2 dX3_pairOf_0 rfl rfl ?_
  refine V_istore (L' := [(4, .int x2), (0, .ref k0), (1, .int x1), (2, .int x2), (3, .int x3)]) dX3_pairOf_1 (Nat.le_of_ble_eq_true rfl) rfl rfl ?_
  refine V_iload_n 4 dX3_pairOf_3 rfl rfl ?_
  obtain ⟨r_3, h_2, e_1, hf⟩ := ob_s hf
  refine V_csi (As := [.int x3]) (rest := []) (c_J6_bitCount_0f7a4 (d := d) (Nat.le_trans (Nat.le_of_ble_eq_true rfl) hd) e_1) ML_X3_53 MS_J6_bitCount_0f7a4 rfl rfl rfl (Nat.le_of_ble_eq_true rfl) dX3_pairOf_4 ?_
  refine V_istore (L' := [(5, .int r_3), (4, .int x2), (0, .ref k0), (1, .int x1), (2, .int x2), (3, .int x3)]) dX3_pairOf_7 (Nat.le_of_ble_eq_true rfl) rfl rfl ?_
  refine V_iconst (v := (-1)) dX3_pairOf_9 (by decide) ?_
  refine V_istore (L' := [(6, .int (-1)), (5, .int r_3), (4, .int x2), (0, .ref k0), (1, .int x1), (2, .int x2), (3, .int x3)]) dX3_pairOf_10 (Nat.le_of_ble_eq_true rfl) rfl rfl ?_
  refine V_iconst (v := 0) dX3_pairOf_12 (by decide) ?_
  refine V_istore (L' := [(7, .int 0), (6, .int (-1)), (5, .int r_3), (4, .int x2), (0, .ref k0), (1, .int x1), (2, .int x2), (3, .int x3)]) dX3_pairOf_13 (Nat.le_of_ble_eq_true rfl) rfl rfl ?_
  refine V_sub [4, 5, 7, 3, 2, 1, 0] rfl ?_
  exact v_X3_pairOf_15 hd FU _ _ _ _ _ _ _ _ hf t_k0
theorem dX11_dream_0 : decode cX11_dream 0 = .ok (.aload_n 0, 1) := by decide +kernel
theorem dX11_dream_1 : decode cX11_dream 1 = .ok (.iload_n 1, 1) := by decide +kernel
theorem dX11_dream_2 : decode cX11_dream 2 = .ok (.iload_n 2, 1) := by decide +kernel
theorem dX11_dream_3 : decode cX11_dream 3 = .ok (.invokevirtual 182, 3) := by decide +kernel
theorem dX11_dream_6 : decode cX11_dream 6 = .ok (.ifCond .eq 17, 3) := by decide +kernel
theorem dX11_dream_9 : decode cX11_dream 9 = .ok (.iload_n 3, 1) := by decide +kernel
theorem dX11_dream_10 : decode cX11_dream 10 = .ok (.iconst (-1), 1) := by decide +kernel
theorem dX11_dream_11 : decode cX11_dream 11 = .ok (.if_icmp .eq 15, 3) := by decide +kernel
theorem dX11_dream_14 : decode cX11_dream 14 = .ok (.aload_n 0, 1) := by decide +kernel
theorem dX11_dream_15 : decode cX11_dream 15 = .ok (.iload_n 2, 1) := by decide +kernel
theorem dX11_dream_16 : decode cX11_dream 16 = .ok (.iload_n 3, 1) := by decide +kernel
theorem dX11_dream_17 : decode cX11_dream 17 = .ok (.invokevirtual 217, 3) := by decide +kernel
theorem dX11_dream_20 : decode cX11_dream 20 = .ok (.ifCond .ne 6, 3) := by decide +kernel
theorem dX11_dream_23 : decode cX11_dream 23 = .ok (.ldc 220, 2) := by decide +kernel
theorem dX11_dream_25 : decode cX11_dream 25 = .ok (.ireturn, 1) := by decide +kernel
theorem dX11_dream_26 : decode cX11_dream 26 = .ok (.aload_n 0, 1) := by decide +kernel
theorem dX11_dream_27 : decode cX11_dream 27 = .ok (.iload_n 1, 1) := by decide +kernel
theorem dX11_dream_28 : decode cX11_dream 28 = .ok (.iload_n 2, 1) := by decide +kernel
theorem dX11_dream_29 : decode cX11_dream 29 = .ok (.invokevirtual 195, 3) := by decide +kernel
theorem dX11_dream_32 : decode cX11_dream 32 = .ok (.istore 4, 2) := by decide +kernel
theorem dX11_dream_34 : decode cX11_dream 34 = .ok (.aload_n 0, 1) := by decide +kernel
theorem dX11_dream_35 : decode cX11_dream 35 = .ok (.getfield 89, 3) := by decide +kernel
theorem dX11_dream_38 : decode cX11_dream 38 = .ok (.iload 4, 2) := by decide +kernel
theorem dX11_dream_40 : decode cX11_dream 40 = .ok (.iload_n 2, 1) := by decide +kernel
theorem dX11_dream_41 : decode cX11_dream 41 = .ok (.invokevirtual 340, 3) := by decide +kernel
theorem dX11_dream_44 : decode cX11_dream 44 = .ok (.istore 5, 2) := by decide +kernel
theorem dX11_dream_46 : decode cX11_dream 46 = .ok (.iload_n 3, 1) := by decide +kernel
theorem dX11_dream_47 : decode cX11_dream 47 = .ok (.iconst (-1), 1) := by decide +kernel
theorem dX11_dream_48 : decode cX11_dream 48 = .ok (.if_icmp .ne 8, 3) := by decide +kernel
theorem dX11_dream_51 : decode cX11_dream 51 = .ok (.iload 5, 2) := by decide +kernel
theorem dX11_dream_53 : decode cX11_dream 53 = .ok (.goto 14, 3) := by decide +kernel
theorem dX11_dream_56 : decode cX11_dream 56 = .ok (.aload_n 0, 1) := by decide +kernel
theorem dX11_dream_57 : decode cX11_dream 57 = .ok (.getfield 89, 3) := by decide +kernel
theorem dX11_dream_60 : decode cX11_dream 60 = .ok (.iload_n 3, 1) := by decide +kernel
theorem dX11_dream_61 : decode cX11_dream 61 = .ok (.iload 4, 2) := by decide +kernel
theorem dX11_dream_63 : decode cX11_dream 63 = .ok (.iload_n 2, 1) := by decide +kernel
theorem dX11_dream_64 : decode cX11_dream 64 = .ok (.invokevirtual 343, 3) := by decide +kernel
theorem dX11_dream_67 : decode cX11_dream 67 = .ok (.ireturn, 1) := by decide +kernel
theorem F_X11_89 : FLk RX11 89 11 13 := ⟨RX11, TX11, 16, rfl, rfl, iw_X11, by decide, Or.inl fl_X11_89⟩
theorem ML_X11_340 : MLk RX11 340 yX3_greatest := Or.inl ml_X11_340
theorem MV_X3_greatest : MVk K_X3_greatest 2 3 := ⟨⟨cd_X3_greatest, in_X3, ⟨by decide, by decide, by decide +kernel⟩, by decide⟩, im_X3_greatest, se_X3_greatest, _, _, rfl⟩
theorem ML_X11_343 : MLk RX11 343 yX3_pairOf := Or.inl ml_X11_343
theorem MV_X3_pairOf : MVk K_X3_pairOf 3 3 := ⟨⟨cd_X3_pairOf, in_X3, ⟨by decide, by decide, by decide +kernel⟩, by decide⟩, im_X3_pairOf, se_X3_pairOf, _, _, rfl⟩
def f_X11_dream_23  (h : AH) : Option (Int32 × AH) :=
  some ((-1000000), h)
def f_X11_dream_67 (s0 : Int32) (h : AH) : Option (Int32 × AH) :=
  some (s0, h)
def f_X11_dream_26 (k0 : Nat) (x1 : Int32) (x2 : Int32) (x3 : Int32) (h : AH) : Option (Int32 × AH) :=
  ob (f_X11_openDoor k0 x1 x2 h) fun r_3 h_2 =>
  ob (f_X3_greatest (rf k0 13) r_3 x2 h_2) fun r_6 h_5 =>
  if x3 = (-1) then (
    f_X11_dream_67 r_6 h_5
  ) else (
    ob (f_X3_pairOf (rf k0 13) x3 r_3 x2 h_5) fun r_10 h_9 =>
    f_X11_dream_67 r_10 h_9
  )
def f_X11_dream (k0 : Nat) (x1 : Int32) (x2 : Int32) (x3 : Int32) (h : AH) : Option (Int32 × AH) :=
  ob (f_X11_isParty k0 x1 x2 h) fun r_3 h_2 =>
  if r_3 = 0 then (
    f_X11_dream_23 h_2
  ) else (
    if x3 = (-1) then (
      f_X11_dream_26 k0 x1 x2 x3 h_2
    ) else (
      ob (f_X11_isGuest k0 x2 x3 h_2) fun r_8 h_7 =>
      if r_8 = 0 then (
        f_X11_dream_23 h_7
      ) else (
        f_X11_dream_26 k0 x1 x2 x3 h_7
      )
    )
  )
set_option maxHeartbeats 4000000 in
set_option maxRecDepth 100000 in
theorem v_X11_dream_23 {E : EV} {d : Nat} (hd : 4 ≤ d) {r0 : Int32} {h0 : AH}  {h : AH} (hf : f_X11_dream_23 h = some (r0, h0)) : V E (d + 1) K_X11_dream (ZI E r0 h0) h [] [] 23 := by
  unfold f_X11_dream_23 at hf
  refine V_ldc (v := (-1000000)) rfl kc_X11_220 dX11_dream_23 ?_
  exact V_iret rfl (so_s hf) dX11_dream_25
set_option maxHeartbeats 4000000 in
set_option maxRecDepth 100000 in
theorem v_X11_dream_67 {E : EV} {d : Nat} (hd : 4 ≤ d) {r0 : Int32} {h0 : AH} {s0 : Int32} {h : AH} (hf : f_X11_dream_67 s0 h = some (r0, h0)) : V E (d + 1) K_X11_dream (ZI E r0 h0) h [] [.int s0] 67 := by
  unfold f_X11_dream_67 at hf
  exact V_iret rfl (so_s hf) dX11_dream_67
set_option maxHeartbeats 4000000 in
set_option maxRecDepth 100000 in
theorem v_X11_dream_26 {E : EV} {d : Nat} (hd : 4 ≤ d) {r0 : Int32} {h0 : AH} {k0 : Nat} {x1 : Int32} {x2 : Int32} {x3 : Int32} {h : AH} (hf : f_X11_dream_26 k0 x1 x2 x3 h = some (r0, h0)) (t_k0 : kd k0 = (0, 11)) : V E (d + 1) K_X11_dream (ZI E r0 h0) h [(0, .ref k0), (1, .int x1), (2, .int x2), (3, .int x3)] [] 26 := by
  unfold f_X11_dream_26 at hf
  refine V_aload_n 0 dX11_dream_26 rfl rfl ?_
  refine V_iload_n 1 dX11_dream_27 rfl rfl ?_
  refine V_iload_n 2 dX11_dream_28 rfl rfl ?_
  obtain ⟨r_3, h_2, e_1, hf⟩ := ob_s hf
  refine V_cvi (As := [.int x1, .int x2]) (rest := []) (c_X11_openDoor (d := d) (Nat.le_trans (Nat.le_of_ble_eq_true rfl) hd) e_1 t_k0) ML_X11_195 MV_X11_openDoor rfl t_k0 rfl rfl (Nat.le_of_ble_eq_true rfl) dX11_dream_29 ?_
  refine V_istore (L' := [(4, .int r_3), (0, .ref k0), (1, .int x1), (2, .int x2), (3, .int x3)]) dX11_dream_32 (Nat.le_of_ble_eq_true rfl) rfl rfl ?_
  refine V_aload_n 1 dX11_dream_34 rfl rfl ?_
  refine V_getR F_X11_89 rfl t_k0 rfl dX11_dream_35 ?_
  refine V_iload 0 dX11_dream_38 rfl ?_
  refine V_iload_n 3 dX11_dream_40 rfl rfl ?_
  obtain ⟨r_6, h_5, e_4, hf⟩ := ob_s hf
  refine V_cvi (As := [.int r_3, .int x2]) (rest := []) (c_X3_greatest (d := d) (Nat.le_trans (Nat.le_of_ble_eq_true rfl) hd) e_4 (rfO t_k0 (Nat.le_of_ble_eq_true rfl) rfl rfl)) ML_X11_340 MV_X3_greatest rfl (rfO t_k0 (Nat.le_of_ble_eq_true rfl) rfl rfl) rfl rfl (Nat.le_of_ble_eq_true rfl) dX11_dream_41 ?_
  refine V_istore (L' := [(5, .int r_6), (4, .int r_3), (0, .ref k0), (1, .int x1), (2, .int x2), (3, .int x3)]) dX11_dream_44 (Nat.le_of_ble_eq_true rfl) rfl rfl ?_
  refine V_iload_n 5 dX11_dream_46 rfl rfl ?_
  refine V_iconst (v := (-1)) dX11_dream_47 (by decide) ?_
  refine V_ic_ne (tgt := 56) dX11_dream_48 (by decide) (fun c_7 => ?_) (fun c_7 => ?_)
  · have hf := if_s c_7 hf
    refine V_aload_n 2 dX11_dream_56 rfl rfl ?_
    refine V_getR F_X11_89 rfl t_k0 rfl dX11_dream_57 ?_
    refine V_iload_n 5 dX11_dream_60 rfl rfl ?_
    refine V_iload 1 dX11_dream_61 rfl ?_
    refine V_iload_n 4 dX11_dream_63 rfl rfl ?_
    obtain ⟨r_10, h_9, e_8, hf⟩ := ob_s hf
    refine V_cvi (As := [.int x3, .int r_3, .int x2]) (rest := []) (c_X3_pairOf (d := d) (Nat.le_trans (Nat.le_of_ble_eq_true rfl) hd) e_8 (rfO t_k0 (Nat.le_of_ble_eq_true rfl) rfl rfl)) ML_X11_343 MV_X3_pairOf rfl (rfO t_k0 (Nat.le_of_ble_eq_true rfl) rfl rfl) rfl rfl (Nat.le_of_ble_eq_true rfl) dX11_dream_64 ?_
    refine V_sub [] rfl ?_
    exact v_X11_dream_67 hd hf
  · have hf := it_s c_7 hf
    refine V_iload 0 dX11_dream_51 rfl ?_
    refine V_goto (tgt := 67) dX11_dream_53 (by decide) ?_
    refine V_sub [] rfl ?_
    exact v_X11_dream_67 hd hf
set_option maxHeartbeats 4000000 in
set_option maxRecDepth 100000 in
theorem c_X11_dream {E : EV} {d : Nat} (hd : 4 + 1 ≤ d) {k0 : Nat} {x1 : Int32} {x2 : Int32} {x3 : Int32} {h : AH} {r0 : Int32} {h0 : AH} (hf : f_X11_dream k0 x1 x2 x3 h = some (r0, h0)) (t_k0 : kd k0 = (0, 11)) : Con E d K_X11_dream (ZI E r0 h0) [.ref k0, .int x1, .int x2, .int x3] h := by
  obtain ⟨d, rfl⟩ : ∃ d', d = d' + 1 := ⟨d - 1, by omega⟩
  have hd := Nat.le_of_succ_le_succ hd
  refine Con.ofV rfl (Nat.le_of_ble_eq_true rfl) ?_
  unfold f_X11_dream at hf
  show V E (d + 1) K_X11_dream (ZI E r0 h0) h [(0, .ref k0), (1, .int x1), (2, .int x2), (3, .int x3)] [] 0
  refine V_aload_n 0 dX11_dream_0 rfl rfl ?_
  refine V_iload_n 1 dX11_dream_1 rfl rfl ?_
  refine V_iload_n 2 dX11_dream_2 rfl rfl ?_
  obtain ⟨r_3, h_2, e_1, hf⟩ := ob_s hf
  refine V_cvi (As := [.int x1, .int x2]) (rest := []) (c_X11_isParty (d := d) (Nat.le_trans (Nat.le_of_ble_eq_true rfl) hd) e_1 t_k0) ML_X11_182 MV_X11_isParty rfl t_k0 rfl rfl (Nat.le_of_ble_eq_true rfl) dX11_dream_3 ?_
  refine V_if_eq (tgt := 23) dX11_dream_6 (by decide) (fun c_4 => ?_) (fun c_4 => ?_)
  · have hf := it_s c_4 hf
    refine V_sub [] rfl ?_
    exact v_X11_dream_23 hd hf
  · have hf := if_s c_4 hf
    refine V_iload_n 3 dX11_dream_9 rfl rfl ?_
    refine V_iconst (v := (-1)) dX11_dream_10 (by decide) ?_
    refine V_ic_eq (tgt := 26) dX11_dream_11 (by decide) (fun c_5 => ?_) (fun c_5 => ?_)
    · have hf := it_s c_5 hf
      exact v_X11_dream_26 hd hf t_k0
    · have hf := if_s c_5 hf
      refine V_aload_n 0 dX11_dream_14 rfl rfl ?_
      refine V_iload_n 2 dX11_dream_15 rfl rfl ?_
      refine V_iload_n 3 dX11_dream_16 rfl rfl ?_
      obtain ⟨r_8, h_7, e_6, hf⟩ := ob_s hf
      refine V_cvi (As := [.int x2, .int x3]) (rest := []) (c_X11_isGuest (d := d) (Nat.le_trans (Nat.le_of_ble_eq_true rfl) hd) e_6 t_k0) ML_X11_217 MV_X11_isGuest rfl t_k0 rfl rfl (Nat.le_of_ble_eq_true rfl) dX11_dream_17 ?_
      refine V_if_ne (tgt := 26) dX11_dream_20 (by decide) (fun c_9 => ?_) (fun c_9 => ?_)
      · have hf := if_s c_9 hf
        exact v_X11_dream_26 hd hf t_k0
      · have hf := it_s c_9 hf
        refine V_sub [] rfl ?_
        exact v_X11_dream_23 hd hf
theorem dX11_end_0 : decode cX11_end 0 = .ok (.iload_n 1, 1) := by decide +kernel
theorem dX11_end_1 : decode cX11_end 1 = .ok (.ifCond .lt 14, 3) := by decide +kernel
theorem dX11_end_4 : decode cX11_end 4 = .ok (.iload_n 1, 1) := by decide +kernel
theorem dX11_end_5 : decode cX11_end 5 = .ok (.aload_n 0, 1) := by decide +kernel
theorem dX11_end_6 : decode cX11_end 6 = .ok (.getfield 12, 3) := by decide +kernel
theorem dX11_end_9 : decode cX11_end 9 = .ok (.getfield 106, 3) := by decide +kernel
theorem dX11_end_12 : decode cX11_end 12 = .ok (.if_icmp .le 5, 3) := by decide +kernel
theorem dX11_end_15 : decode cX11_end 15 = .ok (.iconst 0, 1) := by decide +kernel
theorem dX11_end_16 : decode cX11_end 16 = .ok (.ireturn, 1) := by decide +kernel
theorem dX11_end_17 : decode cX11_end 17 = .ok (.aload_n 0, 1) := by decide +kernel
theorem dX11_end_18 : decode cX11_end 18 = .ok (.getfield 12, 3) := by decide +kernel
theorem dX11_end_21 : decode cX11_end 21 = .ok (.iload_n 1, 1) := by decide +kernel
theorem dX11_end_22 : decode cX11_end 22 = .ok (.putfield 106, 3) := by decide +kernel
theorem dX11_end_25 : decode cX11_end 25 = .ok (.iconst 1, 1) := by decide +kernel
theorem dX11_end_26 : decode cX11_end 26 = .ok (.ireturn, 1) := by decide +kernel
theorem P_X11_106 : FPk RX11 106 10 1 .int := ⟨RX10, TX10, 3, tyX10, rfl, rfl, iw_X10, by decide, Or.inr ⟨_, fn_X11_106⟩, tyX10_ok, nmX10, rfl, by decide +kernel⟩
def f_X11_end_15  (h : AH) : Option (Int32 × AH) :=
  some (0, h)
def f_X11_end (k0 : Nat) (x1 : Int32) (h : AH) : Option (Int32 × AH) :=
  if x1 < 0 then (
    f_X11_end_15 h
  ) else (
    if x1 ≤ (h.1 (rf k0 0) 1) then (
      nm (sI h (rf k0 0) 1 x1) fun h_3 =>
      some (1, h_3)
    ) else (
      f_X11_end_15 h
    )
  )
set_option maxHeartbeats 4000000 in
set_option maxRecDepth 100000 in
theorem v_X11_end_15 {E : EV} {d : Nat} (hd : 0 ≤ d) {r0 : Int32} {h0 : AH}  {h : AH} (hf : f_X11_end_15 h = some (r0, h0)) : V E (d + 1) K_X11_end (ZI E r0 h0) h [] [] 15 := by
  unfold f_X11_end_15 at hf
  refine V_iconst (v := 0) dX11_end_15 (by decide) ?_
  exact V_zret rfl (by decide) (so_s hf) dX11_end_16
set_option maxHeartbeats 4000000 in
set_option maxRecDepth 100000 in
theorem c_X11_end {E : EV} {d : Nat} (hd : 0 + 1 ≤ d) {k0 : Nat} {x1 : Int32} {h : AH} {r0 : Int32} {h0 : AH} (hf : f_X11_end k0 x1 h = some (r0, h0)) (t_k0 : kd k0 = (0, 11)) : Con E d K_X11_end (ZI E r0 h0) [.ref k0, .int x1] h := by
  obtain ⟨d, rfl⟩ : ∃ d', d = d' + 1 := ⟨d - 1, by omega⟩
  have hd := Nat.le_of_succ_le_succ hd
  refine Con.ofV rfl (Nat.le_of_ble_eq_true rfl) ?_
  unfold f_X11_end at hf
  show V E (d + 1) K_X11_end (ZI E r0 h0) h [(0, .ref k0), (1, .int x1)] [] 0
  refine V_iload_n 1 dX11_end_0 rfl rfl ?_
  refine V_if_lt (tgt := 15) dX11_end_1 (by decide) (fun c_1 => ?_) (fun c_1 => ?_)
  · have hf := it_s c_1 hf
    refine V_sub [] rfl ?_
    exact v_X11_end_15 hd hf
  · have hf := if_s c_1 hf
    refine V_iload_n 1 dX11_end_4 rfl rfl ?_
    refine V_aload_n 0 dX11_end_5 rfl rfl ?_
    refine V_getR F_X11_12 rfl t_k0 rfl dX11_end_6 ?_
    refine V_getI F_X11_106 rfl (rfO t_k0 (Nat.le_of_ble_eq_true rfl) rfl rfl) rfl dX11_end_9 ?_
    refine V_ic_le (tgt := 17) dX11_end_12 (by decide) (fun c_2 => ?_) (fun c_2 => ?_)
    · have hf := it_s c_2 hf
      refine V_aload_n 0 dX11_end_17 rfl rfl ?_
      refine V_getR F_X11_12 rfl t_k0 rfl dX11_end_18 ?_
      refine V_iload_n 1 dX11_end_21 rfl rfl ?_
      obtain ⟨h_3, e_4, hf⟩ := nm_s hf
      refine V_putI P_X11_106 rfl (rfO t_k0 (Nat.le_of_ble_eq_true rfl) rfl rfl) rfl e_4 dX11_end_22 ?_
      refine V_iconst (v := 1) dX11_end_25 (by decide) ?_
      exact V_zret rfl (by decide) (so_s hf) dX11_end_26
    · have hf := if_s c_2 hf
      refine V_sub [] rfl ?_
      exact v_X11_end_15 hd hf
theorem dX11_hasEnvy_0 : decode cX11_hasEnvy 0 = .ok (.aload_n 0, 1) := by decide +kernel
theorem dX11_hasEnvy_1 : decode cX11_hasEnvy 1 = .ok (.getfield 45, 3) := by decide +kernel
theorem dX11_hasEnvy_4 : decode cX11_hasEnvy 4 = .ok (.getfield 166, 3) := by decide +kernel
theorem dX11_hasEnvy_7 : decode cX11_hasEnvy 7 = .ok (.iload_n 2, 1) := by decide +kernel
theorem dX11_hasEnvy_8 : decode cX11_hasEnvy 8 = .ok (.iaload, 1) := by decide +kernel
theorem dX11_hasEnvy_9 : decode cX11_hasEnvy 9 = .ok (.istore_n 3, 1) := by decide +kernel
theorem dX11_hasEnvy_10 : decode cX11_hasEnvy 10 = .ok (.iload_n 3, 1) := by decide +kernel
theorem dX11_hasEnvy_11 : decode cX11_hasEnvy 11 = .ok (.iconst (-1), 1) := by decide +kernel
theorem dX11_hasEnvy_12 : decode cX11_hasEnvy 12 = .ok (.if_icmp .eq 23, 3) := by decide +kernel
theorem dX11_hasEnvy_15 : decode cX11_hasEnvy 15 = .ok (.aload_n 0, 1) := by decide +kernel
theorem dX11_hasEnvy_16 : decode cX11_hasEnvy 16 = .ok (.getfield 19, 3) := by decide +kernel
theorem dX11_hasEnvy_19 : decode cX11_hasEnvy 19 = .ok (.iload_n 1, 1) := by decide +kernel
theorem dX11_hasEnvy_20 : decode cX11_hasEnvy 20 = .ok (.aload_n 0, 1) := by decide +kernel
theorem dX11_hasEnvy_21 : decode cX11_hasEnvy 21 = .ok (.getfield 19, 3) := by decide +kernel
theorem dX11_hasEnvy_24 : decode cX11_hasEnvy 24 = .ok (.iload_n 3, 1) := by decide +kernel
theorem dX11_hasEnvy_25 : decode cX11_hasEnvy 25 = .ok (.iconst 3, 1) := by decide +kernel
theorem dX11_hasEnvy_26 : decode cX11_hasEnvy 26 = .ok (.invokevirtual 162, 3) := by decide +kernel
theorem dX11_hasEnvy_29 : decode cX11_hasEnvy 29 = .ok (.invokevirtual 178, 3) := by decide +kernel
theorem dX11_hasEnvy_32 : decode cX11_hasEnvy 32 = .ok (.ifCond .ne 5, 3) := by decide +kernel
theorem dX11_hasEnvy_35 : decode cX11_hasEnvy 35 = .ok (.iconst 0, 1) := by decide +kernel
theorem dX11_hasEnvy_36 : decode cX11_hasEnvy 36 = .ok (.ireturn, 1) := by decide +kernel
theorem dX11_hasEnvy_37 : decode cX11_hasEnvy 37 = .ok (.aload_n 0, 1) := by decide +kernel
theorem dX11_hasEnvy_38 : decode cX11_hasEnvy 38 = .ok (.getfield 45, 3) := by decide +kernel
theorem dX11_hasEnvy_41 : decode cX11_hasEnvy 41 = .ok (.getfield 166, 3) := by decide +kernel
theorem dX11_hasEnvy_44 : decode cX11_hasEnvy 44 = .ok (.iload_n 1, 1) := by decide +kernel
theorem dX11_hasEnvy_45 : decode cX11_hasEnvy 45 = .ok (.iaload, 1) := by decide +kernel
theorem dX11_hasEnvy_46 : decode cX11_hasEnvy 46 = .ok (.istore 4, 2) := by decide +kernel
theorem dX11_hasEnvy_48 : decode cX11_hasEnvy 48 = .ok (.aload_n 0, 1) := by decide +kernel
theorem dX11_hasEnvy_49 : decode cX11_hasEnvy 49 = .ok (.getfield 45, 3) := by decide +kernel
theorem dX11_hasEnvy_52 : decode cX11_hasEnvy 52 = .ok (.getfield 172, 3) := by decide +kernel
theorem dX11_hasEnvy_55 : decode cX11_hasEnvy 55 = .ok (.iload_n 3, 1) := by decide +kernel
theorem dX11_hasEnvy_56 : decode cX11_hasEnvy 56 = .ok (.iaload, 1) := by decide +kernel
theorem dX11_hasEnvy_57 : decode cX11_hasEnvy 57 = .ok (.iload 4, 2) := by decide +kernel
theorem dX11_hasEnvy_59 : decode cX11_hasEnvy 59 = .ok (.iconst (-1), 1) := by decide +kernel
theorem dX11_hasEnvy_60 : decode cX11_hasEnvy 60 = .ok (.if_icmp .ne 7, 3) := by decide +kernel
theorem dX11_hasEnvy_63 : decode cX11_hasEnvy 63 = .ok (.iconst 0, 1) := by decide +kernel
theorem dX11_hasEnvy_64 : decode cX11_hasEnvy 64 = .ok (.goto 13, 3) := by decide +kernel
theorem dX11_hasEnvy_67 : decode cX11_hasEnvy 67 = .ok (.aload_n 0, 1) := by decide +kernel
theorem dX11_hasEnvy_68 : decode cX11_hasEnvy 68 = .ok (.getfield 45, 3) := by decide +kernel
theorem dX11_hasEnvy_71 : decode cX11_hasEnvy 71 = .ok (.getfield 172, 3) := by decide +kernel
theorem dX11_hasEnvy_74 : decode cX11_hasEnvy 74 = .ok (.iload 4, 2) := by decide +kernel
theorem dX11_hasEnvy_76 : decode cX11_hasEnvy 76 = .ok (.iaload, 1) := by decide +kernel
theorem dX11_hasEnvy_77 : decode cX11_hasEnvy 77 = .ok (.if_icmp .le 7, 3) := by decide +kernel
theorem dX11_hasEnvy_80 : decode cX11_hasEnvy 80 = .ok (.iconst 1, 1) := by decide +kernel
theorem dX11_hasEnvy_81 : decode cX11_hasEnvy 81 = .ok (.goto 4, 3) := by decide +kernel
theorem dX11_hasEnvy_84 : decode cX11_hasEnvy 84 = .ok (.iconst 0, 1) := by decide +kernel
theorem dX11_hasEnvy_85 : decode cX11_hasEnvy 85 = .ok (.ireturn, 1) := by decide +kernel
theorem ML_X11_178 : MLk RX11 178 yX6_canWear := Or.inl ml_X11_178
theorem F_X11_172 : FLk RX11 172 9 2 := ⟨RX9, TX9, 3, rfl, rfl, iw_X9, by decide, Or.inr ⟨_, fn_X11_172⟩⟩
def f_X11_hasEnvy_35  (h : AH) : Option (Int32 × AH) :=
  some (0, h)
def f_X11_hasEnvy_85 (s0 : Int32) (h : AH) : Option (Int32 × AH) :=
  og (bz s0) <|
  some (s0, h)
def f_X11_hasEnvy_77 (s0 : Int32) (s1 : Int32) (h : AH) : Option (Int32 × AH) :=
  if s1 ≤ s0 then (
    f_X11_hasEnvy_85 0 h
  ) else (
    f_X11_hasEnvy_85 1 h
  )
def f_X11_hasEnvy (k0 : Nat) (x1 : Int32) (x2 : Int32) (h : AH) : Option (Int32 × AH) :=
  og (ix x2 (an (rf (rf k0 6) 0))) <|
  nm ((h.1 (rf (rf k0 6) 0) x2.toNatClampNeg)) fun x3_2 =>
  if x3_2 = (-1) then (
    f_X11_hasEnvy_35 h
  ) else (
    ob (f_X6_item (rf k0 1) x3_2 3 h) fun r_7 h_6 =>
    ob (f_X6_canWear (rf k0 1) x1 r_7 h_6) fun r_10 h_9 =>
    if r_10 = 0 then (
      f_X11_hasEnvy_35 h_9
    ) else (
      og (ix x1 (an (rf (rf k0 6) 0))) <|
      nm ((h_9.1 (rf (rf k0 6) 0) x1.toNatClampNeg)) fun x4_13 =>
      og (ix x3_2 (an (rf (rf k0 6) 2))) <|
      if x4_13 = (-1) then (
        f_X11_hasEnvy_77 0 (h_9.1 (rf (rf k0 6) 2) x3_2.toNatClampNeg) h_9
      ) else (
        og (ix x4_13 (an (rf (rf k0 6) 2))) <|
        f_X11_hasEnvy_77 (h_9.1 (rf (rf k0 6) 2) x4_13.toNatClampNeg) (h_9.1 (rf (rf k0 6) 2) x3_2.toNatClampNeg) h_9
      )
    )
  )
set_option maxHeartbeats 4000000 in
set_option maxRecDepth 100000 in
theorem v_X11_hasEnvy_35 {E : EV} {d : Nat} (hd : 2 ≤ d) {r0 : Int32} {h0 : AH}  {h : AH} (hf : f_X11_hasEnvy_35 h = some (r0, h0)) : V E (d + 1) K_X11_hasEnvy (ZI E r0 h0) h [] [] 35 := by
  unfold f_X11_hasEnvy_35 at hf
  refine V_iconst (v := 0) dX11_hasEnvy_35 (by decide) ?_
  exact V_zret rfl (by decide) (so_s hf) dX11_hasEnvy_36
set_option maxHeartbeats 4000000 in
set_option maxRecDepth 100000 in
theorem v_X11_hasEnvy_85 {E : EV} {d : Nat} (hd : 2 ≤ d) {r0 : Int32} {h0 : AH} {s0 : Int32} {h : AH} (hf : f_X11_hasEnvy_85 s0 h = some (r0, h0)) : V E (d + 1) K_X11_hasEnvy (ZI E r0 h0) h [] [.int s0] 85 := by
  unfold f_X11_hasEnvy_85 at hf
  obtain ⟨b_1, hf⟩ := og_s hf
  exact V_zret rfl b_1 (so_s hf) dX11_hasEnvy_85
set_option maxHeartbeats 4000000 in
set_option maxRecDepth 100000 in
theorem v_X11_hasEnvy_77 {E : EV} {d : Nat} (hd : 2 ≤ d) {r0 : Int32} {h0 : AH} {s0 : Int32} {s1 : Int32} {h : AH} (hf : f_X11_hasEnvy_77 s0 s1 h = some (r0, h0)) : V E (d + 1) K_X11_hasEnvy (ZI E r0 h0) h [] [.int s0, .int s1] 77 := by
  unfold f_X11_hasEnvy_77 at hf
  refine V_ic_le (tgt := 84) dX11_hasEnvy_77 (by decide) (fun c_1 => ?_) (fun c_1 => ?_)
  · have hf := it_s c_1 hf
    refine V_iconst (v := 0) dX11_hasEnvy_84 (by decide) ?_
    exact v_X11_hasEnvy_85 hd hf
  · have hf := if_s c_1 hf
    refine V_iconst (v := 1) dX11_hasEnvy_80 (by decide) ?_
    refine V_goto (tgt := 85) dX11_hasEnvy_81 (by decide) ?_
    exact v_X11_hasEnvy_85 hd hf
set_option maxHeartbeats 4000000 in
set_option maxRecDepth 100000 in
theorem c_X11_hasEnvy {E : EV} {d : Nat} (hd : 2 + 1 ≤ d) {k0 : Nat} {x1 : Int32} {x2 : Int32} {h : AH} {r0 : Int32} {h0 : AH} (hf : f_X11_hasEnvy k0 x1 x2 h = some (r0, h0)) (t_k0 : kd k0 = (0, 11)) : Con E d K_X11_hasEnvy (ZI E r0 h0) [.ref k0, .int x1, .int x2] h := by
  obtain ⟨d, rfl⟩ : ∃ d', d = d' + 1 := ⟨d - 1, by omega⟩
  have hd := Nat.le_of_succ_le_succ hd
  refine Con.ofV rfl (Nat.le_of_ble_eq_true rfl) ?_
  unfold f_X11_hasEnvy at hf
  show V E (d + 1) K_X11_hasEnvy (ZI E r0 h0) h [(0, .ref k0), (1, .int x1), (2, .int x2)] [] 0
  refine V_aload_n 0 dX11_hasEnvy_0 rfl rfl ?_
  refine V_getR F_X11_45 rfl t_k0 rfl dX11_hasEnvy_1 ?_
  refine V_getR F_X11_166 rfl (rfO t_k0 (Nat.le_of_ble_eq_true rfl) rfl rfl) rfl dX11_hasEnvy_4 ?_
  refine V_iload_n 2 dX11_hasEnvy_7 rfl rfl ?_
  obtain ⟨b_1, hf⟩ := og_s hf
  refine V_iald (rfA (rfO t_k0 (Nat.le_of_ble_eq_true rfl) rfl rfl) (Nat.le_of_ble_eq_true rfl) rfl rfl (by decide)) b_1 dX11_hasEnvy_8 ?_
  obtain ⟨x3_2, e_3, hf⟩ := nm_s hf
  refine V_istore_n (L' := [(3, .int x3_2), (0, .ref k0), (1, .int x1), (2, .int x2)]) dX11_hasEnvy_9 rfl (Nat.le_of_ble_eq_true rfl) e_3 rfl ?_
  refine V_iload_n 0 dX11_hasEnvy_10 rfl rfl ?_
  refine V_iconst (v := (-1)) dX11_hasEnvy_11 (by decide) ?_
  refine V_ic_eq (tgt := 35) dX11_hasEnvy_12 (by decide) (fun c_4 => ?_) (fun c_4 => ?_)
  · have hf := it_s c_4 hf
    refine V_sub [] rfl ?_
    exact v_X11_hasEnvy_35 hd hf
  · have hf := if_s c_4 hf
    refine V_aload_n 1 dX11_hasEnvy_15 rfl rfl ?_
    refine V_getR F_X11_19 rfl t_k0 rfl dX11_hasEnvy_16 ?_
    refine V_iload_n 2 dX11_hasEnvy_19 rfl rfl ?_
    refine V_aload_n 1 dX11_hasEnvy_20 rfl rfl ?_
    refine V_getR F_X11_19 rfl t_k0 rfl dX11_hasEnvy_21 ?_
    refine V_iload_n 0 dX11_hasEnvy_24 rfl rfl ?_
    refine V_iconst (v := 3) dX11_hasEnvy_25 (by decide) ?_
    obtain ⟨r_7, h_6, e_5, hf⟩ := ob_s hf
    refine V_cvi (As := [.int x3_2, .int 3]) (rest := [.int x1, .ref (rf k0 1)]) (c_X6_item (d := d) (Nat.le_trans (Nat.le_of_ble_eq_true rfl) hd) e_5 (rfO t_k0 (Nat.le_of_ble_eq_true rfl) rfl rfl)) ML_X11_162 MV_X6_item rfl (rfO t_k0 (Nat.le_of_ble_eq_true rfl) rfl rfl) rfl rfl (Nat.le_of_ble_eq_true rfl) dX11_hasEnvy_26 ?_
    obtain ⟨r_10, h_9, e_8, hf⟩ := ob_s hf
    refine V_cvi (As := [.int x1, .int r_7]) (rest := []) (c_X6_canWear (d := d) (Nat.le_trans (Nat.le_of_ble_eq_true rfl) hd) e_8 (rfO t_k0 (Nat.le_of_ble_eq_true rfl) rfl rfl)) ML_X11_178 MV_X6_canWear rfl (rfO t_k0 (Nat.le_of_ble_eq_true rfl) rfl rfl) rfl rfl (Nat.le_of_ble_eq_true rfl) dX11_hasEnvy_29 ?_
    refine V_if_ne (tgt := 37) dX11_hasEnvy_32 (by decide) (fun c_11 => ?_) (fun c_11 => ?_)
    · have hf := if_s c_11 hf
      refine V_aload_n 1 dX11_hasEnvy_37 rfl rfl ?_
      refine V_getR F_X11_45 rfl t_k0 rfl dX11_hasEnvy_38 ?_
      refine V_getR F_X11_166 rfl (rfO t_k0 (Nat.le_of_ble_eq_true rfl) rfl rfl) rfl dX11_hasEnvy_41 ?_
      refine V_iload_n 2 dX11_hasEnvy_44 rfl rfl ?_
      obtain ⟨b_12, hf⟩ := og_s hf
      refine V_iald (rfA (rfO t_k0 (Nat.le_of_ble_eq_true rfl) rfl rfl) (Nat.le_of_ble_eq_true rfl) rfl rfl (by decide)) b_12 dX11_hasEnvy_45 ?_
      obtain ⟨x4_13, e_14, hf⟩ := nm_s hf
      refine V_istore (L' := [(4, .int x4_13), (3, .int x3_2), (0, .ref k0), (1, .int x1), (2, .int x2)]) dX11_hasEnvy_46 (Nat.le_of_ble_eq_true rfl) e_14 rfl ?_
      refine V_aload_n 2 dX11_hasEnvy_48 rfl rfl ?_
      refine V_getR F_X11_45 rfl t_k0 rfl dX11_hasEnvy_49 ?_
      refine V_getR F_X11_172 rfl (rfO t_k0 (Nat.le_of_ble_eq_true rfl) rfl rfl) rfl dX11_hasEnvy_52 ?_
      refine V_iload_n 1 dX11_hasEnvy_55 rfl rfl ?_
      obtain ⟨b_15, hf⟩ := og_s hf
      refine V_iald (rfA (rfO t_k0 (Nat.le_of_ble_eq_true rfl) rfl rfl) (Nat.le_of_ble_eq_true rfl) rfl rfl (by decide)) b_15 dX11_hasEnvy_56 ?_
      refine V_iload 0 dX11_hasEnvy_57 rfl ?_
      refine V_iconst (v := (-1)) dX11_hasEnvy_59 (by decide) ?_
      refine V_ic_ne (tgt := 67) dX11_hasEnvy_60 (by decide) (fun c_16 => ?_) (fun c_16 => ?_)
      · have hf := if_s c_16 hf
        refine V_aload_n 2 dX11_hasEnvy_67 rfl rfl ?_
        refine V_getR F_X11_45 rfl t_k0 rfl dX11_hasEnvy_68 ?_
        refine V_getR F_X11_172 rfl (rfO t_k0 (Nat.le_of_ble_eq_true rfl) rfl rfl) rfl dX11_hasEnvy_71 ?_
        refine V_iload 0 dX11_hasEnvy_74 rfl ?_
        obtain ⟨b_17, hf⟩ := og_s hf
        refine V_iald (rfA (rfO t_k0 (Nat.le_of_ble_eq_true rfl) rfl rfl) (Nat.le_of_ble_eq_true rfl) rfl rfl (by decide)) b_17 dX11_hasEnvy_76 ?_
        refine V_sub [] rfl ?_
        exact v_X11_hasEnvy_77 hd hf
      · have hf := it_s c_16 hf
        refine V_iconst (v := 0) dX11_hasEnvy_63 (by decide) ?_
        refine V_goto (tgt := 77) dX11_hasEnvy_64 (by decide) ?_
        refine V_sub [] rfl ?_
        exact v_X11_hasEnvy_77 hd hf
    · have hf := it_s c_11 hf
      refine V_sub [] rfl ?_
      exact v_X11_hasEnvy_35 hd hf
theorem dX11_envy_0 : decode cX11_envy 0 = .ok (.aload_n 0, 1) := by decide +kernel
theorem dX11_envy_1 : decode cX11_envy 1 = .ok (.getfield 19, 3) := by decide +kernel
theorem dX11_envy_4 : decode cX11_envy 4 = .ok (.getfield 144, 3) := by decide +kernel
theorem dX11_envy_7 : decode cX11_envy 7 = .ok (.ifCond .eq 8, 3) := by decide +kernel
theorem dX11_envy_10 : decode cX11_envy 10 = .ok (.iload_n 1, 1) := by decide +kernel
theorem dX11_envy_11 : decode cX11_envy 11 = .ok (.iconst (-1), 1) := by decide +kernel
theorem dX11_envy_12 : decode cX11_envy 12 = .ok (.if_icmp .ge 5, 3) := by decide +kernel
theorem dX11_envy_15 : decode cX11_envy 15 = .ok (.iconst (-1), 1) := by decide +kernel
theorem dX11_envy_16 : decode cX11_envy 16 = .ok (.ireturn, 1) := by decide +kernel
theorem dX11_envy_17 : decode cX11_envy 17 = .ok (.iconst 0, 1) := by decide +kernel
theorem dX11_envy_18 : decode cX11_envy 18 = .ok (.istore_n 2, 1) := by decide +kernel
theorem dX11_envy_19 : decode cX11_envy 19 = .ok (.iconst 0, 1) := by decide +kernel
theorem dX11_envy_20 : decode cX11_envy 20 = .ok (.istore_n 3, 1) := by decide +kernel
theorem dX11_envy_21 : decode cX11_envy 21 = .ok (.iload_n 3, 1) := by decide +kernel
theorem dX11_envy_22 : decode cX11_envy 22 = .ok (.aload_n 0, 1) := by decide +kernel
theorem dX11_envy_23 : decode cX11_envy 23 = .ok (.getfield 19, 3) := by decide +kernel
theorem dX11_envy_26 : decode cX11_envy 26 = .ok (.getfield 144, 3) := by decide +kernel
theorem dX11_envy_29 : decode cX11_envy 29 = .ok (.if_icmp .ge 56, 3) := by decide +kernel
theorem dX11_envy_32 : decode cX11_envy 32 = .ok (.iconst 0, 1) := by decide +kernel
theorem dX11_envy_33 : decode cX11_envy 33 = .ok (.istore 4, 2) := by decide +kernel
theorem dX11_envy_35 : decode cX11_envy 35 = .ok (.iload 4, 2) := by decide +kernel
theorem dX11_envy_37 : decode cX11_envy 37 = .ok (.aload_n 0, 1) := by decide +kernel
theorem dX11_envy_38 : decode cX11_envy 38 = .ok (.getfield 19, 3) := by decide +kernel
theorem dX11_envy_41 : decode cX11_envy 41 = .ok (.getfield 144, 3) := by decide +kernel
theorem dX11_envy_44 : decode cX11_envy 44 = .ok (.if_icmp .ge 35, 3) := by decide +kernel
theorem dX11_envy_47 : decode cX11_envy 47 = .ok (.aload_n 0, 1) := by decide +kernel
theorem dX11_envy_48 : decode cX11_envy 48 = .ok (.iload_n 3, 1) := by decide +kernel
theorem dX11_envy_49 : decode cX11_envy 49 = .ok (.iload 4, 2) := by decide +kernel
theorem dX11_envy_51 : decode cX11_envy 51 = .ok (.invokevirtual 349, 3) := by decide +kernel
theorem dX11_envy_54 : decode cX11_envy 54 = .ok (.ifCond .eq 19, 3) := by decide +kernel
theorem dX11_envy_57 : decode cX11_envy 57 = .ok (.iload_n 2, 1) := by decide +kernel
theorem dX11_envy_58 : decode cX11_envy 58 = .ok (.iload_n 1, 1) := by decide +kernel
theorem dX11_envy_59 : decode cX11_envy 59 = .ok (.if_icmp .ne 11, 3) := by decide +kernel
theorem dX11_envy_62 : decode cX11_envy 62 = .ok (.bipush 10, 2) := by decide +kernel
theorem dX11_envy_64 : decode cX11_envy 64 = .ok (.iload_n 3, 1) := by decide +kernel
theorem dX11_envy_65 : decode cX11_envy 65 = .ok (.imul, 1) := by decide +kernel
theorem dX11_envy_66 : decode cX11_envy 66 = .ok (.iload 4, 2) := by decide +kernel
theorem dX11_envy_68 : decode cX11_envy 68 = .ok (.iadd, 1) := by decide +kernel
theorem dX11_envy_69 : decode cX11_envy 69 = .ok (.ireturn, 1) := by decide +kernel
theorem dX11_envy_70 : decode cX11_envy 70 = .ok (.iinc 2 1, 3) := by decide +kernel
theorem dX11_envy_73 : decode cX11_envy 73 = .ok (.iinc 4 1, 3) := by decide +kernel
theorem dX11_envy_76 : decode cX11_envy 76 = .ok (.goto (-41), 3) := by decide +kernel
theorem dX11_envy_79 : decode cX11_envy 79 = .ok (.iinc 3 1, 3) := by decide +kernel
theorem dX11_envy_82 : decode cX11_envy 82 = .ok (.goto (-61), 3) := by decide +kernel
theorem dX11_envy_85 : decode cX11_envy 85 = .ok (.iload_n 1, 1) := by decide +kernel
theorem dX11_envy_86 : decode cX11_envy 86 = .ok (.iconst (-1), 1) := by decide +kernel
theorem dX11_envy_87 : decode cX11_envy 87 = .ok (.if_icmp .ne 7, 3) := by decide +kernel
theorem dX11_envy_90 : decode cX11_envy 90 = .ok (.iload_n 2, 1) := by decide +kernel
theorem dX11_envy_91 : decode cX11_envy 91 = .ok (.goto 4, 3) := by decide +kernel
theorem dX11_envy_94 : decode cX11_envy 94 = .ok (.iconst (-1), 1) := by decide +kernel
theorem dX11_envy_95 : decode cX11_envy 95 = .ok (.ireturn, 1) := by decide +kernel
theorem ML_X11_349 : MLk RX11 349 yX11_hasEnvy := Or.inl ml_X11_349
theorem MV_X11_hasEnvy : MVk K_X11_hasEnvy 2 11 := ⟨⟨cd_X11_hasEnvy, in_X11, ⟨by decide, by decide, by decide +kernel⟩, by decide⟩, im_X11_hasEnvy, se_X11_hasEnvy, _, _, rfl⟩
def f_X11_envy_15  (h : AH) : Option (Int32 × AH) :=
  some ((-1), h)
def f_X11_envy_73 (q35 : Nat → Int32 → Int32 → Int32 → Int32 → AH → Option (Int32 × AH)) (k0 : Nat) (x1 : Int32) (x2 : Int32) (x3 : Int32) (x4 : Int32) (h : AH) : Option (Int32 × AH) :=
  nm (x4 + 1) fun x4_1 =>
  q35 k0 x1 x2 x3 x4_1 h
def f_X11_envy_35 (q21 : Nat → Int32 → Int32 → Int32 → AH → Option (Int32 × AH)) : Nat → Nat → Int32 → Int32 → Int32 → Int32 → AH → Option (Int32 × AH)
  | 0, _, _, _, _, _, _ => none
  | n + 1, k0, x1, x2, x3, x4, h =>
    if (h.1 (rf k0 1) 2) ≤ x4 then (
      nm (x3 + 1) fun x3_2 =>
      q21 k0 x1 x2 x3_2 h
    ) else (
      ob (f_X11_hasEnvy k0 x3 x4 h) fun r_6 h_5 =>
      if r_6 = 0 then (
        f_X11_envy_73 (f_X11_envy_35 q21 n) k0 x1 x2 x3 x4 h_5
      ) else (
        if x2 = x1 then (
          some (((10 * x3) + x4), h_5)
        ) else (
          nm (x2 + 1) fun x2_9 =>
          f_X11_envy_73 (f_X11_envy_35 q21 n) k0 x1 x2_9 x3 x4 h_5
        )
      )
    )
def f_X11_envy_95 (s0 : Int32) (h : AH) : Option (Int32 × AH) :=
  some (s0, h)
def f_X11_envy_21 : Nat → Nat → Int32 → Int32 → Int32 → AH → Option (Int32 × AH)
  | 0, _, _, _, _, _ => none
  | n + 1, k0, x1, x2, x3, h =>
    if (h.1 (rf k0 1) 2) ≤ x3 then (
      if x1 = (-1) then (
        f_X11_envy_95 x2 h
      ) else (
        f_X11_envy_95 (-1) h
      )
    ) else (
      f_X11_envy_35 (f_X11_envy_21 n) FU k0 x1 x2 x3 0 h
    )
def f_X11_envy (k0 : Nat) (x1 : Int32) (h : AH) : Option (Int32 × AH) :=
  if (h.1 (rf k0 1) 2) = 0 then (
    f_X11_envy_15 h
  ) else (
    if (-1) ≤ x1 then (
      f_X11_envy_21 FU k0 x1 0 0 h
    ) else (
      f_X11_envy_15 h
    )
  )
set_option maxHeartbeats 4000000 in
set_option maxRecDepth 100000 in
theorem v_X11_envy_15 {E : EV} {d : Nat} (hd : 3 ≤ d) {r0 : Int32} {h0 : AH}  {h : AH} (hf : f_X11_envy_15 h = some (r0, h0)) : V E (d + 1) K_X11_envy (ZI E r0 h0) h [] [] 15 := by
  unfold f_X11_envy_15 at hf
  refine V_iconst (v := (-1)) dX11_envy_15 (by decide) ?_
  exact V_iret rfl (so_s hf) dX11_envy_16
set_option maxHeartbeats 4000000 in
set_option maxRecDepth 100000 in
theorem v_X11_envy_73 {E : EV} {d : Nat} (hd : 3 ≤ d) {r0 : Int32} {h0 : AH} {q35 : Nat → Int32 → Int32 → Int32 → Int32 → AH → Option (Int32 × AH)} (cq35 : ∀ (k0 : Nat) (x1 : Int32) (x2 : Int32) (x3 : Int32) (x4 : Int32) (h : AH), q35 k0 x1 x2 x3 x4 h = some (r0, h0) → kd k0 = (0, 11) → V E (d + 1) K_X11_envy (ZI E r0 h0) h [(0, .ref k0), (1, .int x1), (2, .int x2), (3, .int x3), (4, .int x4)] [] 35) {k0 : Nat} {x1 : Int32} {x2 : Int32} {x3 : Int32} {x4 : Int32} {h : AH} (hf : f_X11_envy_73 q35 k0 x1 x2 x3 x4 h = some (r0, h0)) (t_k0 : kd k0 = (0, 11)) : V E (d + 1) K_X11_envy (ZI E r0 h0) h [(0, .ref k0), (1, .int x1), (2, .int x2), (3, .int x3), (4, .int x4)] [] 73 := by
  unfold f_X11_envy_73 at hf
  obtain ⟨x4_1, e_2, hf⟩ := nm_s hf
  refine V_iinc (a := 1) (L' := [(4, .int x4_1), (0, .ref k0), (1, .int x1), (2, .int x2), (3, .int x3)]) 4 dX11_envy_73 rfl (by decide) (Nat.le_of_ble_eq_true rfl) e_2 rfl ?_
  refine V_goto (tgt := 35) dX11_envy_76 (by decide) ?_
  refine V_sub [1, 2, 3, 4, 0] rfl ?_
  exact cq35 _ _ _ _ _ _ hf t_k0
set_option maxHeartbeats 4000000 in
set_option maxRecDepth 100000 in
theorem v_X11_envy_35 {E : EV} {d : Nat} (hd : 3 ≤ d) {r0 : Int32} {h0 : AH} {q21 : Nat → Int32 → Int32 → Int32 → AH → Option (Int32 × AH)} (cq21 : ∀ (k0 : Nat) (x1 : Int32) (x2 : Int32) (x3 : Int32) (h : AH), q21 k0 x1 x2 x3 h = some (r0, h0) → kd k0 = (0, 11) → V E (d + 1) K_X11_envy (ZI E r0 h0) h [(0, .ref k0), (1, .int x1), (2, .int x2), (3, .int x3)] [] 21) : ∀ (n : Nat) (k0 : Nat) (x1 : Int32) (x2 : Int32) (x3 : Int32) (x4 : Int32) (h : AH), f_X11_envy_35 q21 n k0 x1 x2 x3 x4 h = some (r0, h0) → kd k0 = (0, 11) → V E (d + 1) K_X11_envy (ZI E r0 h0) h [(0, .ref k0), (1, .int x1), (2, .int x2), (3, .int x3), (4, .int x4)] [] 35 := by
  intro n
  induction n with
  | zero =>
    intro k0 x1 x2 x3 x4 h hf
    rw [f_X11_envy_35] at hf
    cases hf
  | succ n ih =>
    intro k0 x1 x2 x3 x4 h hf t_k0
    rw [f_X11_envy_35] at hf
    refine V_iload 4 dX11_envy_35 rfl ?_
    refine V_aload_n 0 dX11_envy_37 rfl rfl ?_
    refine V_getR F_X11_19 rfl t_k0 rfl dX11_envy_38 ?_
    refine V_getI F_X11_144 rfl (rfO t_k0 (Nat.le_of_ble_eq_true rfl) rfl rfl) rfl dX11_envy_41 ?_
    refine V_ic_ge (tgt := 79) dX11_envy_44 (by decide) (fun c_1 => ?_) (fun c_1 => ?_)
    · have hf := it_s c_1 hf
      obtain ⟨x3_2, e_3, hf⟩ := nm_s hf
      refine V_iinc (a := 1) (L' := [(3, .int x3_2), (0, .ref k0), (1, .int x1), (2, .int x2), (4, .int x4)]) 3 dX11_envy_79 rfl (by decide) (Nat.le_of_ble_eq_true rfl) e_3 rfl ?_
      refine V_goto (tgt := 21) dX11_envy_82 (by decide) ?_
      refine V_sub [1, 2, 3, 0] rfl ?_
      exact cq21 _ _ _ _ _ hf t_k0
    · have hf := if_s c_1 hf
      refine V_aload_n 0 dX11_envy_47 rfl rfl ?_
      refine V_iload_n 3 dX11_envy_48 rfl rfl ?_
      refine V_iload 4 dX11_envy_49 rfl ?_
      obtain ⟨r_6, h_5, e_4, hf⟩ := ob_s hf
      refine V_cvi (As := [.int x3, .int x4]) (rest := []) (c_X11_hasEnvy (d := d) (Nat.le_trans (Nat.le_of_ble_eq_true rfl) hd) e_4 t_k0) ML_X11_349 MV_X11_hasEnvy rfl t_k0 rfl rfl (Nat.le_of_ble_eq_true rfl) dX11_envy_51 ?_
      refine V_if_eq (tgt := 73) dX11_envy_54 (by decide) (fun c_7 => ?_) (fun c_7 => ?_)
      · have hf := it_s c_7 hf
        exact v_X11_envy_73 hd ih hf t_k0
      · have hf := if_s c_7 hf
        refine V_iload_n 2 dX11_envy_57 rfl rfl ?_
        refine V_iload_n 1 dX11_envy_58 rfl rfl ?_
        refine V_ic_ne (tgt := 70) dX11_envy_59 (by decide) (fun c_8 => ?_) (fun c_8 => ?_)
        · have hf := if_s c_8 hf
          obtain ⟨x2_9, e_10, hf⟩ := nm_s hf
          refine V_iinc (a := 1) (L' := [(2, .int x2_9), (0, .ref k0), (1, .int x1), (3, .int x3), (4, .int x4)]) 2 dX11_envy_70 rfl (by decide) (Nat.le_of_ble_eq_true rfl) e_10 rfl ?_
          refine V_sub [1, 2, 0, 3, 4] rfl ?_
          exact v_X11_envy_73 hd ih hf t_k0
        · have hf := it_s c_8 hf
          refine V_bipush (v := 10) dX11_envy_62 (by decide) ?_
          refine V_iload_n 3 dX11_envy_64 rfl rfl ?_
          refine V_imul dX11_envy_65 ?_
          refine V_iload 4 dX11_envy_66 rfl ?_
          refine V_iadd dX11_envy_68 ?_
          exact V_iret rfl (so_s hf) dX11_envy_69
set_option maxHeartbeats 4000000 in
set_option maxRecDepth 100000 in
theorem v_X11_envy_95 {E : EV} {d : Nat} (hd : 3 ≤ d) {r0 : Int32} {h0 : AH} {s0 : Int32} {h : AH} (hf : f_X11_envy_95 s0 h = some (r0, h0)) : V E (d + 1) K_X11_envy (ZI E r0 h0) h [] [.int s0] 95 := by
  unfold f_X11_envy_95 at hf
  exact V_iret rfl (so_s hf) dX11_envy_95
set_option maxHeartbeats 4000000 in
set_option maxRecDepth 100000 in
theorem v_X11_envy_21 {E : EV} {d : Nat} (hd : 3 ≤ d) {r0 : Int32} {h0 : AH} : ∀ (n : Nat) (k0 : Nat) (x1 : Int32) (x2 : Int32) (x3 : Int32) (h : AH), f_X11_envy_21 n k0 x1 x2 x3 h = some (r0, h0) → kd k0 = (0, 11) → V E (d + 1) K_X11_envy (ZI E r0 h0) h [(0, .ref k0), (1, .int x1), (2, .int x2), (3, .int x3)] [] 21 := by
  intro n
  induction n with
  | zero =>
    intro k0 x1 x2 x3 h hf
    rw [f_X11_envy_21] at hf
    cases hf
  | succ n ih =>
    intro k0 x1 x2 x3 h hf t_k0
    rw [f_X11_envy_21] at hf
    refine V_iload_n 3 dX11_envy_21 rfl rfl ?_
    refine V_aload_n 0 dX11_envy_22 rfl rfl ?_
    refine V_getR F_X11_19 rfl t_k0 rfl dX11_envy_23 ?_
    refine V_getI F_X11_144 rfl (rfO t_k0 (Nat.le_of_ble_eq_true rfl) rfl rfl) rfl dX11_envy_26 ?_
    refine V_ic_ge (tgt := 85) dX11_envy_29 (by decide) (fun c_1 => ?_) (fun c_1 => ?_)
    · have hf := it_s c_1 hf
      refine V_iload_n 1 dX11_envy_85 rfl rfl ?_
      refine V_iconst (v := (-1)) dX11_envy_86 (by decide) ?_
      refine V_ic_ne (tgt := 94) dX11_envy_87 (by decide) (fun c_2 => ?_) (fun c_2 => ?_)
      · have hf := if_s c_2 hf
        refine V_iconst (v := (-1)) dX11_envy_94 (by decide) ?_
        refine V_sub [] rfl ?_
        exact v_X11_envy_95 hd hf
      · have hf := it_s c_2 hf
        refine V_iload_n 2 dX11_envy_90 rfl rfl ?_
        refine V_goto (tgt := 95) dX11_envy_91 (by decide) ?_
        refine V_sub [] rfl ?_
        exact v_X11_envy_95 hd hf
    · have hf := if_s c_1 hf
      refine V_iconst (v := 0) dX11_envy_32 (by decide) ?_
      refine V_istore (L' := [(4, .int 0), (0, .ref k0), (1, .int x1), (2, .int x2), (3, .int x3)]) dX11_envy_33 (Nat.le_of_ble_eq_true rfl) rfl rfl ?_
      refine V_sub [1, 2, 3, 4, 0] rfl ?_
      exact v_X11_envy_35 hd ih FU _ _ _ _ _ _ hf t_k0
set_option maxHeartbeats 4000000 in
set_option maxRecDepth 100000 in
theorem c_X11_envy {E : EV} {d : Nat} (hd : 3 + 1 ≤ d) {k0 : Nat} {x1 : Int32} {h : AH} {r0 : Int32} {h0 : AH} (hf : f_X11_envy k0 x1 h = some (r0, h0)) (t_k0 : kd k0 = (0, 11)) : Con E d K_X11_envy (ZI E r0 h0) [.ref k0, .int x1] h := by
  obtain ⟨d, rfl⟩ : ∃ d', d = d' + 1 := ⟨d - 1, by omega⟩
  have hd := Nat.le_of_succ_le_succ hd
  refine Con.ofV rfl (Nat.le_of_ble_eq_true rfl) ?_
  unfold f_X11_envy at hf
  show V E (d + 1) K_X11_envy (ZI E r0 h0) h [(0, .ref k0), (1, .int x1)] [] 0
  refine V_aload_n 0 dX11_envy_0 rfl rfl ?_
  refine V_getR F_X11_19 rfl t_k0 rfl dX11_envy_1 ?_
  refine V_getI F_X11_144 rfl (rfO t_k0 (Nat.le_of_ble_eq_true rfl) rfl rfl) rfl dX11_envy_4 ?_
  refine V_if_eq (tgt := 15) dX11_envy_7 (by decide) (fun c_1 => ?_) (fun c_1 => ?_)
  · have hf := it_s c_1 hf
    refine V_sub [] rfl ?_
    exact v_X11_envy_15 hd hf
  · have hf := if_s c_1 hf
    refine V_iload_n 1 dX11_envy_10 rfl rfl ?_
    refine V_iconst (v := (-1)) dX11_envy_11 (by decide) ?_
    refine V_ic_ge (tgt := 17) dX11_envy_12 (by decide) (fun c_2 => ?_) (fun c_2 => ?_)
    · have hf := it_s c_2 hf
      refine V_iconst (v := 0) dX11_envy_17 (by decide) ?_
      refine V_istore_n (L' := [(2, .int 0), (0, .ref k0), (1, .int x1)]) dX11_envy_18 rfl (Nat.le_of_ble_eq_true rfl) rfl rfl ?_
      refine V_iconst (v := 0) dX11_envy_19 (by decide) ?_
      refine V_istore_n (L' := [(3, .int 0), (2, .int 0), (0, .ref k0), (1, .int x1)]) dX11_envy_20 rfl (Nat.le_of_ble_eq_true rfl) rfl rfl ?_
      refine V_sub [2, 3, 1, 0] rfl ?_
      exact v_X11_envy_21 hd FU _ _ _ _ _ hf t_k0
    · have hf := if_s c_2 hf
      refine V_sub [] rfl ?_
      exact v_X11_envy_15 hd hf
