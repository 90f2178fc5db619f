theorem dX11_person_0 : decode cX11_person 0 = .ok (.aload_n 0, 1) := by decide +kernel
theorem dX11_person_1 : decode cX11_person 1 = .ok (.iload_n 1, 1) := by decide +kernel
theorem dX11_person_2 : decode cX11_person 2 = .ok (.invokevirtual 151, 3) := by decide +kernel
theorem dX11_person_5 : decode cX11_person 5 = .ok (.ifCond .eq 17, 3) := by decide +kernel
theorem dX11_person_8 : decode cX11_person 8 = .ok (.iload_n 2, 1) := by decide +kernel
theorem dX11_person_9 : decode cX11_person 9 = .ok (.ifCond .lt 13, 3) := by decide +kernel
theorem dX11_person_12 : decode cX11_person 12 = .ok (.iload_n 2, 1) := by decide +kernel
theorem dX11_person_13 : decode cX11_person 13 = .ok (.getstatic 155, 3) := by decide +kernel
theorem dX11_person_16 : decode cX11_person 16 = .ok (.arraylength, 1) := by decide +kernel
theorem dX11_person_17 : decode cX11_person 17 = .ok (.iconst 1, 1) := by decide +kernel
theorem dX11_person_18 : decode cX11_person 18 = .ok (.iadd, 1) := by decide +kernel
theorem dX11_person_19 : decode cX11_person 19 = .ok (.if_icmp .le 11, 3) := by decide +kernel
theorem dX11_person_22 : decode cX11_person 22 = .ok (.new 159, 3) := by decide +kernel
theorem dX11_person_25 : decode cX11_person 25 = .ok (.dup, 1) := by decide +kernel
theorem dX11_person_26 : decode cX11_person 26 = .ok (.invokespecial 161, 3) := by decide +kernel
theorem dX11_person_29 : decode cX11_person 29 = .ok (.athrow, 1) := by decide +kernel
theorem dX11_person_30 : decode cX11_person 30 = .ok (.iload_n 2, 1) := by decide +kernel
theorem dX11_person_31 : decode cX11_person 31 = .ok (.getstatic 155, 3) := by decide +kernel
theorem dX11_person_34 : decode cX11_person 34 = .ok (.arraylength, 1) := by decide +kernel
theorem dX11_person_35 : decode cX11_person 35 = .ok (.if_icmp .ge 17, 3) := by decide +kernel
theorem dX11_person_38 : decode cX11_person 38 = .ok (.aload_n 0, 1) := by decide +kernel
theorem dX11_person_39 : decode cX11_person 39 = .ok (.getfield 19, 3) := by decide +kernel
theorem dX11_person_42 : decode cX11_person 42 = .ok (.iload_n 1, 1) := by decide +kernel
theorem dX11_person_43 : decode cX11_person 43 = .ok (.getstatic 155, 3) := by decide +kernel
theorem dX11_person_46 : decode cX11_person 46 = .ok (.iload_n 2, 1) := by decide +kernel
theorem dX11_person_47 : decode cX11_person 47 = .ok (.iaload, 1) := by decide +kernel
theorem dX11_person_48 : decode cX11_person 48 = .ok (.invokevirtual 162, 3) := by decide +kernel
theorem dX11_person_51 : decode cX11_person 51 = .ok (.ireturn, 1) := by decide +kernel
theorem dX11_person_52 : decode cX11_person 52 = .ok (.iload_n 2, 1) := by decide +kernel
theorem dX11_person_53 : decode cX11_person 53 = .ok (.getstatic 155, 3) := by decide +kernel
theorem dX11_person_56 : decode cX11_person 56 = .ok (.arraylength, 1) := by decide +kernel
theorem dX11_person_57 : decode cX11_person 57 = .ok (.if_icmp .ne 15, 3) := by decide +kernel
theorem dX11_person_60 : decode cX11_person 60 = .ok (.aload_n 0, 1) := by decide +kernel
theorem dX11_person_61 : decode cX11_person 61 = .ok (.getfield 45, 3) := by decide +kernel
theorem dX11_person_64 : decode cX11_person 64 = .ok (.getfield 166, 3) := by decide +kernel
theorem dX11_person_67 : decode cX11_person 67 = .ok (.iload_n 1, 1) := by decide +kernel
theorem dX11_person_68 : decode cX11_person 68 = .ok (.iaload, 1) := by decide +kernel
theorem dX11_person_69 : decode cX11_person 69 = .ok (.goto 12, 3) := by decide +kernel
theorem dX11_person_72 : decode cX11_person 72 = .ok (.aload_n 0, 1) := by decide +kernel
theorem dX11_person_73 : decode cX11_person 73 = .ok (.getfield 19, 3) := by decide +kernel
theorem dX11_person_76 : decode cX11_person 76 = .ok (.getfield 169, 3) := by decide +kernel
theorem dX11_person_79 : decode cX11_person 79 = .ok (.iload_n 1, 1) := by decide +kernel
theorem dX11_person_80 : decode cX11_person 80 = .ok (.iaload, 1) := by decide +kernel
theorem dX11_person_81 : decode cX11_person 81 = .ok (.ireturn, 1) := by decide +kernel
theorem S_X11_155 : SLk RX11 155 5 := ⟨by decide, Or.inl fl_X11_155⟩
def f_X11_person_22  (h : AH) : Option (Int32 × AH) :=
  none
def f_X11_person_81 (s0 : Int32) (h : AH) : Option (Int32 × AH) :=
  some (s0, h)
def f_X11_person (k0 : Nat) (x1 : Int32) (x2 : Int32) (h : AH) : Option (Int32 × AH) :=
  ob (f_X11_isKnown k0 x1 h) fun r_3 h_2 =>
  if r_3 = 0 then (
    f_X11_person_22 h_2
  ) else (
    if x2 < 0 then (
      f_X11_person_22 h_2
    ) else (
      if x2 ≤ (5 + 1) then (
        if 5 ≤ x2 then (
          if x2 = 5 then (
            og (ix x1 (an (rf (rf k0 6) 0))) <|
            f_X11_person_81 (h_2.1 (rf (rf k0 6) 0) x1.toNatClampNeg) h_2
          ) else (
            og (ix x1 (an (rf (rf k0 1) 1))) <|
            f_X11_person_81 (h_2.1 (rf (rf k0 1) 1) x1.toNatClampNeg) h_2
          )
        ) else (
          og (ix x2 (sN 5)) <|
          ob (f_X6_item (rf k0 1) x1 (sT 5 x2.toNatClampNeg) h_2) fun r_14 h_13 =>
          some (r_14, h_13)
        )
      ) else (
        f_X11_person_22 h_2
      )
    )
  )
set_option maxHeartbeats 4000000 in
set_option maxRecDepth 100000 in
theorem v_X11_person_22 {E : EV} {d : Nat} (hd : 1 ≤ d) {r0 : Int32} {h0 : AH}  {h : AH} (hf : f_X11_person_22 h = some (r0, h0)) : V E (d + 1) K_X11_person (ZI E r0 h0) h [] [] 22 := by
  unfold f_X11_person_22 at hf
  cases hf
set_option maxHeartbeats 4000000 in
set_option maxRecDepth 100000 in
theorem v_X11_person_81 {E : EV} {d : Nat} (hd : 1 ≤ d) {r0 : Int32} {h0 : AH} {s0 : Int32} {h : AH} (hf : f_X11_person_81 s0 h = some (r0, h0)) : V E (d + 1) K_X11_person (ZI E r0 h0) h [] [.int s0] 81 := by
  unfold f_X11_person_81 at hf
  exact V_iret rfl (so_s hf) dX11_person_81
set_option maxHeartbeats 4000000 in
set_option maxRecDepth 100000 in
theorem c_X11_person {E : EV} {d : Nat} (hd : 1 + 1 ≤ d) {k0 : Nat} {x1 : Int32} {x2 : Int32} {h : AH} {r0 : Int32} {h0 : AH} (hf : f_X11_person k0 x1 x2 h = some (r0, h0)) (t_k0 : kd k0 = (0, 11)) : Con E d K_X11_person (ZI E r0 h0) [.ref k0, .int x1, .int x2] h := by
  obtain ⟨d, rfl⟩ : ∃ d', d = d' + 1 := ⟨d - 1, by omega⟩
  have hd := Nat.le_of_succ_le_succ hd
  refine Con.ofV rfl (Nat.le_of_ble_eq_true rfl) ?_
  unfold f_X11_person at hf
  show V E (d + 1) K_X11_person (ZI E r0 h0) h [(0, .ref k0), (1, .int x1), (2, .int x2)] [] 0
  refine V_aload_n 0 dX11_person_0 rfl rfl ?_
  refine V_iload_n 1 dX11_person_1 rfl rfl ?_
  obtain ⟨r_3, h_2, e_1, hf⟩ := ob_s hf
  refine V_cvi (As := [.int x1]) (rest := []) (c_X11_isKnown (d := d) (Nat.le_trans (Nat.le_of_ble_eq_true rfl) hd) e_1 t_k0) ML_X11_151 MV_X11_isKnown rfl t_k0 rfl rfl (Nat.le_of_ble_eq_true rfl) dX11_person_2 ?_
  refine V_if_eq (tgt := 22) dX11_person_5 (by decide) (fun c_4 => ?_) (fun c_4 => ?_)
  · have hf := it_s c_4 hf
    refine V_sub [] rfl ?_
    exact v_X11_person_22 hd hf
  · have hf := if_s c_4 hf
    refine V_iload_n 2 dX11_person_8 rfl rfl ?_
    refine V_if_lt (tgt := 22) dX11_person_9 (by decide) (fun c_5 => ?_) (fun c_5 => ?_)
    · have hf := it_s c_5 hf
      refine V_sub [] rfl ?_
      exact v_X11_person_22 hd hf
    · have hf := if_s c_5 hf
      refine V_iload_n 2 dX11_person_12 rfl rfl ?_
      refine V_gets S_X11_155 rfl rfl dX11_person_13 ?_
      refine V_tlen (i := 5) (v := 5) (by decide) rfl (by decide) dX11_person_16 ?_
      refine V_iconst (v := 1) dX11_person_17 (by decide) ?_
      refine V_iadd dX11_person_18 ?_
      refine V_ic_le (tgt := 30) dX11_person_19 (by decide) (fun c_6 => ?_) (fun c_6 => ?_)
      · have hf := it_s c_6 hf
        refine V_iload_n 2 dX11_person_30 rfl rfl ?_
        refine V_gets S_X11_155 rfl rfl dX11_person_31 ?_
        refine V_tlen (i := 5) (v := 5) (by decide) rfl (by decide) dX11_person_34 ?_
        refine V_ic_ge (tgt := 52) dX11_person_35 (by decide) (fun c_7 => ?_) (fun c_7 => ?_)
        · have hf := it_s c_7 hf
          refine V_iload_n 2 dX11_person_52 rfl rfl ?_
          refine V_gets S_X11_155 rfl rfl dX11_person_53 ?_
          refine V_tlen (i := 5) (v := 5) (by decide) rfl (by decide) dX11_person_56 ?_
          refine V_ic_ne (tgt := 72) dX11_person_57 (by decide) (fun c_8 => ?_) (fun c_8 => ?_)
          · have hf := if_s c_8 hf
            refine V_aload_n 0 dX11_person_72 rfl rfl ?_
            refine V_getR F_X11_19 rfl t_k0 rfl dX11_person_73 ?_
            refine V_getR F_X11_169 rfl (rfO t_k0 (Nat.le_of_ble_eq_true rfl) rfl rfl) rfl dX11_person_76 ?_
            refine V_iload_n 1 dX11_person_79 rfl rfl ?_
            obtain ⟨b_9, hf⟩ := og_s hf
            refine V_iald (rfA (rfO t_k0 (Nat.le_of_ble_eq_true rfl) rfl rfl) (Nat.le_of_ble_eq_true rfl) rfl rfl (by decide)) b_9 dX11_person_80 ?_
            refine V_sub [] rfl ?_
            exact v_X11_person_81 hd hf
          · have hf := it_s c_8 hf
            refine V_aload_n 0 dX11_person_60 rfl rfl ?_
            refine V_getR F_X11_45 rfl t_k0 rfl dX11_person_61 ?_
            refine V_getR F_X11_166 rfl (rfO t_k0 (Nat.le_of_ble_eq_true rfl) rfl rfl) rfl dX11_person_64 ?_
            refine V_iload_n 1 dX11_person_67 rfl rfl ?_
            obtain ⟨b_10, hf⟩ := og_s hf
            refine V_iald (rfA (rfO t_k0 (Nat.le_of_ble_eq_true rfl) rfl rfl) (Nat.le_of_ble_eq_true rfl) rfl rfl (by decide)) b_10 dX11_person_68 ?_
            refine V_goto (tgt := 81) dX11_person_69 (by decide) ?_
            refine V_sub [] rfl ?_
            exact v_X11_person_81 hd hf
        · have hf := if_s c_7 hf
          refine V_aload_n 0 dX11_person_38 rfl rfl ?_
          refine V_getR F_X11_19 rfl t_k0 rfl dX11_person_39 ?_
          refine V_iload_n 1 dX11_person_42 rfl rfl ?_
          refine V_gets S_X11_155 rfl rfl dX11_person_43 ?_
          refine V_iload_n 2 dX11_person_46 rfl rfl ?_
          obtain ⟨b_11, hf⟩ := og_s hf
          refine V_tald (i := 5) (by decide) rfl b_11 dX11_person_47 ?_
          obtain ⟨r_14, h_13, e_12, hf⟩ := ob_s hf
          refine V_cvi (As := [.int x1, .int (sT 5 x2.toNatClampNeg)]) (rest := []) (c_X6_item (d := d) (Nat.le_trans (Nat.le_of_ble_eq_true rfl) hd) e_12 (rfO t_k0 (Nat.le_of_ble_eq_true rfl) rfl rfl)) ML_X11_162 MV_X6_item rfl (rfO t_k0 (Nat.le_of_ble_eq_true rfl) rfl rfl) rfl rfl (Nat.le_of_ble_eq_true rfl) dX11_person_48 ?_
          exact V_iret rfl (so_s hf) dX11_person_51
      · have hf := if_s c_6 hf
        refine V_sub [] rfl ?_
        exact v_X11_person_22 hd hf
/-! BestPair.person where it throws -/
def Apx (E : EV) (sz : Nat) : Nat → Prop := fun q => AA E q ∨ sz ≤ q
def QPx (E : EV) (h : AH) (sz : Nat) : QT := fun below args s => vx_MQ below (va_Qi (fun (_ : Int32) (_ : Unit) => False) (fun _ _ => True) (Apx E sz)) (vx_X (fun _ : Unit => True) (fun X _ t => X = nse ∧ va_P E.2.1 vwCl (wld E h) t.heap) (Apx E sz)) args s 1 6 (Apx E sz)
theorem nse_good : ∀ w ∈ nseL, goodWord w = true → w ∈ wAll := by
  have h : ∀ w ∈ nseL, goodWord w = true → w ∈ lw_tbl := by decide +kernel
  exact fun w hw hg => List.mem_filter.mpr ⟨h w hw hg, hg⟩
theorem cl_nse : Cond.classLink RX11 159 nse ∈ wAll := wAll_5 107 rfl rfl
theorem in_nse : Cond.initialized nse ∈ wAll := in_java_util_NoSuchElementException
theorem P_throw {E : EV} {d sz : Nat} {S0 : State} {h : AH} {L : List (Nat × Value)} (hd : 6 ≤ d) (hst : E.1.stackTraces = false) (hTW : TW S0) (hTZ : TZ (Apx E sz) S0 S0.heap) : VC E (rmC d 1 6) K_X11_person S0 (Apx E sz) (QPx E h sz) (wld E h) L [] 0 0 22 := by
  intro p e m args below meth c H locs ls C hP hD hS hl
  obtain ⟨c1, c2, c3, c4, c5, c6, c7, c8, c9, c10⟩ := id C
  have htab : c.exceptionTable.toList = [] := by rw [c9.2]; rfl
  refine vx_throw0 (p := p) (cc := cX11_person) (own := RX11) (cls := nse) (names := ["java/lang/RuntimeException", "java/lang/Exception"]) (ik := 159) (ic := 161) c1 c2 hst c5 (by decide +kernel) (by decide +kernel) (c6 _ cl_nse) (c6 _ in_nse) (fun w hw => ?_) (fun w hw => ?_) hTZ.1 hTZ.2 hS (hl.1.trans c4.symm) dX11_person_22 dX11_person_25 dX11_person_26 dX11_person_29 (fun x hx => by rw [htab] at hx; cases hx) ?_ ?_ (Nat.le_refl _) (Nat.le_refl _) c7 (fun t hal hsz hk => ?_) hS.2.2 (Nat.le_refl _) (Nat.le_refl _)
  · by_cases hg : goodWord w = true
    · exact c6 _ (nse_good w hw hg)
    · have hg : goodWord w = false := by simpa using hg
      rcases nse_form hw hg with ⟨a, b, rfl⟩ | ⟨x, rfl⟩
      · exact va_Nw.use rfl (hTW _ hw hg)
      · exact va_Nw.use rfl (hTW _ hw hg)
  · rcases List.mem_cons.mp hw with rfl | hw
    · rfl
    · rcases List.mem_cons.mp hw with rfl | hw
      · rfl
      · exact nse_ot w hw
  · show 2 + 3 < d
    omega
  · show 0 + (13 * 3 + 42) ≤ 40 * d
    omega
  · exact ⟨(), trivial, ⟨rfl, hP.kept (fun kk x hx => hk x.1 ((hP kk x hx).lt))⟩, Nat.le_trans hS.1 hsz, fun q h1 h2 => (hk q (Nat.lt_of_lt_of_le h1 hS.1)).trans (hS.2.1 q h1 h2)⟩
/-- no such PERSON, or nothing of that number to be told -/
def badP (x1 x2 : Int32) (h : AH) : Prop := f_X11_isKnown 0 x1 h = some (0, h) ∨ (f_X11_isKnown 0 x1 h = some (1, h) ∧ (x2 < 0 ∨ ¬ x2 ≤ 6))
def PcX (E : EV) (h : AH) (x1 x2 : Int32) (sz : Nat) : Array Value → State → Prop := va_Pc [.ref (E.2.2.2 0), .int x1, .int x2] (fun U => U.heap.size = sz ∧ va_P E.2.1 vwCl (wld E h) U.heap ∧ SKA E (Apx E sz) U U.heap ∧ TW U ∧ TZ (Apx E sz) U U.heap)
set_option maxHeartbeats 4000000 in
theorem px_walk {E : EV} {d sz : Nat} {S0 : State} {h : AH} {x1 x2 : Int32} (hd : 6 ≤ d) (hlv : 0 + 1 ≤ d) (hst : E.1.stackTraces = false) (hbad : badP x1 x2 h) (hSK : SKA E (Apx E sz) S0 S0.heap) (hTW : TW S0) (hTZ : TZ (Apx E sz) S0 S0.heap) : VC E (rmC d 1 6) K_X11_person S0 (Apx E sz) (QPx E h sz) (wld E h) [(0, .ref (E.2.2.2 0)), (1, .int x1), (2, .int x2)] [] 0 0 0 := by
  obtain ⟨d', rfl⟩ : ∃ d', d = d' + 1 := ⟨d - 1, by omega⟩
  have hAA : ∀ q, AA E q → Apx E sz q := fun q z => Or.inl z
  have hR : d' + 1 ≤ (rmC (d' + 1) 1 6).frames ∧ 8 + (K_X11_isKnown.2.2.1 + 11) + 40 * d' ≤ (rmC (d' + 1) 1 6).locals := ⟨Nat.le_refl _, by show 8 + (2 + 11) + 40 * d' ≤ 40 * (d' + 1); omega⟩
  refine C_aload_n 0 dX11_person_0 rfl rfl ?_
  refine C_iload_n 1 dX11_person_1 rfl rfl ?_
  rcases hbad with hb | ⟨hb, hx⟩
  · refine C_cvi (As := [.int x1]) (rest := []) hSK hAA (c_X11_isKnown (d := d') (by omega) hb rfl) ML_X11_151 MV_X11_isKnown rfl rfl rfl rfl (Nat.le_of_ble_eq_true rfl) hR ⟨Nat.zero_le _, Nat.zero_le _⟩ dX11_person_2 ?_
    refine C_if_eq (tgt := 22) dX11_person_5 (by decide) (fun c => ?_) (fun c => absurd rfl c)
    exact P_throw hd hst hTW hTZ
  · refine C_cvi (As := [.int x1]) (rest := []) hSK hAA (c_X11_isKnown (d := d') (by omega) hb rfl) ML_X11_151 MV_X11_isKnown rfl rfl rfl rfl (Nat.le_of_ble_eq_true rfl) hR ⟨Nat.zero_le _, Nat.zero_le _⟩ dX11_person_2 ?_
    refine C_if_eq (tgt := 22) dX11_person_5 (by decide) (fun c => absurd c (by decide)) (fun c => ?_)
    refine C_iload_n 2 dX11_person_8 rfl rfl ?_
    refine C_if_lt (tgt := 22) dX11_person_9 (by decide) (fun c => P_throw hd hst hTW hTZ) (fun c => ?_)
    refine C_iload_n 2 dX11_person_12 rfl rfl ?_
    refine C_gets (i := 5) hSK S_X11_155 fl_X11_155 rfl dX11_person_13 ?_
    refine C_tlen (i := 5) (v := 5) hSK (by decide) (by decide) dX11_person_16 ?_
    refine C_iconst (v := 1) dX11_person_17 (by decide) ?_
    refine C_iadd dX11_person_18 ?_
    refine C_ic_le (tgt := 30) dX11_person_19 (by decide) (fun c2 => ?_) (fun c2 => P_throw hd hst hTW hTZ)
    rcases hx with hx | hx
    · exact absurd hx c
    · exact absurd (show x2 ≤ 6 from c2) hx
theorem px_met {E : EV} {d : Nat} {h : AH} {x1 x2 : Int32} (hd : 6 ≤ d) (hlv : 0 + 1 ≤ d) (hst : E.1.stackTraces = false) (hbad : badP x1 x2 h) (sz : Nat) : vx_Met E.1 yX11_person (.code yX11_person cX11_person 3 (some .int) :: wAll) (rmC d 1 6) (PcX E h x1 x2 sz) (va_Qi (fun (_ : Int32) (_ : Unit) => False) (fun _ _ => True) (Apx E sz)) (vx_X (fun _ : Unit => True) (fun X _ t => X = nse ∧ va_P E.2.1 vwCl (wld E h) t.heap) (Apx E sz)) 1 6 (Apx E sz) := by
  refine vx_ofW (cc := cX11_person) (maxL := 3) (ret := some .int) (by decide) rfl ?_
  intro p e s m args below meth c s₁ B hml ht hv
  obtain ⟨rfl, hsz, hP, hSK, hTW, hTZ⟩ := hv
  have hts := atoms_spec (ws := .code yX11_person cX11_person 3 (some .int) :: wAll) B.pre
  have hown : s.vm.findClass RX11 = some m.cls := findClass_of_methodNamed B.named
  have hl := lv_entry [.ref (E.2.2.2 0), .int x1, .int x2] (n := 3) (Nat.le_of_ble_eq_true rfl)
  have htb : c.exceptionTable.toList = tbl yX11_person := by
    rw [code_tab B.named B.method (Stand.of_body B).code (hts _ List.mem_cons_self)]
    rfl
  rw [lg_entry_eq]
  exact px_walk hd hlv hst hbad hSK hTW hTZ p e m _ below meth c s.heap [] _ ⟨B.exec, B.bytes, B.returns, hml, hown, fun w hw => hts w (List.mem_cons_of_mem _ hw), B.notSynchronized, fun q hq => Or.inr (by rw [← hsz]; exact hq), ⟨fun z => absurd z (by decide), htb⟩, hSK.1⟩ hP ((wld_D hSK.2.1).weaken (fun _ _ _ z => Or.inl z)) va_S.rf hl
