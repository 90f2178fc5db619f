/-- what all of the law's calls must keep: the class answers as the reference does -/
def Good (P : AH → Prop) : Prop := G0 P ∧ G1 P ∧ G2 P ∧ G3 P ∧ G4 P ∧ G5 P ∧ G6 P ∧ G7 P ∧ G8 P ∧ G9 P ∧ G10 P ∧ G11 P ∧ G12 P ∧ G13 P ∧ G14 P ∧ G15 P ∧ G16 P ∧ G17 P ∧ G18 P ∧ G19 P ∧ G20 P ∧ G21 P ∧ G22 P ∧ G23 P ∧ G24 P ∧ G25 P ∧ G26 P ∧ G27 P ∧ G28 P ∧ G29 P ∧ G30 P ∧ G31 P ∧ G32 P
theorem ix_nI {j N : Nat} (h : j < N) (hN : N < 2 ^ 31) : ix (nI j) N = true := decide_eq_true (vp_in_nI h hN)
theorem lt_split {L i : Nat} (hL : L < 2 ^ 30) (hi : i < 2 ^ 30) (h : ¬ nI L - 6 < nI i) : i + 6 ≤ L := by
  have e : (nI L - nI 6).toInt = (L : Int) - (6 : Nat) := pk_sub_toInt hL (by decide)
  have e2 : (nI i).toInt = (i : Int) := nI_toInt (by omega)
  have h2 : ¬ (nI L - nI 6).toInt < (nI i).toInt := fun q => h (Int32.lt_iff_toInt_lt.mpr q)
  rw [e, e2] at h2
  omega
set_option maxHeartbeats 8000000 in
set_option maxRecDepth 100000 in
theorem law_loop {P : AH → Prop} (hG : Good P) {E : EV} {S0 : State} {b Ln : Nat} {xs : Nat → Int32} (hL : Ln ≤ 3072) (C0 : LCtx E S0 b Ln xs) : ∀ (n i : Nat) (x4 : Int32) (cs ss : Nat) (h : AH), i ≤ Ln → Ln + 1 ≤ i + n → x4 = nI i → cs ≤ 88 + i → ss ≤ 11897 + i → P h → VC E room_1 K_L S0 (AL S0) QFl (wld E h) (LL E b x4) [] cs ss 23 := by
  intro n
  induction n with
  | zero =>
    intro i x4 cs ss h h1 h2
    exact absurd h2 (by omega)
  | succ n ih =>
    intro i x4 cs ss h hi hin e4 hc hs hp
    refine C_iload 4 dL_law_23 rfl ?_
    refine C_aload_n 0 dL_law_25 rfl rfl ?_
    refine C_sle C0 dL_law_26 ?_
    refine C_bipush (v := 6) dL_law_27 (by decide) ?_
    refine C_isub dL_law_29 ?_
    refine C_ic_gt (tgt := 1622) dL_law_30 (by decide) (fun c1 => ?_) (fun c1 => ?_)
    · refine C_iconst (v := 1) dL_law_1622 (by decide) ?_
      exact L_end (by omega) (by omega) dL_law_1623
    · have h6 : i + 6 ≤ Ln := lt_split (by omega) (by omega) (by rw [← e4]; exact c1)
      have i0 : ix x4 Ln = true := by rw [e4]; exact ix_nI (by omega) (by omega)
      have i1 : ix (x4 + 1) Ln = true := by rw [e4, show (1 : Int32) = nI 1 from rfl, nI_add]; exact ix_nI (by omega) (by omega)
      have i2 : ix (x4 + 2) Ln = true := by rw [e4, show (2 : Int32) = nI 2 from rfl, nI_add]; exact ix_nI (by omega) (by omega)
      have i3 : ix (x4 + 3) Ln = true := by rw [e4, show (3 : Int32) = nI 3 from rfl, nI_add]; exact ix_nI (by omega) (by omega)
      have i4 : ix (x4 + 4) Ln = true := by rw [e4, show (4 : Int32) = nI 4 from rfl, nI_add]; exact ix_nI (by omega) (by omega)
      have i5 : ix (x4 + 5) Ln = true := by rw [e4, show (5 : Int32) = nI 5 from rfl, nI_add]; exact ix_nI (by omega) (by omega)
      have knext : ∀ (h2 : AH) (c2 s2 : Nat), c2 ≤ cs + 1 → s2 ≤ ss + 6 → P h2 → VC E room_1 K_L S0 (AL S0) QFl (wld E h2) (LL E b x4) [] c2 s2 1616 := by
        intro h2 c2 s2 q1 q2 q3
        refine C_iinc (x := x4 + 6) (a := 6) (L' := [(4, .int (x4 + 6)), (0, .ref b), (1, .ref (E.2.2.2 0)), (2, .ref (E.2.2.2 56)), (3, .ref (E.2.2.2 87))]) 4 dL_law_1616 rfl (by decide) (Nat.le_of_ble_eq_true rfl) rfl rfl ?_
        refine C_goto (tgt := 23) dL_law_1619 (by decide) ?_
        refine C_sub [1, 2, 3, 4, 0] rfl ?_
        exact ih (i + 6) (x4 + 6) c2 s2 h2 h6 (by omega) (by rw [e4, show (6 : Int32) = nI 6 from rfl, nI_add]) (by omega) (by omega) q3
      have hcs : cs ≤ 10000 := by omega
      have hss : ss ≤ 100000 := by omega
      obtain ⟨g0, g1, g2, g3, g4, g5, g6, g7, g8, g9, g10, g11, g12, g13, g14, g15, g16, g17, g18, g19, g20, g21, g22, g23, g24, g25, g26, g27, g28, g29, g30, g31, g32⟩ := hG
      refine C_aload_n 0 dL_law_33 rfl rfl ?_
      refine C_iload 4 dL_law_34 rfl ?_
      refine C_sld C0 i0 dL_law_36 ?_
      refine C_bipush (v := 63) dL_law_37 (by decide) ?_
      refine C_iand dL_law_39 ?_
      by_cases c_0 : xs x4.toNatClampNeg &&& 63 = 0
      · refine C_tin (off := 148) (tgt := 188) dL_law_40 c_0 (by decide) (by decide) (by decide) (by decide) ?_
        exact law_c0 C0 i1 i2 i3 i4 i5 hcs hss (g0 h hp _ _ _ _ _) knext
      by_cases c_1 : xs x4.toNatClampNeg &&& 63 = 1
      · refine C_tin (off := 221) (tgt := 261) dL_law_40 c_1 (by decide) (by decide) (by decide) (by decide) ?_
        exact law_c1 C0 i1 i2 i3 i4 i5 hcs hss (g1 h hp _) knext
      by_cases c_2 : xs x4.toNatClampNeg &&& 63 = 2
      · refine C_tin (off := 246) (tgt := 286) dL_law_40 c_2 (by decide) (by decide) (by decide) (by decide) ?_
        exact law_c2 C0 i1 i2 i3 i4 i5 hcs hss (g2 h hp _) knext
      by_cases c_3 : xs x4.toNatClampNeg &&& 63 = 3
      · refine C_tin (off := 271) (tgt := 311) dL_law_40 c_3 (by decide) (by decide) (by decide) (by decide) ?_
        exact law_c3 C0 i1 i2 i3 i4 i5 hcs hss (g3 h hp _) knext
      by_cases c_4 : xs x4.toNatClampNeg &&& 63 = 4
      · refine C_tin (off := 296) (tgt := 336) dL_law_40 c_4 (by decide) (by decide) (by decide) (by decide) ?_
        exact law_c4 C0 i1 i2 i3 i4 i5 hcs hss (g4 h hp _ _) knext
      by_cases c_5 : xs x4.toNatClampNeg &&& 63 = 5
      · refine C_tin (off := 364) (tgt := 404) dL_law_40 c_5 (by decide) (by decide) (by decide) (by decide) ?_
        exact law_c5 C0 i1 i2 i3 i4 i5 hcs hss (g5 h hp _ _) knext
      by_cases c_6 : xs x4.toNatClampNeg &&& 63 = 6
      · refine C_tin (off := 401) (tgt := 441) dL_law_40 c_6 (by decide) (by decide) (by decide) (by decide) ?_
        exact law_c6 C0 i1 i2 i3 i4 i5 hcs hss (g6 h hp _ _) knext
      by_cases c_7 : xs x4.toNatClampNeg &&& 63 = 7
      · refine C_tin (off := 438) (tgt := 478) dL_law_40 c_7 (by decide) (by decide) (by decide) (by decide) ?_
        exact law_c7 C0 i1 i2 i3 i4 i5 hcs hss (g7 h hp _ _) knext
      by_cases c_8 : xs x4.toNatClampNeg &&& 63 = 8
      · refine C_tin (off := 475) (tgt := 515) dL_law_40 c_8 (by decide) (by decide) (by decide) (by decide) ?_
        exact law_c8 C0 i1 i2 i3 i4 i5 hcs hss (g8 h hp _ _ _) knext
      by_cases c_9 : xs x4.toNatClampNeg &&& 63 = 9
      · refine C_tin (off := 524) (tgt := 564) dL_law_40 c_9 (by decide) (by decide) (by decide) (by decide) ?_
        exact law_c9 C0 i1 i2 i3 i4 i5 hcs hss (g9 h hp _ _ _ _) knext
      by_cases c_10 : xs x4.toNatClampNeg &&& 63 = 10
      · refine C_tin (off := 585) (tgt := 625) dL_law_40 c_10 (by decide) (by decide) (by decide) (by decide) ?_
        exact law_c10 C0 i1 i2 i3 i4 i5 hcs hss (g10 h hp _ _ _ _) knext
      by_cases c_11 : xs x4.toNatClampNeg &&& 63 = 11
      · refine C_tin (off := 646) (tgt := 686) dL_law_40 c_11 (by decide) (by decide) (by decide) (by decide) ?_
        exact law_c11 C0 i1 i2 i3 i4 i5 hcs hss (g11 h hp _ _ _) knext
      by_cases c_12 : xs x4.toNatClampNeg &&& 63 = 12
      · refine C_tin (off := 695) (tgt := 735) dL_law_40 c_12 (by decide) (by decide) (by decide) (by decide) ?_
        exact law_c12 C0 i1 i2 i3 i4 i5 hcs hss (g12 h hp _ _ _ _) knext
      by_cases c_13 : xs x4.toNatClampNeg &&& 63 = 13
      · refine C_tin (off := 756) (tgt := 796) dL_law_40 c_13 (by decide) (by decide) (by decide) (by decide) ?_
        exact law_c13 C0 i1 i2 i3 i4 i5 hcs hss (g13 h hp _ _ _ _ _) knext
      by_cases c_14 : xs x4.toNatClampNeg &&& 63 = 14
      · refine C_tin (off := 829) (tgt := 869) dL_law_40 c_14 (by decide) (by decide) (by decide) (by decide) ?_
        exact law_c14 C0 i1 i2 i3 i4 i5 hcs hss (g14 h hp _ _ _ _) knext
      by_cases c_15 : xs x4.toNatClampNeg &&& 63 = 15
      · refine C_tin (off := 890) (tgt := 930) dL_law_40 c_15 (by decide) (by decide) (by decide) (by decide) ?_
        exact law_c15 C0 i1 i2 i3 i4 i5 hcs hss (g15 h hp _ _) knext
      by_cases c_16 : xs x4.toNatClampNeg &&& 63 = 16
      · refine C_tin (off := 927) (tgt := 967) dL_law_40 c_16 (by decide) (by decide) (by decide) (by decide) ?_
        exact law_c16 C0 i1 i2 i3 i4 i5 hcs hss (g16 h hp _ _) knext
      by_cases c_17 : xs x4.toNatClampNeg &&& 63 = 17
      · refine C_tin (off := 996) (tgt := 1036) dL_law_40 c_17 (by decide) (by decide) (by decide) (by decide) ?_
        exact law_c17 C0 i1 i2 i3 i4 i5 hcs hss (g17 h hp _ _ _) knext
      by_cases c_18 : xs x4.toNatClampNeg &&& 63 = 18
      · refine C_tin (off := 1045) (tgt := 1085) dL_law_40 c_18 (by decide) (by decide) (by decide) (by decide) ?_
        exact law_c18 C0 i1 i2 i3 i4 i5 hcs hss (g18 h hp _ _ _ _ _) knext
      by_cases c_19 : xs x4.toNatClampNeg &&& 63 = 19
      · refine C_tin (off := 1118) (tgt := 1158) dL_law_40 c_19 (by decide) (by decide) (by decide) (by decide) ?_
        exact law_c19 C0 i1 i2 i3 i4 i5 hcs hss (g19 h hp _ _ _) knext
      by_cases c_20 : xs x4.toNatClampNeg &&& 63 = 20
      · refine C_tin (off := 1167) (tgt := 1207) dL_law_40 c_20 (by decide) (by decide) (by decide) (by decide) ?_
        exact law_c20 C0 i1 i2 i3 i4 i5 hcs hss (g20 h hp _ _ _) knext
      by_cases c_21 : xs x4.toNatClampNeg &&& 63 = 21
      · refine C_tin (off := 1216) (tgt := 1256) dL_law_40 c_21 (by decide) (by decide) (by decide) (by decide) ?_
        exact law_c21 C0 i1 i2 i3 i4 i5 hcs hss (g21 h hp) knext
      by_cases c_22 : xs x4.toNatClampNeg &&& 63 = 22
      · refine C_tin (off := 1229) (tgt := 1269) dL_law_40 c_22 (by decide) (by decide) (by decide) (by decide) ?_
        exact law_c22 C0 i1 i2 i3 i4 i5 hcs hss (g22 h hp _ _) knext
      by_cases c_23 : xs x4.toNatClampNeg &&& 63 = 23
      · refine C_tin (off := 1266) (tgt := 1306) dL_law_40 c_23 (by decide) (by decide) (by decide) (by decide) ?_
        exact law_c23 C0 i1 i2 i3 i4 i5 hcs hss (g23 h hp _ _ _) knext
      by_cases c_24 : xs x4.toNatClampNeg &&& 63 = 24
      · refine C_tin (off := 1315) (tgt := 1355) dL_law_40 c_24 (by decide) (by decide) (by decide) (by decide) ?_
        exact law_c24 C0 i1 i2 i3 i4 i5 hcs hss (g24 h hp _ _ _ _ _) knext
      by_cases c_25 : xs x4.toNatClampNeg &&& 63 = 25
      · refine C_tin (off := 1388) (tgt := 1428) dL_law_40 c_25 (by decide) (by decide) (by decide) (by decide) ?_
        exact law_c25 C0 i1 i2 i3 i4 i5 hcs hss (g25 h hp _ _ _) knext
      by_cases c_26 : xs x4.toNatClampNeg &&& 63 = 26
      · refine C_tin (off := 1437) (tgt := 1477) dL_law_40 c_26 (by decide) (by decide) (by decide) (by decide) ?_
        exact law_c26 C0 i1 i2 i3 i4 i5 hcs hss (g26 h hp _ _) knext
      by_cases c_27 : xs x4.toNatClampNeg &&& 63 = 27
      · refine C_tin (off := 1474) (tgt := 1514) dL_law_40 c_27 (by decide) (by decide) (by decide) (by decide) ?_
        exact law_c27 C0 i1 i2 i3 i4 i5 hcs hss (g27 h hp) knext
      by_cases c_28 : xs x4.toNatClampNeg &&& 63 = 28
      · refine C_tin (off := 1487) (tgt := 1527) dL_law_40 c_28 (by decide) (by decide) (by decide) (by decide) ?_
        exact law_c28 C0 i1 i2 i3 i4 i5 hcs hss (g28 h hp) knext
      by_cases c_29 : xs x4.toNatClampNeg &&& 63 = 29
      · refine C_tin (off := 1500) (tgt := 1540) dL_law_40 c_29 (by decide) (by decide) (by decide) (by decide) ?_
        exact law_c29 C0 i1 i2 i3 i4 i5 hcs hss (g29 h hp _) knext
      by_cases c_30 : xs x4.toNatClampNeg &&& 63 = 30
      · refine C_tin (off := 1525) (tgt := 1565) dL_law_40 c_30 (by decide) (by decide) (by decide) (by decide) ?_
        exact law_c30 C0 i1 i2 i3 i4 i5 hcs hss (g30 h hp) knext
      by_cases c_31 : xs x4.toNatClampNeg &&& 63 = 31
      · refine C_tin (off := 1538) (tgt := 1578) dL_law_40 c_31 (by decide) (by decide) (by decide) (by decide) ?_
        exact law_c31 C0 i1 i2 i3 i4 i5 hcs hss (g31 h hp) knext
      by_cases c_32 : xs x4.toNatClampNeg &&& 63 = 32
      · refine C_tin (off := 1551) (tgt := 1591) dL_law_40 c_32 (by decide) (by decide) (by decide) (by decide) ?_
        exact law_c32 C0 i1 i2 i3 i4 i5 hcs hss (g32 h hp _) knext
      have z0 := ne_ti (i := 0) c_0 (by decide)
      have z1 := ne_ti (i := 1) c_1 (by decide)
      have z2 := ne_ti (i := 2) c_2 (by decide)
      have z3 := ne_ti (i := 3) c_3 (by decide)
      have z4 := ne_ti (i := 4) c_4 (by decide)
      have z5 := ne_ti (i := 5) c_5 (by decide)
      have z6 := ne_ti (i := 6) c_6 (by decide)
      have z7 := ne_ti (i := 7) c_7 (by decide)
      have z8 := ne_ti (i := 8) c_8 (by decide)
      have z9 := ne_ti (i := 9) c_9 (by decide)
      have z10 := ne_ti (i := 10) c_10 (by decide)
      have z11 := ne_ti (i := 11) c_11 (by decide)
      have z12 := ne_ti (i := 12) c_12 (by decide)
      have z13 := ne_ti (i := 13) c_13 (by decide)
      have z14 := ne_ti (i := 14) c_14 (by decide)
      have z15 := ne_ti (i := 15) c_15 (by decide)
      have z16 := ne_ti (i := 16) c_16 (by decide)
      have z17 := ne_ti (i := 17) c_17 (by decide)
      have z18 := ne_ti (i := 18) c_18 (by decide)
      have z19 := ne_ti (i := 19) c_19 (by decide)
      have z20 := ne_ti (i := 20) c_20 (by decide)
      have z21 := ne_ti (i := 21) c_21 (by decide)
      have z22 := ne_ti (i := 22) c_22 (by decide)
      have z23 := ne_ti (i := 23) c_23 (by decide)
      have z24 := ne_ti (i := 24) c_24 (by decide)
      have z25 := ne_ti (i := 25) c_25 (by decide)
      have z26 := ne_ti (i := 26) c_26 (by decide)
      have z27 := ne_ti (i := 27) c_27 (by decide)
      have z28 := ne_ti (i := 28) c_28 (by decide)
      have z29 := ne_ti (i := 29) c_29 (by decide)
      have z30 := ne_ti (i := 30) c_30 (by decide)
      have z31 := ne_ti (i := 31) c_31 (by decide)
      have z32 := ne_ti (i := 32) c_32 (by decide)
      refine C_tout (tgt := 1616) dL_law_40 (by omega) (by decide) ?_
      exact knext h cs ss (Nat.le_succ _) (Nat.le_add_right _ _) hp
