theorem w_f_X12_areGuests_i56 (x1 : Int32) (h : AH) : Fm Prod.snd W_X12_areGuests_i56 h (f_X12_areGuests 56 x1 h) := by
  unfold f_X12_areGuests
  have a_h : Agr W_X12_areGuests_i56 h h := agr_refl h
  refine fm_ite ?_ ?_
  · exact w_f_X12_areGuests_18_i56  _ a_h
  · refine fm_ite ?_ ?_
    · exact w_f_X12_areGuests_18_i56  _ a_h
    · exact w_f_X12_areGuests_19_i56  _ _ a_h
theorem w_f_X12_isVisit_i56 (x1 : Int32) (x2 : Int32) (h : AH) : Fm Prod.snd W_X12_isVisit_i56 h (f_X12_isVisit 56 x1 x2 h) := by
  unfold f_X12_isVisit
  have a_h : Agr W_X12_isVisit_i56 h h := agr_refl h
  refine fm_ite ?_ ?_
  · exact w_f_X12_isVisit_26_i56  _ a_h
  · refine fm_ob (w_f_X12_isHouse _ _) rfl a_h (fun r_4 h_3 a_h_3 => ?_)
    refine fm_ite ?_ ?_
    · exact w_f_X12_isVisit_26_i56  _ a_h_3
    · refine fm_ob (w_f_X12_areGuests_i56 _ _) rfl a_h_3 (fun r_8 h_7 a_h_7 => ?_)
      refine fm_ite ?_ ?_
      · exact w_f_X12_isVisit_26_i56  _ a_h_7
      · exact w_f_X12_isVisit_27_i56  _ _ a_h_7
def W_X12_evening_i56 : List (Nat × Nat) := (56, 0) :: (56, 8) :: (56, 9) :: (56, 10) :: (56, 11) :: (56, 12) :: (56, 13) :: (56, 14) :: (56, 18) :: (56, 29) :: (56, 30) :: (56, 32) :: (60, 1000) :: (62, 1000) :: (63, 1000) :: (65, 1000) :: (67, 1000) :: (68, 1000) :: (69, 1000) :: (201, 0) :: []
theorem w_f_X12_evening_23_i56 {h0 : AH} : ∀ (h : AH), Agr W_X12_evening_i56 h0 h → Fm Prod.snd W_X12_evening_i56 h0 (f_X12_evening_23 h) := by
  intro h a_h
  unfold f_X12_evening_23
  exact fm_some a_h
def W_X12_layOrder_i56 : List (Nat × Nat) := (56, 29) :: (67, 1000) :: []
theorem w_f_X12_layOrder_130_i56 {h0 : AH} : ∀ (s0 : Int32) (h : AH), Agr W_X12_layOrder_i56 h0 h → Fm Prod.snd W_X12_layOrder_i56 h0 (f_X12_layOrder_130 s0 h) := by
  intro s0 h a_h
  unfold f_X12_layOrder_130
  refine fm_og (fun hb1 => ?_)
  exact fm_some a_h
theorem w_f_X12_layOrder_99_i56 {h0 : AH} : ∀ (h : AH), Agr W_X12_layOrder_i56 h0 h → Fm Prod.snd W_X12_layOrder_i56 h0 (f_X12_layOrder_99 h) := by
  intro h a_h
  unfold f_X12_layOrder_99
  exact fm_some a_h
theorem w_f_X12_layOrder_21_i56 {h0 : AH} : ∀ (n : Nat) (x1 : Int32) (x3 : Int32) (x4 : Int32) (x5 : Int32) (h : AH), Agr W_X12_layOrder_i56 h0 h → Fm Prod.snd W_X12_layOrder_i56 h0 (f_X12_layOrder_21 n 56 x1 x3 x4 x5 h) := by
  intro n
  induction n with
  | zero => intro x1 x3 x4 x5 h _; exact fm_none
  | succ n ih =>
    intro x1 x3 x4 x5 h a_h
    rw [f_X12_layOrder_21]
    refine fm_ite ?_ ?_
    · refine fm_ite ?_ ?_
      · exact w_f_X12_layOrder_130_i56  _ _ a_h
      · exact w_f_X12_layOrder_130_i56  _ _ a_h
    · refine fm_og (fun hb1 => ?_)
      refine fm_nh (agr_sI a_h rfl) (fun h_4 a_h_4 => ?_)
      refine fm_nm (fun x3_6 => ?_)
      refine fm_ite ?_ ?_
      · exact w_f_X12_layOrder_99_i56  _ a_h_4
      · refine fm_og (fun hb2 => ?_)
        refine fm_ite ?_ ?_
        · exact w_f_X12_layOrder_99_i56  _ a_h_4
        · refine fm_og (fun hb3 => ?_)
          refine fm_ite ?_ ?_
          · exact w_f_X12_layOrder_99_i56  _ a_h_4
          · refine fm_og (fun hb4 => ?_)
            refine fm_ob (w_f_X12_has _ _ _) rfl a_h_4 (fun r_16 h_15 a_h_15 => ?_)
            refine fm_ite ?_ ?_
            · exact w_f_X12_layOrder_99_i56  _ a_h_15
            · refine fm_og (fun hb5 => ?_)
              refine fm_ob (w_f_X12_has _ _ _) rfl a_h_15 (fun r_21 h_20 a_h_20 => ?_)
              refine fm_ite ?_ ?_
              · refine fm_og (fun hb6 => ?_)
                refine fm_nm (fun x4_24 => ?_)
                refine fm_nm (fun x5_26 => ?_)
                exact ih _ _ _ _ _ a_h_20
              · exact w_f_X12_layOrder_99_i56  _ a_h_20
theorem w_f_X12_layOrder_i56 (x1 : Int32) (x2 : Int32) (h : AH) : Fm Prod.snd W_X12_layOrder_i56 h (f_X12_layOrder 56 x1 x2 h) := by
  unfold f_X12_layOrder
  have a_h : Agr W_X12_layOrder_i56 h h := agr_refl h
  refine fm_ob (w_f_J6_bitCount_0f7a4 _ _) rfl a_h (fun r_3 h_2 a_h_2 => ?_)
  refine fm_nh (agr_sI a_h_2 rfl) (fun h_4 a_h_4 => ?_)
  refine fm_nm (fun x5_6 => ?_)
  exact w_f_X12_layOrder_21_i56  FU _ _ _ _ _ a_h_4
def W_X12_doorOf_i56 : List (Nat × Nat) := []
theorem w_f_X12_doorOf_61_i56 {h0 : AH} {q5 : Nat → Int32 → Int32 → Int32 → Int32 → AH → Option (Int32 × AH)} (hq5 : ∀ (y1 : Int32) (y2 : Int32) (y3 : Int32) (y4 : Int32) (y5 : AH), Agr W_X12_doorOf_i56 h0 y5 → Fm Prod.snd W_X12_doorOf_i56 h0 (q5 56 y1 y2 y3 y4 y5)) : ∀ (x1 : Int32) (x2 : Int32) (x3 : Int32) (x4 : Int32) (h : AH), Agr W_X12_doorOf_i56 h0 h → Fm Prod.snd W_X12_doorOf_i56 h0 (f_X12_doorOf_61 q5 56 x1 x2 x3 x4 h) := by
  intro x1 x2 x3 x4 h a_h
  unfold f_X12_doorOf_61
  refine fm_nm (fun x4_1 => ?_)
  exact hq5 _ _ _ _ _ a_h
theorem w_f_X12_doorOf_54_i56 {h0 : AH} {q5 : Nat → Int32 → Int32 → Int32 → Int32 → AH → Option (Int32 × AH)} (hq5 : ∀ (y1 : Int32) (y2 : Int32) (y3 : Int32) (y4 : Int32) (y5 : AH), Agr W_X12_doorOf_i56 h0 y5 → Fm Prod.snd W_X12_doorOf_i56 h0 (q5 56 y1 y2 y3 y4 y5)) : ∀ (x1 : Int32) (x2 : Int32) (x3 : Int32) (x4 : Int32) (h : AH), Agr W_X12_doorOf_i56 h0 h → Fm Prod.snd W_X12_doorOf_i56 h0 (f_X12_doorOf_54 q5 56 x1 x2 x3 x4 h) := by
  intro x1 x2 x3 x4 h a_h
  unfold f_X12_doorOf_54
  refine fm_nm (fun x3_1 => ?_)
  exact w_f_X12_doorOf_61_i56 hq5 _ _ _ _ _ a_h
theorem w_f_X12_doorOf_5_i56 {h0 : AH} : ∀ (n : Nat) (x1 : Int32) (x2 : Int32) (x3 : Int32) (x4 : Int32) (h : AH), Agr W_X12_doorOf_i56 h0 h → Fm Prod.snd W_X12_doorOf_i56 h0 (f_X12_doorOf_5 n 56 x1 x2 x3 x4 h) := by
  intro n
  induction n with
  | zero => intro x1 x2 x3 x4 h _; exact fm_none
  | succ n ih =>
    intro x1 x2 x3 x4 h a_h
    rw [f_X12_doorOf_5]
    refine fm_ite ?_ ?_
    · exact fm_some a_h
    · refine fm_og (fun hb1 => ?_)
      refine fm_ite ?_ ?_
      · exact w_f_X12_doorOf_54_i56 (fun y0 y1 y2 y3 y4 a => ih y0 y1 y2 y3 y4 a) _ _ _ _ _ a_h
      · refine fm_og (fun hb2 => ?_)
        refine fm_ite ?_ ?_
        · exact w_f_X12_doorOf_61_i56 (fun y0 y1 y2 y3 y4 a => ih y0 y1 y2 y3 y4 a) _ _ _ _ _ a_h
        · refine fm_og (fun hb3 => ?_)
          refine fm_ob (w_f_X12_has _ _ _) rfl a_h (fun r_9 h_8 a_h_8 => ?_)
          refine fm_ite ?_ ?_
          · exact w_f_X12_doorOf_61_i56 (fun y0 y1 y2 y3 y4 a => ih y0 y1 y2 y3 y4 a) _ _ _ _ _ a_h_8
          · exact w_f_X12_doorOf_54_i56 (fun y0 y1 y2 y3 y4 a => ih y0 y1 y2 y3 y4 a) _ _ _ _ _ a_h_8
theorem w_f_X12_doorOf_i56 (x1 : Int32) (x2 : Int32) (h : AH) : Fm Prod.snd W_X12_doorOf_i56 h (f_X12_doorOf 56 x1 x2 h) := by
  unfold f_X12_doorOf
  have a_h : Agr W_X12_doorOf_i56 h h := agr_refl h
  exact w_f_X12_doorOf_5_i56  FU _ _ _ _ _ a_h
def W_X12_takesOf_i56 : List (Nat × Nat) := (56, 8) :: (56, 9) :: (56, 10) :: (56, 11) :: (56, 12) :: (56, 13) :: (56, 14) :: (56, 18) :: (60, 1000) :: (201, 0) :: []
theorem w_f_X12_takesOf_79_i56 {h0 : AH} {q8 : Nat → Int32 → Int32 → Int32 → Int32 → Int32 → AH → Option (Int32 × AH)} (hq8 : ∀ (y1 : Int32) (y2 : Int32) (y3 : Int32) (y4 : Int32) (y5 : Int32) (y6 : AH), Agr W_X12_takesOf_i56 h0 y6 → Fm Prod.snd W_X12_takesOf_i56 h0 (q8 56 y1 y2 y3 y4 y5 y6)) : ∀ (x1 : Int32) (x2 : Int32) (x3 : Int32) (x4 : Int32) (x5 : Int32) (h : AH), Agr W_X12_takesOf_i56 h0 h → Fm Prod.snd W_X12_takesOf_i56 h0 (f_X12_takesOf_79 q8 56 x1 x2 x3 x4 x5 h) := by
  intro x1 x2 x3 x4 x5 h a_h
  unfold f_X12_takesOf_79
  refine fm_nm (fun x5_1 => ?_)
  exact hq8 _ _ _ _ _ _ a_h
def W_X12_liking_i56 : List (Nat × Nat) := (56, 8) :: (56, 9) :: (56, 10) :: (56, 11) :: (56, 12) :: (56, 13) :: (56, 14) :: (56, 18) :: (60, 1000) :: (201, 0) :: []
theorem w_f_X12_liking_31_i56 {h0 : AH} : ∀ (s0 : Int32) (h : AH), Agr W_X12_liking_i56 h0 h → Fm Prod.snd W_X12_liking_i56 h0 (f_X12_liking_31 s0 h) := by
  intro s0 h a_h
  unfold f_X12_liking_31
  exact fm_some a_h
def W_X12_opens_i56_58 : List (Nat × Nat) := (56, 8) :: (56, 9) :: (56, 10) :: (56, 11) :: (201, 0) :: []
theorem w_f_X12_opens_i56_58 (x2 : Int32) (x3 : Int32) (h : AH) : Fm id W_X12_opens_i56_58 h (f_X12_opens 56 58 x2 x3 h) := by
  unfold f_X12_opens
  have a_h : Agr W_X12_opens_i56_58 h h := agr_refl h
  refine fm_nh (agr_sR a_h rfl) (fun h_1 a_h_1 => ?_)
  refine fm_nh (agr_sI a_h_1 rfl) (fun h_3 a_h_3 => ?_)
  refine fm_nh (agr_sI a_h_3 rfl) (fun h_5 a_h_5 => ?_)
  refine fm_nh (agr_sI a_h_5 rfl) (fun h_7 a_h_7 => ?_)
  refine fm_nh (agr_sI a_h_7 rfl) (fun h_9 a_h_9 => ?_)
  exact fm_some a_h_9
def W_X12_goThrough_i56_58 : List (Nat × Nat) := (56, 8) :: (56, 9) :: (56, 10) :: (56, 11) :: (56, 12) :: (56, 13) :: (56, 14) :: (56, 18) :: (201, 0) :: []
theorem w_f_X12_goThrough_87_i56_58 {h0 : AH} : ∀ (h : AH), Agr W_X12_goThrough_i56_58 h0 h → Fm id W_X12_goThrough_i56_58 h0 (f_X12_goThrough_87 h) := by
  intro h a_h
  unfold f_X12_goThrough_87
  exact fm_some a_h
theorem w_f_X12_goThrough_66_i56_58 {h0 : AH} : ∀ (h : AH), Agr W_X12_goThrough_i56_58 h0 h → Fm id W_X12_goThrough_i56_58 h0 (f_X12_goThrough_66 56 h) := by
  intro h a_h
  unfold f_X12_goThrough_66
  refine fm_ite ?_ ?_
  · refine fm_ob (w_f_X12_look_i56 _) rfl a_h (fun r_4 h_3 a_h_3 => ?_)
    refine fm_ite ?_ ?_
    · exact w_f_X12_goThrough_87_i56_58  _ a_h_3
    · refine fm_ob (w_f_X12_fails_i56 _) rfl a_h_3 (fun r_8 h_7 a_h_7 => ?_)
      exact w_f_X12_goThrough_87_i56_58  _ a_h_7
  · exact w_f_X12_goThrough_87_i56_58  _ a_h
theorem w_f_X12_goThrough_32_i56_58 {h0 : AH} : ∀ (n : Nat) (h : AH), Agr W_X12_goThrough_i56_58 h0 h → Fm id W_X12_goThrough_i56_58 h0 (f_X12_goThrough_32 n 56 h) := by
  intro n
  induction n with
  | zero => intro h _; exact fm_none
  | succ n ih =>
    intro h a_h
    rw [f_X12_goThrough_32]
    refine fm_ite ?_ ?_
    · refine fm_ob (w_f_X12_look_i56 _) rfl a_h (fun r_4 h_3 a_h_3 => ?_)
      refine fm_ite ?_ ?_
      · refine fm_nh (agr_sI a_h_3 rfl) (fun h_6 a_h_6 => ?_)
        refine fm_ov (w_f_X12_clause_i56 _) rfl a_h_6 (fun h_9 a_h_9 => ?_)
        exact ih _ a_h_9
      · exact w_f_X12_goThrough_66_i56_58  _ a_h_3
    · exact w_f_X12_goThrough_66_i56_58  _ a_h
theorem w_f_X12_goThrough_i56_58 (x2 : Int32) (x3 : Int32) (h : AH) : Fm id W_X12_goThrough_i56_58 h (f_X12_goThrough 56 58 x2 x3 h) := by
  unfold f_X12_goThrough
  have a_h : Agr W_X12_goThrough_i56_58 h h := agr_refl h
  refine fm_ov (w_f_X12_opens_i56_58 _ _ _) rfl a_h (fun h_2 a_h_2 => ?_)
  refine fm_nh (agr_sI a_h_2 rfl) (fun h_3 a_h_3 => ?_)
  refine fm_nh (agr_sI a_h_3 rfl) (fun h_5 a_h_5 => ?_)
  refine fm_nh (agr_sI a_h_5 rfl) (fun h_7 a_h_7 => ?_)
  refine fm_nh (agr_sI a_h_7 rfl) (fun h_9 a_h_9 => ?_)
  refine fm_ov (w_f_X12_clause_i56 _) rfl a_h_9 (fun h_12 a_h_12 => ?_)
  exact w_f_X12_goThrough_32_i56_58  FU _ a_h_12
theorem w_f_X12_liking_94_i56 {h0 : AH} : ∀ (x1 : Int32) (x2 : Int32) (x3 : Int32) (s0 : Int32) (s1 : Int32) (h : AH), Agr W_X12_liking_i56 h0 h → Fm Prod.snd W_X12_liking_i56 h0 (f_X12_liking_94 56 x1 x2 x3 s0 s1 60 h) := by
  intro x1 x2 x3 s0 s1 h a_h
  unfold f_X12_liking_94
  refine fm_og (fun hb1 => ?_)
  refine fm_nh (agr_sI a_h rfl) (fun h_2 a_h_2 => ?_)
  refine fm_ob (w_f_J6_bitCount_0f7a4 _ _) rfl a_h_2 (fun r_6 h_5 a_h_5 => ?_)
  refine fm_og (fun hb2 => ?_)
  refine fm_nh (agr_sI a_h_5 rfl) (fun h_8 a_h_8 => ?_)
  refine fm_og (fun hb3 => ?_)
  refine fm_nh (agr_sI a_h_8 rfl) (fun h_11 a_h_11 => ?_)
  refine fm_og (fun hb4 => ?_)
  refine fm_og (fun hb5 => ?_)
  refine fm_og (fun hb6 => ?_)
  refine fm_ov (w_f_X12_goThrough_i56_58 _ _ _) rfl a_h_11 (fun h_17 a_h_17 => ?_)
  exact fm_some a_h_17
theorem w_f_X12_liking_i56 (x1 : Int32) (x2 : Int32) (x3 : Int32) (h : AH) : Fm Prod.snd W_X12_liking_i56 h (f_X12_liking 56 x1 x2 x3 h) := by
  unfold f_X12_liking
  have a_h : Agr W_X12_liking_i56 h h := agr_refl h
  refine fm_og (fun hb1 => ?_)
  refine fm_ite ?_ ?_
  · refine fm_ob (w_f_X12_doesFit_i56 _ _ _) rfl a_h (fun r_23 h_22 a_h_22 => ?_)
    refine fm_ite ?_ ?_
    · exact w_f_X12_liking_31_i56  _ _ a_h_22
    · refine fm_og (fun hb2 => ?_)
      exact w_f_X12_liking_31_i56  _ _ a_h_22
  · refine fm_og (fun hb3 => ?_)
    refine fm_og (fun hb4 => ?_)
    refine fm_nh (agr_sI a_h rfl) (fun h_5 a_h_5 => ?_)
    refine fm_og (fun hb5 => ?_)
    refine fm_ob (w_f_X12_partOf_i56 _ _ _) rfl a_h_5 (fun r_10 h_9 a_h_9 => ?_)
    refine fm_og (fun hb6 => ?_)
    refine fm_nh (agr_sI a_h_9 rfl) (fun h_12 a_h_12 => ?_)
    refine fm_ob (w_f_X12_partOf_i56 _ _ _) rfl a_h_12 (fun r_16 h_15 a_h_15 => ?_)
    refine fm_og (fun hb7 => ?_)
    refine fm_nh (agr_sI a_h_15 rfl) (fun h_18 a_h_18 => ?_)
    refine fm_ite ?_ ?_
    · exact w_f_X12_liking_94_i56  _ _ _ _ _ _ a_h_18
    · exact w_f_X12_liking_94_i56  _ _ _ _ _ _ a_h_18
theorem w_f_X12_takesOf_72_i56 {h0 : AH} {q8 : Nat → Int32 → Int32 → Int32 → Int32 → Int32 → AH → Option (Int32 × AH)} (hq8 : ∀ (y1 : Int32) (y2 : Int32) (y3 : Int32) (y4 : Int32) (y5 : Int32) (y6 : AH), Agr W_X12_takesOf_i56 h0 y6 → Fm Prod.snd W_X12_takesOf_i56 h0 (q8 56 y1 y2 y3 y4 y5 y6)) : ∀ (x1 : Int32) (x2 : Int32) (x5 : Int32) (x6 : Int32) (h : AH), Agr W_X12_takesOf_i56 h0 h → Fm Prod.snd W_X12_takesOf_i56 h0 (f_X12_takesOf_72 q8 56 x1 x2 x5 x6 h) := by
  intro x1 x2 x5 x6 h a_h
  unfold f_X12_takesOf_72
  exact w_f_X12_takesOf_79_i56 hq8 _ _ _ _ _ _ a_h
theorem w_f_X12_takesOf_8_i56 {h0 : AH} : ∀ (n : Nat) (x1 : Int32) (x2 : Int32) (x3 : Int32) (x4 : Int32) (x5 : Int32) (h : AH), Agr W_X12_takesOf_i56 h0 h → Fm Prod.snd W_X12_takesOf_i56 h0 (f_X12_takesOf_8 n 56 x1 x2 x3 x4 x5 h) := by
  intro n
  induction n with
  | zero => intro x1 x2 x3 x4 x5 h _; exact fm_none
  | succ n ih =>
    intro x1 x2 x3 x4 x5 h a_h
    rw [f_X12_takesOf_8]
    refine fm_ite ?_ ?_
    · exact fm_some a_h
    · refine fm_ob (w_f_X12_has _ _ _) rfl a_h (fun r_4 h_3 a_h_3 => ?_)
      refine fm_ite ?_ ?_
      · exact w_f_X12_takesOf_79_i56 (fun y0 y1 y2 y3 y4 y5 a => ih y0 y1 y2 y3 y4 y5 a) _ _ _ _ _ _ a_h_3
      · refine fm_ob (w_f_X12_liking_i56 _ _ _ _) rfl a_h_3 (fun r_8 h_7 a_h_7 => ?_)
        refine fm_ite ?_ ?_
        · exact w_f_X12_takesOf_79_i56 (fun y0 y1 y2 y3 y4 y5 a => ih y0 y1 y2 y3 y4 y5 a) _ _ _ _ _ _ a_h_7
        · refine fm_ite ?_ ?_
          · exact w_f_X12_takesOf_72_i56 (fun y0 y1 y2 y3 y4 y5 a => ih y0 y1 y2 y3 y4 y5 a) _ _ _ _ _ a_h_7
          · refine fm_ite ?_ ?_
            · exact w_f_X12_takesOf_79_i56 (fun y0 y1 y2 y3 y4 y5 a => ih y0 y1 y2 y3 y4 y5 a) _ _ _ _ _ _ a_h_7
            · refine fm_ite ?_ ?_
              · refine fm_ite ?_ ?_
                · exact w_f_X12_takesOf_72_i56 (fun y0 y1 y2 y3 y4 y5 a => ih y0 y1 y2 y3 y4 y5 a) _ _ _ _ _ a_h_7
                · exact w_f_X12_takesOf_79_i56 (fun y0 y1 y2 y3 y4 y5 a => ih y0 y1 y2 y3 y4 y5 a) _ _ _ _ _ _ a_h_7
              · exact w_f_X12_takesOf_72_i56 (fun y0 y1 y2 y3 y4 y5 a => ih y0 y1 y2 y3 y4 y5 a) _ _ _ _ _ a_h_7
theorem w_f_X12_takesOf_i56 (x1 : Int32) (x2 : Int32) (h : AH) : Fm Prod.snd W_X12_takesOf_i56 h (f_X12_takesOf 56 x1 x2 h) := by
  unfold f_X12_takesOf
  have a_h : Agr W_X12_takesOf_i56 h h := agr_refl h
  exact w_f_X12_takesOf_8_i56  FU _ _ _ _ _ _ a_h
def W_X12_go_i56 : List (Nat × Nat) := (56, 8) :: (56, 9) :: (56, 10) :: (56, 11) :: (56, 12) :: (56, 13) :: (56, 14) :: (56, 18) :: (56, 30) :: (60, 1000) :: (68, 1000) :: (201, 0) :: []
theorem w_f_X12_go_66_i56 {h0 : AH} {q7 : Nat → Int32 → AH → Option AH} (hq7 : ∀ (y1 : Int32) (y2 : AH), Agr W_X12_go_i56 h0 y2 → Fm id W_X12_go_i56 h0 (q7 56 y1 y2)) : ∀ (x2 : Int32) (h : AH), Agr W_X12_go_i56 h0 h → Fm id W_X12_go_i56 h0 (f_X12_go_66 q7 56 x2 h) := by
  intro x2 h a_h
  unfold f_X12_go_66
  refine fm_nm (fun x2_1 => ?_)
  exact hq7 _ _ a_h
theorem w_f_X12_go_7_i56 {h0 : AH} : ∀ (n : Nat) (x2 : Int32) (h : AH), Agr W_X12_go_i56 h0 h → Fm id W_X12_go_i56 h0 (f_X12_go_7 n 56 x2 h) := by
  intro n
  induction n with
  | zero => intro x2 h _; exact fm_none
  | succ n ih =>
    intro x2 h a_h
    rw [f_X12_go_7]
    refine fm_ite ?_ ?_
    · exact fm_some a_h
    · refine fm_og (fun hb1 => ?_)
      refine fm_nm (fun x3_3 => ?_)
      refine fm_ob (w_f_X12_takesOf_i56 _ _ _) rfl a_h (fun r_7 h_6 a_h_6 => ?_)
      refine fm_og (fun hb2 => ?_)
      refine fm_nh (agr_sI a_h_6 rfl) (fun h_9 a_h_9 => ?_)
      refine fm_og (fun hb3 => ?_)
      refine fm_ite ?_ ?_
      · exact w_f_X12_go_66_i56 (fun y0 y1 a => ih y0 y1 a) _ _ a_h_9
      · refine fm_og (fun hb4 => ?_)
        refine fm_nh (agr_sI a_h_9 rfl) (fun h_14 a_h_14 => ?_)
        exact w_f_X12_go_66_i56 (fun y0 y1 a => ih y0 y1 a) _ _ a_h_14
theorem w_f_X12_go_i56 (x1 : Int32) (h : AH) : Fm id W_X12_go_i56 h (f_X12_go 56 x1 h) := by
  unfold f_X12_go
  have a_h : Agr W_X12_go_i56 h h := agr_refl h
  refine fm_nh (agr_sI a_h rfl) (fun h_1 a_h_1 => ?_)
  exact w_f_X12_go_7_i56  FU _ _ a_h_1
def W_X12_visits_i56 : List (Nat × Nat) := (56, 8) :: (56, 9) :: (56, 10) :: (56, 11) :: (56, 12) :: (56, 13) :: (56, 14) :: (56, 18) :: (56, 30) :: (56, 32) :: (60, 1000) :: (62, 1000) :: (63, 1000) :: (65, 1000) :: (68, 1000) :: (69, 1000) :: (201, 0) :: []
theorem w_f_X12_visits_156_i56 {h0 : AH} : ∀ (n : Nat) (x3 : Int32) (h : AH), Agr W_X12_visits_i56 h0 h → Fm id W_X12_visits_i56 h0 (f_X12_visits_156 n 56 x3 h) := by
  intro n
  induction n with
  | zero => intro x3 h _; exact fm_none
  | succ n ih =>
    intro x3 h a_h
    rw [f_X12_visits_156]
    refine fm_ite ?_ ?_
    · refine fm_nh (agr_sI a_h rfl) (fun h_2 a_h_2 => ?_)
      exact fm_some a_h_2
    · refine fm_og (fun hb1 => ?_)
      refine fm_og (fun hb2 => ?_)
      refine fm_nh (agr_sI a_h rfl) (fun h_6 a_h_6 => ?_)
      refine fm_nm (fun x3_8 => ?_)
      exact ih _ _ a_h_6
theorem w_f_X12_visits_138_i56 {h0 : AH} {q49 : Nat → Int32 → Int32 → AH → Option AH} (hq49 : ∀ (y1 : Int32) (y2 : Int32) (y3 : AH), Agr W_X12_visits_i56 h0 y3 → Fm id W_X12_visits_i56 h0 (q49 56 y1 y2 y3)) : ∀ (x2 : Int32) (x3 : Int32) (h : AH), Agr W_X12_visits_i56 h0 h → Fm id W_X12_visits_i56 h0 (f_X12_visits_138 q49 56 x2 x3 h) := by
  intro x2 x3 h a_h
  unfold f_X12_visits_138
  refine fm_nm (fun x3_1 => ?_)
  exact hq49 _ _ _ a_h
theorem w_f_X12_visits_49_i56 {h0 : AH} : ∀ (n : Nat) (x2 : Int32) (x3 : Int32) (h : AH), Agr W_X12_visits_i56 h0 h → Fm id W_X12_visits_i56 h0 (f_X12_visits_49 n 56 x2 x3 h) := by
  intro n
  induction n with
  | zero => intro x2 x3 h _; exact fm_none
  | succ n ih =>
    intro x2 x3 h a_h
    rw [f_X12_visits_49]
    refine fm_ite ?_ ?_
    · refine fm_ite ?_ ?_
      · exact fm_some a_h
      · exact w_f_X12_visits_156_i56  FU _ _ a_h
    · refine fm_ob (w_f_X12_has _ _ _) rfl a_h (fun r_5 h_4 a_h_4 => ?_)
      refine fm_ite ?_ ?_
      · exact w_f_X12_visits_138_i56 (fun y0 y1 y2 a => ih y0 y1 y2 a) _ _ _ a_h_4
      · refine fm_og (fun hb1 => ?_)
        refine fm_og (fun hb2 => ?_)
        refine fm_nh (agr_sI a_h_4 rfl) (fun h_9 a_h_9 => ?_)
        refine fm_og (fun hb3 => ?_)
        refine fm_ite ?_ ?_
        · exact w_f_X12_visits_138_i56 (fun y0 y1 y2 a => ih y0 y1 y2 a) _ _ _ a_h_9
        · refine fm_og (fun hb4 => ?_)
          refine fm_og (fun hb5 => ?_)
          refine fm_nh (agr_sI a_h_9 rfl) (fun h_15 a_h_15 => ?_)
          refine fm_og (fun hb6 => ?_)
          refine fm_og (fun hb7 => ?_)
          refine fm_og (fun hb8 => ?_)
          refine fm_ob (w_f_X12_partOf_i56 _ _ _) rfl a_h_15 (fun r_22 h_21 a_h_21 => ?_)
          refine fm_og (fun hb9 => ?_)
          refine fm_nh (agr_sI a_h_21 rfl) (fun h_24 a_h_24 => ?_)
          exact w_f_X12_visits_138_i56 (fun y0 y1 y2 a => ih y0 y1 y2 a) _ _ _ a_h_24
theorem w_f_X12_visits_41_i56 {h0 : AH} {q12 : Nat → Int32 → Int32 → Int32 → AH → Option AH} (hq12 : ∀ (y1 : Int32) (y2 : Int32) (y3 : Int32) (y4 : AH), Agr W_X12_visits_i56 h0 y4 → Fm id W_X12_visits_i56 h0 (q12 56 y1 y2 y3 y4)) : ∀ (x1 : Int32) (x2 : Int32) (x3 : Int32) (h : AH), Agr W_X12_visits_i56 h0 h → Fm id W_X12_visits_i56 h0 (f_X12_visits_41 q12 56 x1 x2 x3 h) := by
  intro x1 x2 x3 h a_h
  unfold f_X12_visits_41
  refine fm_nm (fun x3_1 => ?_)
  exact hq12 _ _ _ _ a_h
theorem w_f_X12_visits_12_i56 {h0 : AH} : ∀ (n : Nat) (x1 : Int32) (x2 : Int32) (x3 : Int32) (h : AH), Agr W_X12_visits_i56 h0 h → Fm id W_X12_visits_i56 h0 (f_X12_visits_12 n 56 x1 x2 x3 h) := by
  intro n
  induction n with
  | zero => intro x1 x2 x3 h _; exact fm_none
  | succ n ih =>
    intro x1 x2 x3 h a_h
    rw [f_X12_visits_12]
    refine fm_ite ?_ ?_
    · exact w_f_X12_visits_49_i56  FU _ _ _ a_h
    · refine fm_ob (w_f_X12_has _ _ _) rfl a_h (fun r_4 h_3 a_h_3 => ?_)
      refine fm_ite ?_ ?_
      · exact w_f_X12_visits_41_i56 (fun y0 y1 y2 y3 a => ih y0 y1 y2 y3 a) _ _ _ _ a_h_3
      · refine fm_og (fun hb1 => ?_)
        refine fm_nh (agr_sI a_h_3 rfl) (fun h_7 a_h_7 => ?_)
        exact w_f_X12_visits_41_i56 (fun y0 y1 y2 y3 a => ih y0 y1 y2 y3 a) _ _ _ _ a_h_7
theorem w_f_X12_visits_i56 (x1 : Int32) (x2 : Int32) (h : AH) : Fm id W_X12_visits_i56 h (f_X12_visits 56 x1 x2 h) := by
  unfold f_X12_visits
  have a_h : Agr W_X12_visits_i56 h h := agr_refl h
  refine fm_ob (w_f_X12_doorOf_i56 _ _ _) rfl a_h (fun r_3 h_2 a_h_2 => ?_)
  refine fm_ov (w_f_X12_go_i56 _ _) rfl a_h_2 (fun h_5 a_h_5 => ?_)
  exact w_f_X12_visits_12_i56  FU _ _ _ _ a_h_5
theorem w_f_X12_evening_i56 (x1 : Int32) (x2 : Int32) (x3 : Int32) (h : AH) : Fm Prod.snd W_X12_evening_i56 h (f_X12_evening 56 x1 x2 x3 h) := by
  unfold f_X12_evening
  have a_h : Agr W_X12_evening_i56 h h := agr_refl h
  refine fm_nh (agr_sI a_h rfl) (fun h_1 a_h_1 => ?_)
  refine fm_ob (w_f_X12_isVisit_i56 _ _ _) rfl a_h_1 (fun r_5 h_4 a_h_4 => ?_)
  refine fm_ite ?_ ?_
  · exact w_f_X12_evening_23_i56  _ a_h_4
  · refine fm_ob (w_f_X12_layOrder_i56 _ _ _) rfl a_h_4 (fun r_9 h_8 a_h_8 => ?_)
    refine fm_ite ?_ ?_
    · exact w_f_X12_evening_23_i56  _ a_h_8
    · refine fm_ov (w_f_X12_visits_i56 _ _ _) rfl a_h_8 (fun h_12 a_h_12 => ?_)
      exact fm_some a_h_12
def W_X11_tried_i0 : List (Nat × Nat) := (14, 1000) :: (17, 1000) :: (20, 1000) :: (23, 1000) :: (36, 1000) :: (37, 1000) :: (38, 1000) :: (39, 1000) :: (40, 1000) :: (41, 2) :: (42, 1000) :: (43, 1000) :: (44, 1000) :: []
theorem w_f_X11_tried_31_i0 {h0 : AH} : ∀ (h : AH), Agr W_X11_tried_i0 h0 h → Fm Prod.snd W_X11_tried_i0 h0 (f_X11_tried_31 h) := by
  intro h a_h
  unfold f_X11_tried_31
  exact fm_some a_h
def W_X11_isGuest_i0 : List (Nat × Nat) := []
theorem w_f_X11_isGuest_21_i0 {h0 : AH} : ∀ (s0 : Int32) (h : AH), Agr W_X11_isGuest_i0 h0 h → Fm Prod.snd W_X11_isGuest_i0 h0 (f_X11_isGuest_21 s0 h) := by
  intro s0 h a_h
  unfold f_X11_isGuest_21
  refine fm_og (fun hb1 => ?_)
  exact fm_some a_h
theorem w_f_X11_isGuest_20_i0 {h0 : AH} : ∀ (h : AH), Agr W_X11_isGuest_i0 h0 h → Fm Prod.snd W_X11_isGuest_i0 h0 (f_X11_isGuest_20 h) := by
  intro h a_h
  unfold f_X11_isGuest_20
  exact w_f_X11_isGuest_21_i0  _ _ a_h
theorem w_f_X11_isGuest_i0 (x1 : Int32) (x2 : Int32) (h : AH) : Fm Prod.snd W_X11_isGuest_i0 h (f_X11_isGuest 0 x1 x2 h) := by
  unfold f_X11_isGuest
  have a_h : Agr W_X11_isGuest_i0 h h := agr_refl h
  refine fm_ob (w_f_X11_isKnown_i0 _ _) rfl a_h (fun r_3 h_2 a_h_2 => ?_)
  refine fm_ite ?_ ?_
  · exact w_f_X11_isGuest_20_i0  _ a_h_2
  · refine fm_ob (w_f_X11_isIn _ _ _) rfl a_h_2 (fun r_7 h_6 a_h_6 => ?_)
    refine fm_ite ?_ ?_
    · exact w_f_X11_isGuest_20_i0  _ a_h_6
    · exact w_f_X11_isGuest_21_i0  _ _ a_h_6
theorem w_f_X11_tried_i0 (x1 : Int32) (x2 : Int32) (x3 : Int32) (x4 : Int32) (h : AH) : Fm Prod.snd W_X11_tried_i0 h (f_X11_tried 0 x1 x2 x3 x4 h) := by
  unfold f_X11_tried
  have a_h : Agr W_X11_tried_i0 h h := agr_refl h
  refine fm_ob (w_f_X11_isParty_i0 _ _ _) rfl a_h (fun r_3 h_2 a_h_2 => ?_)
  refine fm_ite ?_ ?_
  · exact w_f_X11_tried_31_i0  _ a_h_2
  · refine fm_ob (w_f_X11_isGuest_i0 _ _ _) rfl a_h_2 (fun r_7 h_6 a_h_6 => ?_)
    refine fm_ite ?_ ?_
    · exact w_f_X11_tried_31_i0  _ a_h_6
    · refine fm_ob (w_f_X5_readOrder_i41 _ _ _) rfl a_h_6 (fun r_11 h_10 a_h_10 => ?_)
      refine fm_ite ?_ ?_
      · exact w_f_X11_tried_31_i0  _ a_h_10
      · refine fm_ob (w_f_X11_openDoor_i0 _ _ _) rfl a_h_10 (fun r_15 h_14 a_h_14 => ?_)
        refine fm_ov (w_f_X5_begin_i41 _ _) rfl a_h_14 (fun h_17 a_h_17 => ?_)
        refine fm_ov (w_f_X5_go_i41 _ _) rfl a_h_17 (fun h_19 a_h_19 => ?_)
        refine fm_og (fun hb1 => ?_)
        exact fm_some a_h_19
def W_X12_tried_i56 : List (Nat × Nat) := (56, 0) :: (56, 8) :: (56, 9) :: (56, 10) :: (56, 11) :: (56, 12) :: (56, 13) :: (56, 14) :: (56, 18) :: (56, 29) :: (56, 30) :: (60, 1000) :: (67, 1000) :: (68, 1000) :: (201, 0) :: []
theorem w_f_X12_tried_41_i56 {h0 : AH} : ∀ (h : AH), Agr W_X12_tried_i56 h0 h → Fm Prod.snd W_X12_tried_i56 h0 (f_X12_tried_41 h) := by
  intro h a_h
  unfold f_X12_tried_41
  exact fm_some a_h
theorem w_f_X12_tried_i56 (x1 : Int32) (x2 : Int32) (x3 : Int32) (x4 : Int32) (h : AH) : Fm Prod.snd W_X12_tried_i56 h (f_X12_tried 56 x1 x2 x3 x4 h) := by
  unfold f_X12_tried
  have a_h : Agr W_X12_tried_i56 h h := agr_refl h
  refine fm_nh (agr_sI a_h rfl) (fun h_1 a_h_1 => ?_)
  refine fm_ob (w_f_X12_isVisit_i56 _ _ _) rfl a_h_1 (fun r_5 h_4 a_h_4 => ?_)
  refine fm_ite ?_ ?_
  · exact w_f_X12_tried_41_i56  _ a_h_4
  · refine fm_ob (w_f_X12_layOrder_i56 _ _ _) rfl a_h_4 (fun r_9 h_8 a_h_8 => ?_)
    refine fm_ite ?_ ?_
    · exact w_f_X12_tried_41_i56  _ a_h_8
    · refine fm_ob (w_f_X12_isPerson_i56 _ _) rfl a_h_8 (fun r_13 h_12 a_h_12 => ?_)
      refine fm_ite ?_ ?_
      · exact w_f_X12_tried_41_i56  _ a_h_12
      · refine fm_ob (w_f_X12_has _ _ _) rfl a_h_12 (fun r_17 h_16 a_h_16 => ?_)
        refine fm_ite ?_ ?_
        · exact w_f_X12_tried_41_i56  _ a_h_16
        · refine fm_ob (w_f_X12_doorOf_i56 _ _ _) rfl a_h_16 (fun r_21 h_20 a_h_20 => ?_)
          refine fm_ov (w_f_X12_go_i56 _ _) rfl a_h_20 (fun h_23 a_h_23 => ?_)
          refine fm_og (fun hb1 => ?_)
          exact fm_some a_h_23
def W_X11_orders_i0 : List (Nat × Nat) := (14, 1000) :: (17, 1000) :: (20, 1000) :: (23, 1000) :: (36, 1000) :: (37, 1000) :: (38, 1000) :: (39, 1000) :: (40, 1000) :: (41, 2) :: (42, 1000) :: (43, 1000) :: (44, 1000) :: []
theorem w_f_X11_orders_27_i0 {h0 : AH} : ∀ (h : AH), Agr W_X11_orders_i0 h0 h → Fm Prod.snd W_X11_orders_i0 h0 (f_X11_orders_27 h) := by
  intro h a_h
  unfold f_X11_orders_27
  exact fm_some a_h
def W_X11_isKnownOrNone_i0 : List (Nat × Nat) := []
theorem w_f_X11_isKnownOrNone_18_i0 {h0 : AH} : ∀ (s0 : Int32) (h : AH), Agr W_X11_isKnownOrNone_i0 h0 h → Fm Prod.snd W_X11_isKnownOrNone_i0 h0 (f_X11_isKnownOrNone_18 s0 h) := by
  intro s0 h a_h
  unfold f_X11_isKnownOrNone_18
  refine fm_og (fun hb1 => ?_)
  exact fm_some a_h
theorem w_f_X11_isKnownOrNone_13_i0 {h0 : AH} : ∀ (h : AH), Agr W_X11_isKnownOrNone_i0 h0 h → Fm Prod.snd W_X11_isKnownOrNone_i0 h0 (f_X11_isKnownOrNone_13 h) := by
  intro h a_h
  unfold f_X11_isKnownOrNone_13
  exact w_f_X11_isKnownOrNone_18_i0  _ _ a_h
theorem w_f_X11_isKnownOrNone_i0 (x1 : Int32) (h : AH) : Fm Prod.snd W_X11_isKnownOrNone_i0 h (f_X11_isKnownOrNone 0 x1 h) := by
  unfold f_X11_isKnownOrNone
  have a_h : Agr W_X11_isKnownOrNone_i0 h h := agr_refl h
  refine fm_ite ?_ ?_
  · exact w_f_X11_isKnownOrNone_13_i0  _ a_h
  · refine fm_ob (w_f_X11_isKnown_i0 _ _) rfl a_h (fun r_4 h_3 a_h_3 => ?_)
    refine fm_ite ?_ ?_
    · exact w_f_X11_isKnownOrNone_18_i0  _ _ a_h_3
    · exact w_f_X11_isKnownOrNone_13_i0  _ a_h_3
def W_X5_lowest_i41 : List (Nat × Nat) := (41, 2) :: (42, 1000) :: []
theorem w_f_X5_lowest_26_i41 {h0 : AH} {q7 : Nat → Int32 → Int32 → AH → Option AH} (hq7 : ∀ (y1 : Int32) (y2 : Int32) (y3 : AH), Agr W_X5_lowest_i41 h0 y3 → Fm id W_X5_lowest_i41 h0 (q7 41 y1 y2 y3)) : ∀ (x1 : Int32) (x2 : Int32) (h : AH), Agr W_X5_lowest_i41 h0 h → Fm id W_X5_lowest_i41 h0 (f_X5_lowest_26 q7 41 x1 x2 h) := by
  intro x1 x2 h a_h
  unfold f_X5_lowest_26
  refine fm_nm (fun x2_1 => ?_)
  exact hq7 _ _ _ a_h
def W_X5_add_i41 : List (Nat × Nat) := (41, 2) :: (42, 1000) :: []
theorem w_f_X5_add_29_i41 {h0 : AH} : ∀ (h : AH), Agr W_X5_add_i41 h0 h → Fm id W_X5_add_i41 h0 (f_X5_add_29 h) := by
  intro h a_h
  unfold f_X5_add_29
  exact fm_some a_h
theorem w_f_X5_add_i41 (x1 : Int32) (h : AH) : Fm id W_X5_add_i41 h (f_X5_add 41 x1 h) := by
  unfold f_X5_add
  have a_h : Agr W_X5_add_i41 h h := agr_refl h
  refine fm_ite ?_ ?_
  · exact w_f_X5_add_29_i41  _ a_h
  · refine fm_og (fun hb1 => ?_)
    refine fm_nh (agr_sI a_h rfl) (fun h_3 a_h_3 => ?_)
    refine fm_nh (agr_sI a_h_3 rfl) (fun h_5 a_h_5 => ?_)
    exact w_f_X5_add_29_i41  _ a_h_5
theorem w_f_X5_lowest_7_i41 {h0 : AH} : ∀ (n : Nat) (x1 : Int32) (x2 : Int32) (h : AH), Agr W_X5_lowest_i41 h0 h → Fm id W_X5_lowest_i41 h0 (f_X5_lowest_7 n 41 x1 x2 h) := by
  intro n
  induction n with
  | zero => intro x1 x2 h _; exact fm_none
  | succ n ih =>
    intro x1 x2 h a_h
    rw [f_X5_lowest_7]
    refine fm_ite ?_ ?_
    · exact fm_some a_h
    · refine fm_ob (w_f_X11_isIn _ _ _) rfl a_h (fun r_4 h_3 a_h_3 => ?_)
      refine fm_ite ?_ ?_
      · exact w_f_X5_lowest_26_i41 (fun y0 y1 y2 a => ih y0 y1 y2 a) _ _ _ a_h_3
      · refine fm_ov (w_f_X5_add_i41 _ _) rfl a_h_3 (fun h_7 a_h_7 => ?_)
        exact w_f_X5_lowest_26_i41 (fun y0 y1 y2 a => ih y0 y1 y2 a) _ _ _ a_h_7
theorem w_f_X5_lowest_i41 (x1 : Int32) (h : AH) : Fm id W_X5_lowest_i41 h (f_X5_lowest 41 x1 h) := by
  unfold f_X5_lowest
  have a_h : Agr W_X5_lowest_i41 h h := agr_refl h
  refine fm_nh (agr_sI a_h rfl) (fun h_1 a_h_1 => ?_)
  exact w_f_X5_lowest_7_i41  FU _ _ _ a_h_1
def W_X5_first_i41 : List (Nat × Nat) := (41, 2) :: (42, 1000) :: (44, 1000) :: []
theorem w_f_X5_first_i41 (x1 : Int32) (x2 : Int32) (h : AH) : Fm Prod.snd W_X5_first_i41 h (f_X5_first 41 x1 x2 h) := by
  unfold f_X5_first
  have a_h : Agr W_X5_first_i41 h h := agr_refl h
  refine fm_ov (w_f_X5_lowest_i41 _ _) rfl a_h (fun h_2 a_h_2 => ?_)
  refine fm_ov (w_f_X5_begin_i41 _ _) rfl a_h_2 (fun h_4 a_h_4 => ?_)
  refine fm_og (fun hb1 => ?_)
  exact fm_some a_h_4
def W_X5_exchange_i41 : List (Nat × Nat) := (42, 1000) :: []
theorem w_f_X5_exchange_i41 (x1 : Int32) (x2 : Int32) (h : AH) : Fm id W_X5_exchange_i41 h (f_X5_exchange 41 x1 x2 h) := by
  unfold f_X5_exchange
  have a_h : Agr W_X5_exchange_i41 h h := agr_refl h
  refine fm_og (fun hb1 => ?_)
  refine fm_nm (fun x3_2 => ?_)
  refine fm_og (fun hb2 => ?_)
  refine fm_og (fun hb3 => ?_)
  refine fm_nh (agr_sI a_h rfl) (fun h_6 a_h_6 => ?_)
  refine fm_og (fun hb4 => ?_)
  refine fm_nh (agr_sI a_h_6 rfl) (fun h_9 a_h_9 => ?_)
  exact fm_some a_h_9
def W_X5_advance_i41 : List (Nat × Nat) := (42, 1000) :: []
theorem w_f_X5_advance_94_i41 {h0 : AH} : ∀ (n : Nat) (x1 : Int32) (x3 : Int32) (x4 : Int32) (h : AH), Agr W_X5_advance_i41 h0 h → Fm Prod.snd W_X5_advance_i41 h0 (f_X5_advance_94 n 41 x1 x3 x4 h) := by
  intro n
  induction n with
  | zero => intro x1 x3 x4 h _; exact fm_none
  | succ n ih =>
    intro x1 x3 x4 h a_h
    rw [f_X5_advance_94]
    refine fm_ite ?_ ?_
    · exact fm_some a_h
    · refine fm_ov (w_f_X5_exchange_i41 _ _ _) rfl a_h (fun h_3 a_h_3 => ?_)
      refine fm_nm (fun x3_4 => ?_)
      refine fm_nm (fun x4_6 => ?_)
      exact ih _ _ _ _ a_h_3
theorem w_f_X5_advance_76_i41 {h0 : AH} : ∀ (x1 : Int32) (x2 : Int32) (h : AH), Agr W_X5_advance_i41 h0 h → Fm Prod.snd W_X5_advance_i41 h0 (f_X5_advance_76 41 x1 x2 h) := by
  intro x1 x2 h a_h
  unfold f_X5_advance_76
  refine fm_ov (w_f_X5_exchange_i41 _ _ _) rfl a_h (fun h_2 a_h_2 => ?_)
  refine fm_nm (fun x3_3 => ?_)
  refine fm_nm (fun x4_5 => ?_)
  exact w_f_X5_advance_94_i41  FU _ _ _ _ a_h_2
theorem w_f_X5_advance_50_i41 {h0 : AH} : ∀ (n : Nat) (x1 : Int32) (x2 : Int32) (h : AH), Agr W_X5_advance_i41 h0 h → Fm Prod.snd W_X5_advance_i41 h0 (f_X5_advance_50 n 41 x1 x2 h) := by
  intro n
  induction n with
  | zero => intro x1 x2 h _; exact fm_none
  | succ n ih =>
    intro x1 x2 h a_h
    rw [f_X5_advance_50]
    refine fm_ite ?_ ?_
    · exact w_f_X5_advance_76_i41  _ _ _ a_h
    · refine fm_og (fun hb1 => ?_)
      refine fm_og (fun hb2 => ?_)
      refine fm_ite ?_ ?_
      · exact w_f_X5_advance_76_i41  _ _ _ a_h
      · refine fm_nm (fun x2_5 => ?_)
        exact ih _ _ _ a_h
theorem w_f_X5_advance_34_i41 {h0 : AH} : ∀ (x1 : Int32) (h : AH), Agr W_X5_advance_i41 h0 h → Fm Prod.snd W_X5_advance_i41 h0 (f_X5_advance_34 41 x1 h) := by
  intro x1 h a_h
  unfold f_X5_advance_34
  refine fm_ite ?_ ?_
  · refine fm_nm (fun x2_2 => ?_)
    exact w_f_X5_advance_50_i41  FU _ _ _ a_h
  · exact fm_some a_h
theorem w_f_X5_advance_7_i41 {h0 : AH} : ∀ (n : Nat) (x1 : Int32) (h : AH), Agr W_X5_advance_i41 h0 h → Fm Prod.snd W_X5_advance_i41 h0 (f_X5_advance_7 n 41 x1 h) := by
  intro n
  induction n with
  | zero => intro x1 h _; exact fm_none
  | succ n ih =>
    intro x1 h a_h
    rw [f_X5_advance_7]
    refine fm_ite ?_ ?_
    · exact w_f_X5_advance_34_i41  _ _ a_h
    · refine fm_og (fun hb1 => ?_)
      refine fm_og (fun hb2 => ?_)
      refine fm_ite ?_ ?_
      · exact w_f_X5_advance_34_i41  _ _ a_h
      · refine fm_nm (fun x1_5 => ?_)
        exact ih _ _ a_h
theorem w_f_X5_advance_i41 (h : AH) : Fm Prod.snd W_X5_advance_i41 h (f_X5_advance 41 h) := by
  unfold f_X5_advance
  have a_h : Agr W_X5_advance_i41 h h := agr_refl h
  refine fm_nm (fun x1_1 => ?_)
  exact w_f_X5_advance_7_i41  FU _ _ a_h
def W_X5_countOrders_i41 : List (Nat × Nat) := (14, 1000) :: (17, 1000) :: (20, 1000) :: (23, 1000) :: (38, 1000) :: (39, 1000) :: (40, 1000) :: (41, 2) :: (42, 1000) :: (43, 1000) :: (44, 1000) :: []
theorem w_f_X5_countOrders_48_i41 {h0 : AH} {q17 : Nat → Int32 → Int32 → Int32 → Int32 → Int32 → Int32 → AH → Option (Int32 × AH)} (hq17 : ∀ (y1 : Int32) (y2 : Int32) (y3 : Int32) (y4 : Int32) (y5 : Int32) (y6 : Int32) (y7 : AH), Agr W_X5_countOrders_i41 h0 y7 → Fm Prod.snd W_X5_countOrders_i41 h0 (q17 41 y1 y2 y3 y4 y5 y6 y7)) : ∀ (x3 : Int32) (x4 : Int32) (x5 : Int32) (x8 : Int32) (s0 : Int32) (s1 : Int32) (h : AH), Agr W_X5_countOrders_i41 h0 h → Fm Prod.snd W_X5_countOrders_i41 h0 (f_X5_countOrders_48 q17 41 x3 x4 x5 x8 s0 s1 h) := by
  intro x3 x4 x5 x8 s0 s1 h a_h
  unfold f_X5_countOrders_48
  refine fm_nm (fun x6_1 => ?_)
  refine fm_ob (w_f_X5_advance_i41 _) rfl a_h (fun r_5 h_4 a_h_4 => ?_)
  refine fm_nm (fun x8_6 => ?_)
  exact hq17 _ _ _ _ _ _ _ a_h_4
theorem w_f_X5_countOrders_17_i41 {h0 : AH} : ∀ (n : Nat) (x3 : Int32) (x4 : Int32) (x5 : Int32) (x6 : Int32) (x7 : Int32) (x8 : Int32) (h : AH), Agr W_X5_countOrders_i41 h0 h → Fm Prod.snd W_X5_countOrders_i41 h0 (f_X5_countOrders_17 n 41 x3 x4 x5 x6 x7 x8 h) := by
  intro n
  induction n with
  | zero => intro x3 x4 x5 x6 x7 x8 h _; exact fm_none
  | succ n ih =>
    intro x3 x4 x5 x6 x7 x8 h a_h
    rw [f_X5_countOrders_17]
    refine fm_ite ?_ ?_
    · exact fm_some a_h
    · refine fm_ov (w_f_X5_go_i41 _ _) rfl a_h (fun h_3 a_h_3 => ?_)
      refine fm_og (fun hb1 => ?_)
      refine fm_ite ?_ ?_
      · exact w_f_X5_countOrders_48_i41 (fun y0 y1 y2 y3 y4 y5 y6 a => ih y0 y1 y2 y3 y4 y5 y6 a) _ _ _ _ _ _ _ a_h_3
      · exact w_f_X5_countOrders_48_i41 (fun y0 y1 y2 y3 y4 y5 y6 a => ih y0 y1 y2 y3 y4 y5 y6 a) _ _ _ _ _ _ _ a_h_3
theorem w_f_X5_countOrders_i41 (x1 : Int32) (x2 : Int32) (x3 : Int32) (x4 : Int32) (h : AH) : Fm Prod.snd W_X5_countOrders_i41 h (f_X5_countOrders 41 x1 x2 x3 x4 h) := by
  unfold f_X5_countOrders
  have a_h : Agr W_X5_countOrders_i41 h h := agr_refl h
  refine fm_ob (w_f_X5_first_i41 _ _ _) rfl a_h (fun r_3 h_2 a_h_2 => ?_)
  exact w_f_X5_countOrders_17_i41  FU _ _ _ _ _ _ _ a_h_2
theorem w_f_X11_orders_i0 (x1 : Int32) (x2 : Int32) (x3 : Int32) (x4 : Int32) (h : AH) : Fm Prod.snd W_X11_orders_i0 h (f_X11_orders 0 x1 x2 x3 x4 h) := by
  unfold f_X11_orders
  have a_h : Agr W_X11_orders_i0 h h := agr_refl h
  refine fm_ob (w_f_X11_isParty_i0 _ _ _) rfl a_h (fun r_3 h_2 a_h_2 => ?_)
  refine fm_ite ?_ ?_
  · exact w_f_X11_orders_27_i0  _ a_h_2
  · refine fm_ob (w_f_X11_isGuest_i0 _ _ _) rfl a_h_2 (fun r_7 h_6 a_h_6 => ?_)
    refine fm_ite ?_ ?_
    · exact w_f_X11_orders_27_i0  _ a_h_6
    · refine fm_ob (w_f_X11_isKnownOrNone_i0 _ _) rfl a_h_6 (fun r_11 h_10 a_h_10 => ?_)
      refine fm_ite ?_ ?_
      · exact w_f_X11_orders_27_i0  _ a_h_10
      · refine fm_ob (w_f_X11_openDoor_i0 _ _ _) rfl a_h_10 (fun r_15 h_14 a_h_14 => ?_)
        refine fm_ob (w_f_X5_countOrders_i41 _ _ _ _ _) rfl a_h_14 (fun r_18 h_17 a_h_17 => ?_)
        exact fm_some a_h_17
def W_X12_isGuest_i56 : List (Nat × Nat) := []
theorem w_f_X12_isGuest_30_i56 {h0 : AH} : ∀ (s0 : Int32) (h : AH), Agr W_X12_isGuest_i56 h0 h → Fm Prod.snd W_X12_isGuest_i56 h0 (f_X12_isGuest_30 s0 h) := by
  intro s0 h a_h
  unfold f_X12_isGuest_30
  refine fm_og (fun hb1 => ?_)
  exact fm_some a_h
theorem w_f_X12_isGuest_29_i56 {h0 : AH} : ∀ (h : AH), Agr W_X12_isGuest_i56 h0 h → Fm Prod.snd W_X12_isGuest_i56 h0 (f_X12_isGuest_29 h) := by
  intro h a_h
  unfold f_X12_isGuest_29
  exact w_f_X12_isGuest_30_i56  _ _ a_h
theorem w_f_X12_isGuest_i56 (x1 : Int32) (x2 : Int32) (x3 : Int32) (h : AH) : Fm Prod.snd W_X12_isGuest_i56 h (f_X12_isGuest 56 x1 x2 x3 h) := by
  unfold f_X12_isGuest
  have a_h : Agr W_X12_isGuest_i56 h h := agr_refl h
  refine fm_ob (w_f_X12_isVisit_i56 _ _ _) rfl a_h (fun r_3 h_2 a_h_2 => ?_)
  refine fm_ite ?_ ?_
  · exact w_f_X12_isGuest_29_i56  _ a_h_2
  · refine fm_ob (w_f_X12_isPerson_i56 _ _) rfl a_h_2 (fun r_7 h_6 a_h_6 => ?_)
    refine fm_ite ?_ ?_
    · exact w_f_X12_isGuest_29_i56  _ a_h_6
    · refine fm_ob (w_f_X12_has _ _ _) rfl a_h_6 (fun r_11 h_10 a_h_10 => ?_)
      refine fm_ite ?_ ?_
      · exact w_f_X12_isGuest_29_i56  _ a_h_10
      · exact w_f_X12_isGuest_30_i56  _ _ a_h_10
def W_X12_orders_i56 : List (Nat × Nat) := (56, 0) :: (56, 8) :: (56, 9) :: (56, 10) :: (56, 11) :: (56, 12) :: (56, 13) :: (56, 14) :: (56, 18) :: (56, 29) :: (56, 30) :: (56, 34) :: (60, 1000) :: (67, 1000) :: (68, 1000) :: (70, 1000) :: (201, 0) :: []
theorem w_f_X12_orders_24_i56 {h0 : AH} : ∀ (h : AH), Agr W_X12_orders_i56 h0 h → Fm Prod.snd W_X12_orders_i56 h0 (f_X12_orders_24 h) := by
  intro h a_h
  unfold f_X12_orders_24
  exact fm_some a_h
def W_X12_isPair_i56 : List (Nat × Nat) := []
theorem w_f_X12_isPair_18_i56 {h0 : AH} : ∀ (s0 : Int32) (h : AH), Agr W_X12_isPair_i56 h0 h → Fm Prod.snd W_X12_isPair_i56 h0 (f_X12_isPair_18 s0 h) := by
  intro s0 h a_h
  unfold f_X12_isPair_18
  refine fm_og (fun hb1 => ?_)
  exact fm_some a_h
theorem w_f_X12_isPair_13_i56 {h0 : AH} : ∀ (h : AH), Agr W_X12_isPair_i56 h0 h → Fm Prod.snd W_X12_isPair_i56 h0 (f_X12_isPair_13 h) := by
  intro h a_h
  unfold f_X12_isPair_13
  exact w_f_X12_isPair_18_i56  _ _ a_h
theorem w_f_X12_isPair_i56 (x1 : Int32) (h : AH) : Fm Prod.snd W_X12_isPair_i56 h (f_X12_isPair 56 x1 h) := by
  unfold f_X12_isPair
  have a_h : Agr W_X12_isPair_i56 h h := agr_refl h
  refine fm_ite ?_ ?_
  · exact w_f_X12_isPair_13_i56  _ a_h
  · refine fm_ob (w_f_X12_isPerson_i56 _ _) rfl a_h (fun r_4 h_3 a_h_3 => ?_)
    refine fm_ite ?_ ?_
    · exact w_f_X12_isPair_18_i56  _ _ a_h_3
    · exact w_f_X12_isPair_13_i56  _ a_h_3
def W_X12_layWays_i56 : List (Nat × Nat) := (56, 34) :: (70, 1000) :: []
theorem w_f_X12_layWays_74_i56 {h0 : AH} {cb : Nat → Int32 → Int32 → Int32 → AH → Option AH} (hcb : ∀ (x1 : Int32) (x2 : Int32) (x3 : Int32) (h : AH), Agr W_X12_layWays_i56 h0 h → Fm id W_X12_layWays_i56 h0 (cb 56 x1 x2 x3 h)) {q29 : Nat → Int32 → Int32 → Int32 → Int32 → AH → Option AH} (hq29 : ∀ (y1 : Int32) (y2 : Int32) (y3 : Int32) (y4 : Int32) (y5 : AH), Agr W_X12_layWays_i56 h0 y5 → Fm id W_X12_layWays_i56 h0 (q29 56 y1 y2 y3 y4 y5)) : ∀ (x1 : Int32) (x2 : Int32) (x3 : Int32) (x4 : Int32) (h : AH), Agr W_X12_layWays_i56 h0 h → Fm id W_X12_layWays_i56 h0 (f_X12_layWays_74 cb q29 56 x1 x2 x3 x4 h) := by
  intro x1 x2 x3 x4 h a_h
  unfold f_X12_layWays_74
  refine fm_nm (fun x4_1 => ?_)
  exact hq29 _ _ _ _ _ a_h
theorem w_f_X12_layWays_29_i56 {h0 : AH} {cb : Nat → Int32 → Int32 → Int32 → AH → Option AH} (hcb : ∀ (x1 : Int32) (x2 : Int32) (x3 : Int32) (h : AH), Agr W_X12_layWays_i56 h0 h → Fm id W_X12_layWays_i56 h0 (cb 56 x1 x2 x3 h)) : ∀ (n : Nat) (x1 : Int32) (x2 : Int32) (x3 : Int32) (x4 : Int32) (h : AH), Agr W_X12_layWays_i56 h0 h → Fm id W_X12_layWays_i56 h0 (f_X12_layWays_29 cb n 56 x1 x2 x3 x4 h) := by
  intro n
  induction n with
  | zero => intro x1 x2 x3 x4 h _; exact fm_none
  | succ n ih =>
    intro x1 x2 x3 x4 h a_h
    rw [f_X12_layWays_29]
    refine fm_ite ?_ ?_
    · exact fm_some a_h
    · refine fm_ob (w_f_X12_has _ _ _) rfl a_h (fun r_4 h_3 a_h_3 => ?_)
      refine fm_ite ?_ ?_
      · exact w_f_X12_layWays_74_i56 hcb (fun y0 y1 y2 y3 y4 a => ih y0 y1 y2 y3 y4 a) _ _ _ _ _ a_h_3
      · refine fm_ob (w_f_X12_has _ _ _) rfl a_h_3 (fun r_8 h_7 a_h_7 => ?_)
        refine fm_ite ?_ ?_
        · refine fm_ovi (hcb _ _ _ _ a_h_7) (fun h_11 a_h_11 => ?_)
          exact w_f_X12_layWays_74_i56 hcb (fun y0 y1 y2 y3 y4 a => ih y0 y1 y2 y3 y4 a) _ _ _ _ _ a_h_11
        · exact w_f_X12_layWays_74_i56 hcb (fun y0 y1 y2 y3 y4 a => ih y0 y1 y2 y3 y4 a) _ _ _ _ _ a_h_7
theorem w_f_X12_layWays_i56 {h0 : AH} {cb : Nat → Int32 → Int32 → Int32 → AH → Option AH} (hcb : ∀ (x1 : Int32) (x2 : Int32) (x3 : Int32) (h : AH), Agr W_X12_layWays_i56 h0 h → Fm id W_X12_layWays_i56 h0 (cb 56 x1 x2 x3 h)) : ∀ (x1 : Int32) (x2 : Int32) (x3 : Int32) (h : AH), Agr W_X12_layWays_i56 h0 h → Fm id W_X12_layWays_i56 h0 (f_X12_layWays cb 56 x1 x2 x3 h) := by
  intro x1 x2 x3 h a_h
  unfold f_X12_layWays
  refine fm_ite ?_ ?_
  · refine fm_og (fun hb1 => ?_)
    refine fm_nh (agr_sI a_h rfl) (fun h_3 a_h_3 => ?_)
    refine fm_nh (agr_sI a_h_3 rfl) (fun h_5 a_h_5 => ?_)
    exact fm_some a_h_5
  · exact w_f_X12_layWays_29_i56 hcb FU _ _ _ _ _ a_h
theorem w_r_X12_layWays_i56 {h0 : AH} : ∀ (n : Nat) (x1 : Int32) (x2 : Int32) (x3 : Int32) (h : AH), Agr W_X12_layWays_i56 h0 h → Fm id W_X12_layWays_i56 h0 (r_X12_layWays n 56 x1 x2 x3 h) := by
  intro n
  induction n with
  | zero => intro x1 x2 x3 h _; exact fm_none
  | succ n ih =>
    intro x1 x2 x3 h a
    rw [r_X12_layWays]
    exact w_f_X12_layWays_i56 (fun x1 x2 x3 h a => ih x1 x2 x3 h a) _ _ _ _ a
def W_X12_allWays_i56 : List (Nat × Nat) := (56, 34) :: (70, 1000) :: []
theorem w_f_X12_allWays_i56 (x1 : Int32) (h : AH) : Fm id W_X12_allWays_i56 h (f_X12_allWays 56 x1 h) := by
  unfold f_X12_allWays
  have a_h : Agr W_X12_allWays_i56 h h := agr_refl h
  refine fm_nh (agr_sI a_h rfl) (fun h_1 a_h_1 => ?_)
  refine fm_ov (w_r_X12_layWays_i56 12 _ _ _ _ (agr_refl _)) rfl a_h_1 (fun h_4 a_h_4 => ?_)
  exact fm_some a_h_4
def W_X12_goWay_i56 : List (Nat × Nat) := (56, 8) :: (56, 9) :: (56, 10) :: (56, 11) :: (56, 12) :: (56, 13) :: (56, 14) :: (56, 18) :: (56, 29) :: (56, 30) :: (60, 1000) :: (67, 1000) :: (68, 1000) :: (201, 0) :: []
theorem w_f_X12_goWay_i56 (x1 : Int32) (x2 : Int32) (x3 : Int32) (h : AH) : Fm id W_X12_goWay_i56 h (f_X12_goWay 56 x1 x2 x3 h) := by
  unfold f_X12_goWay
  have a_h : Agr W_X12_goWay_i56 h h := agr_refl h
  refine fm_og (fun hb1 => ?_)
  refine fm_ob (w_f_X12_layOrder_i56 _ _ _) rfl a_h (fun r_4 h_3 a_h_3 => ?_)
  refine fm_ov (w_f_X12_go_i56 _ _) rfl a_h_3 (fun h_6 a_h_6 => ?_)
  exact fm_some a_h_6
theorem w_f_X12_orders_79_i56 {h0 : AH} {q39 : Nat → Int32 → Int32 → Int32 → Int32 → Int32 → Int32 → AH → Option (Int32 × AH)} (hq39 : ∀ (y1 : Int32) (y2 : Int32) (y3 : Int32) (y4 : Int32) (y5 : Int32) (y6 : Int32) (y7 : AH), Agr W_X12_orders_i56 h0 y7 → Fm Prod.snd W_X12_orders_i56 h0 (q39 56 y1 y2 y3 y4 y5 y6 y7)) : ∀ (x1 : Int32) (x2 : Int32) (x3 : Int32) (x4 : Int32) (x6 : Int32) (s0 : Int32) (s1 : Int32) (h : AH), Agr W_X12_orders_i56 h0 h → Fm Prod.snd W_X12_orders_i56 h0 (f_X12_orders_79 q39 56 x1 x2 x3 x4 x6 s0 s1 h) := by
  intro x1 x2 x3 x4 x6 s0 s1 h a_h
  unfold f_X12_orders_79
  refine fm_nm (fun x5_1 => ?_)
  refine fm_nm (fun x6_3 => ?_)
  exact hq39 _ _ _ _ _ _ _ a_h
theorem w_f_X12_orders_39_i56 {h0 : AH} : ∀ (n : Nat) (x1 : Int32) (x2 : Int32) (x3 : Int32) (x4 : Int32) (x5 : Int32) (x6 : Int32) (h : AH), Agr W_X12_orders_i56 h0 h → Fm Prod.snd W_X12_orders_i56 h0 (f_X12_orders_39 n 56 x1 x2 x3 x4 x5 x6 h) := by
  intro n
  induction n with
  | zero => intro x1 x2 x3 x4 x5 x6 h _; exact fm_none
  | succ n ih =>
    intro x1 x2 x3 x4 x5 x6 h a_h
    rw [f_X12_orders_39]
    refine fm_ite ?_ ?_
    · exact fm_some a_h
    · refine fm_ob (w_f_X12_doorOf_i56 _ _ _) rfl a_h (fun r_4 h_3 a_h_3 => ?_)
      refine fm_ov (w_f_X12_goWay_i56 _ _ _ _) rfl a_h_3 (fun h_6 a_h_6 => ?_)
      refine fm_og (fun hb1 => ?_)
      refine fm_ite ?_ ?_
      · exact w_f_X12_orders_79_i56 (fun y0 y1 y2 y3 y4 y5 y6 a => ih y0 y1 y2 y3 y4 y5 y6 a) _ _ _ _ _ _ _ _ a_h_6
      · exact w_f_X12_orders_79_i56 (fun y0 y1 y2 y3 y4 y5 y6 a => ih y0 y1 y2 y3 y4 y5 y6 a) _ _ _ _ _ _ _ _ a_h_6
theorem w_f_X12_orders_i56 (x1 : Int32) (x2 : Int32) (x3 : Int32) (x4 : Int32) (h : AH) : Fm Prod.snd W_X12_orders_i56 h (f_X12_orders 56 x1 x2 x3 x4 h) := by
  unfold f_X12_orders
  have a_h : Agr W_X12_orders_i56 h h := agr_refl h
  refine fm_nh (agr_sI a_h rfl) (fun h_1 a_h_1 => ?_)
  refine fm_ob (w_f_X12_isGuest_i56 _ _ _ _) rfl a_h_1 (fun r_5 h_4 a_h_4 => ?_)
  refine fm_ite ?_ ?_
  · exact w_f_X12_orders_24_i56  _ a_h_4
  · refine fm_ob (w_f_X12_isPair_i56 _ _) rfl a_h_4 (fun r_9 h_8 a_h_8 => ?_)
    refine fm_ite ?_ ?_
    · exact w_f_X12_orders_24_i56  _ a_h_8
    · refine fm_ov (w_f_X12_allWays_i56 _ _) rfl a_h_8 (fun h_12 a_h_12 => ?_)
      exact w_f_X12_orders_39_i56  FU _ _ _ _ _ _ _ a_h_12
def W_X11_worst_i0 : List (Nat × Nat) := (14, 1000) :: (17, 1000) :: (20, 1000) :: (23, 1000) :: (36, 1000) :: (37, 1000) :: (38, 1000) :: (39, 1000) :: (40, 1000) :: (41, 2) :: (42, 1000) :: (43, 1000) :: (44, 1000) :: (45, 1000) :: []
theorem w_f_X11_worst_18_i0 {h0 : AH} : ∀ (h : AH), Agr W_X11_worst_i0 h0 h → Fm Prod.snd W_X11_worst_i0 h0 (f_X11_worst_18 h) := by
  intro h a_h
  unfold f_X11_worst_18
  exact fm_some a_h
def W_J7_fill_53178_i45 : List (Nat × Nat) := (45, 1000) :: []
theorem w_f_J7_fill_53178_5_i45 {h0 : AH} : ∀ (n : Nat) (x1 : Int32) (x2 : Int32) (x3 : Int32) (h : AH), Agr W_J7_fill_53178_i45 h0 h → Fm id W_J7_fill_53178_i45 h0 (f_J7_fill_53178_5 n 45 x1 x2 x3 h) := by
  intro n
  induction n with
  | zero => intro x1 x2 x3 h _; exact fm_none
  | succ n ih =>
    intro x1 x2 x3 h a_h
    rw [f_J7_fill_53178_5]
    refine fm_ite ?_ ?_
    · exact fm_some a_h
    · refine fm_og (fun hb1 => ?_)
      refine fm_nh (agr_sI a_h rfl) (fun h_3 a_h_3 => ?_)
      refine fm_nm (fun x2_5 => ?_)
      exact ih _ _ _ _ a_h_3
theorem w_f_J7_fill_53178_i45 (x1 : Int32) (h : AH) : Fm id W_J7_fill_53178_i45 h (f_J7_fill_53178 45 x1 h) := by
  unfold f_J7_fill_53178
  have a_h : Agr W_J7_fill_53178_i45 h h := agr_refl h
  refine fm_nm (fun x3_1 => ?_)
  exact w_f_J7_fill_53178_5_i45  FU _ _ _ _ a_h
def W_X5_worstPlace_i41 : List (Nat × Nat) := (14, 1000) :: (17, 1000) :: (20, 1000) :: (23, 1000) :: (38, 1000) :: (39, 1000) :: (40, 1000) :: (41, 2) :: (42, 1000) :: (43, 1000) :: (44, 1000) :: (45, 1000) :: []
theorem w_f_X5_worstPlace_101_i41 {h0 : AH} {q71 : Nat → Int32 → Int32 → AH → Option (Int32 × AH)} (hq71 : ∀ (y1 : Int32) (y2 : Int32) (y3 : AH), Agr W_X5_worstPlace_i41 h0 y3 → Fm Prod.snd W_X5_worstPlace_i41 h0 (q71 41 y1 y2 y3)) : ∀ (x6 : Int32) (x7 : Int32) (h : AH), Agr W_X5_worstPlace_i41 h0 h → Fm Prod.snd W_X5_worstPlace_i41 h0 (f_X5_worstPlace_101 q71 41 x6 x7 h) := by
  intro x6 x7 h a_h
  unfold f_X5_worstPlace_101
  refine fm_nm (fun x7_1 => ?_)
  exact hq71 _ _ _ a_h
theorem w_f_X5_worstPlace_71_i41 {h0 : AH} : ∀ (n : Nat) (x6 : Int32) (x7 : Int32) (h : AH), Agr W_X5_worstPlace_i41 h0 h → Fm Prod.snd W_X5_worstPlace_i41 h0 (f_X5_worstPlace_71 n 41 x6 x7 h) := by
  intro n
  induction n with
  | zero => intro x6 x7 h _; exact fm_none
  | succ n ih =>
    intro x6 x7 h a_h
    rw [f_X5_worstPlace_71]
    refine fm_ite ?_ ?_
    · exact fm_some a_h
    · refine fm_og (fun hb1 => ?_)
      refine fm_og (fun hb2 => ?_)
      refine fm_ite ?_ ?_
      · exact w_f_X5_worstPlace_101_i41 (fun y0 y1 y2 a => ih y0 y1 y2 a) _ _ _ a_h
      · exact w_f_X5_worstPlace_101_i41 (fun y0 y1 y2 a => ih y0 y1 y2 a) _ _ _ a_h
def W_X5_placeOf_i41 : List (Nat × Nat) := []
theorem w_f_X5_placeOf_2_i41 {h0 : AH} : ∀ (n : Nat) (x1 : Int32) (x2 : Int32) (h : AH), Agr W_X5_placeOf_i41 h0 h → Fm Prod.snd W_X5_placeOf_i41 h0 (f_X5_placeOf_2 n 41 x1 x2 h) := by
  intro n
  induction n with
  | zero => intro x1 x2 h _; exact fm_none
  | succ n ih =>
    intro x1 x2 h a_h
    rw [f_X5_placeOf_2]
    refine fm_ite ?_ ?_
    · exact fm_some a_h
    · refine fm_og (fun hb1 => ?_)
      refine fm_ite ?_ ?_
      · exact fm_some a_h
      · refine fm_nm (fun x2_4 => ?_)
        exact ih _ _ _ a_h
theorem w_f_X5_placeOf_i41 (x1 : Int32) (h : AH) : Fm Prod.snd W_X5_placeOf_i41 h (f_X5_placeOf 41 x1 h) := by
  unfold f_X5_placeOf
  have a_h : Agr W_X5_placeOf_i41 h h := agr_refl h
  exact w_f_X5_placeOf_2_i41  FU _ _ _ a_h
def W_X2_worthOf_i35 : List (Nat × Nat) := []
theorem w_f_X2_worthOf_15_i35 {h0 : AH} : ∀ (s0 : Int32) (h : AH), Agr W_X2_worthOf_i35 h0 h → Fm Prod.snd W_X2_worthOf_i35 h0 (f_X2_worthOf_15 s0 h) := by
  intro s0 h a_h
  unfold f_X2_worthOf_15
  exact fm_some a_h
theorem w_f_X2_worthOf_i35 (x1 : Int32) (h : AH) : Fm Prod.snd W_X2_worthOf_i35 h (f_X2_worthOf 35 x1 h) := by
  unfold f_X2_worthOf
  have a_h : Agr W_X2_worthOf_i35 h h := agr_refl h
  refine fm_ite ?_ ?_
  · exact w_f_X2_worthOf_15_i35  _ _ a_h
  · refine fm_og (fun hb1 => ?_)
    exact w_f_X2_worthOf_15_i35  _ _ a_h
def W_X5_worthOf_i41 : List (Nat × Nat) := []
theorem w_f_X5_worthOf_i41 (x1 : Int32) (h : AH) : Fm Prod.snd W_X5_worthOf_i41 h (f_X5_worthOf 41 x1 h) := by
  unfold f_X5_worthOf
  have a_h : Agr W_X5_worthOf_i41 h h := agr_refl h
  refine fm_og (fun hb1 => ?_)
  refine fm_ob (w_f_X2_worthOf_i35 _ _) rfl a_h (fun r_4 h_3 a_h_3 => ?_)
  exact fm_some a_h_3
theorem w_f_X5_worstPlace_22_i41 {h0 : AH} : ∀ (n : Nat) (x3 : Int32) (x4 : Int32) (x5 : Int32) (x6 : Int32) (h : AH), Agr W_X5_worstPlace_i41 h0 h → Fm Prod.snd W_X5_worstPlace_i41 h0 (f_X5_worstPlace_22 n 41 x3 x4 x5 x6 h) := by
  intro n
  induction n with
  | zero => intro x3 x4 x5 x6 h _; exact fm_none
  | succ n ih =>
    intro x3 x4 x5 x6 h a_h
    rw [f_X5_worstPlace_22]
    refine fm_ite ?_ ?_
    · exact w_f_X5_worstPlace_71_i41  FU _ _ _ a_h
    · refine fm_ov (w_f_X5_go_i41 _ _) rfl a_h (fun h_3 a_h_3 => ?_)
      refine fm_ob (w_f_X5_placeOf_i41 _ _) rfl a_h_3 (fun r_6 h_5 a_h_5 => ?_)
      refine fm_og (fun hb1 => ?_)
      refine fm_ob (w_f_X5_worthOf_i41 _ _) rfl a_h_5 (fun r_10 h_9 a_h_9 => ?_)
      refine fm_og (fun hb2 => ?_)
      refine fm_nh (agr_sI a_h_9 rfl) (fun h_12 a_h_12 => ?_)
      refine fm_ob (w_f_X5_advance_i41 _) rfl a_h_12 (fun r_16 h_15 a_h_15 => ?_)
      refine fm_nm (fun x6_17 => ?_)
      exact ih _ _ _ _ _ a_h_15
theorem w_f_X5_worstPlace_i41 (x1 : Int32) (x2 : Int32) (x3 : Int32) (h : AH) : Fm Prod.snd W_X5_worstPlace_i41 h (f_X5_worstPlace 41 x1 x2 x3 h) := by
  unfold f_X5_worstPlace
  have a_h : Agr W_X5_worstPlace_i41 h h := agr_refl h
  refine fm_ov (w_f_J7_fill_53178_i45 _ _) rfl a_h (fun h_2 a_h_2 => ?_)
  refine fm_ob (w_f_X5_first_i41 _ _ _) rfl a_h_2 (fun r_5 h_4 a_h_4 => ?_)
  exact w_f_X5_worstPlace_22_i41  FU _ _ _ _ _ a_h_4
theorem w_f_X11_worst_i0 (x1 : Int32) (x2 : Int32) (x3 : Int32) (h : AH) : Fm Prod.snd W_X11_worst_i0 h (f_X11_worst 0 x1 x2 x3 h) := by
  unfold f_X11_worst
  have a_h : Agr W_X11_worst_i0 h h := agr_refl h
  refine fm_ob (w_f_X11_isParty_i0 _ _ _) rfl a_h (fun r_3 h_2 a_h_2 => ?_)
  refine fm_ite ?_ ?_
  · exact w_f_X11_worst_18_i0  _ a_h_2
  · refine fm_ob (w_f_X11_isGuest_i0 _ _ _) rfl a_h_2 (fun r_7 h_6 a_h_6 => ?_)
    refine fm_ite ?_ ?_
    · exact w_f_X11_worst_18_i0  _ a_h_6
    · refine fm_ob (w_f_X11_openDoor_i0 _ _ _) rfl a_h_6 (fun r_11 h_10 a_h_10 => ?_)
      refine fm_ob (w_f_X5_worstPlace_i41 _ _ _ _) rfl a_h_10 (fun r_14 h_13 a_h_13 => ?_)
      exact fm_some a_h_13
def W_X12_worst_i56 : List (Nat × Nat) := (56, 0) :: (56, 8) :: (56, 9) :: (56, 10) :: (56, 11) :: (56, 12) :: (56, 13) :: (56, 14) :: (56, 18) :: (56, 29) :: (56, 30) :: (56, 34) :: (60, 1000) :: (67, 1000) :: (68, 1000) :: (70, 1000) :: (71, 1000) :: (201, 0) :: []
theorem w_f_X12_worst_161_i56 {h0 : AH} {q131 : Nat → Int32 → Int32 → AH → Option (Int32 × AH)} (hq131 : ∀ (y1 : Int32) (y2 : Int32) (y3 : AH), Agr W_X12_worst_i56 h0 y3 → Fm Prod.snd W_X12_worst_i56 h0 (q131 56 y1 y2 y3)) : ∀ (x4 : Int32) (x5 : Int32) (h : AH), Agr W_X12_worst_i56 h0 h → Fm Prod.snd W_X12_worst_i56 h0 (f_X12_worst_161 q131 56 x4 x5 h) := by
  intro x4 x5 h a_h
  unfold f_X12_worst_161
  refine fm_nm (fun x5_1 => ?_)
  exact hq131 _ _ _ a_h
theorem w_f_X12_worst_131_i56 {h0 : AH} : ∀ (n : Nat) (x4 : Int32) (x5 : Int32) (h : AH), Agr W_X12_worst_i56 h0 h → Fm Prod.snd W_X12_worst_i56 h0 (f_X12_worst_131 n 56 x4 x5 h) := by
  intro n
  induction n with
  | zero => intro x4 x5 h _; exact fm_none
  | succ n ih =>
    intro x4 x5 h a_h
    rw [f_X12_worst_131]
    refine fm_ite ?_ ?_
    · exact fm_some a_h
    · refine fm_og (fun hb1 => ?_)
      refine fm_og (fun hb2 => ?_)
      refine fm_ite ?_ ?_
      · exact w_f_X12_worst_161_i56 (fun y0 y1 y2 a => ih y0 y1 y2 a) _ _ _ a_h
      · exact w_f_X12_worst_161_i56 (fun y0 y1 y2 a => ih y0 y1 y2 a) _ _ _ a_h
def W_X12_worthOf_i56 : List (Nat × Nat) := []
theorem w_f_X12_worthOf_25_i56 {h0 : AH} : ∀ (s0 : Int32) (h : AH), Agr W_X12_worthOf_i56 h0 h → Fm Prod.snd W_X12_worthOf_i56 h0 (f_X12_worthOf_25 s0 h) := by
  intro s0 h a_h
  unfold f_X12_worthOf_25
  exact fm_some a_h
theorem w_f_X12_worthOf_i56 (x1 : Int32) (h : AH) : Fm Prod.snd W_X12_worthOf_i56 h (f_X12_worthOf 56 x1 h) := by
  unfold f_X12_worthOf
  have a_h : Agr W_X12_worthOf_i56 h h := agr_refl h
  refine fm_og (fun hb1 => ?_)
  refine fm_ite ?_ ?_
  · exact w_f_X12_worthOf_25_i56  _ _ a_h
  · refine fm_og (fun hb2 => ?_)
    refine fm_og (fun hb3 => ?_)
    exact w_f_X12_worthOf_25_i56  _ _ a_h
theorem w_f_X12_worst_111_i56 {h0 : AH} {q74 : Nat → Int32 → Int32 → Int32 → Int32 → Int32 → AH → Option (Int32 × AH)} (hq74 : ∀ (y1 : Int32) (y2 : Int32) (y3 : Int32) (y4 : Int32) (y5 : Int32) (y6 : AH), Agr W_X12_worst_i56 h0 y6 → Fm Prod.snd W_X12_worst_i56 h0 (q74 56 y1 y2 y3 y4 y5 y6)) : ∀ (x1 : Int32) (x2 : Int32) (x3 : Int32) (x4 : Int32) (x5 : Int32) (s0 : Int32) (s1 : Int32) (s2 : Int32) (h : AH), Agr W_X12_worst_i56 h0 h → Fm Prod.snd W_X12_worst_i56 h0 (f_X12_worst_111 q74 56 x1 x2 x3 x4 x5 s0 s1 s2 71 h) := by
  intro x1 x2 x3 x4 x5 s0 s1 s2 h a_h
  unfold f_X12_worst_111
  refine fm_og (fun hb1 => ?_)
  refine fm_nh (agr_sI a_h rfl) (fun h_2 a_h_2 => ?_)
  refine fm_nm (fun x5_4 => ?_)
  exact hq74 _ _ _ _ _ _ a_h_2
theorem w_f_X12_worst_74_i56 {h0 : AH} {q49 : Nat → Int32 → Int32 → Int32 → Int32 → AH → Option (Int32 × AH)} (hq49 : ∀ (y1 : Int32) (y2 : Int32) (y3 : Int32) (y4 : Int32) (y5 : AH), Agr W_X12_worst_i56 h0 y5 → Fm Prod.snd W_X12_worst_i56 h0 (q49 56 y1 y2 y3 y4 y5)) : ∀ (n : Nat) (x1 : Int32) (x2 : Int32) (x3 : Int32) (x4 : Int32) (x5 : Int32) (h : AH), Agr W_X12_worst_i56 h0 h → Fm Prod.snd W_X12_worst_i56 h0 (f_X12_worst_74 q49 n 56 x1 x2 x3 x4 x5 h) := by
  intro n
  induction n with
  | zero => intro x1 x2 x3 x4 x5 h _; exact fm_none
  | succ n ih =>
    intro x1 x2 x3 x4 x5 h a_h
    rw [f_X12_worst_74]
    refine fm_ite ?_ ?_
    · refine fm_nm (fun x4_2 => ?_)
      exact hq49 _ _ _ _ _ a_h
    · refine fm_og (fun hb1 => ?_)
      refine fm_og (fun hb2 => ?_)
      refine fm_ite ?_ ?_
      · refine fm_ob (w_f_X12_worthOf_i56 _ _) rfl a_h (fun r_9 h_8 a_h_8 => ?_)
        exact w_f_X12_worst_111_i56 (fun y0 y1 y2 y3 y4 y5 a => ih y0 y1 y2 y3 y4 y5 a) _ _ _ _ _ _ _ _ _ a_h_8
      · exact w_f_X12_worst_111_i56 (fun y0 y1 y2 y3 y4 y5 a => ih y0 y1 y2 y3 y4 y5 a) _ _ _ _ _ _ _ _ _ a_h
theorem w_f_X12_worst_49_i56 {h0 : AH} : ∀ (n : Nat) (x1 : Int32) (x2 : Int32) (x3 : Int32) (x4 : Int32) (h : AH), Agr W_X12_worst_i56 h0 h → Fm Prod.snd W_X12_worst_i56 h0 (f_X12_worst_49 n 56 x1 x2 x3 x4 h) := by
  intro n
  induction n with
  | zero => intro x1 x2 x3 x4 h _; exact fm_none
  | succ n ih =>
    intro x1 x2 x3 x4 h a_h
    rw [f_X12_worst_49]
    refine fm_ite ?_ ?_
    · exact w_f_X12_worst_131_i56  FU _ _ _ a_h
    · refine fm_ob (w_f_X12_doorOf_i56 _ _ _) rfl a_h (fun r_4 h_3 a_h_3 => ?_)
      refine fm_ov (w_f_X12_goWay_i56 _ _ _ _) rfl a_h_3 (fun h_6 a_h_6 => ?_)
      exact w_f_X12_worst_74_i56 (fun y0 y1 y2 y3 y4 a => ih y0 y1 y2 y3 y4 a) FU _ _ _ _ _ _ a_h_6
theorem w_f_X12_worst_25_i56 {h0 : AH} : ∀ (n : Nat) (x1 : Int32) (x2 : Int32) (x3 : Int32) (x4 : Int32) (h : AH), Agr W_X12_worst_i56 h0 h → Fm Prod.snd W_X12_worst_i56 h0 (f_X12_worst_25 n 56 x1 x2 x3 x4 h) := by
  intro n
  induction n with
  | zero => intro x1 x2 x3 x4 h _; exact fm_none
  | succ n ih =>
    intro x1 x2 x3 x4 h a_h
    rw [f_X12_worst_25]
    refine fm_ite ?_ ?_
    · exact w_f_X12_worst_49_i56  FU _ _ _ _ _ a_h
    · refine fm_og (fun hb1 => ?_)
      refine fm_nh (agr_sI a_h rfl) (fun h_3 a_h_3 => ?_)
      refine fm_nm (fun x4_5 => ?_)
      exact ih _ _ _ _ _ a_h_3
theorem w_f_X12_worst_i56 (x1 : Int32) (x2 : Int32) (x3 : Int32) (h : AH) : Fm Prod.snd W_X12_worst_i56 h (f_X12_worst 56 x1 x2 x3 h) := by
  unfold f_X12_worst
  have a_h : Agr W_X12_worst_i56 h h := agr_refl h
  refine fm_nh (agr_sI a_h rfl) (fun h_1 a_h_1 => ?_)
  refine fm_ob (w_f_X12_isGuest_i56 _ _ _ _) rfl a_h_1 (fun r_5 h_4 a_h_4 => ?_)
  refine fm_ite ?_ ?_
  · exact fm_some a_h_4
  · refine fm_ov (w_f_X12_allWays_i56 _ _) rfl a_h_4 (fun h_8 a_h_8 => ?_)
    exact w_f_X12_worst_25_i56  FU _ _ _ _ _ a_h_8
def W_X11_host_i0 : List (Nat × Nat) := (14, 1000) :: (17, 1000) :: (20, 1000) :: (23, 1000) :: (36, 1000) :: (37, 1000) :: (38, 1000) :: (39, 1000) :: (40, 1000) :: (41, 2) :: (42, 1000) :: (43, 1000) :: (44, 1000) :: []
theorem w_f_X11_host_29_i0 {h0 : AH} : ∀ (h : AH), Agr W_X11_host_i0 h0 h → Fm Prod.snd W_X11_host_i0 h0 (f_X11_host_29 h) := by
  intro h a_h
  unfold f_X11_host_29
  exact fm_some a_h
theorem w_f_X11_host_168_i0 {h0 : AH} : ∀ (s0 : Int32) (h : AH), Agr W_X11_host_i0 h0 h → Fm Prod.snd W_X11_host_i0 h0 (f_X11_host_168 s0 h) := by
  intro s0 h a_h
  unfold f_X11_host_168
  exact fm_some a_h
def W_X5_much_i41 : List (Nat × Nat) := []
theorem w_f_X5_much_83_i41 {h0 : AH} {q14 : Nat → Int32 → Int32 → Int32 → Int32 → Int32 → Int32 → AH → Option (Int32 × AH)} (hq14 : ∀ (y1 : Int32) (y2 : Int32) (y3 : Int32) (y4 : Int32) (y5 : Int32) (y6 : Int32) (y7 : AH), Agr W_X5_much_i41 h0 y7 → Fm Prod.snd W_X5_much_i41 h0 (q14 41 y1 y2 y3 y4 y5 y6 y7)) : ∀ (x1 : Int32) (x2 : Int32) (x3 : Int32) (x5 : Int32) (x6 : Int32) (x8 : Int32) (s0 : Int32) (s1 : Int32) (h : AH), Agr W_X5_much_i41 h0 h → Fm Prod.snd W_X5_much_i41 h0 (f_X5_much_83 q14 41 x1 x2 x3 x5 x6 x8 s0 s1 h) := by
  intro x1 x2 x3 x5 x6 x8 s0 s1 h a_h
  unfold f_X5_much_83
  refine fm_nm (fun x4_1 => ?_)
  refine fm_nm (fun x5_3 => ?_)
  refine fm_nm (fun x6_5 => ?_)
  exact hq14 _ _ _ _ _ _ _ a_h
theorem w_f_X5_much_57_i41 {h0 : AH} {q14 : Nat → Int32 → Int32 → Int32 → Int32 → Int32 → Int32 → AH → Option (Int32 × AH)} (hq14 : ∀ (y1 : Int32) (y2 : Int32) (y3 : Int32) (y4 : Int32) (y5 : Int32) (y6 : Int32) (y7 : AH), Agr W_X5_much_i41 h0 y7 → Fm Prod.snd W_X5_much_i41 h0 (q14 41 y1 y2 y3 y4 y5 y6 y7)) : ∀ (x1 : Int32) (x3 : Int32) (x4 : Int32) (x5 : Int32) (x6 : Int32) (x7 : Int32) (x8 : Int32) (s0 : Int32) (s1 : Int32) (h : AH), Agr W_X5_much_i41 h0 h → Fm Prod.snd W_X5_much_i41 h0 (f_X5_much_57 q14 41 x1 x3 x4 x5 x6 x7 x8 s0 s1 h) := by
  intro x1 x3 x4 x5 x6 x7 x8 s0 s1 h a_h
  unfold f_X5_much_57
  refine fm_nm (fun x2_1 => ?_)
  refine fm_nm (fun x3_3 => ?_)
  refine fm_og (fun hb1 => ?_)
  refine fm_ite ?_ ?_
  · exact w_f_X5_much_83_i41 hq14 _ _ _ _ _ _ _ _ _ a_h
  · exact w_f_X5_much_83_i41 hq14 _ _ _ _ _ _ _ _ _ a_h
theorem w_f_X5_much_14_i41 {h0 : AH} : ∀ (n : Nat) (x1 : Int32) (x2 : Int32) (x3 : Int32) (x4 : Int32) (x5 : Int32) (x6 : Int32) (h : AH), Agr W_X5_much_i41 h0 h → Fm Prod.snd W_X5_much_i41 h0 (f_X5_much_14 n 41 x1 x2 x3 x4 x5 x6 h) := by
  intro n
  induction n with
  | zero => intro x1 x2 x3 x4 x5 x6 h _; exact fm_none
  | succ n ih =>
    intro x1 x2 x3 x4 x5 x6 h a_h
    rw [f_X5_much_14]
    refine fm_ite ?_ ?_
    · refine fm_ite ?_ ?_
      · exact fm_some a_h
      · refine fm_ite ?_ ?_
        · exact fm_some a_h
        · refine fm_ite ?_ ?_
          · exact fm_some a_h
          · exact fm_some a_h
    · refine fm_og (fun hb1 => ?_)
      refine fm_nm (fun x7_6 => ?_)
      refine fm_ob (w_f_X5_worthOf_i41 _ _) rfl a_h (fun r_10 h_9 a_h_9 => ?_)
      refine fm_og (fun hb2 => ?_)
      refine fm_ite ?_ ?_
      · exact w_f_X5_much_57_i41 (fun y0 y1 y2 y3 y4 y5 y6 a => ih y0 y1 y2 y3 y4 y5 y6 a) _ _ _ _ _ _ _ _ _ _ a_h_9
      · exact w_f_X5_much_57_i41 (fun y0 y1 y2 y3 y4 y5 y6 a => ih y0 y1 y2 y3 y4 y5 y6 a) _ _ _ _ _ _ _ _ _ _ a_h_9
theorem w_f_X5_much_i41 (x1 : Int32) (h : AH) : Fm Prod.snd W_X5_much_i41 h (f_X5_much 41 x1 h) := by
  unfold f_X5_much
  have a_h : Agr W_X5_much_i41 h h := agr_refl h
  exact w_f_X5_much_14_i41  FU _ _ _ _ _ _ _ a_h
def W_X5_number_i41 : List (Nat × Nat) := []
theorem w_f_X5_number_4_i41 {h0 : AH} : ∀ (n : Nat) (x1 : Int32) (x2 : Int32) (h : AH), Agr W_X5_number_i41 h0 h → Fm Prod.snd W_X5_number_i41 h0 (f_X5_number_4 n 41 x1 x2 h) := by
  intro n
  induction n with
  | zero => intro x1 x2 h _; exact fm_none
  | succ n ih =>
    intro x1 x2 h a_h
    rw [f_X5_number_4]
    refine fm_ite ?_ ?_
    · exact fm_some a_h
    · refine fm_og (fun hb1 => ?_)
      refine fm_nm (fun x1_3 => ?_)
      refine fm_nm (fun x2_5 => ?_)
      exact ih _ _ _ a_h
theorem w_f_X5_number_i41 (h : AH) : Fm Prod.snd W_X5_number_i41 h (f_X5_number 41 h) := by
  unfold f_X5_number
  have a_h : Agr W_X5_number_i41 h h := agr_refl h
  exact w_f_X5_number_4_i41  FU _ _ _ a_h
theorem w_f_X11_host_141_i0 {h0 : AH} {q59 : Nat → Int32 → Int32 → Int32 → Int32 → Int32 → Int32 → Int32 → AH → Option (Int32 × AH)} (hq59 : ∀ (y1 : Int32) (y2 : Int32) (y3 : Int32) (y4 : Int32) (y5 : Int32) (y6 : Int32) (y7 : Int32) (y8 : AH), Agr W_X11_host_i0 h0 y8 → Fm Prod.snd W_X11_host_i0 h0 (q59 0 y1 y2 y3 y4 y5 y6 y7 y8)) : ∀ (x3 : Int32) (x4 : Int32) (x5 : Int32) (x6 : Int32) (x7 : Int32) (x9 : Int32) (h : AH), Agr W_X11_host_i0 h0 h → Fm Prod.snd W_X11_host_i0 h0 (f_X11_host_141 q59 0 x3 x4 x5 x6 x7 x9 h) := by
  intro x3 x4 x5 x6 x7 x9 h a_h
  unfold f_X11_host_141
  refine fm_ob (w_f_X5_advance_i41 _) rfl a_h (fun r_3 h_2 a_h_2 => ?_)
  refine fm_nm (fun x9_4 => ?_)
  exact hq59 _ _ _ _ _ _ _ _ a_h_2
theorem w_f_X11_host_128_i0 {h0 : AH} {q59 : Nat → Int32 → Int32 → Int32 → Int32 → Int32 → Int32 → Int32 → AH → Option (Int32 × AH)} (hq59 : ∀ (y1 : Int32) (y2 : Int32) (y3 : Int32) (y4 : Int32) (y5 : Int32) (y6 : Int32) (y7 : Int32) (y8 : AH), Agr W_X11_host_i0 h0 y8 → Fm Prod.snd W_X11_host_i0 h0 (q59 0 y1 y2 y3 y4 y5 y6 y7 y8)) : ∀ (x3 : Int32) (x4 : Int32) (x5 : Int32) (x9 : Int32) (x10 : Int32) (h : AH), Agr W_X11_host_i0 h0 h → Fm Prod.snd W_X11_host_i0 h0 (f_X11_host_128 q59 0 x3 x4 x5 x9 x10 h) := by
  intro x3 x4 x5 x9 x10 h a_h
  unfold f_X11_host_128
  refine fm_ob (w_f_X5_number_i41 _) rfl a_h (fun r_3 h_2 a_h_2 => ?_)
  exact w_f_X11_host_141_i0 hq59 _ _ _ _ _ _ _ a_h_2
theorem w_f_X11_host_116_i0 {h0 : AH} {q59 : Nat → Int32 → Int32 → Int32 → Int32 → Int32 → Int32 → Int32 → AH → Option (Int32 × AH)} (hq59 : ∀ (y1 : Int32) (y2 : Int32) (y3 : Int32) (y4 : Int32) (y5 : Int32) (y6 : Int32) (y7 : Int32) (y8 : AH), Agr W_X11_host_i0 h0 y8 → Fm Prod.snd W_X11_host_i0 h0 (q59 0 y1 y2 y3 y4 y5 y6 y7 y8)) : ∀ (x3 : Int32) (x4 : Int32) (x5 : Int32) (x6 : Int32) (x7 : Int32) (x9 : Int32) (x10 : Int32) (s0 : Int32) (h : AH), Agr W_X11_host_i0 h0 h → Fm Prod.snd W_X11_host_i0 h0 (f_X11_host_116 q59 0 x3 x4 x5 x6 x7 x9 x10 s0 h) := by
  intro x3 x4 x5 x6 x7 x9 x10 s0 h a_h
  unfold f_X11_host_116
  refine fm_ite ?_ ?_
  · exact w_f_X11_host_128_i0 hq59 _ _ _ _ _ _ a_h
  · refine fm_ite ?_ ?_
    · exact w_f_X11_host_141_i0 hq59 _ _ _ _ _ _ _ a_h
    · exact w_f_X11_host_128_i0 hq59 _ _ _ _ _ _ a_h
theorem w_f_X11_host_59_i0 {h0 : AH} : ∀ (n : Nat) (x3 : Int32) (x4 : Int32) (x5 : Int32) (x6 : Int32) (x7 : Int32) (x8 : Int32) (x9 : Int32) (h : AH), Agr W_X11_host_i0 h0 h → Fm Prod.snd W_X11_host_i0 h0 (f_X11_host_59 n 0 x3 x4 x5 x6 x7 x8 x9 h) := by
  intro n
  induction n with
  | zero => intro x3 x4 x5 x6 x7 x8 x9 h _; exact fm_none
  | succ n ih =>
    intro x3 x4 x5 x6 x7 x8 x9 h a_h
    rw [f_X11_host_59]
    refine fm_ite ?_ ?_
    · refine fm_ite ?_ ?_
      · exact w_f_X11_host_168_i0  _ _ a_h
      · exact w_f_X11_host_168_i0  _ _ a_h
    · refine fm_ov (w_f_X5_go_i41 _ _) rfl a_h (fun h_4 a_h_4 => ?_)
      refine fm_ob (w_f_X5_much_i41 _ _) rfl a_h_4 (fun r_7 h_6 a_h_6 => ?_)
      refine fm_ite ?_ ?_
      · refine fm_ite ?_ ?_
        · exact w_f_X11_host_116_i0 (fun y0 y1 y2 y3 y4 y5 y6 y7 a => ih y0 y1 y2 y3 y4 y5 y6 y7 a) _ _ _ _ _ _ _ _ _ a_h_6
        · exact w_f_X11_host_116_i0 (fun y0 y1 y2 y3 y4 y5 y6 y7 a => ih y0 y1 y2 y3 y4 y5 y6 y7 a) _ _ _ _ _ _ _ _ _ a_h_6
      · refine fm_ite ?_ ?_
        · exact w_f_X11_host_116_i0 (fun y0 y1 y2 y3 y4 y5 y6 y7 a => ih y0 y1 y2 y3 y4 y5 y6 y7 a) _ _ _ _ _ _ _ _ _ a_h_6
        · exact w_f_X11_host_116_i0 (fun y0 y1 y2 y3 y4 y5 y6 y7 a => ih y0 y1 y2 y3 y4 y5 y6 y7 a) _ _ _ _ _ _ _ _ _ a_h_6
theorem w_f_X11_host_i0 (x1 : Int32) (x2 : Int32) (x3 : Int32) (x4 : Int32) (h : AH) : Fm Prod.snd W_X11_host_i0 h (f_X11_host 0 x1 x2 x3 x4 h) := by
  unfold f_X11_host
  have a_h : Agr W_X11_host_i0 h h := agr_refl h
  refine fm_ob (w_f_X11_isParty_i0 _ _ _) rfl a_h (fun r_3 h_2 a_h_2 => ?_)
  refine fm_ite ?_ ?_
  · exact w_f_X11_host_29_i0  _ a_h_2
  · refine fm_ite ?_ ?_
    · exact w_f_X11_host_29_i0  _ a_h_2
    · refine fm_ite ?_ ?_
      · exact w_f_X11_host_29_i0  _ a_h_2
      · refine fm_ite ?_ ?_
        · exact w_f_X11_host_29_i0  _ a_h_2
        · refine fm_ite ?_ ?_
          · refine fm_ob (w_f_X11_openDoor_i0 _ _ _) rfl a_h_2 (fun r_11 h_10 a_h_10 => ?_)
            refine fm_ob (w_f_X5_first_i41 _ _ _) rfl a_h_10 (fun r_14 h_13 a_h_13 => ?_)
            exact w_f_X11_host_59_i0  FU _ _ _ _ _ _ _ _ a_h_13
          · exact w_f_X11_host_29_i0  _ a_h_2
def W_X12_host_i56 : List (Nat × Nat) := (56, 0) :: (56, 8) :: (56, 9) :: (56, 10) :: (56, 11) :: (56, 12) :: (56, 13) :: (56, 14) :: (56, 18) :: (56, 29) :: (56, 30) :: (56, 34) :: (60, 1000) :: (67, 1000) :: (68, 1000) :: (70, 1000) :: (201, 0) :: []
theorem w_f_X12_host_37_i56 {h0 : AH} : ∀ (h : AH), Agr W_X12_host_i56 h0 h → Fm Prod.snd W_X12_host_i56 h0 (f_X12_host_37 h) := by
  intro h a_h
  unfold f_X12_host_37
  exact fm_some a_h
theorem w_f_X12_host_139_i56 {h0 : AH} : ∀ (s0 : Int32) (h : AH), Agr W_X12_host_i56 h0 h → Fm Prod.snd W_X12_host_i56 h0 (f_X12_host_139 s0 h) := by
  intro s0 h a_h
  unfold f_X12_host_139
  exact fm_some a_h
def W_X12_hostCounts_i56 : List (Nat × Nat) := []
theorem w_f_X12_hostCounts_132_i56 {h0 : AH} : ∀ (s0 : Int32) (h : AH), Agr W_X12_hostCounts_i56 h0 h → Fm Prod.snd W_X12_hostCounts_i56 h0 (f_X12_hostCounts_132 s0 h) := by
  intro s0 h a_h
  unfold f_X12_hostCounts_132
  exact fm_some a_h
theorem w_f_X12_hostCounts_80_i56 {h0 : AH} {q15 : Nat → Int32 → Int32 → Int32 → Int32 → Int32 → Int32 → AH → Option (Int32 × AH)} (hq15 : ∀ (y1 : Int32) (y2 : Int32) (y3 : Int32) (y4 : Int32) (y5 : Int32) (y6 : Int32) (y7 : AH), Agr W_X12_hostCounts_i56 h0 y7 → Fm Prod.snd W_X12_hostCounts_i56 h0 (q15 56 y1 y2 y3 y4 y5 y6 y7)) : ∀ (x1 : Int32) (x2 : Int32) (x3 : Int32) (x5 : Int32) (x6 : Int32) (x7 : Int32) (s0 : Int32) (s1 : Int32) (h : AH), Agr W_X12_hostCounts_i56 h0 h → Fm Prod.snd W_X12_hostCounts_i56 h0 (f_X12_hostCounts_80 q15 56 x1 x2 x3 x5 x6 x7 s0 s1 h) := by
  intro x1 x2 x3 x5 x6 x7 s0 s1 h a_h
  unfold f_X12_hostCounts_80
  refine fm_nm (fun x4_1 => ?_)
  refine fm_ob (w_f_X12_worthOf_i56 _ _) rfl a_h (fun r_5 h_4 a_h_4 => ?_)
  refine fm_nm (fun x5_6 => ?_)
  refine fm_nm (fun x6_8 => ?_)
  exact hq15 _ _ _ _ _ _ _ a_h_4
theorem w_f_X12_hostCounts_50_i56 {h0 : AH} {q15 : Nat → Int32 → Int32 → Int32 → Int32 → Int32 → Int32 → AH → Option (Int32 × AH)} (hq15 : ∀ (y1 : Int32) (y2 : Int32) (y3 : Int32) (y4 : Int32) (y5 : Int32) (y6 : Int32) (y7 : AH), Agr W_X12_hostCounts_i56 h0 y7 → Fm Prod.snd W_X12_hostCounts_i56 h0 (q15 56 y1 y2 y3 y4 y5 y6 y7)) : ∀ (x1 : Int32) (x3 : Int32) (x4 : Int32) (x5 : Int32) (x6 : Int32) (x7 : Int32) (s0 : Int32) (s1 : Int32) (h : AH), Agr W_X12_hostCounts_i56 h0 h → Fm Prod.snd W_X12_hostCounts_i56 h0 (f_X12_hostCounts_50 q15 56 x1 x3 x4 x5 x6 x7 s0 s1 h) := by
  intro x1 x3 x4 x5 x6 x7 s0 s1 h a_h
  unfold f_X12_hostCounts_50
  refine fm_nm (fun x2_1 => ?_)
  refine fm_ob (w_f_X12_worthOf_i56 _ _) rfl a_h (fun r_5 h_4 a_h_4 => ?_)
  refine fm_nm (fun x3_6 => ?_)
  refine fm_og (fun hb1 => ?_)
  refine fm_ite ?_ ?_
  · exact w_f_X12_hostCounts_80_i56 hq15 _ _ _ _ _ _ _ _ _ a_h_4
  · exact w_f_X12_hostCounts_80_i56 hq15 _ _ _ _ _ _ _ _ _ a_h_4
theorem w_f_X12_hostCounts_15_i56 {h0 : AH} : ∀ (n : Nat) (x1 : Int32) (x2 : Int32) (x3 : Int32) (x4 : Int32) (x5 : Int32) (x6 : Int32) (h : AH), Agr W_X12_hostCounts_i56 h0 h → Fm Prod.snd W_X12_hostCounts_i56 h0 (f_X12_hostCounts_15 n 56 x1 x2 x3 x4 x5 x6 h) := by
  intro n
  induction n with
  | zero => intro x1 x2 x3 x4 x5 x6 h _; exact fm_none
  | succ n ih =>
    intro x1 x2 x3 x4 x5 x6 h a_h
    rw [f_X12_hostCounts_15]
    refine fm_ite ?_ ?_
    · refine fm_ite ?_ ?_
      · exact w_f_X12_hostCounts_132_i56  _ _ a_h
      · refine fm_ite ?_ ?_
        · exact w_f_X12_hostCounts_132_i56  _ _ a_h
        · refine fm_ite ?_ ?_
          · exact w_f_X12_hostCounts_132_i56  _ _ a_h
          · exact w_f_X12_hostCounts_132_i56  _ _ a_h
    · refine fm_og (fun hb1 => ?_)
      refine fm_nm (fun x7_6 => ?_)
      refine fm_og (fun hb2 => ?_)
      refine fm_ite ?_ ?_
      · exact w_f_X12_hostCounts_50_i56 (fun y0 y1 y2 y3 y4 y5 y6 a => ih y0 y1 y2 y3 y4 y5 y6 a) _ _ _ _ _ _ _ _ _ a_h
      · exact w_f_X12_hostCounts_50_i56 (fun y0 y1 y2 y3 y4 y5 y6 a => ih y0 y1 y2 y3 y4 y5 y6 a) _ _ _ _ _ _ _ _ _ a_h
theorem w_f_X12_hostCounts_i56 (x1 : Int32) (h : AH) : Fm Prod.snd W_X12_hostCounts_i56 h (f_X12_hostCounts 56 x1 h) := by
  unfold f_X12_hostCounts
  have a_h : Agr W_X12_hostCounts_i56 h h := agr_refl h
  exact w_f_X12_hostCounts_15_i56  FU _ _ _ _ _ _ _ a_h
theorem w_f_X12_host_111_i56 {h0 : AH} {q53 : Nat → Int32 → Int32 → Int32 → Int32 → Int32 → Int32 → Int32 → AH → Option (Int32 × AH)} (hq53 : ∀ (y1 : Int32) (y2 : Int32) (y3 : Int32) (y4 : Int32) (y5 : Int32) (y6 : Int32) (y7 : Int32) (y8 : AH), Agr W_X12_host_i56 h0 y8 → Fm Prod.snd W_X12_host_i56 h0 (q53 56 y1 y2 y3 y4 y5 y6 y7 y8)) : ∀ (x1 : Int32) (x2 : Int32) (x3 : Int32) (x4 : Int32) (x5 : Int32) (x6 : Int32) (x7 : Int32) (h : AH), Agr W_X12_host_i56 h0 h → Fm Prod.snd W_X12_host_i56 h0 (f_X12_host_111 q53 56 x1 x2 x3 x4 x5 x6 x7 h) := by
  intro x1 x2 x3 x4 x5 x6 x7 h a_h
  unfold f_X12_host_111
  refine fm_nm (fun x7_1 => ?_)
  exact hq53 _ _ _ _ _ _ _ _ a_h
theorem w_f_X12_host_98_i56 {h0 : AH} {q53 : Nat → Int32 → Int32 → Int32 → Int32 → Int32 → Int32 → Int32 → AH → Option (Int32 × AH)} (hq53 : ∀ (y1 : Int32) (y2 : Int32) (y3 : Int32) (y4 : Int32) (y5 : Int32) (y6 : Int32) (y7 : Int32) (y8 : AH), Agr W_X12_host_i56 h0 y8 → Fm Prod.snd W_X12_host_i56 h0 (q53 56 y1 y2 y3 y4 y5 y6 y7 y8)) : ∀ (x1 : Int32) (x2 : Int32) (x3 : Int32) (x4 : Int32) (x7 : Int32) (x8 : Int32) (h : AH), Agr W_X12_host_i56 h0 h → Fm Prod.snd W_X12_host_i56 h0 (f_X12_host_98 q53 56 x1 x2 x3 x4 x7 x8 h) := by
  intro x1 x2 x3 x4 x7 x8 h a_h
  unfold f_X12_host_98
  refine fm_og (fun hb1 => ?_)
  refine fm_nm (fun x5_2 => ?_)
  exact w_f_X12_host_111_i56 hq53 _ _ _ _ _ _ _ _ a_h
theorem w_f_X12_host_53_i56 {h0 : AH} : ∀ (n : Nat) (x1 : Int32) (x2 : Int32) (x3 : Int32) (x4 : Int32) (x5 : Int32) (x6 : Int32) (x7 : Int32) (h : AH), Agr W_X12_host_i56 h0 h → Fm Prod.snd W_X12_host_i56 h0 (f_X12_host_53 n 56 x1 x2 x3 x4 x5 x6 x7 h) := by
  intro n
  induction n with
  | zero => intro x1 x2 x3 x4 x5 x6 x7 h _; exact fm_none
  | succ n ih =>
    intro x1 x2 x3 x4 x5 x6 x7 h a_h
    rw [f_X12_host_53]
    refine fm_ite ?_ ?_
    · refine fm_ite ?_ ?_
      · exact w_f_X12_host_139_i56  _ _ a_h
      · refine fm_ite ?_ ?_
        · exact w_f_X12_host_139_i56  _ _ a_h
        · exact w_f_X12_host_139_i56  _ _ a_h
    · refine fm_ob (w_f_X12_doorOf_i56 _ _ _) rfl a_h (fun r_6 h_5 a_h_5 => ?_)
      refine fm_ov (w_f_X12_goWay_i56 _ _ _ _) rfl a_h_5 (fun h_8 a_h_8 => ?_)
      refine fm_ob (w_f_X12_hostCounts_i56 _ _) rfl a_h_8 (fun r_11 h_10 a_h_10 => ?_)
      refine fm_ite ?_ ?_
      · exact w_f_X12_host_98_i56 (fun y0 y1 y2 y3 y4 y5 y6 y7 a => ih y0 y1 y2 y3 y4 y5 y6 y7 a) _ _ _ _ _ _ _ a_h_10
      · refine fm_ite ?_ ?_
        · exact w_f_X12_host_98_i56 (fun y0 y1 y2 y3 y4 y5 y6 y7 a => ih y0 y1 y2 y3 y4 y5 y6 y7 a) _ _ _ _ _ _ _ a_h_10
        · exact w_f_X12_host_111_i56 (fun y0 y1 y2 y3 y4 y5 y6 y7 a => ih y0 y1 y2 y3 y4 y5 y6 y7 a) _ _ _ _ _ _ _ _ a_h_10
theorem w_f_X12_host_i56 (x1 : Int32) (x2 : Int32) (x3 : Int32) (x4 : Int32) (h : AH) : Fm Prod.snd W_X12_host_i56 h (f_X12_host 56 x1 x2 x3 x4 h) := by
  unfold f_X12_host
  have a_h : Agr W_X12_host_i56 h h := agr_refl h
  refine fm_nh (agr_sI a_h rfl) (fun h_1 a_h_1 => ?_)
  refine fm_ob (w_f_X12_isVisit_i56 _ _ _) rfl a_h_1 (fun r_5 h_4 a_h_4 => ?_)
  refine fm_ite ?_ ?_
  · exact w_f_X12_host_37_i56  _ a_h_4
  · refine fm_ob (w_f_X12_isIn _ _ _ _) rfl a_h_4 (fun r_9 h_8 a_h_8 => ?_)
    refine fm_ite ?_ ?_
    · exact w_f_X12_host_37_i56  _ a_h_8
    · refine fm_ob (w_f_X12_isIn _ _ _ _) rfl a_h_8 (fun r_13 h_12 a_h_12 => ?_)
      refine fm_ite ?_ ?_
      · exact w_f_X12_host_37_i56  _ a_h_12
      · refine fm_ov (w_f_X12_allWays_i56 _ _) rfl a_h_12 (fun h_16 a_h_16 => ?_)
        exact w_f_X12_host_53_i56  FU _ _ _ _ _ _ _ _ a_h_16
def W_X11_hide_i0 : List (Nat × Nat) := (14, 1000) :: (17, 1000) :: (20, 1000) :: (23, 1000) :: (36, 1000) :: (37, 1000) :: (38, 1000) :: (39, 1000) :: (40, 1000) :: (41, 2) :: (42, 1000) :: (43, 1000) :: (44, 1000) :: []
theorem w_f_X11_hide_40_i0 {h0 : AH} : ∀ (h : AH), Agr W_X11_hide_i0 h0 h → Fm Prod.snd W_X11_hide_i0 h0 (f_X11_hide_40 h) := by
  intro h a_h
  unfold f_X11_hide_40
  exact fm_some a_h
theorem w_f_X11_hide_125_i0 {h0 : AH} {q56 : Nat → Int32 → Int32 → Int32 → Int32 → Int32 → AH → Option (Int32 × AH)} (hq56 : ∀ (y1 : Int32) (y2 : Int32) (y3 : Int32) (y4 : Int32) (y5 : Int32) (y6 : AH), Agr W_X11_hide_i0 h0 y6 → Fm Prod.snd W_X11_hide_i0 h0 (q56 0 y1 y2 y3 y4 y5 y6)) : ∀ (x4 : Int32) (x5 : Int32) (x6 : Int32) (x7 : Int32) (x8 : Int32) (h : AH), Agr W_X11_hide_i0 h0 h → Fm Prod.snd W_X11_hide_i0 h0 (f_X11_hide_125 q56 0 x4 x5 x6 x7 x8 h) := by
  intro x4 x5 x6 x7 x8 h a_h
  unfold f_X11_hide_125
  refine fm_nm (fun x8_1 => ?_)
  exact hq56 _ _ _ _ _ _ a_h
theorem w_f_X11_hide_122_i0 {h0 : AH} {q56 : Nat → Int32 → Int32 → Int32 → Int32 → Int32 → AH → Option (Int32 × AH)} (hq56 : ∀ (y1 : Int32) (y2 : Int32) (y3 : Int32) (y4 : Int32) (y5 : Int32) (y6 : AH), Agr W_X11_hide_i0 h0 y6 → Fm Prod.snd W_X11_hide_i0 h0 (q56 0 y1 y2 y3 y4 y5 y6)) : ∀ (x4 : Int32) (x5 : Int32) (x6 : Int32) (x8 : Int32) (s0 : Int32) (s1 : Int32) (h : AH), Agr W_X11_hide_i0 h0 h → Fm Prod.snd W_X11_hide_i0 h0 (f_X11_hide_122 q56 0 x4 x5 x6 x8 s0 s1 h) := by
  intro x4 x5 x6 x8 s0 s1 h a_h
  unfold f_X11_hide_122
  refine fm_nm (fun x7_1 => ?_)
  exact w_f_X11_hide_125_i0 hq56 _ _ _ _ _ _ a_h
theorem w_f_X11_hide_56_i0 {h0 : AH} : ∀ (n : Nat) (x4 : Int32) (x5 : Int32) (x6 : Int32) (x7 : Int32) (x8 : Int32) (h : AH), Agr W_X11_hide_i0 h0 h → Fm Prod.snd W_X11_hide_i0 h0 (f_X11_hide_56 n 0 x4 x5 x6 x7 x8 h) := by
  intro n
  induction n with
  | zero => intro x4 x5 x6 x7 x8 h _; exact fm_none
  | succ n ih =>
    intro x4 x5 x6 x7 x8 h a_h
    rw [f_X11_hide_56]
    refine fm_ite ?_ ?_
    · exact fm_some a_h
    · refine fm_ob (w_f_X11_isIn _ _ _) rfl a_h (fun r_4 h_3 a_h_3 => ?_)
      refine fm_ite ?_ ?_
      · exact w_f_X11_hide_125_i0 (fun y0 y1 y2 y3 y4 y5 a => ih y0 y1 y2 y3 y4 y5 a) _ _ _ _ _ _ a_h_3
      · refine fm_ov (w_f_X5_begin_i41 _ _) rfl a_h_3 (fun h_7 a_h_7 => ?_)
        refine fm_ov (w_f_X5_go_i41 _ _) rfl a_h_7 (fun h_9 a_h_9 => ?_)
        refine fm_og (fun hb1 => ?_)
        refine fm_ite ?_ ?_
        · exact w_f_X11_hide_122_i0 (fun y0 y1 y2 y3 y4 y5 a => ih y0 y1 y2 y3 y4 y5 a) _ _ _ _ _ _ _ a_h_9
        · exact w_f_X11_hide_122_i0 (fun y0 y1 y2 y3 y4 y5 a => ih y0 y1 y2 y3 y4 y5 a) _ _ _ _ _ _ _ a_h_9
theorem w_f_X11_hide_i0 (x1 : Int32) (x2 : Int32) (x3 : Int32) (x4 : Int32) (x5 : Int32) (h : AH) : Fm Prod.snd W_X11_hide_i0 h (f_X11_hide 0 x1 x2 x3 x4 x5 h) := by
  unfold f_X11_hide
  have a_h : Agr W_X11_hide_i0 h h := agr_refl h
  refine fm_ob (w_f_X11_isParty_i0 _ _ _) rfl a_h (fun r_3 h_2 a_h_2 => ?_)
  refine fm_ite ?_ ?_
  · exact w_f_X11_hide_40_i0  _ a_h_2
  · refine fm_ob (w_f_X11_isGuest_i0 _ _ _) rfl a_h_2 (fun r_7 h_6 a_h_6 => ?_)
    refine fm_ite ?_ ?_
    · exact w_f_X11_hide_40_i0  _ a_h_6
    · refine fm_ob (w_f_X11_isKnownOrNone_i0 _ _) rfl a_h_6 (fun r_11 h_10 a_h_10 => ?_)
      refine fm_ite ?_ ?_
      · exact w_f_X11_hide_40_i0  _ a_h_10
      · refine fm_ob (w_f_X5_readOrder_i41 _ _ _) rfl a_h_10 (fun r_15 h_14 a_h_14 => ?_)
        refine fm_ite ?_ ?_
        · exact w_f_X11_hide_40_i0  _ a_h_14
        · refine fm_ob (w_f_X11_openDoor_i0 _ _ _) rfl a_h_14 (fun r_19 h_18 a_h_18 => ?_)
          exact w_f_X11_hide_56_i0  FU _ _ _ _ _ _ a_h_18
def W_X12_hide_i56 : List (Nat × Nat) := (56, 0) :: (56, 8) :: (56, 9) :: (56, 10) :: (56, 11) :: (56, 12) :: (56, 13) :: (56, 14) :: (56, 18) :: (56, 29) :: (56, 30) :: (60, 1000) :: (67, 1000) :: (68, 1000) :: (201, 0) :: []
theorem w_f_X12_hide_34_i56 {h0 : AH} : ∀ (h : AH), Agr W_X12_hide_i56 h0 h → Fm Prod.snd W_X12_hide_i56 h0 (f_X12_hide_34 h) := by
  intro h a_h
  unfold f_X12_hide_34
  exact fm_some a_h
theorem w_f_X12_hide_110_i56 {h0 : AH} {q50 : Nat → Int32 → Int32 → Int32 → Int32 → Int32 → AH → Option (Int32 × AH)} (hq50 : ∀ (y1 : Int32) (y2 : Int32) (y3 : Int32) (y4 : Int32) (y5 : Int32) (y6 : AH), Agr W_X12_hide_i56 h0 y6 → Fm Prod.snd W_X12_hide_i56 h0 (q50 56 y1 y2 y3 y4 y5 y6)) : ∀ (x4 : Int32) (x5 : Int32) (x6 : Int32) (x7 : Int32) (x8 : Int32) (h : AH), Agr W_X12_hide_i56 h0 h → Fm Prod.snd W_X12_hide_i56 h0 (f_X12_hide_110 q50 56 x4 x5 x6 x7 x8 h) := by
  intro x4 x5 x6 x7 x8 h a_h
  unfold f_X12_hide_110
  refine fm_nm (fun x8_1 => ?_)
  exact hq50 _ _ _ _ _ _ a_h
theorem w_f_X12_hide_107_i56 {h0 : AH} {q50 : Nat → Int32 → Int32 → Int32 → Int32 → Int32 → AH → Option (Int32 × AH)} (hq50 : ∀ (y1 : Int32) (y2 : Int32) (y3 : Int32) (y4 : Int32) (y5 : Int32) (y6 : AH), Agr W_X12_hide_i56 h0 y6 → Fm Prod.snd W_X12_hide_i56 h0 (q50 56 y1 y2 y3 y4 y5 y6)) : ∀ (x4 : Int32) (x5 : Int32) (x6 : Int32) (x8 : Int32) (s0 : Int32) (s1 : Int32) (h : AH), Agr W_X12_hide_i56 h0 h → Fm Prod.snd W_X12_hide_i56 h0 (f_X12_hide_107 q50 56 x4 x5 x6 x8 s0 s1 h) := by
  intro x4 x5 x6 x8 s0 s1 h a_h
  unfold f_X12_hide_107
  refine fm_nm (fun x7_1 => ?_)
  exact w_f_X12_hide_110_i56 hq50 _ _ _ _ _ _ a_h
theorem w_f_X12_hide_50_i56 {h0 : AH} : ∀ (n : Nat) (x4 : Int32) (x5 : Int32) (x6 : Int32) (x7 : Int32) (x8 : Int32) (h : AH), Agr W_X12_hide_i56 h0 h → Fm Prod.snd W_X12_hide_i56 h0 (f_X12_hide_50 n 56 x4 x5 x6 x7 x8 h) := by
  intro n
  induction n with
  | zero => intro x4 x5 x6 x7 x8 h _; exact fm_none
  | succ n ih =>
    intro x4 x5 x6 x7 x8 h a_h
    rw [f_X12_hide_50]
    refine fm_ite ?_ ?_
    · exact fm_some a_h
    · refine fm_ob (w_f_X12_has _ _ _) rfl a_h (fun r_4 h_3 a_h_3 => ?_)
      refine fm_ite ?_ ?_
      · exact w_f_X12_hide_110_i56 (fun y0 y1 y2 y3 y4 y5 a => ih y0 y1 y2 y3 y4 y5 a) _ _ _ _ _ _ a_h_3
      · refine fm_ov (w_f_X12_go_i56 _ _) rfl a_h_3 (fun h_7 a_h_7 => ?_)
        refine fm_og (fun hb1 => ?_)
        refine fm_ite ?_ ?_
        · exact w_f_X12_hide_107_i56 (fun y0 y1 y2 y3 y4 y5 a => ih y0 y1 y2 y3 y4 y5 a) _ _ _ _ _ _ _ a_h_7
        · exact w_f_X12_hide_107_i56 (fun y0 y1 y2 y3 y4 y5 a => ih y0 y1 y2 y3 y4 y5 a) _ _ _ _ _ _ _ a_h_7
theorem w_f_X12_hide_i56 (x1 : Int32) (x2 : Int32) (x3 : Int32) (x4 : Int32) (x5 : Int32) (h : AH) : Fm Prod.snd W_X12_hide_i56 h (f_X12_hide 56 x1 x2 x3 x4 x5 h) := by
  unfold f_X12_hide
  have a_h : Agr W_X12_hide_i56 h h := agr_refl h
  refine fm_nh (agr_sI a_h rfl) (fun h_1 a_h_1 => ?_)
  refine fm_ob (w_f_X12_isGuest_i56 _ _ _ _) rfl a_h_1 (fun r_5 h_4 a_h_4 => ?_)
  refine fm_ite ?_ ?_
  · exact w_f_X12_hide_34_i56  _ a_h_4
  · refine fm_ob (w_f_X12_isPair_i56 _ _) rfl a_h_4 (fun r_9 h_8 a_h_8 => ?_)
    refine fm_ite ?_ ?_
    · exact w_f_X12_hide_34_i56  _ a_h_8
    · refine fm_ob (w_f_X12_layOrder_i56 _ _ _) rfl a_h_8 (fun r_13 h_12 a_h_12 => ?_)
      refine fm_ite ?_ ?_
      · exact w_f_X12_hide_34_i56  _ a_h_12
      · refine fm_ob (w_f_X12_doorOf_i56 _ _ _) rfl a_h_12 (fun r_17 h_16 a_h_16 => ?_)
        exact w_f_X12_hide_50_i56  FU _ _ _ _ _ _ a_h_16
def W_X11_rests_i0 : List (Nat × Nat) := (14, 1000) :: (17, 1000) :: (20, 1000) :: (23, 1000) :: (36, 1000) :: (37, 1000) :: (38, 1000) :: (39, 1000) :: (40, 1000) :: (41, 2) :: (42, 1000) :: (43, 1000) :: (44, 1000) :: (46, 5) :: (47, 1000) :: (48, 1000) :: []
theorem w_f_X11_rests_33_i0 {h0 : AH} : ∀ (h : AH), Agr W_X11_rests_i0 h0 h → Fm Prod.snd W_X11_rests_i0 h0 (f_X11_rests_33 h) := by
  intro h a_h
  unfold f_X11_rests_33
  exact fm_some a_h
def W_X0_seat_i46 : List (Nat × Nat) := (46, 5) :: (47, 1000) :: []
theorem w_f_X0_seat_41_i46 {h0 : AH} {q7 : Nat → Int32 → Int32 → AH → Option AH} (hq7 : ∀ (y1 : Int32) (y2 : Int32) (y3 : AH), Agr W_X0_seat_i46 h0 y3 → Fm id W_X0_seat_i46 h0 (q7 46 y1 y2 y3)) : ∀ (x1 : Int32) (x2 : Int32) (h : AH), Agr W_X0_seat_i46 h0 h → Fm id W_X0_seat_i46 h0 (f_X0_seat_41 q7 46 x1 x2 h) := by
  intro x1 x2 h a_h
  unfold f_X0_seat_41
  refine fm_nm (fun x2_1 => ?_)
  exact hq7 _ _ _ a_h
theorem w_f_X0_seat_7_i46 {h0 : AH} : ∀ (n : Nat) (x1 : Int32) (x2 : Int32) (h : AH), Agr W_X0_seat_i46 h0 h → Fm id W_X0_seat_i46 h0 (f_X0_seat_7 n 46 x1 x2 h) := by
  intro n
  induction n with
  | zero => intro x1 x2 h _; exact fm_none
  | succ n ih =>
    intro x1 x2 h a_h
    rw [f_X0_seat_7]
    refine fm_ite ?_ ?_
    · exact fm_some a_h
    · refine fm_ob (w_f_X11_isIn _ _ _) rfl a_h (fun r_4 h_3 a_h_3 => ?_)
      refine fm_ite ?_ ?_
      · exact w_f_X0_seat_41_i46 (fun y0 y1 y2 a => ih y0 y1 y2 a) _ _ _ a_h_3
      · refine fm_og (fun hb1 => ?_)
        refine fm_nh (agr_sI a_h_3 rfl) (fun h_7 a_h_7 => ?_)
        refine fm_nh (agr_sI a_h_7 rfl) (fun h_9 a_h_9 => ?_)
        exact w_f_X0_seat_41_i46 (fun y0 y1 y2 a => ih y0 y1 y2 a) _ _ _ a_h_9
theorem w_f_X0_seat_i46 (x1 : Int32) (h : AH) : Fm id W_X0_seat_i46 h (f_X0_seat 46 x1 h) := by
  unfold f_X0_seat
  have a_h : Agr W_X0_seat_i46 h h := agr_refl h
  refine fm_nh (agr_sI a_h rfl) (fun h_1 a_h_1 => ?_)
  exact w_f_X0_seat_7_i46  FU _ _ _ a_h_1
def W_X0_findRest_i46 : List (Nat × Nat) := (14, 1000) :: (17, 1000) :: (20, 1000) :: (23, 1000) :: (38, 1000) :: (39, 1000) :: (40, 1000) :: (41, 2) :: (42, 1000) :: (43, 1000) :: (44, 1000) :: (48, 1000) :: []
theorem w_f_X0_findRest_110_i46 {h0 : AH} : ∀ (s0 : Int32) (h : AH), Agr W_X0_findRest_i46 h0 h → Fm Prod.snd W_X0_findRest_i46 h0 (f_X0_findRest_110 s0 h) := by
  intro s0 h a_h
  unfold f_X0_findRest_110
  exact fm_some a_h
def W_X0_shiftOf_i46 : List (Nat × Nat) := []
theorem w_f_X0_shiftOf_i46 (x1 : Int32) (h : AH) : Fm Prod.snd W_X0_shiftOf_i46 h (f_X0_shiftOf 46 x1 h) := by
  unfold f_X0_shiftOf
  have a_h : Agr W_X0_shiftOf_i46 h h := agr_refl h
  exact fm_some a_h
def W_X0_roundOf_i46 : List (Nat × Nat) := []
theorem w_f_X0_roundOf_i46 (x1 : Int32) (x2 : Int32) (h : AH) : Fm Prod.snd W_X0_roundOf_i46 h (f_X0_roundOf 46 x1 x2 h) := by
  unfold f_X0_roundOf
  have a_h : Agr W_X0_roundOf_i46 h h := agr_refl h
  refine fm_ob (w_f_X0_shiftOf_i46 _ _) rfl a_h (fun r_3 h_2 a_h_2 => ?_)
  exact fm_some a_h_2
def W_X0_isTold_i46 : List (Nat × Nat) := []
theorem w_f_X0_isTold_2_i46 {h0 : AH} : ∀ (n : Nat) (x1 : Int32) (x2 : Int32) (x3 : Int32) (h : AH), Agr W_X0_isTold_i46 h0 h → Fm Prod.snd W_X0_isTold_i46 h0 (f_X0_isTold_2 n 46 x1 x2 x3 h) := by
  intro n
  induction n with
  | zero => intro x1 x2 x3 h _; exact fm_none
  | succ n ih =>
    intro x1 x2 x3 h a_h
    rw [f_X0_isTold_2]
    refine fm_ite ?_ ?_
    · exact fm_some a_h
    · refine fm_ob (w_f_X0_roundOf_i46 _ _ _) rfl a_h (fun r_4 h_3 a_h_3 => ?_)
      refine fm_ite ?_ ?_
      · refine fm_nm (fun x3_6 => ?_)
        exact ih _ _ _ _ a_h_3
      · exact fm_some a_h_3
theorem w_f_X0_isTold_i46 (x1 : Int32) (x2 : Int32) (h : AH) : Fm Prod.snd W_X0_isTold_i46 h (f_X0_isTold 46 x1 x2 h) := by
  unfold f_X0_isTold
  have a_h : Agr W_X0_isTold_i46 h h := agr_refl h
  exact w_f_X0_isTold_2_i46  FU _ _ _ _ a_h
theorem w_f_X0_findRest_93_i46 {h0 : AH} {q54 : Nat → Int32 → Int32 → Int32 → Int32 → Int32 → AH → Option (Int32 × AH)} (hq54 : ∀ (y1 : Int32) (y2 : Int32) (y3 : Int32) (y4 : Int32) (y5 : Int32) (y6 : AH), Agr W_X0_findRest_i46 h0 y6 → Fm Prod.snd W_X0_findRest_i46 h0 (q54 46 y1 y2 y3 y4 y5 y6)) : ∀ (x2 : Int32) (x3 : Int32) (x4 : Int32) (x5 : Int32) (x6 : Int32) (h : AH), Agr W_X0_findRest_i46 h0 h → Fm Prod.snd W_X0_findRest_i46 h0 (f_X0_findRest_93 q54 46 x2 x3 x4 x5 x6 h) := by
  intro x2 x3 x4 x5 x6 h a_h
  unfold f_X0_findRest_93
  refine fm_nm (fun x6_1 => ?_)
  exact hq54 _ _ _ _ _ _ a_h
def W_X0_isRest_i46 : List (Nat × Nat) := []
theorem w_f_X0_isRest_26_i46 {h0 : AH} {q2 : Nat → Int32 → Int32 → Int32 → AH → Option (Int32 × AH)} (hq2 : ∀ (y1 : Int32) (y2 : Int32) (y3 : Int32) (y4 : AH), Agr W_X0_isRest_i46 h0 y4 → Fm Prod.snd W_X0_isRest_i46 h0 (q2 46 y1 y2 y3 y4)) : ∀ (n : Nat) (x1 : Int32) (x2 : Int32) (x3 : Int32) (x4 : Int32) (x5 : Int32) (h : AH), Agr W_X0_isRest_i46 h0 h → Fm Prod.snd W_X0_isRest_i46 h0 (f_X0_isRest_26 q2 n 46 x1 x2 x3 x4 x5 h) := by
  intro n
  induction n with
  | zero => intro x1 x2 x3 x4 x5 h _; exact fm_none
  | succ n ih =>
    intro x1 x2 x3 x4 x5 h a_h
    rw [f_X0_isRest_26]
    refine fm_ite ?_ ?_
    · refine fm_nm (fun x3_2 => ?_)
      exact hq2 _ _ _ _ a_h
    · refine fm_ob (w_f_X0_shiftOf_i46 _ _) rfl a_h (fun r_6 h_5 a_h_5 => ?_)
      refine fm_nm (fun x6_7 => ?_)
      refine fm_og (fun hb1 => ?_)
      refine fm_og (fun hb2 => ?_)
      refine fm_ite ?_ ?_
      · refine fm_nm (fun x5_12 => ?_)
        exact ih _ _ _ _ _ _ a_h_5
      · exact fm_some a_h_5
theorem w_f_X0_isRest_2_i46 {h0 : AH} : ∀ (n : Nat) (x1 : Int32) (x2 : Int32) (x3 : Int32) (h : AH), Agr W_X0_isRest_i46 h0 h → Fm Prod.snd W_X0_isRest_i46 h0 (f_X0_isRest_2 n 46 x1 x2 x3 h) := by
  intro n
  induction n with
  | zero => intro x1 x2 x3 h _; exact fm_none
  | succ n ih =>
    intro x1 x2 x3 h a_h
    rw [f_X0_isRest_2]
    refine fm_ite ?_ ?_
    · exact fm_some a_h
    · refine fm_ob (w_f_X0_shiftOf_i46 _ _) rfl a_h (fun r_4 h_3 a_h_3 => ?_)
      refine fm_nm (fun x4_5 => ?_)
      exact w_f_X0_isRest_26_i46 (fun y0 y1 y2 y3 a => ih y0 y1 y2 y3 a) FU _ _ _ _ _ _ a_h_3
theorem w_f_X0_isRest_i46 (x1 : Int32) (x2 : Int32) (h : AH) : Fm Prod.snd W_X0_isRest_i46 h (f_X0_isRest 46 x1 x2 h) := by
  unfold f_X0_isRest
  have a_h : Agr W_X0_isRest_i46 h h := agr_refl h
  exact w_f_X0_isRest_2_i46  FU _ _ _ _ a_h
theorem w_f_X0_findRest_54_i46 {h0 : AH} : ∀ (n : Nat) (x2 : Int32) (x3 : Int32) (x4 : Int32) (x5 : Int32) (x6 : Int32) (h : AH), Agr W_X0_findRest_i46 h0 h → Fm Prod.snd W_X0_findRest_i46 h0 (f_X0_findRest_54 n 46 x2 x3 x4 x5 x6 h) := by
  intro n
  induction n with
  | zero => intro x2 x3 x4 x5 x6 h _; exact fm_none
  | succ n ih =>
    intro x2 x3 x4 x5 x6 h a_h
    rw [f_X0_findRest_54]
    refine fm_ite ?_ ?_
    · refine fm_ite ?_ ?_
      · exact w_f_X0_findRest_110_i46  _ _ a_h
      · exact w_f_X0_findRest_110_i46  _ _ a_h
    · refine fm_ob (w_f_X0_isTold_i46 _ _ _) rfl a_h (fun r_5 h_4 a_h_4 => ?_)
      refine fm_ite ?_ ?_
      · exact w_f_X0_findRest_93_i46 (fun y0 y1 y2 y3 y4 y5 a => ih y0 y1 y2 y3 y4 y5 a) _ _ _ _ _ _ a_h_4
      · refine fm_ob (w_f_X0_isRest_i46 _ _ _) rfl a_h_4 (fun r_9 h_8 a_h_8 => ?_)
        refine fm_ite ?_ ?_
        · exact w_f_X0_findRest_93_i46 (fun y0 y1 y2 y3 y4 y5 a => ih y0 y1 y2 y3 y4 y5 a) _ _ _ _ _ _ a_h_8
        · refine fm_ite ?_ ?_
          · exact fm_some a_h_8
          · refine fm_nm (fun x5_12 => ?_)
            exact w_f_X0_findRest_93_i46 (fun y0 y1 y2 y3 y4 y5 a => ih y0 y1 y2 y3 y4 y5 a) _ _ _ _ _ _ a_h_8
theorem w_f_X0_findRest_42_i46 {h0 : AH} {q17 : Nat → Int32 → Int32 → Int32 → Int32 → Int32 → AH → Option (Int32 × AH)} (hq17 : ∀ (y1 : Int32) (y2 : Int32) (y3 : Int32) (y4 : Int32) (y5 : Int32) (y6 : AH), Agr W_X0_findRest_i46 h0 y6 → Fm Prod.snd W_X0_findRest_i46 h0 (q17 46 y1 y2 y3 y4 y5 y6)) : ∀ (x1 : Int32) (x2 : Int32) (x3 : Int32) (x4 : Int32) (x5 : Int32) (h : AH), Agr W_X0_findRest_i46 h0 h → Fm Prod.snd W_X0_findRest_i46 h0 (f_X0_findRest_42 q17 46 x1 x2 x3 x4 x5 h) := by
  intro x1 x2 x3 x4 x5 h a_h
  unfold f_X0_findRest_42
  refine fm_nm (fun x5_1 => ?_)
  exact hq17 _ _ _ _ _ _ a_h
def W_X0_rise_i46 : List (Nat × Nat) := (14, 1000) :: (17, 1000) :: (20, 1000) :: (23, 1000) :: (38, 1000) :: (39, 1000) :: (40, 1000) :: (41, 2) :: (42, 1000) :: (43, 1000) :: (44, 1000) :: (48, 1000) :: []
theorem w_f_X0_rise_86_i46 {h0 : AH} : ∀ (n : Nat) (x1 : Int32) (x4 : Int32) (h : AH), Agr W_X0_rise_i46 h0 h → Fm id W_X0_rise_i46 h0 (f_X0_rise_86 n 46 x1 x4 h) := by
  intro n
  induction n with
  | zero => intro x1 x4 h _; exact fm_none
  | succ n ih =>
    intro x1 x4 h a_h
    rw [f_X0_rise_86]
    refine fm_ite ?_ ?_
    · exact fm_some a_h
    · refine fm_og (fun hb1 => ?_)
      refine fm_ob (w_f_X6_item_i3 _ _ _) rfl a_h (fun r_5 h_4 a_h_4 => ?_)
      refine fm_ob (w_f_X0_roundOf_i46 _ _ _) rfl a_h_4 (fun r_8 h_7 a_h_7 => ?_)
      refine fm_nm (fun x5_9 => ?_)
      refine fm_og (fun hb2 => ?_)
      refine fm_ob (w_f_X5_worthOf_i41 _ _) rfl a_h_7 (fun r_14 h_13 a_h_13 => ?_)
      refine fm_og (fun hb3 => ?_)
      refine fm_nh (agr_sI a_h_13 rfl) (fun h_16 a_h_16 => ?_)
      refine fm_nm (fun x4_18 => ?_)
      exact ih _ _ _ a_h_16
theorem w_f_X0_rise_55_i46 {h0 : AH} {q20 : Nat → Int32 → Int32 → Int32 → Int32 → Int32 → AH → Option AH} (hq20 : ∀ (y1 : Int32) (y2 : Int32) (y3 : Int32) (y4 : Int32) (y5 : Int32) (y6 : AH), Agr W_X0_rise_i46 h0 y6 → Fm id W_X0_rise_i46 h0 (q20 46 y1 y2 y3 y4 y5 y6)) : ∀ (x1 : Int32) (x2 : Int32) (x3 : Int32) (x4 : Int32) (x5 : Int32) (h : AH), Agr W_X0_rise_i46 h0 h → Fm id W_X0_rise_i46 h0 (f_X0_rise_55 q20 46 x1 x2 x3 x4 x5 h) := by
  intro x1 x2 x3 x4 x5 h a_h
  unfold f_X0_rise_55
  refine fm_nm (fun x5_1 => ?_)
  exact hq20 _ _ _ _ _ _ a_h
theorem w_f_X0_rise_20_i46 {h0 : AH} {q11 : Nat → Int32 → Int32 → Int32 → Int32 → AH → Option AH} (hq11 : ∀ (y1 : Int32) (y2 : Int32) (y3 : Int32) (y4 : Int32) (y5 : AH), Agr W_X0_rise_i46 h0 y5 → Fm id W_X0_rise_i46 h0 (q11 46 y1 y2 y3 y4 y5)) : ∀ (n : Nat) (x1 : Int32) (x2 : Int32) (x3 : Int32) (x4 : Int32) (x5 : Int32) (h : AH), Agr W_X0_rise_i46 h0 h → Fm id W_X0_rise_i46 h0 (f_X0_rise_20 q11 n 46 x1 x2 x3 x4 x5 h) := by
  intro n
  induction n with
  | zero => intro x1 x2 x3 x4 x5 h _; exact fm_none
  | succ n ih =>
    intro x1 x2 x3 x4 x5 h a_h
    rw [f_X0_rise_20]
    refine fm_ite ?_ ?_
    · refine fm_nm (fun x4_2 => ?_)
      exact hq11 _ _ _ _ _ a_h
    · refine fm_ob (w_f_X0_roundOf_i46 _ _ _) rfl a_h (fun r_6 h_5 a_h_5 => ?_)
      refine fm_ite ?_ ?_
      · refine fm_og (fun hb1 => ?_)
        refine fm_ov (w_f_X5_add_i41 _ _) rfl a_h_5 (fun h_10 a_h_10 => ?_)
        exact w_f_X0_rise_55_i46 (fun y0 y1 y2 y3 y4 y5 a => ih y0 y1 y2 y3 y4 y5 a) _ _ _ _ _ _ a_h_10
      · exact w_f_X0_rise_55_i46 (fun y0 y1 y2 y3 y4 y5 a => ih y0 y1 y2 y3 y4 y5 a) _ _ _ _ _ _ a_h_5
theorem w_f_X0_rise_11_i46 {h0 : AH} : ∀ (n : Nat) (x1 : Int32) (x2 : Int32) (x3 : Int32) (x4 : Int32) (h : AH), Agr W_X0_rise_i46 h0 h → Fm id W_X0_rise_i46 h0 (f_X0_rise_11 n 46 x1 x2 x3 x4 h) := by
  intro n
  induction n with
  | zero => intro x1 x2 x3 x4 h _; exact fm_none
  | succ n ih =>
    intro x1 x2 x3 x4 h a_h
    rw [f_X0_rise_11]
    refine fm_ite ?_ ?_
    · refine fm_ov (w_f_X5_begin_i41 _ _) rfl a_h (fun h_3 a_h_3 => ?_)
      refine fm_ov (w_f_X5_go_i41 _ _) rfl a_h_3 (fun h_5 a_h_5 => ?_)
      exact w_f_X0_rise_86_i46  FU _ _ _ a_h_5
    · exact w_f_X0_rise_20_i46 (fun y0 y1 y2 y3 y4 a => ih y0 y1 y2 y3 y4 a) FU _ _ _ _ _ _ a_h
theorem w_f_X0_rise_i46 (x1 : Int32) (x2 : Int32) (x3 : Int32) (h : AH) : Fm id W_X0_rise_i46 h (f_X0_rise 46 x1 x2 x3 h) := by
  unfold f_X0_rise
  have a_h : Agr W_X0_rise_i46 h h := agr_refl h
  refine fm_ov (w_f_X5_lowest_i41 _ _) rfl a_h (fun h_2 a_h_2 => ?_)
  exact w_f_X0_rise_11_i46  FU _ _ _ _ _ a_h_2
theorem w_f_X0_findRest_17_i46 {h0 : AH} : ∀ (n : Nat) (x1 : Int32) (x2 : Int32) (x3 : Int32) (x4 : Int32) (x5 : Int32) (h : AH), Agr W_X0_findRest_i46 h0 h → Fm Prod.snd W_X0_findRest_i46 h0 (f_X0_findRest_17 n 46 x1 x2 x3 x4 x5 h) := by
  intro n
  induction n with
  | zero => intro x1 x2 x3 x4 x5 h _; exact fm_none
  | succ n ih =>
    intro x1 x2 x3 x4 x5 h a_h
    rw [f_X0_findRest_17]
    refine fm_ite ?_ ?_
    · exact w_f_X0_findRest_54_i46  FU _ _ _ _ _ _ a_h
    · refine fm_ob (w_f_X0_isTold_i46 _ _ _) rfl a_h (fun r_4 h_3 a_h_3 => ?_)
      refine fm_ite ?_ ?_
      · exact w_f_X0_findRest_42_i46 (fun y0 y1 y2 y3 y4 y5 a => ih y0 y1 y2 y3 y4 y5 a) _ _ _ _ _ _ a_h_3
      · refine fm_ov (w_f_X0_rise_i46 _ _ _ _) rfl a_h_3 (fun h_7 a_h_7 => ?_)
        exact w_f_X0_findRest_42_i46 (fun y0 y1 y2 y3 y4 y5 a => ih y0 y1 y2 y3 y4 y5 a) _ _ _ _ _ _ a_h_7
theorem w_f_X0_findRest_i46 (x1 : Int32) (x2 : Int32) (x3 : Int32) (h : AH) : Fm Prod.snd W_X0_findRest_i46 h (f_X0_findRest 46 x1 x2 x3 h) := by
  unfold f_X0_findRest
  have a_h : Agr W_X0_findRest_i46 h h := agr_refl h
  refine fm_nm (fun x4_1 => ?_)
  exact w_f_X0_findRest_17_i46  FU _ _ _ _ _ _ a_h
theorem w_f_X11_rests_i0 (x1 : Int32) (x2 : Int32) (x3 : Int32) (x4 : Int32) (h : AH) : Fm Prod.snd W_X11_rests_i0 h (f_X11_rests 0 x1 x2 x3 x4 h) := by
  unfold f_X11_rests
  have a_h : Agr W_X11_rests_i0 h h := agr_refl h
  refine fm_ob (w_f_X11_isParty_i0 _ _ _) rfl a_h (fun r_3 h_2 a_h_2 => ?_)
  refine fm_ite ?_ ?_
  · exact w_f_X11_rests_33_i0  _ a_h_2
  · refine fm_ob (w_f_J6_bitCount_0f7a4 _ _) rfl a_h_2 (fun r_7 h_6 a_h_6 => ?_)
    refine fm_ite ?_ ?_
    · exact w_f_X11_rests_33_i0  _ a_h_6
    · refine fm_ite ?_ ?_
      · exact w_f_X11_rests_33_i0  _ a_h_6
      · refine fm_ite ?_ ?_
        · exact w_f_X11_rests_33_i0  _ a_h_6
        · refine fm_ite ?_ ?_
          · refine fm_ov (w_f_X0_seat_i46 _ _) rfl a_h_6 (fun h_13 a_h_13 => ?_)
            refine fm_ob (w_f_X11_openDoor_i0 _ _ _) rfl a_h_13 (fun r_16 h_15 a_h_15 => ?_)
            refine fm_ob (w_f_X0_findRest_i46 _ _ _ _) rfl a_h_15 (fun r_19 h_18 a_h_18 => ?_)
            exact fm_some a_h_18
          · exact w_f_X11_rests_33_i0  _ a_h_6
def W_X12_rests_i56 : List (Nat × Nat) := (56, 0) :: (56, 8) :: (56, 9) :: (56, 10) :: (56, 11) :: (56, 12) :: (56, 13) :: (56, 14) :: (56, 18) :: (56, 29) :: (56, 30) :: (60, 1000) :: (67, 1000) :: (68, 1000) :: (72, 1000) :: (201, 0) :: []
theorem w_f_X12_rests_40_i56 {h0 : AH} : ∀ (h : AH), Agr W_X12_rests_i56 h0 h → Fm Prod.snd W_X12_rests_i56 h0 (f_X12_rests_40 h) := by
  intro h a_h
  unfold f_X12_rests_40
  exact fm_some a_h
theorem w_f_X12_rests_116_i56 {h0 : AH} : ∀ (s0 : Int32) (h : AH), Agr W_X12_rests_i56 h0 h → Fm Prod.snd W_X12_rests_i56 h0 (f_X12_rests_116 s0 h) := by
  intro s0 h a_h
  unfold f_X12_rests_116
  exact fm_some a_h
def W_X12_layRounds_i56 : List (Nat × Nat) := (72, 1000) :: []
theorem w_f_X12_layRounds_58_i56 {h0 : AH} {q11 : Nat → Int32 → Int32 → Int32 → Int32 → AH → Option (Int32 × AH)} (hq11 : ∀ (y1 : Int32) (y2 : Int32) (y3 : Int32) (y4 : Int32) (y5 : AH), Agr W_X12_layRounds_i56 h0 y5 → Fm Prod.snd W_X12_layRounds_i56 h0 (q11 56 y1 y2 y3 y4 y5)) : ∀ (x1 : Int32) (x3 : Int32) (x4 : Int32) (x5 : Int32) (h : AH), Agr W_X12_layRounds_i56 h0 h → Fm Prod.snd W_X12_layRounds_i56 h0 (f_X12_layRounds_58 q11 56 x1 x3 x4 x5 h) := by
  intro x1 x3 x4 x5 h a_h
  unfold f_X12_layRounds_58
  refine fm_nm (fun x5_1 => ?_)
  exact hq11 _ _ _ _ _ a_h
theorem w_f_X12_layRounds_11_i56 {h0 : AH} : ∀ (n : Nat) (x1 : Int32) (x3 : Int32) (x4 : Int32) (x5 : Int32) (h : AH), Agr W_X12_layRounds_i56 h0 h → Fm Prod.snd W_X12_layRounds_i56 h0 (f_X12_layRounds_11 n 56 x1 x3 x4 x5 h) := by
  intro n
  induction n with
  | zero => intro x1 x3 x4 x5 h _; exact fm_none
  | succ n ih =>
    intro x1 x3 x4 x5 h a_h
    rw [f_X12_layRounds_11]
    refine fm_ite ?_ ?_
    · exact fm_some a_h
    · refine fm_ob (w_f_X12_has _ _ _) rfl a_h (fun r_4 h_3 a_h_3 => ?_)
      refine fm_ite ?_ ?_
      · exact w_f_X12_layRounds_58_i56 (fun y0 y1 y2 y3 y4 a => ih y0 y1 y2 y3 y4 a) _ _ _ _ _ a_h_3
      · refine fm_og (fun hb1 => ?_)
        refine fm_nh (agr_sI a_h_3 rfl) (fun h_7 a_h_7 => ?_)
        refine fm_nm (fun x4_9 => ?_)
        refine fm_og (fun hb2 => ?_)
        refine fm_ite ?_ ?_
        · exact w_f_X12_layRounds_58_i56 (fun y0 y1 y2 y3 y4 a => ih y0 y1 y2 y3 y4 a) _ _ _ _ _ a_h_7
        · exact fm_some a_h_7
theorem w_f_X12_layRounds_i56 (x1 : Int32) (x2 : Int32) (x3 : Int32) (h : AH) : Fm Prod.snd W_X12_layRounds_i56 h (f_X12_layRounds 56 x1 x2 x3 h) := by
  unfold f_X12_layRounds
  have a_h : Agr W_X12_layRounds_i56 h h := agr_refl h
  refine fm_nm (fun x5_1 => ?_)
  exact w_f_X12_layRounds_11_i56  FU _ _ _ _ _ a_h
theorem w_f_X12_rests_98_i56 {h0 : AH} {q48 : Nat → Int32 → Int32 → Int32 → Int32 → Int32 → Int32 → AH → Option (Int32 × AH)} (hq48 : ∀ (y1 : Int32) (y2 : Int32) (y3 : Int32) (y4 : Int32) (y5 : Int32) (y6 : Int32) (y7 : AH), Agr W_X12_rests_i56 h0 y7 → Fm Prod.snd W_X12_rests_i56 h0 (q48 56 y1 y2 y3 y4 y5 y6 y7)) : ∀ (x1 : Int32) (x2 : Int32) (x3 : Int32) (x4 : Int32) (x5 : Int32) (x6 : Int32) (h : AH), Agr W_X12_rests_i56 h0 h → Fm Prod.snd W_X12_rests_i56 h0 (f_X12_rests_98 q48 56 x1 x2 x3 x4 x5 x6 h) := by
  intro x1 x2 x3 x4 x5 x6 h a_h
  unfold f_X12_rests_98
  refine fm_nm (fun x6_1 => ?_)
  exact hq48 _ _ _ _ _ _ _ a_h
def W_X12_isRest_i56 : List (Nat × Nat) := (56, 8) :: (56, 9) :: (56, 10) :: (56, 11) :: (56, 12) :: (56, 13) :: (56, 14) :: (56, 18) :: (56, 29) :: (56, 30) :: (60, 1000) :: (67, 1000) :: (68, 1000) :: (72, 1000) :: (201, 0) :: []
theorem w_f_X12_isRest_111_i56 {h0 : AH} {q3 : Nat → Int32 → Int32 → Int32 → Int32 → AH → Option (Int32 × AH)} (hq3 : ∀ (y1 : Int32) (y2 : Int32) (y3 : Int32) (y4 : Int32) (y5 : AH), Agr W_X12_isRest_i56 h0 y5 → Fm Prod.snd W_X12_isRest_i56 h0 (q3 56 y1 y2 y3 y4 y5)) : ∀ (x1 : Int32) (x2 : Int32) (x3 : Int32) (x4 : Int32) (h : AH), Agr W_X12_isRest_i56 h0 h → Fm Prod.snd W_X12_isRest_i56 h0 (f_X12_isRest_111 q3 56 x1 x2 x3 x4 h) := by
  intro x1 x2 x3 x4 h a_h
  unfold f_X12_isRest_111
  refine fm_nm (fun x4_1 => ?_)
  exact hq3 _ _ _ _ _ a_h
def W_X12_orderByRounds_i56 : List (Nat × Nat) := (56, 29) :: (67, 1000) :: []
theorem w_f_X12_orderByRounds_63_i56 {h0 : AH} {q14 : Nat → Int32 → Int32 → Int32 → AH → Option AH} (hq14 : ∀ (y1 : Int32) (y2 : Int32) (y3 : Int32) (y4 : AH), Agr W_X12_orderByRounds_i56 h0 y4 → Fm id W_X12_orderByRounds_i56 h0 (q14 56 y1 y2 y3 y4)) : ∀ (x1 : Int32) (x2 : Int32) (x3 : Int32) (h : AH), Agr W_X12_orderByRounds_i56 h0 h → Fm id W_X12_orderByRounds_i56 h0 (f_X12_orderByRounds_63 q14 56 x1 x2 x3 h) := by
  intro x1 x2 x3 h a_h
  unfold f_X12_orderByRounds_63
  refine fm_nm (fun x3_1 => ?_)
  exact hq14 _ _ _ _ a_h
theorem w_f_X12_orderByRounds_14_i56 {h0 : AH} {q7 : Nat → Int32 → Int32 → AH → Option AH} (hq7 : ∀ (y1 : Int32) (y2 : Int32) (y3 : AH), Agr W_X12_orderByRounds_i56 h0 y3 → Fm id W_X12_orderByRounds_i56 h0 (q7 56 y1 y2 y3)) : ∀ (n : Nat) (x1 : Int32) (x2 : Int32) (x3 : Int32) (h : AH), Agr W_X12_orderByRounds_i56 h0 h → Fm id W_X12_orderByRounds_i56 h0 (f_X12_orderByRounds_14 q7 n 56 x1 x2 x3 h) := by
  intro n
  induction n with
  | zero => intro x1 x2 x3 h _; exact fm_none
  | succ n ih =>
    intro x1 x2 x3 h a_h
    rw [f_X12_orderByRounds_14]
    refine fm_ite ?_ ?_
    · refine fm_nm (fun x2_2 => ?_)
      exact hq7 _ _ _ a_h
    · refine fm_ob (w_f_X12_has _ _ _) rfl a_h (fun r_6 h_5 a_h_5 => ?_)
      refine fm_ite ?_ ?_
      · exact w_f_X12_orderByRounds_63_i56 (fun y0 y1 y2 y3 a => ih y0 y1 y2 y3 a) _ _ _ _ a_h_5
      · refine fm_og (fun hb1 => ?_)
        refine fm_ite ?_ ?_
        · refine fm_og (fun hb2 => ?_)
          refine fm_nh (agr_sI a_h_5 rfl) (fun h_11 a_h_11 => ?_)
          refine fm_nh (agr_sI a_h_11 rfl) (fun h_13 a_h_13 => ?_)
          exact w_f_X12_orderByRounds_63_i56 (fun y0 y1 y2 y3 a => ih y0 y1 y2 y3 a) _ _ _ _ a_h_13
        · exact w_f_X12_orderByRounds_63_i56 (fun y0 y1 y2 y3 a => ih y0 y1 y2 y3 a) _ _ _ _ a_h_5
theorem w_f_X12_orderByRounds_7_i56 {h0 : AH} : ∀ (n : Nat) (x1 : Int32) (x2 : Int32) (h : AH), Agr W_X12_orderByRounds_i56 h0 h → Fm id W_X12_orderByRounds_i56 h0 (f_X12_orderByRounds_7 n 56 x1 x2 h) := by
  intro n
  induction n with
  | zero => intro x1 x2 h _; exact fm_none
  | succ n ih =>
    intro x1 x2 h a_h
    rw [f_X12_orderByRounds_7]
    refine fm_ite ?_ ?_
    · exact fm_some a_h
    · exact w_f_X12_orderByRounds_14_i56 (fun y0 y1 y2 a => ih y0 y1 y2 a) FU _ _ _ _ a_h
theorem w_f_X12_orderByRounds_i56 (x1 : Int32) (h : AH) : Fm id W_X12_orderByRounds_i56 h (f_X12_orderByRounds 56 x1 h) := by
  unfold f_X12_orderByRounds
  have a_h : Agr W_X12_orderByRounds_i56 h h := agr_refl h
  refine fm_nh (agr_sI a_h rfl) (fun h_1 a_h_1 => ?_)
  exact w_f_X12_orderByRounds_7_i56  FU _ _ _ a_h_1
def W_X12_gainOf_i56 : List (Nat × Nat) := (56, 8) :: (56, 9) :: (56, 10) :: (56, 11) :: (56, 12) :: (56, 13) :: (56, 14) :: (56, 18) :: (56, 29) :: (56, 30) :: (60, 1000) :: (67, 1000) :: (68, 1000) :: (201, 0) :: []
theorem w_f_X12_gainOf_i56 (x1 : Int32) (x2 : Int32) (x3 : Int32) (h : AH) : Fm Prod.snd W_X12_gainOf_i56 h (f_X12_gainOf 56 x1 x2 x3 h) := by
  unfold f_X12_gainOf
  have a_h : Agr W_X12_gainOf_i56 h h := agr_refl h
  refine fm_ov (w_f_X12_orderByRounds_i56 _ _) rfl a_h (fun h_2 a_h_2 => ?_)
  refine fm_ob (w_f_X12_doorOf_i56 _ _ _) rfl a_h_2 (fun r_5 h_4 a_h_4 => ?_)
  refine fm_ov (w_f_X12_go_i56 _ _) rfl a_h_4 (fun h_7 a_h_7 => ?_)
  refine fm_ob (w_f_X12_partOf_i56 _ _ _) rfl a_h_7 (fun r_10 h_9 a_h_9 => ?_)
  refine fm_og (fun hb1 => ?_)
  refine fm_ob (w_f_X12_worthOf_i56 _ _) rfl a_h_9 (fun r_14 h_13 a_h_13 => ?_)
  exact fm_some a_h_13
theorem w_f_X12_isRest_87_i56 {h0 : AH} {q49 : Nat → Int32 → Int32 → Int32 → Int32 → Int32 → Int32 → Int32 → Int32 → AH → Option (Int32 × AH)} (hq49 : ∀ (y1 : Int32) (y2 : Int32) (y3 : Int32) (y4 : Int32) (y5 : Int32) (y6 : Int32) (y7 : Int32) (y8 : Int32) (y9 : AH), Agr W_X12_isRest_i56 h0 y9 → Fm Prod.snd W_X12_isRest_i56 h0 (q49 56 y1 y2 y3 y4 y5 y6 y7 y8 y9)) : ∀ (x1 : Int32) (x2 : Int32) (x3 : Int32) (x4 : Int32) (x5 : Int32) (x6 : Int32) (x8 : Int32) (s0 : Int32) (h : AH), Agr W_X12_isRest_i56 h0 h → Fm Prod.snd W_X12_isRest_i56 h0 (f_X12_isRest_87 q49 56 x1 x2 x3 x4 x5 x6 x8 s0 h) := by
  intro x1 x2 x3 x4 x5 x6 x8 s0 h a_h
  unfold f_X12_isRest_87
  refine fm_nm (fun x8_1 => ?_)
  exact hq49 _ _ _ _ _ _ _ _ _ a_h
theorem w_f_X12_isRest_82_i56 {h0 : AH} {q49 : Nat → Int32 → Int32 → Int32 → Int32 → Int32 → Int32 → Int32 → Int32 → AH → Option (Int32 × AH)} (hq49 : ∀ (y1 : Int32) (y2 : Int32) (y3 : Int32) (y4 : Int32) (y5 : Int32) (y6 : Int32) (y7 : Int32) (y8 : Int32) (y9 : AH), Agr W_X12_isRest_i56 h0 y9 → Fm Prod.snd W_X12_isRest_i56 h0 (q49 56 y1 y2 y3 y4 y5 y6 y7 y8 y9)) : ∀ (x1 : Int32) (x2 : Int32) (x3 : Int32) (x4 : Int32) (x5 : Int32) (x6 : Int32) (x8 : Int32) (h : AH), Agr W_X12_isRest_i56 h0 h → Fm Prod.snd W_X12_isRest_i56 h0 (f_X12_isRest_82 q49 56 x1 x2 x3 x4 x5 x6 x8 h) := by
  intro x1 x2 x3 x4 x5 x6 x8 h a_h
  unfold f_X12_isRest_82
  exact w_f_X12_isRest_87_i56 hq49 _ _ _ _ _ _ _ _ _ a_h
theorem w_f_X12_isRest_49_i56 {h0 : AH} {q3 : Nat → Int32 → Int32 → Int32 → Int32 → AH → Option (Int32 × AH)} (hq3 : ∀ (y1 : Int32) (y2 : Int32) (y3 : Int32) (y4 : Int32) (y5 : AH), Agr W_X12_isRest_i56 h0 y5 → Fm Prod.snd W_X12_isRest_i56 h0 (q3 56 y1 y2 y3 y4 y5)) : ∀ (n : Nat) (x1 : Int32) (x2 : Int32) (x3 : Int32) (x4 : Int32) (x5 : Int32) (x6 : Int32) (x7 : Int32) (x8 : Int32) (h : AH), Agr W_X12_isRest_i56 h0 h → Fm Prod.snd W_X12_isRest_i56 h0 (f_X12_isRest_49 q3 n 56 x1 x2 x3 x4 x5 x6 x7 x8 h) := by
  intro n
  induction n with
  | zero => intro x1 x2 x3 x4 x5 x6 x7 x8 h _; exact fm_none
  | succ n ih =>
    intro x1 x2 x3 x4 x5 x6 x7 x8 h a_h
    rw [f_X12_isRest_49]
    refine fm_ite ?_ ?_
    · refine fm_og (fun hb1 => ?_)
      refine fm_nh (agr_sI a_h rfl) (fun h_3 a_h_3 => ?_)
      refine fm_ite ?_ ?_
      · exact w_f_X12_isRest_111_i56 hq3 _ _ _ _ _ a_h_3
      · exact fm_some a_h_3
    · refine fm_og (fun hb2 => ?_)
      refine fm_nh (agr_sI a_h rfl) (fun h_7 a_h_7 => ?_)
      refine fm_ite ?_ ?_
      · refine fm_ob (w_f_X12_gainOf_i56 _ _ _ _) rfl a_h_7 (fun r_12 h_11 a_h_11 => ?_)
        refine fm_ite ?_ ?_
        · exact w_f_X12_isRest_87_i56 (fun y0 y1 y2 y3 y4 y5 y6 y7 y8 a => ih y0 y1 y2 y3 y4 y5 y6 y7 y8 a) _ _ _ _ _ _ _ _ _ a_h_11
        · exact w_f_X12_isRest_82_i56 (fun y0 y1 y2 y3 y4 y5 y6 y7 y8 a => ih y0 y1 y2 y3 y4 y5 y6 y7 y8 a) _ _ _ _ _ _ _ _ a_h_11
      · exact w_f_X12_isRest_82_i56 (fun y0 y1 y2 y3 y4 y5 y6 y7 y8 a => ih y0 y1 y2 y3 y4 y5 y6 y7 y8 a) _ _ _ _ _ _ _ _ a_h_7
theorem w_f_X12_isRest_3_i56 {h0 : AH} : ∀ (n : Nat) (x1 : Int32) (x2 : Int32) (x3 : Int32) (x4 : Int32) (h : AH), Agr W_X12_isRest_i56 h0 h → Fm Prod.snd W_X12_isRest_i56 h0 (f_X12_isRest_3 n 56 x1 x2 x3 x4 h) := by
  intro n
  induction n with
  | zero => intro x1 x2 x3 x4 h _; exact fm_none
  | succ n ih =>
    intro x1 x2 x3 x4 h a_h
    rw [f_X12_isRest_3]
    refine fm_ite ?_ ?_
    · exact fm_some a_h
    · refine fm_ob (w_f_X12_has _ _ _) rfl a_h (fun r_4 h_3 a_h_3 => ?_)
      refine fm_ite ?_ ?_
      · exact w_f_X12_isRest_111_i56 (fun y0 y1 y2 y3 y4 a => ih y0 y1 y2 y3 y4 a) _ _ _ _ _ a_h_3
      · refine fm_og (fun hb1 => ?_)
        refine fm_nm (fun x5_7 => ?_)
        refine fm_ob (w_f_X12_gainOf_i56 _ _ _ _) rfl a_h_3 (fun r_11 h_10 a_h_10 => ?_)
        exact w_f_X12_isRest_49_i56 (fun y0 y1 y2 y3 y4 a => ih y0 y1 y2 y3 y4 a) FU _ _ _ _ _ _ _ _ _ a_h_10
theorem w_f_X12_isRest_i56 (x1 : Int32) (x2 : Int32) (x3 : Int32) (h : AH) : Fm Prod.snd W_X12_isRest_i56 h (f_X12_isRest 56 x1 x2 x3 h) := by
  unfold f_X12_isRest
  have a_h : Agr W_X12_isRest_i56 h h := agr_refl h
  exact w_f_X12_isRest_3_i56  FU _ _ _ _ _ a_h
theorem w_f_X12_rests_48_i56 {h0 : AH} : ∀ (n : Nat) (x1 : Int32) (x2 : Int32) (x3 : Int32) (x4 : Int32) (x5 : Int32) (x6 : Int32) (h : AH), Agr W_X12_rests_i56 h0 h → Fm Prod.snd W_X12_rests_i56 h0 (f_X12_rests_48 n 56 x1 x2 x3 x4 x5 x6 h) := by
  intro n
  induction n with
  | zero => intro x1 x2 x3 x4 x5 x6 h _; exact fm_none
  | succ n ih =>
    intro x1 x2 x3 x4 x5 x6 h a_h
    rw [f_X12_rests_48]
    refine fm_ob (w_f_J6_bitCount_0f7a4 _ _) rfl a_h (fun r_3 h_2 a_h_2 => ?_)
    refine fm_ite ?_ ?_
    · refine fm_ite ?_ ?_
      · exact w_f_X12_rests_116_i56  _ _ a_h_2
      · exact w_f_X12_rests_116_i56  _ _ a_h_2
    · refine fm_ob (w_f_X12_layRounds_i56 _ _ _ _) rfl a_h_2 (fun r_8 h_7 a_h_7 => ?_)
      refine fm_ite ?_ ?_
      · exact w_f_X12_rests_98_i56 (fun y0 y1 y2 y3 y4 y5 y6 a => ih y0 y1 y2 y3 y4 y5 y6 a) _ _ _ _ _ _ _ a_h_7
      · refine fm_ob (w_f_X12_isRest_i56 _ _ _ _) rfl a_h_7 (fun r_12 h_11 a_h_11 => ?_)
        refine fm_ite ?_ ?_
        · exact w_f_X12_rests_98_i56 (fun y0 y1 y2 y3 y4 y5 y6 a => ih y0 y1 y2 y3 y4 y5 y6 a) _ _ _ _ _ _ _ a_h_11
        · refine fm_ite ?_ ?_
          · exact fm_some a_h_11
          · refine fm_nm (fun x5_15 => ?_)
            exact w_f_X12_rests_98_i56 (fun y0 y1 y2 y3 y4 y5 y6 a => ih y0 y1 y2 y3 y4 y5 y6 a) _ _ _ _ _ _ _ a_h_11
theorem w_f_X12_rests_i56 (x1 : Int32) (x2 : Int32) (x3 : Int32) (x4 : Int32) (h : AH) : Fm Prod.snd W_X12_rests_i56 h (f_X12_rests 56 x1 x2 x3 x4 h) := by
  unfold f_X12_rests
  have a_h : Agr W_X12_rests_i56 h h := agr_refl h
  refine fm_nh (agr_sI a_h rfl) (fun h_1 a_h_1 => ?_)
  refine fm_ob (w_f_X12_isVisit_i56 _ _ _) rfl a_h_1 (fun r_5 h_4 a_h_4 => ?_)
  refine fm_ite ?_ ?_
  · exact w_f_X12_rests_40_i56  _ a_h_4
  · refine fm_ob (w_f_J6_bitCount_0f7a4 _ _) rfl a_h_4 (fun r_9 h_8 a_h_8 => ?_)
    refine fm_ite ?_ ?_
    · exact w_f_X12_rests_40_i56  _ a_h_8
    · refine fm_ob (w_f_X12_isIn _ _ _ _) rfl a_h_8 (fun r_13 h_12 a_h_12 => ?_)
      refine fm_ite ?_ ?_
      · exact w_f_X12_rests_40_i56  _ a_h_12
      · refine fm_ite ?_ ?_
        · exact w_f_X12_rests_48_i56  FU _ _ _ _ _ _ _ a_h_12
        · exact w_f_X12_rests_40_i56  _ a_h_12
def W_X11_quiet_i0 : List (Nat × Nat) := (14, 1000) :: (17, 1000) :: (20, 1000) :: (23, 1000) :: (36, 1000) :: (37, 1000) :: (38, 1000) :: (39, 1000) :: (40, 1000) :: (41, 2) :: (42, 1000) :: (43, 1000) :: (44, 1000) :: (48, 1000) :: []
theorem w_f_X11_quiet_14_i0 {h0 : AH} : ∀ (h : AH), Agr W_X11_quiet_i0 h0 h → Fm Prod.snd W_X11_quiet_i0 h0 (f_X11_quiet_14 h) := by
  intro h a_h
  unfold f_X11_quiet_14
  exact fm_some a_h
def W_X0_findQuiet_i46 : List (Nat × Nat) := (14, 1000) :: (17, 1000) :: (20, 1000) :: (23, 1000) :: (37, 1000) :: (38, 1000) :: (39, 1000) :: (40, 1000) :: (41, 2) :: (42, 1000) :: (43, 1000) :: (44, 1000) :: (48, 1000) :: []
theorem w_f_X0_findQuiet_84_i46 {h0 : AH} : ∀ (s0 : Int32) (h : AH), Agr W_X0_findQuiet_i46 h0 h → Fm Prod.snd W_X0_findQuiet_i46 h0 (f_X0_findQuiet_84 s0 h) := by
  intro s0 h a_h
  unfold f_X0_findQuiet_84
  exact fm_some a_h
def W_X0_isQuiet_i46 : List (Nat × Nat) := []
theorem w_f_X0_isQuiet_51_i46 {h0 : AH} {q2 : Nat → Int32 → Int32 → Int32 → AH → Option (Int32 × AH)} (hq2 : ∀ (y1 : Int32) (y2 : Int32) (y3 : Int32) (y4 : AH), Agr W_X0_isQuiet_i46 h0 y4 → Fm Prod.snd W_X0_isQuiet_i46 h0 (q2 46 y1 y2 y3 y4)) : ∀ (x1 : Int32) (x2 : Int32) (x3 : Int32) (h : AH), Agr W_X0_isQuiet_i46 h0 h → Fm Prod.snd W_X0_isQuiet_i46 h0 (f_X0_isQuiet_51 q2 46 x1 x2 x3 h) := by
  intro x1 x2 x3 h a_h
  unfold f_X0_isQuiet_51
  refine fm_nm (fun x3_1 => ?_)
  exact hq2 _ _ _ _ a_h
theorem w_f_X0_isQuiet_2_i46 {h0 : AH} : ∀ (n : Nat) (x1 : Int32) (x2 : Int32) (x3 : Int32) (h : AH), Agr W_X0_isQuiet_i46 h0 h → Fm Prod.snd W_X0_isQuiet_i46 h0 (f_X0_isQuiet_2 n 46 x1 x2 x3 h) := by
  intro n
  induction n with
  | zero => intro x1 x2 x3 h _; exact fm_none
  | succ n ih =>
    intro x1 x2 x3 h a_h
    rw [f_X0_isQuiet_2]
    refine fm_ite ?_ ?_
    · exact fm_some a_h
    · refine fm_nm (fun x4_2 => ?_)
      refine fm_ob (w_f_X11_isIn _ _ _) rfl a_h (fun r_6 h_5 a_h_5 => ?_)
      refine fm_ite ?_ ?_
      · exact w_f_X0_isQuiet_51_i46 (fun y0 y1 y2 y3 a => ih y0 y1 y2 y3 a) _ _ _ _ a_h_5
      · refine fm_og (fun hb1 => ?_)
        refine fm_og (fun hb2 => ?_)
        refine fm_ite ?_ ?_
        · exact w_f_X0_isQuiet_51_i46 (fun y0 y1 y2 y3 a => ih y0 y1 y2 y3 a) _ _ _ _ a_h_5
        · exact fm_some a_h_5
theorem w_f_X0_isQuiet_i46 (x1 : Int32) (x2 : Int32) (h : AH) : Fm Prod.snd W_X0_isQuiet_i46 h (f_X0_isQuiet 46 x1 x2 h) := by
  unfold f_X0_isQuiet
  have a_h : Agr W_X0_isQuiet_i46 h h := agr_refl h
  exact w_f_X0_isQuiet_2_i46  FU _ _ _ _ a_h
theorem w_f_X0_findQuiet_68_i46 {h0 : AH} {q32 : Nat → Int32 → Int32 → Int32 → Int32 → AH → Option (Int32 × AH)} (hq32 : ∀ (y1 : Int32) (y2 : Int32) (y3 : Int32) (y4 : Int32) (y5 : AH), Agr W_X0_findQuiet_i46 h0 y5 → Fm Prod.snd W_X0_findQuiet_i46 h0 (q32 46 y1 y2 y3 y4 y5)) : ∀ (x1 : Int32) (x2 : Int32) (x3 : Int32) (x4 : Int32) (h : AH), Agr W_X0_findQuiet_i46 h0 h → Fm Prod.snd W_X0_findQuiet_i46 h0 (f_X0_findQuiet_68 q32 46 x1 x2 x3 x4 h) := by
  intro x1 x2 x3 x4 h a_h
  unfold f_X0_findQuiet_68
  refine fm_nm (fun x4_1 => ?_)
  exact hq32 _ _ _ _ _ a_h
theorem w_f_X0_findQuiet_32_i46 {h0 : AH} : ∀ (n : Nat) (x1 : Int32) (x2 : Int32) (x3 : Int32) (x4 : Int32) (h : AH), Agr W_X0_findQuiet_i46 h0 h → Fm Prod.snd W_X0_findQuiet_i46 h0 (f_X0_findQuiet_32 n 46 x1 x2 x3 x4 h) := by
  intro n
  induction n with
  | zero => intro x1 x2 x3 x4 h _; exact fm_none
  | succ n ih =>
    intro x1 x2 x3 x4 h a_h
    rw [f_X0_findQuiet_32]
    refine fm_ite ?_ ?_
    · refine fm_ite ?_ ?_
      · exact w_f_X0_findQuiet_84_i46  _ _ a_h
      · exact w_f_X0_findQuiet_84_i46  _ _ a_h
    · refine fm_ite ?_ ?_
      · refine fm_ob (w_f_X0_isQuiet_i46 _ _ _) rfl a_h (fun r_6 h_5 a_h_5 => ?_)
        refine fm_ite ?_ ?_
        · exact w_f_X0_findQuiet_68_i46 (fun y0 y1 y2 y3 y4 a => ih y0 y1 y2 y3 y4 a) _ _ _ _ _ a_h_5
        · refine fm_ite ?_ ?_
          · exact fm_some a_h_5
          · refine fm_nm (fun x3_9 => ?_)
            exact w_f_X0_findQuiet_68_i46 (fun y0 y1 y2 y3 y4 a => ih y0 y1 y2 y3 y4 a) _ _ _ _ _ a_h_5
      · exact w_f_X0_findQuiet_68_i46 (fun y0 y1 y2 y3 y4 a => ih y0 y1 y2 y3 y4 a) _ _ _ _ _ a_h
def W_X0_comesIn_i46 : List (Nat × Nat) := []
theorem w_f_X0_comesIn_25_i46 {h0 : AH} : ∀ (s0 : Int32) (h : AH), Agr W_X0_comesIn_i46 h0 h → Fm Prod.snd W_X0_comesIn_i46 h0 (f_X0_comesIn_25 s0 h) := by
  intro s0 h a_h
  unfold f_X0_comesIn_25
  exact fm_some a_h
theorem w_f_X0_comesIn_i46 (x1 : Int32) (x2 : Int32) (h : AH) : Fm Prod.snd W_X0_comesIn_i46 h (f_X0_comesIn 46 x1 x2 h) := by
  unfold f_X0_comesIn
  have a_h : Agr W_X0_comesIn_i46 h h := agr_refl h
  refine fm_ite ?_ ?_
  · refine fm_og (fun hb1 => ?_)
    exact w_f_X0_comesIn_25_i46  _ _ a_h
  · refine fm_ob (w_f_X6_item_i3 _ _ _) rfl a_h (fun r_5 h_4 a_h_4 => ?_)
    exact w_f_X0_comesIn_25_i46  _ _ a_h_4
def W_X0_come_i46 : List (Nat × Nat) := (14, 1000) :: (17, 1000) :: (20, 1000) :: (23, 1000) :: (37, 1000) :: (38, 1000) :: (39, 1000) :: (40, 1000) :: (41, 2) :: (42, 1000) :: (43, 1000) :: (44, 1000) :: (48, 1000) :: []
theorem w_f_X0_come_124_i46 {h0 : AH} {q85 : Nat → Int32 → Int32 → AH → Option AH} (hq85 : ∀ (y1 : Int32) (y2 : Int32) (y3 : AH), Agr W_X0_come_i46 h0 y3 → Fm id W_X0_come_i46 h0 (q85 46 y1 y2 y3)) : ∀ (x1 : Int32) (x3 : Int32) (x4 : Int32) (s0 : Int32) (s1 : Int32) (h : AH), Agr W_X0_come_i46 h0 h → Fm id W_X0_come_i46 h0 (f_X0_come_124 q85 46 x1 x3 x4 s0 s1 46 h) := by
  intro x1 x3 x4 s0 s1 h a_h
  unfold f_X0_come_124
  refine fm_ob (w_f_X0_comesIn_i46 _ _ _) rfl a_h (fun r_3 h_2 a_h_2 => ?_)
  refine fm_ob (w_f_X5_worthOf_i41 _ _) rfl a_h_2 (fun r_6 h_5 a_h_5 => ?_)
  refine fm_og (fun hb1 => ?_)
  refine fm_nh (agr_sI a_h_5 rfl) (fun h_8 a_h_8 => ?_)
  refine fm_nm (fun x3_10 => ?_)
  exact hq85 _ _ _ a_h_8
theorem w_f_X0_come_85_i46 {h0 : AH} : ∀ (n : Nat) (x1 : Int32) (x3 : Int32) (h : AH), Agr W_X0_come_i46 h0 h → Fm id W_X0_come_i46 h0 (f_X0_come_85 n 46 x1 x3 h) := by
  intro n
  induction n with
  | zero => intro x1 x3 h _; exact fm_none
  | succ n ih =>
    intro x1 x3 h a_h
    rw [f_X0_come_85]
    refine fm_ite ?_ ?_
    · exact fm_some a_h
    · refine fm_og (fun hb1 => ?_)
      refine fm_nm (fun x4_3 => ?_)
      refine fm_ob (w_f_X11_isIn _ _ _) rfl a_h (fun r_7 h_6 a_h_6 => ?_)
      refine fm_ite ?_ ?_
      · exact w_f_X0_come_124_i46 (fun y0 y1 y2 a => ih y0 y1 y2 a) _ _ _ _ _ _ a_h_6
      · exact w_f_X0_come_124_i46 (fun y0 y1 y2 a => ih y0 y1 y2 a) _ _ _ _ _ _ a_h_6
theorem w_f_X0_come_10_i46 {h0 : AH} : ∀ (n : Nat) (x1 : Int32) (x2 : Int32) (x3 : Int32) (h : AH), Agr W_X0_come_i46 h0 h → Fm id W_X0_come_i46 h0 (f_X0_come_10 n 46 x1 x2 x3 h) := by
  intro n
  induction n with
  | zero => intro x1 x2 x3 h _; exact fm_none
  | succ n ih =>
    intro x1 x2 x3 h a_h
    rw [f_X0_come_10]
    refine fm_ite ?_ ?_
    · refine fm_ov (w_f_X2_forget_i35 _) rfl a_h (fun h_3 a_h_3 => ?_)
      refine fm_ov (w_f_X5_begin_i41 _ _) rfl a_h_3 (fun h_5 a_h_5 => ?_)
      refine fm_ov (w_f_X5_go_i41 _ _) rfl a_h_5 (fun h_7 a_h_7 => ?_)
      exact w_f_X0_come_85_i46  FU _ _ _ a_h_7
    · refine fm_og (fun hb1 => ?_)
      refine fm_nm (fun x4_9 => ?_)
      refine fm_ob (w_f_X11_isIn _ _ _) rfl a_h (fun r_13 h_12 a_h_12 => ?_)
      refine fm_ob (w_f_X0_comesIn_i46 _ _ _) rfl a_h_12 (fun r_16 h_15 a_h_15 => ?_)
      refine fm_og (fun hb2 => ?_)
      refine fm_nh (agr_sI a_h_15 rfl) (fun h_18 a_h_18 => ?_)
      refine fm_nm (fun x3_20 => ?_)
      exact ih _ _ _ _ a_h_18
theorem w_f_X0_come_i46 (x1 : Int32) (x2 : Int32) (h : AH) : Fm id W_X0_come_i46 h (f_X0_come 46 x1 x2 h) := by
  unfold f_X0_come
  have a_h : Agr W_X0_come_i46 h h := agr_refl h
  refine fm_ov (w_f_X5_lowest_i41 _ _) rfl a_h (fun h_2 a_h_2 => ?_)
  exact w_f_X0_come_10_i46  FU _ _ _ _ a_h_2
theorem w_f_X0_findQuiet_21_i46 {h0 : AH} {q2 : Nat → Int32 → Int32 → Int32 → AH → Option (Int32 × AH)} (hq2 : ∀ (y1 : Int32) (y2 : Int32) (y3 : Int32) (y4 : AH), Agr W_X0_findQuiet_i46 h0 y4 → Fm Prod.snd W_X0_findQuiet_i46 h0 (q2 46 y1 y2 y3 y4)) : ∀ (x1 : Int32) (x2 : Int32) (x3 : Int32) (h : AH), Agr W_X0_findQuiet_i46 h0 h → Fm Prod.snd W_X0_findQuiet_i46 h0 (f_X0_findQuiet_21 q2 46 x1 x2 x3 h) := by
  intro x1 x2 x3 h a_h
  unfold f_X0_findQuiet_21
  refine fm_nm (fun x3_1 => ?_)
  exact hq2 _ _ _ _ a_h
theorem w_f_X0_findQuiet_2_i46 {h0 : AH} : ∀ (n : Nat) (x1 : Int32) (x2 : Int32) (x3 : Int32) (h : AH), Agr W_X0_findQuiet_i46 h0 h → Fm Prod.snd W_X0_findQuiet_i46 h0 (f_X0_findQuiet_2 n 46 x1 x2 x3 h) := by
  intro n
  induction n with
  | zero => intro x1 x2 x3 h _; exact fm_none
  | succ n ih =>
    intro x1 x2 x3 h a_h
    rw [f_X0_findQuiet_2]
    refine fm_ite ?_ ?_
    · exact w_f_X0_findQuiet_32_i46  FU _ _ _ _ _ a_h
    · refine fm_ite ?_ ?_
      · refine fm_ov (w_f_X0_come_i46 _ _ _) rfl a_h (fun h_4 a_h_4 => ?_)
        exact w_f_X0_findQuiet_21_i46 (fun y0 y1 y2 y3 a => ih y0 y1 y2 y3 a) _ _ _ _ a_h_4
      · exact w_f_X0_findQuiet_21_i46 (fun y0 y1 y2 y3 a => ih y0 y1 y2 y3 a) _ _ _ _ a_h
theorem w_f_X0_findQuiet_i46 (x1 : Int32) (x2 : Int32) (h : AH) : Fm Prod.snd W_X0_findQuiet_i46 h (f_X0_findQuiet 46 x1 x2 h) := by
  unfold f_X0_findQuiet
  have a_h : Agr W_X0_findQuiet_i46 h h := agr_refl h
  exact w_f_X0_findQuiet_2_i46  FU _ _ _ _ a_h
theorem w_f_X11_quiet_i0 (x1 : Int32) (x2 : Int32) (h : AH) : Fm Prod.snd W_X11_quiet_i0 h (f_X11_quiet 0 x1 x2 h) := by
  unfold f_X11_quiet
  have a_h : Agr W_X11_quiet_i0 h h := agr_refl h
  refine fm_ob (w_f_X11_isParty_i0 _ _ _) rfl a_h (fun r_3 h_2 a_h_2 => ?_)
  refine fm_ite ?_ ?_
  · exact w_f_X11_quiet_14_i0  _ a_h_2
  · refine fm_ite ?_ ?_
    · refine fm_ov (w_f_X2_open_i35_24 _) rfl a_h_2 (fun h_7 a_h_7 => ?_)
      refine fm_ob (w_f_X0_findQuiet_i46 _ _ _) rfl a_h_7 (fun r_10 h_9 a_h_9 => ?_)
      exact fm_some a_h_9
    · exact w_f_X11_quiet_14_i0  _ a_h_2
def W_X12_quiet_i56 : List (Nat × Nat) := (56, 0) :: (56, 8) :: (56, 9) :: (56, 10) :: (56, 11) :: (56, 12) :: (56, 13) :: (56, 14) :: (56, 18) :: (56, 29) :: (56, 30) :: (60, 1000) :: (65, 1000) :: (67, 1000) :: (68, 1000) :: (73, 1000) :: (201, 0) :: []
theorem w_f_X12_quiet_25_i56 {h0 : AH} : ∀ (h : AH), Agr W_X12_quiet_i56 h0 h → Fm Prod.snd W_X12_quiet_i56 h0 (f_X12_quiet_25 h) := by
  intro h a_h
  unfold f_X12_quiet_25
  exact fm_some a_h
theorem w_f_X12_quiet_158_i56 {h0 : AH} : ∀ (s0 : Int32) (h : AH), Agr W_X12_quiet_i56 h0 h → Fm Prod.snd W_X12_quiet_i56 h0 (f_X12_quiet_158 s0 h) := by
  intro s0 h a_h
  unfold f_X12_quiet_158
  exact fm_some a_h
theorem w_f_X12_quiet_142_i56 {h0 : AH} {q32 : Nat → Int32 → Int32 → Int32 → Int32 → AH → Option (Int32 × AH)} (hq32 : ∀ (y1 : Int32) (y2 : Int32) (y3 : Int32) (y4 : Int32) (y5 : AH), Agr W_X12_quiet_i56 h0 y5 → Fm Prod.snd W_X12_quiet_i56 h0 (q32 56 y1 y2 y3 y4 y5)) : ∀ (x1 : Int32) (x2 : Int32) (x3 : Int32) (x4 : Int32) (h : AH), Agr W_X12_quiet_i56 h0 h → Fm Prod.snd W_X12_quiet_i56 h0 (f_X12_quiet_142 q32 56 x1 x2 x3 x4 h) := by
  intro x1 x2 x3 x4 h a_h
  unfold f_X12_quiet_142
  refine fm_nm (fun x4_1 => ?_)
  exact hq32 _ _ _ _ _ a_h
theorem w_f_X12_quiet_115_i56 {h0 : AH} {q61 : Nat → Int32 → Int32 → Int32 → Int32 → Int32 → Int32 → AH → Option (Int32 × AH)} (hq61 : ∀ (y1 : Int32) (y2 : Int32) (y3 : Int32) (y4 : Int32) (y5 : Int32) (y6 : Int32) (y7 : AH), Agr W_X12_quiet_i56 h0 y7 → Fm Prod.snd W_X12_quiet_i56 h0 (q61 56 y1 y2 y3 y4 y5 y6 y7)) : ∀ (x1 : Int32) (x2 : Int32) (x3 : Int32) (x4 : Int32) (x6 : Int32) (s0 : Int32) (h : AH), Agr W_X12_quiet_i56 h0 h → Fm Prod.snd W_X12_quiet_i56 h0 (f_X12_quiet_115 q61 56 x1 x2 x3 x4 x6 s0 h) := by
  intro x1 x2 x3 x4 x6 s0 h a_h
  unfold f_X12_quiet_115
  refine fm_nm (fun x6_1 => ?_)
  exact hq61 _ _ _ _ _ _ _ a_h
theorem w_f_X12_quiet_114_i56 {h0 : AH} {q61 : Nat → Int32 → Int32 → Int32 → Int32 → Int32 → Int32 → AH → Option (Int32 × AH)} (hq61 : ∀ (y1 : Int32) (y2 : Int32) (y3 : Int32) (y4 : Int32) (y5 : Int32) (y6 : Int32) (y7 : AH), Agr W_X12_quiet_i56 h0 y7 → Fm Prod.snd W_X12_quiet_i56 h0 (q61 56 y1 y2 y3 y4 y5 y6 y7)) : ∀ (x1 : Int32) (x2 : Int32) (x3 : Int32) (x4 : Int32) (x6 : Int32) (h : AH), Agr W_X12_quiet_i56 h0 h → Fm Prod.snd W_X12_quiet_i56 h0 (f_X12_quiet_114 q61 56 x1 x2 x3 x4 x6 h) := by
  intro x1 x2 x3 x4 x6 h a_h
  unfold f_X12_quiet_114
  exact w_f_X12_quiet_115_i56 hq61 _ _ _ _ _ _ _ a_h
theorem w_f_X12_quiet_110_i56 {h0 : AH} {q61 : Nat → Int32 → Int32 → Int32 → Int32 → Int32 → Int32 → AH → Option (Int32 × AH)} (hq61 : ∀ (y1 : Int32) (y2 : Int32) (y3 : Int32) (y4 : Int32) (y5 : Int32) (y6 : Int32) (y7 : AH), Agr W_X12_quiet_i56 h0 y7 → Fm Prod.snd W_X12_quiet_i56 h0 (q61 56 y1 y2 y3 y4 y5 y6 y7)) : ∀ (x1 : Int32) (x2 : Int32) (x3 : Int32) (x4 : Int32) (x6 : Int32) (h : AH), Agr W_X12_quiet_i56 h0 h → Fm Prod.snd W_X12_quiet_i56 h0 (f_X12_quiet_110 q61 56 x1 x2 x3 x4 x6 h) := by
  intro x1 x2 x3 x4 x6 h a_h
  unfold f_X12_quiet_110
  exact w_f_X12_quiet_115_i56 hq61 _ _ _ _ _ _ _ a_h
def W_X12_hasComing_i56 : List (Nat × Nat) := (56, 8) :: (56, 9) :: (56, 10) :: (56, 11) :: (56, 12) :: (56, 13) :: (56, 14) :: (56, 18) :: (56, 29) :: (56, 30) :: (60, 1000) :: (65, 1000) :: (67, 1000) :: (68, 1000) :: (73, 1000) :: (201, 0) :: []
theorem w_f_X12_hasComing_160_i56 {h0 : AH} : ∀ (n : Nat) (x4 : Int32) (x5 : Int32) (h : AH), Agr W_X12_hasComing_i56 h0 h → Fm Prod.snd W_X12_hasComing_i56 h0 (f_X12_hasComing_160 n 56 x4 x5 h) := by
  intro n
  induction n with
  | zero => intro x4 x5 h _; exact fm_none
  | succ n ih =>
    intro x4 x5 h a_h
    rw [f_X12_hasComing_160]
    refine fm_ite ?_ ?_
    · exact fm_some a_h
    · refine fm_og (fun hb1 => ?_)
      refine fm_og (fun hb2 => ?_)
      refine fm_nh (agr_sI a_h rfl) (fun h_4 a_h_4 => ?_)
      refine fm_nm (fun x5_6 => ?_)
      exact ih _ _ _ a_h_4
theorem w_f_X12_hasComing_154_i56 {h0 : AH} : ∀ (s0 : Int32) (s1 : Int32) (h : AH), Agr W_X12_hasComing_i56 h0 h → Fm Prod.snd W_X12_hasComing_i56 h0 (f_X12_hasComing_154 56 s0 s1 h) := by
  intro s0 s1 h a_h
  unfold f_X12_hasComing_154
  refine fm_nm (fun x4_1 => ?_)
  exact w_f_X12_hasComing_160_i56  FU _ _ _ a_h
theorem w_f_X12_hasComing_115_i56 {h0 : AH} {q73 : Nat → Int32 → Int32 → Int32 → Int32 → AH → Option (Int32 × AH)} (hq73 : ∀ (y1 : Int32) (y2 : Int32) (y3 : Int32) (y4 : Int32) (y5 : AH), Agr W_X12_hasComing_i56 h0 y5 → Fm Prod.snd W_X12_hasComing_i56 h0 (q73 56 y1 y2 y3 y4 y5)) : ∀ (x1 : Int32) (x2 : Int32) (x3 : Int32) (x4 : Int32) (h : AH), Agr W_X12_hasComing_i56 h0 h → Fm Prod.snd W_X12_hasComing_i56 h0 (f_X12_hasComing_115 q73 56 x1 x2 x3 x4 h) := by
  intro x1 x2 x3 x4 h a_h
  unfold f_X12_hasComing_115
  refine fm_nm (fun x4_1 => ?_)
  exact hq73 _ _ _ _ _ a_h
theorem w_f_X12_hasComing_73_i56 {h0 : AH} : ∀ (n : Nat) (x1 : Int32) (x2 : Int32) (x3 : Int32) (x4 : Int32) (h : AH), Agr W_X12_hasComing_i56 h0 h → Fm Prod.snd W_X12_hasComing_i56 h0 (f_X12_hasComing_73 n 56 x1 x2 x3 x4 h) := by
  intro n
  induction n with
  | zero => intro x1 x2 x3 x4 h _; exact fm_none
  | succ n ih =>
    intro x1 x2 x3 x4 h a_h
    rw [f_X12_hasComing_73]
    refine fm_ite ?_ ?_
    · refine fm_ov (w_f_X12_go_i56 _ _) rfl a_h (fun h_3 a_h_3 => ?_)
      refine fm_ob (w_f_X12_worthOf_i56 _ _) rfl a_h_3 (fun r_6 h_5 a_h_5 => ?_)
      refine fm_ob (w_f_X12_has _ _ _) rfl a_h_5 (fun r_9 h_8 a_h_8 => ?_)
      refine fm_ite ?_ ?_
      · refine fm_ob (w_f_X12_partOf_i56 _ _ _) rfl a_h_8 (fun r_13 h_12 a_h_12 => ?_)
        exact w_f_X12_hasComing_154_i56  _ _ _ a_h_12
      · refine fm_og (fun hb1 => ?_)
        exact w_f_X12_hasComing_154_i56  _ _ _ a_h_8
    · refine fm_ob (w_f_X12_has _ _ _) rfl a_h (fun r_17 h_16 a_h_16 => ?_)
      refine fm_ite ?_ ?_
      · exact w_f_X12_hasComing_115_i56 (fun y0 y1 y2 y3 y4 a => ih y0 y1 y2 y3 y4 a) _ _ _ _ _ a_h_16
      · refine fm_og (fun hb2 => ?_)
        refine fm_nh (agr_sI a_h_16 rfl) (fun h_20 a_h_20 => ?_)
        refine fm_nh (agr_sI a_h_20 rfl) (fun h_22 a_h_22 => ?_)
        exact w_f_X12_hasComing_115_i56 (fun y0 y1 y2 y3 y4 a => ih y0 y1 y2 y3 y4 a) _ _ _ _ _ a_h_22
theorem w_f_X12_hasComing_58_i56 {h0 : AH} {q3 : Nat → Int32 → Int32 → Int32 → Int32 → AH → Option (Int32 × AH)} (hq3 : ∀ (y1 : Int32) (y2 : Int32) (y3 : Int32) (y4 : Int32) (y5 : AH), Agr W_X12_hasComing_i56 h0 y5 → Fm Prod.snd W_X12_hasComing_i56 h0 (q3 56 y1 y2 y3 y4 y5)) : ∀ (x1 : Int32) (x2 : Int32) (x3 : Int32) (x4 : Int32) (s0 : Int32) (s1 : Int32) (h : AH), Agr W_X12_hasComing_i56 h0 h → Fm Prod.snd W_X12_hasComing_i56 h0 (f_X12_hasComing_58 q3 56 x1 x2 x3 x4 s0 s1 65 h) := by
  intro x1 x2 x3 x4 s0 s1 h a_h
  unfold f_X12_hasComing_58
  refine fm_og (fun hb1 => ?_)
  refine fm_nh (agr_sI a_h rfl) (fun h_2 a_h_2 => ?_)
  refine fm_nm (fun x4_4 => ?_)
  exact hq3 _ _ _ _ _ a_h_2
theorem w_f_X12_hasComing_3_i56 {h0 : AH} : ∀ (n : Nat) (x1 : Int32) (x2 : Int32) (x3 : Int32) (x4 : Int32) (h : AH), Agr W_X12_hasComing_i56 h0 h → Fm Prod.snd W_X12_hasComing_i56 h0 (f_X12_hasComing_3 n 56 x1 x2 x3 x4 h) := by
  intro n
  induction n with
  | zero => intro x1 x2 x3 x4 h _; exact fm_none
  | succ n ih =>
    intro x1 x2 x3 x4 h a_h
    rw [f_X12_hasComing_3]
    refine fm_ite ?_ ?_
    · refine fm_nh (agr_sI a_h rfl) (fun h_2 a_h_2 => ?_)
      exact w_f_X12_hasComing_73_i56  FU _ _ _ _ _ a_h_2
    · refine fm_og (fun hb1 => ?_)
      refine fm_og (fun hb2 => ?_)
      refine fm_nh (agr_sI a_h rfl) (fun h_6 a_h_6 => ?_)
      refine fm_ob (w_f_X12_has _ _ _) rfl a_h_6 (fun r_10 h_9 a_h_9 => ?_)
      refine fm_ite ?_ ?_
      · refine fm_og (fun hb3 => ?_)
        exact w_f_X12_hasComing_58_i56 (fun y0 y1 y2 y3 y4 a => ih y0 y1 y2 y3 y4 a) _ _ _ _ _ _ _ a_h_9
      · refine fm_ob (w_f_X12_partOf_i56 _ _ _) rfl a_h_9 (fun r_15 h_14 a_h_14 => ?_)
        exact w_f_X12_hasComing_58_i56 (fun y0 y1 y2 y3 y4 a => ih y0 y1 y2 y3 y4 a) _ _ _ _ _ _ _ a_h_14
theorem w_f_X12_hasComing_i56 (x1 : Int32) (x2 : Int32) (x3 : Int32) (h : AH) : Fm Prod.snd W_X12_hasComing_i56 h (f_X12_hasComing 56 x1 x2 x3 h) := by
  unfold f_X12_hasComing
  have a_h : Agr W_X12_hasComing_i56 h h := agr_refl h
  exact w_f_X12_hasComing_3_i56  FU _ _ _ _ _ a_h
theorem w_f_X12_quiet_61_i56 {h0 : AH} {q32 : Nat → Int32 → Int32 → Int32 → Int32 → AH → Option (Int32 × AH)} (hq32 : ∀ (y1 : Int32) (y2 : Int32) (y3 : Int32) (y4 : Int32) (y5 : AH), Agr W_X12_quiet_i56 h0 y5 → Fm Prod.snd W_X12_quiet_i56 h0 (q32 56 y1 y2 y3 y4 y5)) : ∀ (n : Nat) (x1 : Int32) (x2 : Int32) (x3 : Int32) (x4 : Int32) (x5 : Int32) (x6 : Int32) (h : AH), Agr W_X12_quiet_i56 h0 h → Fm Prod.snd W_X12_quiet_i56 h0 (f_X12_quiet_61 q32 n 56 x1 x2 x3 x4 x5 x6 h) := by
  intro n
  induction n with
  | zero => intro x1 x2 x3 x4 x5 x6 h _; exact fm_none
  | succ n ih =>
    intro x1 x2 x3 x4 x5 x6 h a_h
    rw [f_X12_quiet_61]
    refine fm_ite ?_ ?_
    · refine fm_ite ?_ ?_
      · exact w_f_X12_quiet_142_i56 hq32 _ _ _ _ _ a_h
      · refine fm_ite ?_ ?_
        · exact fm_some a_h
        · refine fm_nm (fun x3_4 => ?_)
          exact w_f_X12_quiet_142_i56 hq32 _ _ _ _ _ a_h
    · refine fm_ite ?_ ?_
      · exact w_f_X12_quiet_114_i56 (fun y0 y1 y2 y3 y4 y5 y6 a => ih y0 y1 y2 y3 y4 y5 y6 a) _ _ _ _ _ _ a_h
      · refine fm_ob (w_f_X12_has _ _ _) rfl a_h (fun r_9 h_8 a_h_8 => ?_)
        refine fm_ite ?_ ?_
        · exact w_f_X12_quiet_110_i56 (fun y0 y1 y2 y3 y4 y5 y6 a => ih y0 y1 y2 y3 y4 y5 y6 a) _ _ _ _ _ _ a_h_8
        · refine fm_ob (w_f_X12_hasComing_i56 _ _ _ _) rfl a_h_8 (fun r_13 h_12 a_h_12 => ?_)
          refine fm_ob (w_f_X12_hasComing_i56 _ _ _ _) rfl a_h_12 (fun r_16 h_15 a_h_15 => ?_)
          refine fm_ite ?_ ?_
          · exact w_f_X12_quiet_114_i56 (fun y0 y1 y2 y3 y4 y5 y6 a => ih y0 y1 y2 y3 y4 y5 y6 a) _ _ _ _ _ _ a_h_15
          · exact w_f_X12_quiet_110_i56 (fun y0 y1 y2 y3 y4 y5 y6 a => ih y0 y1 y2 y3 y4 y5 y6 a) _ _ _ _ _ _ a_h_15
theorem w_f_X12_quiet_32_i56 {h0 : AH} : ∀ (n : Nat) (x1 : Int32) (x2 : Int32) (x3 : Int32) (x4 : Int32) (h : AH), Agr W_X12_quiet_i56 h0 h → Fm Prod.snd W_X12_quiet_i56 h0 (f_X12_quiet_32 n 56 x1 x2 x3 x4 h) := by
  intro n
  induction n with
  | zero => intro x1 x2 x3 x4 h _; exact fm_none
  | succ n ih =>
    intro x1 x2 x3 x4 h a_h
    rw [f_X12_quiet_32]
    refine fm_ite ?_ ?_
    · refine fm_ite ?_ ?_
      · exact w_f_X12_quiet_158_i56  _ _ a_h
      · exact w_f_X12_quiet_158_i56  _ _ a_h
    · refine fm_ite ?_ ?_
      · exact w_f_X12_quiet_61_i56 (fun y0 y1 y2 y3 y4 a => ih y0 y1 y2 y3 y4 a) FU _ _ _ _ _ _ _ a_h
      · exact w_f_X12_quiet_142_i56 (fun y0 y1 y2 y3 y4 a => ih y0 y1 y2 y3 y4 a) _ _ _ _ _ a_h
theorem w_f_X12_quiet_i56 (x1 : Int32) (x2 : Int32) (h : AH) : Fm Prod.snd W_X12_quiet_i56 h (f_X12_quiet 56 x1 x2 h) := by
  unfold f_X12_quiet
  have a_h : Agr W_X12_quiet_i56 h h := agr_refl h
  refine fm_nh (agr_sI a_h rfl) (fun h_1 a_h_1 => ?_)
  refine fm_ite ?_ ?_
  · exact w_f_X12_quiet_25_i56  _ a_h_1
  · refine fm_ob (w_f_X12_areGuests_i56 _ _) rfl a_h_1 (fun r_6 h_5 a_h_5 => ?_)
    refine fm_ite ?_ ?_
    · exact w_f_X12_quiet_25_i56  _ a_h_5
    · refine fm_ite ?_ ?_
      · exact w_f_X12_quiet_32_i56  FU _ _ _ _ _ a_h_5
      · exact w_f_X12_quiet_25_i56  _ a_h_5
def W_X11_year_i0 : List (Nat × Nat) := (14, 1000) :: (17, 1000) :: (20, 1000) :: (23, 1000) :: (25, 1000) :: (26, 1000) :: (27, 1000) :: (32, 2) :: (33, 1000) :: (36, 1000) :: (37, 1000) :: (38, 1000) :: (39, 1000) :: (40, 1000) :: (41, 2) :: (42, 1000) :: (43, 1000) :: (44, 1000) :: (200, 0) :: []
theorem w_f_X11_year_21_i0 {h0 : AH} : ∀ (h : AH), Agr W_X11_year_i0 h0 h → Fm Prod.snd W_X11_year_i0 h0 (f_X11_year_21 h) := by
  intro h a_h
  unfold f_X11_year_21
  exact fm_some a_h
def W_X9_bare_i24 : List (Nat × Nat) := []
theorem w_f_X9_bare_25_i24 {h0 : AH} {q4 : Nat → Int32 → Int32 → Int32 → AH → Option (Int32 × AH)} (hq4 : ∀ (y1 : Int32) (y2 : Int32) (y3 : Int32) (y4 : AH), Agr W_X9_bare_i24 h0 y4 → Fm Prod.snd W_X9_bare_i24 h0 (q4 24 y1 y2 y3 y4)) : ∀ (x1 : Int32) (x3 : Int32) (s0 : Int32) (s1 : Int32) (h : AH), Agr W_X9_bare_i24 h0 h → Fm Prod.snd W_X9_bare_i24 h0 (f_X9_bare_25 q4 24 x1 x3 s0 s1 h) := by
  intro x1 x3 s0 s1 h a_h
  unfold f_X9_bare_25
  refine fm_nm (fun x2_1 => ?_)
  refine fm_nm (fun x3_3 => ?_)
  exact hq4 _ _ _ _ a_h
theorem w_f_X9_bare_4_i24 {h0 : AH} : ∀ (n : Nat) (x1 : Int32) (x2 : Int32) (x3 : Int32) (h : AH), Agr W_X9_bare_i24 h0 h → Fm Prod.snd W_X9_bare_i24 h0 (f_X9_bare_4 n 24 x1 x2 x3 h) := by
  intro n
  induction n with
  | zero => intro x1 x2 x3 h _; exact fm_none
  | succ n ih =>
    intro x1 x2 x3 h a_h
    rw [f_X9_bare_4]
    refine fm_ite ?_ ?_
    · exact fm_some a_h
    · refine fm_og (fun hb1 => ?_)
      refine fm_ite ?_ ?_
      · exact w_f_X9_bare_25_i24 (fun y0 y1 y2 y3 a => ih y0 y1 y2 y3 a) _ _ _ _ _ a_h
      · exact w_f_X9_bare_25_i24 (fun y0 y1 y2 y3 a => ih y0 y1 y2 y3 a) _ _ _ _ _ a_h
theorem w_f_X9_bare_i24 (x1 : Int32) (h : AH) : Fm Prod.snd W_X9_bare_i24 h (f_X9_bare 24 x1 h) := by
  unfold f_X9_bare
  have a_h : Agr W_X9_bare_i24 h h := agr_refl h
  exact w_f_X9_bare_4_i24  FU _ _ _ _ a_h
def W_X11_draw_i0 : List (Nat × Nat) := (200, 0) :: []
theorem w_f_X11_draw_36_i0 {h0 : AH} : ∀ (s0 : Int32) (h : AH), Agr W_X11_draw_i0 h0 h → Fm Prod.snd W_X11_draw_i0 h0 (f_X11_draw_36 s0 h) := by
  intro s0 h a_h
  unfold f_X11_draw_36
  exact fm_some a_h
theorem w_f_X11_draw_i0 (x1 : Int32) (h : AH) : Fm Prod.snd W_X11_draw_i0 h (f_X11_draw 0 x1 h) := by
  unfold f_X11_draw
  have a_h : Agr W_X11_draw_i0 h h := agr_refl h
  refine fm_nh (agr_sL a_h rfl) (fun h_1 a_h_1 => ?_)
  refine fm_ite ?_ ?_
  · refine fm_og (fun hb1 => ?_)
    exact w_f_X11_draw_36_i0  _ _ a_h_1
  · exact w_f_X11_draw_36_i0  _ _ a_h_1
def W_X11_drawGuests_i0 : List (Nat × Nat) := (200, 0) :: []
theorem w_f_X11_drawGuests_43_i0 {h0 : AH} : ∀ (s0 : Int32) (h : AH), Agr W_X11_drawGuests_i0 h0 h → Fm Prod.snd W_X11_drawGuests_i0 h0 (f_X11_drawGuests_43 s0 h) := by
  intro s0 h a_h
  unfold f_X11_drawGuests_43
  exact fm_some a_h
theorem w_f_X11_drawGuests_4_i0 {h0 : AH} : ∀ (n : Nat) (x1 : Int32) (x2 : Int32) (h : AH), Agr W_X11_drawGuests_i0 h0 h → Fm Prod.snd W_X11_drawGuests_i0 h0 (f_X11_drawGuests_4 n 0 x1 x2 h) := by
  intro n
  induction n with
  | zero => intro x1 x2 h _; exact fm_none
  | succ n ih =>
    intro x1 x2 h a_h
    rw [f_X11_drawGuests_4]
    refine fm_ite ?_ ?_
    · refine fm_ite ?_ ?_
      · refine fm_ob (w_f_X11_everybody_i0 _) rfl a_h (fun r_5 h_4 a_h_4 => ?_)
        exact w_f_X11_drawGuests_43_i0  _ _ a_h_4
      · exact w_f_X11_drawGuests_43_i0  _ _ a_h
    · refine fm_ob (w_f_X11_draw_i0 _ _) rfl a_h (fun r_8 h_7 a_h_7 => ?_)
      refine fm_nm (fun x1_9 => ?_)
      refine fm_nm (fun x2_11 => ?_)
      exact ih _ _ _ a_h_7
theorem w_f_X11_drawGuests_i0 (h : AH) : Fm Prod.snd W_X11_drawGuests_i0 h (f_X11_drawGuests 0 h) := by
  unfold f_X11_drawGuests
  have a_h : Agr W_X11_drawGuests_i0 h h := agr_refl h
  exact w_f_X11_drawGuests_4_i0  FU _ _ _ a_h
def W_X11_drawOrder_i0 : List (Nat × Nat) := (41, 2) :: (42, 1000) :: (200, 0) :: []
theorem w_f_X11_drawOrder_18_i0 {h0 : AH} : ∀ (n : Nat) (x2 : Int32) (h : AH), Agr W_X11_drawOrder_i0 h0 h → Fm id W_X11_drawOrder_i0 h0 (f_X11_drawOrder_18 n 0 x2 h) := by
  intro n
  induction n with
  | zero => intro x2 h _; exact fm_none
  | succ n ih =>
    intro x2 h a_h
    rw [f_X11_drawOrder_18]
    refine fm_ite ?_ ?_
    · exact fm_some a_h
    · refine fm_ob (w_f_X11_draw_i0 _ _) rfl a_h (fun r_4 h_3 a_h_3 => ?_)
      refine fm_ov (w_f_X5_exchange_i41 _ _ _) rfl a_h_3 (fun h_6 a_h_6 => ?_)
      refine fm_nm (fun x2_7 => ?_)
      exact ih _ _ a_h_6
theorem w_f_X11_drawOrder_i0 (x1 : Int32) (h : AH) : Fm id W_X11_drawOrder_i0 h (f_X11_drawOrder 0 x1 h) := by
  unfold f_X11_drawOrder
  have a_h : Agr W_X11_drawOrder_i0 h h := agr_refl h
  refine fm_ov (w_f_X5_lowest_i41 _ _) rfl a_h (fun h_2 a_h_2 => ?_)
  refine fm_nm (fun x2_3 => ?_)
  exact w_f_X11_drawOrder_18_i0  FU _ _ a_h_2
theorem w_f_X11_year_31_i0 {h0 : AH} : ∀ (n : Nat) (x1 : Int32) (x4 : Int32) (h : AH), Agr W_X11_year_i0 h0 h → Fm Prod.snd W_X11_year_i0 h0 (f_X11_year_31 n 0 x1 x4 h) := by
  intro n
  induction n with
  | zero => intro x1 x4 h _; exact fm_none
  | succ n ih =>
    intro x1 x4 h a_h
    rw [f_X11_year_31]
    refine fm_ite ?_ ?_
    · refine fm_ob (w_f_X9_bare_i24 _ _) rfl a_h (fun r_4 h_3 a_h_3 => ?_)
      exact fm_some a_h_3
    · refine fm_ob (w_f_X11_draw_i0 _ _) rfl a_h (fun r_7 h_6 a_h_6 => ?_)
      refine fm_ob (w_f_X11_drawGuests_i0 _) rfl a_h_6 (fun r_10 h_9 a_h_9 => ?_)
      refine fm_ov (w_f_X11_drawOrder_i0 _ _) rfl a_h_9 (fun h_12 a_h_12 => ?_)
      refine fm_ov (w_f_X11_holdEvening_i0 _ _ _) rfl a_h_12 (fun h_14 a_h_14 => ?_)
      refine fm_nm (fun x4_15 => ?_)
      exact ih _ _ _ a_h_14
theorem w_f_X11_year_i0 (x1 : Int32) (l2 : Int64) (h : AH) : Fm Prod.snd W_X11_year_i0 h (f_X11_year 0 x1 l2 h) := by
  unfold f_X11_year
  have a_h : Agr W_X11_year_i0 h h := agr_refl h
  refine fm_ite ?_ ?_
  · exact w_f_X11_year_21_i0  _ a_h
  · refine fm_ite ?_ ?_
    · exact w_f_X11_year_21_i0  _ a_h
    · refine fm_ite ?_ ?_
      · refine fm_nh (agr_sL a_h rfl) (fun h_4 a_h_4 => ?_)
        exact w_f_X11_year_31_i0  FU _ _ _ a_h_4
      · exact w_f_X11_year_21_i0  _ a_h
def W_X12_year_i56 : List (Nat × Nat) := (56, 0) :: (56, 8) :: (56, 9) :: (56, 10) :: (56, 11) :: (56, 12) :: (56, 13) :: (56, 14) :: (56, 18) :: (56, 29) :: (56, 30) :: (56, 32) :: (60, 1000) :: (62, 1000) :: (63, 1000) :: (65, 1000) :: (67, 1000) :: (68, 1000) :: (69, 1000) :: (200, 0) :: (201, 0) :: []
theorem w_f_X12_year_24_i56 {h0 : AH} : ∀ (h : AH), Agr W_X12_year_i56 h0 h → Fm Prod.snd W_X12_year_i56 h0 (f_X12_year_24 h) := by
  intro h a_h
  unfold f_X12_year_24
  exact fm_some a_h
theorem w_f_X12_year_261_i56 {h0 : AH} {q234 : Nat → Int32 → Int32 → AH → Option (Int32 × AH)} (hq234 : ∀ (y1 : Int32) (y2 : Int32) (y3 : AH), Agr W_X12_year_i56 h0 y3 → Fm Prod.snd W_X12_year_i56 h0 (q234 56 y1 y2 y3)) : ∀ (x5 : Int32) (s0 : Int32) (s1 : Int32) (h : AH), Agr W_X12_year_i56 h0 h → Fm Prod.snd W_X12_year_i56 h0 (f_X12_year_261 q234 56 x5 s0 s1 h) := by
  intro x5 s0 s1 h a_h
  unfold f_X12_year_261
  refine fm_nm (fun x4_1 => ?_)
  refine fm_nm (fun x5_3 => ?_)
  exact hq234 _ _ _ a_h
theorem w_f_X12_year_234_i56 {h0 : AH} : ∀ (n : Nat) (x4 : Int32) (x5 : Int32) (h : AH), Agr W_X12_year_i56 h0 h → Fm Prod.snd W_X12_year_i56 h0 (f_X12_year_234 n 56 x4 x5 h) := by
  intro n
  induction n with
  | zero => intro x4 x5 h _; exact fm_none
  | succ n ih =>
    intro x4 x5 h a_h
    rw [f_X12_year_234]
    refine fm_ite ?_ ?_
    · exact fm_some a_h
    · refine fm_og (fun hb1 => ?_)
      refine fm_ite ?_ ?_
      · exact w_f_X12_year_261_i56 (fun y0 y1 y2 a => ih y0 y1 y2 a) _ _ _ _ a_h
      · exact w_f_X12_year_261_i56 (fun y0 y1 y2 a => ih y0 y1 y2 a) _ _ _ _ a_h
def W_X12_draw_i56 : List (Nat × Nat) := (200, 0) :: []
theorem w_f_X12_draw_i56 (x1 : Int32) (h : AH) : Fm Prod.snd W_X12_draw_i56 h (f_X12_draw 56 x1 h) := by
  unfold f_X12_draw
  have a_h : Agr W_X12_draw_i56 h h := agr_refl h
  refine fm_nh (agr_sL a_h rfl) (fun h_1 a_h_1 => ?_)
  refine fm_og (fun hb1 => ?_)
  exact fm_some a_h_1
theorem w_f_X12_year_161_i56 {h0 : AH} {q34 : Nat → Int32 → Int32 → AH → Option (Int32 × AH)} (hq34 : ∀ (y1 : Int32) (y2 : Int32) (y3 : AH), Agr W_X12_year_i56 h0 y3 → Fm Prod.snd W_X12_year_i56 h0 (q34 56 y1 y2 y3)) : ∀ (n : Nat) (x1 : Int32) (x4 : Int32) (x5 : Int32) (x6 : Int32) (x7 : Int32) (h : AH), Agr W_X12_year_i56 h0 h → Fm Prod.snd W_X12_year_i56 h0 (f_X12_year_161 q34 n 56 x1 x4 x5 x6 x7 h) := by
  intro n
  induction n with
  | zero => intro x1 x4 x5 x6 x7 h _; exact fm_none
  | succ n ih =>
    intro x1 x4 x5 x6 x7 h a_h
    rw [f_X12_year_161]
    refine fm_ite ?_ ?_
    · refine fm_ov (w_f_X12_visits_i56 _ _ _) rfl a_h (fun h_3 a_h_3 => ?_)
      refine fm_nm (fun x4_4 => ?_)
      exact hq34 _ _ _ a_h_3
    · refine fm_ob (w_f_X12_draw_i56 _ _) rfl a_h (fun r_8 h_7 a_h_7 => ?_)
      refine fm_og (fun hb1 => ?_)
      refine fm_nm (fun x9_10 => ?_)
      refine fm_og (fun hb2 => ?_)
      refine fm_og (fun hb3 => ?_)
      refine fm_nh (agr_sI a_h_7 rfl) (fun h_14 a_h_14 => ?_)
      refine fm_og (fun hb4 => ?_)
      refine fm_nh (agr_sI a_h_14 rfl) (fun h_17 a_h_17 => ?_)
      refine fm_nm (fun x7_19 => ?_)
      exact ih _ _ _ _ _ _ a_h_17
theorem w_f_X12_year_147_i56 {h0 : AH} {q104 : Nat → Int32 → Int32 → Int32 → Int32 → Int32 → AH → Option (Int32 × AH)} (hq104 : ∀ (y1 : Int32) (y2 : Int32) (y3 : Int32) (y4 : Int32) (y5 : Int32) (y6 : AH), Agr W_X12_year_i56 h0 y6 → Fm Prod.snd W_X12_year_i56 h0 (q104 56 y1 y2 y3 y4 y5 y6)) : ∀ (x1 : Int32) (x4 : Int32) (x5 : Int32) (x6 : Int32) (x7 : Int32) (h : AH), Agr W_X12_year_i56 h0 h → Fm Prod.snd W_X12_year_i56 h0 (f_X12_year_147 q104 56 x1 x4 x5 x6 x7 h) := by
  intro x1 x4 x5 x6 x7 h a_h
  unfold f_X12_year_147
  refine fm_nm (fun x7_1 => ?_)
  exact hq104 _ _ _ _ _ _ a_h
theorem w_f_X12_year_104_i56 {h0 : AH} {q34 : Nat → Int32 → Int32 → AH → Option (Int32 × AH)} (hq34 : ∀ (y1 : Int32) (y2 : Int32) (y3 : AH), Agr W_X12_year_i56 h0 y3 → Fm Prod.snd W_X12_year_i56 h0 (q34 56 y1 y2 y3)) : ∀ (n : Nat) (x1 : Int32) (x4 : Int32) (x5 : Int32) (x6 : Int32) (x7 : Int32) (h : AH), Agr W_X12_year_i56 h0 h → Fm Prod.snd W_X12_year_i56 h0 (f_X12_year_104 q34 n 56 x1 x4 x5 x6 x7 h) := by
  intro n
  induction n with
  | zero => intro x1 x4 x5 x6 x7 h _; exact fm_none
  | succ n ih =>
    intro x1 x4 x5 x6 x7 h a_h
    rw [f_X12_year_104]
    refine fm_ite ?_ ?_
    · refine fm_nm (fun x7_2 => ?_)
      exact w_f_X12_year_161_i56 hq34 FU _ _ _ _ _ _ a_h
    · refine fm_ob (w_f_X12_has _ _ _) rfl a_h (fun r_6 h_5 a_h_5 => ?_)
      refine fm_ite ?_ ?_
      · exact w_f_X12_year_147_i56 (fun y0 y1 y2 y3 y4 y5 a => ih y0 y1 y2 y3 y4 y5 a) _ _ _ _ _ _ a_h_5
      · refine fm_og (fun hb1 => ?_)
        refine fm_nh (agr_sI a_h_5 rfl) (fun h_9 a_h_9 => ?_)
        refine fm_nh (agr_sI a_h_9 rfl) (fun h_11 a_h_11 => ?_)
        exact w_f_X12_year_147_i56 (fun y0 y1 y2 y3 y4 y5 a => ih y0 y1 y2 y3 y4 y5 a) _ _ _ _ _ _ a_h_11
theorem w_f_X12_year_96_i56 {h0 : AH} {q34 : Nat → Int32 → Int32 → AH → Option (Int32 × AH)} (hq34 : ∀ (y1 : Int32) (y2 : Int32) (y3 : AH), Agr W_X12_year_i56 h0 y3 → Fm Prod.snd W_X12_year_i56 h0 (q34 56 y1 y2 y3)) : ∀ (x1 : Int32) (x4 : Int32) (x5 : Int32) (x6 : Int32) (h : AH), Agr W_X12_year_i56 h0 h → Fm Prod.snd W_X12_year_i56 h0 (f_X12_year_96 q34 56 x1 x4 x5 x6 h) := by
  intro x1 x4 x5 x6 h a_h
  unfold f_X12_year_96
  refine fm_nh (agr_sI a_h rfl) (fun h_1 a_h_1 => ?_)
  exact w_f_X12_year_104_i56 hq34 FU _ _ _ _ _ _ a_h_1
theorem w_f_X12_year_53_i56 {h0 : AH} {q34 : Nat → Int32 → Int32 → AH → Option (Int32 × AH)} (hq34 : ∀ (y1 : Int32) (y2 : Int32) (y3 : AH), Agr W_X12_year_i56 h0 y3 → Fm Prod.snd W_X12_year_i56 h0 (q34 56 y1 y2 y3)) : ∀ (n : Nat) (x1 : Int32) (x4 : Int32) (x5 : Int32) (x6 : Int32) (x7 : Int32) (h : AH), Agr W_X12_year_i56 h0 h → Fm Prod.snd W_X12_year_i56 h0 (f_X12_year_53 q34 n 56 x1 x4 x5 x6 x7 h) := by
  intro n
  induction n with
  | zero => intro x1 x4 x5 x6 x7 h _; exact fm_none
  | succ n ih =>
    intro x1 x4 x5 x6 x7 h a_h
    rw [f_X12_year_53]
    refine fm_ite ?_ ?_
    · refine fm_ite ?_ ?_
      · refine fm_nm (fun x6_3 => ?_)
        exact w_f_X12_year_96_i56 hq34 _ _ _ _ _ a_h
      · exact w_f_X12_year_96_i56 hq34 _ _ _ _ _ a_h
    · refine fm_ob (w_f_X12_draw_i56 _ _) rfl a_h (fun r_7 h_6 a_h_6 => ?_)
      refine fm_nm (fun x6_8 => ?_)
      refine fm_nm (fun x7_10 => ?_)
      exact ih _ _ _ _ _ _ a_h_6
theorem w_f_X12_year_34_i56 {h0 : AH} : ∀ (n : Nat) (x1 : Int32) (x4 : Int32) (h : AH), Agr W_X12_year_i56 h0 h → Fm Prod.snd W_X12_year_i56 h0 (f_X12_year_34 n 56 x1 x4 h) := by
  intro n
  induction n with
  | zero => intro x1 x4 h _; exact fm_none
  | succ n ih =>
    intro x1 x4 h a_h
    rw [f_X12_year_34]
    refine fm_ite ?_ ?_
    · exact w_f_X12_year_234_i56  FU _ _ _ a_h
    · refine fm_ob (w_f_X12_draw_i56 _ _) rfl a_h (fun r_4 h_3 a_h_3 => ?_)
      exact w_f_X12_year_53_i56 (fun y0 y1 y2 a => ih y0 y1 y2 a) FU _ _ _ _ _ _ a_h_3
theorem w_f_X12_year_i56 (x1 : Int32) (l2 : Int64) (h : AH) : Fm Prod.snd W_X12_year_i56 h (f_X12_year 56 x1 l2 h) := by
  unfold f_X12_year
  have a_h : Agr W_X12_year_i56 h h := agr_refl h
  refine fm_nh (agr_sI a_h rfl) (fun h_1 a_h_1 => ?_)
  refine fm_ite ?_ ?_
  · exact w_f_X12_year_24_i56  _ a_h_1
  · refine fm_ob (w_f_X12_isIn _ _ _ _) rfl a_h_1 (fun r_6 h_5 a_h_5 => ?_)
    refine fm_ite ?_ ?_
    · exact w_f_X12_year_24_i56  _ a_h_5
    · refine fm_nh (agr_sL a_h_5 rfl) (fun h_8 a_h_8 => ?_)
      exact w_f_X12_year_34_i56  FU _ _ _ a_h_8
def W_X11_likely_i0 : List (Nat × Nat) := (14, 1000) :: (17, 1000) :: (20, 1000) :: (23, 1000) :: (36, 1000) :: (37, 1000) :: (38, 1000) :: (39, 1000) :: (40, 1000) :: (41, 2) :: (42, 1000) :: (43, 1000) :: (44, 1000) :: (51, 5) :: (52, 1000) :: (53, 1000) :: []
theorem w_f_X11_likely_37_i0 {h0 : AH} : ∀ (h : AH), Agr W_X11_likely_i0 h0 h → Fm Prod.snd W_X11_likely_i0 h0 (f_X11_likely_37 h) := by
  intro h a_h
  unfold f_X11_likely_37
  exact fm_some a_h
def W_X4_chance_i51 : List (Nat × Nat) := (14, 1000) :: (17, 1000) :: (20, 1000) :: (23, 1000) :: (38, 1000) :: (39, 1000) :: (40, 1000) :: (41, 2) :: (42, 1000) :: (43, 1000) :: (44, 1000) :: (51, 5) :: (52, 1000) :: (53, 1000) :: []
theorem w_f_X4_chance_23_i51 {h0 : AH} : ∀ (s0 : Int32) (h : AH), Agr W_X4_chance_i51 h0 h → Fm Prod.snd W_X4_chance_i51 h0 (f_X4_chance_23 s0 h) := by
  intro s0 h a_h
  unfold f_X4_chance_23
  exact fm_some a_h
def W_X4_pairsAround_i51 : List (Nat × Nat) := []
theorem w_f_X4_pairsAround_37_i51 {h0 : AH} {q4 : Nat → Int32 → Int32 → AH → Option (Int32 × AH)} (hq4 : ∀ (y1 : Int32) (y2 : Int32) (y3 : AH), Agr W_X4_pairsAround_i51 h0 y3 → Fm Prod.snd W_X4_pairsAround_i51 h0 (q4 51 y1 y2 y3)) : ∀ (x2 : Int32) (s0 : Int32) (s1 : Int32) (h : AH), Agr W_X4_pairsAround_i51 h0 h → Fm Prod.snd W_X4_pairsAround_i51 h0 (f_X4_pairsAround_37 q4 51 x2 s0 s1 h) := by
  intro x2 s0 s1 h a_h
  unfold f_X4_pairsAround_37
  refine fm_nm (fun x1_1 => ?_)
  refine fm_nm (fun x2_3 => ?_)
  exact hq4 _ _ _ a_h
theorem w_f_X4_pairsAround_4_i51 {h0 : AH} : ∀ (n : Nat) (x1 : Int32) (x2 : Int32) (h : AH), Agr W_X4_pairsAround_i51 h0 h → Fm Prod.snd W_X4_pairsAround_i51 h0 (f_X4_pairsAround_4 n 51 x1 x2 h) := by
  intro n
  induction n with
  | zero => intro x1 x2 h _; exact fm_none
  | succ n ih =>
    intro x1 x2 h a_h
    rw [f_X4_pairsAround_4]
    refine fm_ite ?_ ?_
    · exact fm_some a_h
    · refine fm_og (fun hb1 => ?_)
      refine fm_ite ?_ ?_
      · exact w_f_X4_pairsAround_37_i51 (fun y0 y1 y2 a => ih y0 y1 y2 a) _ _ _ _ a_h
      · exact w_f_X4_pairsAround_37_i51 (fun y0 y1 y2 a => ih y0 y1 y2 a) _ _ _ _ a_h
theorem w_f_X4_pairsAround_i51 (h : AH) : Fm Prod.snd W_X4_pairsAround_i51 h (f_X4_pairsAround 51 h) := by
  unfold f_X4_pairsAround
  have a_h : Agr W_X4_pairsAround_i51 h h := agr_refl h
  exact w_f_X4_pairsAround_4_i51  FU _ _ _ a_h
def W_X4_pairIn : List (Nat × Nat) := []
theorem w_f_X4_pairIn (x0 : Int32) (x1 : Int32) (h : AH) : Fm Prod.snd W_X4_pairIn h (f_X4_pairIn x0 x1 h) := by
  unfold f_X4_pairIn
  have a_h : Agr W_X4_pairIn h h := agr_refl h
  refine fm_og (fun hb1 => ?_)
  refine fm_og (fun hb2 => ?_)
  exact fm_some a_h
def W_X4_stateBehind_i51 : List (Nat × Nat) := []
theorem w_f_X4_stateBehind_4_i51 {h0 : AH} : ∀ (n : Nat) (x1 : Int32) (x2 : Int32) (x3 : Int32) (h : AH), Agr W_X4_stateBehind_i51 h0 h → Fm Prod.snd W_X4_stateBehind_i51 h0 (f_X4_stateBehind_4 n 51 x1 x2 x3 h) := by
  intro n
  induction n with
  | zero => intro x1 x2 x3 h _; exact fm_none
  | succ n ih =>
    intro x1 x2 x3 h a_h
    rw [f_X4_stateBehind_4]
    refine fm_ite ?_ ?_
    · exact fm_some a_h
    · refine fm_og (fun hb1 => ?_)
      refine fm_nm (fun x4_3 => ?_)
      refine fm_og (fun hb2 => ?_)
      refine fm_ob (w_f_X4_pairIn _ _ _) rfl a_h (fun r_8 h_7 a_h_7 => ?_)
      refine fm_og (fun hb3 => ?_)
      refine fm_nm (fun x2_10 => ?_)
      refine fm_nm (fun x3_12 => ?_)
      exact ih _ _ _ _ a_h_7
theorem w_f_X4_stateBehind_i51 (x1 : Int32) (h : AH) : Fm Prod.snd W_X4_stateBehind_i51 h (f_X4_stateBehind 51 x1 h) := by
  unfold f_X4_stateBehind
  have a_h : Agr W_X4_stateBehind_i51 h h := agr_refl h
  exact w_f_X4_stateBehind_4_i51  FU _ _ _ _ a_h
def W_X4_addKind_i51 : List (Nat × Nat) := (51, 5) :: (52, 1000) :: (53, 1000) :: []
theorem w_f_X4_addKind_76_i51 {h0 : AH} : ∀ (h : AH), Agr W_X4_addKind_i51 h0 h → Fm id W_X4_addKind_i51 h0 (f_X4_addKind_76 h) := by
  intro h a_h
  unfold f_X4_addKind_76
  exact fm_some a_h
theorem w_f_X4_addKind_2_i51 {h0 : AH} : ∀ (n : Nat) (x1 : Int32) (x2 : Int32) (h : AH), Agr W_X4_addKind_i51 h0 h → Fm id W_X4_addKind_i51 h0 (f_X4_addKind_2 n 51 x1 x2 h) := by
  intro n
  induction n with
  | zero => intro x1 x2 h _; exact fm_none
  | succ n ih =>
    intro x1 x2 h a_h
    rw [f_X4_addKind_2]
    refine fm_ite ?_ ?_
    · refine fm_ite ?_ ?_
      · exact w_f_X4_addKind_76_i51  _ a_h
      · refine fm_og (fun hb1 => ?_)
        refine fm_nh (agr_sI a_h rfl) (fun h_4 a_h_4 => ?_)
        refine fm_og (fun hb2 => ?_)
        refine fm_nh (agr_sI a_h_4 rfl) (fun h_7 a_h_7 => ?_)
        refine fm_nh (agr_sI a_h_7 rfl) (fun h_9 a_h_9 => ?_)
        exact w_f_X4_addKind_76_i51  _ a_h_9
    · refine fm_og (fun hb3 => ?_)
      refine fm_ite ?_ ?_
      · refine fm_og (fun hb4 => ?_)
        refine fm_og (fun hb5 => ?_)
        refine fm_nh (agr_sI a_h rfl) (fun h_17 a_h_17 => ?_)
        exact fm_some a_h_17
      · refine fm_nm (fun x2_13 => ?_)
        exact ih _ _ _ a_h
theorem w_f_X4_addKind_i51 (x1 : Int32) (h : AH) : Fm id W_X4_addKind_i51 h (f_X4_addKind 51 x1 h) := by
  unfold f_X4_addKind
  have a_h : Agr W_X4_addKind_i51 h h := agr_refl h
  exact w_f_X4_addKind_2_i51  FU _ _ _ a_h
def W_X4_findKinds_i51 : List (Nat × Nat) := (14, 1000) :: (17, 1000) :: (20, 1000) :: (23, 1000) :: (38, 1000) :: (39, 1000) :: (40, 1000) :: (41, 2) :: (42, 1000) :: (43, 1000) :: (44, 1000) :: (51, 5) :: (52, 1000) :: (53, 1000) :: []
theorem w_f_X4_findKinds_32_i51 {h0 : AH} : ∀ (n : Nat) (x1 : Int32) (x2 : Int32) (x3 : Int32) (h : AH), Agr W_X4_findKinds_i51 h0 h → Fm Prod.snd W_X4_findKinds_i51 h0 (f_X4_findKinds_32 n 51 x1 x2 x3 h) := by
  intro n
  induction n with
  | zero => intro x1 x2 x3 h _; exact fm_none
  | succ n ih =>
    intro x1 x2 x3 h a_h
    rw [f_X4_findKinds_32]
    refine fm_ite ?_ ?_
    · exact fm_some a_h
    · refine fm_ov (w_f_X5_go_i41 _ _) rfl a_h (fun h_3 a_h_3 => ?_)
      refine fm_ob (w_f_X4_stateBehind_i51 _ _) rfl a_h_3 (fun r_6 h_5 a_h_5 => ?_)
      refine fm_ov (w_f_X4_addKind_i51 _ _) rfl a_h_5 (fun h_8 a_h_8 => ?_)
      refine fm_ob (w_f_X5_advance_i41 _) rfl a_h_8 (fun r_11 h_10 a_h_10 => ?_)
      refine fm_nm (fun x3_12 => ?_)
      exact ih _ _ _ _ a_h_10
theorem w_f_X4_findKinds_i51 (h : AH) : Fm Prod.snd W_X4_findKinds_i51 h (f_X4_findKinds 51 h) := by
  unfold f_X4_findKinds
  have a_h : Agr W_X4_findKinds_i51 h h := agr_refl h
  refine fm_ob (w_f_X4_pairsAround_i51 _) rfl a_h (fun r_3 h_2 a_h_2 => ?_)
  refine fm_ob (w_f_X5_first_i41 _ _ _) rfl a_h_2 (fun r_6 h_5 a_h_5 => ?_)
  refine fm_nh (agr_sI a_h_5 rfl) (fun h_7 a_h_7 => ?_)
  exact w_f_X4_findKinds_32_i51  FU _ _ _ _ a_h_7
theorem w_f_X4_chance_149_i51 {h0 : AH} {q109 : Nat → Int32 → Int32 → Int32 → Int32 → Int32 → AH → Option (Int32 × AH)} (hq109 : ∀ (y1 : Int32) (y2 : Int32) (y3 : Int32) (y4 : Int32) (y5 : Int32) (y6 : AH), Agr W_X4_chance_i51 h0 y6 → Fm Prod.snd W_X4_chance_i51 h0 (q109 51 y1 y2 y3 y4 y5 y6)) : ∀ (x2 : Int32) (x3 : Int32) (x5 : Int32) (x7 : Int32) (s0 : Int32) (s1 : Int32) (h : AH), Agr W_X4_chance_i51 h0 h → Fm Prod.snd W_X4_chance_i51 h0 (f_X4_chance_149 q109 51 x2 x3 x5 x7 s0 s1 h) := by
  intro x2 x3 x5 x7 s0 s1 h a_h
  unfold f_X4_chance_149
  refine fm_nm (fun x6_1 => ?_)
  refine fm_nm (fun x7_3 => ?_)
  exact hq109 _ _ _ _ _ _ a_h
theorem w_f_X4_chance_109_i51 {h0 : AH} : ∀ (n : Nat) (x2 : Int32) (x3 : Int32) (x5 : Int32) (x6 : Int32) (x7 : Int32) (h : AH), Agr W_X4_chance_i51 h0 h → Fm Prod.snd W_X4_chance_i51 h0 (f_X4_chance_109 n 51 x2 x3 x5 x6 x7 h) := by
  intro n
  induction n with
  | zero => intro x2 x3 x5 x6 x7 h _; exact fm_none
  | succ n ih =>
    intro x2 x3 x5 x6 x7 h a_h
    rw [f_X4_chance_109]
    refine fm_ite ?_ ?_
    · exact fm_some a_h
    · refine fm_og (fun hb1 => ?_)
      refine fm_ob (w_f_X4_pairIn _ _ _) rfl a_h (fun r_5 h_4 a_h_4 => ?_)
      refine fm_ite ?_ ?_
      · refine fm_og (fun hb2 => ?_)
        exact w_f_X4_chance_149_i51 (fun y0 y1 y2 y3 y4 y5 a => ih y0 y1 y2 y3 y4 y5 a) _ _ _ _ _ _ _ a_h_4
      · exact w_f_X4_chance_149_i51 (fun y0 y1 y2 y3 y4 y5 a => ih y0 y1 y2 y3 y4 y5 a) _ _ _ _ _ _ _ a_h_4
theorem w_f_X4_chance_56_i51 {h0 : AH} {q44 : Nat → Int32 → Int32 → Int32 → Int32 → Int32 → Int32 → AH → Option (Int32 × AH)} (hq44 : ∀ (y1 : Int32) (y2 : Int32) (y3 : Int32) (y4 : Int32) (y5 : Int32) (y6 : Int32) (y7 : AH), Agr W_X4_chance_i51 h0 y7 → Fm Prod.snd W_X4_chance_i51 h0 (q44 51 y1 y2 y3 y4 y5 y6 y7)) : ∀ (n : Nat) (x1 : Int32) (x2 : Int32) (x3 : Int32) (x4 : Int32) (x5 : Int32) (x6 : Int32) (x7 : Int32) (x8 : Int32) (h : AH), Agr W_X4_chance_i51 h0 h → Fm Prod.snd W_X4_chance_i51 h0 (f_X4_chance_56 q44 n 51 x1 x2 x3 x4 x5 x6 x7 x8 h) := by
  intro n
  induction n with
  | zero => intro x1 x2 x3 x4 x5 x6 x7 x8 h _; exact fm_none
  | succ n ih =>
    intro x1 x2 x3 x4 x5 x6 x7 x8 h a_h
    rw [f_X4_chance_56]
    refine fm_ite ?_ ?_
    · refine fm_nm (fun x6_2 => ?_)
      exact hq44 _ _ _ _ _ _ _ a_h
    · refine fm_og (fun hb1 => ?_)
      refine fm_og (fun hb2 => ?_)
      refine fm_nm (fun x7_6 => ?_)
      refine fm_nm (fun x8_8 => ?_)
      exact ih _ _ _ _ _ _ _ _ _ a_h
theorem w_f_X4_chance_44_i51 {h0 : AH} : ∀ (n : Nat) (x1 : Int32) (x2 : Int32) (x3 : Int32) (x4 : Int32) (x5 : Int32) (x6 : Int32) (h : AH), Agr W_X4_chance_i51 h0 h → Fm Prod.snd W_X4_chance_i51 h0 (f_X4_chance_44 n 51 x1 x2 x3 x4 x5 x6 h) := by
  intro n
  induction n with
  | zero => intro x1 x2 x3 x4 x5 x6 h _; exact fm_none
  | succ n ih =>
    intro x1 x2 x3 x4 x5 x6 h a_h
    rw [f_X4_chance_44]
    refine fm_ite ?_ ?_
    · exact w_f_X4_chance_109_i51  FU _ _ _ _ _ _ a_h
    · exact w_f_X4_chance_56_i51 (fun y0 y1 y2 y3 y4 y5 y6 a => ih y0 y1 y2 y3 y4 y5 y6 a) FU _ _ _ _ _ _ _ _ _ a_h
theorem w_f_X4_chance_i51 (x1 : Int32) (x2 : Int32) (x3 : Int32) (h : AH) : Fm Prod.snd W_X4_chance_i51 h (f_X4_chance 51 x1 x2 x3 h) := by
  unfold f_X4_chance
  have a_h : Agr W_X4_chance_i51 h h := agr_refl h
  refine fm_ite ?_ ?_
  · refine fm_og (fun hb1 => ?_)
    refine fm_ite ?_ ?_
    · exact w_f_X4_chance_23_i51  _ _ a_h
    · exact w_f_X4_chance_23_i51  _ _ a_h
  · refine fm_ob (w_f_X4_findKinds_i51 _) rfl a_h (fun r_4 h_3 a_h_3 => ?_)
    refine fm_og (fun hb2 => ?_)
    refine fm_nm (fun x5_6 => ?_)
    exact w_f_X4_chance_44_i51  FU _ _ _ _ _ _ _ a_h_3
theorem w_f_X11_likely_i0 (x1 : Int32) (x2 : Int32) (x3 : Int32) (h : AH) : Fm Prod.snd W_X11_likely_i0 h (f_X11_likely 0 x1 x2 x3 h) := by
  unfold f_X11_likely
  have a_h : Agr W_X11_likely_i0 h h := agr_refl h
  refine fm_ite ?_ ?_
  · exact w_f_X11_likely_37_i0  _ a_h
  · refine fm_ite ?_ ?_
    · exact w_f_X11_likely_37_i0  _ a_h
    · refine fm_ob (w_f_X11_isKnown_i0 _ _) rfl a_h (fun r_5 h_4 a_h_4 => ?_)
      refine fm_ite ?_ ?_
      · exact w_f_X11_likely_37_i0  _ a_h_4
      · refine fm_ob (w_f_X11_isKnownOrNone_i0 _ _) rfl a_h_4 (fun r_9 h_8 a_h_8 => ?_)
        refine fm_ite ?_ ?_
        · exact w_f_X11_likely_37_i0  _ a_h_8
        · refine fm_ite ?_ ?_
          · refine fm_ov (w_f_X2_open_i35_24 _) rfl a_h_8 (fun h_13 a_h_13 => ?_)
            refine fm_ob (w_f_X4_chance_i51 _ _ _ _) rfl a_h_13 (fun r_16 h_15 a_h_15 => ?_)
            exact fm_some a_h_15
          · exact w_f_X11_likely_37_i0  _ a_h_8
def W_X12_likely_i56 : List (Nat × Nat) := (56, 0) :: (56, 8) :: (56, 9) :: (56, 10) :: (56, 11) :: (56, 12) :: (56, 13) :: (56, 14) :: (56, 18) :: (56, 29) :: (56, 30) :: (56, 34) :: (60, 1000) :: (62, 1000) :: (63, 1000) :: (67, 1000) :: (68, 1000) :: (70, 1000) :: (74, 1000) :: (75, 1000) :: (76, 1000) :: (77, 1000) :: (201, 0) :: []
theorem w_f_X12_likely_48_i56 {h0 : AH} : ∀ (h : AH), Agr W_X12_likely_i56 h0 h → Fm Prod.snd W_X12_likely_i56 h0 (f_X12_likely_48 h) := by
  intro h a_h
  unfold f_X12_likely_48
  exact fm_some a_h
def W_X12_havingNow_i56 : List (Nat × Nat) := []
theorem w_f_X12_havingNow_9_i56 {h0 : AH} : ∀ (n : Nat) (x1 : Int32) (x2 : Int32) (h : AH), Agr W_X12_havingNow_i56 h0 h → Fm Prod.snd W_X12_havingNow_i56 h0 (f_X12_havingNow_9 n 56 x1 x2 h) := by
  intro n
  induction n with
  | zero => intro x1 x2 h _; exact fm_none
  | succ n ih =>
    intro x1 x2 h a_h
    rw [f_X12_havingNow_9]
    refine fm_ite ?_ ?_
    · exact fm_some a_h
    · refine fm_og (fun hb1 => ?_)
      refine fm_nm (fun x1_3 => ?_)
      refine fm_nm (fun x2_5 => ?_)
      exact ih _ _ _ a_h
theorem w_f_X12_havingNow_i56 (h : AH) : Fm Prod.snd W_X12_havingNow_i56 h (f_X12_havingNow 56 h) := by
  unfold f_X12_havingNow
  have a_h : Agr W_X12_havingNow_i56 h h := agr_refl h
  refine fm_nm (fun x2_1 => ?_)
  exact w_f_X12_havingNow_9_i56  FU _ _ _ a_h
theorem w_f_X12_likely_329_i56 {h0 : AH} : ∀ (n : Nat) (x5 : Int32) (x6 : Int32) (h : AH), Agr W_X12_likely_i56 h0 h → Fm Prod.snd W_X12_likely_i56 h0 (f_X12_likely_329 n 56 x5 x6 h) := by
  intro n
  induction n with
  | zero => intro x5 x6 h _; exact fm_none
  | succ n ih =>
    intro x5 x6 h a_h
    rw [f_X12_likely_329]
    refine fm_ite ?_ ?_
    · exact fm_some a_h
    · refine fm_og (fun hb1 => ?_)
      refine fm_og (fun hb2 => ?_)
      refine fm_nh (agr_sI a_h rfl) (fun h_4 a_h_4 => ?_)
      refine fm_og (fun hb3 => ?_)
      refine fm_og (fun hb4 => ?_)
      refine fm_nh (agr_sI a_h_4 rfl) (fun h_8 a_h_8 => ?_)
      refine fm_nm (fun x6_10 => ?_)
      exact ih _ _ _ a_h_8
theorem w_f_X12_likely_317_i56 {h0 : AH} {q261 : Nat → Int32 → Int32 → Int32 → Int32 → AH → Option (Int32 × AH)} (hq261 : ∀ (y1 : Int32) (y2 : Int32) (y3 : Int32) (y4 : Int32) (y5 : AH), Agr W_X12_likely_i56 h0 y5 → Fm Prod.snd W_X12_likely_i56 h0 (q261 56 y1 y2 y3 y4 y5)) : ∀ (x2 : Int32) (x3 : Int32) (x6 : Int32) (s0 : Int32) (s1 : Int32) (h : AH), Agr W_X12_likely_i56 h0 h → Fm Prod.snd W_X12_likely_i56 h0 (f_X12_likely_317 q261 56 x2 x3 x6 s0 s1 h) := by
  intro x2 x3 x6 s0 s1 h a_h
  unfold f_X12_likely_317
  refine fm_nm (fun x5_1 => ?_)
  refine fm_nm (fun x6_3 => ?_)
  exact hq261 _ _ _ _ _ a_h
theorem w_f_X12_likely_276_i56 {h0 : AH} {q261 : Nat → Int32 → Int32 → Int32 → Int32 → AH → Option (Int32 × AH)} (hq261 : ∀ (y1 : Int32) (y2 : Int32) (y3 : Int32) (y4 : Int32) (y5 : AH), Agr W_X12_likely_i56 h0 y5 → Fm Prod.snd W_X12_likely_i56 h0 (q261 56 y1 y2 y3 y4 y5)) : ∀ (n : Nat) (x2 : Int32) (x3 : Int32) (x5 : Int32) (x6 : Int32) (x7 : Int32) (x8 : Int32) (h : AH), Agr W_X12_likely_i56 h0 h → Fm Prod.snd W_X12_likely_i56 h0 (f_X12_likely_276 q261 n 56 x2 x3 x5 x6 x7 x8 h) := by
  intro n
  induction n with
  | zero => intro x2 x3 x5 x6 x7 x8 h _; exact fm_none
  | succ n ih =>
    intro x2 x3 x5 x6 x7 x8 h a_h
    rw [f_X12_likely_276]
    refine fm_ite ?_ ?_
    · refine fm_ite ?_ ?_
      · refine fm_og (fun hb1 => ?_)
        exact w_f_X12_likely_317_i56 hq261 _ _ _ _ _ _ a_h
      · exact w_f_X12_likely_317_i56 hq261 _ _ _ _ _ _ a_h
    · refine fm_nm (fun x7_4 => ?_)
      refine fm_nm (fun x8_6 => ?_)
      exact ih _ _ _ _ _ _ _ a_h
theorem w_f_X12_likely_261_i56 {h0 : AH} : ∀ (n : Nat) (x2 : Int32) (x3 : Int32) (x5 : Int32) (x6 : Int32) (h : AH), Agr W_X12_likely_i56 h0 h → Fm Prod.snd W_X12_likely_i56 h0 (f_X12_likely_261 n 56 x2 x3 x5 x6 h) := by
  intro n
  induction n with
  | zero => intro x2 x3 x5 x6 h _; exact fm_none
  | succ n ih =>
    intro x2 x3 x5 x6 h a_h
    rw [f_X12_likely_261]
    refine fm_ite ?_ ?_
    · exact w_f_X12_likely_329_i56  FU _ _ _ a_h
    · exact w_f_X12_likely_276_i56 (fun y0 y1 y2 y3 y4 a => ih y0 y1 y2 y3 y4 a) FU _ _ _ _ _ _ _ a_h
theorem w_f_X12_likely_221_i56 {h0 : AH} {q152 : Nat → Int32 → Int32 → Int32 → Int32 → Int32 → AH → Option (Int32 × AH)} (hq152 : ∀ (y1 : Int32) (y2 : Int32) (y3 : Int32) (y4 : Int32) (y5 : Int32) (y6 : AH), Agr W_X12_likely_i56 h0 y6 → Fm Prod.snd W_X12_likely_i56 h0 (q152 56 y1 y2 y3 y4 y5 y6)) : ∀ (n : Nat) (x1 : Int32) (x2 : Int32) (x3 : Int32) (x4 : Int32) (x5 : Int32) (x6 : Int32) (h : AH), Agr W_X12_likely_i56 h0 h → Fm Prod.snd W_X12_likely_i56 h0 (f_X12_likely_221 q152 n 56 x1 x2 x3 x4 x5 x6 h) := by
  intro n
  induction n with
  | zero => intro x1 x2 x3 x4 x5 x6 h _; exact fm_none
  | succ n ih =>
    intro x1 x2 x3 x4 x5 x6 h a_h
    rw [f_X12_likely_221]
    refine fm_ite ?_ ?_
    · refine fm_nm (fun x5_2 => ?_)
      exact hq152 _ _ _ _ _ _ a_h
    · refine fm_og (fun hb1 => ?_)
      refine fm_og (fun hb2 => ?_)
      refine fm_nh (agr_sI a_h rfl) (fun h_6 a_h_6 => ?_)
      refine fm_nm (fun x6_8 => ?_)
      exact ih _ _ _ _ _ _ _ a_h_6
theorem w_f_X12_likely_212_i56 {h0 : AH} {q186 : Nat → Int32 → Int32 → Int32 → Int32 → Int32 → Int32 → AH → Option (Int32 × AH)} (hq186 : ∀ (y1 : Int32) (y2 : Int32) (y3 : Int32) (y4 : Int32) (y5 : Int32) (y6 : Int32) (y7 : AH), Agr W_X12_likely_i56 h0 y7 → Fm Prod.snd W_X12_likely_i56 h0 (q186 56 y1 y2 y3 y4 y5 y6 y7)) : ∀ (x1 : Int32) (x2 : Int32) (x3 : Int32) (x4 : Int32) (x5 : Int32) (x6 : Int32) (h : AH), Agr W_X12_likely_i56 h0 h → Fm Prod.snd W_X12_likely_i56 h0 (f_X12_likely_212 q186 56 x1 x2 x3 x4 x5 x6 h) := by
  intro x1 x2 x3 x4 x5 x6 h a_h
  unfold f_X12_likely_212
  refine fm_nm (fun x6_1 => ?_)
  exact hq186 _ _ _ _ _ _ _ a_h
def W_X12_have_i56 : List (Nat × Nat) := (62, 1000) :: (63, 1000) :: []
theorem w_f_X12_have_93_i56 {h0 : AH} {q48 : Nat → Int32 → Int32 → AH → Option AH} (hq48 : ∀ (y1 : Int32) (y2 : Int32) (y3 : AH), Agr W_X12_have_i56 h0 y3 → Fm id W_X12_have_i56 h0 (q48 56 y1 y2 y3)) : ∀ (x2 : Int32) (x3 : Int32) (h : AH), Agr W_X12_have_i56 h0 h → Fm id W_X12_have_i56 h0 (f_X12_have_93 q48 56 x2 x3 h) := by
  intro x2 x3 h a_h
  unfold f_X12_have_93
  refine fm_nm (fun x3_1 => ?_)
  exact hq48 _ _ _ a_h
theorem w_f_X12_have_48_i56 {h0 : AH} : ∀ (n : Nat) (x2 : Int32) (x3 : Int32) (h : AH), Agr W_X12_have_i56 h0 h → Fm id W_X12_have_i56 h0 (f_X12_have_48 n 56 x2 x3 h) := by
  intro n
  induction n with
  | zero => intro x2 x3 h _; exact fm_none
  | succ n ih =>
    intro x2 x3 h a_h
    rw [f_X12_have_48]
    refine fm_ite ?_ ?_
    · exact fm_some a_h
    · refine fm_og (fun hb1 => ?_)
      refine fm_nh (agr_sI a_h rfl) (fun h_3 a_h_3 => ?_)
      refine fm_nm (fun x2_5 => ?_)
      refine fm_og (fun hb2 => ?_)
      refine fm_ite ?_ ?_
      · exact w_f_X12_have_93_i56 (fun y0 y1 y2 a => ih y0 y1 y2 a) _ _ _ a_h_3
      · refine fm_og (fun hb3 => ?_)
        refine fm_og (fun hb4 => ?_)
        refine fm_nh (agr_sI a_h_3 rfl) (fun h_11 a_h_11 => ?_)
        exact w_f_X12_have_93_i56 (fun y0 y1 y2 a => ih y0 y1 y2 a) _ _ _ a_h_11
theorem w_f_X12_have_39_i56 {h0 : AH} {q4 : Nat → Int32 → Int32 → AH → Option AH} (hq4 : ∀ (y1 : Int32) (y2 : Int32) (y3 : AH), Agr W_X12_have_i56 h0 y3 → Fm id W_X12_have_i56 h0 (q4 56 y1 y2 y3)) : ∀ (x2 : Int32) (x3 : Int32) (s0 : Int32) (s1 : Int32) (h : AH), Agr W_X12_have_i56 h0 h → Fm id W_X12_have_i56 h0 (f_X12_have_39 q4 56 x2 x3 s0 s1 63 h) := by
  intro x2 x3 s0 s1 h a_h
  unfold f_X12_have_39
  refine fm_og (fun hb1 => ?_)
  refine fm_nh (agr_sI a_h rfl) (fun h_2 a_h_2 => ?_)
  refine fm_nm (fun x3_4 => ?_)
  exact hq4 _ _ _ a_h_2
theorem w_f_X12_have_4_i56 {h0 : AH} : ∀ (n : Nat) (x2 : Int32) (x3 : Int32) (h : AH), Agr W_X12_have_i56 h0 h → Fm id W_X12_have_i56 h0 (f_X12_have_4 n 56 x2 x3 h) := by
  intro n
  induction n with
  | zero => intro x2 x3 h _; exact fm_none
  | succ n ih =>
    intro x2 x3 h a_h
    rw [f_X12_have_4]
    refine fm_ite ?_ ?_
    · exact w_f_X12_have_48_i56  FU _ _ _ a_h
    · refine fm_og (fun hb1 => ?_)
      refine fm_ite ?_ ?_
      · exact w_f_X12_have_39_i56 (fun y0 y1 y2 a => ih y0 y1 y2 a) _ _ _ _ _ a_h
      · refine fm_og (fun hb2 => ?_)
        exact w_f_X12_have_39_i56 (fun y0 y1 y2 a => ih y0 y1 y2 a) _ _ _ _ _ a_h
theorem w_f_X12_have_i56 (x1 : Int32) (h : AH) : Fm id W_X12_have_i56 h (f_X12_have 56 x1 h) := by
  unfold f_X12_have
  have a_h : Agr W_X12_have_i56 h h := agr_refl h
  exact w_f_X12_have_4_i56  FU _ _ _ a_h
def W_X12_spread_i56 : List (Nat × Nat) := (56, 8) :: (56, 9) :: (56, 10) :: (56, 11) :: (56, 12) :: (56, 13) :: (56, 14) :: (56, 18) :: (56, 29) :: (56, 30) :: (60, 1000) :: (62, 1000) :: (63, 1000) :: (67, 1000) :: (68, 1000) :: (75, 1000) :: (201, 0) :: []
theorem w_f_X12_spread_43_i56 {h0 : AH} {q15 : Nat → Int32 → Int32 → Int32 → Int32 → AH → Option AH} (hq15 : ∀ (y1 : Int32) (y2 : Int32) (y3 : Int32) (y4 : Int32) (y5 : AH), Agr W_X12_spread_i56 h0 y5 → Fm id W_X12_spread_i56 h0 (q15 56 y1 y2 y3 y4 y5)) : ∀ (n : Nat) (x1 : Int32) (x2 : Int32) (x3 : Int32) (x4 : Int32) (x5 : Int32) (x6 : Int32) (h : AH), Agr W_X12_spread_i56 h0 h → Fm id W_X12_spread_i56 h0 (f_X12_spread_43 q15 n 56 x1 x2 x3 x4 x5 x6 h) := by
  intro n
  induction n with
  | zero => intro x1 x2 x3 x4 x5 x6 h _; exact fm_none
  | succ n ih =>
    intro x1 x2 x3 x4 x5 x6 h a_h
    rw [f_X12_spread_43]
    refine fm_ite ?_ ?_
    · refine fm_og (fun hb1 => ?_)
      refine fm_og (fun hb2 => ?_)
      refine fm_og (fun hb3 => ?_)
      refine fm_og (fun hb4 => ?_)
      refine fm_nh (agr_sI a_h rfl) (fun h_6 a_h_6 => ?_)
      refine fm_nm (fun x4_8 => ?_)
      exact hq15 _ _ _ _ _ a_h_6
    · refine fm_og (fun hb5 => ?_)
      refine fm_nm (fun x5_11 => ?_)
      refine fm_nm (fun x6_13 => ?_)
      exact ih _ _ _ _ _ _ _ a_h
theorem w_f_X12_spread_15_i56 {h0 : AH} : ∀ (n : Nat) (x1 : Int32) (x2 : Int32) (x3 : Int32) (x4 : Int32) (h : AH), Agr W_X12_spread_i56 h0 h → Fm id W_X12_spread_i56 h0 (f_X12_spread_15 n 56 x1 x2 x3 x4 h) := by
  intro n
  induction n with
  | zero => intro x1 x2 x3 x4 h _; exact fm_none
  | succ n ih =>
    intro x1 x2 x3 x4 h a_h
    rw [f_X12_spread_15]
    refine fm_ite ?_ ?_
    · exact fm_some a_h
    · refine fm_ov (w_f_X12_goWay_i56 _ _ _ _) rfl a_h (fun h_3 a_h_3 => ?_)
      refine fm_nm (fun x6_4 => ?_)
      exact w_f_X12_spread_43_i56 (fun y0 y1 y2 y3 y4 a => ih y0 y1 y2 y3 y4 a) FU _ _ _ _ _ _ _ a_h_3
theorem w_f_X12_spread_i56 (x1 : Int32) (x2 : Int32) (h : AH) : Fm id W_X12_spread_i56 h (f_X12_spread 56 x1 x2 h) := by
  unfold f_X12_spread
  have a_h : Agr W_X12_spread_i56 h h := agr_refl h
  refine fm_ov (w_f_X12_have_i56 _ _) rfl a_h (fun h_2 a_h_2 => ?_)
  refine fm_ob (w_f_X12_doorOf_i56 _ _ _) rfl a_h_2 (fun r_5 h_4 a_h_4 => ?_)
  exact w_f_X12_spread_15_i56  FU _ _ _ _ _ a_h_4
theorem w_f_X12_likely_186_i56 {h0 : AH} {q152 : Nat → Int32 → Int32 → Int32 → Int32 → Int32 → AH → Option (Int32 × AH)} (hq152 : ∀ (y1 : Int32) (y2 : Int32) (y3 : Int32) (y4 : Int32) (y5 : Int32) (y6 : AH), Agr W_X12_likely_i56 h0 y6 → Fm Prod.snd W_X12_likely_i56 h0 (q152 56 y1 y2 y3 y4 y5 y6)) : ∀ (n : Nat) (x1 : Int32) (x2 : Int32) (x3 : Int32) (x4 : Int32) (x5 : Int32) (x6 : Int32) (h : AH), Agr W_X12_likely_i56 h0 h → Fm Prod.snd W_X12_likely_i56 h0 (f_X12_likely_186 q152 n 56 x1 x2 x3 x4 x5 x6 h) := by
  intro n
  induction n with
  | zero => intro x1 x2 x3 x4 x5 x6 h _; exact fm_none
  | succ n ih =>
    intro x1 x2 x3 x4 x5 x6 h a_h
    rw [f_X12_likely_186]
    refine fm_ite ?_ ?_
    · exact w_f_X12_likely_221_i56 hq152 FU _ _ _ _ _ _ _ a_h
    · refine fm_og (fun hb1 => ?_)
      refine fm_ite ?_ ?_
      · exact w_f_X12_likely_212_i56 (fun y0 y1 y2 y3 y4 y5 y6 a => ih y0 y1 y2 y3 y4 y5 y6 a) _ _ _ _ _ _ _ a_h
      · refine fm_ov (w_f_X12_spread_i56 _ _ _) rfl a_h (fun h_5 a_h_5 => ?_)
        exact w_f_X12_likely_212_i56 (fun y0 y1 y2 y3 y4 y5 y6 a => ih y0 y1 y2 y3 y4 y5 y6 a) _ _ _ _ _ _ _ a_h_5
theorem w_f_X12_likely_161_i56 {h0 : AH} {q152 : Nat → Int32 → Int32 → Int32 → Int32 → Int32 → AH → Option (Int32 × AH)} (hq152 : ∀ (y1 : Int32) (y2 : Int32) (y3 : Int32) (y4 : Int32) (y5 : Int32) (y6 : AH), Agr W_X12_likely_i56 h0 y6 → Fm Prod.snd W_X12_likely_i56 h0 (q152 56 y1 y2 y3 y4 y5 y6)) : ∀ (n : Nat) (x1 : Int32) (x2 : Int32) (x3 : Int32) (x4 : Int32) (x5 : Int32) (x6 : Int32) (h : AH), Agr W_X12_likely_i56 h0 h → Fm Prod.snd W_X12_likely_i56 h0 (f_X12_likely_161 q152 n 56 x1 x2 x3 x4 x5 x6 h) := by
  intro n
  induction n with
  | zero => intro x1 x2 x3 x4 x5 x6 h _; exact fm_none
  | succ n ih =>
    intro x1 x2 x3 x4 x5 x6 h a_h
    rw [f_X12_likely_161]
    refine fm_ite ?_ ?_
    · exact w_f_X12_likely_186_i56 hq152 FU _ _ _ _ _ _ _ a_h
    · refine fm_og (fun hb1 => ?_)
      refine fm_nh (agr_sI a_h rfl) (fun h_3 a_h_3 => ?_)
      refine fm_nm (fun x6_5 => ?_)
      exact ih _ _ _ _ _ _ _ a_h_3
theorem w_f_X12_likely_152_i56 {h0 : AH} : ∀ (n : Nat) (x1 : Int32) (x2 : Int32) (x3 : Int32) (x4 : Int32) (x5 : Int32) (h : AH), Agr W_X12_likely_i56 h0 h → Fm Prod.snd W_X12_likely_i56 h0 (f_X12_likely_152 n 56 x1 x2 x3 x4 x5 h) := by
  intro n
  induction n with
  | zero => intro x1 x2 x3 x4 x5 h _; exact fm_none
  | succ n ih =>
    intro x1 x2 x3 x4 x5 h a_h
    rw [f_X12_likely_152]
    refine fm_ite ?_ ?_
    · exact w_f_X12_likely_261_i56  FU _ _ _ _ _ a_h
    · exact w_f_X12_likely_161_i56 (fun y0 y1 y2 y3 y4 y5 a => ih y0 y1 y2 y3 y4 y5 a) FU _ _ _ _ _ _ _ a_h
theorem w_f_X12_likely_99_i56 {h0 : AH} : ∀ (n : Nat) (x1 : Int32) (x2 : Int32) (x3 : Int32) (x4 : Int32) (h : AH), Agr W_X12_likely_i56 h0 h → Fm Prod.snd W_X12_likely_i56 h0 (f_X12_likely_99 n 56 x1 x2 x3 x4 h) := by
  intro n
  induction n with
  | zero => intro x1 x2 x3 x4 h _; exact fm_none
  | succ n ih =>
    intro x1 x2 x3 x4 h a_h
    rw [f_X12_likely_99]
    refine fm_ite ?_ ?_
    · refine fm_ob (w_f_X12_havingNow_i56 _) rfl a_h (fun r_4 h_3 a_h_3 => ?_)
      refine fm_og (fun hb1 => ?_)
      refine fm_nh (agr_sI a_h_3 rfl) (fun h_6 a_h_6 => ?_)
      refine fm_nm (fun x4_8 => ?_)
      refine fm_ov (w_f_X12_allWays_i56 _ _) rfl a_h_6 (fun h_11 a_h_11 => ?_)
      exact w_f_X12_likely_152_i56  FU _ _ _ _ _ _ a_h_11
    · refine fm_og (fun hb2 => ?_)
      refine fm_nh (agr_sI a_h rfl) (fun h_13 a_h_13 => ?_)
      refine fm_nm (fun x4_15 => ?_)
      exact ih _ _ _ _ _ a_h_13
theorem w_f_X12_likely_53_i56 {h0 : AH} : ∀ (n : Nat) (x1 : Int32) (x2 : Int32) (x3 : Int32) (x4 : Int32) (h : AH), Agr W_X12_likely_i56 h0 h → Fm Prod.snd W_X12_likely_i56 h0 (f_X12_likely_53 n 56 x1 x2 x3 x4 h) := by
  intro n
  induction n with
  | zero => intro x1 x2 x3 x4 h _; exact fm_none
  | succ n ih =>
    intro x1 x2 x3 x4 h a_h
    rw [f_X12_likely_53]
    refine fm_ite ?_ ?_
    · exact w_f_X12_likely_99_i56  FU _ _ _ _ _ a_h
    · refine fm_og (fun hb1 => ?_)
      refine fm_og (fun hb2 => ?_)
      refine fm_nh (agr_sI a_h rfl) (fun h_4 a_h_4 => ?_)
      refine fm_og (fun hb3 => ?_)
      refine fm_og (fun hb4 => ?_)
      refine fm_nh (agr_sI a_h_4 rfl) (fun h_8 a_h_8 => ?_)
      refine fm_nm (fun x4_10 => ?_)
      exact ih _ _ _ _ _ a_h_8
theorem w_f_X12_likely_i56 (x1 : Int32) (x2 : Int32) (x3 : Int32) (h : AH) : Fm Prod.snd W_X12_likely_i56 h (f_X12_likely 56 x1 x2 x3 h) := by
  unfold f_X12_likely
  have a_h : Agr W_X12_likely_i56 h h := agr_refl h
  refine fm_nh (agr_sI a_h rfl) (fun h_1 a_h_1 => ?_)
  refine fm_ite ?_ ?_
  · exact w_f_X12_likely_48_i56  _ a_h_1
  · refine fm_ite ?_ ?_
    · exact w_f_X12_likely_48_i56  _ a_h_1
    · refine fm_ob (w_f_X12_isIn _ _ _ _) rfl a_h_1 (fun r_7 h_6 a_h_6 => ?_)
      refine fm_ite ?_ ?_
      · exact w_f_X12_likely_48_i56  _ a_h_6
      · refine fm_ob (w_f_X12_isPerson_i56 _ _) rfl a_h_6 (fun r_11 h_10 a_h_10 => ?_)
        refine fm_ite ?_ ?_
        · exact w_f_X12_likely_48_i56  _ a_h_10
        · refine fm_ob (w_f_X12_isPair_i56 _ _) rfl a_h_10 (fun r_15 h_14 a_h_14 => ?_)
          refine fm_ite ?_ ?_
          · exact w_f_X12_likely_48_i56  _ a_h_14
          · exact w_f_X12_likely_53_i56  FU _ _ _ _ _ a_h_14
def W_X11_cobbler_i0 : List (Nat × Nat) := (14, 1000) :: (17, 1000) :: (20, 1000) :: (23, 1000) :: (36, 1000) :: (37, 1000) :: (38, 1000) :: (39, 1000) :: (40, 1000) :: (41, 2) :: (42, 1000) :: (43, 1000) :: (44, 1000) :: []
theorem w_f_X11_cobbler_41_i0 {h0 : AH} : ∀ (h : AH), Agr W_X11_cobbler_i0 h0 h → Fm Prod.snd W_X11_cobbler_i0 h0 (f_X11_cobbler_41 h) := by
  intro h a_h
  unfold f_X11_cobbler_41
  exact fm_some a_h
theorem w_f_X11_cobbler_183_i0 {h0 : AH} : ∀ (s0 : Int32) (h : AH), Agr W_X11_cobbler_i0 h0 h → Fm Prod.snd W_X11_cobbler_i0 h0 (f_X11_cobbler_183 s0 h) := by
  intro s0 h a_h
  unfold f_X11_cobbler_183
  exact fm_some a_h
def W_X2_replace_i35 : List (Nat × Nat) := (36, 1000) :: (37, 1000) :: (38, 1000) :: (39, 1000) :: []
theorem w_f_X2_replace_39_i35 {h0 : AH} {q17 : Nat → Int32 → Int32 → AH → Option AH} (hq17 : ∀ (y1 : Int32) (y2 : Int32) (y3 : AH), Agr W_X2_replace_i35 h0 y3 → Fm id W_X2_replace_i35 h0 (q17 35 y1 y2 y3)) : ∀ (n : Nat) (x1 : Int32) (x4 : Int32) (x5 : Int32) (x6 : Int32) (h : AH), Agr W_X2_replace_i35 h0 h → Fm id W_X2_replace_i35 h0 (f_X2_replace_39 q17 n 35 x1 x4 x5 x6 h) := by
  intro n
  induction n with
  | zero => intro x1 x4 x5 x6 h _; exact fm_none
  | succ n ih =>
    intro x1 x4 x5 x6 h a_h
    rw [f_X2_replace_39]
    refine fm_ite ?_ ?_
    · refine fm_nm (fun x4_2 => ?_)
      exact hq17 _ _ _ a_h
    · refine fm_og (fun hb1 => ?_)
      refine fm_nh (agr_sI a_h rfl) (fun h_5 a_h_5 => ?_)
      refine fm_nm (fun x6_7 => ?_)
      exact ih _ _ _ _ _ a_h_5
theorem w_f_X2_replace_17_i35 {h0 : AH} : ∀ (n : Nat) (x1 : Int32) (x4 : Int32) (h : AH), Agr W_X2_replace_i35 h0 h → Fm id W_X2_replace_i35 h0 (f_X2_replace_17 n 35 x1 x4 h) := by
  intro n
  induction n with
  | zero => intro x1 x4 h _; exact fm_none
  | succ n ih =>
    intro x1 x4 h a_h
    rw [f_X2_replace_17]
    refine fm_ite ?_ ?_
    · refine fm_ov (w_f_J7_fill_53178_i39 _ _) rfl a_h (fun h_3 a_h_3 => ?_)
      exact fm_some a_h_3
    · refine fm_nm (fun x5_4 => ?_)
      exact w_f_X2_replace_39_i35 (fun y0 y1 y2 a => ih y0 y1 y2 a) FU _ _ _ _ _ a_h
theorem w_f_X2_replace_i35 (x1 : Int32) (x2 : Int32) (x3 : Int32) (h : AH) : Fm id W_X2_replace_i35 h (f_X2_replace 35 x1 x2 x3 h) := by
  unfold f_X2_replace
  have a_h : Agr W_X2_replace_i35 h h := agr_refl h
  refine fm_og (fun hb1 => ?_)
  refine fm_nh (agr_sI a_h rfl) (fun h_2 a_h_2 => ?_)
  refine fm_og (fun hb2 => ?_)
  refine fm_nh (agr_sI a_h_2 rfl) (fun h_5 a_h_5 => ?_)
  exact w_f_X2_replace_17_i35  FU _ _ _ a_h_5
def W_X2_isEverTaken_i35 : List (Nat × Nat) := (14, 1000) :: (17, 1000) :: (20, 1000) :: (23, 1000) :: (38, 1000) :: (40, 1000) :: []
theorem w_f_X2_isEverTaken_2_i35 {h0 : AH} : ∀ (n : Nat) (x1 : Int32) (x2 : Int32) (x3 : Int32) (h : AH), Agr W_X2_isEverTaken_i35 h0 h → Fm Prod.snd W_X2_isEverTaken_i35 h0 (f_X2_isEverTaken_2 n 35 x1 x2 x3 h) := by
  intro n
  induction n with
  | zero => intro x1 x2 x3 h _; exact fm_none
  | succ n ih =>
    intro x1 x2 x3 h a_h
    rw [f_X2_isEverTaken_2]
    refine fm_ite ?_ ?_
    · exact fm_some a_h
    · refine fm_ob (w_f_X2_desire_i35 _ _ _ _) rfl a_h (fun r_4 h_3 a_h_3 => ?_)
      refine fm_ite ?_ ?_
      · refine fm_nm (fun x3_6 => ?_)
        exact ih _ _ _ _ a_h_3
      · exact fm_some a_h_3
theorem w_f_X2_isEverTaken_i35 (x1 : Int32) (x2 : Int32) (h : AH) : Fm Prod.snd W_X2_isEverTaken_i35 h (f_X2_isEverTaken 35 x1 x2 h) := by
  unfold f_X2_isEverTaken
  have a_h : Agr W_X2_isEverTaken_i35 h h := agr_refl h
  exact w_f_X2_isEverTaken_2_i35  FU _ _ _ _ a_h
theorem w_f_X11_cobbler_165_i0 {h0 : AH} {q101 : Nat → Int32 → Int32 → Int32 → Int32 → Int32 → Int32 → Int32 → Int32 → AH → Option (Int32 × AH)} (hq101 : ∀ (y1 : Int32) (y2 : Int32) (y3 : Int32) (y4 : Int32) (y5 : Int32) (y6 : Int32) (y7 : Int32) (y8 : Int32) (y9 : AH), Agr W_X11_cobbler_i0 h0 y9 → Fm Prod.snd W_X11_cobbler_i0 h0 (q101 0 y1 y2 y3 y4 y5 y6 y7 y8 y9)) : ∀ (x2 : Int32) (x3 : Int32) (x4 : Int32) (x5 : Int32) (x6 : Int32) (x7 : Int32) (x8 : Int32) (x9 : Int32) (h : AH), Agr W_X11_cobbler_i0 h0 h → Fm Prod.snd W_X11_cobbler_i0 h0 (f_X11_cobbler_165 q101 0 x2 x3 x4 x5 x6 x7 x8 x9 h) := by
  intro x2 x3 x4 x5 x6 x7 x8 x9 h a_h
  unfold f_X11_cobbler_165
  refine fm_nm (fun x9_1 => ?_)
  exact hq101 _ _ _ _ _ _ _ _ _ a_h
theorem w_f_X11_cobbler_148_i0 {h0 : AH} {q101 : Nat → Int32 → Int32 → Int32 → Int32 → Int32 → Int32 → Int32 → Int32 → AH → Option (Int32 × AH)} (hq101 : ∀ (y1 : Int32) (y2 : Int32) (y3 : Int32) (y4 : Int32) (y5 : Int32) (y6 : Int32) (y7 : Int32) (y8 : Int32) (y9 : AH), Agr W_X11_cobbler_i0 h0 y9 → Fm Prod.snd W_X11_cobbler_i0 h0 (q101 0 y1 y2 y3 y4 y5 y6 y7 y8 y9)) : ∀ (x2 : Int32) (x3 : Int32) (x4 : Int32) (x5 : Int32) (x6 : Int32) (x7 : Int32) (x8 : Int32) (x9 : Int32) (s0 : Int32) (h : AH), Agr W_X11_cobbler_i0 h0 h → Fm Prod.snd W_X11_cobbler_i0 h0 (f_X11_cobbler_148 q101 0 x2 x3 x4 x5 x6 x7 x8 x9 s0 h) := by
  intro x2 x3 x4 x5 x6 x7 x8 x9 s0 h a_h
  unfold f_X11_cobbler_148
  refine fm_ite ?_ ?_
  · exact w_f_X11_cobbler_165_i0 hq101 _ _ _ _ _ _ _ _ _ a_h
  · exact w_f_X11_cobbler_165_i0 hq101 _ _ _ _ _ _ _ _ _ a_h
theorem w_f_X11_cobbler_101_i0 {h0 : AH} : ∀ (n : Nat) (x2 : Int32) (x3 : Int32) (x4 : Int32) (x5 : Int32) (x6 : Int32) (x7 : Int32) (x8 : Int32) (x9 : Int32) (h : AH), Agr W_X11_cobbler_i0 h0 h → Fm Prod.snd W_X11_cobbler_i0 h0 (f_X11_cobbler_101 n 0 x2 x3 x4 x5 x6 x7 x8 x9 h) := by
  intro n
  induction n with
  | zero => intro x2 x3 x4 x5 x6 x7 x8 x9 h _; exact fm_none
  | succ n ih =>
    intro x2 x3 x4 x5 x6 x7 x8 x9 h a_h
    rw [f_X11_cobbler_101]
    refine fm_ite ?_ ?_
    · refine fm_ite ?_ ?_
      · exact w_f_X11_cobbler_183_i0  _ _ a_h
      · exact w_f_X11_cobbler_183_i0  _ _ a_h
    · refine fm_ov (w_f_X2_replace_i35 _ _ _ _) rfl a_h (fun h_4 a_h_4 => ?_)
      refine fm_ob (w_f_X2_isEverTaken_i35 _ _ _) rfl a_h_4 (fun r_7 h_6 a_h_6 => ?_)
      refine fm_ite ?_ ?_
      · exact w_f_X11_cobbler_148_i0 (fun y0 y1 y2 y3 y4 y5 y6 y7 y8 a => ih y0 y1 y2 y3 y4 y5 y6 y7 y8 a) _ _ _ _ _ _ _ _ _ _ a_h_6
      · refine fm_ob (w_f_X5_countOrders_i41 _ _ _ _ _) rfl a_h_6 (fun r_11 h_10 a_h_10 => ?_)
        exact w_f_X11_cobbler_148_i0 (fun y0 y1 y2 y3 y4 y5 y6 y7 y8 a => ih y0 y1 y2 y3 y4 y5 y6 y7 y8 a) _ _ _ _ _ _ _ _ _ _ a_h_10
theorem w_f_X11_cobbler_82_i0 {h0 : AH} : ∀ (x2 : Int32) (x3 : Int32) (x4 : Int32) (x5 : Int32) (x6 : Int32) (h : AH), Agr W_X11_cobbler_i0 h0 h → Fm Prod.snd W_X11_cobbler_i0 h0 (f_X11_cobbler_82 0 x2 x3 x4 x5 x6 h) := by
  intro x2 x3 x4 x5 x6 h a_h
  unfold f_X11_cobbler_82
  refine fm_nm (fun x6_1 => ?_)
  exact w_f_X11_cobbler_101_i0  FU _ _ _ _ _ _ _ _ _ a_h
theorem w_f_X11_cobbler_i0 (x1 : Int32) (x2 : Int32) (x3 : Int32) (x4 : Int32) (x5 : Int32) (h : AH) : Fm Prod.snd W_X11_cobbler_i0 h (f_X11_cobbler 0 x1 x2 x3 x4 x5 h) := by
  unfold f_X11_cobbler
  have a_h : Agr W_X11_cobbler_i0 h h := agr_refl h
  refine fm_ob (w_f_X11_isParty_i0 _ _ _) rfl a_h (fun r_3 h_2 a_h_2 => ?_)
  refine fm_ite ?_ ?_
  · exact w_f_X11_cobbler_41_i0  _ a_h_2
  · refine fm_ob (w_f_X11_isGuest_i0 _ _ _) rfl a_h_2 (fun r_7 h_6 a_h_6 => ?_)
    refine fm_ite ?_ ?_
    · exact w_f_X11_cobbler_41_i0  _ a_h_6
    · refine fm_ite ?_ ?_
      · exact w_f_X11_cobbler_41_i0  _ a_h_6
      · refine fm_ite ?_ ?_
        · exact w_f_X11_cobbler_41_i0  _ a_h_6
        · refine fm_ite ?_ ?_
          · exact w_f_X11_cobbler_41_i0  _ a_h_6
          · refine fm_ite ?_ ?_
            · refine fm_ob (w_f_X11_openDoor_i0 _ _ _) rfl a_h_6 (fun r_15 h_14 a_h_14 => ?_)
              refine fm_og (fun hb1 => ?_)
              refine fm_ite ?_ ?_
              · exact w_f_X11_cobbler_82_i0  _ _ _ _ _ _ a_h_14
              · refine fm_og (fun hb2 => ?_)
                refine fm_nm (fun x6_19 => ?_)
                exact w_f_X11_cobbler_82_i0  _ _ _ _ _ _ a_h_14
            · exact w_f_X11_cobbler_41_i0  _ a_h_6
def W_X12_cobbler_i56 : List (Nat × Nat) := (56, 0) :: (56, 8) :: (56, 9) :: (56, 10) :: (56, 11) :: (56, 12) :: (56, 13) :: (56, 14) :: (56, 18) :: (56, 29) :: (56, 30) :: (56, 34) :: (60, 1000) :: (64, 1000) :: (65, 1000) :: (67, 1000) :: (68, 1000) :: (70, 1000) :: (201, 0) :: []
theorem w_f_X12_cobbler_39_i56 {h0 : AH} : ∀ (h : AH), Agr W_X12_cobbler_i56 h0 h → Fm Prod.snd W_X12_cobbler_i56 h0 (f_X12_cobbler_39 h) := by
  intro h a_h
  unfold f_X12_cobbler_39
  exact fm_some a_h
theorem w_f_X12_cobbler_244_i56 {h0 : AH} : ∀ (s0 : Int32) (h : AH), Agr W_X12_cobbler_i56 h0 h → Fm Prod.snd W_X12_cobbler_i56 h0 (f_X12_cobbler_244 s0 h) := by
  intro s0 h a_h
  unfold f_X12_cobbler_244
  exact fm_some a_h
theorem w_f_X12_cobbler_210_i56 {h0 : AH} {q121 : Nat → Int32 → Int32 → Int32 → Int32 → Int32 → Int32 → Int32 → Int32 → Int32 → AH → Option (Int32 × AH)} (hq121 : ∀ (y1 : Int32) (y2 : Int32) (y3 : Int32) (y4 : Int32) (y5 : Int32) (y6 : Int32) (y7 : Int32) (y8 : Int32) (y9 : Int32) (y10 : AH), Agr W_X12_cobbler_i56 h0 y10 → Fm Prod.snd W_X12_cobbler_i56 h0 (q121 56 y1 y2 y3 y4 y5 y6 y7 y8 y9 y10)) : ∀ (x2 : Int32) (x3 : Int32) (x5 : Int32) (x6 : Int32) (x7 : Int32) (x8 : Int32) (x9 : Int32) (x10 : Int32) (x11 : Int32) (h : AH), Agr W_X12_cobbler_i56 h0 h → Fm Prod.snd W_X12_cobbler_i56 h0 (f_X12_cobbler_210 q121 56 x2 x3 x5 x6 x7 x8 x9 x10 x11 h) := by
  intro x2 x3 x5 x6 x7 x8 x9 x10 x11 h a_h
  unfold f_X12_cobbler_210
  refine fm_nm (fun x11_1 => ?_)
  exact hq121 _ _ _ _ _ _ _ _ _ _ a_h
theorem w_f_X12_cobbler_202_i56 {h0 : AH} {q121 : Nat → Int32 → Int32 → Int32 → Int32 → Int32 → Int32 → Int32 → Int32 → Int32 → AH → Option (Int32 × AH)} (hq121 : ∀ (y1 : Int32) (y2 : Int32) (y3 : Int32) (y4 : Int32) (y5 : Int32) (y6 : Int32) (y7 : Int32) (y8 : Int32) (y9 : Int32) (y10 : AH), Agr W_X12_cobbler_i56 h0 y10 → Fm Prod.snd W_X12_cobbler_i56 h0 (q121 56 y1 y2 y3 y4 y5 y6 y7 y8 y9 y10)) : ∀ (x2 : Int32) (x3 : Int32) (x5 : Int32) (x6 : Int32) (x7 : Int32) (x8 : Int32) (x11 : Int32) (x12 : Int32) (h : AH), Agr W_X12_cobbler_i56 h0 h → Fm Prod.snd W_X12_cobbler_i56 h0 (f_X12_cobbler_202 q121 56 x2 x3 x5 x6 x7 x8 x11 x12 h) := by
  intro x2 x3 x5 x6 x7 x8 x11 x12 h a_h
  unfold f_X12_cobbler_202
  exact w_f_X12_cobbler_210_i56 hq121 _ _ _ _ _ _ _ _ _ _ a_h
