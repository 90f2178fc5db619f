theorem w_f_X12_cobbler_177_i56 {h0 : AH} {q142 : Nat → Int32 → Int32 → Int32 → Int32 → Int32 → Int32 → Int32 → Int32 → Int32 → Int32 → Int32 → AH → Option (Int32 × AH)} (hq142 : ∀ (y1 : Int32) (y2 : Int32) (y3 : Int32) (y4 : Int32) (y5 : Int32) (y6 : Int32) (y7 : Int32) (y8 : Int32) (y9 : Int32) (y10 : Int32) (y11 : Int32) (y12 : AH), Agr W_X12_cobbler_i56 h0 y12 → Fm Prod.snd W_X12_cobbler_i56 h0 (q142 56 y1 y2 y3 y4 y5 y6 y7 y8 y9 y10 y11 y12)) : ∀ (x2 : Int32) (x3 : Int32) (x5 : Int32) (x6 : Int32) (x7 : Int32) (x8 : Int32) (x9 : Int32) (x10 : Int32) (x11 : Int32) (x13 : Int32) (s0 : Int32) (s1 : Int32) (h : AH), Agr W_X12_cobbler_i56 h0 h → Fm Prod.snd W_X12_cobbler_i56 h0 (f_X12_cobbler_177 q142 56 x2 x3 x5 x6 x7 x8 x9 x10 x11 x13 s0 s1 h) := by
  intro x2 x3 x5 x6 x7 x8 x9 x10 x11 x13 s0 s1 h a_h
  unfold f_X12_cobbler_177
  refine fm_nm (fun x12_1 => ?_)
  refine fm_nm (fun x13_3 => ?_)
  exact hq142 _ _ _ _ _ _ _ _ _ _ _ _ a_h
theorem w_f_X12_cobbler_142_i56 {h0 : AH} {q121 : Nat → Int32 → Int32 → Int32 → Int32 → Int32 → Int32 → Int32 → Int32 → Int32 → AH → Option (Int32 × AH)} (hq121 : ∀ (y1 : Int32) (y2 : Int32) (y3 : Int32) (y4 : Int32) (y5 : Int32) (y6 : Int32) (y7 : Int32) (y8 : Int32) (y9 : Int32) (y10 : AH), Agr W_X12_cobbler_i56 h0 y10 → Fm Prod.snd W_X12_cobbler_i56 h0 (q121 56 y1 y2 y3 y4 y5 y6 y7 y8 y9 y10)) : ∀ (n : Nat) (x2 : Int32) (x3 : Int32) (x5 : Int32) (x6 : Int32) (x7 : Int32) (x8 : Int32) (x9 : Int32) (x10 : Int32) (x11 : Int32) (x12 : Int32) (x13 : Int32) (h : AH), Agr W_X12_cobbler_i56 h0 h → Fm Prod.snd W_X12_cobbler_i56 h0 (f_X12_cobbler_142 q121 n 56 x2 x3 x5 x6 x7 x8 x9 x10 x11 x12 x13 h) := by
  intro n
  induction n with
  | zero => intro x2 x3 x5 x6 x7 x8 x9 x10 x11 x12 x13 h _; exact fm_none
  | succ n ih =>
    intro x2 x3 x5 x6 x7 x8 x9 x10 x11 x12 x13 h a_h
    rw [f_X12_cobbler_142]
    refine fm_ite ?_ ?_
    · refine fm_ite ?_ ?_
      · exact w_f_X12_cobbler_202_i56 hq121 _ _ _ _ _ _ _ _ _ a_h
      · refine fm_ite ?_ ?_
        · exact w_f_X12_cobbler_202_i56 hq121 _ _ _ _ _ _ _ _ _ a_h
        · exact w_f_X12_cobbler_210_i56 hq121 _ _ _ _ _ _ _ _ _ _ a_h
    · refine fm_ov (w_f_X12_goWay_i56 _ _ _ _) rfl a_h (fun h_5 a_h_5 => ?_)
      refine fm_og (fun hb1 => ?_)
      refine fm_ite ?_ ?_
      · exact w_f_X12_cobbler_177_i56 (fun y0 y1 y2 y3 y4 y5 y6 y7 y8 y9 y10 y11 a => ih y0 y1 y2 y3 y4 y5 y6 y7 y8 y9 y10 y11 a) _ _ _ _ _ _ _ _ _ _ _ _ _ a_h_5
      · exact w_f_X12_cobbler_177_i56 (fun y0 y1 y2 y3 y4 y5 y6 y7 y8 y9 y10 y11 a => ih y0 y1 y2 y3 y4 y5 y6 y7 y8 y9 y10 y11 a) _ _ _ _ _ _ _ _ _ _ _ _ _ a_h_5
theorem w_f_X12_cobbler_121_i56 {h0 : AH} : ∀ (n : Nat) (x2 : Int32) (x3 : Int32) (x5 : Int32) (x6 : Int32) (x7 : Int32) (x8 : Int32) (x9 : Int32) (x10 : Int32) (x11 : Int32) (h : AH), Agr W_X12_cobbler_i56 h0 h → Fm Prod.snd W_X12_cobbler_i56 h0 (f_X12_cobbler_121 n 56 x2 x3 x5 x6 x7 x8 x9 x10 x11 h) := by
  intro n
  induction n with
  | zero => intro x2 x3 x5 x6 x7 x8 x9 x10 x11 h _; exact fm_none
  | succ n ih =>
    intro x2 x3 x5 x6 x7 x8 x9 x10 x11 h a_h
    rw [f_X12_cobbler_121]
    refine fm_ite ?_ ?_
    · refine fm_og (fun hb1 => ?_)
      refine fm_nh (agr_sI a_h rfl) (fun h_3 a_h_3 => ?_)
      refine fm_og (fun hb2 => ?_)
      refine fm_nh (agr_sI a_h_3 rfl) (fun h_6 a_h_6 => ?_)
      refine fm_ite ?_ ?_
      · exact w_f_X12_cobbler_244_i56  _ _ a_h_6
      · exact w_f_X12_cobbler_244_i56  _ _ a_h_6
    · refine fm_og (fun hb3 => ?_)
      refine fm_nh (agr_sI a_h rfl) (fun h_10 a_h_10 => ?_)
      exact w_f_X12_cobbler_142_i56 (fun y0 y1 y2 y3 y4 y5 y6 y7 y8 y9 a => ih y0 y1 y2 y3 y4 y5 y6 y7 y8 y9 a) FU _ _ _ _ _ _ _ _ _ _ _ _ a_h_10
theorem w_f_X12_cobbler_74_i56 {h0 : AH} : ∀ (x2 : Int32) (x3 : Int32) (x4 : Int32) (x5 : Int32) (x6 : Int32) (h : AH), Agr W_X12_cobbler_i56 h0 h → Fm Prod.snd W_X12_cobbler_i56 h0 (f_X12_cobbler_74 56 x2 x3 x4 x5 x6 h) := by
  intro x2 x3 x4 x5 x6 h a_h
  unfold f_X12_cobbler_74
  refine fm_nm (fun x6_1 => ?_)
  refine fm_og (fun hb1 => ?_)
  refine fm_nm (fun x7_4 => ?_)
  refine fm_og (fun hb2 => ?_)
  refine fm_nm (fun x8_7 => ?_)
  refine fm_og (fun hb3 => ?_)
  refine fm_nh (agr_sI a_h rfl) (fun h_10 a_h_10 => ?_)
  refine fm_ov (w_f_X12_allWays_i56 _ _) rfl a_h_10 (fun h_13 a_h_13 => ?_)
  exact w_f_X12_cobbler_121_i56  FU _ _ _ _ _ _ _ _ _ _ a_h_13
theorem w_f_X12_cobbler_i56 (x1 : Int32) (x2 : Int32) (x3 : Int32) (x4 : Int32) (x5 : Int32) (h : AH) : Fm Prod.snd W_X12_cobbler_i56 h (f_X12_cobbler 56 x1 x2 x3 x4 x5 h) := by
  unfold f_X12_cobbler
  have a_h : Agr W_X12_cobbler_i56 h h := agr_refl h
  refine fm_nh (agr_sI a_h rfl) (fun h_1 a_h_1 => ?_)
  refine fm_ob (w_f_X12_isGuest_i56 _ _ _ _) rfl a_h_1 (fun r_5 h_4 a_h_4 => ?_)
  refine fm_ite ?_ ?_
  · exact w_f_X12_cobbler_39_i56  _ a_h_4
  · refine fm_ob (w_f_X12_isIn _ _ _ _) rfl a_h_4 (fun r_9 h_8 a_h_8 => ?_)
    refine fm_ite ?_ ?_
    · exact w_f_X12_cobbler_39_i56  _ a_h_8
    · refine fm_ob (w_f_X12_isIn _ _ _ _) rfl a_h_8 (fun r_13 h_12 a_h_12 => ?_)
      refine fm_ite ?_ ?_
      · exact w_f_X12_cobbler_39_i56  _ a_h_12
      · refine fm_ob (w_f_X12_doorOf_i56 _ _ _) rfl a_h_12 (fun r_17 h_16 a_h_16 => ?_)
        refine fm_og (fun hb1 => ?_)
        refine fm_ite ?_ ?_
        · exact w_f_X12_cobbler_74_i56  _ _ _ _ _ _ a_h_16
        · refine fm_og (fun hb2 => ?_)
          refine fm_nm (fun x6_21 => ?_)
          exact w_f_X12_cobbler_74_i56  _ _ _ _ _ _ a_h_16
def W_X11_odd_i0 : List (Nat × Nat) := []
theorem w_f_X11_odd_28_i0 {h0 : AH} : ∀ (h : AH), Agr W_X11_odd_i0 h0 h → Fm Prod.snd W_X11_odd_i0 h0 (f_X11_odd_28 h) := by
  intro h a_h
  unfold f_X11_odd_28
  exact fm_some a_h
def W_X11_isMixedRow : List (Nat × Nat) := []
theorem w_f_X11_isMixedRow_18 {h0 : AH} : ∀ (h : AH), Agr W_X11_isMixedRow h0 h → Fm Prod.snd W_X11_isMixedRow h0 (f_X11_isMixedRow_18 h) := by
  intro h a_h
  unfold f_X11_isMixedRow_18
  exact fm_some a_h
theorem w_f_X11_isMixedRow_60 {h0 : AH} : ∀ (s0 : Int32) (h : AH), Agr W_X11_isMixedRow h0 h → Fm Prod.snd W_X11_isMixedRow h0 (f_X11_isMixedRow_60 s0 h) := by
  intro s0 h a_h
  unfold f_X11_isMixedRow_60
  refine fm_og (fun hb1 => ?_)
  exact fm_some a_h
def W_X11_rightOf : List (Nat × Nat) := []
theorem w_f_X11_rightOf (x0 : Int32) (x1 : Int32) (x2 : Int32) (h : AH) : Fm Prod.snd W_X11_rightOf h (f_X11_rightOf x0 x1 x2 h) := by
  unfold f_X11_rightOf
  have a_h : Agr W_X11_rightOf h h := agr_refl h
  refine fm_og (fun hb1 => ?_)
  refine fm_og (fun hb2 => ?_)
  exact fm_some a_h
theorem w_f_X11_isMixedRow_24 {h0 : AH} : ∀ (n : Nat) (x0 : Int32) (x1 : Int32) (x2 : Int32) (x3 : Int32) (h : AH), Agr W_X11_isMixedRow h0 h → Fm Prod.snd W_X11_isMixedRow h0 (f_X11_isMixedRow_24 n x0 x1 x2 x3 h) := by
  intro n
  induction n with
  | zero => intro x0 x1 x2 x3 h _; exact fm_none
  | succ n ih =>
    intro x0 x1 x2 x3 h a_h
    rw [f_X11_isMixedRow_24]
    refine fm_ite ?_ ?_
    · refine fm_ite ?_ ?_
      · exact w_f_X11_isMixedRow_60  _ _ a_h
      · exact w_f_X11_isMixedRow_60  _ _ a_h
    · refine fm_ob (w_f_X11_rightOf _ _ _ _) rfl a_h (fun r_5 h_4 a_h_4 => ?_)
      refine fm_nm (fun x2_6 => ?_)
      refine fm_nm (fun x3_8 => ?_)
      exact ih _ _ _ _ _ a_h_4
theorem w_f_X11_isMixedRow (x0 : Int32) (x1 : Int32) (h : AH) : Fm Prod.snd W_X11_isMixedRow h (f_X11_isMixedRow x0 x1 h) := by
  unfold f_X11_isMixedRow
  have a_h : Agr W_X11_isMixedRow h h := agr_refl h
  refine fm_ite ?_ ?_
  · exact w_f_X11_isMixedRow_18  _ a_h
  · refine fm_og (fun hb1 => ?_)
    refine fm_og (fun hb2 => ?_)
    refine fm_ite ?_ ?_
    · exact w_f_X11_isMixedRow_24  FU _ _ _ _ _ a_h
    · exact w_f_X11_isMixedRow_18  _ a_h
theorem w_f_X11_odd_123_i0 {h0 : AH} : ∀ (s0 : Int32) (h : AH), Agr W_X11_odd_i0 h0 h → Fm Prod.snd W_X11_odd_i0 h0 (f_X11_odd_123 s0 h) := by
  intro s0 h a_h
  unfold f_X11_odd_123
  exact fm_some a_h
def W_X11_isLowestOfRing : List (Nat × Nat) := []
theorem w_f_X11_isLowestOfRing_44 {h0 : AH} : ∀ (s0 : Int32) (h : AH), Agr W_X11_isLowestOfRing h0 h → Fm Prod.snd W_X11_isLowestOfRing h0 (f_X11_isLowestOfRing_44 s0 h) := by
  intro s0 h a_h
  unfold f_X11_isLowestOfRing_44
  refine fm_og (fun hb1 => ?_)
  exact fm_some a_h
theorem w_f_X11_isLowestOfRing_34 {h0 : AH} : ∀ (x2 : Int32) (x3 : Int32) (h : AH), Agr W_X11_isLowestOfRing h0 h → Fm Prod.snd W_X11_isLowestOfRing h0 (f_X11_isLowestOfRing_34 x2 x3 h) := by
  intro x2 x3 h a_h
  unfold f_X11_isLowestOfRing_34
  refine fm_ite ?_ ?_
  · exact w_f_X11_isLowestOfRing_44  _ _ a_h
  · exact w_f_X11_isLowestOfRing_44  _ _ a_h
theorem w_f_X11_isLowestOfRing_10 {h0 : AH} : ∀ (n : Nat) (x0 : Int32) (x1 : Int32) (x2 : Int32) (x3 : Int32) (x4 : Int32) (h : AH), Agr W_X11_isLowestOfRing h0 h → Fm Prod.snd W_X11_isLowestOfRing h0 (f_X11_isLowestOfRing_10 n x0 x1 x2 x3 x4 h) := by
  intro n
  induction n with
  | zero => intro x0 x1 x2 x3 x4 h _; exact fm_none
  | succ n ih =>
    intro x0 x1 x2 x3 x4 h a_h
    rw [f_X11_isLowestOfRing_10]
    refine fm_ite ?_ ?_
    · exact w_f_X11_isLowestOfRing_34  _ _ _ a_h
    · refine fm_ite ?_ ?_
      · exact w_f_X11_isLowestOfRing_34  _ _ _ a_h
      · refine fm_ob (w_f_X11_rightOf _ _ _ _) rfl a_h (fun r_5 h_4 a_h_4 => ?_)
        refine fm_nm (fun x4_6 => ?_)
        exact ih _ _ _ _ _ _ a_h_4
theorem w_f_X11_isLowestOfRing (x0 : Int32) (x1 : Int32) (x2 : Int32) (h : AH) : Fm Prod.snd W_X11_isLowestOfRing h (f_X11_isLowestOfRing x0 x1 x2 h) := by
  unfold f_X11_isLowestOfRing
  have a_h : Agr W_X11_isLowestOfRing h h := agr_refl h
  refine fm_ob (w_f_X11_rightOf _ _ _ _) rfl a_h (fun r_3 h_2 a_h_2 => ?_)
  exact w_f_X11_isLowestOfRing_10  FU _ _ _ _ _ _ a_h_2
theorem w_f_X11_odd_84_i0 {h0 : AH} {q39 : Int32 → Int32 → Int32 → Int32 → Int32 → Int32 → AH → Option (Int32 × AH)} (hq39 : ∀ (y0 : Int32) (y1 : Int32) (y2 : Int32) (y3 : Int32) (y4 : Int32) (y5 : Int32) (y6 : AH), Agr W_X11_odd_i0 h0 y6 → Fm Prod.snd W_X11_odd_i0 h0 (q39 y0 y1 y2 y3 y4 y5 y6)) : ∀ (x1 : Int32) (x2 : Int32) (x3 : Int32) (x4 : Int32) (x6 : Int32) (s0 : Int32) (s1 : Int32) (h : AH), Agr W_X11_odd_i0 h0 h → Fm Prod.snd W_X11_odd_i0 h0 (f_X11_odd_84 q39 x1 x2 x3 x4 x6 s0 s1 h) := by
  intro x1 x2 x3 x4 x6 s0 s1 h a_h
  unfold f_X11_odd_84
  refine fm_nm (fun x5_1 => ?_)
  refine fm_nm (fun x6_3 => ?_)
  exact hq39 _ _ _ _ _ _ _ a_h
theorem w_f_X11_odd_64_i0 {h0 : AH} {q39 : Int32 → Int32 → Int32 → Int32 → Int32 → Int32 → AH → Option (Int32 × AH)} (hq39 : ∀ (y0 : Int32) (y1 : Int32) (y2 : Int32) (y3 : Int32) (y4 : Int32) (y5 : Int32) (y6 : AH), Agr W_X11_odd_i0 h0 y6 → Fm Prod.snd W_X11_odd_i0 h0 (q39 y0 y1 y2 y3 y4 y5 y6)) : ∀ (x1 : Int32) (x2 : Int32) (x3 : Int32) (x5 : Int32) (x6 : Int32) (s0 : Int32) (s1 : Int32) (h : AH), Agr W_X11_odd_i0 h0 h → Fm Prod.snd W_X11_odd_i0 h0 (f_X11_odd_64 q39 x1 x2 x3 x5 x6 s0 s1 h) := by
  intro x1 x2 x3 x5 x6 s0 s1 h a_h
  unfold f_X11_odd_64
  refine fm_nm (fun x4_1 => ?_)
  refine fm_ob (w_f_X11_isLowestOfRing _ _ _ _) rfl a_h (fun r_5 h_4 a_h_4 => ?_)
  refine fm_ite ?_ ?_
  · exact w_f_X11_odd_84_i0 hq39 _ _ _ _ _ _ _ _ a_h_4
  · exact w_f_X11_odd_84_i0 hq39 _ _ _ _ _ _ _ _ a_h_4
theorem w_f_X11_odd_39_i0 {h0 : AH} : ∀ (n : Nat) (x1 : Int32) (x2 : Int32) (x3 : Int32) (x4 : Int32) (x5 : Int32) (x6 : Int32) (h : AH), Agr W_X11_odd_i0 h0 h → Fm Prod.snd W_X11_odd_i0 h0 (f_X11_odd_39 n x1 x2 x3 x4 x5 x6 h) := by
  intro n
  induction n with
  | zero => intro x1 x2 x3 x4 x5 x6 h _; exact fm_none
  | succ n ih =>
    intro x1 x2 x3 x4 x5 x6 h a_h
    rw [f_X11_odd_39]
    refine fm_ite ?_ ?_
    · refine fm_ite ?_ ?_
      · exact fm_some a_h
      · refine fm_ite ?_ ?_
        · exact w_f_X11_odd_123_i0  _ _ a_h
        · refine fm_ite ?_ ?_
          · exact w_f_X11_odd_123_i0  _ _ a_h
          · exact w_f_X11_odd_123_i0  _ _ a_h
    · refine fm_ob (w_f_X11_rightOf _ _ _ _) rfl a_h (fun r_7 h_6 a_h_6 => ?_)
      refine fm_ite ?_ ?_
      · exact w_f_X11_odd_64_i0 (fun y0 y1 y2 y3 y4 y5 y6 a => ih y0 y1 y2 y3 y4 y5 y6 a) _ _ _ _ _ _ _ _ a_h_6
      · exact w_f_X11_odd_64_i0 (fun y0 y1 y2 y3 y4 y5 y6 a => ih y0 y1 y2 y3 y4 y5 y6 a) _ _ _ _ _ _ _ _ a_h_6
theorem w_f_X11_odd_i0 (x1 : Int32) (x2 : Int32) (x3 : Int32) (h : AH) : Fm Prod.snd W_X11_odd_i0 h (f_X11_odd 0 x1 x2 x3 h) := by
  unfold f_X11_odd
  have a_h : Agr W_X11_odd_i0 h h := agr_refl h
  refine fm_ite ?_ ?_
  · exact w_f_X11_odd_28_i0  _ a_h
  · refine fm_ite ?_ ?_
    · exact w_f_X11_odd_28_i0  _ a_h
    · refine fm_ite ?_ ?_
      · exact w_f_X11_odd_28_i0  _ a_h
      · refine fm_ite ?_ ?_
        · exact w_f_X11_odd_28_i0  _ a_h
        · refine fm_ob (w_f_X11_isMixedRow _ _ _) rfl a_h (fun r_7 h_6 a_h_6 => ?_)
          refine fm_ite ?_ ?_
          · exact w_f_X11_odd_28_i0  _ a_h_6
          · exact w_f_X11_odd_39_i0  FU _ _ _ _ _ _ _ a_h_6
def W_X12_odd_i56 : List (Nat × Nat) := (56, 0) :: (56, 45) :: (78, 1000) :: (79, 1000) :: (80, 1000) :: []
theorem w_f_X12_odd_36_i56 {h0 : AH} : ∀ (h : AH), Agr W_X12_odd_i56 h0 h → Fm Prod.snd W_X12_odd_i56 h0 (f_X12_odd_36 h) := by
  intro h a_h
  unfold f_X12_odd_36
  exact fm_some a_h
def W_X12_rowOf_i80 : List (Nat × Nat) := []
theorem w_f_X12_rowOf_4_i80 {h0 : AH} : ∀ (n : Nat) (x1 : Int32) (x2 : Int32) (x3 : Int32) (h : AH), Agr W_X12_rowOf_i80 h0 h → Fm Prod.snd W_X12_rowOf_i80 h0 (f_X12_rowOf_4 n 80 x1 x2 x3 h) := by
  intro n
  induction n with
  | zero => intro x1 x2 x3 h _; exact fm_none
  | succ n ih =>
    intro x1 x2 x3 h a_h
    rw [f_X12_rowOf_4]
    refine fm_ite ?_ ?_
    · exact fm_some a_h
    · refine fm_og (fun hb1 => ?_)
      refine fm_nm (fun x2_3 => ?_)
      refine fm_nm (fun x3_5 => ?_)
      exact ih _ _ _ _ a_h
theorem w_f_X12_rowOf_i80 (x1 : Int32) (h : AH) : Fm Prod.snd W_X12_rowOf_i80 h (f_X12_rowOf 80 x1 h) := by
  unfold f_X12_rowOf
  have a_h : Agr W_X12_rowOf_i80 h h := agr_refl h
  exact w_f_X12_rowOf_4_i80  FU _ _ _ _ a_h
theorem w_f_X12_odd_323_i56 {h0 : AH} {q218 : Nat → Int32 → Int32 → Int32 → Int32 → Int32 → AH → Option (Int32 × AH)} (hq218 : ∀ (y1 : Int32) (y2 : Int32) (y3 : Int32) (y4 : Int32) (y5 : Int32) (y6 : AH), Agr W_X12_odd_i56 h0 y6 → Fm Prod.snd W_X12_odd_i56 h0 (q218 56 y1 y2 y3 y4 y5 y6)) : ∀ (x1 : Int32) (x3 : Int32) (x6 : Int32) (x7 : Int32) (x8 : Int32) (h : AH), Agr W_X12_odd_i56 h0 h → Fm Prod.snd W_X12_odd_i56 h0 (f_X12_odd_323 q218 56 x1 x3 x6 x7 x8 h) := by
  intro x1 x3 x6 x7 x8 h a_h
  unfold f_X12_odd_323
  refine fm_nm (fun x8_1 => ?_)
  exact hq218 _ _ _ _ _ _ a_h
def W_X12_rowOf_i78 : List (Nat × Nat) := []
theorem w_f_X12_rowOf_4_i78 {h0 : AH} : ∀ (n : Nat) (x1 : Int32) (x2 : Int32) (x3 : Int32) (h : AH), Agr W_X12_rowOf_i78 h0 h → Fm Prod.snd W_X12_rowOf_i78 h0 (f_X12_rowOf_4 n 78 x1 x2 x3 h) := by
  intro n
  induction n with
  | zero => intro x1 x2 x3 h _; exact fm_none
  | succ n ih =>
    intro x1 x2 x3 h a_h
    rw [f_X12_rowOf_4]
    refine fm_ite ?_ ?_
    · exact fm_some a_h
    · refine fm_og (fun hb1 => ?_)
      refine fm_nm (fun x2_3 => ?_)
      refine fm_nm (fun x3_5 => ?_)
      exact ih _ _ _ _ a_h
theorem w_f_X12_rowOf_i78 (x1 : Int32) (h : AH) : Fm Prod.snd W_X12_rowOf_i78 h (f_X12_rowOf 78 x1 h) := by
  unfold f_X12_rowOf
  have a_h : Agr W_X12_rowOf_i78 h h := agr_refl h
  exact w_f_X12_rowOf_4_i78  FU _ _ _ _ a_h
def W_X12_giveRound_i56_80 : List (Nat × Nat) := (56, 45) :: (78, 1000) :: (79, 1000) :: []
theorem w_f_X12_giveRound_138_i56_80 {h0 : AH} {cb : Nat → Int32 → Int32 → Int32 → Int32 → Nat → Int32 → AH → Option AH} (hcb : ∀ (x1 : Int32) (x2 : Int32) (x3 : Int32) (x4 : Int32) (x6 : Int32) (h : AH), Agr W_X12_giveRound_i56_80 h0 h → Fm id W_X12_giveRound_i56_80 h0 (cb 56 x1 x2 x3 x4 80 x6 h)) {q79 : Nat → Int32 → Int32 → Int32 → Int32 → Nat → Int32 → Int32 → AH → Option AH} (hq79 : ∀ (y1 : Int32) (y2 : Int32) (y3 : Int32) (y4 : Int32) (y6 : Int32) (y7 : Int32) (y8 : AH), Agr W_X12_giveRound_i56_80 h0 y8 → Fm id W_X12_giveRound_i56_80 h0 (q79 56 y1 y2 y3 y4 80 y6 y7 y8)) : ∀ (x1 : Int32) (x2 : Int32) (x3 : Int32) (x4 : Int32) (x6 : Int32) (x7 : Int32) (h : AH), Agr W_X12_giveRound_i56_80 h0 h → Fm id W_X12_giveRound_i56_80 h0 (f_X12_giveRound_138 cb q79 56 x1 x2 x3 x4 80 x6 x7 h) := by
  intro x1 x2 x3 x4 x6 x7 h a_h
  unfold f_X12_giveRound_138
  refine fm_nm (fun x7_1 => ?_)
  exact hq79 _ _ _ _ _ _ _ a_h
theorem w_f_X12_giveRound_79_i56_80 {h0 : AH} {cb : Nat → Int32 → Int32 → Int32 → Int32 → Nat → Int32 → AH → Option AH} (hcb : ∀ (x1 : Int32) (x2 : Int32) (x3 : Int32) (x4 : Int32) (x6 : Int32) (h : AH), Agr W_X12_giveRound_i56_80 h0 h → Fm id W_X12_giveRound_i56_80 h0 (cb 56 x1 x2 x3 x4 80 x6 h)) : ∀ (n : Nat) (x1 : Int32) (x2 : Int32) (x3 : Int32) (x4 : Int32) (x6 : Int32) (x7 : Int32) (h : AH), Agr W_X12_giveRound_i56_80 h0 h → Fm id W_X12_giveRound_i56_80 h0 (f_X12_giveRound_79 cb n 56 x1 x2 x3 x4 80 x6 x7 h) := by
  intro n
  induction n with
  | zero => intro x1 x2 x3 x4 x6 x7 h _; exact fm_none
  | succ n ih =>
    intro x1 x2 x3 x4 x6 x7 h a_h
    rw [f_X12_giveRound_79]
    refine fm_ite ?_ ?_
    · exact fm_some a_h
    · refine fm_ob (w_f_X12_has _ _ _) rfl a_h (fun r_4 h_3 a_h_3 => ?_)
      refine fm_ite ?_ ?_
      · exact w_f_X12_giveRound_138_i56_80 hcb (fun y0 y1 y2 y3 y4 y5 y6 a => ih y0 y1 y2 y3 y4 y5 y6 a) _ _ _ _ _ _ _ a_h_3
      · refine fm_ob (w_f_X12_has _ _ _) rfl a_h_3 (fun r_8 h_7 a_h_7 => ?_)
        refine fm_ite ?_ ?_
        · refine fm_og (fun hb1 => ?_)
          refine fm_og (fun hb2 => ?_)
          refine fm_nh (agr_sI a_h_7 rfl) (fun h_12 a_h_12 => ?_)
          refine fm_ovi (hcb _ _ _ _ _ _ a_h_12) (fun h_15 a_h_15 => ?_)
          exact w_f_X12_giveRound_138_i56_80 hcb (fun y0 y1 y2 y3 y4 y5 y6 a => ih y0 y1 y2 y3 y4 y5 y6 a) _ _ _ _ _ _ _ a_h_15
        · exact w_f_X12_giveRound_138_i56_80 hcb (fun y0 y1 y2 y3 y4 y5 y6 a => ih y0 y1 y2 y3 y4 y5 y6 a) _ _ _ _ _ _ _ a_h_7
theorem w_f_X12_giveRound_i56_80 {h0 : AH} {cb : Nat → Int32 → Int32 → Int32 → Int32 → Nat → Int32 → AH → Option AH} (hcb : ∀ (x1 : Int32) (x2 : Int32) (x3 : Int32) (x4 : Int32) (x6 : Int32) (h : AH), Agr W_X12_giveRound_i56_80 h0 h → Fm id W_X12_giveRound_i56_80 h0 (cb 56 x1 x2 x3 x4 80 x6 h)) : ∀ (x1 : Int32) (x2 : Int32) (x3 : Int32) (x4 : Int32) (x6 : Int32) (h : AH), Agr W_X12_giveRound_i56_80 h0 h → Fm id W_X12_giveRound_i56_80 h0 (f_X12_giveRound cb 56 x1 x2 x3 x4 80 x6 h) := by
  intro x1 x2 x3 x4 x6 h a_h
  unfold f_X12_giveRound
  refine fm_ite ?_ ?_
  · refine fm_ob (w_f_X12_rowOf_i78 _ _) rfl a_h (fun r_14 h_13 a_h_13 => ?_)
    refine fm_og (fun hb1 => ?_)
    refine fm_ite ?_ ?_
    · refine fm_og (fun hb2 => ?_)
      refine fm_nh (agr_sI a_h_13 rfl) (fun h_18 a_h_18 => ?_)
      refine fm_nh (agr_sI a_h_18 rfl) (fun h_20 a_h_20 => ?_)
      exact fm_some a_h_20
    · exact fm_some a_h_13
  · refine fm_ob (w_f_X12_has _ _ _) rfl a_h (fun r_4 h_3 a_h_3 => ?_)
    refine fm_ite ?_ ?_
    · refine fm_og (fun hb3 => ?_)
      refine fm_og (fun hb4 => ?_)
      refine fm_nh (agr_sI a_h_3 rfl) (fun h_8 a_h_8 => ?_)
      refine fm_ovi (hcb _ _ _ _ _ _ a_h_8) (fun h_11 a_h_11 => ?_)
      exact fm_some a_h_11
    · exact w_f_X12_giveRound_79_i56_80 hcb FU _ _ _ _ _ _ _ a_h_3
theorem w_r_X12_giveRound_i56_80 {h0 : AH} : ∀ (n : Nat) (x1 : Int32) (x2 : Int32) (x3 : Int32) (x4 : Int32) (x6 : Int32) (h : AH), Agr W_X12_giveRound_i56_80 h0 h → Fm id W_X12_giveRound_i56_80 h0 (r_X12_giveRound n 56 x1 x2 x3 x4 80 x6 h) := by
  intro n
  induction n with
  | zero => intro x1 x2 x3 x4 x6 h _; exact fm_none
  | succ n ih =>
    intro x1 x2 x3 x4 x6 h a
    rw [r_X12_giveRound]
    exact w_f_X12_giveRound_i56_80 (fun x1 x2 x3 x4 x6 h a => ih x1 x2 x3 x4 x6 h a) _ _ _ _ _ _ a
theorem w_f_X12_odd_317_i56 {h0 : AH} {q285 : Nat → Int32 → Int32 → Int32 → Int32 → Int32 → Int32 → AH → Option (Int32 × AH)} (hq285 : ∀ (y1 : Int32) (y2 : Int32) (y3 : Int32) (y4 : Int32) (y5 : Int32) (y6 : Int32) (y7 : AH), Agr W_X12_odd_i56 h0 y7 → Fm Prod.snd W_X12_odd_i56 h0 (q285 56 y1 y2 y3 y4 y5 y6 y7)) : ∀ (x1 : Int32) (x3 : Int32) (x6 : Int32) (x7 : Int32) (x8 : Int32) (x10 : Int32) (h : AH), Agr W_X12_odd_i56 h0 h → Fm Prod.snd W_X12_odd_i56 h0 (f_X12_odd_317 q285 56 x1 x3 x6 x7 x8 x10 h) := by
  intro x1 x3 x6 x7 x8 x10 h a_h
  unfold f_X12_odd_317
  refine fm_nm (fun x10_1 => ?_)
  exact hq285 _ _ _ _ _ _ _ a_h
theorem w_f_X12_odd_285_i56 {h0 : AH} {q218 : Nat → Int32 → Int32 → Int32 → Int32 → Int32 → AH → Option (Int32 × AH)} (hq218 : ∀ (y1 : Int32) (y2 : Int32) (y3 : Int32) (y4 : Int32) (y5 : Int32) (y6 : AH), Agr W_X12_odd_i56 h0 y6 → Fm Prod.snd W_X12_odd_i56 h0 (q218 56 y1 y2 y3 y4 y5 y6)) : ∀ (n : Nat) (x1 : Int32) (x3 : Int32) (x6 : Int32) (x7 : Int32) (x8 : Int32) (x10 : Int32) (h : AH), Agr W_X12_odd_i56 h0 h → Fm Prod.snd W_X12_odd_i56 h0 (f_X12_odd_285 q218 n 56 x1 x3 x6 x7 x8 x10 h) := by
  intro n
  induction n with
  | zero => intro x1 x3 x6 x7 x8 x10 h _; exact fm_none
  | succ n ih =>
    intro x1 x3 x6 x7 x8 x10 h a_h
    rw [f_X12_odd_285]
    refine fm_ite ?_ ?_
    · exact w_f_X12_odd_323_i56 hq218 _ _ _ _ _ _ a_h
    · refine fm_ob (w_f_J6_bitCount_0f7a4 _ _) rfl a_h (fun r_4 h_3 a_h_3 => ?_)
      refine fm_ite ?_ ?_
      · refine fm_ov (w_r_X12_giveRound_i56_80 12 _ _ _ _ _ _ (agr_refl _)) rfl a_h_3 (fun h_7 a_h_7 => ?_)
        exact w_f_X12_odd_317_i56 (fun y0 y1 y2 y3 y4 y5 y6 a => ih y0 y1 y2 y3 y4 y5 y6 a) _ _ _ _ _ _ _ a_h_7
      · exact w_f_X12_odd_317_i56 (fun y0 y1 y2 y3 y4 y5 y6 a => ih y0 y1 y2 y3 y4 y5 y6 a) _ _ _ _ _ _ _ a_h_3
theorem w_f_X12_odd_254_i56 {h0 : AH} {q218 : Nat → Int32 → Int32 → Int32 → Int32 → Int32 → AH → Option (Int32 × AH)} (hq218 : ∀ (y1 : Int32) (y2 : Int32) (y3 : Int32) (y4 : Int32) (y5 : Int32) (y6 : AH), Agr W_X12_odd_i56 h0 y6 → Fm Prod.snd W_X12_odd_i56 h0 (q218 56 y1 y2 y3 y4 y5 y6)) : ∀ (n : Nat) (x1 : Int32) (x3 : Int32) (x6 : Int32) (x7 : Int32) (x8 : Int32) (x9 : Int32) (x10 : Int32) (h : AH), Agr W_X12_odd_i56 h0 h → Fm Prod.snd W_X12_odd_i56 h0 (f_X12_odd_254 q218 n 56 x1 x3 x6 x7 x8 x9 x10 h) := by
  intro n
  induction n with
  | zero => intro x1 x3 x6 x7 x8 x9 x10 h _; exact fm_none
  | succ n ih =>
    intro x1 x3 x6 x7 x8 x9 x10 h a_h
    rw [f_X12_odd_254]
    refine fm_ite ?_ ?_
    · exact w_f_X12_odd_285_i56 hq218 FU _ _ _ _ _ _ _ a_h
    · refine fm_og (fun hb1 => ?_)
      refine fm_nh (agr_sI a_h rfl) (fun h_3 a_h_3 => ?_)
      refine fm_nm (fun x9_5 => ?_)
      refine fm_nm (fun x10_7 => ?_)
      exact ih _ _ _ _ _ _ _ _ a_h_3
theorem w_f_X12_odd_218_i56 {h0 : AH} {q199 : Nat → Int32 → Int32 → Int32 → Int32 → AH → Option (Int32 × AH)} (hq199 : ∀ (y1 : Int32) (y2 : Int32) (y3 : Int32) (y4 : Int32) (y5 : AH), Agr W_X12_odd_i56 h0 y5 → Fm Prod.snd W_X12_odd_i56 h0 (q199 56 y1 y2 y3 y4 y5)) : ∀ (n : Nat) (x1 : Int32) (x3 : Int32) (x6 : Int32) (x7 : Int32) (x8 : Int32) (h : AH), Agr W_X12_odd_i56 h0 h → Fm Prod.snd W_X12_odd_i56 h0 (f_X12_odd_218 q199 n 56 x1 x3 x6 x7 x8 h) := by
  intro n
  induction n with
  | zero => intro x1 x3 x6 x7 x8 h _; exact fm_none
  | succ n ih =>
    intro x1 x3 x6 x7 x8 h a_h
    rw [f_X12_odd_218]
    refine fm_ite ?_ ?_
    · refine fm_ite ?_ ?_
      · exact fm_some a_h
      · refine fm_nm (fun x7_3 => ?_)
        exact hq199 _ _ _ _ _ a_h
    · refine fm_og (fun hb1 => ?_)
      refine fm_ite ?_ ?_
      · refine fm_nm (fun x10_7 => ?_)
        exact w_f_X12_odd_254_i56 (fun y0 y1 y2 y3 y4 y5 a => ih y0 y1 y2 y3 y4 y5 a) FU _ _ _ _ _ _ _ _ a_h
      · exact w_f_X12_odd_323_i56 (fun y0 y1 y2 y3 y4 y5 a => ih y0 y1 y2 y3 y4 y5 a) _ _ _ _ _ _ a_h
theorem w_f_X12_odd_199_i56 {h0 : AH} : ∀ (n : Nat) (x1 : Int32) (x3 : Int32) (x6 : Int32) (x7 : Int32) (h : AH), Agr W_X12_odd_i56 h0 h → Fm Prod.snd W_X12_odd_i56 h0 (f_X12_odd_199 n 56 x1 x3 x6 x7 h) := by
  intro n
  induction n with
  | zero => intro x1 x3 x6 x7 h _; exact fm_none
  | succ n ih =>
    intro x1 x3 x6 x7 h a_h
    rw [f_X12_odd_199]
    refine fm_og (fun hb1 => ?_)
    refine fm_ite ?_ ?_
    · refine fm_nh (agr_sI a_h rfl) (fun h_4 a_h_4 => ?_)
      exact w_f_X12_odd_218_i56 (fun y0 y1 y2 y3 y4 a => ih y0 y1 y2 y3 y4 a) FU _ _ _ _ _ _ a_h_4
    · refine fm_og (fun hb2 => ?_)
      exact fm_some a_h
theorem w_f_X12_odd_175_i56 {h0 : AH} : ∀ (n : Nat) (x1 : Int32) (x3 : Int32) (x6 : Int32) (x7 : Int32) (h : AH), Agr W_X12_odd_i56 h0 h → Fm Prod.snd W_X12_odd_i56 h0 (f_X12_odd_175 n 56 x1 x3 x6 x7 h) := by
  intro n
  induction n with
  | zero => intro x1 x3 x6 x7 h _; exact fm_none
  | succ n ih =>
    intro x1 x3 x6 x7 h a_h
    rw [f_X12_odd_175]
    refine fm_ite ?_ ?_
    · exact w_f_X12_odd_199_i56  FU _ _ _ _ _ a_h
    · refine fm_nm (fun x6_2 => ?_)
      refine fm_nm (fun x7_4 => ?_)
      exact ih _ _ _ _ _ a_h
theorem w_f_X12_odd_131_i56 {h0 : AH} : ∀ (n : Nat) (x1 : Int32) (x3 : Int32) (x6 : Int32) (h : AH), Agr W_X12_odd_i56 h0 h → Fm Prod.snd W_X12_odd_i56 h0 (f_X12_odd_131 n 56 x1 x3 x6 h) := by
  intro n
  induction n with
  | zero => intro x1 x3 x6 h _; exact fm_none
  | succ n ih =>
    intro x1 x3 x6 h a_h
    rw [f_X12_odd_131]
    refine fm_ite ?_ ?_
    · refine fm_ob (w_f_X12_rowOf_i80 _ _) rfl a_h (fun r_4 h_3 a_h_3 => ?_)
      refine fm_og (fun hb1 => ?_)
      refine fm_nh (agr_sI a_h_3 rfl) (fun h_6 a_h_6 => ?_)
      exact w_f_X12_odd_175_i56  FU _ _ _ _ _ a_h_6
    · refine fm_og (fun hb2 => ?_)
      refine fm_nh (agr_sI a_h rfl) (fun h_9 a_h_9 => ?_)
      refine fm_nm (fun x6_11 => ?_)
      exact ih _ _ _ _ a_h_9
theorem w_f_X12_odd_99_i56 {h0 : AH} : ∀ (h : AH), Agr W_X12_odd_i56 h0 h → Fm Prod.snd W_X12_odd_i56 h0 (f_X12_odd_99 h) := by
  intro h a_h
  unfold f_X12_odd_99
  exact fm_some a_h
theorem w_f_X12_odd_49_i56 {h0 : AH} : ∀ (n : Nat) (x1 : Int32) (x3 : Int32) (x4 : Int32) (x5 : Int32) (x6 : Int32) (h : AH), Agr W_X12_odd_i56 h0 h → Fm Prod.snd W_X12_odd_i56 h0 (f_X12_odd_49 n 56 x1 x3 x4 x5 x6 h) := by
  intro n
  induction n with
  | zero => intro x1 x3 x4 x5 x6 h _; exact fm_none
  | succ n ih =>
    intro x1 x3 x4 x5 x6 h a_h
    rw [f_X12_odd_49]
    refine fm_ite ?_ ?_
    · refine fm_ite ?_ ?_
      · exact w_f_X12_odd_131_i56  FU _ _ _ _ a_h
      · exact fm_some a_h
    · refine fm_og (fun hb1 => ?_)
      refine fm_nh (agr_sI a_h rfl) (fun h_4 a_h_4 => ?_)
      refine fm_nm (fun x4_6 => ?_)
      refine fm_og (fun hb2 => ?_)
      refine fm_ite ?_ ?_
      · exact w_f_X12_odd_99_i56  _ a_h_4
      · refine fm_og (fun hb3 => ?_)
        refine fm_ob (w_f_X12_has _ _ _) rfl a_h_4 (fun r_13 h_12 a_h_12 => ?_)
        refine fm_ite ?_ ?_
        · refine fm_og (fun hb4 => ?_)
          refine fm_nm (fun x5_16 => ?_)
          refine fm_nm (fun x6_18 => ?_)
          exact ih _ _ _ _ _ _ a_h_12
        · exact w_f_X12_odd_99_i56  _ a_h_12
theorem w_f_X12_odd_i56 (x1 : Int32) (x2 : Int32) (x3 : Int32) (h : AH) : Fm Prod.snd W_X12_odd_i56 h (f_X12_odd 56 x1 x2 x3 h) := by
  unfold f_X12_odd
  have a_h : Agr W_X12_odd_i56 h h := agr_refl h
  refine fm_nh (agr_sI a_h rfl) (fun h_1 a_h_1 => ?_)
  refine fm_ob (w_f_X12_isIn _ _ _ _) rfl a_h_1 (fun r_5 h_4 a_h_4 => ?_)
  refine fm_ite ?_ ?_
  · exact w_f_X12_odd_36_i56  _ a_h_4
  · refine fm_ob (w_f_X12_isIn _ _ _ _) rfl a_h_4 (fun r_9 h_8 a_h_8 => ?_)
    refine fm_ite ?_ ?_
    · exact w_f_X12_odd_36_i56  _ a_h_8
    · refine fm_ite ?_ ?_
      · refine fm_nm (fun x6_12 => ?_)
        exact w_f_X12_odd_49_i56  FU _ _ _ _ _ _ a_h_8
      · exact w_f_X12_odd_36_i56  _ a_h_8
def W_X11_sight_i0 : List (Nat × Nat) := (32, 3) :: (34, 1000) :: []
theorem w_f_X11_sight_71_i0 {h0 : AH} : ∀ (h : AH), Agr W_X11_sight_i0 h0 h → Fm Prod.snd W_X11_sight_i0 h0 (f_X11_sight_71 h) := by
  intro h a_h
  unfold f_X11_sight_71
  exact fm_some a_h
def W_X1_addSight_i32 : List (Nat × Nat) := (32, 3) :: (34, 1000) :: []
theorem w_f_X1_addSight_59_i32 {h0 : AH} : ∀ (h : AH), Agr W_X1_addSight_i32 h0 h → Fm id W_X1_addSight_i32 h0 (f_X1_addSight_59 h) := by
  intro h a_h
  unfold f_X1_addSight_59
  exact fm_some a_h
theorem w_f_X1_addSight_i32 (x1 : Int32) (x2 : Int32) (x3 : Int32) (h : AH) : Fm id W_X1_addSight_i32 h (f_X1_addSight 32 x1 x2 x3 h) := by
  unfold f_X1_addSight
  have a_h : Agr W_X1_addSight_i32 h h := agr_refl h
  refine fm_ite ?_ ?_
  · exact w_f_X1_addSight_59_i32  _ a_h
  · refine fm_og (fun hb1 => ?_)
    refine fm_nh (agr_sI a_h rfl) (fun h_3 a_h_3 => ?_)
    refine fm_og (fun hb2 => ?_)
    refine fm_nh (agr_sI a_h_3 rfl) (fun h_6 a_h_6 => ?_)
    refine fm_og (fun hb3 => ?_)
    refine fm_nh (agr_sI a_h_6 rfl) (fun h_9 a_h_9 => ?_)
    refine fm_nh (agr_sI a_h_9 rfl) (fun h_11 a_h_11 => ?_)
    exact w_f_X1_addSight_59_i32  _ a_h_11
theorem w_f_X11_sight_47_i0 {h0 : AH} : ∀ (x1 : Int32) (x2 : Int32) (x3 : Int32) (h : AH), Agr W_X11_sight_i0 h0 h → Fm Prod.snd W_X11_sight_i0 h0 (f_X11_sight_47 0 x1 x2 x3 h) := by
  intro x1 x2 x3 h a_h
  unfold f_X11_sight_47
  refine fm_ite ?_ ?_
  · exact w_f_X11_sight_71_i0  _ a_h
  · refine fm_ite ?_ ?_
    · exact w_f_X11_sight_71_i0  _ a_h
    · refine fm_ite ?_ ?_
      · exact w_f_X11_sight_71_i0  _ a_h
      · refine fm_ov (w_f_X1_addSight_i32 _ _ _ _) rfl a_h (fun h_5 a_h_5 => ?_)
        exact fm_some a_h_5
theorem w_f_X11_sight_17_i0 {h0 : AH} : ∀ (x1 : Int32) (x2 : Int32) (x3 : Int32) (s0 : Int32) (h : AH), Agr W_X11_sight_i0 h0 h → Fm Prod.snd W_X11_sight_i0 h0 (f_X11_sight_17 0 x1 x2 x3 s0 h) := by
  intro x1 x2 x3 s0 h a_h
  unfold f_X11_sight_17
  refine fm_ite ?_ ?_
  · exact w_f_X11_sight_71_i0  _ a_h
  · refine fm_ite ?_ ?_
    · exact w_f_X11_sight_71_i0  _ a_h
    · refine fm_ob (w_f_X11_isKnown_i0 _ _) rfl a_h (fun r_5 h_4 a_h_4 => ?_)
      refine fm_ite ?_ ?_
      · refine fm_ite ?_ ?_
        · exact w_f_X11_sight_71_i0  _ a_h_4
        · exact w_f_X11_sight_47_i0  _ _ _ _ a_h_4
      · exact w_f_X11_sight_47_i0  _ _ _ _ a_h_4
theorem w_f_X11_sight_16_i0 {h0 : AH} : ∀ (x1 : Int32) (x2 : Int32) (x3 : Int32) (h : AH), Agr W_X11_sight_i0 h0 h → Fm Prod.snd W_X11_sight_i0 h0 (f_X11_sight_16 0 x1 x2 x3 h) := by
  intro x1 x2 x3 h a_h
  unfold f_X11_sight_16
  exact w_f_X11_sight_17_i0  _ _ _ _ _ a_h
theorem w_f_X11_sight_i0 (x1 : Int32) (x2 : Int32) (x3 : Int32) (h : AH) : Fm Prod.snd W_X11_sight_i0 h (f_X11_sight 0 x1 x2 x3 h) := by
  unfold f_X11_sight
  have a_h : Agr W_X11_sight_i0 h h := agr_refl h
  refine fm_ite ?_ ?_
  · exact w_f_X11_sight_16_i0  _ _ _ _ a_h
  · refine fm_ite ?_ ?_
    · exact w_f_X11_sight_16_i0  _ _ _ _ a_h
    · exact w_f_X11_sight_17_i0  _ _ _ _ _ a_h
def W_X12_sight_i56 : List (Nat × Nat) := (56, 0) :: (56, 50) :: (81, 1000) :: (82, 1000) :: (83, 1000) :: []
theorem w_f_X12_sight_66_i56 {h0 : AH} : ∀ (h : AH), Agr W_X12_sight_i56 h0 h → Fm Prod.snd W_X12_sight_i56 h0 (f_X12_sight_66 h) := by
  intro h a_h
  unfold f_X12_sight_66
  exact fm_some a_h
theorem w_f_X12_sight_52_i56 {h0 : AH} : ∀ (x1 : Int32) (x2 : Int32) (x3 : Int32) (h : AH), Agr W_X12_sight_i56 h0 h → Fm Prod.snd W_X12_sight_i56 h0 (f_X12_sight_52 56 x1 x2 x3 h) := by
  intro x1 x2 x3 h a_h
  unfold f_X12_sight_52
  refine fm_ob (w_f_X12_isIn _ _ _ _) rfl a_h (fun r_3 h_2 a_h_2 => ?_)
  refine fm_ite ?_ ?_
  · exact w_f_X12_sight_66_i56  _ a_h_2
  · refine fm_og (fun hb1 => ?_)
    refine fm_nh (agr_sI a_h_2 rfl) (fun h_6 a_h_6 => ?_)
    refine fm_og (fun hb2 => ?_)
    refine fm_nh (agr_sI a_h_6 rfl) (fun h_9 a_h_9 => ?_)
    refine fm_og (fun hb3 => ?_)
    refine fm_nh (agr_sI a_h_9 rfl) (fun h_12 a_h_12 => ?_)
    refine fm_nh (agr_sI a_h_12 rfl) (fun h_14 a_h_14 => ?_)
    exact fm_some a_h_14
theorem w_f_X12_sight_i56 (x1 : Int32) (x2 : Int32) (x3 : Int32) (h : AH) : Fm Prod.snd W_X12_sight_i56 h (f_X12_sight 56 x1 x2 x3 h) := by
  unfold f_X12_sight
  have a_h : Agr W_X12_sight_i56 h h := agr_refl h
  refine fm_nh (agr_sI a_h rfl) (fun h_1 a_h_1 => ?_)
  refine fm_ite ?_ ?_
  · exact w_f_X12_sight_66_i56  _ a_h_1
  · refine fm_ob (w_f_X12_isIn _ _ _ _) rfl a_h_1 (fun r_6 h_5 a_h_5 => ?_)
    refine fm_ite ?_ ?_
    · exact w_f_X12_sight_66_i56  _ a_h_5
    · refine fm_ob (w_f_X12_isPerson_i56 _ _) rfl a_h_5 (fun r_10 h_9 a_h_9 => ?_)
      refine fm_ite ?_ ?_
      · refine fm_ob (w_f_X12_isIn _ _ _ _) rfl a_h_9 (fun r_14 h_13 a_h_13 => ?_)
        refine fm_ite ?_ ?_
        · exact w_f_X12_sight_66_i56  _ a_h_13
        · exact w_f_X12_sight_52_i56  _ _ _ _ a_h_13
      · exact w_f_X12_sight_52_i56  _ _ _ _ a_h_9
def W_X1_placeOf_i32 : List (Nat × Nat) := []
theorem w_f_X1_placeOf_i32 (x1 : Int32) (x2 : Int32) (h : AH) : Fm Prod.snd W_X1_placeOf_i32 h (f_X1_placeOf 32 x1 x2 h) := by
  unfold f_X1_placeOf
  have a_h : Agr W_X1_placeOf_i32 h h := agr_refl h
  refine fm_og (fun hb1 => ?_)
  exact fm_some a_h
def W_X1_isSeenAlways_i32 : List (Nat × Nat) := []
theorem w_f_X1_isSeenAlways_50_i32 {h0 : AH} : ∀ (h : AH), Agr W_X1_isSeenAlways_i32 h0 h → Fm Prod.snd W_X1_isSeenAlways_i32 h0 (f_X1_isSeenAlways_50 h) := by
  intro h a_h
  unfold f_X1_isSeenAlways_50
  exact fm_some a_h
theorem w_f_X1_isSeenAlways_2_i32 {h0 : AH} : ∀ (n : Nat) (x1 : Int32) (x2 : Int32) (x3 : Int32) (h : AH), Agr W_X1_isSeenAlways_i32 h0 h → Fm Prod.snd W_X1_isSeenAlways_i32 h0 (f_X1_isSeenAlways_2 n 32 x1 x2 x3 h) := by
  intro n
  induction n with
  | zero => intro x1 x2 x3 h _; exact fm_none
  | succ n ih =>
    intro x1 x2 x3 h a_h
    rw [f_X1_isSeenAlways_2]
    refine fm_ite ?_ ?_
    · exact fm_some a_h
    · refine fm_og (fun hb1 => ?_)
      refine fm_ob (w_f_X1_placeOf_i32 _ _ _) rfl a_h (fun r_5 h_4 a_h_4 => ?_)
      refine fm_og (fun hb2 => ?_)
      refine fm_ite ?_ ?_
      · refine fm_og (fun hb3 => ?_)
        refine fm_ite ?_ ?_
        · refine fm_nm (fun x3_10 => ?_)
          exact ih _ _ _ _ a_h_4
        · exact w_f_X1_isSeenAlways_50_i32  _ a_h_4
      · exact w_f_X1_isSeenAlways_50_i32  _ a_h_4
theorem w_f_X1_isSeenAlways_i32 (x1 : Int32) (x2 : Int32) (h : AH) : Fm Prod.snd W_X1_isSeenAlways_i32 h (f_X1_isSeenAlways 32 x1 x2 h) := by
  unfold f_X1_isSeenAlways
  have a_h : Agr W_X1_isSeenAlways_i32 h h := agr_refl h
  exact w_f_X1_isSeenAlways_2_i32  FU _ _ _ _ a_h
def W_X11_agree_i0 : List (Nat × Nat) := []
theorem w_f_X11_agree_53_i0 {h0 : AH} {q16 : Nat → Int32 → Int32 → AH → Option (Int32 × AH)} (hq16 : ∀ (y1 : Int32) (y2 : Int32) (y3 : AH), Agr W_X11_agree_i0 h0 y3 → Fm Prod.snd W_X11_agree_i0 h0 (q16 0 y1 y2 y3)) : ∀ (x1 : Int32) (x2 : Int32) (h : AH), Agr W_X11_agree_i0 h0 h → Fm Prod.snd W_X11_agree_i0 h0 (f_X11_agree_53 q16 0 x1 x2 h) := by
  intro x1 x2 h a_h
  unfold f_X11_agree_53
  refine fm_nm (fun x2_1 => ?_)
  exact hq16 _ _ _ a_h
theorem w_f_X11_agree_16_i0 {h0 : AH} : ∀ (n : Nat) (x1 : Int32) (x2 : Int32) (h : AH), Agr W_X11_agree_i0 h0 h → Fm Prod.snd W_X11_agree_i0 h0 (f_X11_agree_16 n 0 x1 x2 h) := by
  intro n
  induction n with
  | zero => intro x1 x2 h _; exact fm_none
  | succ n ih =>
    intro x1 x2 h a_h
    rw [f_X11_agree_16]
    refine fm_ite ?_ ?_
    · exact fm_some a_h
    · refine fm_ob (w_f_X6_item_i3 _ _ _) rfl a_h (fun r_4 h_3 a_h_3 => ?_)
      refine fm_ob (w_f_X1_isSeenAlways_i32 _ _ _) rfl a_h_3 (fun r_7 h_6 a_h_6 => ?_)
      refine fm_ite ?_ ?_
      · exact w_f_X11_agree_53_i0 (fun y0 y1 y2 a => ih y0 y1 y2 a) _ _ _ a_h_6
      · refine fm_nm (fun x1_9 => ?_)
        exact w_f_X11_agree_53_i0 (fun y0 y1 y2 a => ih y0 y1 y2 a) _ _ _ a_h_6
theorem w_f_X11_agree_i0 (h : AH) : Fm Prod.snd W_X11_agree_i0 h (f_X11_agree 0 h) := by
  unfold f_X11_agree
  have a_h : Agr W_X11_agree_i0 h h := agr_refl h
  refine fm_ite ?_ ?_
  · exact fm_some a_h
  · exact w_f_X11_agree_16_i0  FU _ _ _ a_h
def W_X12_agree_i56 : List (Nat × Nat) := (56, 0) :: []
theorem w_f_X12_agree_111_i56 {h0 : AH} {q18 : Nat → Int32 → Int32 → AH → Option (Int32 × AH)} (hq18 : ∀ (y1 : Int32) (y2 : Int32) (y3 : AH), Agr W_X12_agree_i56 h0 y3 → Fm Prod.snd W_X12_agree_i56 h0 (q18 56 y1 y2 y3)) : ∀ (x2 : Int32) (s0 : Int32) (s1 : Int32) (h : AH), Agr W_X12_agree_i56 h0 h → Fm Prod.snd W_X12_agree_i56 h0 (f_X12_agree_111 q18 56 x2 s0 s1 h) := by
  intro x2 s0 s1 h a_h
  unfold f_X12_agree_111
  refine fm_nm (fun x1_1 => ?_)
  refine fm_nm (fun x2_3 => ?_)
  exact hq18 _ _ _ a_h
theorem w_f_X12_agree_92_i56 {h0 : AH} {q31 : Nat → Int32 → Int32 → Int32 → Int32 → AH → Option (Int32 × AH)} (hq31 : ∀ (y1 : Int32) (y2 : Int32) (y3 : Int32) (y4 : Int32) (y5 : AH), Agr W_X12_agree_i56 h0 y5 → Fm Prod.snd W_X12_agree_i56 h0 (q31 56 y1 y2 y3 y4 y5)) : ∀ (x1 : Int32) (x2 : Int32) (x4 : Int32) (s0 : Int32) (h : AH), Agr W_X12_agree_i56 h0 h → Fm Prod.snd W_X12_agree_i56 h0 (f_X12_agree_92 q31 56 x1 x2 x4 s0 h) := by
  intro x1 x2 x4 s0 h a_h
  unfold f_X12_agree_92
  refine fm_nm (fun x4_1 => ?_)
  exact hq31 _ _ _ _ _ a_h
theorem w_f_X12_agree_91_i56 {h0 : AH} {q31 : Nat → Int32 → Int32 → Int32 → Int32 → AH → Option (Int32 × AH)} (hq31 : ∀ (y1 : Int32) (y2 : Int32) (y3 : Int32) (y4 : Int32) (y5 : AH), Agr W_X12_agree_i56 h0 y5 → Fm Prod.snd W_X12_agree_i56 h0 (q31 56 y1 y2 y3 y4 y5)) : ∀ (x1 : Int32) (x2 : Int32) (x4 : Int32) (h : AH), Agr W_X12_agree_i56 h0 h → Fm Prod.snd W_X12_agree_i56 h0 (f_X12_agree_91 q31 56 x1 x2 x4 h) := by
  intro x1 x2 x4 h a_h
  unfold f_X12_agree_91
  exact w_f_X12_agree_92_i56 hq31 _ _ _ _ _ a_h
theorem w_f_X12_agree_31_i56 {h0 : AH} {q18 : Nat → Int32 → Int32 → AH → Option (Int32 × AH)} (hq18 : ∀ (y1 : Int32) (y2 : Int32) (y3 : AH), Agr W_X12_agree_i56 h0 y3 → Fm Prod.snd W_X12_agree_i56 h0 (q18 56 y1 y2 y3)) : ∀ (n : Nat) (x1 : Int32) (x2 : Int32) (x3 : Int32) (x4 : Int32) (h : AH), Agr W_X12_agree_i56 h0 h → Fm Prod.snd W_X12_agree_i56 h0 (f_X12_agree_31 q18 n 56 x1 x2 x3 x4 h) := by
  intro n
  induction n with
  | zero => intro x1 x2 x3 x4 h _; exact fm_none
  | succ n ih =>
    intro x1 x2 x3 x4 h a_h
    rw [f_X12_agree_31]
    refine fm_ite ?_ ?_
    · refine fm_ite ?_ ?_
      · exact w_f_X12_agree_111_i56 hq18 _ _ _ _ a_h
      · exact w_f_X12_agree_111_i56 hq18 _ _ _ _ a_h
    · refine fm_ite ?_ ?_
      · exact w_f_X12_agree_91_i56 (fun y0 y1 y2 y3 y4 a => ih y0 y1 y2 y3 y4 a) _ _ _ _ a_h
      · refine fm_og (fun hb1 => ?_)
        refine fm_og (fun hb2 => ?_)
        refine fm_ite ?_ ?_
        · refine fm_og (fun hb3 => ?_)
          refine fm_og (fun hb4 => ?_)
          refine fm_og (fun hb5 => ?_)
          refine fm_ite ?_ ?_
          · exact w_f_X12_agree_92_i56 (fun y0 y1 y2 y3 y4 a => ih y0 y1 y2 y3 y4 a) _ _ _ _ _ a_h
          · exact w_f_X12_agree_91_i56 (fun y0 y1 y2 y3 y4 a => ih y0 y1 y2 y3 y4 a) _ _ _ _ a_h
        · exact w_f_X12_agree_91_i56 (fun y0 y1 y2 y3 y4 a => ih y0 y1 y2 y3 y4 a) _ _ _ _ a_h
theorem w_f_X12_agree_18_i56 {h0 : AH} : ∀ (n : Nat) (x1 : Int32) (x2 : Int32) (h : AH), Agr W_X12_agree_i56 h0 h → Fm Prod.snd W_X12_agree_i56 h0 (f_X12_agree_18 n 56 x1 x2 h) := by
  intro n
  induction n with
  | zero => intro x1 x2 h _; exact fm_none
  | succ n ih =>
    intro x1 x2 h a_h
    rw [f_X12_agree_18]
    refine fm_ite ?_ ?_
    · exact fm_some a_h
    · exact w_f_X12_agree_31_i56 (fun y0 y1 y2 a => ih y0 y1 y2 a) FU _ _ _ _ _ a_h
theorem w_f_X12_agree_i56 (h : AH) : Fm Prod.snd W_X12_agree_i56 h (f_X12_agree 56 h) := by
  unfold f_X12_agree
  have a_h : Agr W_X12_agree_i56 h h := agr_refl h
  refine fm_nh (agr_sI a_h rfl) (fun h_1 a_h_1 => ?_)
  refine fm_ite ?_ ?_
  · exact fm_some a_h_1
  · exact w_f_X12_agree_18_i56  FU _ _ _ a_h_1
def W_X11_been_i0 : List (Nat × Nat) := []
theorem w_f_X11_been_24_i0 {h0 : AH} : ∀ (h : AH), Agr W_X11_been_i0 h0 h → Fm Prod.snd W_X11_been_i0 h0 (f_X11_been_24 h) := by
  intro h a_h
  unfold f_X11_been_24
  exact fm_some a_h
def W_X1_placesOf_i32 : List (Nat × Nat) := []
theorem w_f_X1_placesOf_4_i32 {h0 : AH} : ∀ (n : Nat) (x1 : Int32) (x2 : Int32) (x3 : Int32) (h : AH), Agr W_X1_placesOf_i32 h0 h → Fm Prod.snd W_X1_placesOf_i32 h0 (f_X1_placesOf_4 n 32 x1 x2 x3 h) := by
  intro n
  induction n with
  | zero => intro x1 x2 x3 h _; exact fm_none
  | succ n ih =>
    intro x1 x2 x3 h a_h
    rw [f_X1_placesOf_4]
    refine fm_ite ?_ ?_
    · refine fm_ob (w_f_J6_bitCount_0f7a4 _ _) rfl a_h (fun r_4 h_3 a_h_3 => ?_)
      exact fm_some a_h_3
    · refine fm_ob (w_f_X1_placeOf_i32 _ _ _) rfl a_h (fun r_7 h_6 a_h_6 => ?_)
      refine fm_nm (fun x2_8 => ?_)
      refine fm_nm (fun x3_10 => ?_)
      exact ih _ _ _ _ a_h_6
theorem w_f_X1_placesOf_i32 (x1 : Int32) (h : AH) : Fm Prod.snd W_X1_placesOf_i32 h (f_X1_placesOf 32 x1 h) := by
  unfold f_X1_placesOf
  have a_h : Agr W_X1_placesOf_i32 h h := agr_refl h
  exact w_f_X1_placesOf_4_i32  FU _ _ _ _ a_h
theorem w_f_X11_been_51_i0 {h0 : AH} : ∀ (s0 : Int32) (h : AH), Agr W_X11_been_i0 h0 h → Fm Prod.snd W_X11_been_i0 h0 (f_X11_been_51 s0 h) := by
  intro s0 h a_h
  unfold f_X11_been_51
  exact fm_some a_h
theorem w_f_X11_been_i0 (x1 : Int32) (x2 : Int32) (h : AH) : Fm Prod.snd W_X11_been_i0 h (f_X11_been 0 x1 x2 h) := by
  unfold f_X11_been
  have a_h : Agr W_X11_been_i0 h h := agr_refl h
  refine fm_ob (w_f_X11_isKnown_i0 _ _) rfl a_h (fun r_3 h_2 a_h_2 => ?_)
  refine fm_ite ?_ ?_
  · exact w_f_X11_been_24_i0  _ a_h_2
  · refine fm_ite ?_ ?_
    · exact w_f_X11_been_24_i0  _ a_h_2
    · refine fm_ite ?_ ?_
      · refine fm_ite ?_ ?_
        · refine fm_ob (w_f_X1_placesOf_i32 _ _) rfl a_h_2 (fun r_13 h_12 a_h_12 => ?_)
          exact w_f_X11_been_51_i0  _ _ a_h_12
        · refine fm_ob (w_f_X1_placeOf_i32 _ _ _) rfl a_h_2 (fun r_10 h_9 a_h_9 => ?_)
          exact w_f_X11_been_51_i0  _ _ a_h_9
      · exact w_f_X11_been_24_i0  _ a_h_2
def W_X12_been_i56 : List (Nat × Nat) := (56, 0) :: []
theorem w_f_X12_been_34_i56 {h0 : AH} : ∀ (h : AH), Agr W_X12_been_i56 h0 h → Fm Prod.snd W_X12_been_i56 h0 (f_X12_been_34 h) := by
  intro h a_h
  unfold f_X12_been_34
  exact fm_some a_h
theorem w_f_X12_been_58_i56 {h0 : AH} : ∀ (n : Nat) (x1 : Int32) (x3 : Int32) (x4 : Int32) (h : AH), Agr W_X12_been_i56 h0 h → Fm Prod.snd W_X12_been_i56 h0 (f_X12_been_58 n 56 x1 x3 x4 h) := by
  intro n
  induction n with
  | zero => intro x1 x3 x4 h _; exact fm_none
  | succ n ih =>
    intro x1 x3 x4 h a_h
    rw [f_X12_been_58]
    refine fm_ite ?_ ?_
    · refine fm_ob (w_f_J6_bitCount_0f7a4 _ _) rfl a_h (fun r_4 h_3 a_h_3 => ?_)
      exact fm_some a_h_3
    · refine fm_og (fun hb1 => ?_)
      refine fm_nm (fun x3_6 => ?_)
      refine fm_nm (fun x4_8 => ?_)
      exact ih _ _ _ _ a_h
theorem w_f_X12_been_36_i56 {h0 : AH} : ∀ (x1 : Int32) (x2 : Int32) (h : AH), Agr W_X12_been_i56 h0 h → Fm Prod.snd W_X12_been_i56 h0 (f_X12_been_36 56 x1 x2 h) := by
  intro x1 x2 h a_h
  unfold f_X12_been_36
  refine fm_ite ?_ ?_
  · exact w_f_X12_been_58_i56  FU _ _ _ _ a_h
  · refine fm_og (fun hb1 => ?_)
    exact fm_some a_h
theorem w_f_X12_been_i56 (x1 : Int32) (x2 : Int32) (h : AH) : Fm Prod.snd W_X12_been_i56 h (f_X12_been 56 x1 x2 h) := by
  unfold f_X12_been
  have a_h : Agr W_X12_been_i56 h h := agr_refl h
  refine fm_nh (agr_sI a_h rfl) (fun h_1 a_h_1 => ?_)
  refine fm_ob (w_f_X12_isPerson_i56 _ _) rfl a_h_1 (fun r_5 h_4 a_h_4 => ?_)
  refine fm_ite ?_ ?_
  · exact w_f_X12_been_34_i56  _ a_h_4
  · refine fm_ite ?_ ?_
    · exact w_f_X12_been_36_i56  _ _ _ a_h_4
    · refine fm_ob (w_f_X12_isIn _ _ _ _) rfl a_h_4 (fun r_10 h_9 a_h_9 => ?_)
      refine fm_ite ?_ ?_
      · exact w_f_X12_been_34_i56  _ a_h_9
      · exact w_f_X12_been_36_i56  _ _ _ a_h_9
def W_X11_left_i0 : List (Nat × Nat) := (14, 1000) :: (17, 1000) :: (20, 1000) :: (23, 1000) :: (36, 1000) :: (37, 1000) :: (38, 1000) :: (39, 1000) :: (40, 1000) :: (41, 2) :: (42, 1000) :: (43, 1000) :: (44, 1000) :: []
theorem w_f_X11_left_18_i0 {h0 : AH} : ∀ (h : AH), Agr W_X11_left_i0 h0 h → Fm Prod.snd W_X11_left_i0 h0 (f_X11_left_18 h) := by
  intro h a_h
  unfold f_X11_left_18
  exact fm_some a_h
theorem w_f_X11_left_119_i0 {h0 : AH} : ∀ (s0 : Int32) (h : AH), Agr W_X11_left_i0 h0 h → Fm Prod.snd W_X11_left_i0 h0 (f_X11_left_119 s0 h) := by
  intro s0 h a_h
  unfold f_X11_left_119
  exact fm_some a_h
def W_X5_rest_i41 : List (Nat × Nat) := []
theorem w_f_X5_rest_i41 (h : AH) : Fm Prod.snd W_X5_rest_i41 h (f_X5_rest 41 h) := by
  unfold f_X5_rest
  have a_h : Agr W_X5_rest_i41 h h := agr_refl h
  refine fm_og (fun hb1 => ?_)
  exact fm_some a_h
theorem w_f_X11_left_53_i0 {h0 : AH} : ∀ (n : Nat) (x3 : Int32) (x5 : Int32) (x6 : Int32) (x7 : Int32) (x8 : Int32) (x9 : Int32) (h : AH), Agr W_X11_left_i0 h0 h → Fm Prod.snd W_X11_left_i0 h0 (f_X11_left_53 n 0 x3 x5 x6 x7 x8 x9 h) := by
  intro n
  induction n with
  | zero => intro x3 x5 x6 x7 x8 x9 h _; exact fm_none
  | succ n ih =>
    intro x3 x5 x6 x7 x8 x9 h a_h
    rw [f_X11_left_53]
    refine fm_ite ?_ ?_
    · refine fm_ite ?_ ?_
      · exact w_f_X11_left_119_i0  _ _ a_h
      · exact w_f_X11_left_119_i0  _ _ a_h
    · refine fm_ov (w_f_X5_go_i41 _ _) rfl a_h (fun h_4 a_h_4 => ?_)
      refine fm_ob (w_f_X5_rest_i41 _) rfl a_h_4 (fun r_7 h_6 a_h_6 => ?_)
      refine fm_nm (fun x6_8 => ?_)
      refine fm_ob (w_f_X5_rest_i41 _) rfl a_h_6 (fun r_12 h_11 a_h_11 => ?_)
      refine fm_nm (fun x7_13 => ?_)
      refine fm_ob (w_f_X5_advance_i41 _) rfl a_h_11 (fun r_17 h_16 a_h_16 => ?_)
      refine fm_nm (fun x9_18 => ?_)
      exact ih _ _ _ _ _ _ _ a_h_16
theorem w_f_X11_left_i0 (x1 : Int32) (x2 : Int32) (x3 : Int32) (h : AH) : Fm Prod.snd W_X11_left_i0 h (f_X11_left 0 x1 x2 x3 h) := by
  unfold f_X11_left
  have a_h : Agr W_X11_left_i0 h h := agr_refl h
  refine fm_ob (w_f_X11_isParty_i0 _ _ _) rfl a_h (fun r_3 h_2 a_h_2 => ?_)
  refine fm_ite ?_ ?_
  · exact w_f_X11_left_18_i0  _ a_h_2
  · refine fm_ite ?_ ?_
    · exact w_f_X11_left_18_i0  _ a_h_2
    · refine fm_ite ?_ ?_
      · refine fm_ob (w_f_X11_openDoor_i0 _ _ _) rfl a_h_2 (fun r_9 h_8 a_h_8 => ?_)
        refine fm_ob (w_f_X5_first_i41 _ _ _) rfl a_h_8 (fun r_12 h_11 a_h_11 => ?_)
        exact w_f_X11_left_53_i0  FU _ _ _ _ _ _ _ a_h_11
      · exact w_f_X11_left_18_i0  _ a_h_2
def W_X12_left_i56 : List (Nat × Nat) := (56, 0) :: (56, 8) :: (56, 9) :: (56, 10) :: (56, 11) :: (56, 12) :: (56, 13) :: (56, 14) :: (56, 18) :: (56, 29) :: (56, 30) :: (56, 34) :: (60, 1000) :: (67, 1000) :: (68, 1000) :: (70, 1000) :: (201, 0) :: []
theorem w_f_X12_left_24_i56 {h0 : AH} : ∀ (h : AH), Agr W_X12_left_i56 h0 h → Fm Prod.snd W_X12_left_i56 h0 (f_X12_left_24 h) := by
  intro h a_h
  unfold f_X12_left_24
  exact fm_some a_h
theorem w_f_X12_left_104_i56 {h0 : AH} : ∀ (s0 : Int32) (h : AH), Agr W_X12_left_i56 h0 h → Fm Prod.snd W_X12_left_i56 h0 (f_X12_left_104 s0 h) := by
  intro s0 h a_h
  unfold f_X12_left_104
  exact fm_some a_h
theorem w_f_X12_left_47_i56 {h0 : AH} : ∀ (n : Nat) (x1 : Int32) (x2 : Int32) (x3 : Int32) (x4 : Int32) (x5 : Int32) (x6 : Int32) (h : AH), Agr W_X12_left_i56 h0 h → Fm Prod.snd W_X12_left_i56 h0 (f_X12_left_47 n 56 x1 x2 x3 x4 x5 x6 h) := by
  intro n
  induction n with
  | zero => intro x1 x2 x3 x4 x5 x6 h _; exact fm_none
  | succ n ih =>
    intro x1 x2 x3 x4 x5 x6 h a_h
    rw [f_X12_left_47]
    refine fm_ite ?_ ?_
    · refine fm_ite ?_ ?_
      · exact w_f_X12_left_104_i56  _ _ a_h
      · exact w_f_X12_left_104_i56  _ _ a_h
    · refine fm_ob (w_f_X12_doorOf_i56 _ _ _) rfl a_h (fun r_5 h_4 a_h_4 => ?_)
      refine fm_ov (w_f_X12_goWay_i56 _ _ _ _) rfl a_h_4 (fun h_7 a_h_7 => ?_)
      refine fm_nm (fun x4_8 => ?_)
      refine fm_nm (fun x5_10 => ?_)
      refine fm_nm (fun x6_12 => ?_)
      exact ih _ _ _ _ _ _ _ a_h_7
theorem w_f_X12_left_i56 (x1 : Int32) (x2 : Int32) (x3 : Int32) (h : AH) : Fm Prod.snd W_X12_left_i56 h (f_X12_left 56 x1 x2 x3 h) := by
  unfold f_X12_left
  have a_h : Agr W_X12_left_i56 h h := agr_refl h
  refine fm_nh (agr_sI a_h rfl) (fun h_1 a_h_1 => ?_)
  refine fm_ob (w_f_X12_isVisit_i56 _ _ _) rfl a_h_1 (fun r_5 h_4 a_h_4 => ?_)
  refine fm_ite ?_ ?_
  · exact w_f_X12_left_24_i56  _ a_h_4
  · refine fm_ob (w_f_X12_isIn _ _ _ _) rfl a_h_4 (fun r_9 h_8 a_h_8 => ?_)
    refine fm_ite ?_ ?_
    · exact w_f_X12_left_24_i56  _ a_h_8
    · refine fm_ov (w_f_X12_allWays_i56 _ _) rfl a_h_8 (fun h_12 a_h_12 => ?_)
      refine fm_nm (fun x4_13 => ?_)
      exact w_f_X12_left_47_i56  FU _ _ _ _ _ _ _ a_h_12
def W_X11_swap_i0 : List (Nat × Nat) := (14, 1000) :: (17, 1000) :: (20, 1000) :: (23, 1000) :: (36, 1000) :: (37, 1000) :: (38, 1000) :: (39, 1000) :: (40, 1000) :: (41, 2) :: (42, 1000) :: (43, 1000) :: (44, 1000) :: []
theorem w_f_X11_swap_48_i0 {h0 : AH} : ∀ (h : AH), Agr W_X11_swap_i0 h0 h → Fm Prod.snd W_X11_swap_i0 h0 (f_X11_swap_48 h) := by
  intro h a_h
  unfold f_X11_swap_48
  exact fm_some a_h
theorem w_f_X11_swap_i0 (x1 : Int32) (x2 : Int32) (x3 : Int32) (x4 : Int32) (x5 : Int32) (h : AH) : Fm Prod.snd W_X11_swap_i0 h (f_X11_swap 0 x1 x2 x3 x4 x5 h) := by
  unfold f_X11_swap
  have a_h : Agr W_X11_swap_i0 h h := agr_refl h
  refine fm_ob (w_f_X11_isParty_i0 _ _ _) rfl a_h (fun r_3 h_2 a_h_2 => ?_)
  refine fm_ite ?_ ?_
  · exact w_f_X11_swap_48_i0  _ a_h_2
  · refine fm_ob (w_f_X11_isGuest_i0 _ _ _) rfl a_h_2 (fun r_7 h_6 a_h_6 => ?_)
    refine fm_ite ?_ ?_
    · exact w_f_X11_swap_48_i0  _ a_h_6
    · refine fm_ob (w_f_X11_isGuest_i0 _ _ _) rfl a_h_6 (fun r_11 h_10 a_h_10 => ?_)
      refine fm_ite ?_ ?_
      · exact w_f_X11_swap_48_i0  _ a_h_10
      · refine fm_ite ?_ ?_
        · exact w_f_X11_swap_48_i0  _ a_h_10
        · refine fm_ob (w_f_X5_readOrder_i41 _ _ _) rfl a_h_10 (fun r_16 h_15 a_h_15 => ?_)
          refine fm_ite ?_ ?_
          · exact w_f_X11_swap_48_i0  _ a_h_15
          · refine fm_ob (w_f_X11_openDoor_i0 _ _ _) rfl a_h_15 (fun r_20 h_19 a_h_19 => ?_)
            refine fm_ov (w_f_X5_begin_i41 _ _) rfl a_h_19 (fun h_22 a_h_22 => ?_)
            refine fm_ov (w_f_X5_go_i41 _ _) rfl a_h_22 (fun h_24 a_h_24 => ?_)
            refine fm_ob (w_f_X5_worthOf_i41 _ _) rfl a_h_24 (fun r_27 h_26 a_h_26 => ?_)
            refine fm_ob (w_f_X5_worthOf_i41 _ _) rfl a_h_26 (fun r_30 h_29 a_h_29 => ?_)
            refine fm_nm (fun x6_31 => ?_)
            refine fm_ob (w_f_X5_placeOf_i41 _ _) rfl a_h_29 (fun r_35 h_34 a_h_34 => ?_)
            refine fm_ob (w_f_X5_placeOf_i41 _ _) rfl a_h_34 (fun r_38 h_37 a_h_37 => ?_)
            refine fm_ov (w_f_X5_exchange_i41 _ _ _) rfl a_h_37 (fun h_40 a_h_40 => ?_)
            refine fm_ov (w_f_X5_go_i41 _ _) rfl a_h_40 (fun h_42 a_h_42 => ?_)
            refine fm_ob (w_f_X5_worthOf_i41 _ _) rfl a_h_42 (fun r_45 h_44 a_h_44 => ?_)
            refine fm_ob (w_f_X5_worthOf_i41 _ _) rfl a_h_44 (fun r_48 h_47 a_h_47 => ?_)
            exact fm_some a_h_47
def W_X12_swap_i56 : List (Nat × Nat) := (56, 0) :: (56, 8) :: (56, 9) :: (56, 10) :: (56, 11) :: (56, 12) :: (56, 13) :: (56, 14) :: (56, 18) :: (56, 29) :: (56, 30) :: (60, 1000) :: (67, 1000) :: (68, 1000) :: (201, 0) :: []
theorem w_f_X12_swap_50_i56 {h0 : AH} : ∀ (h : AH), Agr W_X12_swap_i56 h0 h → Fm Prod.snd W_X12_swap_i56 h0 (f_X12_swap_50 h) := by
  intro h a_h
  unfold f_X12_swap_50
  exact fm_some a_h
theorem w_f_X12_swap_138_i56 {h0 : AH} {q82 : Nat → Int32 → Int32 → Int32 → Int32 → Int32 → Int32 → AH → Option (Int32 × AH)} (hq82 : ∀ (y1 : Int32) (y2 : Int32) (y3 : Int32) (y4 : Int32) (y5 : Int32) (y6 : Int32) (y7 : AH), Agr W_X12_swap_i56 h0 y7 → Fm Prod.snd W_X12_swap_i56 h0 (q82 56 y1 y2 y3 y4 y5 y6 y7)) : ∀ (x1 : Int32) (x2 : Int32) (x4 : Int32) (x5 : Int32) (x6 : Int32) (x7 : Int32) (s0 : Int32) (s1 : Int32) (h : AH), Agr W_X12_swap_i56 h0 h → Fm Prod.snd W_X12_swap_i56 h0 (f_X12_swap_138 q82 56 x1 x2 x4 x5 x6 x7 s0 s1 67 h) := by
  intro x1 x2 x4 x5 x6 x7 s0 s1 h a_h
  unfold f_X12_swap_138
  refine fm_og (fun hb1 => ?_)
  refine fm_nh (agr_sI a_h rfl) (fun h_2 a_h_2 => ?_)
  refine fm_nm (fun x7_4 => ?_)
  exact hq82 _ _ _ _ _ _ _ a_h_2
theorem w_f_X12_swap_82_i56 {h0 : AH} : ∀ (n : Nat) (x1 : Int32) (x2 : Int32) (x4 : Int32) (x5 : Int32) (x6 : Int32) (x7 : Int32) (h : AH), Agr W_X12_swap_i56 h0 h → Fm Prod.snd W_X12_swap_i56 h0 (f_X12_swap_82 n 56 x1 x2 x4 x5 x6 x7 h) := by
  intro n
  induction n with
  | zero => intro x1 x2 x4 x5 x6 x7 h _; exact fm_none
  | succ n ih =>
    intro x1 x2 x4 x5 x6 x7 h a_h
    rw [f_X12_swap_82]
    refine fm_ite ?_ ?_
    · refine fm_ob (w_f_X12_doorOf_i56 _ _ _) rfl a_h (fun r_4 h_3 a_h_3 => ?_)
      refine fm_ov (w_f_X12_go_i56 _ _) rfl a_h_3 (fun h_6 a_h_6 => ?_)
      refine fm_ob (w_f_X12_worthOf_i56 _ _) rfl a_h_6 (fun r_9 h_8 a_h_8 => ?_)
      refine fm_ob (w_f_X12_worthOf_i56 _ _) rfl a_h_8 (fun r_12 h_11 a_h_11 => ?_)
      exact fm_some a_h_11
    · refine fm_og (fun hb1 => ?_)
      refine fm_ite ?_ ?_
      · exact w_f_X12_swap_138_i56 (fun y0 y1 y2 y3 y4 y5 y6 a => ih y0 y1 y2 y3 y4 y5 y6 a) _ _ _ _ _ _ _ _ _ a_h
      · refine fm_og (fun hb2 => ?_)
        refine fm_ite ?_ ?_
        · exact w_f_X12_swap_138_i56 (fun y0 y1 y2 y3 y4 y5 y6 a => ih y0 y1 y2 y3 y4 y5 y6 a) _ _ _ _ _ _ _ _ _ a_h
        · refine fm_og (fun hb3 => ?_)
          exact w_f_X12_swap_138_i56 (fun y0 y1 y2 y3 y4 y5 y6 a => ih y0 y1 y2 y3 y4 y5 y6 a) _ _ _ _ _ _ _ _ _ a_h
theorem w_f_X12_swap_i56 (x1 : Int32) (x2 : Int32) (x3 : Int32) (x4 : Int32) (x5 : Int32) (h : AH) : Fm Prod.snd W_X12_swap_i56 h (f_X12_swap 56 x1 x2 x3 x4 x5 h) := by
  unfold f_X12_swap
  have a_h : Agr W_X12_swap_i56 h h := agr_refl h
  refine fm_nh (agr_sI a_h rfl) (fun h_1 a_h_1 => ?_)
  refine fm_ob (w_f_X12_isGuest_i56 _ _ _ _) rfl a_h_1 (fun r_5 h_4 a_h_4 => ?_)
  refine fm_ite ?_ ?_
  · exact w_f_X12_swap_50_i56  _ a_h_4
  · refine fm_ob (w_f_X12_isPerson_i56 _ _) rfl a_h_4 (fun r_9 h_8 a_h_8 => ?_)
    refine fm_ite ?_ ?_
    · exact w_f_X12_swap_50_i56  _ a_h_8
    · refine fm_ob (w_f_X12_has _ _ _) rfl a_h_8 (fun r_13 h_12 a_h_12 => ?_)
      refine fm_ite ?_ ?_
      · exact w_f_X12_swap_50_i56  _ a_h_12
      · refine fm_ite ?_ ?_
        · exact w_f_X12_swap_50_i56  _ a_h_12
        · refine fm_ob (w_f_X12_layOrder_i56 _ _ _) rfl a_h_12 (fun r_18 h_17 a_h_17 => ?_)
          refine fm_ite ?_ ?_
          · exact w_f_X12_swap_50_i56  _ a_h_17
          · refine fm_ob (w_f_X12_doorOf_i56 _ _ _) rfl a_h_17 (fun r_22 h_21 a_h_21 => ?_)
            refine fm_ov (w_f_X12_go_i56 _ _) rfl a_h_21 (fun h_24 a_h_24 => ?_)
            refine fm_ob (w_f_X12_worthOf_i56 _ _) rfl a_h_24 (fun r_27 h_26 a_h_26 => ?_)
            refine fm_ob (w_f_X12_worthOf_i56 _ _) rfl a_h_26 (fun r_30 h_29 a_h_29 => ?_)
            refine fm_nm (fun x6_31 => ?_)
            exact w_f_X12_swap_82_i56  FU _ _ _ _ _ _ _ a_h_29
def W_X11_dream_i0 : List (Nat × Nat) := (36, 1000) :: (37, 1000) :: (38, 1000) :: (39, 1000) :: (50, 1000) :: []
theorem w_f_X11_dream_23_i0 {h0 : AH} : ∀ (h : AH), Agr W_X11_dream_i0 h0 h → Fm Prod.snd W_X11_dream_i0 h0 (f_X11_dream_23 h) := by
  intro h a_h
  unfold f_X11_dream_23
  exact fm_some a_h
def W_X3_greatest_i49 : List (Nat × Nat) := (50, 1000) :: []
theorem w_f_X3_greatest_67_i49 {h0 : AH} {q5 : Nat → Int32 → Int32 → Int32 → Int32 → AH → Option (Int32 × AH)} (hq5 : ∀ (y1 : Int32) (y2 : Int32) (y3 : Int32) (y4 : Int32) (y5 : AH), Agr W_X3_greatest_i49 h0 y5 → Fm Prod.snd W_X3_greatest_i49 h0 (q5 49 y1 y2 y3 y4 y5)) : ∀ (x1 : Int32) (x2 : Int32) (x3 : Int32) (x4 : Int32) (h : AH), Agr W_X3_greatest_i49 h0 h → Fm Prod.snd W_X3_greatest_i49 h0 (f_X3_greatest_67 q5 49 x1 x2 x3 x4 h) := by
  intro x1 x2 x3 x4 h a_h
  unfold f_X3_greatest_67
  refine fm_nm (fun x4_1 => ?_)
  exact hq5 _ _ _ _ _ a_h
def W_X3_bestOf_i49 : List (Nat × Nat) := []
theorem w_f_X3_bestOf_73_i49 {h0 : AH} {q18 : Nat → Int32 → Int32 → Int32 → Int32 → Int32 → AH → Option (Int32 × AH)} (hq18 : ∀ (y1 : Int32) (y2 : Int32) (y3 : Int32) (y4 : Int32) (y5 : Int32) (y6 : AH), Agr W_X3_bestOf_i49 h0 y6 → Fm Prod.snd W_X3_bestOf_i49 h0 (q18 49 y1 y2 y3 y4 y5 y6)) : ∀ (x1 : Int32) (x2 : Int32) (x3 : Int32) (x4 : Int32) (x5 : Int32) (h : AH), Agr W_X3_bestOf_i49 h0 h → Fm Prod.snd W_X3_bestOf_i49 h0 (f_X3_bestOf_73 q18 49 x1 x2 x3 x4 x5 h) := by
  intro x1 x2 x3 x4 x5 h a_h
  unfold f_X3_bestOf_73
  refine fm_nm (fun x5_1 => ?_)
  exact hq18 _ _ _ _ _ _ a_h
def W_X3_worthWith_i49 : List (Nat × Nat) := []
theorem w_f_X3_worthWith_i49 (x1 : Int32) (x2 : Int32) (x3 : Int32) (h : AH) : Fm Prod.snd W_X3_worthWith_i49 h (f_X3_worthWith 49 x1 x2 x3 h) := by
  unfold f_X3_worthWith
  have a_h : Agr W_X3_worthWith_i49 h h := agr_refl h
  refine fm_og (fun hb1 => ?_)
  refine fm_og (fun hb2 => ?_)
  exact fm_some a_h
theorem w_f_X3_bestOf_18_i49 {h0 : AH} : ∀ (n : Nat) (x1 : Int32) (x2 : Int32) (x3 : Int32) (x4 : Int32) (x5 : Int32) (h : AH), Agr W_X3_bestOf_i49 h0 h → Fm Prod.snd W_X3_bestOf_i49 h0 (f_X3_bestOf_18 n 49 x1 x2 x3 x4 x5 h) := by
  intro n
  induction n with
  | zero => intro x1 x2 x3 x4 x5 h _; exact fm_none
  | succ n ih =>
    intro x1 x2 x3 x4 x5 h a_h
    rw [f_X3_bestOf_18]
    refine fm_ite ?_ ?_
    · exact fm_some a_h
    · refine fm_ob (w_f_X11_isIn _ _ _) rfl a_h (fun r_4 h_3 a_h_3 => ?_)
      refine fm_ite ?_ ?_
      · exact w_f_X3_bestOf_73_i49 (fun y0 y1 y2 y3 y4 y5 a => ih y0 y1 y2 y3 y4 y5 a) _ _ _ _ _ _ a_h_3
      · refine fm_og (fun hb1 => ?_)
        refine fm_ob (w_f_X6_canWear_i3 _ _ _) rfl a_h_3 (fun r_9 h_8 a_h_8 => ?_)
        refine fm_ite ?_ ?_
        · exact w_f_X3_bestOf_73_i49 (fun y0 y1 y2 y3 y4 y5 a => ih y0 y1 y2 y3 y4 y5 a) _ _ _ _ _ _ a_h_8
        · refine fm_ob (w_f_X3_worthWith_i49 _ _ _ _) rfl a_h_8 (fun r_13 h_12 a_h_12 => ?_)
          refine fm_nm (fun x4_14 => ?_)
          exact w_f_X3_bestOf_73_i49 (fun y0 y1 y2 y3 y4 y5 a => ih y0 y1 y2 y3 y4 y5 a) _ _ _ _ _ _ a_h_12
theorem w_f_X3_bestOf_i49 (x1 : Int32) (x2 : Int32) (x3 : Int32) (h : AH) : Fm Prod.snd W_X3_bestOf_i49 h (f_X3_bestOf 49 x1 x2 x3 h) := by
  unfold f_X3_bestOf
  have a_h : Agr W_X3_bestOf_i49 h h := agr_refl h
  refine fm_og (fun hb1 => ?_)
  refine fm_nm (fun x4_2 => ?_)
  exact w_f_X3_bestOf_18_i49  FU _ _ _ _ _ _ a_h
theorem w_f_X3_greatest_61_i49 {h0 : AH} {q25 : Nat → Int32 → Int32 → Int32 → Int32 → Int32 → AH → Option (Int32 × AH)} (hq25 : ∀ (y1 : Int32) (y2 : Int32) (y3 : Int32) (y4 : Int32) (y5 : Int32) (y6 : AH), Agr W_X3_greatest_i49 h0 y6 → Fm Prod.snd W_X3_greatest_i49 h0 (q25 49 y1 y2 y3 y4 y5 y6)) : ∀ (x1 : Int32) (x2 : Int32) (x3 : Int32) (x4 : Int32) (x5 : Int32) (h : AH), Agr W_X3_greatest_i49 h0 h → Fm Prod.snd W_X3_greatest_i49 h0 (f_X3_greatest_61 q25 49 x1 x2 x3 x4 x5 h) := by
  intro x1 x2 x3 x4 x5 h a_h
  unfold f_X3_greatest_61
  refine fm_nm (fun x5_1 => ?_)
  exact hq25 _ _ _ _ _ _ a_h
theorem w_f_X3_greatest_25_i49 {h0 : AH} {q5 : Nat → Int32 → Int32 → Int32 → Int32 → AH → Option (Int32 × AH)} (hq5 : ∀ (y1 : Int32) (y2 : Int32) (y3 : Int32) (y4 : Int32) (y5 : AH), Agr W_X3_greatest_i49 h0 y5 → Fm Prod.snd W_X3_greatest_i49 h0 (q5 49 y1 y2 y3 y4 y5)) : ∀ (n : Nat) (x1 : Int32) (x2 : Int32) (x3 : Int32) (x4 : Int32) (x5 : Int32) (h : AH), Agr W_X3_greatest_i49 h0 h → Fm Prod.snd W_X3_greatest_i49 h0 (f_X3_greatest_25 q5 n 49 x1 x2 x3 x4 x5 h) := by
  intro n
  induction n with
  | zero => intro x1 x2 x3 x4 x5 h _; exact fm_none
  | succ n ih =>
    intro x1 x2 x3 x4 x5 h a_h
    rw [f_X3_greatest_25]
    refine fm_ite ?_ ?_
    · exact w_f_X3_greatest_67_i49 hq5 _ _ _ _ _ a_h
    · refine fm_ite ?_ ?_
      · refine fm_ob (w_f_X3_bestOf_i49 _ _ _ _) rfl a_h (fun r_5 h_4 a_h_4 => ?_)
        refine fm_og (fun hb1 => ?_)
        refine fm_nh (agr_sI a_h_4 rfl) (fun h_7 a_h_7 => ?_)
        exact w_f_X3_greatest_61_i49 (fun y0 y1 y2 y3 y4 y5 a => ih y0 y1 y2 y3 y4 y5 a) _ _ _ _ _ _ a_h_7
      · exact w_f_X3_greatest_61_i49 (fun y0 y1 y2 y3 y4 y5 a => ih y0 y1 y2 y3 y4 y5 a) _ _ _ _ _ _ a_h
theorem w_f_X3_greatest_5_i49 {h0 : AH} : ∀ (n : Nat) (x1 : Int32) (x2 : Int32) (x3 : Int32) (x4 : Int32) (h : AH), Agr W_X3_greatest_i49 h0 h → Fm Prod.snd W_X3_greatest_i49 h0 (f_X3_greatest_5 n 49 x1 x2 x3 x4 h) := by
  intro n
  induction n with
  | zero => intro x1 x2 x3 x4 h _; exact fm_none
  | succ n ih =>
    intro x1 x2 x3 x4 h a_h
    rw [f_X3_greatest_5]
    refine fm_ite ?_ ?_
    · refine fm_og (fun hb1 => ?_)
      exact fm_some a_h
    · refine fm_ob (w_f_X11_isIn _ _ _) rfl a_h (fun r_5 h_4 a_h_4 => ?_)
      refine fm_ite ?_ ?_
      · exact w_f_X3_greatest_67_i49 (fun y0 y1 y2 y3 y4 a => ih y0 y1 y2 y3 y4 a) _ _ _ _ _ a_h_4
      · refine fm_nm (fun x3_7 => ?_)
        exact w_f_X3_greatest_25_i49 (fun y0 y1 y2 y3 y4 a => ih y0 y1 y2 y3 y4 a) FU _ _ _ _ _ _ a_h_4
theorem w_f_X3_greatest_i49 (x1 : Int32) (x2 : Int32) (h : AH) : Fm Prod.snd W_X3_greatest_i49 h (f_X3_greatest 49 x1 x2 h) := by
  unfold f_X3_greatest
  have a_h : Agr W_X3_greatest_i49 h h := agr_refl h
  exact w_f_X3_greatest_5_i49  FU _ _ _ _ _ a_h
theorem w_f_X11_dream_67_i0 {h0 : AH} : ∀ (s0 : Int32) (h : AH), Agr W_X11_dream_i0 h0 h → Fm Prod.snd W_X11_dream_i0 h0 (f_X11_dream_67 s0 h) := by
  intro s0 h a_h
  unfold f_X11_dream_67
  exact fm_some a_h
def W_X3_pairOf_i49 : List (Nat × Nat) := []
theorem w_f_X3_pairOf_67_i49 {h0 : AH} {q15 : Nat → Int32 → Int32 → Int32 → Int32 → Int32 → Int32 → AH → Option (Int32 × AH)} (hq15 : ∀ (y1 : Int32) (y2 : Int32) (y3 : Int32) (y4 : Int32) (y5 : Int32) (y6 : Int32) (y7 : AH), Agr W_X3_pairOf_i49 h0 y7 → Fm Prod.snd W_X3_pairOf_i49 h0 (q15 49 y1 y2 y3 y4 y5 y6 y7)) : ∀ (x1 : Int32) (x3 : Int32) (x4 : Int32) (x5 : Int32) (x6 : Int32) (x7 : Int32) (h : AH), Agr W_X3_pairOf_i49 h0 h → Fm Prod.snd W_X3_pairOf_i49 h0 (f_X3_pairOf_67 q15 49 x1 x3 x4 x5 x6 x7 h) := by
  intro x1 x3 x4 x5 x6 x7 h a_h
  unfold f_X3_pairOf_67
  refine fm_nm (fun x7_1 => ?_)
  exact hq15 _ _ _ _ _ _ _ a_h
def W_X3_lowestOf_i49 : List (Nat × Nat) := []
theorem w_f_X3_lowestOf_68_i49 {h0 : AH} {q3 : Nat → Int32 → Int32 → Int32 → Int32 → AH → Option (Int32 × AH)} (hq3 : ∀ (y1 : Int32) (y2 : Int32) (y3 : Int32) (y4 : Int32) (y5 : AH), Agr W_X3_lowestOf_i49 h0 y5 → Fm Prod.snd W_X3_lowestOf_i49 h0 (q3 49 y1 y2 y3 y4 y5)) : ∀ (x1 : Int32) (x2 : Int32) (x3 : Int32) (x4 : Int32) (h : AH), Agr W_X3_lowestOf_i49 h0 h → Fm Prod.snd W_X3_lowestOf_i49 h0 (f_X3_lowestOf_68 q3 49 x1 x2 x3 x4 h) := by
  intro x1 x2 x3 x4 h a_h
  unfold f_X3_lowestOf_68
  refine fm_nm (fun x4_1 => ?_)
  exact hq3 _ _ _ _ _ a_h
theorem w_f_X3_lowestOf_3_i49 {h0 : AH} : ∀ (n : Nat) (x1 : Int32) (x2 : Int32) (x3 : Int32) (x4 : Int32) (h : AH), Agr W_X3_lowestOf_i49 h0 h → Fm Prod.snd W_X3_lowestOf_i49 h0 (f_X3_lowestOf_3 n 49 x1 x2 x3 x4 h) := by
  intro n
  induction n with
  | zero => intro x1 x2 x3 x4 h _; exact fm_none
  | succ n ih =>
    intro x1 x2 x3 x4 h a_h
    rw [f_X3_lowestOf_3]
    refine fm_ite ?_ ?_
    · exact fm_some a_h
    · refine fm_ob (w_f_X11_isIn _ _ _) rfl a_h (fun r_4 h_3 a_h_3 => ?_)
      refine fm_ite ?_ ?_
      · exact w_f_X3_lowestOf_68_i49 (fun y0 y1 y2 y3 y4 a => ih y0 y1 y2 y3 y4 a) _ _ _ _ _ a_h_3
      · refine fm_og (fun hb1 => ?_)
        refine fm_ob (w_f_X6_canWear_i3 _ _ _) rfl a_h_3 (fun r_9 h_8 a_h_8 => ?_)
        refine fm_ite ?_ ?_
        · exact w_f_X3_lowestOf_68_i49 (fun y0 y1 y2 y3 y4 a => ih y0 y1 y2 y3 y4 a) _ _ _ _ _ a_h_8
        · refine fm_ob (w_f_X3_worthWith_i49 _ _ _ _) rfl a_h_8 (fun r_13 h_12 a_h_12 => ?_)
          refine fm_og (fun hb2 => ?_)
          refine fm_ite ?_ ?_
          · exact fm_some a_h_12
          · exact w_f_X3_lowestOf_68_i49 (fun y0 y1 y2 y3 y4 a => ih y0 y1 y2 y3 y4 a) _ _ _ _ _ a_h_12
theorem w_f_X3_lowestOf_i49 (x1 : Int32) (x2 : Int32) (x3 : Int32) (h : AH) : Fm Prod.snd W_X3_lowestOf_i49 h (f_X3_lowestOf 49 x1 x2 x3 h) := by
  unfold f_X3_lowestOf
  have a_h : Agr W_X3_lowestOf_i49 h h := agr_refl h
  exact w_f_X3_lowestOf_3_i49  FU _ _ _ _ _ a_h
theorem w_f_X3_pairOf_62_i49 {h0 : AH} {q15 : Nat → Int32 → Int32 → Int32 → Int32 → Int32 → Int32 → AH → Option (Int32 × AH)} (hq15 : ∀ (y1 : Int32) (y2 : Int32) (y3 : Int32) (y4 : Int32) (y5 : Int32) (y6 : Int32) (y7 : AH), Agr W_X3_pairOf_i49 h0 y7 → Fm Prod.snd W_X3_pairOf_i49 h0 (q15 49 y1 y2 y3 y4 y5 y6 y7)) : ∀ (x1 : Int32) (x3 : Int32) (x5 : Int32) (x6 : Int32) (x7 : Int32) (s0 : Int32) (h : AH), Agr W_X3_pairOf_i49 h0 h → Fm Prod.snd W_X3_pairOf_i49 h0 (f_X3_pairOf_62 q15 49 x1 x3 x5 x6 x7 s0 h) := by
  intro x1 x3 x5 x6 x7 s0 h a_h
  unfold f_X3_pairOf_62
  refine fm_nm (fun x5_1 => ?_)
  exact w_f_X3_pairOf_67_i49 hq15 _ _ _ _ _ _ _ a_h
theorem w_f_X3_pairOf_15_i49 {h0 : AH} : ∀ (n : Nat) (x1 : Int32) (x3 : Int32) (x4 : Int32) (x5 : Int32) (x6 : Int32) (x7 : Int32) (h : AH), Agr W_X3_pairOf_i49 h0 h → Fm Prod.snd W_X3_pairOf_i49 h0 (f_X3_pairOf_15 n 49 x1 x3 x4 x5 x6 x7 h) := by
  intro n
  induction n with
  | zero => intro x1 x3 x4 x5 x6 x7 h _; exact fm_none
  | succ n ih =>
    intro x1 x3 x4 x5 x6 x7 h a_h
    rw [f_X3_pairOf_15]
    refine fm_ite ?_ ?_
    · exact fm_some a_h
    · refine fm_ob (w_f_X11_isIn _ _ _) rfl a_h (fun r_4 h_3 a_h_3 => ?_)
      refine fm_ite ?_ ?_
      · exact w_f_X3_pairOf_67_i49 (fun y0 y1 y2 y3 y4 y5 y6 a => ih y0 y1 y2 y3 y4 y5 y6 a) _ _ _ _ _ _ _ a_h_3
      · refine fm_ob (w_f_X3_lowestOf_i49 _ _ _ _) rfl a_h_3 (fun r_8 h_7 a_h_7 => ?_)
        refine fm_ite ?_ ?_
        · exact w_f_X3_pairOf_62_i49 (fun y0 y1 y2 y3 y4 y5 y6 a => ih y0 y1 y2 y3 y4 y5 y6 a) _ _ _ _ _ _ _ a_h_7
        · exact w_f_X3_pairOf_62_i49 (fun y0 y1 y2 y3 y4 y5 y6 a => ih y0 y1 y2 y3 y4 y5 y6 a) _ _ _ _ _ _ _ a_h_7
theorem w_f_X3_pairOf_i49 (x1 : Int32) (x2 : Int32) (x3 : Int32) (h : AH) : Fm Prod.snd W_X3_pairOf_i49 h (f_X3_pairOf 49 x1 x2 x3 h) := by
  unfold f_X3_pairOf
  have a_h : Agr W_X3_pairOf_i49 h h := agr_refl h
  refine fm_ob (w_f_J6_bitCount_0f7a4 _ _) rfl a_h (fun r_3 h_2 a_h_2 => ?_)
  exact w_f_X3_pairOf_15_i49  FU _ _ _ _ _ _ _ a_h_2
theorem w_f_X11_dream_26_i0 {h0 : AH} : ∀ (x1 : Int32) (x2 : Int32) (x3 : Int32) (h : AH), Agr W_X11_dream_i0 h0 h → Fm Prod.snd W_X11_dream_i0 h0 (f_X11_dream_26 0 x1 x2 x3 h) := by
  intro x1 x2 x3 h a_h
  unfold f_X11_dream_26
  refine fm_ob (w_f_X11_openDoor_i0 _ _ _) rfl a_h (fun r_3 h_2 a_h_2 => ?_)
  refine fm_ob (w_f_X3_greatest_i49 _ _ _) rfl a_h_2 (fun r_6 h_5 a_h_5 => ?_)
  refine fm_ite ?_ ?_
  · exact w_f_X11_dream_67_i0  _ _ a_h_5
  · refine fm_ob (w_f_X3_pairOf_i49 _ _ _ _) rfl a_h_5 (fun r_10 h_9 a_h_9 => ?_)
    exact w_f_X11_dream_67_i0  _ _ a_h_9
theorem w_f_X11_dream_i0 (x1 : Int32) (x2 : Int32) (x3 : Int32) (h : AH) : Fm Prod.snd W_X11_dream_i0 h (f_X11_dream 0 x1 x2 x3 h) := by
  unfold f_X11_dream
  have a_h : Agr W_X11_dream_i0 h h := agr_refl h
  refine fm_ob (w_f_X11_isParty_i0 _ _ _) rfl a_h (fun r_3 h_2 a_h_2 => ?_)
  refine fm_ite ?_ ?_
  · exact w_f_X11_dream_23_i0  _ a_h_2
  · refine fm_ite ?_ ?_
    · exact w_f_X11_dream_26_i0  _ _ _ _ a_h_2
    · refine fm_ob (w_f_X11_isGuest_i0 _ _ _) rfl a_h_2 (fun r_8 h_7 a_h_7 => ?_)
      refine fm_ite ?_ ?_
      · exact w_f_X11_dream_23_i0  _ a_h_7
      · exact w_f_X11_dream_26_i0  _ _ _ _ a_h_7
def W_X12_dream_i56 : List (Nat × Nat) := (56, 0) :: (56, 53) :: (84, 1000) :: (85, 1000) :: []
theorem w_f_X12_dream_29_i56 {h0 : AH} : ∀ (h : AH), Agr W_X12_dream_i56 h0 h → Fm Prod.snd W_X12_dream_i56 h0 (f_X12_dream_29 h) := by
  intro h a_h
  unfold f_X12_dream_29
  exact fm_some a_h
def W_X12_goDream_i56 : List (Nat × Nat) := (56, 53) :: (84, 1000) :: (85, 1000) :: []
theorem w_f_X12_goDream_27_i56 {h0 : AH} {cb : Nat → Int32 → Int32 → Int32 → Int32 → AH → Option AH} (hcb : ∀ (x1 : Int32) (x2 : Int32) (x3 : Int32) (x4 : Int32) (h : AH), Agr W_X12_goDream_i56 h0 h → Fm id W_X12_goDream_i56 h0 (cb 56 x1 x2 x3 x4 h)) : ∀ (n : Nat) (x5 : Int32) (h : AH), Agr W_X12_goDream_i56 h0 h → Fm id W_X12_goDream_i56 h0 (f_X12_goDream_27 cb n 56 x5 h) := by
  intro n
  induction n with
  | zero => intro x5 h _; exact fm_none
  | succ n ih =>
    intro x5 h a_h
    rw [f_X12_goDream_27]
    refine fm_ite ?_ ?_
    · exact fm_some a_h
    · refine fm_og (fun hb1 => ?_)
      refine fm_og (fun hb2 => ?_)
      refine fm_nh (agr_sI a_h rfl) (fun h_4 a_h_4 => ?_)
      refine fm_nm (fun x5_6 => ?_)
      exact ih _ _ a_h_4
theorem w_f_X12_goDream_146_i56 {h0 : AH} {cb : Nat → Int32 → Int32 → Int32 → Int32 → AH → Option AH} (hcb : ∀ (x1 : Int32) (x2 : Int32) (x3 : Int32) (x4 : Int32) (h : AH), Agr W_X12_goDream_i56 h0 h → Fm id W_X12_goDream_i56 h0 (cb 56 x1 x2 x3 x4 h)) : ∀ (x1 : Int32) (x2 : Int32) (x3 : Int32) (x4 : Int32) (h : AH), Agr W_X12_goDream_i56 h0 h → Fm id W_X12_goDream_i56 h0 (f_X12_goDream_146 cb 56 x1 x2 x3 x4 h) := by
  intro x1 x2 x3 x4 h a_h
  unfold f_X12_goDream_146
  refine fm_og (fun hb1 => ?_)
  refine fm_nh (agr_sI a_h rfl) (fun h_2 a_h_2 => ?_)
  refine fm_ovi (hcb _ _ _ _ _ a_h_2) (fun h_5 a_h_5 => ?_)
  exact fm_some a_h_5
theorem w_f_X12_goDream_140_i56 {h0 : AH} {cb : Nat → Int32 → Int32 → Int32 → Int32 → AH → Option AH} (hcb : ∀ (x1 : Int32) (x2 : Int32) (x3 : Int32) (x4 : Int32) (h : AH), Agr W_X12_goDream_i56 h0 h → Fm id W_X12_goDream_i56 h0 (cb 56 x1 x2 x3 x4 h)) {q67 : Nat → Int32 → Int32 → Int32 → Int32 → Int32 → AH → Option AH} (hq67 : ∀ (y1 : Int32) (y2 : Int32) (y3 : Int32) (y4 : Int32) (y5 : Int32) (y6 : AH), Agr W_X12_goDream_i56 h0 y6 → Fm id W_X12_goDream_i56 h0 (q67 56 y1 y2 y3 y4 y5 y6)) : ∀ (x1 : Int32) (x2 : Int32) (x3 : Int32) (x4 : Int32) (x5 : Int32) (h : AH), Agr W_X12_goDream_i56 h0 h → Fm id W_X12_goDream_i56 h0 (f_X12_goDream_140 cb q67 56 x1 x2 x3 x4 x5 h) := by
  intro x1 x2 x3 x4 x5 h a_h
  unfold f_X12_goDream_140
  refine fm_nm (fun x5_1 => ?_)
  exact hq67 _ _ _ _ _ _ a_h
theorem w_f_X12_goDream_67_i56 {h0 : AH} {cb : Nat → Int32 → Int32 → Int32 → Int32 → AH → Option AH} (hcb : ∀ (x1 : Int32) (x2 : Int32) (x3 : Int32) (x4 : Int32) (h : AH), Agr W_X12_goDream_i56 h0 h → Fm id W_X12_goDream_i56 h0 (cb 56 x1 x2 x3 x4 h)) : ∀ (n : Nat) (x1 : Int32) (x2 : Int32) (x3 : Int32) (x4 : Int32) (x5 : Int32) (h : AH), Agr W_X12_goDream_i56 h0 h → Fm id W_X12_goDream_i56 h0 (f_X12_goDream_67 cb n 56 x1 x2 x3 x4 x5 h) := by
  intro n
  induction n with
  | zero => intro x1 x2 x3 x4 x5 h _; exact fm_none
  | succ n ih =>
    intro x1 x2 x3 x4 x5 h a_h
    rw [f_X12_goDream_67]
    refine fm_ite ?_ ?_
    · exact w_f_X12_goDream_146_i56 hcb _ _ _ _ _ a_h
    · refine fm_ob (w_f_X12_has _ _ _) rfl a_h (fun r_4 h_3 a_h_3 => ?_)
      refine fm_ite ?_ ?_
      · exact w_f_X12_goDream_146_i56 hcb _ _ _ _ _ a_h_3
      · refine fm_ob (w_f_X12_has _ _ _) rfl a_h_3 (fun r_8 h_7 a_h_7 => ?_)
        refine fm_ite ?_ ?_
        · exact w_f_X12_goDream_140_i56 hcb (fun y0 y1 y2 y3 y4 y5 a => ih y0 y1 y2 y3 y4 y5 a) _ _ _ _ _ _ a_h_7
        · refine fm_ob (w_f_X12_doesFit_i56 _ _ _) rfl a_h_7 (fun r_12 h_11 a_h_11 => ?_)
          refine fm_ite ?_ ?_
          · exact w_f_X12_goDream_140_i56 hcb (fun y0 y1 y2 y3 y4 y5 a => ih y0 y1 y2 y3 y4 y5 a) _ _ _ _ _ _ a_h_11
          · refine fm_og (fun hb1 => ?_)
            refine fm_nh (agr_sI a_h_11 rfl) (fun h_15 a_h_15 => ?_)
            refine fm_og (fun hb2 => ?_)
            refine fm_ovi (hcb _ _ _ _ _ a_h_15) (fun h_19 a_h_19 => ?_)
            exact w_f_X12_goDream_140_i56 hcb (fun y0 y1 y2 y3 y4 y5 a => ih y0 y1 y2 y3 y4 y5 a) _ _ _ _ _ _ a_h_19
theorem w_f_X12_goDream_i56 {h0 : AH} {cb : Nat → Int32 → Int32 → Int32 → Int32 → AH → Option AH} (hcb : ∀ (x1 : Int32) (x2 : Int32) (x3 : Int32) (x4 : Int32) (h : AH), Agr W_X12_goDream_i56 h0 h → Fm id W_X12_goDream_i56 h0 (cb 56 x1 x2 x3 x4 h)) : ∀ (x1 : Int32) (x2 : Int32) (x3 : Int32) (x4 : Int32) (h : AH), Agr W_X12_goDream_i56 h0 h → Fm id W_X12_goDream_i56 h0 (f_X12_goDream cb 56 x1 x2 x3 x4 h) := by
  intro x1 x2 x3 x4 h a_h
  unfold f_X12_goDream
  refine fm_ite ?_ ?_
  · refine fm_ite ?_ ?_
    · refine fm_nh (agr_sI a_h rfl) (fun h_6 a_h_6 => ?_)
      exact w_f_X12_goDream_27_i56 hcb FU _ _ a_h_6
    · exact fm_some a_h
  · refine fm_og (fun hb1 => ?_)
    refine fm_nh (agr_sI a_h rfl) (fun h_3 a_h_3 => ?_)
    exact w_f_X12_goDream_67_i56 hcb FU _ _ _ _ _ _ a_h_3
theorem w_r_X12_goDream_i56 {h0 : AH} : ∀ (n : Nat) (x1 : Int32) (x2 : Int32) (x3 : Int32) (x4 : Int32) (h : AH), Agr W_X12_goDream_i56 h0 h → Fm id W_X12_goDream_i56 h0 (r_X12_goDream n 56 x1 x2 x3 x4 h) := by
  intro n
  induction n with
  | zero => intro x1 x2 x3 x4 h _; exact fm_none
  | succ n ih =>
    intro x1 x2 x3 x4 h a
    rw [r_X12_goDream]
    exact w_f_X12_goDream_i56 (fun x1 x2 x3 x4 h a => ih x1 x2 x3 x4 h a) _ _ _ _ _ a
theorem w_f_X12_dream_69_i56 {h0 : AH} : ∀ (s0 : Int32) (h : AH), Agr W_X12_dream_i56 h0 h → Fm Prod.snd W_X12_dream_i56 h0 (f_X12_dream_69 s0 h) := by
  intro s0 h a_h
  unfold f_X12_dream_69
  exact fm_some a_h
theorem w_f_X12_dream_33_i56 {h0 : AH} : ∀ (x1 : Int32) (x2 : Int32) (x3 : Int32) (h : AH), Agr W_X12_dream_i56 h0 h → Fm Prod.snd W_X12_dream_i56 h0 (f_X12_dream_33 56 x1 x2 x3 h) := by
  intro x1 x2 x3 h a_h
  unfold f_X12_dream_33
  refine fm_nh (agr_sI a_h rfl) (fun h_1 a_h_1 => ?_)
  refine fm_ob (w_f_X12_doorOf_i56 _ _ _) rfl a_h_1 (fun r_5 h_4 a_h_4 => ?_)
  refine fm_ov (w_r_X12_goDream_i56 12 _ _ _ _ _ (agr_refl _)) rfl a_h_4 (fun h_7 a_h_7 => ?_)
  refine fm_ite ?_ ?_
  · exact w_f_X12_dream_69_i56  _ _ a_h_7
  · refine fm_og (fun hb1 => ?_)
    exact w_f_X12_dream_69_i56  _ _ a_h_7
theorem w_f_X12_dream_i56 (x1 : Int32) (x2 : Int32) (x3 : Int32) (h : AH) : Fm Prod.snd W_X12_dream_i56 h (f_X12_dream 56 x1 x2 x3 h) := by
  unfold f_X12_dream
  have a_h : Agr W_X12_dream_i56 h h := agr_refl h
  refine fm_nh (agr_sI a_h rfl) (fun h_1 a_h_1 => ?_)
  refine fm_ob (w_f_X12_isVisit_i56 _ _ _) rfl a_h_1 (fun r_5 h_4 a_h_4 => ?_)
  refine fm_ite ?_ ?_
  · exact w_f_X12_dream_29_i56  _ a_h_4
  · refine fm_ite ?_ ?_
    · exact w_f_X12_dream_33_i56  _ _ _ _ a_h_4
    · refine fm_ob (w_f_X12_isGuest_i56 _ _ _ _) rfl a_h_4 (fun r_10 h_9 a_h_9 => ?_)
      refine fm_ite ?_ ?_
      · exact w_f_X12_dream_29_i56  _ a_h_9
      · exact w_f_X12_dream_33_i56  _ _ _ _ a_h_9
def W_X11_bring_i0 : List (Nat × Nat) := (14, 1000) :: (17, 1000) :: (20, 1000) :: (23, 1000) :: (36, 1000) :: (37, 1000) :: (38, 1000) :: (39, 1000) :: (40, 1000) :: (41, 2) :: (42, 1000) :: (43, 1000) :: (44, 1000) :: (51, 8) :: (54, 1000) :: (55, 1000) :: []
theorem w_f_X11_bring_27_i0 {h0 : AH} : ∀ (h : AH), Agr W_X11_bring_i0 h0 h → Fm Prod.snd W_X11_bring_i0 h0 (f_X11_bring_27 h) := by
  intro h a_h
  unfold f_X11_bring_27
  exact fm_some a_h
def W_J7_fill_53178_i54 : List (Nat × Nat) := (54, 1000) :: []
theorem w_f_J7_fill_53178_5_i54 {h0 : AH} : ∀ (n : Nat) (x1 : Int32) (x2 : Int32) (x3 : Int32) (h : AH), Agr W_J7_fill_53178_i54 h0 h → Fm id W_J7_fill_53178_i54 h0 (f_J7_fill_53178_5 n 54 x1 x2 x3 h) := by
  intro n
  induction n with
  | zero => intro x1 x2 x3 h _; exact fm_none
  | succ n ih =>
    intro x1 x2 x3 h a_h
    rw [f_J7_fill_53178_5]
    refine fm_ite ?_ ?_
    · exact fm_some a_h
    · refine fm_og (fun hb1 => ?_)
      refine fm_nh (agr_sI a_h rfl) (fun h_3 a_h_3 => ?_)
      refine fm_nm (fun x2_5 => ?_)
      exact ih _ _ _ _ a_h_3
theorem w_f_J7_fill_53178_i54 (x1 : Int32) (h : AH) : Fm id W_J7_fill_53178_i54 h (f_J7_fill_53178 54 x1 h) := by
  unfold f_J7_fill_53178
  have a_h : Agr W_J7_fill_53178_i54 h h := agr_refl h
  refine fm_nm (fun x3_1 => ?_)
  exact w_f_J7_fill_53178_5_i54  FU _ _ _ _ a_h
def W_X4_stateNow_i51 : List (Nat × Nat) := []
theorem w_f_X4_stateNow_4_i51 {h0 : AH} : ∀ (n : Nat) (x1 : Int32) (x2 : Int32) (h : AH), Agr W_X4_stateNow_i51 h0 h → Fm Prod.snd W_X4_stateNow_i51 h0 (f_X4_stateNow_4 n 51 x1 x2 h) := by
  intro n
  induction n with
  | zero => intro x1 x2 h _; exact fm_none
  | succ n ih =>
    intro x1 x2 h a_h
    rw [f_X4_stateNow_4]
    refine fm_ite ?_ ?_
    · exact fm_some a_h
    · refine fm_og (fun hb1 => ?_)
      refine fm_og (fun hb2 => ?_)
      refine fm_nm (fun x1_4 => ?_)
      refine fm_nm (fun x2_6 => ?_)
      exact ih _ _ _ a_h
theorem w_f_X4_stateNow_i51 (h : AH) : Fm Prod.snd W_X4_stateNow_i51 h (f_X4_stateNow 51 h) := by
  unfold f_X4_stateNow
  have a_h : Agr W_X4_stateNow_i51 h h := agr_refl h
  exact w_f_X4_stateNow_4_i51  FU _ _ _ a_h
def W_X4_reach_i51 : List (Nat × Nat) := (51, 8) :: (54, 1000) :: (55, 1000) :: []
theorem w_f_X4_reach_47_i51 {h0 : AH} : ∀ (h : AH), Agr W_X4_reach_i51 h0 h → Fm id W_X4_reach_i51 h0 (f_X4_reach_47 h) := by
  intro h a_h
  unfold f_X4_reach_47
  exact fm_some a_h
theorem w_f_X4_reach_i51 (x1 : Int32) (x2 : Int32) (h : AH) : Fm id W_X4_reach_i51 h (f_X4_reach 51 x1 x2 h) := by
  unfold f_X4_reach
  have a_h : Agr W_X4_reach_i51 h h := agr_refl h
  refine fm_og (fun hb1 => ?_)
  refine fm_ite ?_ ?_
  · refine fm_ite ?_ ?_
    · exact w_f_X4_reach_47_i51  _ a_h
    · refine fm_og (fun hb2 => ?_)
      refine fm_nh (agr_sI a_h rfl) (fun h_5 a_h_5 => ?_)
      refine fm_og (fun hb3 => ?_)
      refine fm_nh (agr_sI a_h_5 rfl) (fun h_8 a_h_8 => ?_)
      refine fm_nh (agr_sI a_h_8 rfl) (fun h_10 a_h_10 => ?_)
      exact w_f_X4_reach_47_i51  _ a_h_10
  · exact w_f_X4_reach_47_i51  _ a_h
def W_X4_fewest_i51 : List (Nat × Nat) := (14, 1000) :: (17, 1000) :: (20, 1000) :: (23, 1000) :: (38, 1000) :: (39, 1000) :: (40, 1000) :: (41, 2) :: (42, 1000) :: (43, 1000) :: (44, 1000) :: (51, 8) :: (54, 1000) :: (55, 1000) :: []
theorem w_f_X4_fewest_102_i51 {h0 : AH} : ∀ (h : AH), Agr W_X4_fewest_i51 h0 h → Fm Prod.snd W_X4_fewest_i51 h0 (f_X4_fewest_102 h) := by
  intro h a_h
  unfold f_X4_fewest_102
  exact fm_some a_h
def W_X4_pairsFor_i51 : List (Nat × Nat) := []
theorem w_f_X4_pairsFor_52_i51 {h0 : AH} {q8 : Nat → Int32 → Int32 → Int32 → Int32 → AH → Option (Int32 × AH)} (hq8 : ∀ (y1 : Int32) (y2 : Int32) (y3 : Int32) (y4 : Int32) (y5 : AH), Agr W_X4_pairsFor_i51 h0 y5 → Fm Prod.snd W_X4_pairsFor_i51 h0 (q8 51 y1 y2 y3 y4 y5)) : ∀ (x1 : Int32) (x2 : Int32) (x3 : Int32) (x4 : Int32) (h : AH), Agr W_X4_pairsFor_i51 h0 h → Fm Prod.snd W_X4_pairsFor_i51 h0 (f_X4_pairsFor_52 q8 51 x1 x2 x3 x4 h) := by
  intro x1 x2 x3 x4 h a_h
  unfold f_X4_pairsFor_52
  refine fm_nm (fun x4_1 => ?_)
  exact hq8 _ _ _ _ _ a_h
theorem w_f_X4_pairsFor_8_i51 {h0 : AH} : ∀ (n : Nat) (x1 : Int32) (x2 : Int32) (x3 : Int32) (x4 : Int32) (h : AH), Agr W_X4_pairsFor_i51 h0 h → Fm Prod.snd W_X4_pairsFor_i51 h0 (f_X4_pairsFor_8 n 51 x1 x2 x3 x4 h) := by
  intro n
  induction n with
  | zero => intro x1 x2 x3 x4 h _; exact fm_none
  | succ n ih =>
    intro x1 x2 x3 x4 h a_h
    rw [f_X4_pairsFor_8]
    refine fm_ite ?_ ?_
    · exact fm_some a_h
    · refine fm_ob (w_f_X4_pairIn _ _ _) rfl a_h (fun r_4 h_3 a_h_3 => ?_)
      refine fm_ite ?_ ?_
      · exact w_f_X4_pairsFor_52_i51 (fun y0 y1 y2 y3 y4 a => ih y0 y1 y2 y3 y4 a) _ _ _ _ _ a_h_3
      · refine fm_ob (w_f_X11_isIn _ _ _) rfl a_h_3 (fun r_8 h_7 a_h_7 => ?_)
        refine fm_ite ?_ ?_
        · refine fm_nm (fun x3_10 => ?_)
          exact w_f_X4_pairsFor_52_i51 (fun y0 y1 y2 y3 y4 a => ih y0 y1 y2 y3 y4 a) _ _ _ _ _ a_h_7
        · exact w_f_X4_pairsFor_52_i51 (fun y0 y1 y2 y3 y4 a => ih y0 y1 y2 y3 y4 a) _ _ _ _ _ a_h_7
theorem w_f_X4_pairsFor_i51 (x1 : Int32) (x2 : Int32) (h : AH) : Fm Prod.snd W_X4_pairsFor_i51 h (f_X4_pairsFor 51 x1 x2 h) := by
  unfold f_X4_pairsFor
  have a_h : Agr W_X4_pairsFor_i51 h h := agr_refl h
  refine fm_ob (w_f_X4_pairsAround_i51 _) rfl a_h (fun r_3 h_2 a_h_2 => ?_)
  exact w_f_X4_pairsFor_8_i51  FU _ _ _ _ _ a_h_2
def W_X4_spread_i51 : List (Nat × Nat) := (14, 1000) :: (17, 1000) :: (20, 1000) :: (23, 1000) :: (38, 1000) :: (39, 1000) :: (40, 1000) :: (41, 2) :: (42, 1000) :: (43, 1000) :: (44, 1000) :: (51, 8) :: (54, 1000) :: (55, 1000) :: []
theorem w_f_X4_spread_21_i51 {h0 : AH} : ∀ (n : Nat) (x1 : Int32) (x3 : Int32) (x4 : Int32) (x5 : Int32) (h : AH), Agr W_X4_spread_i51 h0 h → Fm id W_X4_spread_i51 h0 (f_X4_spread_21 n 51 x1 x3 x4 x5 h) := by
  intro n
  induction n with
  | zero => intro x1 x3 x4 x5 h _; exact fm_none
  | succ n ih =>
    intro x1 x3 x4 x5 h a_h
    rw [f_X4_spread_21]
    refine fm_ite ?_ ?_
    · exact fm_some a_h
    · refine fm_ov (w_f_X5_go_i41 _ _) rfl a_h (fun h_3 a_h_3 => ?_)
      refine fm_ob (w_f_X4_stateBehind_i51 _ _) rfl a_h_3 (fun r_6 h_5 a_h_5 => ?_)
      refine fm_og (fun hb1 => ?_)
      refine fm_ov (w_f_X4_reach_i51 _ _ _) rfl a_h_5 (fun h_9 a_h_9 => ?_)
      refine fm_ob (w_f_X5_advance_i41 _) rfl a_h_9 (fun r_12 h_11 a_h_11 => ?_)
      refine fm_nm (fun x5_13 => ?_)
      exact ih _ _ _ _ _ a_h_11
theorem w_f_X4_spread_i51 (x1 : Int32) (x2 : Int32) (h : AH) : Fm id W_X4_spread_i51 h (f_X4_spread 51 x1 x2 h) := by
  unfold f_X4_spread
  have a_h : Agr W_X4_spread_i51 h h := agr_refl h
  refine fm_ob (w_f_X4_pairsFor_i51 _ _ _) rfl a_h (fun r_3 h_2 a_h_2 => ?_)
  refine fm_ob (w_f_X5_first_i41 _ _ _) rfl a_h_2 (fun r_6 h_5 a_h_5 => ?_)
  exact w_f_X4_spread_21_i51  FU _ _ _ _ _ a_h_5
theorem w_f_X4_fewest_68_i51 {h0 : AH} {q24 : Nat → Int32 → Int32 → Int32 → AH → Option (Int32 × AH)} (hq24 : ∀ (y1 : Int32) (y2 : Int32) (y3 : Int32) (y4 : AH), Agr W_X4_fewest_i51 h0 y4 → Fm Prod.snd W_X4_fewest_i51 h0 (q24 51 y1 y2 y3 y4)) : ∀ (n : Nat) (x1 : Int32) (x2 : Int32) (x3 : Int32) (x4 : Int32) (x5 : Int32) (h : AH), Agr W_X4_fewest_i51 h0 h → Fm Prod.snd W_X4_fewest_i51 h0 (f_X4_fewest_68 q24 n 51 x1 x2 x3 x4 x5 h) := by
  intro n
  induction n with
  | zero => intro x1 x2 x3 x4 x5 h _; exact fm_none
  | succ n ih =>
    intro x1 x2 x3 x4 x5 h a_h
    rw [f_X4_fewest_68]
    refine fm_ite ?_ ?_
    · refine fm_nm (fun x3_2 => ?_)
      exact hq24 _ _ _ _ a_h
    · refine fm_ov (w_f_X4_spread_i51 _ _ _) rfl a_h (fun h_5 a_h_5 => ?_)
      refine fm_nm (fun x5_6 => ?_)
      exact ih _ _ _ _ _ _ a_h_5
theorem w_f_X4_fewest_24_i51 {h0 : AH} : ∀ (n : Nat) (x1 : Int32) (x2 : Int32) (x3 : Int32) (h : AH), Agr W_X4_fewest_i51 h0 h → Fm Prod.snd W_X4_fewest_i51 h0 (f_X4_fewest_24 n 51 x1 x2 x3 h) := by
  intro n
  induction n with
  | zero => intro x1 x2 x3 h _; exact fm_none
  | succ n ih =>
    intro x1 x2 x3 h a_h
    rw [f_X4_fewest_24]
    refine fm_ite ?_ ?_
    · exact w_f_X4_fewest_102_i51  _ a_h
    · refine fm_ite ?_ ?_
      · exact w_f_X4_fewest_102_i51  _ a_h
      · refine fm_og (fun hb1 => ?_)
        refine fm_nm (fun x4_4 => ?_)
        refine fm_ob (w_f_X4_pairIn _ _ _) rfl a_h (fun r_8 h_7 a_h_7 => ?_)
        refine fm_ite ?_ ?_
        · refine fm_og (fun hb2 => ?_)
          exact fm_some a_h_7
        · exact w_f_X4_fewest_68_i51 (fun y0 y1 y2 y3 a => ih y0 y1 y2 y3 a) FU _ _ _ _ _ _ a_h_7
theorem w_f_X4_fewest_i51 (x1 : Int32) (x2 : Int32) (h : AH) : Fm Prod.snd W_X4_fewest_i51 h (f_X4_fewest 51 x1 x2 h) := by
  unfold f_X4_fewest
  have a_h : Agr W_X4_fewest_i51 h h := agr_refl h
  refine fm_ov (w_f_J7_fill_53178_i54 _ _) rfl a_h (fun h_2 a_h_2 => ?_)
  refine fm_nh (agr_sI a_h_2 rfl) (fun h_3 a_h_3 => ?_)
  refine fm_ob (w_f_X4_stateNow_i51 _) rfl a_h_3 (fun r_7 h_6 a_h_6 => ?_)
  refine fm_ov (w_f_X4_reach_i51 _ _ _) rfl a_h_6 (fun h_9 a_h_9 => ?_)
  exact w_f_X4_fewest_24_i51  FU _ _ _ _ a_h_9
theorem w_f_X11_bring_i0 (x1 : Int32) (x2 : Int32) (h : AH) : Fm Prod.snd W_X11_bring_i0 h (f_X11_bring 0 x1 x2 h) := by
  unfold f_X11_bring
  have a_h : Agr W_X11_bring_i0 h h := agr_refl h
  refine fm_ob (w_f_X11_isKnown_i0 _ _) rfl a_h (fun r_3 h_2 a_h_2 => ?_)
  refine fm_ite ?_ ?_
  · exact w_f_X11_bring_27_i0  _ a_h_2
  · refine fm_ob (w_f_X11_isKnown_i0 _ _) rfl a_h_2 (fun r_7 h_6 a_h_6 => ?_)
    refine fm_ite ?_ ?_
    · exact w_f_X11_bring_27_i0  _ a_h_6
    · refine fm_ite ?_ ?_
      · refine fm_ov (w_f_X2_open_i35_24 _) rfl a_h_6 (fun h_11 a_h_11 => ?_)
        refine fm_ob (w_f_X4_fewest_i51 _ _ _) rfl a_h_11 (fun r_14 h_13 a_h_13 => ?_)
        exact fm_some a_h_13
      · exact w_f_X11_bring_27_i0  _ a_h_6
def W_X12_bring_i56 : List (Nat × Nat) := (56, 0) :: (56, 8) :: (56, 9) :: (56, 10) :: (56, 11) :: (56, 12) :: (56, 13) :: (56, 14) :: (56, 18) :: (56, 29) :: (56, 30) :: (56, 34) :: (60, 1000) :: (62, 1000) :: (63, 1000) :: (67, 1000) :: (68, 1000) :: (70, 1000) :: (74, 1000) :: (76, 1000) :: (77, 1000) :: (201, 0) :: []
theorem w_f_X12_bring_29_i56 {h0 : AH} : ∀ (h : AH), Agr W_X12_bring_i56 h0 h → Fm Prod.snd W_X12_bring_i56 h0 (f_X12_bring_29 h) := by
  intro h a_h
  unfold f_X12_bring_29
  exact fm_some a_h
def W_X12_keepHaving_i56 : List (Nat × Nat) := (76, 1000) :: (77, 1000) :: []
theorem w_f_X12_keepHaving_2_i56 {h0 : AH} : ∀ (n : Nat) (x1 : Int32) (h : AH), Agr W_X12_keepHaving_i56 h0 h → Fm id W_X12_keepHaving_i56 h0 (f_X12_keepHaving_2 n 56 x1 h) := by
  intro n
  induction n with
  | zero => intro x1 h _; exact fm_none
  | succ n ih =>
    intro x1 h a_h
    rw [f_X12_keepHaving_2]
    refine fm_ite ?_ ?_
    · exact fm_some a_h
    · refine fm_og (fun hb1 => ?_)
      refine fm_og (fun hb2 => ?_)
      refine fm_nh (agr_sI a_h rfl) (fun h_4 a_h_4 => ?_)
      refine fm_og (fun hb3 => ?_)
      refine fm_og (fun hb4 => ?_)
      refine fm_nh (agr_sI a_h_4 rfl) (fun h_8 a_h_8 => ?_)
      refine fm_nm (fun x1_10 => ?_)
      exact ih _ _ a_h_8
theorem w_f_X12_keepHaving_i56 (h : AH) : Fm id W_X12_keepHaving_i56 h (f_X12_keepHaving 56 h) := by
  unfold f_X12_keepHaving
  have a_h : Agr W_X12_keepHaving_i56 h h := agr_refl h
  exact w_f_X12_keepHaving_2_i56  FU _ _ a_h
def W_X12_putBackHaving_i56 : List (Nat × Nat) := (62, 1000) :: (63, 1000) :: []
theorem w_f_X12_putBackHaving_2_i56 {h0 : AH} : ∀ (n : Nat) (x1 : Int32) (h : AH), Agr W_X12_putBackHaving_i56 h0 h → Fm id W_X12_putBackHaving_i56 h0 (f_X12_putBackHaving_2 n 56 x1 h) := by
  intro n
  induction n with
  | zero => intro x1 h _; exact fm_none
  | succ n ih =>
    intro x1 h a_h
    rw [f_X12_putBackHaving_2]
    refine fm_ite ?_ ?_
    · exact fm_some a_h
    · refine fm_og (fun hb1 => ?_)
      refine fm_og (fun hb2 => ?_)
      refine fm_nh (agr_sI a_h rfl) (fun h_4 a_h_4 => ?_)
      refine fm_og (fun hb3 => ?_)
      refine fm_og (fun hb4 => ?_)
      refine fm_nh (agr_sI a_h_4 rfl) (fun h_8 a_h_8 => ?_)
      refine fm_nm (fun x1_10 => ?_)
      exact ih _ _ a_h_8
theorem w_f_X12_putBackHaving_i56 (h : AH) : Fm id W_X12_putBackHaving_i56 h (f_X12_putBackHaving 56 h) := by
  unfold f_X12_putBackHaving
  have a_h : Agr W_X12_putBackHaving_i56 h h := agr_refl h
  exact w_f_X12_putBackHaving_2_i56  FU _ _ a_h
theorem w_f_X12_bring_221_i56 {h0 : AH} : ∀ (x3 : Int32) (h : AH), Agr W_X12_bring_i56 h0 h → Fm Prod.snd W_X12_bring_i56 h0 (f_X12_bring_221 56 x3 h) := by
  intro x3 h a_h
  unfold f_X12_bring_221
  refine fm_ov (w_f_X12_putBackHaving_i56 _) rfl a_h (fun h_2 a_h_2 => ?_)
  exact fm_some a_h_2
theorem w_f_X12_bring_215_i56 {h0 : AH} {q75 : Nat → Int32 → Int32 → Int32 → Int32 → Int32 → AH → Option (Int32 × AH)} (hq75 : ∀ (y1 : Int32) (y2 : Int32) (y3 : Int32) (y4 : Int32) (y5 : Int32) (y6 : AH), Agr W_X12_bring_i56 h0 y6 → Fm Prod.snd W_X12_bring_i56 h0 (q75 56 y1 y2 y3 y4 y5 y6)) : ∀ (x1 : Int32) (x2 : Int32) (x3 : Int32) (x4 : Int32) (x5 : Int32) (h : AH), Agr W_X12_bring_i56 h0 h → Fm Prod.snd W_X12_bring_i56 h0 (f_X12_bring_215 q75 56 x1 x2 x3 x4 x5 h) := by
  intro x1 x2 x3 x4 x5 h a_h
  unfold f_X12_bring_215
  refine fm_nm (fun x5_1 => ?_)
  exact hq75 _ _ _ _ _ _ a_h
theorem w_f_X12_bring_209_i56 {h0 : AH} {q134 : Nat → Int32 → Int32 → Int32 → Int32 → Int32 → Int32 → AH → Option (Int32 × AH)} (hq134 : ∀ (y1 : Int32) (y2 : Int32) (y3 : Int32) (y4 : Int32) (y5 : Int32) (y6 : Int32) (y7 : AH), Agr W_X12_bring_i56 h0 y7 → Fm Prod.snd W_X12_bring_i56 h0 (q134 56 y1 y2 y3 y4 y5 y6 y7)) : ∀ (x1 : Int32) (x2 : Int32) (x3 : Int32) (x4 : Int32) (x5 : Int32) (x6 : Int32) (h : AH), Agr W_X12_bring_i56 h0 h → Fm Prod.snd W_X12_bring_i56 h0 (f_X12_bring_209 q134 56 x1 x2 x3 x4 x5 x6 h) := by
  intro x1 x2 x3 x4 x5 x6 h a_h
  unfold f_X12_bring_209
  refine fm_nm (fun x6_1 => ?_)
  exact hq134 _ _ _ _ _ _ _ a_h
def W_X12_comes_i56 : List (Nat × Nat) := (56, 8) :: (56, 9) :: (56, 10) :: (56, 11) :: (56, 12) :: (56, 13) :: (56, 14) :: (56, 18) :: (56, 29) :: (56, 30) :: (56, 34) :: (60, 1000) :: (62, 1000) :: (63, 1000) :: (67, 1000) :: (68, 1000) :: (70, 1000) :: (74, 1000) :: (201, 0) :: []
theorem w_f_X12_comes_110_i56 {h0 : AH} {q11 : Nat → Int32 → Int32 → Int32 → Int32 → Int32 → AH → Option (Int32 × AH)} (hq11 : ∀ (y1 : Int32) (y2 : Int32) (y3 : Int32) (y4 : Int32) (y5 : Int32) (y6 : AH), Agr W_X12_comes_i56 h0 y6 → Fm Prod.snd W_X12_comes_i56 h0 (q11 56 y1 y2 y3 y4 y5 y6)) : ∀ (x1 : Int32) (x2 : Int32) (x3 : Int32) (x4 : Int32) (x5 : Int32) (h : AH), Agr W_X12_comes_i56 h0 h → Fm Prod.snd W_X12_comes_i56 h0 (f_X12_comes_110 q11 56 x1 x2 x3 x4 x5 h) := by
  intro x1 x2 x3 x4 x5 h a_h
  unfold f_X12_comes_110
  refine fm_nm (fun x5_1 => ?_)
  exact hq11 _ _ _ _ _ _ a_h
theorem w_f_X12_comes_73_i56 {h0 : AH} {q41 : Nat → Int32 → Int32 → Int32 → Int32 → Int32 → Int32 → AH → Option (Int32 × AH)} (hq41 : ∀ (y1 : Int32) (y2 : Int32) (y3 : Int32) (y4 : Int32) (y5 : Int32) (y6 : Int32) (y7 : AH), Agr W_X12_comes_i56 h0 y7 → Fm Prod.snd W_X12_comes_i56 h0 (q41 56 y1 y2 y3 y4 y5 y6 y7)) : ∀ (x1 : Int32) (x2 : Int32) (x3 : Int32) (x4 : Int32) (x5 : Int32) (x6 : Int32) (h : AH), Agr W_X12_comes_i56 h0 h → Fm Prod.snd W_X12_comes_i56 h0 (f_X12_comes_73 q41 56 x1 x2 x3 x4 x5 x6 h) := by
  intro x1 x2 x3 x4 x5 x6 h a_h
  unfold f_X12_comes_73
  refine fm_nm (fun x6_1 => ?_)
  exact hq41 _ _ _ _ _ _ _ a_h
theorem w_f_X12_comes_41_i56 {h0 : AH} {q11 : Nat → Int32 → Int32 → Int32 → Int32 → Int32 → AH → Option (Int32 × AH)} (hq11 : ∀ (y1 : Int32) (y2 : Int32) (y3 : Int32) (y4 : Int32) (y5 : Int32) (y6 : AH), Agr W_X12_comes_i56 h0 y6 → Fm Prod.snd W_X12_comes_i56 h0 (q11 56 y1 y2 y3 y4 y5 y6)) : ∀ (n : Nat) (x1 : Int32) (x2 : Int32) (x3 : Int32) (x4 : Int32) (x5 : Int32) (x6 : Int32) (h : AH), Agr W_X12_comes_i56 h0 h → Fm Prod.snd W_X12_comes_i56 h0 (f_X12_comes_41 q11 n 56 x1 x2 x3 x4 x5 x6 h) := by
  intro n
  induction n with
  | zero => intro x1 x2 x3 x4 x5 x6 h _; exact fm_none
  | succ n ih =>
    intro x1 x2 x3 x4 x5 x6 h a_h
    rw [f_X12_comes_41]
    refine fm_ite ?_ ?_
    · refine fm_ob (w_f_X12_havingNow_i56 _) rfl a_h (fun r_4 h_3 a_h_3 => ?_)
      refine fm_og (fun hb1 => ?_)
      refine fm_ite ?_ ?_
      · refine fm_og (fun hb2 => ?_)
        refine fm_nh (agr_sI a_h_3 rfl) (fun h_8 a_h_8 => ?_)
        exact w_f_X12_comes_110_i56 hq11 _ _ _ _ _ _ a_h_8
      · exact w_f_X12_comes_110_i56 hq11 _ _ _ _ _ _ a_h_3
    · refine fm_ob (w_f_X12_has _ _ _) rfl a_h (fun r_12 h_11 a_h_11 => ?_)
      refine fm_ite ?_ ?_
      · exact w_f_X12_comes_73_i56 (fun y0 y1 y2 y3 y4 y5 y6 a => ih y0 y1 y2 y3 y4 y5 y6 a) _ _ _ _ _ _ _ a_h_11
      · refine fm_og (fun hb3 => ?_)
        refine fm_og (fun hb4 => ?_)
        refine fm_nh (agr_sI a_h_11 rfl) (fun h_16 a_h_16 => ?_)
        exact w_f_X12_comes_73_i56 (fun y0 y1 y2 y3 y4 y5 y6 a => ih y0 y1 y2 y3 y4 y5 y6 a) _ _ _ _ _ _ _ a_h_16
theorem w_f_X12_comes_11_i56 {h0 : AH} : ∀ (n : Nat) (x1 : Int32) (x2 : Int32) (x3 : Int32) (x4 : Int32) (x5 : Int32) (h : AH), Agr W_X12_comes_i56 h0 h → Fm Prod.snd W_X12_comes_i56 h0 (f_X12_comes_11 n 56 x1 x2 x3 x4 x5 h) := by
  intro n
  induction n with
  | zero => intro x1 x2 x3 x4 x5 h _; exact fm_none
  | succ n ih =>
    intro x1 x2 x3 x4 x5 h a_h
    rw [f_X12_comes_11]
    refine fm_ite ?_ ?_
    · refine fm_og (fun hb1 => ?_)
      exact fm_some a_h
    · refine fm_ov (w_f_X12_have_i56 _ _) rfl a_h (fun h_4 a_h_4 => ?_)
      refine fm_ob (w_f_X12_doorOf_i56 _ _ _) rfl a_h_4 (fun r_7 h_6 a_h_6 => ?_)
      refine fm_ov (w_f_X12_goWay_i56 _ _ _ _) rfl a_h_6 (fun h_9 a_h_9 => ?_)
      exact w_f_X12_comes_41_i56 (fun y0 y1 y2 y3 y4 y5 a => ih y0 y1 y2 y3 y4 y5 a) FU _ _ _ _ _ _ _ a_h_9
theorem w_f_X12_comes_i56 (x1 : Int32) (x2 : Int32) (x3 : Int32) (h : AH) : Fm Prod.snd W_X12_comes_i56 h (f_X12_comes 56 x1 x2 x3 h) := by
  unfold f_X12_comes
  have a_h : Agr W_X12_comes_i56 h h := agr_refl h
  refine fm_ov (w_f_X12_allWays_i56 _ _) rfl a_h (fun h_2 a_h_2 => ?_)
  exact w_f_X12_comes_11_i56  FU _ _ _ _ _ _ a_h_2
theorem w_f_X12_bring_201_i56 {h0 : AH} {q165 : Nat → Int32 → Int32 → Int32 → Int32 → Int32 → Int32 → Int32 → AH → Option (Int32 × AH)} (hq165 : ∀ (y1 : Int32) (y2 : Int32) (y3 : Int32) (y4 : Int32) (y5 : Int32) (y6 : Int32) (y7 : Int32) (y8 : AH), Agr W_X12_bring_i56 h0 y8 → Fm Prod.snd W_X12_bring_i56 h0 (q165 56 y1 y2 y3 y4 y5 y6 y7 y8)) : ∀ (x1 : Int32) (x2 : Int32) (x3 : Int32) (x5 : Int32) (x6 : Int32) (x7 : Int32) (s0 : Int32) (h : AH), Agr W_X12_bring_i56 h0 h → Fm Prod.snd W_X12_bring_i56 h0 (f_X12_bring_201 q165 56 x1 x2 x3 x5 x6 x7 s0 h) := by
  intro x1 x2 x3 x5 x6 x7 s0 h a_h
  unfold f_X12_bring_201
  refine fm_nm (fun x7_1 => ?_)
  exact hq165 _ _ _ _ _ _ _ _ a_h
theorem w_f_X12_bring_196_i56 {h0 : AH} {q165 : Nat → Int32 → Int32 → Int32 → Int32 → Int32 → Int32 → Int32 → AH → Option (Int32 × AH)} (hq165 : ∀ (y1 : Int32) (y2 : Int32) (y3 : Int32) (y4 : Int32) (y5 : Int32) (y6 : Int32) (y7 : Int32) (y8 : AH), Agr W_X12_bring_i56 h0 y8 → Fm Prod.snd W_X12_bring_i56 h0 (q165 56 y1 y2 y3 y4 y5 y6 y7 y8)) : ∀ (x1 : Int32) (x2 : Int32) (x3 : Int32) (x5 : Int32) (x6 : Int32) (x7 : Int32) (h : AH), Agr W_X12_bring_i56 h0 h → Fm Prod.snd W_X12_bring_i56 h0 (f_X12_bring_196 q165 56 x1 x2 x3 x5 x6 x7 h) := by
  intro x1 x2 x3 x5 x6 x7 h a_h
  unfold f_X12_bring_196
  exact w_f_X12_bring_201_i56 hq165 _ _ _ _ _ _ _ _ a_h
theorem w_f_X12_bring_165_i56 {h0 : AH} {q134 : Nat → Int32 → Int32 → Int32 → Int32 → Int32 → Int32 → AH → Option (Int32 × AH)} (hq134 : ∀ (y1 : Int32) (y2 : Int32) (y3 : Int32) (y4 : Int32) (y5 : Int32) (y6 : Int32) (y7 : AH), Agr W_X12_bring_i56 h0 y7 → Fm Prod.snd W_X12_bring_i56 h0 (q134 56 y1 y2 y3 y4 y5 y6 y7)) : ∀ (n : Nat) (x1 : Int32) (x2 : Int32) (x3 : Int32) (x4 : Int32) (x5 : Int32) (x6 : Int32) (x7 : Int32) (h : AH), Agr W_X12_bring_i56 h0 h → Fm Prod.snd W_X12_bring_i56 h0 (f_X12_bring_165 q134 n 56 x1 x2 x3 x4 x5 x6 x7 h) := by
  intro n
  induction n with
  | zero => intro x1 x2 x3 x4 x5 x6 x7 h _; exact fm_none
  | succ n ih =>
    intro x1 x2 x3 x4 x5 x6 x7 h a_h
    rw [f_X12_bring_165]
    refine fm_ite ?_ ?_
    · exact w_f_X12_bring_209_i56 hq134 _ _ _ _ _ _ _ a_h
    · refine fm_ob (w_f_X12_comes_i56 _ _ _ _) rfl a_h (fun r_4 h_3 a_h_3 => ?_)
      refine fm_ite ?_ ?_
      · refine fm_ite ?_ ?_
        · exact w_f_X12_bring_201_i56 (fun y0 y1 y2 y3 y4 y5 y6 y7 a => ih y0 y1 y2 y3 y4 y5 y6 y7 a) _ _ _ _ _ _ _ _ a_h_3
        · exact w_f_X12_bring_196_i56 (fun y0 y1 y2 y3 y4 y5 y6 y7 a => ih y0 y1 y2 y3 y4 y5 y6 y7 a) _ _ _ _ _ _ _ a_h_3
      · exact w_f_X12_bring_196_i56 (fun y0 y1 y2 y3 y4 y5 y6 y7 a => ih y0 y1 y2 y3 y4 y5 y6 y7 a) _ _ _ _ _ _ _ a_h_3
theorem w_f_X12_bring_134_i56 {h0 : AH} {q75 : Nat → Int32 → Int32 → Int32 → Int32 → Int32 → AH → Option (Int32 × AH)} (hq75 : ∀ (y1 : Int32) (y2 : Int32) (y3 : Int32) (y4 : Int32) (y5 : Int32) (y6 : AH), Agr W_X12_bring_i56 h0 y6 → Fm Prod.snd W_X12_bring_i56 h0 (q75 56 y1 y2 y3 y4 y5 y6)) : ∀ (n : Nat) (x1 : Int32) (x2 : Int32) (x3 : Int32) (x4 : Int32) (x5 : Int32) (x6 : Int32) (h : AH), Agr W_X12_bring_i56 h0 h → Fm Prod.snd W_X12_bring_i56 h0 (f_X12_bring_134 q75 n 56 x1 x2 x3 x4 x5 x6 h) := by
  intro n
  induction n with
  | zero => intro x1 x2 x3 x4 x5 x6 h _; exact fm_none
  | succ n ih =>
    intro x1 x2 x3 x4 x5 x6 h a_h
    rw [f_X12_bring_134]
    refine fm_ite ?_ ?_
    · exact w_f_X12_bring_215_i56 hq75 _ _ _ _ _ _ a_h
    · refine fm_ite ?_ ?_
      · refine fm_og (fun hb1 => ?_)
        refine fm_ite ?_ ?_
        · exact w_f_X12_bring_165_i56 (fun y0 y1 y2 y3 y4 y5 y6 a => ih y0 y1 y2 y3 y4 y5 y6 a) FU _ _ _ _ _ _ _ _ a_h
        · exact w_f_X12_bring_209_i56 (fun y0 y1 y2 y3 y4 y5 y6 a => ih y0 y1 y2 y3 y4 y5 y6 a) _ _ _ _ _ _ _ a_h
      · exact w_f_X12_bring_215_i56 hq75 _ _ _ _ _ _ a_h
def W_X12_hadBy_i56 : List (Nat × Nat) := []
theorem w_f_X12_hadBy_5_i56 {h0 : AH} : ∀ (n : Nat) (x2 : Int32) (x3 : Int32) (x4 : Int32) (h : AH), Agr W_X12_hadBy_i56 h0 h → Fm Prod.snd W_X12_hadBy_i56 h0 (f_X12_hadBy_5 n x2 x3 x4 h) := by
  intro n
  induction n with
  | zero => intro x2 x3 x4 h _; exact fm_none
  | succ n ih =>
    intro x2 x3 x4 h a_h
    rw [f_X12_hadBy_5]
    refine fm_ite ?_ ?_
    · exact fm_some a_h
    · refine fm_nm (fun x3_2 => ?_)
      refine fm_nm (fun x4_4 => ?_)
      exact ih _ _ _ _ a_h
theorem w_f_X12_hadBy_i56 (x1 : Int32) (x2 : Int32) (h : AH) : Fm Prod.snd W_X12_hadBy_i56 h (f_X12_hadBy 56 x1 x2 h) := by
  unfold f_X12_hadBy
  have a_h : Agr W_X12_hadBy_i56 h h := agr_refl h
  exact w_f_X12_hadBy_5_i56  FU _ _ _ _ a_h
theorem w_f_X12_bring_125_i56 {h0 : AH} {q91 : Nat → Int32 → Int32 → Int32 → Int32 → Int32 → Int32 → AH → Option (Int32 × AH)} (hq91 : ∀ (y1 : Int32) (y2 : Int32) (y3 : Int32) (y4 : Int32) (y5 : Int32) (y6 : Int32) (y7 : AH), Agr W_X12_bring_i56 h0 y7 → Fm Prod.snd W_X12_bring_i56 h0 (q91 56 y1 y2 y3 y4 y5 y6 y7)) : ∀ (x1 : Int32) (x2 : Int32) (x3 : Int32) (x4 : Int32) (x5 : Int32) (x6 : Int32) (h : AH), Agr W_X12_bring_i56 h0 h → Fm Prod.snd W_X12_bring_i56 h0 (f_X12_bring_125 q91 56 x1 x2 x3 x4 x5 x6 h) := by
  intro x1 x2 x3 x4 x5 x6 h a_h
  unfold f_X12_bring_125
  refine fm_nm (fun x6_1 => ?_)
  exact hq91 _ _ _ _ _ _ _ a_h
theorem w_f_X12_bring_91_i56 {h0 : AH} {q75 : Nat → Int32 → Int32 → Int32 → Int32 → Int32 → AH → Option (Int32 × AH)} (hq75 : ∀ (y1 : Int32) (y2 : Int32) (y3 : Int32) (y4 : Int32) (y5 : Int32) (y6 : AH), Agr W_X12_bring_i56 h0 y6 → Fm Prod.snd W_X12_bring_i56 h0 (q75 56 y1 y2 y3 y4 y5 y6)) : ∀ (n : Nat) (x1 : Int32) (x2 : Int32) (x3 : Int32) (x4 : Int32) (x5 : Int32) (x6 : Int32) (h : AH), Agr W_X12_bring_i56 h0 h → Fm Prod.snd W_X12_bring_i56 h0 (f_X12_bring_91 q75 n 56 x1 x2 x3 x4 x5 x6 h) := by
  intro n
  induction n with
  | zero => intro x1 x2 x3 x4 x5 x6 h _; exact fm_none
  | succ n ih =>
    intro x1 x2 x3 x4 x5 x6 h a_h
    rw [f_X12_bring_91]
    refine fm_ite ?_ ?_
    · exact w_f_X12_bring_134_i56 hq75 FU _ _ _ _ _ _ _ a_h
    · refine fm_og (fun hb1 => ?_)
      refine fm_ite ?_ ?_
      · refine fm_ob (w_f_X12_hadBy_i56 _ _ _) rfl a_h (fun r_6 h_5 a_h_5 => ?_)
        refine fm_ite ?_ ?_
        · exact w_f_X12_bring_125_i56 (fun y0 y1 y2 y3 y4 y5 y6 a => ih y0 y1 y2 y3 y4 y5 y6 a) _ _ _ _ _ _ _ a_h_5
        · exact w_f_X12_bring_125_i56 (fun y0 y1 y2 y3 y4 y5 y6 a => ih y0 y1 y2 y3 y4 y5 y6 a) _ _ _ _ _ _ _ a_h_5
      · exact w_f_X12_bring_125_i56 (fun y0 y1 y2 y3 y4 y5 y6 a => ih y0 y1 y2 y3 y4 y5 y6 a) _ _ _ _ _ _ _ a_h
theorem w_f_X12_bring_75_i56 {h0 : AH} : ∀ (n : Nat) (x1 : Int32) (x2 : Int32) (x3 : Int32) (x4 : Int32) (x5 : Int32) (h : AH), Agr W_X12_bring_i56 h0 h → Fm Prod.snd W_X12_bring_i56 h0 (f_X12_bring_75 n 56 x1 x2 x3 x4 x5 h) := by
  intro n
  induction n with
  | zero => intro x1 x2 x3 x4 x5 h _; exact fm_none
  | succ n ih =>
    intro x1 x2 x3 x4 x5 h a_h
    rw [f_X12_bring_75]
    refine fm_ite ?_ ?_
    · exact w_f_X12_bring_221_i56  _ _ a_h
    · refine fm_ite ?_ ?_
      · exact w_f_X12_bring_91_i56 (fun y0 y1 y2 y3 y4 y5 a => ih y0 y1 y2 y3 y4 y5 a) FU _ _ _ _ _ _ _ a_h
      · exact w_f_X12_bring_221_i56  _ _ a_h
theorem w_f_X12_bring_37_i56 {h0 : AH} : ∀ (n : Nat) (x1 : Int32) (x2 : Int32) (x3 : Int32) (h : AH), Agr W_X12_bring_i56 h0 h → Fm Prod.snd W_X12_bring_i56 h0 (f_X12_bring_37 n 56 x1 x2 x3 h) := by
  intro n
  induction n with
  | zero => intro x1 x2 x3 h _; exact fm_none
  | succ n ih =>
    intro x1 x2 x3 h a_h
    rw [f_X12_bring_37]
    refine fm_ite ?_ ?_
    · refine fm_ob (w_f_X12_havingNow_i56 _) rfl a_h (fun r_4 h_3 a_h_3 => ?_)
      refine fm_og (fun hb1 => ?_)
      refine fm_nh (agr_sI a_h_3 rfl) (fun h_6 a_h_6 => ?_)
      exact w_f_X12_bring_75_i56  FU _ _ _ _ _ _ a_h_6
    · refine fm_og (fun hb2 => ?_)
      refine fm_nh (agr_sI a_h rfl) (fun h_9 a_h_9 => ?_)
      refine fm_nm (fun x3_11 => ?_)
      exact ih _ _ _ _ a_h_9
theorem w_f_X12_bring_i56 (x1 : Int32) (x2 : Int32) (h : AH) : Fm Prod.snd W_X12_bring_i56 h (f_X12_bring 56 x1 x2 h) := by
  unfold f_X12_bring
  have a_h : Agr W_X12_bring_i56 h h := agr_refl h
  refine fm_nh (agr_sI a_h rfl) (fun h_1 a_h_1 => ?_)
  refine fm_ite ?_ ?_
  · exact w_f_X12_bring_29_i56  _ a_h_1
  · refine fm_ob (w_f_X12_isPerson_i56 _ _) rfl a_h_1 (fun r_6 h_5 a_h_5 => ?_)
    refine fm_ite ?_ ?_
    · exact w_f_X12_bring_29_i56  _ a_h_5
    · refine fm_ob (w_f_X12_isPerson_i56 _ _) rfl a_h_5 (fun r_10 h_9 a_h_9 => ?_)
      refine fm_ite ?_ ?_
      · exact w_f_X12_bring_29_i56  _ a_h_9
      · refine fm_ov (w_f_X12_keepHaving_i56 _) rfl a_h_9 (fun h_13 a_h_13 => ?_)
        exact w_f_X12_bring_37_i56  FU _ _ _ _ a_h_13
def W_X11_steady_i0 : List (Nat × Nat) := (14, 1000) :: (17, 1000) :: (20, 1000) :: (23, 1000) :: (36, 1000) :: (37, 1000) :: (38, 1000) :: (39, 1000) :: (40, 1000) :: (41, 2) :: (42, 1000) :: (43, 1000) :: (44, 1000) :: []
theorem w_f_X11_steady_21_i0 {h0 : AH} : ∀ (h : AH), Agr W_X11_steady_i0 h0 h → Fm Prod.snd W_X11_steady_i0 h0 (f_X11_steady_21 h) := by
  intro h a_h
  unfold f_X11_steady_21
  exact fm_some a_h
theorem w_f_X11_steady_64_i0 {h0 : AH} {q48 : Nat → Int32 → Int32 → Int32 → AH → Option (Int32 × AH)} (hq48 : ∀ (y1 : Int32) (y2 : Int32) (y3 : Int32) (y4 : AH), Agr W_X11_steady_i0 h0 y4 → Fm Prod.snd W_X11_steady_i0 h0 (q48 0 y1 y2 y3 y4)) : ∀ (n : Nat) (x1 : Int32) (x3 : Int32) (x4 : Int32) (h : AH), Agr W_X11_steady_i0 h0 h → Fm Prod.snd W_X11_steady_i0 h0 (f_X11_steady_64 q48 n 0 x1 x3 x4 h) := by
  intro n
  induction n with
  | zero => intro x1 x3 x4 h _; exact fm_none
  | succ n ih =>
    intro x1 x3 x4 h a_h
    rw [f_X11_steady_64]
    refine fm_ite ?_ ?_
    · refine fm_ob (w_f_X5_advance_i41 _) rfl a_h (fun r_4 h_3 a_h_3 => ?_)
      refine fm_nm (fun x3_5 => ?_)
      exact hq48 _ _ _ _ a_h_3
    · refine fm_og (fun hb1 => ?_)
      refine fm_og (fun hb2 => ?_)
      refine fm_ite ?_ ?_
      · refine fm_nm (fun x4_10 => ?_)
        exact ih _ _ _ _ a_h
      · exact fm_some a_h
theorem w_f_X11_steady_48_i0 {h0 : AH} : ∀ (n : Nat) (x1 : Int32) (x2 : Int32) (x3 : Int32) (h : AH), Agr W_X11_steady_i0 h0 h → Fm Prod.snd W_X11_steady_i0 h0 (f_X11_steady_48 n 0 x1 x2 x3 h) := by
  intro n
  induction n with
  | zero => intro x1 x2 x3 h _; exact fm_none
  | succ n ih =>
    intro x1 x2 x3 h a_h
    rw [f_X11_steady_48]
    refine fm_ite ?_ ?_
    · exact fm_some a_h
    · refine fm_ov (w_f_X5_go_i41 _ _) rfl a_h (fun h_3 a_h_3 => ?_)
      exact w_f_X11_steady_64_i0 (fun y0 y1 y2 y3 a => ih y0 y1 y2 y3 a) FU _ _ _ _ a_h_3
theorem w_f_X11_steady_i0 (h : AH) : Fm Prod.snd W_X11_steady_i0 h (f_X11_steady 0 h) := by
  unfold f_X11_steady
  have a_h : Agr W_X11_steady_i0 h h := agr_refl h
  refine fm_ite ?_ ?_
  · exact w_f_X11_steady_21_i0  _ a_h
  · refine fm_ite ?_ ?_
    · refine fm_ob (w_f_X11_everybody_i0 _) rfl a_h (fun r_5 h_4 a_h_4 => ?_)
      refine fm_ob (w_f_X11_openDoor_i0 _ _ _) rfl a_h_4 (fun r_8 h_7 a_h_7 => ?_)
      refine fm_ob (w_f_X11_everybody_i0 _) rfl a_h_7 (fun r_11 h_10 a_h_10 => ?_)
      refine fm_ob (w_f_X5_first_i41 _ _ _) rfl a_h_10 (fun r_14 h_13 a_h_13 => ?_)
      exact w_f_X11_steady_48_i0  FU _ _ _ _ a_h_13
    · exact w_f_X11_steady_21_i0  _ a_h
def W_X12_steady_i56 : List (Nat × Nat) := (56, 0) :: (56, 8) :: (56, 9) :: (56, 10) :: (56, 11) :: (56, 12) :: (56, 13) :: (56, 14) :: (56, 18) :: (56, 29) :: (56, 30) :: (56, 34) :: (60, 1000) :: (67, 1000) :: (68, 1000) :: (70, 1000) :: (201, 0) :: []
theorem w_f_X12_steady_20_i56 {h0 : AH} : ∀ (h : AH), Agr W_X12_steady_i56 h0 h → Fm Prod.snd W_X12_steady_i56 h0 (f_X12_steady_20 h) := by
  intro h a_h
  unfold f_X12_steady_20
  exact fm_some a_h
theorem w_f_X12_steady_60_i56 {h0 : AH} {q38 : Nat → Int32 → Int32 → AH → Option (Int32 × AH)} (hq38 : ∀ (y1 : Int32) (y2 : Int32) (y3 : AH), Agr W_X12_steady_i56 h0 y3 → Fm Prod.snd W_X12_steady_i56 h0 (q38 56 y1 y2 y3)) : ∀ (n : Nat) (x1 : Int32) (x2 : Int32) (x3 : Int32) (h : AH), Agr W_X12_steady_i56 h0 h → Fm Prod.snd W_X12_steady_i56 h0 (f_X12_steady_60 q38 n 56 x1 x2 x3 h) := by
  intro n
  induction n with
  | zero => intro x1 x2 x3 h _; exact fm_none
  | succ n ih =>
    intro x1 x2 x3 h a_h
    rw [f_X12_steady_60]
    refine fm_ite ?_ ?_
    · refine fm_nm (fun x2_2 => ?_)
      exact hq38 _ _ _ a_h
    · refine fm_og (fun hb1 => ?_)
      refine fm_og (fun hb2 => ?_)
      refine fm_ite ?_ ?_
      · refine fm_nm (fun x3_7 => ?_)
        exact ih _ _ _ _ a_h
      · exact fm_some a_h
theorem w_f_X12_steady_38_i56 {h0 : AH} : ∀ (n : Nat) (x1 : Int32) (x2 : Int32) (h : AH), Agr W_X12_steady_i56 h0 h → Fm Prod.snd W_X12_steady_i56 h0 (f_X12_steady_38 n 56 x1 x2 h) := by
  intro n
  induction n with
  | zero => intro x1 x2 h _; exact fm_none
  | succ n ih =>
    intro x1 x2 h a_h
    rw [f_X12_steady_38]
    refine fm_ite ?_ ?_
    · exact fm_some a_h
    · refine fm_ob (w_f_X12_doorOf_i56 _ _ _) rfl a_h (fun r_4 h_3 a_h_3 => ?_)
      refine fm_ov (w_f_X12_goWay_i56 _ _ _ _) rfl a_h_3 (fun h_6 a_h_6 => ?_)
      exact w_f_X12_steady_60_i56 (fun y0 y1 y2 a => ih y0 y1 y2 a) FU _ _ _ _ a_h_6
theorem w_f_X12_steady_i56 (h : AH) : Fm Prod.snd W_X12_steady_i56 h (f_X12_steady 56 h) := by
  unfold f_X12_steady
  have a_h : Agr W_X12_steady_i56 h h := agr_refl h
  refine fm_nh (agr_sI a_h rfl) (fun h_1 a_h_1 => ?_)
  refine fm_ite ?_ ?_
  · exact w_f_X12_steady_20_i56  _ a_h_1
  · refine fm_ite ?_ ?_
    · refine fm_nm (fun x1_5 => ?_)
      refine fm_ov (w_f_X12_allWays_i56 _ _) rfl a_h_1 (fun h_8 a_h_8 => ?_)
      exact w_f_X12_steady_38_i56  FU _ _ _ a_h_8
    · exact w_f_X12_steady_20_i56  _ a_h_1
def W_X11_lost_i0 : List (Nat × Nat) := []
theorem w_f_X11_lost_16_i0 {h0 : AH} : ∀ (n : Nat) (x1 : Int32) (x2 : Int32) (h : AH), Agr W_X11_lost_i0 h0 h → Fm Prod.snd W_X11_lost_i0 h0 (f_X11_lost_16 n 0 x1 x2 h) := by
  intro n
  induction n with
  | zero => intro x1 x2 h _; exact fm_none
  | succ n ih =>
    intro x1 x2 h a_h
    rw [f_X11_lost_16]
    refine fm_ite ?_ ?_
    · exact fm_some a_h
    · refine fm_ob (w_f_X6_item_i3 _ _ _) rfl a_h (fun r_4 h_3 a_h_3 => ?_)
      refine fm_og (fun hb1 => ?_)
      refine fm_nm (fun x1_6 => ?_)
      refine fm_nm (fun x2_8 => ?_)
      exact ih _ _ _ a_h_3
theorem w_f_X11_lost_i0 (h : AH) : Fm Prod.snd W_X11_lost_i0 h (f_X11_lost 0 h) := by
  unfold f_X11_lost
  have a_h : Agr W_X11_lost_i0 h h := agr_refl h
  refine fm_ite ?_ ?_
  · exact fm_some a_h
  · exact w_f_X11_lost_16_i0  FU _ _ _ a_h
def W_X12_lost_i56 : List (Nat × Nat) := (56, 0) :: []
theorem w_f_X12_lost_18_i56 {h0 : AH} : ∀ (n : Nat) (x1 : Int32) (x2 : Int32) (h : AH), Agr W_X12_lost_i56 h0 h → Fm Prod.snd W_X12_lost_i56 h0 (f_X12_lost_18 n 56 x1 x2 h) := by
  intro n
  induction n with
  | zero => intro x1 x2 h _; exact fm_none
  | succ n ih =>
    intro x1 x2 h a_h
    rw [f_X12_lost_18]
    refine fm_ite ?_ ?_
    · exact fm_some a_h
    · refine fm_og (fun hb1 => ?_)
      refine fm_og (fun hb2 => ?_)
      refine fm_nm (fun x1_4 => ?_)
      refine fm_nm (fun x2_6 => ?_)
      exact ih _ _ _ a_h
theorem w_f_X12_lost_i56 (h : AH) : Fm Prod.snd W_X12_lost_i56 h (f_X12_lost 56 h) := by
  unfold f_X12_lost
  have a_h : Agr W_X12_lost_i56 h h := agr_refl h
  refine fm_nh (agr_sI a_h rfl) (fun h_1 a_h_1 => ?_)
  refine fm_ite ?_ ?_
  · exact fm_some a_h_1
  · exact w_f_X12_lost_18_i56  FU _ _ _ a_h_1
def W_X11_envy_i0 : List (Nat × Nat) := []
theorem w_f_X11_envy_15_i0 {h0 : AH} : ∀ (h : AH), Agr W_X11_envy_i0 h0 h → Fm Prod.snd W_X11_envy_i0 h0 (f_X11_envy_15 h) := by
  intro h a_h
  unfold f_X11_envy_15
  exact fm_some a_h
theorem w_f_X11_envy_95_i0 {h0 : AH} : ∀ (s0 : Int32) (h : AH), Agr W_X11_envy_i0 h0 h → Fm Prod.snd W_X11_envy_i0 h0 (f_X11_envy_95 s0 h) := by
  intro s0 h a_h
  unfold f_X11_envy_95
  exact fm_some a_h
def W_X11_hasEnvy_i0 : List (Nat × Nat) := []
theorem w_f_X11_hasEnvy_35_i0 {h0 : AH} : ∀ (h : AH), Agr W_X11_hasEnvy_i0 h0 h → Fm Prod.snd W_X11_hasEnvy_i0 h0 (f_X11_hasEnvy_35 h) := by
  intro h a_h
  unfold f_X11_hasEnvy_35
  exact fm_some a_h
theorem w_f_X11_hasEnvy_85_i0 {h0 : AH} : ∀ (s0 : Int32) (h : AH), Agr W_X11_hasEnvy_i0 h0 h → Fm Prod.snd W_X11_hasEnvy_i0 h0 (f_X11_hasEnvy_85 s0 h) := by
  intro s0 h a_h
  unfold f_X11_hasEnvy_85
  refine fm_og (fun hb1 => ?_)
  exact fm_some a_h
theorem w_f_X11_hasEnvy_77_i0 {h0 : AH} : ∀ (s0 : Int32) (s1 : Int32) (h : AH), Agr W_X11_hasEnvy_i0 h0 h → Fm Prod.snd W_X11_hasEnvy_i0 h0 (f_X11_hasEnvy_77 s0 s1 h) := by
  intro s0 s1 h a_h
  unfold f_X11_hasEnvy_77
  refine fm_ite ?_ ?_
  · exact w_f_X11_hasEnvy_85_i0  _ _ a_h
  · exact w_f_X11_hasEnvy_85_i0  _ _ a_h
theorem w_f_X11_hasEnvy_i0 (x1 : Int32) (x2 : Int32) (h : AH) : Fm Prod.snd W_X11_hasEnvy_i0 h (f_X11_hasEnvy 0 x1 x2 h) := by
  unfold f_X11_hasEnvy
  have a_h : Agr W_X11_hasEnvy_i0 h h := agr_refl h
  refine fm_og (fun hb1 => ?_)
  refine fm_nm (fun x3_2 => ?_)
  refine fm_ite ?_ ?_
  · exact w_f_X11_hasEnvy_35_i0  _ a_h
  · refine fm_ob (w_f_X6_item_i3 _ _ _) rfl a_h (fun r_7 h_6 a_h_6 => ?_)
    refine fm_ob (w_f_X6_canWear_i3 _ _ _) rfl a_h_6 (fun r_10 h_9 a_h_9 => ?_)
    refine fm_ite ?_ ?_
    · exact w_f_X11_hasEnvy_35_i0  _ a_h_9
    · refine fm_og (fun hb2 => ?_)
      refine fm_nm (fun x4_13 => ?_)
      refine fm_og (fun hb3 => ?_)
      refine fm_ite ?_ ?_
      · exact w_f_X11_hasEnvy_77_i0  _ _ _ a_h_9
      · refine fm_og (fun hb4 => ?_)
        exact w_f_X11_hasEnvy_77_i0  _ _ _ a_h_9
theorem w_f_X11_envy_73_i0 {h0 : AH} {q35 : Nat → Int32 → Int32 → Int32 → Int32 → AH → Option (Int32 × AH)} (hq35 : ∀ (y1 : Int32) (y2 : Int32) (y3 : Int32) (y4 : Int32) (y5 : AH), Agr W_X11_envy_i0 h0 y5 → Fm Prod.snd W_X11_envy_i0 h0 (q35 0 y1 y2 y3 y4 y5)) : ∀ (x1 : Int32) (x2 : Int32) (x3 : Int32) (x4 : Int32) (h : AH), Agr W_X11_envy_i0 h0 h → Fm Prod.snd W_X11_envy_i0 h0 (f_X11_envy_73 q35 0 x1 x2 x3 x4 h) := by
  intro x1 x2 x3 x4 h a_h
  unfold f_X11_envy_73
  refine fm_nm (fun x4_1 => ?_)
  exact hq35 _ _ _ _ _ a_h
theorem w_f_X11_envy_35_i0 {h0 : AH} {q21 : Nat → Int32 → Int32 → Int32 → AH → Option (Int32 × AH)} (hq21 : ∀ (y1 : Int32) (y2 : Int32) (y3 : Int32) (y4 : AH), Agr W_X11_envy_i0 h0 y4 → Fm Prod.snd W_X11_envy_i0 h0 (q21 0 y1 y2 y3 y4)) : ∀ (n : Nat) (x1 : Int32) (x2 : Int32) (x3 : Int32) (x4 : Int32) (h : AH), Agr W_X11_envy_i0 h0 h → Fm Prod.snd W_X11_envy_i0 h0 (f_X11_envy_35 q21 n 0 x1 x2 x3 x4 h) := by
  intro n
  induction n with
  | zero => intro x1 x2 x3 x4 h _; exact fm_none
  | succ n ih =>
    intro x1 x2 x3 x4 h a_h
    rw [f_X11_envy_35]
    refine fm_ite ?_ ?_
    · refine fm_nm (fun x3_2 => ?_)
      exact hq21 _ _ _ _ a_h
    · refine fm_ob (w_f_X11_hasEnvy_i0 _ _ _) rfl a_h (fun r_6 h_5 a_h_5 => ?_)
      refine fm_ite ?_ ?_
      · exact w_f_X11_envy_73_i0 (fun y0 y1 y2 y3 y4 a => ih y0 y1 y2 y3 y4 a) _ _ _ _ _ a_h_5
      · refine fm_ite ?_ ?_
        · exact fm_some a_h_5
        · refine fm_nm (fun x2_9 => ?_)
          exact w_f_X11_envy_73_i0 (fun y0 y1 y2 y3 y4 a => ih y0 y1 y2 y3 y4 a) _ _ _ _ _ a_h_5
theorem w_f_X11_envy_21_i0 {h0 : AH} : ∀ (n : Nat) (x1 : Int32) (x2 : Int32) (x3 : Int32) (h : AH), Agr W_X11_envy_i0 h0 h → Fm Prod.snd W_X11_envy_i0 h0 (f_X11_envy_21 n 0 x1 x2 x3 h) := by
  intro n
  induction n with
  | zero => intro x1 x2 x3 h _; exact fm_none
  | succ n ih =>
    intro x1 x2 x3 h a_h
    rw [f_X11_envy_21]
    refine fm_ite ?_ ?_
    · refine fm_ite ?_ ?_
      · exact w_f_X11_envy_95_i0  _ _ a_h
      · exact w_f_X11_envy_95_i0  _ _ a_h
    · exact w_f_X11_envy_35_i0 (fun y0 y1 y2 y3 a => ih y0 y1 y2 y3 a) FU _ _ _ _ _ a_h
theorem w_f_X11_envy_i0 (x1 : Int32) (h : AH) : Fm Prod.snd W_X11_envy_i0 h (f_X11_envy 0 x1 h) := by
  unfold f_X11_envy
  have a_h : Agr W_X11_envy_i0 h h := agr_refl h
  refine fm_ite ?_ ?_
  · exact w_f_X11_envy_15_i0  _ a_h
  · refine fm_ite ?_ ?_
    · exact w_f_X11_envy_21_i0  FU _ _ _ _ a_h
    · exact w_f_X11_envy_15_i0  _ a_h
def W_X12_envy_i56 : List (Nat × Nat) := (56, 0) :: []
theorem w_f_X12_envy_17_i56 {h0 : AH} : ∀ (h : AH), Agr W_X12_envy_i56 h0 h → Fm Prod.snd W_X12_envy_i56 h0 (f_X12_envy_17 h) := by
  intro h a_h
  unfold f_X12_envy_17
  exact fm_some a_h
theorem w_f_X12_envy_94_i56 {h0 : AH} : ∀ (s0 : Int32) (h : AH), Agr W_X12_envy_i56 h0 h → Fm Prod.snd W_X12_envy_i56 h0 (f_X12_envy_94 s0 h) := by
  intro s0 h a_h
  unfold f_X12_envy_94
  exact fm_some a_h
def W_X12_doesEnvy_i56 : List (Nat × Nat) := []
theorem w_f_X12_doesEnvy_29_i56 {h0 : AH} : ∀ (h : AH), Agr W_X12_doesEnvy_i56 h0 h → Fm Prod.snd W_X12_doesEnvy_i56 h0 (f_X12_doesEnvy_29 h) := by
  intro h a_h
  unfold f_X12_doesEnvy_29
  exact fm_some a_h
theorem w_f_X12_doesEnvy_75_i56 {h0 : AH} : ∀ (s0 : Int32) (h : AH), Agr W_X12_doesEnvy_i56 h0 h → Fm Prod.snd W_X12_doesEnvy_i56 h0 (f_X12_doesEnvy_75 s0 h) := by
  intro s0 h a_h
  unfold f_X12_doesEnvy_75
  refine fm_og (fun hb1 => ?_)
  exact fm_some a_h
theorem w_f_X12_doesEnvy_67_i56 {h0 : AH} : ∀ (s0 : Int32) (s1 : Int32) (h : AH), Agr W_X12_doesEnvy_i56 h0 h → Fm Prod.snd W_X12_doesEnvy_i56 h0 (f_X12_doesEnvy_67 s0 s1 h) := by
  intro s0 s1 h a_h
  unfold f_X12_doesEnvy_67
  refine fm_ite ?_ ?_
  · exact w_f_X12_doesEnvy_75_i56  _ _ a_h
  · exact w_f_X12_doesEnvy_75_i56  _ _ a_h
theorem w_f_X12_doesEnvy_i56 (x1 : Int32) (x2 : Int32) (h : AH) : Fm Prod.snd W_X12_doesEnvy_i56 h (f_X12_doesEnvy 56 x1 x2 h) := by
  unfold f_X12_doesEnvy
  have a_h : Agr W_X12_doesEnvy_i56 h h := agr_refl h
  refine fm_ite ?_ ?_
  · exact w_f_X12_doesEnvy_29_i56  _ a_h
  · refine fm_og (fun hb1 => ?_)
    refine fm_ite ?_ ?_
    · exact w_f_X12_doesEnvy_29_i56  _ a_h
    · refine fm_og (fun hb2 => ?_)
      refine fm_ob (w_f_X12_doesFit_i56 _ _ _) rfl a_h (fun r_7 h_6 a_h_6 => ?_)
      refine fm_ite ?_ ?_
      · exact w_f_X12_doesEnvy_29_i56  _ a_h_6
      · refine fm_og (fun hb3 => ?_)
        refine fm_og (fun hb4 => ?_)
        refine fm_og (fun hb5 => ?_)
        refine fm_ite ?_ ?_
        · exact w_f_X12_doesEnvy_67_i56  _ _ _ a_h_6
        · refine fm_og (fun hb6 => ?_)
          refine fm_og (fun hb7 => ?_)
          exact w_f_X12_doesEnvy_67_i56  _ _ _ a_h_6
theorem w_f_X12_envy_72_i56 {h0 : AH} {q34 : Nat → Int32 → Int32 → Int32 → Int32 → AH → Option (Int32 × AH)} (hq34 : ∀ (y1 : Int32) (y2 : Int32) (y3 : Int32) (y4 : Int32) (y5 : AH), Agr W_X12_envy_i56 h0 y5 → Fm Prod.snd W_X12_envy_i56 h0 (q34 56 y1 y2 y3 y4 y5)) : ∀ (x1 : Int32) (x2 : Int32) (x3 : Int32) (x4 : Int32) (h : AH), Agr W_X12_envy_i56 h0 h → Fm Prod.snd W_X12_envy_i56 h0 (f_X12_envy_72 q34 56 x1 x2 x3 x4 h) := by
  intro x1 x2 x3 x4 h a_h
  unfold f_X12_envy_72
  refine fm_nm (fun x4_1 => ?_)
  exact hq34 _ _ _ _ _ a_h
theorem w_f_X12_envy_34_i56 {h0 : AH} {q23 : Nat → Int32 → Int32 → Int32 → AH → Option (Int32 × AH)} (hq23 : ∀ (y1 : Int32) (y2 : Int32) (y3 : Int32) (y4 : AH), Agr W_X12_envy_i56 h0 y4 → Fm Prod.snd W_X12_envy_i56 h0 (q23 56 y1 y2 y3 y4)) : ∀ (n : Nat) (x1 : Int32) (x2 : Int32) (x3 : Int32) (x4 : Int32) (h : AH), Agr W_X12_envy_i56 h0 h → Fm Prod.snd W_X12_envy_i56 h0 (f_X12_envy_34 q23 n 56 x1 x2 x3 x4 h) := by
  intro n
  induction n with
  | zero => intro x1 x2 x3 x4 h _; exact fm_none
  | succ n ih =>
    intro x1 x2 x3 x4 h a_h
    rw [f_X12_envy_34]
    refine fm_ite ?_ ?_
    · refine fm_nm (fun x3_2 => ?_)
      exact hq23 _ _ _ _ a_h
    · refine fm_ob (w_f_X12_doesEnvy_i56 _ _ _) rfl a_h (fun r_6 h_5 a_h_5 => ?_)
      refine fm_ite ?_ ?_
      · exact w_f_X12_envy_72_i56 (fun y0 y1 y2 y3 y4 a => ih y0 y1 y2 y3 y4 a) _ _ _ _ _ a_h_5
      · refine fm_ite ?_ ?_
        · exact fm_some a_h_5
        · refine fm_nm (fun x2_9 => ?_)
          exact w_f_X12_envy_72_i56 (fun y0 y1 y2 y3 y4 a => ih y0 y1 y2 y3 y4 a) _ _ _ _ _ a_h_5
theorem w_f_X12_envy_23_i56 {h0 : AH} : ∀ (n : Nat) (x1 : Int32) (x2 : Int32) (x3 : Int32) (h : AH), Agr W_X12_envy_i56 h0 h → Fm Prod.snd W_X12_envy_i56 h0 (f_X12_envy_23 n 56 x1 x2 x3 h) := by
  intro n
  induction n with
  | zero => intro x1 x2 x3 h _; exact fm_none
  | succ n ih =>
    intro x1 x2 x3 h a_h
    rw [f_X12_envy_23]
    refine fm_ite ?_ ?_
    · refine fm_ite ?_ ?_
      · exact w_f_X12_envy_94_i56  _ _ a_h
      · exact w_f_X12_envy_94_i56  _ _ a_h
    · exact w_f_X12_envy_34_i56 (fun y0 y1 y2 y3 a => ih y0 y1 y2 y3 a) FU _ _ _ _ _ a_h
theorem w_f_X12_envy_i56 (x1 : Int32) (h : AH) : Fm Prod.snd W_X12_envy_i56 h (f_X12_envy 56 x1 h) := by
  unfold f_X12_envy
  have a_h : Agr W_X12_envy_i56 h h := agr_refl h
  refine fm_nh (agr_sI a_h rfl) (fun h_1 a_h_1 => ?_)
  refine fm_ite ?_ ?_
  · exact w_f_X12_envy_17_i56  _ a_h_1
  · refine fm_ite ?_ ?_
    · exact w_f_X12_envy_23_i56  FU _ _ _ _ a_h_1
    · exact w_f_X12_envy_17_i56  _ a_h_1
def W_X9_copy_i28_24 : List (Nat × Nat) := (29, 1000) :: (30, 1000) :: (31, 1000) :: []
theorem w_f_X9_copy_i28_24 (h : AH) : Fm id W_X9_copy_i28_24 h (f_X9_copy 28 24 h) := by
  unfold f_X9_copy
  have a_h : Agr W_X9_copy_i28_24 h h := agr_refl h
  refine fm_og (fun hb1 => ?_)
  refine fm_nh (agr_sA a_h (fun _ => rfl)) (fun h_2 a_h_2 => ?_)
  refine fm_og (fun hb2 => ?_)
  refine fm_nh (agr_sA a_h_2 (fun _ => rfl)) (fun h_5 a_h_5 => ?_)
  refine fm_og (fun hb3 => ?_)
  refine fm_nh (agr_sA a_h_5 (fun _ => rfl)) (fun h_8 a_h_8 => ?_)
  exact fm_some a_h_8
def W_X1_keep_i32 : List (Nat × Nat) := (32, 4) :: (32, 5) :: []
theorem w_f_X1_keep_i32 (h : AH) : Fm id W_X1_keep_i32 h (f_X1_keep 32 h) := by
  unfold f_X1_keep
  have a_h : Agr W_X1_keep_i32 h h := agr_refl h
  refine fm_nh (agr_sI a_h rfl) (fun h_1 a_h_1 => ?_)
  refine fm_nh (agr_sI a_h_1 rfl) (fun h_3 a_h_3 => ?_)
  exact fm_some a_h_3
def W_X11_image_i0 : List (Nat × Nat) := (0, 8) :: (29, 1000) :: (30, 1000) :: (31, 1000) :: (32, 4) :: (32, 5) :: []
theorem w_f_X11_image_i0 (h : AH) : Fm Prod.snd W_X11_image_i0 h (f_X11_image 0 h) := by
  unfold f_X11_image
  have a_h : Agr W_X11_image_i0 h h := agr_refl h
  refine fm_ite ?_ ?_
  · exact fm_some a_h
  · refine fm_ov (w_f_X9_copy_i28_24 _) rfl a_h (fun h_3 a_h_3 => ?_)
    refine fm_ov (w_f_X1_keep_i32 _) rfl a_h_3 (fun h_5 a_h_5 => ?_)
    refine fm_nh (agr_sI a_h_5 rfl) (fun h_6 a_h_6 => ?_)
    exact fm_some a_h_6
def W_X12_image_i56 : List (Nat × Nat) := (56, 0) :: (56, 55) :: (56, 56) :: (56, 57) :: (86, 1000) :: []
theorem w_f_X12_image_106_i56 {h0 : AH} : ∀ (n : Nat) (x1 : Int32) (h : AH), Agr W_X12_image_i56 h0 h → Fm Prod.snd W_X12_image_i56 h0 (f_X12_image_106 n 56 x1 h) := by
  intro n
  induction n with
  | zero => intro x1 h _; exact fm_none
  | succ n ih =>
    intro x1 h a_h
    rw [f_X12_image_106]
    refine fm_ite ?_ ?_
    · refine fm_nh (agr_sI a_h rfl) (fun h_2 a_h_2 => ?_)
      refine fm_nh (agr_sI a_h_2 rfl) (fun h_4 a_h_4 => ?_)
      refine fm_nh (agr_sI a_h_4 rfl) (fun h_6 a_h_6 => ?_)
      exact fm_some a_h_6
    · refine fm_nm (fun x2_8 => ?_)
      refine fm_og (fun hb1 => ?_)
      refine fm_og (fun hb2 => ?_)
      refine fm_nh (agr_sI a_h rfl) (fun h_12 a_h_12 => ?_)
      refine fm_og (fun hb3 => ?_)
      refine fm_og (fun hb4 => ?_)
      refine fm_nh (agr_sI a_h_12 rfl) (fun h_16 a_h_16 => ?_)
      refine fm_og (fun hb5 => ?_)
      refine fm_og (fun hb6 => ?_)
      refine fm_nh (agr_sI a_h_16 rfl) (fun h_20 a_h_20 => ?_)
      refine fm_nm (fun x1_22 => ?_)
      exact ih _ _ a_h_20
theorem w_f_X12_image_76_i56 {h0 : AH} : ∀ (n : Nat) (x1 : Int32) (h : AH), Agr W_X12_image_i56 h0 h → Fm Prod.snd W_X12_image_i56 h0 (f_X12_image_76 n 56 x1 h) := by
  intro n
  induction n with
  | zero => intro x1 h _; exact fm_none
  | succ n ih =>
    intro x1 h a_h
    rw [f_X12_image_76]
    refine fm_ite ?_ ?_
    · exact w_f_X12_image_106_i56  FU _ _ a_h
    · refine fm_og (fun hb1 => ?_)
      refine fm_og (fun hb2 => ?_)
      refine fm_nh (agr_sI a_h rfl) (fun h_4 a_h_4 => ?_)
      refine fm_nm (fun x1_6 => ?_)
      exact ih _ _ a_h_4
theorem w_f_X12_image_16_i56 {h0 : AH} : ∀ (n : Nat) (x1 : Int32) (h : AH), Agr W_X12_image_i56 h0 h → Fm Prod.snd W_X12_image_i56 h0 (f_X12_image_16 n 56 x1 h) := by
  intro n
  induction n with
  | zero => intro x1 h _; exact fm_none
  | succ n ih =>
    intro x1 h a_h
    rw [f_X12_image_16]
    refine fm_ite ?_ ?_
    · exact w_f_X12_image_76_i56  FU _ _ a_h
    · refine fm_og (fun hb1 => ?_)
      refine fm_og (fun hb2 => ?_)
      refine fm_nh (agr_sI a_h rfl) (fun h_4 a_h_4 => ?_)
      refine fm_og (fun hb3 => ?_)
      refine fm_og (fun hb4 => ?_)
      refine fm_nh (agr_sI a_h_4 rfl) (fun h_8 a_h_8 => ?_)
      refine fm_og (fun hb5 => ?_)
      refine fm_og (fun hb6 => ?_)
      refine fm_nh (agr_sI a_h_8 rfl) (fun h_12 a_h_12 => ?_)
      refine fm_nm (fun x1_14 => ?_)
      exact ih _ _ a_h_12
theorem w_f_X12_image_i56 (h : AH) : Fm Prod.snd W_X12_image_i56 h (f_X12_image 56 h) := by
  unfold f_X12_image
  have a_h : Agr W_X12_image_i56 h h := agr_refl h
  refine fm_nh (agr_sI a_h rfl) (fun h_1 a_h_1 => ?_)
  refine fm_ite ?_ ?_
  · exact fm_some a_h_1
  · exact w_f_X12_image_16_i56  FU _ _ a_h_1
def W_X9_copy_i24_28 : List (Nat × Nat) := (25, 1000) :: (26, 1000) :: (27, 1000) :: []
theorem w_f_X9_copy_i24_28 (h : AH) : Fm id W_X9_copy_i24_28 h (f_X9_copy 24 28 h) := by
  unfold f_X9_copy
  have a_h : Agr W_X9_copy_i24_28 h h := agr_refl h
  refine fm_og (fun hb1 => ?_)
  refine fm_nh (agr_sA a_h (fun _ => rfl)) (fun h_2 a_h_2 => ?_)
  refine fm_og (fun hb2 => ?_)
  refine fm_nh (agr_sA a_h_2 (fun _ => rfl)) (fun h_5 a_h_5 => ?_)
  refine fm_og (fun hb3 => ?_)
  refine fm_nh (agr_sA a_h_5 (fun _ => rfl)) (fun h_8 a_h_8 => ?_)
  exact fm_some a_h_8
def W_X1_restore_i32 : List (Nat × Nat) := (32, 2) :: (32, 3) :: []
theorem w_f_X1_restore_i32 (h : AH) : Fm id W_X1_restore_i32 h (f_X1_restore 32 h) := by
  unfold f_X1_restore
  have a_h : Agr W_X1_restore_i32 h h := agr_refl h
  refine fm_nh (agr_sI a_h rfl) (fun h_1 a_h_1 => ?_)
  refine fm_nh (agr_sI a_h_1 rfl) (fun h_3 a_h_3 => ?_)
  exact fm_some a_h_3
def W_X11_back_i0 : List (Nat × Nat) := (25, 1000) :: (26, 1000) :: (27, 1000) :: (32, 2) :: (32, 3) :: []
theorem w_f_X11_back_i0 (h : AH) : Fm Prod.snd W_X11_back_i0 h (f_X11_back 0 h) := by
  unfold f_X11_back
  have a_h : Agr W_X11_back_i0 h h := agr_refl h
  refine fm_ite ?_ ?_
  · exact fm_some a_h
  · refine fm_ov (w_f_X9_copy_i24_28 _) rfl a_h (fun h_3 a_h_3 => ?_)
    refine fm_ov (w_f_X1_restore_i32 _) rfl a_h_3 (fun h_5 a_h_5 => ?_)
    exact fm_some a_h_5
def W_X12_back_i56 : List (Nat × Nat) := (56, 0) :: (56, 32) :: (56, 50) :: (62, 1000) :: (63, 1000) :: (65, 1000) :: (69, 1000) :: (81, 1000) :: (82, 1000) :: (83, 1000) :: []
theorem w_f_X12_back_106_i56 {h0 : AH} : ∀ (n : Nat) (x1 : Int32) (h : AH), Agr W_X12_back_i56 h0 h → Fm Prod.snd W_X12_back_i56 h0 (f_X12_back_106 n 56 x1 h) := by
  intro n
  induction n with
  | zero => intro x1 h _; exact fm_none
  | succ n ih =>
    intro x1 h a_h
    rw [f_X12_back_106]
    refine fm_ite ?_ ?_
    · refine fm_nh (agr_sI a_h rfl) (fun h_2 a_h_2 => ?_)
      refine fm_nh (agr_sI a_h_2 rfl) (fun h_4 a_h_4 => ?_)
      exact fm_some a_h_4
    · refine fm_nm (fun x2_6 => ?_)
      refine fm_og (fun hb1 => ?_)
      refine fm_og (fun hb2 => ?_)
      refine fm_nh (agr_sI a_h rfl) (fun h_10 a_h_10 => ?_)
      refine fm_og (fun hb3 => ?_)
      refine fm_og (fun hb4 => ?_)
      refine fm_nh (agr_sI a_h_10 rfl) (fun h_14 a_h_14 => ?_)
      refine fm_og (fun hb5 => ?_)
      refine fm_og (fun hb6 => ?_)
      refine fm_nh (agr_sI a_h_14 rfl) (fun h_18 a_h_18 => ?_)
      refine fm_nm (fun x1_20 => ?_)
      exact ih _ _ a_h_18
theorem w_f_X12_back_76_i56 {h0 : AH} : ∀ (n : Nat) (x1 : Int32) (h : AH), Agr W_X12_back_i56 h0 h → Fm Prod.snd W_X12_back_i56 h0 (f_X12_back_76 n 56 x1 h) := by
  intro n
  induction n with
  | zero => intro x1 h _; exact fm_none
  | succ n ih =>
    intro x1 h a_h
    rw [f_X12_back_76]
    refine fm_ite ?_ ?_
    · exact w_f_X12_back_106_i56  FU _ _ a_h
    · refine fm_og (fun hb1 => ?_)
      refine fm_og (fun hb2 => ?_)
      refine fm_nh (agr_sI a_h rfl) (fun h_4 a_h_4 => ?_)
      refine fm_nm (fun x1_6 => ?_)
      exact ih _ _ a_h_4
theorem w_f_X12_back_16_i56 {h0 : AH} : ∀ (n : Nat) (x1 : Int32) (h : AH), Agr W_X12_back_i56 h0 h → Fm Prod.snd W_X12_back_i56 h0 (f_X12_back_16 n 56 x1 h) := by
  intro n
  induction n with
  | zero => intro x1 h _; exact fm_none
  | succ n ih =>
    intro x1 h a_h
    rw [f_X12_back_16]
    refine fm_ite ?_ ?_
    · exact w_f_X12_back_76_i56  FU _ _ a_h
    · refine fm_og (fun hb1 => ?_)
      refine fm_og (fun hb2 => ?_)
      refine fm_nh (agr_sI a_h rfl) (fun h_4 a_h_4 => ?_)
      refine fm_og (fun hb3 => ?_)
      refine fm_og (fun hb4 => ?_)
      refine fm_nh (agr_sI a_h_4 rfl) (fun h_8 a_h_8 => ?_)
      refine fm_og (fun hb5 => ?_)
      refine fm_og (fun hb6 => ?_)
      refine fm_nh (agr_sI a_h_8 rfl) (fun h_12 a_h_12 => ?_)
      refine fm_nm (fun x1_14 => ?_)
      exact ih _ _ a_h_12
theorem w_f_X12_back_i56 (h : AH) : Fm Prod.snd W_X12_back_i56 h (f_X12_back 56 h) := by
  unfold f_X12_back
  have a_h : Agr W_X12_back_i56 h h := agr_refl h
  refine fm_nh (agr_sI a_h rfl) (fun h_1 a_h_1 => ?_)
  refine fm_ite ?_ ?_
  · exact fm_some a_h_1
  · exact w_f_X12_back_16_i56  FU _ _ a_h_1
def W_X9_alone_i24 : List (Nat × Nat) := []
theorem w_f_X9_alone_27_i24 {h0 : AH} {q4 : Nat → Int32 → Int32 → AH → Option (Int32 × AH)} (hq4 : ∀ (y1 : Int32) (y2 : Int32) (y3 : AH), Agr W_X9_alone_i24 h0 y3 → Fm Prod.snd W_X9_alone_i24 h0 (q4 24 y1 y2 y3)) : ∀ (x2 : Int32) (s0 : Int32) (s1 : Int32) (h : AH), Agr W_X9_alone_i24 h0 h → Fm Prod.snd W_X9_alone_i24 h0 (f_X9_alone_27 q4 24 x2 s0 s1 h) := by
  intro x2 s0 s1 h a_h
  unfold f_X9_alone_27
  refine fm_nm (fun x1_1 => ?_)
  refine fm_nm (fun x2_3 => ?_)
  exact hq4 _ _ _ a_h
theorem w_f_X9_alone_4_i24 {h0 : AH} : ∀ (n : Nat) (x1 : Int32) (x2 : Int32) (h : AH), Agr W_X9_alone_i24 h0 h → Fm Prod.snd W_X9_alone_i24 h0 (f_X9_alone_4 n 24 x1 x2 h) := by
  intro n
  induction n with
  | zero => intro x1 x2 h _; exact fm_none
  | succ n ih =>
    intro x1 x2 h a_h
    rw [f_X9_alone_4]
    refine fm_ite ?_ ?_
    · exact fm_some a_h
    · refine fm_og (fun hb1 => ?_)
      refine fm_ite ?_ ?_
      · exact w_f_X9_alone_27_i24 (fun y0 y1 y2 a => ih y0 y1 y2 a) _ _ _ _ a_h
      · exact w_f_X9_alone_27_i24 (fun y0 y1 y2 a => ih y0 y1 y2 a) _ _ _ _ a_h
theorem w_f_X9_alone_i24 (h : AH) : Fm Prod.snd W_X9_alone_i24 h (f_X9_alone 24 h) := by
  unfold f_X9_alone
  have a_h : Agr W_X9_alone_i24 h h := agr_refl h
  exact w_f_X9_alone_4_i24  FU _ _ _ a_h
def W_X11_count_i0 : List (Nat × Nat) := []
theorem w_f_X11_count_i0 (x1 : Int32) (h : AH) : Fm Prod.snd W_X11_count_i0 h (f_X11_count 0 x1 h) := by
  unfold f_X11_count
  have a_h : Agr W_X11_count_i0 h h := agr_refl h
  refine fm_ite ?_ ?_
  · exact fm_some a_h
  · refine fm_ite ?_ ?_
    · exact fm_some a_h
    · refine fm_ite ?_ ?_
      · exact fm_some a_h
      · refine fm_ite ?_ ?_
        · exact fm_some a_h
        · refine fm_ite ?_ ?_
          · exact fm_some a_h
          · refine fm_ite ?_ ?_
            · refine fm_ob (w_f_X9_alone_i24 _) rfl a_h (fun r_9 h_8 a_h_8 => ?_)
              exact fm_some a_h_8
            · exact fm_some a_h
def W_X12_count_i56 : List (Nat × Nat) := (56, 0) :: []
theorem w_f_X12_count_98_i56 {h0 : AH} {q73 : Nat → Int32 → Int32 → AH → Option (Int32 × AH)} (hq73 : ∀ (y1 : Int32) (y2 : Int32) (y3 : AH), Agr W_X12_count_i56 h0 y3 → Fm Prod.snd W_X12_count_i56 h0 (q73 56 y1 y2 y3)) : ∀ (x3 : Int32) (s0 : Int32) (s1 : Int32) (h : AH), Agr W_X12_count_i56 h0 h → Fm Prod.snd W_X12_count_i56 h0 (f_X12_count_98 q73 56 x3 s0 s1 h) := by
  intro x3 s0 s1 h a_h
  unfold f_X12_count_98
  refine fm_nm (fun x2_1 => ?_)
  refine fm_nm (fun x3_3 => ?_)
  exact hq73 _ _ _ a_h
theorem w_f_X12_count_73_i56 {h0 : AH} : ∀ (n : Nat) (x2 : Int32) (x3 : Int32) (h : AH), Agr W_X12_count_i56 h0 h → Fm Prod.snd W_X12_count_i56 h0 (f_X12_count_73 n 56 x2 x3 h) := by
  intro n
  induction n with
  | zero => intro x2 x3 h _; exact fm_none
  | succ n ih =>
    intro x2 x3 h a_h
    rw [f_X12_count_73]
    refine fm_ite ?_ ?_
    · exact fm_some a_h
    · refine fm_og (fun hb1 => ?_)
      refine fm_ite ?_ ?_
      · exact w_f_X12_count_98_i56 (fun y0 y1 y2 a => ih y0 y1 y2 a) _ _ _ _ a_h
      · exact w_f_X12_count_98_i56 (fun y0 y1 y2 a => ih y0 y1 y2 a) _ _ _ _ a_h
theorem w_f_X12_count_i56 (x1 : Int32) (h : AH) : Fm Prod.snd W_X12_count_i56 h (f_X12_count 56 x1 h) := by
  unfold f_X12_count
  have a_h : Agr W_X12_count_i56 h h := agr_refl h
  refine fm_nh (agr_sI a_h rfl) (fun h_1 a_h_1 => ?_)
  refine fm_ite ?_ ?_
  · exact fm_some a_h_1
  · refine fm_ite ?_ ?_
    · exact fm_some a_h_1
    · refine fm_ite ?_ ?_
      · exact fm_some a_h_1
      · refine fm_ite ?_ ?_
        · exact fm_some a_h_1
        · refine fm_ite ?_ ?_
          · exact fm_some a_h_1
          · refine fm_ite ?_ ?_
            · exact w_f_X12_count_73_i56  FU _ _ _ a_h_1
            · exact fm_some a_h_1
def W_X12_thrown_i56 : List (Nat × Nat) := []
theorem w_f_X12_thrown_i56 (h : AH) : Fm Prod.snd W_X12_thrown_i56 h (f_X12_thrown 56 h) := by
  unfold f_X12_thrown
  have a_h : Agr W_X12_thrown_i56 h h := agr_refl h
  exact fm_some a_h
