def W_X7_value_i12_40 : List (Nat × Nat) := (14, 1000) :: []
theorem w_f_X7_value_85_i12_40 {h0 : AH} : ∀ (s0 : Int32) (h : AH), Agr W_X7_value_i12_40 h0 h → Fm Prod.snd W_X7_value_i12_40 h0 (f_X7_value_85 s0 h) := by
  intro s0 h a_h
  unfold f_X7_value_85
  exact fm_some a_h
theorem w_f_X7_value_185_i12_40 {h0 : AH} {q4 : Nat → Nat → Int32 → Int32 → AH → Option (Int32 × AH)} (hq4 : ∀ (y2 : Int32) (y3 : Int32) (y4 : AH), Agr W_X7_value_i12_40 h0 y4 → Fm Prod.snd W_X7_value_i12_40 h0 (q4 12 40 y2 y3 y4)) : ∀ (x2 : Int32) (x3 : Int32) (h : AH), Agr W_X7_value_i12_40 h0 h → Fm Prod.snd W_X7_value_i12_40 h0 (f_X7_value_185 q4 12 40 x2 x3 h) := by
  intro x2 x3 h a_h
  unfold f_X7_value_185
  refine fm_nm (fun x3_1 => ?_)
  exact hq4 _ _ _ a_h
theorem w_f_X7_value_112_i12_40 {h0 : AH} {q4 : Nat → Nat → Int32 → Int32 → AH → Option (Int32 × AH)} (hq4 : ∀ (y2 : Int32) (y3 : Int32) (y4 : AH), Agr W_X7_value_i12_40 h0 y4 → Fm Prod.snd W_X7_value_i12_40 h0 (q4 12 40 y2 y3 y4)) : ∀ (x3 : Int32) (h : AH), Agr W_X7_value_i12_40 h0 h → Fm Prod.snd W_X7_value_i12_40 h0 (f_X7_value_112 q4 12 40 x3 h) := by
  intro x3 h a_h
  unfold f_X7_value_112
  exact w_f_X7_value_185_i12_40 hq4 _ _ _ a_h
def W_X7_endOfClause_i12 : List (Nat × Nat) := []
theorem w_f_X7_endOfClause_27_i12 {h0 : AH} : ∀ (x2 : Int32) (h : AH), Agr W_X7_endOfClause_i12 h0 h → Fm Prod.snd W_X7_endOfClause_i12 h0 (f_X7_endOfClause_27 x2 h) := by
  intro x2 h a_h
  unfold f_X7_endOfClause_27
  exact fm_some a_h
theorem w_f_X7_endOfClause_2_i12 {h0 : AH} : ∀ (n : Nat) (x2 : Int32) (h : AH), Agr W_X7_endOfClause_i12 h0 h → Fm Prod.snd W_X7_endOfClause_i12 h0 (f_X7_endOfClause_2 n 12 x2 h) := by
  intro n
  induction n with
  | zero => intro x2 h _; exact fm_none
  | succ n ih =>
    intro x2 h a_h
    rw [f_X7_endOfClause_2]
    refine fm_ite ?_ ?_
    · exact w_f_X7_endOfClause_27_i12  _ _ a_h
    · refine fm_og (fun hb1 => ?_)
      refine fm_ite ?_ ?_
      · exact w_f_X7_endOfClause_27_i12  _ _ a_h
      · refine fm_nm (fun x2_4 => ?_)
        exact ih _ _ a_h
theorem w_f_X7_endOfClause_i12 (x1 : Int32) (h : AH) : Fm Prod.snd W_X7_endOfClause_i12 h (f_X7_endOfClause 12 x1 h) := by
  unfold f_X7_endOfClause
  have a_h : Agr W_X7_endOfClause_i12 h h := agr_refl h
  exact w_f_X7_endOfClause_2_i12  FU _ _ a_h
def W_X7_reckon : List (Nat × Nat) := []
theorem w_f_X7_reckon_183 {h0 : AH} : ∀ (s0 : Int32) (h : AH), Agr W_X7_reckon h0 h → Fm Prod.snd W_X7_reckon h0 (f_X7_reckon_183 s0 h) := by
  intro s0 h a_h
  unfold f_X7_reckon_183
  exact fm_some a_h
theorem w_f_X7_reckon_155 {h0 : AH} : ∀ (l3 : Int64) (h : AH), Agr W_X7_reckon h0 h → Fm Prod.snd W_X7_reckon h0 (f_X7_reckon_155 l3 h) := by
  intro l3 h a_h
  unfold f_X7_reckon_155
  refine fm_ite ?_ ?_
  · refine fm_ite ?_ ?_
    · exact w_f_X7_reckon_183  _ _ a_h
    · exact w_f_X7_reckon_183  _ _ a_h
  · exact w_f_X7_reckon_183  _ _ a_h
theorem w_f_X7_reckon_97 {h0 : AH} : ∀ (s0 : Int32) (h : AH), Agr W_X7_reckon h0 h → Fm Prod.snd W_X7_reckon h0 (f_X7_reckon_97 s0 h) := by
  intro s0 h a_h
  unfold f_X7_reckon_97
  exact fm_some a_h
theorem w_f_X7_reckon_86 {h0 : AH} : ∀ (s0 : Int32) (h : AH), Agr W_X7_reckon h0 h → Fm Prod.snd W_X7_reckon h0 (f_X7_reckon_86 s0 h) := by
  intro s0 h a_h
  unfold f_X7_reckon_86
  exact fm_some a_h
theorem w_f_X7_reckon_108 {h0 : AH} : ∀ (s0 : Int32) (h : AH), Agr W_X7_reckon h0 h → Fm Prod.snd W_X7_reckon h0 (f_X7_reckon_108 s0 h) := by
  intro s0 h a_h
  unfold f_X7_reckon_108
  exact fm_some a_h
theorem w_f_X7_reckon_154 {h0 : AH} : ∀ (sl0 : Int64) (h : AH), Agr W_X7_reckon h0 h → Fm Prod.snd W_X7_reckon h0 (f_X7_reckon_154 sl0 h) := by
  intro sl0 h a_h
  unfold f_X7_reckon_154
  exact w_f_X7_reckon_155  _ _ a_h
theorem w_f_X7_reckon (x0 : Int32) (x1 : Int32) (x2 : Int32) (h : AH) : Fm Prod.snd W_X7_reckon h (f_X7_reckon x0 x1 x2 h) := by
  unfold f_X7_reckon
  have a_h : Agr W_X7_reckon h h := agr_refl h
  refine fm_ite ?_ ?_
  · exact fm_some a_h
  · refine fm_ite ?_ ?_
    · refine fm_nm (fun l3_3 => ?_)
      exact w_f_X7_reckon_155  _ _ a_h
    · refine fm_ite ?_ ?_
      · refine fm_nm (fun l3_6 => ?_)
        exact w_f_X7_reckon_155  _ _ a_h
      · refine fm_ite ?_ ?_
        · refine fm_nm (fun l3_9 => ?_)
          exact w_f_X7_reckon_155  _ _ a_h
        · refine fm_ite ?_ ?_
          · refine fm_ite ?_ ?_
            · exact w_f_X7_reckon_97  _ _ a_h
            · exact w_f_X7_reckon_97  _ _ a_h
          · refine fm_ite ?_ ?_
            · refine fm_ite ?_ ?_
              · exact w_f_X7_reckon_86  _ _ a_h
              · exact w_f_X7_reckon_86  _ _ a_h
            · refine fm_ite ?_ ?_
              · refine fm_ite ?_ ?_
                · exact w_f_X7_reckon_108  _ _ a_h
                · exact w_f_X7_reckon_108  _ _ a_h
              · refine fm_ite ?_ ?_
                · exact fm_some a_h
                · refine fm_ite ?_ ?_
                  · exact w_f_X7_reckon_154  _ _ a_h
                  · refine fm_og (fun hb1 => ?_)
                    exact w_f_X7_reckon_154  _ _ a_h
theorem w_f_X7_value_57_i12_40 {h0 : AH} {q4 : Nat → Nat → Int32 → Int32 → AH → Option (Int32 × AH)} (hq4 : ∀ (y2 : Int32) (y3 : Int32) (y4 : AH), Agr W_X7_value_i12_40 h0 y4 → Fm Prod.snd W_X7_value_i12_40 h0 (q4 12 40 y2 y3 y4)) : ∀ (x2 : Int32) (x3 : Int32) (s0 : Int32) (s1 : Int32) (h : AH), Agr W_X7_value_i12_40 h0 h → Fm Prod.snd W_X7_value_i12_40 h0 (f_X7_value_57 q4 12 40 x2 x3 s0 s1 14 h) := by
  intro x2 x3 s0 s1 h a_h
  unfold f_X7_value_57
  refine fm_og (fun hb1 => ?_)
  refine fm_nh (agr_sI a_h rfl) (fun h_2 a_h_2 => ?_)
  refine fm_nm (fun x2_4 => ?_)
  exact w_f_X7_value_185_i12_40 hq4 _ _ _ a_h_2
theorem w_f_X7_value_4_i12_40 {h0 : AH} : ∀ (n : Nat) (x2 : Int32) (x3 : Int32) (h : AH), Agr W_X7_value_i12_40 h0 h → Fm Prod.snd W_X7_value_i12_40 h0 (f_X7_value_4 n 12 40 x2 x3 h) := by
  intro n
  induction n with
  | zero => intro x2 x3 h _; exact fm_none
  | succ n ih =>
    intro x2 x3 h a_h
    rw [f_X7_value_4]
    refine fm_ite ?_ ?_
    · exact fm_some a_h
    · refine fm_og (fun hb1 => ?_)
      refine fm_nm (fun x4_3 => ?_)
      refine fm_ite ?_ ?_
      · refine fm_ite ?_ ?_
        · refine fm_ite ?_ ?_
          · exact w_f_X7_value_85_i12_40  _ _ a_h
          · refine fm_og (fun hb2 => ?_)
            exact w_f_X7_value_85_i12_40  _ _ a_h
        · refine fm_ite ?_ ?_
          · refine fm_ite ?_ ?_
            · exact w_f_X7_value_112_i12_40 (fun y0 y1 y2 a => ih y0 y1 y2 a) _ _ a_h
            · refine fm_og (fun hb3 => ?_)
              refine fm_ite ?_ ?_
              · refine fm_ob (w_f_X7_endOfClause_i12 _ _) rfl a_h (fun r_30 h_29 a_h_29 => ?_)
                exact w_f_X7_value_112_i12_40 (fun y0 y1 y2 a => ih y0 y1 y2 a) _ _ a_h_29
              · exact w_f_X7_value_112_i12_40 (fun y0 y1 y2 a => ih y0 y1 y2 a) _ _ a_h
          · refine fm_ite ?_ ?_
            · refine fm_ite ?_ ?_
              · exact w_f_X7_value_185_i12_40 (fun y0 y1 y2 a => ih y0 y1 y2 a) _ _ _ a_h
              · refine fm_og (fun hb4 => ?_)
                refine fm_og (fun hb5 => ?_)
                refine fm_nh (agr_sI a_h rfl) (fun h_23 a_h_23 => ?_)
                exact w_f_X7_value_185_i12_40 (fun y0 y1 y2 a => ih y0 y1 y2 a) _ _ _ a_h_23
            · refine fm_ite ?_ ?_
              · exact w_f_X7_value_185_i12_40 (fun y0 y1 y2 a => ih y0 y1 y2 a) _ _ _ a_h
              · refine fm_nm (fun x2_10 => ?_)
                refine fm_og (fun hb6 => ?_)
                refine fm_og (fun hb7 => ?_)
                refine fm_ob (w_f_X7_reckon _ _ _ _) rfl a_h (fun r_16 h_15 a_h_15 => ?_)
                refine fm_og (fun hb8 => ?_)
                refine fm_nh (agr_sI a_h_15 rfl) (fun h_18 a_h_18 => ?_)
                exact w_f_X7_value_185_i12_40 (fun y0 y1 y2 a => ih y0 y1 y2 a) _ _ _ a_h_18
      · refine fm_ite ?_ ?_
        · exact w_f_X7_value_185_i12_40 (fun y0 y1 y2 a => ih y0 y1 y2 a) _ _ _ a_h
        · refine fm_ite ?_ ?_
          · refine fm_og (fun hb9 => ?_)
            exact w_f_X7_value_57_i12_40 (fun y0 y1 y2 a => ih y0 y1 y2 a) _ _ _ _ _ a_h
          · exact w_f_X7_value_57_i12_40 (fun y0 y1 y2 a => ih y0 y1 y2 a) _ _ _ _ _ a_h
theorem w_f_X7_value_i12_40 (h : AH) : Fm Prod.snd W_X7_value_i12_40 h (f_X7_value 12 40 h) := by
  unfold f_X7_value
  have a_h : Agr W_X7_value_i12_40 h h := agr_refl h
  exact w_f_X7_value_4_i12_40  FU _ _ _ a_h
def W_X7_keep_i12_9 : List (Nat × Nat) := (12, 2) :: (13, 1000) :: []
theorem w_f_X7_keep_i12_9 (h : AH) : Fm id W_X7_keep_i12_9 h (f_X7_keep 12 9 h) := by
  unfold f_X7_keep
  have a_h : Agr W_X7_keep_i12_9 h h := agr_refl h
  refine fm_nh (agr_sI a_h rfl) (fun h_1 a_h_1 => ?_)
  refine fm_og (fun hb1 => ?_)
  refine fm_nh (agr_sA a_h_1 (fun _ => rfl)) (fun h_4 a_h_4 => ?_)
  exact fm_some a_h_4
def W_X7_value_i15_40 : List (Nat × Nat) := (17, 1000) :: []
theorem w_f_X7_value_85_i15_40 {h0 : AH} : ∀ (s0 : Int32) (h : AH), Agr W_X7_value_i15_40 h0 h → Fm Prod.snd W_X7_value_i15_40 h0 (f_X7_value_85 s0 h) := by
  intro s0 h a_h
  unfold f_X7_value_85
  exact fm_some a_h
theorem w_f_X7_value_185_i15_40 {h0 : AH} {q4 : Nat → Nat → Int32 → Int32 → AH → Option (Int32 × AH)} (hq4 : ∀ (y2 : Int32) (y3 : Int32) (y4 : AH), Agr W_X7_value_i15_40 h0 y4 → Fm Prod.snd W_X7_value_i15_40 h0 (q4 15 40 y2 y3 y4)) : ∀ (x2 : Int32) (x3 : Int32) (h : AH), Agr W_X7_value_i15_40 h0 h → Fm Prod.snd W_X7_value_i15_40 h0 (f_X7_value_185 q4 15 40 x2 x3 h) := by
  intro x2 x3 h a_h
  unfold f_X7_value_185
  refine fm_nm (fun x3_1 => ?_)
  exact hq4 _ _ _ a_h
theorem w_f_X7_value_112_i15_40 {h0 : AH} {q4 : Nat → Nat → Int32 → Int32 → AH → Option (Int32 × AH)} (hq4 : ∀ (y2 : Int32) (y3 : Int32) (y4 : AH), Agr W_X7_value_i15_40 h0 y4 → Fm Prod.snd W_X7_value_i15_40 h0 (q4 15 40 y2 y3 y4)) : ∀ (x3 : Int32) (h : AH), Agr W_X7_value_i15_40 h0 h → Fm Prod.snd W_X7_value_i15_40 h0 (f_X7_value_112 q4 15 40 x3 h) := by
  intro x3 h a_h
  unfold f_X7_value_112
  exact w_f_X7_value_185_i15_40 hq4 _ _ _ a_h
def W_X7_endOfClause_i15 : List (Nat × Nat) := []
theorem w_f_X7_endOfClause_27_i15 {h0 : AH} : ∀ (x2 : Int32) (h : AH), Agr W_X7_endOfClause_i15 h0 h → Fm Prod.snd W_X7_endOfClause_i15 h0 (f_X7_endOfClause_27 x2 h) := by
  intro x2 h a_h
  unfold f_X7_endOfClause_27
  exact fm_some a_h
theorem w_f_X7_endOfClause_2_i15 {h0 : AH} : ∀ (n : Nat) (x2 : Int32) (h : AH), Agr W_X7_endOfClause_i15 h0 h → Fm Prod.snd W_X7_endOfClause_i15 h0 (f_X7_endOfClause_2 n 15 x2 h) := by
  intro n
  induction n with
  | zero => intro x2 h _; exact fm_none
  | succ n ih =>
    intro x2 h a_h
    rw [f_X7_endOfClause_2]
    refine fm_ite ?_ ?_
    · exact w_f_X7_endOfClause_27_i15  _ _ a_h
    · refine fm_og (fun hb1 => ?_)
      refine fm_ite ?_ ?_
      · exact w_f_X7_endOfClause_27_i15  _ _ a_h
      · refine fm_nm (fun x2_4 => ?_)
        exact ih _ _ a_h
theorem w_f_X7_endOfClause_i15 (x1 : Int32) (h : AH) : Fm Prod.snd W_X7_endOfClause_i15 h (f_X7_endOfClause 15 x1 h) := by
  unfold f_X7_endOfClause
  have a_h : Agr W_X7_endOfClause_i15 h h := agr_refl h
  exact w_f_X7_endOfClause_2_i15  FU _ _ a_h
theorem w_f_X7_value_57_i15_40 {h0 : AH} {q4 : Nat → Nat → Int32 → Int32 → AH → Option (Int32 × AH)} (hq4 : ∀ (y2 : Int32) (y3 : Int32) (y4 : AH), Agr W_X7_value_i15_40 h0 y4 → Fm Prod.snd W_X7_value_i15_40 h0 (q4 15 40 y2 y3 y4)) : ∀ (x2 : Int32) (x3 : Int32) (s0 : Int32) (s1 : Int32) (h : AH), Agr W_X7_value_i15_40 h0 h → Fm Prod.snd W_X7_value_i15_40 h0 (f_X7_value_57 q4 15 40 x2 x3 s0 s1 17 h) := by
  intro x2 x3 s0 s1 h a_h
  unfold f_X7_value_57
  refine fm_og (fun hb1 => ?_)
  refine fm_nh (agr_sI a_h rfl) (fun h_2 a_h_2 => ?_)
  refine fm_nm (fun x2_4 => ?_)
  exact w_f_X7_value_185_i15_40 hq4 _ _ _ a_h_2
theorem w_f_X7_value_4_i15_40 {h0 : AH} : ∀ (n : Nat) (x2 : Int32) (x3 : Int32) (h : AH), Agr W_X7_value_i15_40 h0 h → Fm Prod.snd W_X7_value_i15_40 h0 (f_X7_value_4 n 15 40 x2 x3 h) := by
  intro n
  induction n with
  | zero => intro x2 x3 h _; exact fm_none
  | succ n ih =>
    intro x2 x3 h a_h
    rw [f_X7_value_4]
    refine fm_ite ?_ ?_
    · exact fm_some a_h
    · refine fm_og (fun hb1 => ?_)
      refine fm_nm (fun x4_3 => ?_)
      refine fm_ite ?_ ?_
      · refine fm_ite ?_ ?_
        · refine fm_ite ?_ ?_
          · exact w_f_X7_value_85_i15_40  _ _ a_h
          · refine fm_og (fun hb2 => ?_)
            exact w_f_X7_value_85_i15_40  _ _ a_h
        · refine fm_ite ?_ ?_
          · refine fm_ite ?_ ?_
            · exact w_f_X7_value_112_i15_40 (fun y0 y1 y2 a => ih y0 y1 y2 a) _ _ a_h
            · refine fm_og (fun hb3 => ?_)
              refine fm_ite ?_ ?_
              · refine fm_ob (w_f_X7_endOfClause_i15 _ _) rfl a_h (fun r_30 h_29 a_h_29 => ?_)
                exact w_f_X7_value_112_i15_40 (fun y0 y1 y2 a => ih y0 y1 y2 a) _ _ a_h_29
              · exact w_f_X7_value_112_i15_40 (fun y0 y1 y2 a => ih y0 y1 y2 a) _ _ a_h
          · refine fm_ite ?_ ?_
            · refine fm_ite ?_ ?_
              · exact w_f_X7_value_185_i15_40 (fun y0 y1 y2 a => ih y0 y1 y2 a) _ _ _ a_h
              · refine fm_og (fun hb4 => ?_)
                refine fm_og (fun hb5 => ?_)
                refine fm_nh (agr_sI a_h rfl) (fun h_23 a_h_23 => ?_)
                exact w_f_X7_value_185_i15_40 (fun y0 y1 y2 a => ih y0 y1 y2 a) _ _ _ a_h_23
            · refine fm_ite ?_ ?_
              · exact w_f_X7_value_185_i15_40 (fun y0 y1 y2 a => ih y0 y1 y2 a) _ _ _ a_h
              · refine fm_nm (fun x2_10 => ?_)
                refine fm_og (fun hb6 => ?_)
                refine fm_og (fun hb7 => ?_)
                refine fm_ob (w_f_X7_reckon _ _ _ _) rfl a_h (fun r_16 h_15 a_h_15 => ?_)
                refine fm_og (fun hb8 => ?_)
                refine fm_nh (agr_sI a_h_15 rfl) (fun h_18 a_h_18 => ?_)
                exact w_f_X7_value_185_i15_40 (fun y0 y1 y2 a => ih y0 y1 y2 a) _ _ _ a_h_18
      · refine fm_ite ?_ ?_
        · exact w_f_X7_value_185_i15_40 (fun y0 y1 y2 a => ih y0 y1 y2 a) _ _ _ a_h
        · refine fm_ite ?_ ?_
          · refine fm_og (fun hb9 => ?_)
            exact w_f_X7_value_57_i15_40 (fun y0 y1 y2 a => ih y0 y1 y2 a) _ _ _ _ _ a_h
          · exact w_f_X7_value_57_i15_40 (fun y0 y1 y2 a => ih y0 y1 y2 a) _ _ _ _ _ a_h
theorem w_f_X7_value_i15_40 (h : AH) : Fm Prod.snd W_X7_value_i15_40 h (f_X7_value 15 40 h) := by
  unfold f_X7_value
  have a_h : Agr W_X7_value_i15_40 h h := agr_refl h
  exact w_f_X7_value_4_i15_40  FU _ _ _ a_h
def W_X7_keep_i15_9 : List (Nat × Nat) := (15, 2) :: (16, 1000) :: []
theorem w_f_X7_keep_i15_9 (h : AH) : Fm id W_X7_keep_i15_9 h (f_X7_keep 15 9 h) := by
  unfold f_X7_keep
  have a_h : Agr W_X7_keep_i15_9 h h := agr_refl h
  refine fm_nh (agr_sI a_h rfl) (fun h_1 a_h_1 => ?_)
  refine fm_og (fun hb1 => ?_)
  refine fm_nh (agr_sA a_h_1 (fun _ => rfl)) (fun h_4 a_h_4 => ?_)
  exact fm_some a_h_4
def W_X7_value_i18_40 : List (Nat × Nat) := (20, 1000) :: []
theorem w_f_X7_value_85_i18_40 {h0 : AH} : ∀ (s0 : Int32) (h : AH), Agr W_X7_value_i18_40 h0 h → Fm Prod.snd W_X7_value_i18_40 h0 (f_X7_value_85 s0 h) := by
  intro s0 h a_h
  unfold f_X7_value_85
  exact fm_some a_h
theorem w_f_X7_value_185_i18_40 {h0 : AH} {q4 : Nat → Nat → Int32 → Int32 → AH → Option (Int32 × AH)} (hq4 : ∀ (y2 : Int32) (y3 : Int32) (y4 : AH), Agr W_X7_value_i18_40 h0 y4 → Fm Prod.snd W_X7_value_i18_40 h0 (q4 18 40 y2 y3 y4)) : ∀ (x2 : Int32) (x3 : Int32) (h : AH), Agr W_X7_value_i18_40 h0 h → Fm Prod.snd W_X7_value_i18_40 h0 (f_X7_value_185 q4 18 40 x2 x3 h) := by
  intro x2 x3 h a_h
  unfold f_X7_value_185
  refine fm_nm (fun x3_1 => ?_)
  exact hq4 _ _ _ a_h
theorem w_f_X7_value_112_i18_40 {h0 : AH} {q4 : Nat → Nat → Int32 → Int32 → AH → Option (Int32 × AH)} (hq4 : ∀ (y2 : Int32) (y3 : Int32) (y4 : AH), Agr W_X7_value_i18_40 h0 y4 → Fm Prod.snd W_X7_value_i18_40 h0 (q4 18 40 y2 y3 y4)) : ∀ (x3 : Int32) (h : AH), Agr W_X7_value_i18_40 h0 h → Fm Prod.snd W_X7_value_i18_40 h0 (f_X7_value_112 q4 18 40 x3 h) := by
  intro x3 h a_h
  unfold f_X7_value_112
  exact w_f_X7_value_185_i18_40 hq4 _ _ _ a_h
def W_X7_endOfClause_i18 : List (Nat × Nat) := []
theorem w_f_X7_endOfClause_27_i18 {h0 : AH} : ∀ (x2 : Int32) (h : AH), Agr W_X7_endOfClause_i18 h0 h → Fm Prod.snd W_X7_endOfClause_i18 h0 (f_X7_endOfClause_27 x2 h) := by
  intro x2 h a_h
  unfold f_X7_endOfClause_27
  exact fm_some a_h
theorem w_f_X7_endOfClause_2_i18 {h0 : AH} : ∀ (n : Nat) (x2 : Int32) (h : AH), Agr W_X7_endOfClause_i18 h0 h → Fm Prod.snd W_X7_endOfClause_i18 h0 (f_X7_endOfClause_2 n 18 x2 h) := by
  intro n
  induction n with
  | zero => intro x2 h _; exact fm_none
  | succ n ih =>
    intro x2 h a_h
    rw [f_X7_endOfClause_2]
    refine fm_ite ?_ ?_
    · exact w_f_X7_endOfClause_27_i18  _ _ a_h
    · refine fm_og (fun hb1 => ?_)
      refine fm_ite ?_ ?_
      · exact w_f_X7_endOfClause_27_i18  _ _ a_h
      · refine fm_nm (fun x2_4 => ?_)
        exact ih _ _ a_h
theorem w_f_X7_endOfClause_i18 (x1 : Int32) (h : AH) : Fm Prod.snd W_X7_endOfClause_i18 h (f_X7_endOfClause 18 x1 h) := by
  unfold f_X7_endOfClause
  have a_h : Agr W_X7_endOfClause_i18 h h := agr_refl h
  exact w_f_X7_endOfClause_2_i18  FU _ _ a_h
theorem w_f_X7_value_57_i18_40 {h0 : AH} {q4 : Nat → Nat → Int32 → Int32 → AH → Option (Int32 × AH)} (hq4 : ∀ (y2 : Int32) (y3 : Int32) (y4 : AH), Agr W_X7_value_i18_40 h0 y4 → Fm Prod.snd W_X7_value_i18_40 h0 (q4 18 40 y2 y3 y4)) : ∀ (x2 : Int32) (x3 : Int32) (s0 : Int32) (s1 : Int32) (h : AH), Agr W_X7_value_i18_40 h0 h → Fm Prod.snd W_X7_value_i18_40 h0 (f_X7_value_57 q4 18 40 x2 x3 s0 s1 20 h) := by
  intro x2 x3 s0 s1 h a_h
  unfold f_X7_value_57
  refine fm_og (fun hb1 => ?_)
  refine fm_nh (agr_sI a_h rfl) (fun h_2 a_h_2 => ?_)
  refine fm_nm (fun x2_4 => ?_)
  exact w_f_X7_value_185_i18_40 hq4 _ _ _ a_h_2
theorem w_f_X7_value_4_i18_40 {h0 : AH} : ∀ (n : Nat) (x2 : Int32) (x3 : Int32) (h : AH), Agr W_X7_value_i18_40 h0 h → Fm Prod.snd W_X7_value_i18_40 h0 (f_X7_value_4 n 18 40 x2 x3 h) := by
  intro n
  induction n with
  | zero => intro x2 x3 h _; exact fm_none
  | succ n ih =>
    intro x2 x3 h a_h
    rw [f_X7_value_4]
    refine fm_ite ?_ ?_
    · exact fm_some a_h
    · refine fm_og (fun hb1 => ?_)
      refine fm_nm (fun x4_3 => ?_)
      refine fm_ite ?_ ?_
      · refine fm_ite ?_ ?_
        · refine fm_ite ?_ ?_
          · exact w_f_X7_value_85_i18_40  _ _ a_h
          · refine fm_og (fun hb2 => ?_)
            exact w_f_X7_value_85_i18_40  _ _ a_h
        · refine fm_ite ?_ ?_
          · refine fm_ite ?_ ?_
            · exact w_f_X7_value_112_i18_40 (fun y0 y1 y2 a => ih y0 y1 y2 a) _ _ a_h
            · refine fm_og (fun hb3 => ?_)
              refine fm_ite ?_ ?_
              · refine fm_ob (w_f_X7_endOfClause_i18 _ _) rfl a_h (fun r_30 h_29 a_h_29 => ?_)
                exact w_f_X7_value_112_i18_40 (fun y0 y1 y2 a => ih y0 y1 y2 a) _ _ a_h_29
              · exact w_f_X7_value_112_i18_40 (fun y0 y1 y2 a => ih y0 y1 y2 a) _ _ a_h
          · refine fm_ite ?_ ?_
            · refine fm_ite ?_ ?_
              · exact w_f_X7_value_185_i18_40 (fun y0 y1 y2 a => ih y0 y1 y2 a) _ _ _ a_h
              · refine fm_og (fun hb4 => ?_)
                refine fm_og (fun hb5 => ?_)
                refine fm_nh (agr_sI a_h rfl) (fun h_23 a_h_23 => ?_)
                exact w_f_X7_value_185_i18_40 (fun y0 y1 y2 a => ih y0 y1 y2 a) _ _ _ a_h_23
            · refine fm_ite ?_ ?_
              · exact w_f_X7_value_185_i18_40 (fun y0 y1 y2 a => ih y0 y1 y2 a) _ _ _ a_h
              · refine fm_nm (fun x2_10 => ?_)
                refine fm_og (fun hb6 => ?_)
                refine fm_og (fun hb7 => ?_)
                refine fm_ob (w_f_X7_reckon _ _ _ _) rfl a_h (fun r_16 h_15 a_h_15 => ?_)
                refine fm_og (fun hb8 => ?_)
                refine fm_nh (agr_sI a_h_15 rfl) (fun h_18 a_h_18 => ?_)
                exact w_f_X7_value_185_i18_40 (fun y0 y1 y2 a => ih y0 y1 y2 a) _ _ _ a_h_18
      · refine fm_ite ?_ ?_
        · exact w_f_X7_value_185_i18_40 (fun y0 y1 y2 a => ih y0 y1 y2 a) _ _ _ a_h
        · refine fm_ite ?_ ?_
          · refine fm_og (fun hb9 => ?_)
            exact w_f_X7_value_57_i18_40 (fun y0 y1 y2 a => ih y0 y1 y2 a) _ _ _ _ _ a_h
          · exact w_f_X7_value_57_i18_40 (fun y0 y1 y2 a => ih y0 y1 y2 a) _ _ _ _ _ a_h
theorem w_f_X7_value_i18_40 (h : AH) : Fm Prod.snd W_X7_value_i18_40 h (f_X7_value 18 40 h) := by
  unfold f_X7_value
  have a_h : Agr W_X7_value_i18_40 h h := agr_refl h
  exact w_f_X7_value_4_i18_40  FU _ _ _ a_h
def W_X7_keep_i18_9 : List (Nat × Nat) := (18, 2) :: (19, 1000) :: []
theorem w_f_X7_keep_i18_9 (h : AH) : Fm id W_X7_keep_i18_9 h (f_X7_keep 18 9 h) := by
  unfold f_X7_keep
  have a_h : Agr W_X7_keep_i18_9 h h := agr_refl h
  refine fm_nh (agr_sI a_h rfl) (fun h_1 a_h_1 => ?_)
  refine fm_og (fun hb1 => ?_)
  refine fm_nh (agr_sA a_h_1 (fun _ => rfl)) (fun h_4 a_h_4 => ?_)
  exact fm_some a_h_4
def W_X7_value_i21_40 : List (Nat × Nat) := (23, 1000) :: []
theorem w_f_X7_value_85_i21_40 {h0 : AH} : ∀ (s0 : Int32) (h : AH), Agr W_X7_value_i21_40 h0 h → Fm Prod.snd W_X7_value_i21_40 h0 (f_X7_value_85 s0 h) := by
  intro s0 h a_h
  unfold f_X7_value_85
  exact fm_some a_h
theorem w_f_X7_value_185_i21_40 {h0 : AH} {q4 : Nat → Nat → Int32 → Int32 → AH → Option (Int32 × AH)} (hq4 : ∀ (y2 : Int32) (y3 : Int32) (y4 : AH), Agr W_X7_value_i21_40 h0 y4 → Fm Prod.snd W_X7_value_i21_40 h0 (q4 21 40 y2 y3 y4)) : ∀ (x2 : Int32) (x3 : Int32) (h : AH), Agr W_X7_value_i21_40 h0 h → Fm Prod.snd W_X7_value_i21_40 h0 (f_X7_value_185 q4 21 40 x2 x3 h) := by
  intro x2 x3 h a_h
  unfold f_X7_value_185
  refine fm_nm (fun x3_1 => ?_)
  exact hq4 _ _ _ a_h
theorem w_f_X7_value_112_i21_40 {h0 : AH} {q4 : Nat → Nat → Int32 → Int32 → AH → Option (Int32 × AH)} (hq4 : ∀ (y2 : Int32) (y3 : Int32) (y4 : AH), Agr W_X7_value_i21_40 h0 y4 → Fm Prod.snd W_X7_value_i21_40 h0 (q4 21 40 y2 y3 y4)) : ∀ (x3 : Int32) (h : AH), Agr W_X7_value_i21_40 h0 h → Fm Prod.snd W_X7_value_i21_40 h0 (f_X7_value_112 q4 21 40 x3 h) := by
  intro x3 h a_h
  unfold f_X7_value_112
  exact w_f_X7_value_185_i21_40 hq4 _ _ _ a_h
def W_X7_endOfClause_i21 : List (Nat × Nat) := []
theorem w_f_X7_endOfClause_27_i21 {h0 : AH} : ∀ (x2 : Int32) (h : AH), Agr W_X7_endOfClause_i21 h0 h → Fm Prod.snd W_X7_endOfClause_i21 h0 (f_X7_endOfClause_27 x2 h) := by
  intro x2 h a_h
  unfold f_X7_endOfClause_27
  exact fm_some a_h
theorem w_f_X7_endOfClause_2_i21 {h0 : AH} : ∀ (n : Nat) (x2 : Int32) (h : AH), Agr W_X7_endOfClause_i21 h0 h → Fm Prod.snd W_X7_endOfClause_i21 h0 (f_X7_endOfClause_2 n 21 x2 h) := by
  intro n
  induction n with
  | zero => intro x2 h _; exact fm_none
  | succ n ih =>
    intro x2 h a_h
    rw [f_X7_endOfClause_2]
    refine fm_ite ?_ ?_
    · exact w_f_X7_endOfClause_27_i21  _ _ a_h
    · refine fm_og (fun hb1 => ?_)
      refine fm_ite ?_ ?_
      · exact w_f_X7_endOfClause_27_i21  _ _ a_h
      · refine fm_nm (fun x2_4 => ?_)
        exact ih _ _ a_h
theorem w_f_X7_endOfClause_i21 (x1 : Int32) (h : AH) : Fm Prod.snd W_X7_endOfClause_i21 h (f_X7_endOfClause 21 x1 h) := by
  unfold f_X7_endOfClause
  have a_h : Agr W_X7_endOfClause_i21 h h := agr_refl h
  exact w_f_X7_endOfClause_2_i21  FU _ _ a_h
theorem w_f_X7_value_57_i21_40 {h0 : AH} {q4 : Nat → Nat → Int32 → Int32 → AH → Option (Int32 × AH)} (hq4 : ∀ (y2 : Int32) (y3 : Int32) (y4 : AH), Agr W_X7_value_i21_40 h0 y4 → Fm Prod.snd W_X7_value_i21_40 h0 (q4 21 40 y2 y3 y4)) : ∀ (x2 : Int32) (x3 : Int32) (s0 : Int32) (s1 : Int32) (h : AH), Agr W_X7_value_i21_40 h0 h → Fm Prod.snd W_X7_value_i21_40 h0 (f_X7_value_57 q4 21 40 x2 x3 s0 s1 23 h) := by
  intro x2 x3 s0 s1 h a_h
  unfold f_X7_value_57
  refine fm_og (fun hb1 => ?_)
  refine fm_nh (agr_sI a_h rfl) (fun h_2 a_h_2 => ?_)
  refine fm_nm (fun x2_4 => ?_)
  exact w_f_X7_value_185_i21_40 hq4 _ _ _ a_h_2
theorem w_f_X7_value_4_i21_40 {h0 : AH} : ∀ (n : Nat) (x2 : Int32) (x3 : Int32) (h : AH), Agr W_X7_value_i21_40 h0 h → Fm Prod.snd W_X7_value_i21_40 h0 (f_X7_value_4 n 21 40 x2 x3 h) := by
  intro n
  induction n with
  | zero => intro x2 x3 h _; exact fm_none
  | succ n ih =>
    intro x2 x3 h a_h
    rw [f_X7_value_4]
    refine fm_ite ?_ ?_
    · exact fm_some a_h
    · refine fm_og (fun hb1 => ?_)
      refine fm_nm (fun x4_3 => ?_)
      refine fm_ite ?_ ?_
      · refine fm_ite ?_ ?_
        · refine fm_ite ?_ ?_
          · exact w_f_X7_value_85_i21_40  _ _ a_h
          · refine fm_og (fun hb2 => ?_)
            exact w_f_X7_value_85_i21_40  _ _ a_h
        · refine fm_ite ?_ ?_
          · refine fm_ite ?_ ?_
            · exact w_f_X7_value_112_i21_40 (fun y0 y1 y2 a => ih y0 y1 y2 a) _ _ a_h
            · refine fm_og (fun hb3 => ?_)
              refine fm_ite ?_ ?_
              · refine fm_ob (w_f_X7_endOfClause_i21 _ _) rfl a_h (fun r_30 h_29 a_h_29 => ?_)
                exact w_f_X7_value_112_i21_40 (fun y0 y1 y2 a => ih y0 y1 y2 a) _ _ a_h_29
              · exact w_f_X7_value_112_i21_40 (fun y0 y1 y2 a => ih y0 y1 y2 a) _ _ a_h
          · refine fm_ite ?_ ?_
            · refine fm_ite ?_ ?_
              · exact w_f_X7_value_185_i21_40 (fun y0 y1 y2 a => ih y0 y1 y2 a) _ _ _ a_h
              · refine fm_og (fun hb4 => ?_)
                refine fm_og (fun hb5 => ?_)
                refine fm_nh (agr_sI a_h rfl) (fun h_23 a_h_23 => ?_)
                exact w_f_X7_value_185_i21_40 (fun y0 y1 y2 a => ih y0 y1 y2 a) _ _ _ a_h_23
            · refine fm_ite ?_ ?_
              · exact w_f_X7_value_185_i21_40 (fun y0 y1 y2 a => ih y0 y1 y2 a) _ _ _ a_h
              · refine fm_nm (fun x2_10 => ?_)
                refine fm_og (fun hb6 => ?_)
                refine fm_og (fun hb7 => ?_)
                refine fm_ob (w_f_X7_reckon _ _ _ _) rfl a_h (fun r_16 h_15 a_h_15 => ?_)
                refine fm_og (fun hb8 => ?_)
                refine fm_nh (agr_sI a_h_15 rfl) (fun h_18 a_h_18 => ?_)
                exact w_f_X7_value_185_i21_40 (fun y0 y1 y2 a => ih y0 y1 y2 a) _ _ _ a_h_18
      · refine fm_ite ?_ ?_
        · exact w_f_X7_value_185_i21_40 (fun y0 y1 y2 a => ih y0 y1 y2 a) _ _ _ a_h
        · refine fm_ite ?_ ?_
          · refine fm_og (fun hb9 => ?_)
            exact w_f_X7_value_57_i21_40 (fun y0 y1 y2 a => ih y0 y1 y2 a) _ _ _ _ _ a_h
          · exact w_f_X7_value_57_i21_40 (fun y0 y1 y2 a => ih y0 y1 y2 a) _ _ _ _ _ a_h
theorem w_f_X7_value_i21_40 (h : AH) : Fm Prod.snd W_X7_value_i21_40 h (f_X7_value 21 40 h) := by
  unfold f_X7_value
  have a_h : Agr W_X7_value_i21_40 h h := agr_refl h
  exact w_f_X7_value_4_i21_40  FU _ _ _ a_h
def W_X7_keep_i21_9 : List (Nat × Nat) := (21, 2) :: (22, 1000) :: []
theorem w_f_X7_keep_i21_9 (h : AH) : Fm id W_X7_keep_i21_9 h (f_X7_keep 21 9 h) := by
  unfold f_X7_keep
  have a_h : Agr W_X7_keep_i21_9 h h := agr_refl h
  refine fm_nh (agr_sI a_h rfl) (fun h_1 a_h_1 => ?_)
  refine fm_og (fun hb1 => ?_)
  refine fm_nh (agr_sA a_h_1 (fun _ => rfl)) (fun h_4 a_h_4 => ?_)
  exact fm_some a_h_4
def W_X7_value : List (Nat × Nat) := (14, 1000) :: (17, 1000) :: (20, 1000) :: (23, 1000) :: []
theorem w_f_X7_value {j : Int32} {h : AH} (hb : ix j (an 11) = true) : Fm Prod.snd W_X7_value h (f_X7_value (rf 11 j.toNatClampNeg) 40 h) := by
  have q := ix_lt hb
  have q4 : j.toNatClampNeg < 4 := q
  generalize j.toNatClampNeg = i at q4 ⊢
  match i, q4 with
  | 0, _ => exact fm_tl (w_f_X7_value_i12_40 h) rfl (agr_refl h)
  | 1, _ => exact fm_tl (w_f_X7_value_i15_40 h) rfl (agr_refl h)
  | 2, _ => exact fm_tl (w_f_X7_value_i18_40 h) rfl (agr_refl h)
  | 3, _ => exact fm_tl (w_f_X7_value_i21_40 h) rfl (agr_refl h)
def W_X7_keep : List (Nat × Nat) := (12, 2) :: (13, 1000) :: (15, 2) :: (16, 1000) :: (18, 2) :: (19, 1000) :: (21, 2) :: (22, 1000) :: []
theorem w_f_X7_keep {j : Int32} {h : AH} (hb : ix j (an 11) = true) : Fm id W_X7_keep h (f_X7_keep (rf 11 j.toNatClampNeg) 9 h) := by
  have q := ix_lt hb
  have q4 : j.toNatClampNeg < 4 := q
  generalize j.toNatClampNeg = i at q4 ⊢
  match i, q4 with
  | 0, _ => exact fm_tl (w_f_X7_keep_i12_9 h) rfl (agr_refl h)
  | 1, _ => exact fm_tl (w_f_X7_keep_i15_9 h) rfl (agr_refl h)
  | 2, _ => exact fm_tl (w_f_X7_keep_i18_9 h) rfl (agr_refl h)
  | 3, _ => exact fm_tl (w_f_X7_keep_i21_9 h) rfl (agr_refl h)
def W_X6_item_i3 : List (Nat × Nat) := []
theorem w_f_X6_item_i3 (x1 : Int32) (x2 : Int32) (h : AH) : Fm Prod.snd W_X6_item_i3 h (f_X6_item 3 x1 x2 h) := by
  unfold f_X6_item
  have a_h : Agr W_X6_item_i3 h h := agr_refl h
  refine fm_og (fun hb1 => ?_)
  exact fm_some a_h
def W_X6_canWear_i3 : List (Nat × Nat) := []
theorem w_f_X6_canWear_28_i3 {h0 : AH} : ∀ (s0 : Int32) (h : AH), Agr W_X6_canWear_i3 h0 h → Fm Prod.snd W_X6_canWear_i3 h0 (f_X6_canWear_28 s0 h) := by
  intro s0 h a_h
  unfold f_X6_canWear_28
  refine fm_og (fun hb1 => ?_)
  exact fm_some a_h
theorem w_f_X6_canWear_27_i3 {h0 : AH} : ∀ (h : AH), Agr W_X6_canWear_i3 h0 h → Fm Prod.snd W_X6_canWear_i3 h0 (f_X6_canWear_27 h) := by
  intro h a_h
  unfold f_X6_canWear_27
  exact w_f_X6_canWear_28_i3  _ _ a_h
theorem w_f_X6_canWear_i3 (x1 : Int32) (x2 : Int32) (h : AH) : Fm Prod.snd W_X6_canWear_i3 h (f_X6_canWear 3 x1 x2 h) := by
  unfold f_X6_canWear
  have a_h : Agr W_X6_canWear_i3 h h := agr_refl h
  refine fm_ob (w_f_X6_item_i3 _ _ _) rfl a_h (fun r_3 h_2 a_h_2 => ?_)
  refine fm_nm (fun x3_4 => ?_)
  refine fm_ite ?_ ?_
  · exact w_f_X6_canWear_27_i3  _ a_h_2
  · refine fm_ob (w_f_X6_item_i3 _ _ _) rfl a_h_2 (fun r_9 h_8 a_h_8 => ?_)
    refine fm_ite ?_ ?_
    · exact w_f_X6_canWear_27_i3  _ a_h_8
    · exact w_f_X6_canWear_28_i3  _ _ a_h_8
def W_X2_desire_i35 : List (Nat × Nat) := (14, 1000) :: (17, 1000) :: (20, 1000) :: (23, 1000) :: (38, 1000) :: (40, 1000) :: []
theorem w_f_X2_desire_183_i35 {h0 : AH} : ∀ (x4 : Int32) (x6 : Int32) (h : AH), Agr W_X2_desire_i35 h0 h → Fm Prod.snd W_X2_desire_i35 h0 (f_X2_desire_183 35 x4 x6 h) := by
  intro x4 x6 h a_h
  unfold f_X2_desire_183
  refine fm_og (fun hb1 => ?_)
  refine fm_nh (agr_sI a_h rfl) (fun h_2 a_h_2 => ?_)
  exact fm_some a_h_2
theorem w_f_X2_desire_79_i35 {h0 : AH} : ∀ (x4 : Int32) (s0 : Int32) (h : AH), Agr W_X2_desire_i35 h0 h → Fm Prod.snd W_X2_desire_i35 h0 (f_X2_desire_79 35 x4 s0 h) := by
  intro x4 s0 h a_h
  unfold f_X2_desire_79
  exact w_f_X2_desire_183_i35  _ _ _ a_h
theorem w_f_X2_desire_148_i35 {h0 : AH} : ∀ (x2 : Int32) (x3 : Int32) (x4 : Int32) (x5 : Int32) (s0 : Int32) (s1 : Int32) (h : AH), Agr W_X2_desire_i35 h0 h → Fm Prod.snd W_X2_desire_i35 h0 (f_X2_desire_148 35 x2 x3 x4 x5 s0 s1 40 h) := by
  intro x2 x3 x4 x5 s0 s1 h a_h
  unfold f_X2_desire_148
  refine fm_og (fun hb1 => ?_)
  refine fm_nh (agr_sI a_h rfl) (fun h_2 a_h_2 => ?_)
  refine fm_og (fun hb2 => ?_)
  refine fm_nh (agr_sI a_h_2 rfl) (fun h_5 a_h_5 => ?_)
  refine fm_og (fun hb3 => ?_)
  refine fm_nh (agr_sI a_h_5 rfl) (fun h_8 a_h_8 => ?_)
  refine fm_og (fun hb4 => ?_)
  refine fm_ob (w_f_X7_value hb4) rfl a_h_8 (fun r_13 h_12 a_h_12 => ?_)
  refine fm_nm (fun x6_14 => ?_)
  exact w_f_X2_desire_183_i35  _ _ _ a_h_12
theorem w_f_X2_desire_i35 (x1 : Int32) (x2 : Int32) (x3 : Int32) (h : AH) : Fm Prod.snd W_X2_desire_i35 h (f_X2_desire 35 x1 x2 x3 h) := by
  unfold f_X2_desire
  have a_h : Agr W_X2_desire_i35 h h := agr_refl h
  refine fm_nm (fun x4_1 => ?_)
  refine fm_og (fun hb1 => ?_)
  refine fm_ite ?_ ?_
  · refine fm_og (fun hb2 => ?_)
    refine fm_nm (fun x5_6 => ?_)
    refine fm_ite ?_ ?_
    · refine fm_og (fun hb3 => ?_)
      refine fm_ob (w_f_X6_canWear_i3 _ _ _) rfl a_h (fun r_30 h_29 a_h_29 => ?_)
      refine fm_ite ?_ ?_
      · exact w_f_X2_desire_79_i35  _ _ _ a_h_29
      · refine fm_og (fun hb4 => ?_)
        exact w_f_X2_desire_79_i35  _ _ _ a_h_29
    · refine fm_og (fun hb5 => ?_)
      refine fm_og (fun hb6 => ?_)
      refine fm_nh (agr_sI a_h rfl) (fun h_11 a_h_11 => ?_)
      refine fm_og (fun hb7 => ?_)
      refine fm_ob (w_f_X6_item_i3 _ _ _) rfl a_h_11 (fun r_16 h_15 a_h_15 => ?_)
      refine fm_og (fun hb8 => ?_)
      refine fm_nh (agr_sI a_h_15 rfl) (fun h_18 a_h_18 => ?_)
      refine fm_ob (w_f_X6_item_i3 _ _ _) rfl a_h_18 (fun r_22 h_21 a_h_21 => ?_)
      refine fm_og (fun hb9 => ?_)
      refine fm_nh (agr_sI a_h_21 rfl) (fun h_24 a_h_24 => ?_)
      refine fm_ite ?_ ?_
      · exact w_f_X2_desire_148_i35  _ _ _ _ _ _ _ a_h_24
      · exact w_f_X2_desire_148_i35  _ _ _ _ _ _ _ a_h_24
  · refine fm_og (fun hb10 => ?_)
    exact fm_some a_h
def W_X11_takeRule : List (Nat × Nat) := (0, 5) :: (1, 1) :: (12, 2) :: (13, 1000) :: (15, 2) :: (16, 1000) :: (18, 2) :: (19, 1000) :: (21, 2) :: (22, 1000) :: []
theorem w_f_X11_takeRule (h : AH) : Fm Prod.snd W_X11_takeRule h (f_X11_takeRule 0 h) := by
  unfold f_X11_takeRule
  have a_h : Agr W_X11_takeRule h h := agr_refl h
  refine fm_og (fun hb => ?_)
  refine fm_ov (w_f_X7_keep hb) rfl a_h (fun h_3 a_3 => ?_)
  refine fm_nh (agr_sI a_3 rfl) (fun h_4 a_4 => ?_)
  refine fm_nh (agr_sI a_4 rfl) (fun h_6 a_6 => ?_)
  exact fm_some a_6
theorem w_f_J0_length_8abf5 {k : Nat} {h : AH} : Fm Prod.snd [] h (f_J0_length_8abf5 k h) := by
  unfold f_J0_length_8abf5
  exact fm_og (fun _ => fm_some (agr_refl h))
theorem w_f_J0_charAt_5068e {k : Nat} {x : Int32} {h : AH} : Fm Prod.snd [] h (f_J0_charAt_5068e k x h) := by
  unfold f_J0_charAt_5068e
  exact fm_og (fun _ => fm_og (fun _ => fm_some (agr_refl h)))
def W_X10_bytesIn : List (Nat × Nat) := []
theorem w_f_X10_bytesIn_25 {h0 : AH} {q5 : Int32 → Int32 → Int32 → AH → Option (Int32 × AH)} (hq5 : ∀ (y0 : Int32) (y1 : Int32) (y2 : Int32) (y3 : AH), Agr W_X10_bytesIn h0 y3 → Fm Prod.snd W_X10_bytesIn h0 (q5 y0 y1 y2 y3)) : ∀ (x0 : Int32) (x2 : Int32) (s0 : Int32) (s1 : Int32) (h : AH), Agr W_X10_bytesIn h0 h → Fm Prod.snd W_X10_bytesIn h0 (f_X10_bytesIn_25 q5 x0 x2 s0 s1 h) := by
  intro x0 x2 s0 s1 h a_h
  unfold f_X10_bytesIn_25
  refine fm_nm (fun x1_1 => ?_)
  refine fm_nm (fun x2_3 => ?_)
  exact hq5 _ _ _ _ a_h
theorem w_f_X10_bytesIn_5 {h0 : AH} : ∀ (n : Nat) (x0 : Int32) (x1 : Int32) (x2 : Int32) (h : AH), Agr W_X10_bytesIn h0 h → Fm Prod.snd W_X10_bytesIn h0 (f_X10_bytesIn_5 n x0 x1 x2 h) := by
  intro n
  induction n with
  | zero => intro x0 x1 x2 h _; exact fm_none
  | succ n ih =>
    intro x0 x1 x2 h a_h
    rw [f_X10_bytesIn_5]
    refine fm_ite ?_ ?_
    · exact fm_some a_h
    · refine fm_ite ?_ ?_
      · exact w_f_X10_bytesIn_25 (fun y0 y1 y2 y3 a => ih y0 y1 y2 y3 a) _ _ _ _ _ a_h
      · exact w_f_X10_bytesIn_25 (fun y0 y1 y2 y3 a => ih y0 y1 y2 y3 a) _ _ _ _ _ a_h
theorem w_f_X10_bytesIn (x0 : Int32) (h : AH) : Fm Prod.snd W_X10_bytesIn h (f_X10_bytesIn x0 h) := by
  unfold f_X10_bytesIn
  have a_h : Agr W_X10_bytesIn h h := agr_refl h
  exact w_f_X10_bytesIn_5  FU _ _ _ _ a_h
def W_X10_put_i1 : List (Nat × Nat) := (1, 1) :: (2, 1000) :: []
theorem w_f_X10_put_50_i1 {h0 : AH} {q3 : Nat → Int32 → Int32 → AH → Option AH} (hq3 : ∀ (y1 : Int32) (y2 : Int32) (y3 : AH), Agr W_X10_put_i1 h0 y3 → Fm id W_X10_put_i1 h0 (q3 1 y1 y2 y3)) : ∀ (x1 : Int32) (x2 : Int32) (h : AH), Agr W_X10_put_i1 h0 h → Fm id W_X10_put_i1 h0 (f_X10_put_50 q3 1 x1 x2 h) := by
  intro x1 x2 h a_h
  unfold f_X10_put_50
  refine fm_nm (fun x2_1 => ?_)
  exact hq3 _ _ _ a_h
theorem w_f_X10_put_3_i1 {h0 : AH} : ∀ (n : Nat) (x1 : Int32) (x2 : Int32) (h : AH), Agr W_X10_put_i1 h0 h → Fm id W_X10_put_i1 h0 (f_X10_put_3 n 1 x1 x2 h) := by
  intro n
  induction n with
  | zero => intro x1 x2 h _; exact fm_none
  | succ n ih =>
    intro x1 x2 h a_h
    rw [f_X10_put_3]
    refine fm_ite ?_ ?_
    · exact fm_some a_h
    · refine fm_nm (fun x3_2 => ?_)
      refine fm_ite ?_ ?_
      · exact w_f_X10_put_50_i1 (fun y0 y1 y2 a => ih y0 y1 y2 a) _ _ _ a_h
      · refine fm_ite ?_ ?_
        · exact w_f_X10_put_50_i1 (fun y0 y1 y2 a => ih y0 y1 y2 a) _ _ _ a_h
        · refine fm_og (fun hb1 => ?_)
          refine fm_nh (agr_sI a_h rfl) (fun h_7 a_h_7 => ?_)
          refine fm_nh (agr_sI a_h_7 rfl) (fun h_9 a_h_9 => ?_)
          exact w_f_X10_put_50_i1 (fun y0 y1 y2 a => ih y0 y1 y2 a) _ _ _ a_h_9
theorem w_f_X10_put_i1 (x1 : Int32) (h : AH) : Fm id W_X10_put_i1 h (f_X10_put 1 x1 h) := by
  unfold f_X10_put
  have a_h : Agr W_X10_put_i1 h h := agr_refl h
  exact w_f_X10_put_3_i1  FU _ _ _ a_h
def W_X11_feed_i0 : List (Nat × Nat) := (1, 1) :: (2, 1000) :: []
theorem w_f_X11_feed_i0 (x1 : Int32) (x2 : Int32) (x3 : Int32) (x4 : Int32) (x5 : Int32) (h : AH) : Fm Prod.snd W_X11_feed_i0 h (f_X11_feed 0 x1 x2 x3 x4 x5 h) := by
  unfold f_X11_feed
  have a_h : Agr W_X11_feed_i0 h h := agr_refl h
  refine fm_ob (w_f_X10_bytesIn _ _) rfl a_h (fun r_3 h_2 a_h_2 => ?_)
  refine fm_ob (w_f_X10_bytesIn _ _) rfl a_h_2 (fun r_6 h_5 a_h_5 => ?_)
  refine fm_ob (w_f_X10_bytesIn _ _) rfl a_h_5 (fun r_9 h_8 a_h_8 => ?_)
  refine fm_ob (w_f_X10_bytesIn _ _) rfl a_h_8 (fun r_12 h_11 a_h_11 => ?_)
  refine fm_ob (w_f_X10_bytesIn _ _) rfl a_h_11 (fun r_15 h_14 a_h_14 => ?_)
  refine fm_nm (fun x6_16 => ?_)
  refine fm_ite ?_ ?_
  · refine fm_ov (w_f_X10_put_i1 _ _) rfl a_h_14 (fun h_20 a_h_20 => ?_)
    refine fm_ov (w_f_X10_put_i1 _ _) rfl a_h_20 (fun h_22 a_h_22 => ?_)
    refine fm_ov (w_f_X10_put_i1 _ _) rfl a_h_22 (fun h_24 a_h_24 => ?_)
    refine fm_ov (w_f_X10_put_i1 _ _) rfl a_h_24 (fun h_26 a_h_26 => ?_)
    refine fm_ov (w_f_X10_put_i1 _ _) rfl a_h_26 (fun h_28 a_h_28 => ?_)
    exact fm_some a_h_28
  · exact fm_some a_h_14
def W_X12_bytesIn : List (Nat × Nat) := []
theorem w_f_X12_bytesIn_25 {h0 : AH} {q5 : Int32 → Int32 → Int32 → AH → Option (Int32 × AH)} (hq5 : ∀ (y0 : Int32) (y1 : Int32) (y2 : Int32) (y3 : AH), Agr W_X12_bytesIn h0 y3 → Fm Prod.snd W_X12_bytesIn h0 (q5 y0 y1 y2 y3)) : ∀ (x0 : Int32) (x2 : Int32) (s0 : Int32) (s1 : Int32) (h : AH), Agr W_X12_bytesIn h0 h → Fm Prod.snd W_X12_bytesIn h0 (f_X12_bytesIn_25 q5 x0 x2 s0 s1 h) := by
  intro x0 x2 s0 s1 h a_h
  unfold f_X12_bytesIn_25
  refine fm_nm (fun x1_1 => ?_)
  refine fm_nm (fun x2_3 => ?_)
  exact hq5 _ _ _ _ a_h
theorem w_f_X12_bytesIn_5 {h0 : AH} : ∀ (n : Nat) (x0 : Int32) (x1 : Int32) (x2 : Int32) (h : AH), Agr W_X12_bytesIn h0 h → Fm Prod.snd W_X12_bytesIn h0 (f_X12_bytesIn_5 n x0 x1 x2 h) := by
  intro n
  induction n with
  | zero => intro x0 x1 x2 h _; exact fm_none
  | succ n ih =>
    intro x0 x1 x2 h a_h
    rw [f_X12_bytesIn_5]
    refine fm_ite ?_ ?_
    · exact fm_some a_h
    · refine fm_ite ?_ ?_
      · exact w_f_X12_bytesIn_25 (fun y0 y1 y2 y3 a => ih y0 y1 y2 y3 a) _ _ _ _ _ a_h
      · exact w_f_X12_bytesIn_25 (fun y0 y1 y2 y3 a => ih y0 y1 y2 y3 a) _ _ _ _ _ a_h
theorem w_f_X12_bytesIn (x0 : Int32) (h : AH) : Fm Prod.snd W_X12_bytesIn h (f_X12_bytesIn x0 h) := by
  unfold f_X12_bytesIn
  have a_h : Agr W_X12_bytesIn h h := agr_refl h
  exact w_f_X12_bytesIn_5  FU _ _ _ _ a_h
def W_X12_put_i56 : List (Nat × Nat) := (56, 6) :: (57, 1000) :: []
theorem w_f_X12_put_43_i56 {h0 : AH} {q3 : Nat → Int32 → Int32 → AH → Option AH} (hq3 : ∀ (y1 : Int32) (y2 : Int32) (y3 : AH), Agr W_X12_put_i56 h0 y3 → Fm id W_X12_put_i56 h0 (q3 56 y1 y2 y3)) : ∀ (x1 : Int32) (x2 : Int32) (h : AH), Agr W_X12_put_i56 h0 h → Fm id W_X12_put_i56 h0 (f_X12_put_43 q3 56 x1 x2 h) := by
  intro x1 x2 h a_h
  unfold f_X12_put_43
  refine fm_nm (fun x2_1 => ?_)
  exact hq3 _ _ _ a_h
theorem w_f_X12_put_3_i56 {h0 : AH} : ∀ (n : Nat) (x1 : Int32) (x2 : Int32) (h : AH), Agr W_X12_put_i56 h0 h → Fm id W_X12_put_i56 h0 (f_X12_put_3 n 56 x1 x2 h) := by
  intro n
  induction n with
  | zero => intro x1 x2 h _; exact fm_none
  | succ n ih =>
    intro x1 x2 h a_h
    rw [f_X12_put_3]
    refine fm_ite ?_ ?_
    · exact fm_some a_h
    · refine fm_ite ?_ ?_
      · exact w_f_X12_put_43_i56 (fun y0 y1 y2 a => ih y0 y1 y2 a) _ _ _ a_h
      · refine fm_og (fun hb1 => ?_)
        refine fm_nh (agr_sI a_h rfl) (fun h_4 a_h_4 => ?_)
        refine fm_nh (agr_sI a_h_4 rfl) (fun h_6 a_h_6 => ?_)
        exact w_f_X12_put_43_i56 (fun y0 y1 y2 a => ih y0 y1 y2 a) _ _ _ a_h_6
theorem w_f_X12_put_i56 (x1 : Int32) (h : AH) : Fm id W_X12_put_i56 h (f_X12_put 56 x1 h) := by
  unfold f_X12_put
  have a_h : Agr W_X12_put_i56 h h := agr_refl h
  exact w_f_X12_put_3_i56  FU _ _ _ a_h
def W_X12_feed_i56 : List (Nat × Nat) := (56, 0) :: (56, 6) :: (57, 1000) :: []
theorem w_f_X12_feed_i56 (x1 : Int32) (x2 : Int32) (x3 : Int32) (x4 : Int32) (x5 : Int32) (h : AH) : Fm Prod.snd W_X12_feed_i56 h (f_X12_feed 56 x1 x2 x3 x4 x5 h) := by
  unfold f_X12_feed
  have a_h : Agr W_X12_feed_i56 h h := agr_refl h
  refine fm_nh (agr_sI a_h rfl) (fun h_1 a_h_1 => ?_)
  refine fm_ob (w_f_X12_bytesIn _ _) rfl a_h_1 (fun r_5 h_4 a_h_4 => ?_)
  refine fm_ob (w_f_X12_bytesIn _ _) rfl a_h_4 (fun r_8 h_7 a_h_7 => ?_)
  refine fm_ob (w_f_X12_bytesIn _ _) rfl a_h_7 (fun r_11 h_10 a_h_10 => ?_)
  refine fm_ob (w_f_X12_bytesIn _ _) rfl a_h_10 (fun r_14 h_13 a_h_13 => ?_)
  refine fm_ob (w_f_X12_bytesIn _ _) rfl a_h_13 (fun r_17 h_16 a_h_16 => ?_)
  refine fm_ite ?_ ?_
  · refine fm_ov (w_f_X12_put_i56 _ _) rfl a_h_16 (fun h_20 a_h_20 => ?_)
    refine fm_ov (w_f_X12_put_i56 _ _) rfl a_h_20 (fun h_22 a_h_22 => ?_)
    refine fm_ov (w_f_X12_put_i56 _ _) rfl a_h_22 (fun h_24 a_h_24 => ?_)
    refine fm_ov (w_f_X12_put_i56 _ _) rfl a_h_24 (fun h_26 a_h_26 => ?_)
    refine fm_ov (w_f_X12_put_i56 _ _) rfl a_h_26 (fun h_28 a_h_28 => ?_)
    exact fm_some a_h_28
  · exact fm_some a_h_16
def W_X11_end_i0 : List (Nat × Nat) := (1, 1) :: []
theorem w_f_X11_end_15_i0 {h0 : AH} : ∀ (h : AH), Agr W_X11_end_i0 h0 h → Fm Prod.snd W_X11_end_i0 h0 (f_X11_end_15 h) := by
  intro h a_h
  unfold f_X11_end_15
  exact fm_some a_h
theorem w_f_X11_end_i0 (x1 : Int32) (h : AH) : Fm Prod.snd W_X11_end_i0 h (f_X11_end 0 x1 h) := by
  unfold f_X11_end
  have a_h : Agr W_X11_end_i0 h h := agr_refl h
  refine fm_ite ?_ ?_
  · exact w_f_X11_end_15_i0  _ a_h
  · refine fm_ite ?_ ?_
    · refine fm_nh (agr_sI a_h rfl) (fun h_3 a_h_3 => ?_)
      exact fm_some a_h_3
    · exact w_f_X11_end_15_i0  _ a_h
def W_X12_end_i56 : List (Nat × Nat) := (56, 0) :: (56, 6) :: []
theorem w_f_X12_end_17_i56 {h0 : AH} : ∀ (h : AH), Agr W_X12_end_i56 h0 h → Fm Prod.snd W_X12_end_i56 h0 (f_X12_end_17 h) := by
  intro h a_h
  unfold f_X12_end_17
  exact fm_some a_h
theorem w_f_X12_end_i56 (x1 : Int32) (h : AH) : Fm Prod.snd W_X12_end_i56 h (f_X12_end 56 x1 h) := by
  unfold f_X12_end
  have a_h : Agr W_X12_end_i56 h h := agr_refl h
  refine fm_nh (agr_sI a_h rfl) (fun h_1 a_h_1 => ?_)
  refine fm_ite ?_ ?_
  · exact w_f_X12_end_17_i56  _ a_h_1
  · refine fm_ite ?_ ?_
    · refine fm_nh (agr_sI a_h_1 rfl) (fun h_5 a_h_5 => ?_)
      exact fm_some a_h_5
    · exact w_f_X12_end_17_i56  _ a_h_1
def W_X6_read_i6_1 : List (Nat × Nat) := (1, 2) :: (6, 2) :: (7, 1000) :: []
theorem w_f_X6_read_99_i6_1 {h0 : AH} : ∀ (s0 : Int32) (h : AH), Agr W_X6_read_i6_1 h0 h → Fm Prod.snd W_X6_read_i6_1 h0 (f_X6_read_99 s0 h) := by
  intro s0 h a_h
  unfold f_X6_read_99
  exact fm_some a_h
theorem w_f_X6_read_95_i6_1 {h0 : AH} : ∀ (h : AH), Agr W_X6_read_i6_1 h0 h → Fm Prod.snd W_X6_read_i6_1 h0 (f_X6_read_95 1 h) := by
  intro h a_h
  unfold f_X6_read_95
  exact w_f_X6_read_99_i6_1  _ _ a_h
def W_X10_next_i1 : List (Nat × Nat) := (1, 2) :: []
theorem w_f_X10_next_62_i1 {h0 : AH} : ∀ (s0 : Int32) (h : AH), Agr W_X10_next_i1 h0 h → Fm Prod.snd W_X10_next_i1 h0 (f_X10_next_62 s0 h) := by
  intro s0 h a_h
  unfold f_X10_next_62
  exact fm_some a_h
theorem w_f_X10_next_38_i1 {h0 : AH} : ∀ (h : AH), Agr W_X10_next_i1 h0 h → Fm Prod.snd W_X10_next_i1 h0 (f_X10_next_38 1 h) := by
  intro h a_h
  unfold f_X10_next_38
  refine fm_ite ?_ ?_
  · exact w_f_X10_next_62_i1  _ _ a_h
  · refine fm_og (fun hb1 => ?_)
    exact w_f_X10_next_62_i1  _ _ a_h
theorem w_f_X10_next_0_i1 {h0 : AH} : ∀ (n : Nat) (h : AH), Agr W_X10_next_i1 h0 h → Fm Prod.snd W_X10_next_i1 h0 (f_X10_next_0 n 1 h) := by
  intro n
  induction n with
  | zero => intro h _; exact fm_none
  | succ n ih =>
    intro h a_h
    rw [f_X10_next_0]
    refine fm_ite ?_ ?_
    · exact w_f_X10_next_38_i1  _ a_h
    · refine fm_og (fun hb1 => ?_)
      refine fm_ite ?_ ?_
      · refine fm_nh (agr_sI a_h rfl) (fun h_4 a_h_4 => ?_)
        exact ih _ a_h_4
      · exact w_f_X10_next_38_i1  _ a_h
theorem w_f_X10_next_i1 (h : AH) : Fm Prod.snd W_X10_next_i1 h (f_X10_next 1 h) := by
  unfold f_X10_next
  have a_h : Agr W_X10_next_i1 h h := agr_refl h
  exact w_f_X10_next_0_i1  FU _ a_h
theorem w_f_X6_read_75_i6_1 {h0 : AH} : ∀ (h : AH), Agr W_X6_read_i6_1 h0 h → Fm Prod.snd W_X6_read_i6_1 h0 (f_X6_read_75 6 1 h) := by
  intro h a_h
  unfold f_X6_read_75
  refine fm_ite ?_ ?_
  · exact w_f_X6_read_95_i6_1  _ a_h
  · refine fm_ob (w_f_X10_next_i1 _) rfl a_h (fun r_4 h_3 a_h_3 => ?_)
    refine fm_ite ?_ ?_
    · exact w_f_X6_read_99_i6_1  _ _ a_h_3
    · exact w_f_X6_read_95_i6_1  _ a_h_3
def W_X10_pass_i1 : List (Nat × Nat) := (1, 2) :: []
theorem w_f_X10_pass_i1 (x1 : Int32) (h : AH) : Fm Prod.snd W_X10_pass_i1 h (f_X10_pass 1 x1 h) := by
  unfold f_X10_pass
  have a_h : Agr W_X10_pass_i1 h h := agr_refl h
  refine fm_ob (w_f_X10_next_i1 _) rfl a_h (fun r_3 h_2 a_h_2 => ?_)
  refine fm_ite ?_ ?_
  · refine fm_nh (agr_sI a_h_2 rfl) (fun h_5 a_h_5 => ?_)
    exact fm_some a_h_5
  · exact fm_some a_h_2
def W_X11_indexIn_i1000 : List (Nat × Nat) := []
theorem w_f_X11_indexIn_2_i1000 {h0 : AH} : ∀ (n : Nat) (x1 : Int32) (x2 : Int32) (h : AH), Agr W_X11_indexIn_i1000 h0 h → Fm Prod.snd W_X11_indexIn_i1000 h0 (f_X11_indexIn_2 n 1000 x1 x2 h) := by
  intro n
  induction n with
  | zero => intro x1 x2 h _; exact fm_none
  | succ n ih =>
    intro x1 x2 h a_h
    rw [f_X11_indexIn_2]
    refine fm_ob (w_f_J0_length_8abf5 ) rfl a_h (fun r_3 h_2 a_h_2 => ?_)
    refine fm_ite ?_ ?_
    · exact fm_some a_h_2
    · refine fm_ob (w_f_J0_charAt_5068e ) rfl a_h_2 (fun r_7 h_6 a_h_6 => ?_)
      refine fm_ite ?_ ?_
      · exact fm_some a_h_6
      · refine fm_nm (fun x2_9 => ?_)
        exact ih _ _ _ a_h_6
theorem w_f_X11_indexIn_i1000 (x1 : Int32) (h : AH) : Fm Prod.snd W_X11_indexIn_i1000 h (f_X11_indexIn 1000 x1 h) := by
  unfold f_X11_indexIn
  have a_h : Agr W_X11_indexIn_i1000 h h := agr_refl h
  exact w_f_X11_indexIn_2_i1000  FU _ _ _ a_h
def W_X11_isIn : List (Nat × Nat) := []
theorem w_f_X11_isIn_14 {h0 : AH} : ∀ (s0 : Int32) (h : AH), Agr W_X11_isIn h0 h → Fm Prod.snd W_X11_isIn h0 (f_X11_isIn_14 s0 h) := by
  intro s0 h a_h
  unfold f_X11_isIn_14
  refine fm_og (fun hb1 => ?_)
  exact fm_some a_h
theorem w_f_X11_isIn (x0 : Int32) (x1 : Int32) (h : AH) : Fm Prod.snd W_X11_isIn h (f_X11_isIn x0 x1 h) := by
  unfold f_X11_isIn
  have a_h : Agr W_X11_isIn h h := agr_refl h
  refine fm_ite ?_ ?_
  · exact w_f_X11_isIn_14  _ _ a_h
  · exact w_f_X11_isIn_14  _ _ a_h
def W_X10_readNumber_i1 : List (Nat × Nat) := (1, 2) :: []
theorem w_f_X10_readNumber_93_i1 {h0 : AH} : ∀ (s0 : Int32) (h : AH), Agr W_X10_readNumber_i1 h0 h → Fm Prod.snd W_X10_readNumber_i1 h0 (f_X10_readNumber_93 s0 h) := by
  intro s0 h a_h
  unfold f_X10_readNumber_93
  exact fm_some a_h
theorem w_f_X10_readNumber_88_i1 {h0 : AH} : ∀ (h : AH), Agr W_X10_readNumber_i1 h0 h → Fm Prod.snd W_X10_readNumber_i1 h0 (f_X10_readNumber_88 h) := by
  intro h a_h
  unfold f_X10_readNumber_88
  exact w_f_X10_readNumber_93_i1  _ _ a_h
def W_X11_isDigit : List (Nat × Nat) := []
theorem w_f_X11_isDigit_17 {h0 : AH} : ∀ (s0 : Int32) (h : AH), Agr W_X11_isDigit h0 h → Fm Prod.snd W_X11_isDigit h0 (f_X11_isDigit_17 s0 h) := by
  intro s0 h a_h
  unfold f_X11_isDigit_17
  refine fm_og (fun hb1 => ?_)
  exact fm_some a_h
theorem w_f_X11_isDigit_16 {h0 : AH} : ∀ (h : AH), Agr W_X11_isDigit h0 h → Fm Prod.snd W_X11_isDigit h0 (f_X11_isDigit_16 h) := by
  intro h a_h
  unfold f_X11_isDigit_16
  exact w_f_X11_isDigit_17  _ _ a_h
theorem w_f_X11_isDigit (x0 : Int32) (h : AH) : Fm Prod.snd W_X11_isDigit h (f_X11_isDigit x0 h) := by
  unfold f_X11_isDigit
  have a_h : Agr W_X11_isDigit h h := agr_refl h
  refine fm_ite ?_ ?_
  · exact w_f_X11_isDigit_16  _ a_h
  · refine fm_ite ?_ ?_
    · exact w_f_X11_isDigit_16  _ a_h
    · exact w_f_X11_isDigit_17  _ _ a_h
theorem w_f_X10_readNumber_76_i1 {h0 : AH} : ∀ (x2 : Int32) (x3 : Int32) (x4 : Int32) (h : AH), Agr W_X10_readNumber_i1 h0 h → Fm Prod.snd W_X10_readNumber_i1 h0 (f_X10_readNumber_76 x2 x3 x4 h) := by
  intro x2 x3 x4 h a_h
  unfold f_X10_readNumber_76
  refine fm_ite ?_ ?_
  · exact w_f_X10_readNumber_88_i1  _ a_h
  · refine fm_ob (w_f_X11_isDigit _ _) rfl a_h (fun r_4 h_3 a_h_3 => ?_)
    refine fm_ite ?_ ?_
    · exact w_f_X10_readNumber_93_i1  _ _ a_h_3
    · exact w_f_X10_readNumber_88_i1  _ a_h_3
theorem w_f_X10_readNumber_71_i1 {h0 : AH} {q10 : Nat → Int32 → Int32 → Int32 → Int32 → AH → Option (Int32 × AH)} (hq10 : ∀ (y1 : Int32) (y2 : Int32) (y3 : Int32) (y4 : Int32) (y5 : AH), Agr W_X10_readNumber_i1 h0 y5 → Fm Prod.snd W_X10_readNumber_i1 h0 (q10 1 y1 y2 y3 y4 y5)) : ∀ (x1 : Int32) (x2 : Int32) (x3 : Int32) (s0 : Int32) (h : AH), Agr W_X10_readNumber_i1 h0 h → Fm Prod.snd W_X10_readNumber_i1 h0 (f_X10_readNumber_71 q10 1 x1 x2 x3 s0 h) := by
  intro x1 x2 x3 s0 h a_h
  unfold f_X10_readNumber_71
  exact hq10 _ _ _ _ _ a_h
theorem w_f_X10_readNumber_10_i1 {h0 : AH} : ∀ (n : Nat) (x1 : Int32) (x2 : Int32) (x3 : Int32) (x4 : Int32) (h : AH), Agr W_X10_readNumber_i1 h0 h → Fm Prod.snd W_X10_readNumber_i1 h0 (f_X10_readNumber_10 n 1 x1 x2 x3 x4 h) := by
  intro n
  induction n with
  | zero => intro x1 x2 x3 x4 h _; exact fm_none
  | succ n ih =>
    intro x1 x2 x3 x4 h a_h
    rw [f_X10_readNumber_10]
    refine fm_ite ?_ ?_
    · exact w_f_X10_readNumber_76_i1  _ _ _ _ a_h
    · refine fm_ob (w_f_X11_isDigit _ _) rfl a_h (fun r_4 h_3 a_h_3 => ?_)
      refine fm_ite ?_ ?_
      · exact w_f_X10_readNumber_76_i1  _ _ _ _ a_h_3
      · refine fm_nm (fun x2_6 => ?_)
        refine fm_nm (fun x3_8 => ?_)
        refine fm_nh (agr_sI a_h_3 rfl) (fun h_10 a_h_10 => ?_)
        refine fm_ite ?_ ?_
        · exact w_f_X10_readNumber_71_i1 (fun y0 y1 y2 y3 y4 a => ih y0 y1 y2 y3 y4 a) _ _ _ _ _ a_h_10
        · refine fm_og (fun hb1 => ?_)
          exact w_f_X10_readNumber_71_i1 (fun y0 y1 y2 y3 y4 a => ih y0 y1 y2 y3 y4 a) _ _ _ _ _ a_h_10
theorem w_f_X10_readNumber_i1 (x1 : Int32) (h : AH) : Fm Prod.snd W_X10_readNumber_i1 h (f_X10_readNumber 1 x1 h) := by
  unfold f_X10_readNumber
  have a_h : Agr W_X10_readNumber_i1 h h := agr_refl h
  refine fm_ob (w_f_X10_next_i1 _) rfl a_h (fun r_3 h_2 a_h_2 => ?_)
  exact w_f_X10_readNumber_10_i1  FU _ _ _ _ _ a_h_2
def W_X6_readItem_i6_1 : List (Nat × Nat) := (1, 2) :: (7, 1000) :: []
theorem w_f_X6_readItem_31_i6_1 {h0 : AH} : ∀ (h : AH), Agr W_X6_readItem_i6_1 h0 h → Fm Prod.snd W_X6_readItem_i6_1 h0 (f_X6_readItem_31 1 h) := by
  intro h a_h
  unfold f_X6_readItem_31
  refine fm_nh (agr_sI a_h rfl) (fun h_1 a_h_1 => ?_)
  exact fm_some a_h_1
theorem w_f_X6_readItem_i6_1 (x2 : Int32) (h : AH) : Fm Prod.snd W_X6_readItem_i6_1 h (f_X6_readItem 6 1 x2 h) := by
  unfold f_X6_readItem
  have a_h : Agr W_X6_readItem_i6_1 h h := agr_refl h
  refine fm_ob (w_f_X10_readNumber_i1 _ _) rfl a_h (fun r_3 h_2 a_h_2 => ?_)
  refine fm_ite ?_ ?_
  · exact fm_some a_h_2
  · refine fm_og (fun hb1 => ?_)
    refine fm_ite ?_ ?_
    · exact w_f_X6_readItem_31_i6_1  _ a_h_2
    · refine fm_og (fun hb2 => ?_)
      refine fm_ite ?_ ?_
      · refine fm_og (fun hb3 => ?_)
        refine fm_nh (agr_sI a_h_2 rfl) (fun h_10 a_h_10 => ?_)
        exact fm_some a_h_10
      · exact w_f_X6_readItem_31_i6_1  _ a_h_2
def W_X6_readPerson_i6_1 : List (Nat × Nat) := (1, 2) :: (7, 1000) :: []
theorem w_f_X6_readPerson_35_i6_1 {h0 : AH} : ∀ (n : Nat) (x2 : Int32) (x3 : Int32) (h : AH), Agr W_X6_readPerson_i6_1 h0 h → Fm Prod.snd W_X6_readPerson_i6_1 h0 (f_X6_readPerson_35 n 6 1 x2 x3 h) := by
  intro n
  induction n with
  | zero => intro x2 x3 h _; exact fm_none
  | succ n ih =>
    intro x2 x3 h a_h
    rw [f_X6_readPerson_35]
    refine fm_ite ?_ ?_
    · exact fm_some a_h
    · refine fm_ob (w_f_X10_next_i1 _) rfl a_h (fun r_4 h_3 a_h_3 => ?_)
      refine fm_ob (w_f_X11_indexIn_i1000 _ _) rfl a_h_3 (fun r_7 h_6 a_h_6 => ?_)
      refine fm_ite ?_ ?_
      · exact fm_some a_h_6
      · refine fm_ob (w_f_X11_isIn _ _ _) rfl a_h_6 (fun r_11 h_10 a_h_10 => ?_)
        refine fm_ite ?_ ?_
        · refine fm_nm (fun x2_13 => ?_)
          refine fm_nh (agr_sI a_h_10 rfl) (fun h_15 a_h_15 => ?_)
          refine fm_ob (w_f_X6_readItem_i6_1 _ _) rfl a_h_15 (fun r_19 h_18 a_h_18 => ?_)
          refine fm_ite ?_ ?_
          · exact fm_some a_h_18
          · refine fm_nm (fun x3_21 => ?_)
            exact ih _ _ _ a_h_18
        · exact fm_some a_h_10
theorem w_f_X6_readPerson_i6_1 (h : AH) : Fm Prod.snd W_X6_readPerson_i6_1 h (f_X6_readPerson 6 1 h) := by
  unfold f_X6_readPerson
  have a_h : Agr W_X6_readPerson_i6_1 h h := agr_refl h
  refine fm_ob (w_f_X10_pass_i1 _ _) rfl a_h (fun r_3 h_2 a_h_2 => ?_)
  refine fm_ite ?_ ?_
  · exact fm_some a_h_2
  · refine fm_og (fun hb1 => ?_)
    refine fm_nh (agr_sA a_h_2 (fun _ => rfl)) (fun h_6 a_h_6 => ?_)
    exact w_f_X6_readPerson_35_i6_1  FU _ _ _ a_h_6
theorem w_f_X6_read_71_i6_1 {h0 : AH} {q12 : Nat → Nat → Int32 → AH → Option (Int32 × AH)} (hq12 : ∀ (y2 : Int32) (y3 : AH), Agr W_X6_read_i6_1 h0 y3 → Fm Prod.snd W_X6_read_i6_1 h0 (q12 6 1 y2 y3)) : ∀ (s0 : Int32) (h : AH), Agr W_X6_read_i6_1 h0 h → Fm Prod.snd W_X6_read_i6_1 h0 (f_X6_read_71 q12 6 1 s0 h) := by
  intro s0 h a_h
  unfold f_X6_read_71
  exact hq12 _ _ a_h
theorem w_f_X6_read_70_i6_1 {h0 : AH} {q12 : Nat → Nat → Int32 → AH → Option (Int32 × AH)} (hq12 : ∀ (y2 : Int32) (y3 : AH), Agr W_X6_read_i6_1 h0 y3 → Fm Prod.snd W_X6_read_i6_1 h0 (q12 6 1 y2 y3)) : ∀ (h : AH), Agr W_X6_read_i6_1 h0 h → Fm Prod.snd W_X6_read_i6_1 h0 (f_X6_read_70 q12 6 1 h) := by
  intro h a_h
  unfold f_X6_read_70
  exact w_f_X6_read_71_i6_1 hq12 _ _ a_h
theorem w_f_X6_read_12_i6_1 {h0 : AH} : ∀ (n : Nat) (x2 : Int32) (h : AH), Agr W_X6_read_i6_1 h0 h → Fm Prod.snd W_X6_read_i6_1 h0 (f_X6_read_12 n 6 1 x2 h) := by
  intro n
  induction n with
  | zero => intro x2 h _; exact fm_none
  | succ n ih =>
    intro x2 h a_h
    rw [f_X6_read_12]
    refine fm_ite ?_ ?_
    · exact w_f_X6_read_75_i6_1  _ a_h
    · refine fm_ite ?_ ?_
      · exact w_f_X6_read_75_i6_1  _ a_h
      · refine fm_ob (w_f_X6_readPerson_i6_1 _) rfl a_h (fun r_5 h_4 a_h_4 => ?_)
        refine fm_ite ?_ ?_
        · exact fm_some a_h_4
        · refine fm_nh (agr_sI a_h_4 rfl) (fun h_7 a_h_7 => ?_)
          refine fm_ite ?_ ?_
          · exact w_f_X6_read_70_i6_1 (fun y0 y1 a => ih y0 y1 a) _ a_h_7
          · refine fm_ob (w_f_X10_pass_i1 _ _) rfl a_h_7 (fun r_12 h_11 a_h_11 => ?_)
            refine fm_ite ?_ ?_
            · exact w_f_X6_read_70_i6_1 (fun y0 y1 a => ih y0 y1 a) _ a_h_11
            · exact w_f_X6_read_71_i6_1 (fun y0 y1 a => ih y0 y1 a) _ _ a_h_11
theorem w_f_X6_read_i6_1 (h : AH) : Fm Prod.snd W_X6_read_i6_1 h (f_X6_read 6 1 h) := by
  unfold f_X6_read
  have a_h : Agr W_X6_read_i6_1 h h := agr_refl h
  refine fm_nh (agr_sI a_h rfl) (fun h_1 a_h_1 => ?_)
  refine fm_nh (agr_sI a_h_1 rfl) (fun h_3 a_h_3 => ?_)
  exact w_f_X6_read_12_i6_1  FU _ _ a_h_3
def W_X8_readClause_i9 : List (Nat × Nat) := (1, 2) :: (9, 2) :: (10, 1000) :: []
theorem w_f_X8_readClause_24_i9 {h0 : AH} : ∀ (h : AH), Agr W_X8_readClause_i9 h0 h → Fm Prod.snd W_X8_readClause_i9 h0 (f_X8_readClause_24 h) := by
  intro h a_h
  unfold f_X8_readClause_24
  exact fm_some a_h
def W_X8_readUnit_i9 : List (Nat × Nat) := (1, 2) :: (9, 2) :: (10, 1000) :: []
theorem w_f_X8_readTruth_21_i9 {h0 : AH} {cb : Nat → Int32 → AH → Option (Int32 × AH)} (hcb : ∀ (x1 : Int32) (h : AH), Agr W_X8_readUnit_i9 h0 h → Fm Prod.snd W_X8_readUnit_i9 h0 (cb 9 x1 h)) : ∀ (s0 : Int32) (h : AH), Agr W_X8_readUnit_i9 h0 h → Fm Prod.snd W_X8_readUnit_i9 h0 (f_X8_readTruth_21 cb s0 h) := by
  intro s0 h a_h
  unfold f_X8_readTruth_21
  refine fm_og (fun hb1 => ?_)
  exact fm_some a_h
theorem w_f_X8_readTruth_20_i9 {h0 : AH} {cb : Nat → Int32 → AH → Option (Int32 × AH)} (hcb : ∀ (x1 : Int32) (h : AH), Agr W_X8_readUnit_i9 h0 h → Fm Prod.snd W_X8_readUnit_i9 h0 (cb 9 x1 h)) : ∀ (h : AH), Agr W_X8_readUnit_i9 h0 h → Fm Prod.snd W_X8_readUnit_i9 h0 (f_X8_readTruth_20 cb h) := by
  intro h a_h
  unfold f_X8_readTruth_20
  exact w_f_X8_readTruth_21_i9 hcb _ _ a_h
theorem w_f_X8_readMoreUnits_43_i9 {h0 : AH} {cb : Nat → Int32 → AH → Option (Int32 × AH)} (hcb : ∀ (x1 : Int32) (h : AH), Agr W_X8_readUnit_i9 h0 h → Fm Prod.snd W_X8_readUnit_i9 h0 (cb 9 x1 h)) : ∀ (h : AH), Agr W_X8_readUnit_i9 h0 h → Fm Prod.snd W_X8_readUnit_i9 h0 (f_X8_readMoreUnits_43 cb h) := by
  intro h a_h
  unfold f_X8_readMoreUnits_43
  exact fm_some a_h
def W_X8_write_i9 : List (Nat × Nat) := (9, 2) :: (10, 1000) :: []
theorem w_f_X8_write_30_i9 {h0 : AH} : ∀ (h : AH), Agr W_X8_write_i9 h0 h → Fm id W_X8_write_i9 h0 (f_X8_write_30 h) := by
  intro h a_h
  unfold f_X8_write_30
  exact fm_some a_h
theorem w_f_X8_write_i9 (x1 : Int32) (h : AH) : Fm id W_X8_write_i9 h (f_X8_write 9 x1 h) := by
  unfold f_X8_write
  have a_h : Agr W_X8_write_i9 h h := agr_refl h
  refine fm_ite ?_ ?_
  · exact w_f_X8_write_30_i9  _ a_h
  · refine fm_og (fun hb1 => ?_)
    refine fm_nh (agr_sI a_h rfl) (fun h_3 a_h_3 => ?_)
    refine fm_nh (agr_sI a_h_3 rfl) (fun h_5 a_h_5 => ?_)
    exact w_f_X8_write_30_i9  _ a_h_5
theorem w_f_X8_readMoreUnits_2_i9 {h0 : AH} {cb : Nat → Int32 → AH → Option (Int32 × AH)} (hcb : ∀ (x1 : Int32) (h : AH), Agr W_X8_readUnit_i9 h0 h → Fm Prod.snd W_X8_readUnit_i9 h0 (cb 9 x1 h)) : ∀ (n : Nat) (x1 : Int32) (x2 : Int32) (h : AH), Agr W_X8_readUnit_i9 h0 h → Fm Prod.snd W_X8_readUnit_i9 h0 (f_X8_readMoreUnits_2 cb n 9 x1 x2 h) := by
  intro n
  induction n with
  | zero => intro x1 x2 h _; exact fm_none
  | succ n ih =>
    intro x1 x2 h a_h
    rw [f_X8_readMoreUnits_2]
    refine fm_ite ?_ ?_
    · exact w_f_X8_readMoreUnits_43_i9 hcb _ a_h
    · refine fm_ob (w_f_X10_pass_i1 _ _) rfl a_h (fun r_4 h_3 a_h_3 => ?_)
      refine fm_ite ?_ ?_
      · exact w_f_X8_readMoreUnits_43_i9 hcb _ a_h_3
      · refine fm_obi (hcb _ _ a_h_3) (fun r_8 h_7 a_h_7 => ?_)
        refine fm_ite ?_ ?_
        · exact fm_some a_h_7
        · refine fm_ov (w_f_X8_write_i9 _ _) rfl a_h_7 (fun h_11 a_h_11 => ?_)
          refine fm_nm (fun x2_12 => ?_)
          exact ih _ _ _ a_h_11
theorem w_f_X8_readMoreUnits_i9 {h0 : AH} {cb : Nat → Int32 → AH → Option (Int32 × AH)} (hcb : ∀ (x1 : Int32) (h : AH), Agr W_X8_readUnit_i9 h0 h → Fm Prod.snd W_X8_readUnit_i9 h0 (cb 9 x1 h)) : ∀ (x1 : Int32) (h : AH), Agr W_X8_readUnit_i9 h0 h → Fm Prod.snd W_X8_readUnit_i9 h0 (f_X8_readMoreUnits cb 9 x1 h) := by
  intro x1 h a_h
  unfold f_X8_readMoreUnits
  exact w_f_X8_readMoreUnits_2_i9 hcb FU _ _ _ a_h
theorem w_f_X8_readTruth_i9 {h0 : AH} {cb : Nat → Int32 → AH → Option (Int32 × AH)} (hcb : ∀ (x1 : Int32) (h : AH), Agr W_X8_readUnit_i9 h0 h → Fm Prod.snd W_X8_readUnit_i9 h0 (cb 9 x1 h)) : ∀ (x1 : Int32) (h : AH), Agr W_X8_readUnit_i9 h0 h → Fm Prod.snd W_X8_readUnit_i9 h0 (f_X8_readTruth cb 9 x1 h) := by
  intro x1 h a_h
  unfold f_X8_readTruth
  refine fm_obi (hcb _ _ a_h) (fun r_3 h_2 a_h_2 => ?_)
  refine fm_ite ?_ ?_
  · exact w_f_X8_readTruth_20_i9 hcb _ a_h_2
  · refine fm_obi (w_f_X8_readMoreUnits_i9 hcb _ _ a_h_2) (fun r_7 h_6 a_h_6 => ?_)
    refine fm_ite ?_ ?_
    · exact w_f_X8_readTruth_20_i9 hcb _ a_h_6
    · exact w_f_X8_readTruth_21_i9 hcb _ _ a_h_6
theorem w_f_X8_readCondition_21_i9 {h0 : AH} {cb : Nat → Int32 → AH → Option (Int32 × AH)} (hcb : ∀ (x1 : Int32) (h : AH), Agr W_X8_readUnit_i9 h0 h → Fm Prod.snd W_X8_readUnit_i9 h0 (cb 9 x1 h)) : ∀ (s0 : Int32) (h : AH), Agr W_X8_readUnit_i9 h0 h → Fm Prod.snd W_X8_readUnit_i9 h0 (f_X8_readCondition_21 cb s0 h) := by
  intro s0 h a_h
  unfold f_X8_readCondition_21
  refine fm_og (fun hb1 => ?_)
  exact fm_some a_h
theorem w_f_X8_readCondition_20_i9 {h0 : AH} {cb : Nat → Int32 → AH → Option (Int32 × AH)} (hcb : ∀ (x1 : Int32) (h : AH), Agr W_X8_readUnit_i9 h0 h → Fm Prod.snd W_X8_readUnit_i9 h0 (cb 9 x1 h)) : ∀ (h : AH), Agr W_X8_readUnit_i9 h0 h → Fm Prod.snd W_X8_readUnit_i9 h0 (f_X8_readCondition_20 cb h) := by
  intro h a_h
  unfold f_X8_readCondition_20
  exact w_f_X8_readCondition_21_i9 hcb _ _ a_h
theorem w_f_X8_readMoreTruths_43_i9 {h0 : AH} {cb : Nat → Int32 → AH → Option (Int32 × AH)} (hcb : ∀ (x1 : Int32) (h : AH), Agr W_X8_readUnit_i9 h0 h → Fm Prod.snd W_X8_readUnit_i9 h0 (cb 9 x1 h)) : ∀ (h : AH), Agr W_X8_readUnit_i9 h0 h → Fm Prod.snd W_X8_readUnit_i9 h0 (f_X8_readMoreTruths_43 cb h) := by
  intro h a_h
  unfold f_X8_readMoreTruths_43
  exact fm_some a_h
theorem w_f_X8_readMoreTruths_2_i9 {h0 : AH} {cb : Nat → Int32 → AH → Option (Int32 × AH)} (hcb : ∀ (x1 : Int32) (h : AH), Agr W_X8_readUnit_i9 h0 h → Fm Prod.snd W_X8_readUnit_i9 h0 (cb 9 x1 h)) : ∀ (n : Nat) (x1 : Int32) (x2 : Int32) (h : AH), Agr W_X8_readUnit_i9 h0 h → Fm Prod.snd W_X8_readUnit_i9 h0 (f_X8_readMoreTruths_2 cb n 9 x1 x2 h) := by
  intro n
  induction n with
  | zero => intro x1 x2 h _; exact fm_none
  | succ n ih =>
    intro x1 x2 h a_h
    rw [f_X8_readMoreTruths_2]
    refine fm_ite ?_ ?_
    · exact w_f_X8_readMoreTruths_43_i9 hcb _ a_h
    · refine fm_ob (w_f_X10_pass_i1 _ _) rfl a_h (fun r_4 h_3 a_h_3 => ?_)
      refine fm_ite ?_ ?_
      · exact w_f_X8_readMoreTruths_43_i9 hcb _ a_h_3
      · refine fm_obi (w_f_X8_readTruth_i9 hcb _ _ a_h_3) (fun r_8 h_7 a_h_7 => ?_)
        refine fm_ite ?_ ?_
        · exact fm_some a_h_7
        · refine fm_ov (w_f_X8_write_i9 _ _) rfl a_h_7 (fun h_11 a_h_11 => ?_)
          refine fm_nm (fun x2_12 => ?_)
          exact ih _ _ _ a_h_11
theorem w_f_X8_readMoreTruths_i9 {h0 : AH} {cb : Nat → Int32 → AH → Option (Int32 × AH)} (hcb : ∀ (x1 : Int32) (h : AH), Agr W_X8_readUnit_i9 h0 h → Fm Prod.snd W_X8_readUnit_i9 h0 (cb 9 x1 h)) : ∀ (x1 : Int32) (h : AH), Agr W_X8_readUnit_i9 h0 h → Fm Prod.snd W_X8_readUnit_i9 h0 (f_X8_readMoreTruths cb 9 x1 h) := by
  intro x1 h a_h
  unfold f_X8_readMoreTruths
  exact w_f_X8_readMoreTruths_2_i9 hcb FU _ _ _ a_h
theorem w_f_X8_readCondition_i9 {h0 : AH} {cb : Nat → Int32 → AH → Option (Int32 × AH)} (hcb : ∀ (x1 : Int32) (h : AH), Agr W_X8_readUnit_i9 h0 h → Fm Prod.snd W_X8_readUnit_i9 h0 (cb 9 x1 h)) : ∀ (x1 : Int32) (h : AH), Agr W_X8_readUnit_i9 h0 h → Fm Prod.snd W_X8_readUnit_i9 h0 (f_X8_readCondition cb 9 x1 h) := by
  intro x1 h a_h
  unfold f_X8_readCondition
  refine fm_obi (w_f_X8_readTruth_i9 hcb _ _ a_h) (fun r_3 h_2 a_h_2 => ?_)
  refine fm_ite ?_ ?_
  · exact w_f_X8_readCondition_20_i9 hcb _ a_h_2
  · refine fm_obi (w_f_X8_readMoreTruths_i9 hcb _ _ a_h_2) (fun r_7 h_6 a_h_6 => ?_)
    refine fm_ite ?_ ?_
    · exact w_f_X8_readCondition_20_i9 hcb _ a_h_6
    · exact w_f_X8_readCondition_21_i9 hcb _ _ a_h_6
theorem w_f_X8_readClause_66_i9 {h0 : AH} : ∀ (s0 : Int32) (h : AH), Agr W_X8_readClause_i9 h0 h → Fm Prod.snd W_X8_readClause_i9 h0 (f_X8_readClause_66 s0 h) := by
  intro s0 h a_h
  unfold f_X8_readClause_66
  refine fm_og (fun hb1 => ?_)
  exact fm_some a_h
theorem w_f_X8_readClause_65_i9 {h0 : AH} : ∀ (h : AH), Agr W_X8_readClause_i9 h0 h → Fm Prod.snd W_X8_readClause_i9 h0 (f_X8_readClause_65 h) := by
  intro h a_h
  unfold f_X8_readClause_65
  exact w_f_X8_readClause_66_i9  _ _ a_h
def W_X11_indexIn_i1001 : List (Nat × Nat) := []
theorem w_f_X11_indexIn_2_i1001 {h0 : AH} : ∀ (n : Nat) (x1 : Int32) (x2 : Int32) (h : AH), Agr W_X11_indexIn_i1001 h0 h → Fm Prod.snd W_X11_indexIn_i1001 h0 (f_X11_indexIn_2 n 1001 x1 x2 h) := by
  intro n
  induction n with
  | zero => intro x1 x2 h _; exact fm_none
  | succ n ih =>
    intro x1 x2 h a_h
    rw [f_X11_indexIn_2]
    refine fm_ob (w_f_J0_length_8abf5 ) rfl a_h (fun r_3 h_2 a_h_2 => ?_)
    refine fm_ite ?_ ?_
    · exact fm_some a_h_2
    · refine fm_ob (w_f_J0_charAt_5068e ) rfl a_h_2 (fun r_7 h_6 a_h_6 => ?_)
      refine fm_ite ?_ ?_
      · exact fm_some a_h_6
      · refine fm_nm (fun x2_9 => ?_)
        exact ih _ _ _ a_h_6
theorem w_f_X11_indexIn_i1001 (x1 : Int32) (h : AH) : Fm Prod.snd W_X11_indexIn_i1001 h (f_X11_indexIn 1001 x1 h) := by
  unfold f_X11_indexIn
  have a_h : Agr W_X11_indexIn_i1001 h h := agr_refl h
  exact w_f_X11_indexIn_2_i1001  FU _ _ _ a_h
def W_X8_readSum_i9 : List (Nat × Nat) := (1, 2) :: (9, 2) :: (10, 1000) :: []
theorem w_f_X8_readAtom_93_i9 {h0 : AH} {cb : Nat → Int32 → AH → Option (Int32 × AH)} (hcb : ∀ (x1 : Int32) (h : AH), Agr W_X8_readSum_i9 h0 h → Fm Prod.snd W_X8_readSum_i9 h0 (cb 9 x1 h)) : ∀ (h : AH), Agr W_X8_readSum_i9 h0 h → Fm Prod.snd W_X8_readSum_i9 h0 (f_X8_readAtom_93 cb h) := by
  intro h a_h
  unfold f_X8_readAtom_93
  exact fm_some a_h
theorem w_f_X8_readAtom_135_i9 {h0 : AH} {cb : Nat → Int32 → AH → Option (Int32 × AH)} (hcb : ∀ (x1 : Int32) (h : AH), Agr W_X8_readSum_i9 h0 h → Fm Prod.snd W_X8_readSum_i9 h0 (cb 9 x1 h)) : ∀ (s0 : Int32) (h : AH), Agr W_X8_readSum_i9 h0 h → Fm Prod.snd W_X8_readSum_i9 h0 (f_X8_readAtom_135 cb s0 h) := by
  intro s0 h a_h
  unfold f_X8_readAtom_135
  refine fm_og (fun hb1 => ?_)
  exact fm_some a_h
theorem w_f_X8_readAtom_134_i9 {h0 : AH} {cb : Nat → Int32 → AH → Option (Int32 × AH)} (hcb : ∀ (x1 : Int32) (h : AH), Agr W_X8_readSum_i9 h0 h → Fm Prod.snd W_X8_readSum_i9 h0 (cb 9 x1 h)) : ∀ (h : AH), Agr W_X8_readSum_i9 h0 h → Fm Prod.snd W_X8_readSum_i9 h0 (f_X8_readAtom_134 cb h) := by
  intro h a_h
  unfold f_X8_readAtom_134
  exact w_f_X8_readAtom_135_i9 hcb _ _ a_h
theorem w_f_X8_readAtom_44_i9 {h0 : AH} {cb : Nat → Int32 → AH → Option (Int32 × AH)} (hcb : ∀ (x1 : Int32) (h : AH), Agr W_X8_readSum_i9 h0 h → Fm Prod.snd W_X8_readSum_i9 h0 (cb 9 x1 h)) : ∀ (s0 : Int32) (h : AH), Agr W_X8_readSum_i9 h0 h → Fm Prod.snd W_X8_readSum_i9 h0 (f_X8_readAtom_44 cb s0 h) := by
  intro s0 h a_h
  unfold f_X8_readAtom_44
  refine fm_og (fun hb1 => ?_)
  exact fm_some a_h
theorem w_f_X8_readAtom_34_i9 {h0 : AH} {cb : Nat → Int32 → AH → Option (Int32 × AH)} (hcb : ∀ (x1 : Int32) (h : AH), Agr W_X8_readSum_i9 h0 h → Fm Prod.snd W_X8_readSum_i9 h0 (cb 9 x1 h)) : ∀ (x3 : Int32) (h : AH), Agr W_X8_readSum_i9 h0 h → Fm Prod.snd W_X8_readSum_i9 h0 (f_X8_readAtom_34 cb x3 h) := by
  intro x3 h a_h
  unfold f_X8_readAtom_34
  refine fm_ite ?_ ?_
  · exact w_f_X8_readAtom_44_i9 hcb _ _ a_h
  · exact w_f_X8_readAtom_44_i9 hcb _ _ a_h
theorem w_f_X8_readAtom_i9 {h0 : AH} {cb : Nat → Int32 → AH → Option (Int32 × AH)} (hcb : ∀ (x1 : Int32) (h : AH), Agr W_X8_readSum_i9 h0 h → Fm Prod.snd W_X8_readSum_i9 h0 (cb 9 x1 h)) : ∀ (x1 : Int32) (h : AH), Agr W_X8_readSum_i9 h0 h → Fm Prod.snd W_X8_readSum_i9 h0 (f_X8_readAtom cb 9 x1 h) := by
  intro x1 h a_h
  unfold f_X8_readAtom
  refine fm_ob (w_f_X10_next_i1 _) rfl a_h (fun r_3 h_2 a_h_2 => ?_)
  refine fm_ob (w_f_X11_isDigit _ _) rfl a_h_2 (fun r_6 h_5 a_h_5 => ?_)
  refine fm_ite ?_ ?_
  · refine fm_ob (w_f_X11_indexIn_i1001 _ _) rfl a_h_5 (fun r_10 h_9 a_h_9 => ?_)
    refine fm_ite ?_ ?_
    · refine fm_ite ?_ ?_
      · refine fm_ite ?_ ?_
        · exact w_f_X8_readAtom_93_i9 hcb _ a_h_9
        · refine fm_nh (agr_sI a_h_9 rfl) (fun h_14 a_h_14 => ?_)
          refine fm_obi (hcb _ _ a_h_14) (fun r_18 h_17 a_h_17 => ?_)
          refine fm_ite ?_ ?_
          · exact w_f_X8_readAtom_134_i9 hcb _ a_h_17
          · refine fm_ob (w_f_X10_pass_i1 _ _) rfl a_h_17 (fun r_22 h_21 a_h_21 => ?_)
            refine fm_ite ?_ ?_
            · exact w_f_X8_readAtom_134_i9 hcb _ a_h_21
            · exact w_f_X8_readAtom_135_i9 hcb _ _ a_h_21
      · exact w_f_X8_readAtom_93_i9 hcb _ a_h_9
    · refine fm_nh (agr_sI a_h_9 rfl) (fun h_24 a_h_24 => ?_)
      refine fm_ov (w_f_X8_write_i9 _ _) rfl a_h_24 (fun h_27 a_h_27 => ?_)
      exact fm_some a_h_27
  · refine fm_ob (w_f_X10_readNumber_i1 _ _) rfl a_h_5 (fun r_30 h_29 a_h_29 => ?_)
    refine fm_ite ?_ ?_
    · exact w_f_X8_readAtom_34_i9 hcb _ _ a_h_29
    · refine fm_ov (w_f_X8_write_i9 _ _) rfl a_h_29 (fun h_33 a_h_33 => ?_)
      exact w_f_X8_readAtom_34_i9 hcb _ _ a_h_33
theorem w_f_X8_readTerm_82_i9 {h0 : AH} {cb : Nat → Int32 → AH → Option (Int32 × AH)} (hcb : ∀ (x1 : Int32) (h : AH), Agr W_X8_readSum_i9 h0 h → Fm Prod.snd W_X8_readSum_i9 h0 (cb 9 x1 h)) : ∀ (h : AH), Agr W_X8_readSum_i9 h0 h → Fm Prod.snd W_X8_readSum_i9 h0 (f_X8_readTerm_82 cb h) := by
  intro h a_h
  unfold f_X8_readTerm_82
  exact fm_some a_h
theorem w_f_X8_readTerm_39_i9 {h0 : AH} {cb : Nat → Int32 → AH → Option (Int32 × AH)} (hcb : ∀ (x1 : Int32) (h : AH), Agr W_X8_readSum_i9 h0 h → Fm Prod.snd W_X8_readSum_i9 h0 (cb 9 x1 h)) {q20 : Nat → Int32 → Int32 → Int32 → AH → Option (Int32 × AH)} (hq20 : ∀ (y1 : Int32) (y2 : Int32) (y3 : Int32) (y4 : AH), Agr W_X8_readSum_i9 h0 y4 → Fm Prod.snd W_X8_readSum_i9 h0 (q20 9 y1 y2 y3 y4)) : ∀ (x1 : Int32) (x2 : Int32) (x3 : Int32) (h : AH), Agr W_X8_readSum_i9 h0 h → Fm Prod.snd W_X8_readSum_i9 h0 (f_X8_readTerm_39 cb q20 9 x1 x2 x3 h) := by
  intro x1 x2 x3 h a_h
  unfold f_X8_readTerm_39
  refine fm_nh (agr_sI a_h rfl) (fun h_1 a_h_1 => ?_)
  refine fm_obi (w_f_X8_readAtom_i9 hcb _ _ a_h_1) (fun r_5 h_4 a_h_4 => ?_)
  refine fm_ite ?_ ?_
  · exact fm_some a_h_4
  · refine fm_ov (w_f_X8_write_i9 _ _) rfl a_h_4 (fun h_8 a_h_8 => ?_)
    refine fm_ob (w_f_X10_next_i1 _) rfl a_h_8 (fun r_11 h_10 a_h_10 => ?_)
    refine fm_nm (fun x3_12 => ?_)
    exact hq20 _ _ _ _ a_h_10
theorem w_f_X8_readTerm_20_i9 {h0 : AH} {cb : Nat → Int32 → AH → Option (Int32 × AH)} (hcb : ∀ (x1 : Int32) (h : AH), Agr W_X8_readSum_i9 h0 h → Fm Prod.snd W_X8_readSum_i9 h0 (cb 9 x1 h)) : ∀ (n : Nat) (x1 : Int32) (x2 : Int32) (x3 : Int32) (h : AH), Agr W_X8_readSum_i9 h0 h → Fm Prod.snd W_X8_readSum_i9 h0 (f_X8_readTerm_20 cb n 9 x1 x2 x3 h) := by
  intro n
  induction n with
  | zero => intro x1 x2 x3 h _; exact fm_none
  | succ n ih =>
    intro x1 x2 x3 h a_h
    rw [f_X8_readTerm_20]
    refine fm_ite ?_ ?_
    · exact w_f_X8_readTerm_82_i9 hcb _ a_h
    · refine fm_ite ?_ ?_
      · exact w_f_X8_readTerm_39_i9 hcb (fun y0 y1 y2 y3 a => ih y0 y1 y2 y3 a) _ _ _ _ a_h
      · refine fm_ite ?_ ?_
        · exact w_f_X8_readTerm_39_i9 hcb (fun y0 y1 y2 y3 a => ih y0 y1 y2 y3 a) _ _ _ _ a_h
        · exact w_f_X8_readTerm_82_i9 hcb _ a_h
theorem w_f_X8_readTerm_i9 {h0 : AH} {cb : Nat → Int32 → AH → Option (Int32 × AH)} (hcb : ∀ (x1 : Int32) (h : AH), Agr W_X8_readSum_i9 h0 h → Fm Prod.snd W_X8_readSum_i9 h0 (cb 9 x1 h)) : ∀ (x1 : Int32) (h : AH), Agr W_X8_readSum_i9 h0 h → Fm Prod.snd W_X8_readSum_i9 h0 (f_X8_readTerm cb 9 x1 h) := by
  intro x1 h a_h
  unfold f_X8_readTerm
  refine fm_obi (w_f_X8_readAtom_i9 hcb _ _ a_h) (fun r_3 h_2 a_h_2 => ?_)
  refine fm_ite ?_ ?_
  · exact fm_some a_h_2
  · refine fm_ob (w_f_X10_next_i1 _) rfl a_h_2 (fun r_7 h_6 a_h_6 => ?_)
    exact w_f_X8_readTerm_20_i9 hcb FU _ _ _ _ a_h_6
theorem w_f_X8_readSum_82_i9 {h0 : AH} {cb : Nat → Int32 → AH → Option (Int32 × AH)} (hcb : ∀ (x1 : Int32) (h : AH), Agr W_X8_readSum_i9 h0 h → Fm Prod.snd W_X8_readSum_i9 h0 (cb 9 x1 h)) : ∀ (h : AH), Agr W_X8_readSum_i9 h0 h → Fm Prod.snd W_X8_readSum_i9 h0 (f_X8_readSum_82 cb h) := by
  intro h a_h
  unfold f_X8_readSum_82
  exact fm_some a_h
theorem w_f_X8_readSum_39_i9 {h0 : AH} {cb : Nat → Int32 → AH → Option (Int32 × AH)} (hcb : ∀ (x1 : Int32) (h : AH), Agr W_X8_readSum_i9 h0 h → Fm Prod.snd W_X8_readSum_i9 h0 (cb 9 x1 h)) {q20 : Nat → Int32 → Int32 → Int32 → AH → Option (Int32 × AH)} (hq20 : ∀ (y1 : Int32) (y2 : Int32) (y3 : Int32) (y4 : AH), Agr W_X8_readSum_i9 h0 y4 → Fm Prod.snd W_X8_readSum_i9 h0 (q20 9 y1 y2 y3 y4)) : ∀ (x1 : Int32) (x2 : Int32) (x3 : Int32) (h : AH), Agr W_X8_readSum_i9 h0 h → Fm Prod.snd W_X8_readSum_i9 h0 (f_X8_readSum_39 cb q20 9 x1 x2 x3 h) := by
  intro x1 x2 x3 h a_h
  unfold f_X8_readSum_39
  refine fm_nh (agr_sI a_h rfl) (fun h_1 a_h_1 => ?_)
  refine fm_obi (w_f_X8_readTerm_i9 hcb _ _ a_h_1) (fun r_5 h_4 a_h_4 => ?_)
  refine fm_ite ?_ ?_
  · exact fm_some a_h_4
  · refine fm_ov (w_f_X8_write_i9 _ _) rfl a_h_4 (fun h_8 a_h_8 => ?_)
    refine fm_ob (w_f_X10_next_i1 _) rfl a_h_8 (fun r_11 h_10 a_h_10 => ?_)
    refine fm_nm (fun x3_12 => ?_)
    exact hq20 _ _ _ _ a_h_10
theorem w_f_X8_readSum_20_i9 {h0 : AH} {cb : Nat → Int32 → AH → Option (Int32 × AH)} (hcb : ∀ (x1 : Int32) (h : AH), Agr W_X8_readSum_i9 h0 h → Fm Prod.snd W_X8_readSum_i9 h0 (cb 9 x1 h)) : ∀ (n : Nat) (x1 : Int32) (x2 : Int32) (x3 : Int32) (h : AH), Agr W_X8_readSum_i9 h0 h → Fm Prod.snd W_X8_readSum_i9 h0 (f_X8_readSum_20 cb n 9 x1 x2 x3 h) := by
  intro n
  induction n with
  | zero => intro x1 x2 x3 h _; exact fm_none
  | succ n ih =>
    intro x1 x2 x3 h a_h
    rw [f_X8_readSum_20]
    refine fm_ite ?_ ?_
    · exact w_f_X8_readSum_82_i9 hcb _ a_h
    · refine fm_ite ?_ ?_
      · exact w_f_X8_readSum_39_i9 hcb (fun y0 y1 y2 y3 a => ih y0 y1 y2 y3 a) _ _ _ _ a_h
      · refine fm_ite ?_ ?_
        · exact w_f_X8_readSum_39_i9 hcb (fun y0 y1 y2 y3 a => ih y0 y1 y2 y3 a) _ _ _ _ a_h
        · exact w_f_X8_readSum_82_i9 hcb _ a_h
theorem w_f_X8_readSum_i9 {h0 : AH} {cb : Nat → Int32 → AH → Option (Int32 × AH)} (hcb : ∀ (x1 : Int32) (h : AH), Agr W_X8_readSum_i9 h0 h → Fm Prod.snd W_X8_readSum_i9 h0 (cb 9 x1 h)) : ∀ (x1 : Int32) (h : AH), Agr W_X8_readSum_i9 h0 h → Fm Prod.snd W_X8_readSum_i9 h0 (f_X8_readSum cb 9 x1 h) := by
  intro x1 h a_h
  unfold f_X8_readSum
  refine fm_obi (w_f_X8_readTerm_i9 hcb _ _ a_h) (fun r_3 h_2 a_h_2 => ?_)
  refine fm_ite ?_ ?_
  · exact fm_some a_h_2
  · refine fm_ob (w_f_X10_next_i1 _) rfl a_h_2 (fun r_7 h_6 a_h_6 => ?_)
    exact w_f_X8_readSum_20_i9 hcb FU _ _ _ _ a_h_6
theorem w_r_X8_readSum_i9 {h0 : AH} : ∀ (n : Nat) (x1 : Int32) (h : AH), Agr W_X8_readSum_i9 h0 h → Fm Prod.snd W_X8_readSum_i9 h0 (r_X8_readSum n 9 x1 h) := by
  intro n
  induction n with
  | zero => intro x1 h _; exact fm_none
  | succ n ih =>
    intro x1 h a
    rw [r_X8_readSum]
    exact w_f_X8_readSum_i9 (fun x1 h a => ih x1 h a) _ _ a
def W_X8_readAnswer_i9 : List (Nat × Nat) := (1, 2) :: (9, 2) :: (10, 1000) :: []
theorem w_f_X8_readAnswer_i9 (h : AH) : Fm Prod.snd W_X8_readAnswer_i9 h (f_X8_readAnswer 9 h) := by
  unfold f_X8_readAnswer
  have a_h : Agr W_X8_readAnswer_i9 h h := agr_refl h
  refine fm_ob (w_f_X10_pass_i1 _ _) rfl a_h (fun r_3 h_2 a_h_2 => ?_)
  refine fm_ite ?_ ?_
  · exact fm_some a_h_2
  · refine fm_ov (w_f_X8_write_i9 _ _) rfl a_h_2 (fun h_6 a_h_6 => ?_)
    refine fm_ob (w_r_X8_readSum_i9 12 _ _ (agr_refl _)) rfl a_h_6 (fun r_9 h_8 a_h_8 => ?_)
    refine fm_og (fun hb1 => ?_)
    exact fm_some a_h_8
theorem w_f_X8_readUnit_96_i9 {h0 : AH} {cb : Nat → Int32 → AH → Option (Int32 × AH)} (hcb : ∀ (x1 : Int32) (h : AH), Agr W_X8_readUnit_i9 h0 h → Fm Prod.snd W_X8_readUnit_i9 h0 (cb 9 x1 h)) : ∀ (s0 : Int32) (h : AH), Agr W_X8_readUnit_i9 h0 h → Fm Prod.snd W_X8_readUnit_i9 h0 (f_X8_readUnit_96 cb s0 h) := by
  intro s0 h a_h
  unfold f_X8_readUnit_96
  refine fm_og (fun hb1 => ?_)
  exact fm_some a_h
theorem w_f_X8_readUnit_95_i9 {h0 : AH} {cb : Nat → Int32 → AH → Option (Int32 × AH)} (hcb : ∀ (x1 : Int32) (h : AH), Agr W_X8_readUnit_i9 h0 h → Fm Prod.snd W_X8_readUnit_i9 h0 (cb 9 x1 h)) : ∀ (h : AH), Agr W_X8_readUnit_i9 h0 h → Fm Prod.snd W_X8_readUnit_i9 h0 (f_X8_readUnit_95 cb h) := by
  intro h a_h
  unfold f_X8_readUnit_95
  exact w_f_X8_readUnit_96_i9 hcb _ _ a_h
theorem w_f_X8_readUnit_42_i9 {h0 : AH} {cb : Nat → Int32 → AH → Option (Int32 × AH)} (hcb : ∀ (x1 : Int32) (h : AH), Agr W_X8_readUnit_i9 h0 h → Fm Prod.snd W_X8_readUnit_i9 h0 (cb 9 x1 h)) : ∀ (x1 : Int32) (x2 : Int32) (h : AH), Agr W_X8_readUnit_i9 h0 h → Fm Prod.snd W_X8_readUnit_i9 h0 (f_X8_readUnit_42 cb 9 x1 x2 h) := by
  intro x1 x2 h a_h
  unfold f_X8_readUnit_42
  refine fm_ite ?_ ?_
  · exact fm_some a_h
  · refine fm_nh (agr_sI a_h rfl) (fun h_2 a_h_2 => ?_)
    refine fm_ite ?_ ?_
    · refine fm_obi (w_f_X8_readCondition_i9 hcb _ _ a_h_2) (fun r_13 h_12 a_h_12 => ?_)
      refine fm_ite ?_ ?_
      · exact w_f_X8_readUnit_95_i9 hcb _ a_h_12
      · refine fm_ob (w_f_X10_pass_i1 _ _) rfl a_h_12 (fun r_17 h_16 a_h_16 => ?_)
        refine fm_ite ?_ ?_
        · exact w_f_X8_readUnit_95_i9 hcb _ a_h_16
        · exact w_f_X8_readUnit_96_i9 hcb _ _ a_h_16
    · refine fm_obi (hcb _ _ a_h_2) (fun r_7 h_6 a_h_6 => ?_)
      refine fm_ite ?_ ?_
      · exact fm_some a_h_6
      · refine fm_ov (w_f_X8_write_i9 _ _) rfl a_h_6 (fun h_10 a_h_10 => ?_)
        exact fm_some a_h_10
theorem w_f_X8_readUnit_41_i9 {h0 : AH} {cb : Nat → Int32 → AH → Option (Int32 × AH)} (hcb : ∀ (x1 : Int32) (h : AH), Agr W_X8_readUnit_i9 h0 h → Fm Prod.snd W_X8_readUnit_i9 h0 (cb 9 x1 h)) : ∀ (s0 : Int32) (h : AH), Agr W_X8_readUnit_i9 h0 h → Fm Prod.snd W_X8_readUnit_i9 h0 (f_X8_readUnit_41 cb s0 h) := by
  intro s0 h a_h
  unfold f_X8_readUnit_41
  refine fm_og (fun hb1 => ?_)
  exact fm_some a_h
theorem w_f_X8_readUnit_40_i9 {h0 : AH} {cb : Nat → Int32 → AH → Option (Int32 × AH)} (hcb : ∀ (x1 : Int32) (h : AH), Agr W_X8_readUnit_i9 h0 h → Fm Prod.snd W_X8_readUnit_i9 h0 (cb 9 x1 h)) : ∀ (h : AH), Agr W_X8_readUnit_i9 h0 h → Fm Prod.snd W_X8_readUnit_i9 h0 (f_X8_readUnit_40 cb h) := by
  intro h a_h
  unfold f_X8_readUnit_40
  exact w_f_X8_readUnit_41_i9 hcb _ _ a_h
def W_X8_isRelation : List (Nat × Nat) := []
theorem w_f_X8_isRelation_23 {h0 : AH} : ∀ (s0 : Int32) (h : AH), Agr W_X8_isRelation h0 h → Fm Prod.snd W_X8_isRelation h0 (f_X8_isRelation_23 s0 h) := by
  intro s0 h a_h
  unfold f_X8_isRelation_23
  refine fm_og (fun hb1 => ?_)
  exact fm_some a_h
theorem w_f_X8_isRelation_18 {h0 : AH} : ∀ (h : AH), Agr W_X8_isRelation h0 h → Fm Prod.snd W_X8_isRelation h0 (f_X8_isRelation_18 h) := by
  intro h a_h
  unfold f_X8_isRelation_18
  exact w_f_X8_isRelation_23  _ _ a_h
theorem w_f_X8_isRelation (x0 : Int32) (h : AH) : Fm Prod.snd W_X8_isRelation h (f_X8_isRelation x0 h) := by
  unfold f_X8_isRelation
  have a_h : Agr W_X8_isRelation h h := agr_refl h
  refine fm_ite ?_ ?_
  · exact w_f_X8_isRelation_18  _ a_h
  · refine fm_ite ?_ ?_
    · exact w_f_X8_isRelation_18  _ a_h
    · refine fm_ite ?_ ?_
      · exact w_f_X8_isRelation_18  _ a_h
      · exact w_f_X8_isRelation_23  _ _ a_h
def W_X8_readRelation_i9 : List (Nat × Nat) := (1, 2) :: (9, 2) :: (10, 1000) :: []
theorem w_f_X8_readRelation_i9 (x1 : Int32) (h : AH) : Fm Prod.snd W_X8_readRelation_i9 h (f_X8_readRelation 9 x1 h) := by
  unfold f_X8_readRelation
  have a_h : Agr W_X8_readRelation_i9 h h := agr_refl h
  refine fm_ob (w_f_X10_next_i1 _) rfl a_h (fun r_3 h_2 a_h_2 => ?_)
  refine fm_ob (w_f_X8_isRelation _ _) rfl a_h_2 (fun r_6 h_5 a_h_5 => ?_)
  refine fm_ite ?_ ?_
  · exact fm_some a_h_5
  · refine fm_nh (agr_sI a_h_5 rfl) (fun h_8 a_h_8 => ?_)
    refine fm_ob (w_r_X8_readSum_i9 12 _ _ (agr_refl _)) rfl a_h_8 (fun r_12 h_11 a_h_11 => ?_)
    refine fm_ite ?_ ?_
    · exact fm_some a_h_11
    · refine fm_ov (w_f_X8_write_i9 _ _) rfl a_h_11 (fun h_15 a_h_15 => ?_)
      exact fm_some a_h_15
theorem w_f_X8_readUnit_i9 {h0 : AH} {cb : Nat → Int32 → AH → Option (Int32 × AH)} (hcb : ∀ (x1 : Int32) (h : AH), Agr W_X8_readUnit_i9 h0 h → Fm Prod.snd W_X8_readUnit_i9 h0 (cb 9 x1 h)) : ∀ (x1 : Int32) (h : AH), Agr W_X8_readUnit_i9 h0 h → Fm Prod.snd W_X8_readUnit_i9 h0 (f_X8_readUnit cb 9 x1 h) := by
  intro x1 h a_h
  unfold f_X8_readUnit
  refine fm_ob (w_f_X10_next_i1 _) rfl a_h (fun r_3 h_2 a_h_2 => ?_)
  refine fm_ite ?_ ?_
  · exact w_f_X8_readUnit_42_i9 hcb _ _ _ a_h_2
  · refine fm_ite ?_ ?_
    · exact w_f_X8_readUnit_42_i9 hcb _ _ _ a_h_2
    · refine fm_ob (w_r_X8_readSum_i9 12 _ _ (agr_refl _)) rfl a_h_2 (fun r_8 h_7 a_h_7 => ?_)
      refine fm_ite ?_ ?_
      · exact w_f_X8_readUnit_40_i9 hcb _ a_h_7
      · refine fm_ob (w_f_X8_readRelation_i9 _ _) rfl a_h_7 (fun r_12 h_11 a_h_11 => ?_)
        refine fm_ite ?_ ?_
        · exact w_f_X8_readUnit_40_i9 hcb _ a_h_11
        · exact w_f_X8_readUnit_41_i9 hcb _ _ a_h_11
theorem w_r_X8_readUnit_i9 {h0 : AH} : ∀ (n : Nat) (x1 : Int32) (h : AH), Agr W_X8_readUnit_i9 h0 h → Fm Prod.snd W_X8_readUnit_i9 h0 (r_X8_readUnit n 9 x1 h) := by
  intro n
  induction n with
  | zero => intro x1 h _; exact fm_none
  | succ n ih =>
    intro x1 h a
    rw [r_X8_readUnit]
    exact w_f_X8_readUnit_i9 (fun x1 h a => ih x1 h a) _ _ a
theorem w_f_X8_readClause_46_i9 {h0 : AH} : ∀ (h : AH), Agr W_X8_readClause_i9 h0 h → Fm Prod.snd W_X8_readClause_i9 h0 (f_X8_readClause_46 9 h) := by
  intro h a_h
  unfold f_X8_readClause_46
  refine fm_ob (w_f_X8_readCondition_i9 (fun y0 y1 a => w_r_X8_readUnit_i9 12 y0 y1 a) _ _ (agr_refl _)) rfl a_h (fun r_3 h_2 a_h_2 => ?_)
  refine fm_ite ?_ ?_
  · exact w_f_X8_readClause_65_i9  _ a_h_2
  · refine fm_ob (w_f_X8_readAnswer_i9 _) rfl a_h_2 (fun r_7 h_6 a_h_6 => ?_)
    refine fm_ite ?_ ?_
    · exact w_f_X8_readClause_65_i9  _ a_h_6
    · exact w_f_X8_readClause_66_i9  _ _ a_h_6
theorem w_f_X8_readClause_128_i9 {h0 : AH} : ∀ (s0 : Int32) (h : AH), Agr W_X8_readClause_i9 h0 h → Fm Prod.snd W_X8_readClause_i9 h0 (f_X8_readClause_128 s0 h) := by
  intro s0 h a_h
  unfold f_X8_readClause_128
  refine fm_og (fun hb1 => ?_)
  exact fm_some a_h
theorem w_f_X8_readClause_127_i9 {h0 : AH} : ∀ (h : AH), Agr W_X8_readClause_i9 h0 h → Fm Prod.snd W_X8_readClause_i9 h0 (f_X8_readClause_127 h) := by
  intro h a_h
  unfold f_X8_readClause_127
  exact w_f_X8_readClause_128_i9  _ _ a_h
theorem w_f_X8_readClause_i9 (h : AH) : Fm Prod.snd W_X8_readClause_i9 h (f_X8_readClause 9 h) := by
  unfold f_X8_readClause
  have a_h : Agr W_X8_readClause_i9 h h := agr_refl h
  refine fm_ob (w_f_X10_pass_i1 _ _) rfl a_h (fun r_3 h_2 a_h_2 => ?_)
  refine fm_ite ?_ ?_
  · exact w_f_X8_readClause_24_i9  _ a_h_2
  · refine fm_ob (w_f_X10_pass_i1 _ _) rfl a_h_2 (fun r_7 h_6 a_h_6 => ?_)
    refine fm_ite ?_ ?_
    · exact w_f_X8_readClause_24_i9  _ a_h_6
    · refine fm_ob (w_f_X10_next_i1 _) rfl a_h_6 (fun r_11 h_10 a_h_10 => ?_)
      refine fm_ite ?_ ?_
      · exact w_f_X8_readClause_46_i9  _ a_h_10
      · refine fm_ite ?_ ?_
        · exact w_f_X8_readClause_46_i9  _ a_h_10
        · refine fm_ob (w_r_X8_readSum_i9 12 _ _ (agr_refl _)) rfl a_h_10 (fun r_16 h_15 a_h_15 => ?_)
          refine fm_ite ?_ ?_
          · exact fm_some a_h_15
          · refine fm_ob (w_f_X10_next_i1 _) rfl a_h_15 (fun r_20 h_19 a_h_19 => ?_)
            refine fm_ob (w_f_X8_isRelation _ _) rfl a_h_19 (fun r_23 h_22 a_h_22 => ?_)
            refine fm_ite ?_ ?_
            · exact fm_some a_h_22
            · refine fm_ob (w_f_X8_readRelation_i9 _ _) rfl a_h_22 (fun r_27 h_26 a_h_26 => ?_)
              refine fm_ite ?_ ?_
              · exact w_f_X8_readClause_127_i9  _ a_h_26
              · refine fm_ob (w_f_X8_readMoreUnits_i9 (fun y0 y1 a => w_r_X8_readUnit_i9 12 y0 y1 a) _ _ (agr_refl _)) rfl a_h_26 (fun r_31 h_30 a_h_30 => ?_)
                refine fm_ite ?_ ?_
                · exact w_f_X8_readClause_127_i9  _ a_h_30
                · refine fm_ob (w_f_X8_readMoreTruths_i9 (fun y0 y1 a => w_r_X8_readUnit_i9 12 y0 y1 a) _ _ (agr_refl _)) rfl a_h_30 (fun r_35 h_34 a_h_34 => ?_)
                  refine fm_ite ?_ ?_
                  · exact w_f_X8_readClause_127_i9  _ a_h_34
                  · refine fm_ob (w_f_X8_readAnswer_i9 _) rfl a_h_34 (fun r_39 h_38 a_h_38 => ?_)
                    refine fm_ite ?_ ?_
                    · exact w_f_X8_readClause_127_i9  _ a_h_38
                    · exact w_f_X8_readClause_128_i9  _ _ a_h_38
def W_X8_read_i9 : List (Nat × Nat) := (1, 2) :: (9, 2) :: (10, 1000) :: []
theorem w_f_X8_read_77_i9 {h0 : AH} : ∀ (s0 : Int32) (h : AH), Agr W_X8_read_i9 h0 h → Fm Prod.snd W_X8_read_i9 h0 (f_X8_read_77 s0 h) := by
  intro s0 h a_h
  unfold f_X8_read_77
  exact fm_some a_h
theorem w_f_X8_read_15_i9 {h0 : AH} : ∀ (n : Nat) (x1 : Int32) (h : AH), Agr W_X8_read_i9 h0 h → Fm Prod.snd W_X8_read_i9 h0 (f_X8_read_15 n 9 x1 h) := by
  intro n
  induction n with
  | zero => intro x1 h _; exact fm_none
  | succ n ih =>
    intro x1 h a_h
    rw [f_X8_read_15]
    refine fm_ite ?_ ?_
    · exact fm_some a_h
    · refine fm_ob (w_f_X8_readClause_i9 _) rfl a_h (fun r_4 h_3 a_h_3 => ?_)
      refine fm_ite ?_ ?_
      · exact fm_some a_h_3
      · refine fm_ov (w_f_X8_write_i9 _ _) rfl a_h_3 (fun h_7 a_h_7 => ?_)
        refine fm_ob (w_f_X10_pass_i1 _ _) rfl a_h_7 (fun r_10 h_9 a_h_9 => ?_)
        refine fm_ite ?_ ?_
        · refine fm_ob (w_f_X10_next_i1 _) rfl a_h_9 (fun r_16 h_15 a_h_15 => ?_)
          refine fm_ite ?_ ?_
          · exact w_f_X8_read_77_i9  _ _ a_h_15
          · exact w_f_X8_read_77_i9  _ _ a_h_15
        · refine fm_nm (fun x1_12 => ?_)
          exact ih _ _ a_h_9
theorem w_f_X8_read_i9 (h : AH) : Fm Prod.snd W_X8_read_i9 h (f_X8_read 9 h) := by
  unfold f_X8_read
  have a_h : Agr W_X8_read_i9 h h := agr_refl h
  refine fm_nh (agr_sI a_h rfl) (fun h_1 a_h_1 => ?_)
  refine fm_nh (agr_sI a_h_1 rfl) (fun h_3 a_h_3 => ?_)
  exact w_f_X8_read_15_i9  FU _ _ a_h_3
def W_X11_fault_i0 : List (Nat × Nat) := (1, 2) :: (6, 2) :: (7, 1000) :: (9, 2) :: (10, 1000) :: []
theorem w_f_X11_fault_33_i0 {h0 : AH} : ∀ (s0 : Int32) (h : AH), Agr W_X11_fault_i0 h0 h → Fm Prod.snd W_X11_fault_i0 h0 (f_X11_fault_33 s0 h) := by
  intro s0 h a_h
  unfold f_X11_fault_33
  exact fm_some a_h
theorem w_f_X11_fault_i0 (x1 : Int32) (h : AH) : Fm Prod.snd W_X11_fault_i0 h (f_X11_fault 0 x1 h) := by
  unfold f_X11_fault
  have a_h : Agr W_X11_fault_i0 h h := agr_refl h
  refine fm_ite ?_ ?_
  · refine fm_ob (w_f_X6_read_i6_1 _) rfl a_h (fun r_8 h_7 a_h_7 => ?_)
    exact fm_some a_h_7
  · refine fm_ite ?_ ?_
    · refine fm_ob (w_f_X8_read_i9 _) rfl a_h (fun r_5 h_4 a_h_4 => ?_)
      exact w_f_X11_fault_33_i0  _ _ a_h_4
    · exact w_f_X11_fault_33_i0  _ _ a_h
def W_X12_isIn : List (Nat × Nat) := []
theorem w_f_X12_isIn_18 {h0 : AH} : ∀ (s0 : Int32) (h : AH), Agr W_X12_isIn h0 h → Fm Prod.snd W_X12_isIn h0 (f_X12_isIn_18 s0 h) := by
  intro s0 h a_h
  unfold f_X12_isIn_18
  refine fm_og (fun hb1 => ?_)
  exact fm_some a_h
theorem w_f_X12_isIn_17 {h0 : AH} : ∀ (h : AH), Agr W_X12_isIn h0 h → Fm Prod.snd W_X12_isIn h0 (f_X12_isIn_17 h) := by
  intro h a_h
  unfold f_X12_isIn_17
  exact w_f_X12_isIn_18  _ _ a_h
theorem w_f_X12_isIn (l0 : Int64) (l2 : Int64) (l4 : Int64) (h : AH) : Fm Prod.snd W_X12_isIn h (f_X12_isIn l0 l2 l4 h) := by
  unfold f_X12_isIn
  have a_h : Agr W_X12_isIn h h := agr_refl h
  refine fm_ite ?_ ?_
  · exact w_f_X12_isIn_17  _ a_h
  · refine fm_ite ?_ ?_
    · exact w_f_X12_isIn_17  _ a_h
    · exact w_f_X12_isIn_18  _ _ a_h
def W_X12_opens_i56_57 : List (Nat × Nat) := (56, 8) :: (56, 9) :: (56, 10) :: (56, 11) :: (201, 0) :: []
theorem w_f_X12_opens_i56_57 (x2 : Int32) (x3 : Int32) (h : AH) : Fm id W_X12_opens_i56_57 h (f_X12_opens 56 57 x2 x3 h) := by
  unfold f_X12_opens
  have a_h : Agr W_X12_opens_i56_57 h h := agr_refl h
  refine fm_nh (agr_sR a_h rfl) (fun h_1 a_h_1 => ?_)
  refine fm_nh (agr_sI a_h_1 rfl) (fun h_3 a_h_3 => ?_)
  refine fm_nh (agr_sI a_h_3 rfl) (fun h_5 a_h_5 => ?_)
  refine fm_nh (agr_sI a_h_5 rfl) (fun h_7 a_h_7 => ?_)
  refine fm_nh (agr_sI a_h_7 rfl) (fun h_9 a_h_9 => ?_)
  exact fm_some a_h_9
def W_X12_look_i56 : List (Nat × Nat) := (56, 10) :: []
theorem w_f_X12_look_76_i56 {h0 : AH} : ∀ (s0 : Int32) (h : AH), Agr W_X12_look_i56 h0 h → Fm Prod.snd W_X12_look_i56 h0 (f_X12_look_76 s0 h) := by
  intro s0 h a_h
  unfold f_X12_look_76
  exact fm_some a_h
theorem w_f_X12_look_43_i56 {h0 : AH} : ∀ (h : AH), Agr W_X12_look_i56 h0 h → Fm Prod.snd W_X12_look_i56 h0 (f_X12_look_43 56 h) := by
  intro h a_h
  unfold f_X12_look_43
  refine fm_ite ?_ ?_
  · exact w_f_X12_look_76_i56  _ _ a_h
  · refine fm_og (fun hb1 => ?_)
    refine fm_og (fun hb2 => ?_)
    exact w_f_X12_look_76_i56  _ _ a_h
theorem w_f_X12_look_0_i56 {h0 : AH} : ∀ (n : Nat) (h : AH), Agr W_X12_look_i56 h0 h → Fm Prod.snd W_X12_look_i56 h0 (f_X12_look_0 n 56 h) := by
  intro n
  induction n with
  | zero => intro h _; exact fm_none
  | succ n ih =>
    intro h a_h
    rw [f_X12_look_0]
    refine fm_ite ?_ ?_
    · exact w_f_X12_look_43_i56  _ a_h
    · refine fm_og (fun hb1 => ?_)
      refine fm_og (fun hb2 => ?_)
      refine fm_ite ?_ ?_
      · refine fm_nh (agr_sI a_h rfl) (fun h_5 a_h_5 => ?_)
        exact ih _ a_h_5
      · exact w_f_X12_look_43_i56  _ a_h
theorem w_f_X12_look_i56 (h : AH) : Fm Prod.snd W_X12_look_i56 h (f_X12_look 56 h) := by
  unfold f_X12_look
  have a_h : Agr W_X12_look_i56 h h := agr_refl h
  exact w_f_X12_look_0_i56  FU _ a_h
def W_X12_readPeople_i56 : List (Nat × Nat) := (56, 8) :: (56, 9) :: (56, 10) :: (56, 11) :: (56, 21) :: (61, 1000) :: (201, 0) :: []
theorem w_f_X12_readPeople_123_i56 {h0 : AH} : ∀ (h : AH), Agr W_X12_readPeople_i56 h0 h → Fm id W_X12_readPeople_i56 h0 (f_X12_readPeople_123 h) := by
  intro h a_h
  unfold f_X12_readPeople_123
  exact fm_some a_h
def W_X12_fails_i56 : List (Nat × Nat) := (56, 11) :: []
theorem w_f_X12_fails_16_i56 {h0 : AH} : ∀ (h : AH), Agr W_X12_fails_i56 h0 h → Fm Prod.snd W_X12_fails_i56 h0 (f_X12_fails_16 h) := by
  intro h a_h
  unfold f_X12_fails_16
  exact fm_some a_h
theorem w_f_X12_fails_i56 (h : AH) : Fm Prod.snd W_X12_fails_i56 h (f_X12_fails 56 h) := by
  unfold f_X12_fails
  have a_h : Agr W_X12_fails_i56 h h := agr_refl h
  refine fm_ite ?_ ?_
  · refine fm_nh (agr_sI a_h rfl) (fun h_2 a_h_2 => ?_)
    exact w_f_X12_fails_16_i56  _ a_h_2
  · exact w_f_X12_fails_16_i56  _ a_h
theorem w_f_X12_readPeople_118_i56 {h0 : AH} : ∀ (h : AH), Agr W_X12_readPeople_i56 h0 h → Fm id W_X12_readPeople_i56 h0 (f_X12_readPeople_118 56 h) := by
  intro h a_h
  unfold f_X12_readPeople_118
  refine fm_ob (w_f_X12_fails_i56 _) rfl a_h (fun r_3 h_2 a_h_2 => ?_)
  exact w_f_X12_readPeople_123_i56  _ a_h_2
def W_X12_takes_i56 : List (Nat × Nat) := (56, 10) :: (56, 11) :: []
theorem w_f_X12_takes_16_i56 {h0 : AH} : ∀ (h : AH), Agr W_X12_takes_i56 h0 h → Fm Prod.snd W_X12_takes_i56 h0 (f_X12_takes_16 56 h) := by
  intro h a_h
  unfold f_X12_takes_16
  refine fm_ob (w_f_X12_fails_i56 _) rfl a_h (fun r_3 h_2 a_h_2 => ?_)
  refine fm_og (fun hb1 => ?_)
  exact fm_some a_h_2
theorem w_f_X12_takes_i56 (x1 : Int32) (h : AH) : Fm Prod.snd W_X12_takes_i56 h (f_X12_takes 56 x1 h) := by
  unfold f_X12_takes
  have a_h : Agr W_X12_takes_i56 h h := agr_refl h
  refine fm_ite ?_ ?_
  · refine fm_ob (w_f_X12_look_i56 _) rfl a_h (fun r_4 h_3 a_h_3 => ?_)
    refine fm_ite ?_ ?_
    · refine fm_nh (agr_sI a_h_3 rfl) (fun h_6 a_h_6 => ?_)
      exact fm_some a_h_6
    · exact w_f_X12_takes_16_i56  _ a_h_3
  · exact w_f_X12_takes_16_i56  _ a_h
def W_X12_placeOf_i1000 : List (Nat × Nat) := []
theorem w_f_X12_placeOf_2_i1000 {h0 : AH} : ∀ (n : Nat) (x1 : Int32) (x2 : Int32) (h : AH), Agr W_X12_placeOf_i1000 h0 h → Fm Prod.snd W_X12_placeOf_i1000 h0 (f_X12_placeOf_2 n 1000 x1 x2 h) := by
  intro n
  induction n with
  | zero => intro x1 x2 h _; exact fm_none
  | succ n ih =>
    intro x1 x2 h a_h
    rw [f_X12_placeOf_2]
    refine fm_ob (w_f_J0_length_8abf5 ) rfl a_h (fun r_3 h_2 a_h_2 => ?_)
    refine fm_ite ?_ ?_
    · exact fm_some a_h_2
    · refine fm_ob (w_f_J0_charAt_5068e ) rfl a_h_2 (fun r_7 h_6 a_h_6 => ?_)
      refine fm_ite ?_ ?_
      · exact fm_some a_h_6
      · refine fm_nm (fun x2_9 => ?_)
        exact ih _ _ _ a_h_6
theorem w_f_X12_placeOf_i1000 (x1 : Int32) (h : AH) : Fm Prod.snd W_X12_placeOf_i1000 h (f_X12_placeOf 1000 x1 h) := by
  unfold f_X12_placeOf
  have a_h : Agr W_X12_placeOf_i1000 h h := agr_refl h
  exact w_f_X12_placeOf_2_i1000  FU _ _ _ a_h
def W_X12_has : List (Nat × Nat) := []
theorem w_f_X12_has_14 {h0 : AH} : ∀ (s0 : Int32) (h : AH), Agr W_X12_has h0 h → Fm Prod.snd W_X12_has h0 (f_X12_has_14 s0 h) := by
  intro s0 h a_h
  unfold f_X12_has_14
  refine fm_og (fun hb1 => ?_)
  exact fm_some a_h
theorem w_f_X12_has (x0 : Int32) (x1 : Int32) (h : AH) : Fm Prod.snd W_X12_has h (f_X12_has x0 x1 h) := by
  unfold f_X12_has
  have a_h : Agr W_X12_has h h := agr_refl h
  refine fm_ite ?_ ?_
  · exact w_f_X12_has_14  _ _ a_h
  · exact w_f_X12_has_14  _ _ a_h
def W_X12_isDigit_i56 : List (Nat × Nat) := []
theorem w_f_X12_isDigit_54_i56 {h0 : AH} : ∀ (s0 : Int32) (h : AH), Agr W_X12_isDigit_i56 h0 h → Fm Prod.snd W_X12_isDigit_i56 h0 (f_X12_isDigit_54 s0 h) := by
  intro s0 h a_h
  unfold f_X12_isDigit_54
  refine fm_og (fun hb1 => ?_)
  exact fm_some a_h
theorem w_f_X12_isDigit_53_i56 {h0 : AH} : ∀ (h : AH), Agr W_X12_isDigit_i56 h0 h → Fm Prod.snd W_X12_isDigit_i56 h0 (f_X12_isDigit_53 h) := by
  intro h a_h
  unfold f_X12_isDigit_53
  exact w_f_X12_isDigit_54_i56  _ _ a_h
theorem w_f_X12_isDigit_i56 (h : AH) : Fm Prod.snd W_X12_isDigit_i56 h (f_X12_isDigit 56 h) := by
  unfold f_X12_isDigit
  have a_h : Agr W_X12_isDigit_i56 h h := agr_refl h
  refine fm_ite ?_ ?_
  · exact w_f_X12_isDigit_53_i56  _ a_h
  · refine fm_og (fun hb1 => ?_)
    refine fm_og (fun hb2 => ?_)
    refine fm_ite ?_ ?_
    · exact w_f_X12_isDigit_53_i56  _ a_h
    · refine fm_og (fun hb3 => ?_)
      refine fm_og (fun hb4 => ?_)
      refine fm_ite ?_ ?_
      · exact w_f_X12_isDigit_53_i56  _ a_h
      · exact w_f_X12_isDigit_54_i56  _ _ a_h
def W_X12_here_i56 : List (Nat × Nat) := []
theorem w_f_X12_here_33_i56 {h0 : AH} : ∀ (s0 : Int32) (h : AH), Agr W_X12_here_i56 h0 h → Fm Prod.snd W_X12_here_i56 h0 (f_X12_here_33 s0 h) := by
  intro s0 h a_h
  unfold f_X12_here_33
  exact fm_some a_h
theorem w_f_X12_here_i56 (h : AH) : Fm Prod.snd W_X12_here_i56 h (f_X12_here 56 h) := by
  unfold f_X12_here
  have a_h : Agr W_X12_here_i56 h h := agr_refl h
  refine fm_ite ?_ ?_
  · exact w_f_X12_here_33_i56  _ _ a_h
  · refine fm_og (fun hb1 => ?_)
    refine fm_og (fun hb2 => ?_)
    exact w_f_X12_here_33_i56  _ _ a_h
def W_X12_mostOf : List (Nat × Nat) := []
theorem w_f_X12_mostOf_31 {h0 : AH} : ∀ (s0 : Int32) (h : AH), Agr W_X12_mostOf h0 h → Fm Prod.snd W_X12_mostOf h0 (f_X12_mostOf_31 s0 h) := by
  intro s0 h a_h
  unfold f_X12_mostOf_31
  exact fm_some a_h
theorem w_f_X12_mostOf_9 {h0 : AH} : ∀ (h : AH), Agr W_X12_mostOf h0 h → Fm Prod.snd W_X12_mostOf h0 (f_X12_mostOf_9 h) := by
  intro h a_h
  unfold f_X12_mostOf_9
  exact w_f_X12_mostOf_31  _ _ a_h
theorem w_f_X12_mostOf_24 {h0 : AH} : ∀ (h : AH), Agr W_X12_mostOf h0 h → Fm Prod.snd W_X12_mostOf h0 (f_X12_mostOf_24 h) := by
  intro h a_h
  unfold f_X12_mostOf_24
  exact w_f_X12_mostOf_31  _ _ a_h
theorem w_f_X12_mostOf (x0 : Int32) (h : AH) : Fm Prod.snd W_X12_mostOf h (f_X12_mostOf x0 h) := by
  unfold f_X12_mostOf
  have a_h : Agr W_X12_mostOf h h := agr_refl h
  refine fm_ite ?_ ?_
  · exact w_f_X12_mostOf_9  _ a_h
  · refine fm_ite ?_ ?_
    · exact w_f_X12_mostOf_9  _ a_h
    · refine fm_ite ?_ ?_
      · exact w_f_X12_mostOf_24  _ a_h
      · refine fm_ite ?_ ?_
        · exact w_f_X12_mostOf_24  _ a_h
        · exact w_f_X12_mostOf_31  _ _ a_h
def W_X12_readItem_i56 : List (Nat × Nat) := (56, 10) :: (56, 11) :: (61, 1000) :: []
theorem w_f_X12_readItem_101_i56 {h0 : AH} : ∀ (x1 : Int32) (x2 : Int32) (x4 : Int32) (sl0 : Int64) (sl1 : Int64) (h : AH), Agr W_X12_readItem_i56 h0 h → Fm id W_X12_readItem_i56 h0 (f_X12_readItem_101 56 x1 x2 x4 sl0 sl1 h) := by
  intro x1 x2 x4 sl0 sl1 h a_h
  unfold f_X12_readItem_101
  refine fm_ob (w_f_X12_mostOf _ _) rfl a_h (fun r_3 h_2 a_h_2 => ?_)
  refine fm_ob (w_f_X12_isIn _ _ _ _) rfl a_h_2 (fun r_6 h_5 a_h_5 => ?_)
  refine fm_ite ?_ ?_
  · refine fm_nh (agr_sI a_h_5 rfl) (fun h_11 a_h_11 => ?_)
    refine fm_ob (w_f_X12_fails_i56 _) rfl a_h_11 (fun r_15 h_14 a_h_14 => ?_)
    exact fm_some a_h_14
  · refine fm_og (fun hb1 => ?_)
    refine fm_nh (agr_sI a_h_5 rfl) (fun h_9 a_h_9 => ?_)
    exact fm_some a_h_9
theorem w_f_X12_readItem_94_i56 {h0 : AH} : ∀ (x1 : Int32) (x2 : Int32) (x4 : Int32) (sl0 : Int64) (h : AH), Agr W_X12_readItem_i56 h0 h → Fm id W_X12_readItem_i56 h0 (f_X12_readItem_94 56 x1 x2 x4 sl0 h) := by
  intro x1 x2 x4 sl0 h a_h
  unfold f_X12_readItem_94
  exact w_f_X12_readItem_101_i56  _ _ _ _ _ _ a_h
theorem w_f_X12_readItem_69_i56 {h0 : AH} : ∀ (x1 : Int32) (x2 : Int32) (x4 : Int32) (h : AH), Agr W_X12_readItem_i56 h0 h → Fm id W_X12_readItem_i56 h0 (f_X12_readItem_69 56 x1 x2 x4 h) := by
  intro x1 x2 x4 h a_h
  unfold f_X12_readItem_69
  refine fm_ob (w_f_X12_isDigit_i56 _) rfl a_h (fun r_3 h_2 a_h_2 => ?_)
  refine fm_ite ?_ ?_
  · refine fm_ite ?_ ?_
    · exact w_f_X12_readItem_94_i56  _ _ _ _ _ a_h_2
    · refine fm_ite ?_ ?_
      · exact w_f_X12_readItem_94_i56  _ _ _ _ _ a_h_2
      · exact w_f_X12_readItem_101_i56  _ _ _ _ _ _ a_h_2
  · refine fm_ob (w_f_X12_fails_i56 _) rfl a_h_2 (fun r_9 h_8 a_h_8 => ?_)
    exact fm_some a_h_8
theorem w_f_X12_readItem_i56 (x1 : Int32) (x2 : Int32) (h : AH) : Fm id W_X12_readItem_i56 h (f_X12_readItem 56 x1 x2 h) := by
  unfold f_X12_readItem
  have a_h : Agr W_X12_readItem_i56 h h := agr_refl h
  refine fm_ob (w_f_X12_look_i56 _) rfl a_h (fun r_3 h_2 a_h_2 => ?_)
  refine fm_ob (w_f_X12_isDigit_i56 _) rfl a_h_2 (fun r_6 h_5 a_h_5 => ?_)
  refine fm_ite ?_ ?_
  · refine fm_ob (w_f_X12_fails_i56 _) rfl a_h_5 (fun r_28 h_27 a_h_27 => ?_)
    exact fm_some a_h_27
  · refine fm_ob (w_f_X12_here_i56 _) rfl a_h_5 (fun r_10 h_9 a_h_9 => ?_)
    refine fm_nm (fun x4_11 => ?_)
    refine fm_nh (agr_sI a_h_9 rfl) (fun h_13 a_h_13 => ?_)
    refine fm_ob (w_f_X12_isDigit_i56 _) rfl a_h_13 (fun r_17 h_16 a_h_16 => ?_)
    refine fm_ite ?_ ?_
    · exact w_f_X12_readItem_69_i56  _ _ _ _ a_h_16
    · refine fm_ob (w_f_X12_here_i56 _) rfl a_h_16 (fun r_21 h_20 a_h_20 => ?_)
      refine fm_nm (fun x4_22 => ?_)
      refine fm_nh (agr_sI a_h_20 rfl) (fun h_24 a_h_24 => ?_)
      exact w_f_X12_readItem_69_i56  _ _ _ _ a_h_24
def W_X12_readPerson_i56 : List (Nat × Nat) := (56, 10) :: (56, 11) :: (61, 1000) :: []
theorem w_f_X12_readPerson_57_i56 {h0 : AH} : ∀ (n : Nat) (x2 : Int32) (x3 : Int32) (x4 : Int32) (h : AH), Agr W_X12_readPerson_i56 h0 h → Fm id W_X12_readPerson_i56 h0 (f_X12_readPerson_57 n 56 x2 x3 x4 h) := by
  intro n
  induction n with
  | zero => intro x2 x3 x4 h _; exact fm_none
  | succ n ih =>
    intro x2 x3 x4 h a_h
    rw [f_X12_readPerson_57]
    refine fm_ite ?_ ?_
    · exact fm_some a_h
    · refine fm_ob (w_f_X12_has _ _ _) rfl a_h (fun r_4 h_3 a_h_3 => ?_)
      refine fm_ite ?_ ?_
      · refine fm_nm (fun x3_6 => ?_)
        refine fm_nh (agr_sI a_h_3 rfl) (fun h_8 a_h_8 => ?_)
        refine fm_ov (w_f_X12_readItem_i56 _ _ _) rfl a_h_8 (fun h_11 a_h_11 => ?_)
        refine fm_ite ?_ ?_
        · refine fm_ob (w_f_X12_look_i56 _) rfl a_h_11 (fun r_15 h_14 a_h_14 => ?_)
          refine fm_ob (w_f_X12_placeOf_i1000 _ _) rfl a_h_14 (fun r_18 h_17 a_h_17 => ?_)
          exact ih _ _ _ _ a_h_17
        · exact fm_some a_h_11
      · refine fm_ob (w_f_X12_fails_i56 _) rfl a_h_3 (fun r_21 h_20 a_h_20 => ?_)
        exact fm_some a_h_20
def W_X12_usual : List (Nat × Nat) := []
theorem w_f_X12_usual (x0 : Int32) (h : AH) : Fm Prod.snd W_X12_usual h (f_X12_usual x0 h) := by
  unfold f_X12_usual
  have a_h : Agr W_X12_usual h h := agr_refl h
  refine fm_ite ?_ ?_
  · exact fm_some a_h
  · refine fm_ite ?_ ?_
    · exact fm_some a_h
    · refine fm_ite ?_ ?_
      · exact fm_some a_h
      · refine fm_ite ?_ ?_
        · exact fm_some a_h
        · refine fm_ite ?_ ?_
          · exact fm_some a_h
          · exact fm_some a_h
theorem w_f_X12_readPerson_10_i56 {h0 : AH} : ∀ (n : Nat) (x2 : Int32) (x3 : Int32) (h : AH), Agr W_X12_readPerson_i56 h0 h → Fm id W_X12_readPerson_i56 h0 (f_X12_readPerson_10 n 56 x2 x3 h) := by
  intro n
  induction n with
  | zero => intro x2 x3 h _; exact fm_none
  | succ n ih =>
    intro x2 x3 h a_h
    rw [f_X12_readPerson_10]
    refine fm_ite ?_ ?_
    · refine fm_ob (w_f_X12_takes_i56 _ _) rfl a_h (fun r_4 h_3 a_h_3 => ?_)
      refine fm_ite ?_ ?_
      · exact fm_some a_h_3
      · refine fm_ob (w_f_X12_look_i56 _) rfl a_h_3 (fun r_8 h_7 a_h_7 => ?_)
        refine fm_ob (w_f_X12_placeOf_i1000 _ _) rfl a_h_7 (fun r_11 h_10 a_h_10 => ?_)
        exact w_f_X12_readPerson_57_i56  FU _ _ _ _ a_h_10
    · refine fm_ob (w_f_X12_usual _ _) rfl a_h (fun r_14 h_13 a_h_13 => ?_)
      refine fm_og (fun hb1 => ?_)
      refine fm_nh (agr_sI a_h_13 rfl) (fun h_16 a_h_16 => ?_)
      refine fm_nm (fun x3_18 => ?_)
      exact ih _ _ _ a_h_16
theorem w_f_X12_readPerson_i56 (x1 : Int32) (h : AH) : Fm id W_X12_readPerson_i56 h (f_X12_readPerson 56 x1 h) := by
  unfold f_X12_readPerson
  have a_h : Agr W_X12_readPerson_i56 h h := agr_refl h
  refine fm_nm (fun x2_1 => ?_)
  exact w_f_X12_readPerson_10_i56  FU _ _ _ a_h
theorem w_f_X12_readPeople_85_i56 {h0 : AH} {q20 : Nat → Int32 → AH → Option AH} (hq20 : ∀ (y1 : Int32) (y2 : AH), Agr W_X12_readPeople_i56 h0 y2 → Fm id W_X12_readPeople_i56 h0 (q20 56 y1 y2)) : ∀ (x1 : Int32) (h : AH), Agr W_X12_readPeople_i56 h0 h → Fm id W_X12_readPeople_i56 h0 (f_X12_readPeople_85 q20 56 x1 h) := by
  intro x1 h a_h
  unfold f_X12_readPeople_85
  refine fm_ite ?_ ?_
  · exact hq20 _ _ a_h
  · refine fm_nh (agr_sI a_h rfl) (fun h_2 a_h_2 => ?_)
    exact hq20 _ _ a_h_2
theorem w_f_X12_readPeople_65_i56 {h0 : AH} {q20 : Nat → Int32 → AH → Option AH} (hq20 : ∀ (y1 : Int32) (y2 : AH), Agr W_X12_readPeople_i56 h0 y2 → Fm id W_X12_readPeople_i56 h0 (q20 56 y1 y2)) : ∀ (s0 : Int32) (h : AH), Agr W_X12_readPeople_i56 h0 h → Fm id W_X12_readPeople_i56 h0 (f_X12_readPeople_65 q20 56 s0 h) := by
  intro s0 h a_h
  unfold f_X12_readPeople_65
  refine fm_ite ?_ ?_
  · exact w_f_X12_readPeople_85_i56 hq20 _ _ a_h
  · refine fm_ite ?_ ?_
    · refine fm_ob (w_f_X12_fails_i56 _) rfl a_h (fun r_5 h_4 a_h_4 => ?_)
      exact fm_some a_h_4
    · exact w_f_X12_readPeople_85_i56 hq20 _ _ a_h
theorem w_f_X12_readPeople_20_i56 {h0 : AH} : ∀ (n : Nat) (x1 : Int32) (h : AH), Agr W_X12_readPeople_i56 h0 h → Fm id W_X12_readPeople_i56 h0 (f_X12_readPeople_20 n 56 x1 h) := by
  intro n
  induction n with
  | zero => intro x1 h _; exact fm_none
  | succ n ih =>
    intro x1 h a_h
    rw [f_X12_readPeople_20]
    refine fm_ite ?_ ?_
    · refine fm_ob (w_f_X12_look_i56 _) rfl a_h (fun r_4 h_3 a_h_3 => ?_)
      refine fm_ite ?_ ?_
      · refine fm_ite ?_ ?_
        · exact w_f_X12_readPeople_123_i56  _ a_h_3
        · exact w_f_X12_readPeople_118_i56  _ a_h_3
      · exact w_f_X12_readPeople_118_i56  _ a_h_3
    · refine fm_ov (w_f_X12_readPerson_i56 _ _) rfl a_h (fun h_8 a_h_8 => ?_)
      refine fm_ite ?_ ?_
      · refine fm_nh (agr_sI a_h_8 rfl) (fun h_10 a_h_10 => ?_)
        refine fm_ob (w_f_X12_look_i56 _) rfl a_h_10 (fun r_14 h_13 a_h_13 => ?_)
        refine fm_ite ?_ ?_
        · exact w_f_X12_readPeople_65_i56 (fun y0 y1 a => ih y0 y1 a) _ _ a_h_13
        · exact w_f_X12_readPeople_65_i56 (fun y0 y1 a => ih y0 y1 a) _ _ a_h_13
      · exact fm_some a_h_8
theorem w_f_X12_readPeople_i56 (h : AH) : Fm id W_X12_readPeople_i56 h (f_X12_readPeople 56 h) := by
  unfold f_X12_readPeople
  have a_h : Agr W_X12_readPeople_i56 h h := agr_refl h
  refine fm_ov (w_f_X12_opens_i56_57 _ _ _) rfl a_h (fun h_2 a_h_2 => ?_)
  refine fm_nh (agr_sI a_h_2 rfl) (fun h_3 a_h_3 => ?_)
  exact w_f_X12_readPeople_20_i56  FU _ _ a_h_3
def W_X12_fault_i56 : List (Nat × Nat) := (56, 0) :: (56, 8) :: (56, 9) :: (56, 10) :: (56, 11) :: (56, 12) :: (56, 13) :: (56, 14) :: (56, 18) :: (56, 21) :: (61, 1000) :: (201, 0) :: []
theorem w_f_X12_fault_42_i56 {h0 : AH} : ∀ (h : AH), Agr W_X12_fault_i56 h0 h → Fm Prod.snd W_X12_fault_i56 h0 (f_X12_fault_42 56 h) := by
  intro h a_h
  unfold f_X12_fault_42
  exact fm_some a_h
def W_X12_isAmong_i1002 : List (Nat × Nat) := []
theorem w_f_X12_isAmong_2_i1002 {h0 : AH} : ∀ (n : Nat) (x1 : Int32) (x2 : Int32) (h : AH), Agr W_X12_isAmong_i1002 h0 h → Fm Prod.snd W_X12_isAmong_i1002 h0 (f_X12_isAmong_2 n 1002 x1 x2 h) := by
  intro n
  induction n with
  | zero => intro x1 x2 h _; exact fm_none
  | succ n ih =>
    intro x1 x2 h a_h
    rw [f_X12_isAmong_2]
    refine fm_ob (w_f_J0_length_8abf5 ) rfl a_h (fun r_3 h_2 a_h_2 => ?_)
    refine fm_ite ?_ ?_
    · exact fm_some a_h_2
    · refine fm_ob (w_f_J0_charAt_5068e ) rfl a_h_2 (fun r_7 h_6 a_h_6 => ?_)
      refine fm_ite ?_ ?_
      · exact fm_some a_h_6
      · refine fm_nm (fun x2_9 => ?_)
        exact ih _ _ _ a_h_6
theorem w_f_X12_isAmong_i1002 (x1 : Int32) (h : AH) : Fm Prod.snd W_X12_isAmong_i1002 h (f_X12_isAmong 1002 x1 h) := by
  unfold f_X12_isAmong
  have a_h : Agr W_X12_isAmong_i1002 h h := agr_refl h
  exact w_f_X12_isAmong_2_i1002  FU _ _ _ a_h
def W_X12_unit_i56 : List (Nat × Nat) := (56, 10) :: (56, 11) :: (56, 12) :: []
theorem w_f_X12_part_65_i56 {h0 : AH} {cb : Nat → AH → Option (Int32 × AH)} (hcb : ∀ (h : AH), Agr W_X12_unit_i56 h0 h → Fm Prod.snd W_X12_unit_i56 h0 (cb 56 h)) {q18 : Nat → Int32 → AH → Option (Int32 × AH)} (hq18 : ∀ (y1 : Int32) (y2 : AH), Agr W_X12_unit_i56 h0 y2 → Fm Prod.snd W_X12_unit_i56 h0 (q18 56 y1 y2)) : ∀ (s0 : Int32) (h : AH), Agr W_X12_unit_i56 h0 h → Fm Prod.snd W_X12_unit_i56 h0 (f_X12_part_65 cb q18 56 s0 h) := by
  intro s0 h a_h
  unfold f_X12_part_65
  exact hq18 _ _ a_h
theorem w_f_X12_part_64_i56 {h0 : AH} {cb : Nat → AH → Option (Int32 × AH)} (hcb : ∀ (h : AH), Agr W_X12_unit_i56 h0 h → Fm Prod.snd W_X12_unit_i56 h0 (cb 56 h)) {q18 : Nat → Int32 → AH → Option (Int32 × AH)} (hq18 : ∀ (y1 : Int32) (y2 : AH), Agr W_X12_unit_i56 h0 y2 → Fm Prod.snd W_X12_unit_i56 h0 (q18 56 y1 y2)) : ∀ (h : AH), Agr W_X12_unit_i56 h0 h → Fm Prod.snd W_X12_unit_i56 h0 (f_X12_part_64 cb q18 56 h) := by
  intro h a_h
  unfold f_X12_part_64
  exact w_f_X12_part_65_i56 hcb hq18 _ _ a_h
theorem w_f_X12_part_69_i56 {h0 : AH} {cb : Nat → AH → Option (Int32 × AH)} (hcb : ∀ (h : AH), Agr W_X12_unit_i56 h0 h → Fm Prod.snd W_X12_unit_i56 h0 (cb 56 h)) : ∀ (x3 : Int32) (h : AH), Agr W_X12_unit_i56 h0 h → Fm Prod.snd W_X12_unit_i56 h0 (f_X12_part_69 cb x3 h) := by
  intro x3 h a_h
  unfold f_X12_part_69
  refine fm_og (fun hb1 => ?_)
  exact fm_some a_h
theorem w_f_X12_part_18_i56 {h0 : AH} {cb : Nat → AH → Option (Int32 × AH)} (hcb : ∀ (h : AH), Agr W_X12_unit_i56 h0 h → Fm Prod.snd W_X12_unit_i56 h0 (cb 56 h)) : ∀ (n : Nat) (x3 : Int32) (h : AH), Agr W_X12_unit_i56 h0 h → Fm Prod.snd W_X12_unit_i56 h0 (f_X12_part_18 cb n 56 x3 h) := by
  intro n
  induction n with
  | zero => intro x3 h _; exact fm_none
  | succ n ih =>
    intro x3 h a_h
    rw [f_X12_part_18]
    refine fm_ite ?_ ?_
    · refine fm_ob (w_f_X12_look_i56 _) rfl a_h (fun r_4 h_3 a_h_3 => ?_)
      refine fm_ite ?_ ?_
      · refine fm_nh (agr_sI a_h_3 rfl) (fun h_6 a_h_6 => ?_)
        refine fm_obi (hcb _ a_h_6) (fun r_10 h_9 a_h_9 => ?_)
        refine fm_ite ?_ ?_
        · exact w_f_X12_part_64_i56 hcb (fun y0 y1 a => ih y0 y1 a) _ a_h_9
        · refine fm_ite ?_ ?_
          · exact w_f_X12_part_64_i56 hcb (fun y0 y1 a => ih y0 y1 a) _ a_h_9
          · exact w_f_X12_part_65_i56 hcb (fun y0 y1 a => ih y0 y1 a) _ _ a_h_9
      · exact w_f_X12_part_69_i56 hcb _ _ a_h_3
    · exact w_f_X12_part_69_i56 hcb _ _ a_h
theorem w_f_X12_part_17_i56 {h0 : AH} {cb : Nat → AH → Option (Int32 × AH)} (hcb : ∀ (h : AH), Agr W_X12_unit_i56 h0 h → Fm Prod.snd W_X12_unit_i56 h0 (cb 56 h)) : ∀ (s0 : Int32) (h : AH), Agr W_X12_unit_i56 h0 h → Fm Prod.snd W_X12_unit_i56 h0 (f_X12_part_17 cb 56 s0 h) := by
  intro s0 h a_h
  unfold f_X12_part_17
  exact w_f_X12_part_18_i56 hcb FU _ _ a_h
def W_X12_isAmong_i1001 : List (Nat × Nat) := []
theorem w_f_X12_isAmong_2_i1001 {h0 : AH} : ∀ (n : Nat) (x1 : Int32) (x2 : Int32) (h : AH), Agr W_X12_isAmong_i1001 h0 h → Fm Prod.snd W_X12_isAmong_i1001 h0 (f_X12_isAmong_2 n 1001 x1 x2 h) := by
  intro n
  induction n with
  | zero => intro x1 x2 h _; exact fm_none
  | succ n ih =>
    intro x1 x2 h a_h
    rw [f_X12_isAmong_2]
    refine fm_ob (w_f_J0_length_8abf5 ) rfl a_h (fun r_3 h_2 a_h_2 => ?_)
    refine fm_ite ?_ ?_
    · exact fm_some a_h_2
    · refine fm_ob (w_f_J0_charAt_5068e ) rfl a_h_2 (fun r_7 h_6 a_h_6 => ?_)
      refine fm_ite ?_ ?_
      · exact fm_some a_h_6
      · refine fm_nm (fun x2_9 => ?_)
        exact ih _ _ _ a_h_6
theorem w_f_X12_isAmong_i1001 (x1 : Int32) (h : AH) : Fm Prod.snd W_X12_isAmong_i1001 h (f_X12_isAmong 1001 x1 h) := by
  unfold f_X12_isAmong
  have a_h : Agr W_X12_isAmong_i1001 h h := agr_refl h
  exact w_f_X12_isAmong_2_i1001  FU _ _ _ a_h
def W_X12_goesIn_i56 : List (Nat × Nat) := (56, 10) :: (56, 11) :: (56, 12) :: []
theorem w_f_X12_goesIn_i56 (h : AH) : Fm Prod.snd W_X12_goesIn_i56 h (f_X12_goesIn 56 h) := by
  unfold f_X12_goesIn
  have a_h : Agr W_X12_goesIn_i56 h h := agr_refl h
  refine fm_ite ?_ ?_
  · refine fm_ob (w_f_X12_fails_i56 _) rfl a_h (fun r_8 h_7 a_h_7 => ?_)
    refine fm_og (fun hb1 => ?_)
    exact fm_some a_h_7
  · refine fm_nh (agr_sI a_h rfl) (fun h_2 a_h_2 => ?_)
    refine fm_nh (agr_sI a_h_2 rfl) (fun h_4 a_h_4 => ?_)
    exact fm_some a_h_4
def W_X12_sum_i56 : List (Nat × Nat) := (56, 10) :: (56, 11) :: (56, 12) :: []
theorem w_f_X12_atom_156_i56 {h0 : AH} {cb : Nat → AH → Option (Int32 × AH)} (hcb : ∀ (h : AH), Agr W_X12_sum_i56 h0 h → Fm Prod.snd W_X12_sum_i56 h0 (cb 56 h)) : ∀ (x2 : Int32) (h : AH), Agr W_X12_sum_i56 h0 h → Fm Prod.snd W_X12_sum_i56 h0 (f_X12_atom_156 cb x2 h) := by
  intro x2 h a_h
  unfold f_X12_atom_156
  exact fm_some a_h
theorem w_f_X12_atom_90_i56 {h0 : AH} {cb : Nat → AH → Option (Int32 × AH)} (hcb : ∀ (h : AH), Agr W_X12_sum_i56 h0 h → Fm Prod.snd W_X12_sum_i56 h0 (cb 56 h)) : ∀ (n : Nat) (x2 : Int32) (x3 : Int32) (h : AH), Agr W_X12_sum_i56 h0 h → Fm Prod.snd W_X12_sum_i56 h0 (f_X12_atom_90 cb n 56 x2 x3 h) := by
  intro n
  induction n with
  | zero => intro x2 x3 h _; exact fm_none
  | succ n ih =>
    intro x2 x3 h a_h
    rw [f_X12_atom_90]
    refine fm_ob (w_f_X12_isDigit_i56 _) rfl a_h (fun r_3 h_2 a_h_2 => ?_)
    refine fm_ite ?_ ?_
    · exact w_f_X12_atom_156_i56 hcb _ _ a_h_2
    · refine fm_ite ?_ ?_
      · refine fm_ite ?_ ?_
        · refine fm_ob (w_f_X12_fails_i56 _) rfl a_h_2 (fun r_17 h_16 a_h_16 => ?_)
          exact fm_some a_h_16
        · refine fm_og (fun hb1 => ?_)
          refine fm_og (fun hb2 => ?_)
          refine fm_nm (fun x2_9 => ?_)
          refine fm_nh (agr_sI a_h_2 rfl) (fun h_11 a_h_11 => ?_)
          refine fm_nm (fun x3_13 => ?_)
          exact ih _ _ _ a_h_11
      · exact w_f_X12_atom_156_i56 hcb _ _ a_h_2
theorem w_f_X12_atom_86_i56 {h0 : AH} {cb : Nat → AH → Option (Int32 × AH)} (hcb : ∀ (h : AH), Agr W_X12_sum_i56 h0 h → Fm Prod.snd W_X12_sum_i56 h0 (cb 56 h)) : ∀ (h : AH), Agr W_X12_sum_i56 h0 h → Fm Prod.snd W_X12_sum_i56 h0 (f_X12_atom_86 cb 56 h) := by
  intro h a_h
  unfold f_X12_atom_86
  exact w_f_X12_atom_90_i56 hcb FU _ _ _ a_h
theorem w_f_X12_atom_i56 {h0 : AH} {cb : Nat → AH → Option (Int32 × AH)} (hcb : ∀ (h : AH), Agr W_X12_sum_i56 h0 h → Fm Prod.snd W_X12_sum_i56 h0 (cb 56 h)) : ∀ (h : AH), Agr W_X12_sum_i56 h0 h → Fm Prod.snd W_X12_sum_i56 h0 (f_X12_atom cb 56 h) := by
  intro h a_h
  unfold f_X12_atom
  refine fm_ob (w_f_X12_look_i56 _) rfl a_h (fun r_3 h_2 a_h_2 => ?_)
  refine fm_ob (w_f_X12_isAmong_i1001 _ _) rfl a_h_2 (fun r_6 h_5 a_h_5 => ?_)
  refine fm_ite ?_ ?_
  · refine fm_ite ?_ ?_
    · refine fm_ob (w_f_X12_goesIn_i56 _) rfl a_h_5 (fun r_18 h_17 a_h_17 => ?_)
      refine fm_ite ?_ ?_
      · exact fm_some a_h_17
      · refine fm_obi (hcb _ a_h_17) (fun r_22 h_21 a_h_21 => ?_)
        refine fm_ob (w_f_X12_takes_i56 _ _) rfl a_h_21 (fun r_25 h_24 a_h_24 => ?_)
        refine fm_ite ?_ ?_
        · exact fm_some a_h_24
        · refine fm_nh (agr_sI a_h_24 rfl) (fun h_27 a_h_27 => ?_)
          exact fm_some a_h_27
    · refine fm_ob (w_f_X12_isDigit_i56 _) rfl a_h_5 (fun r_11 h_10 a_h_10 => ?_)
      refine fm_ite ?_ ?_
      · refine fm_ob (w_f_X12_fails_i56 _) rfl a_h_10 (fun r_15 h_14 a_h_14 => ?_)
        exact w_f_X12_atom_86_i56 hcb _ a_h_14
      · exact w_f_X12_atom_86_i56 hcb _ a_h_10
  · refine fm_nh (agr_sI a_h_5 rfl) (fun h_29 a_h_29 => ?_)
    refine fm_og (fun hb1 => ?_)
    exact fm_some a_h_29
def W_X12_within : List (Nat × Nat) := []
theorem w_f_X12_within (l0 : Int64) (h : AH) : Fm Prod.snd W_X12_within h (f_X12_within l0 h) := by
  unfold f_X12_within
  have a_h : Agr W_X12_within h h := agr_refl h
  exact fm_some a_h
theorem w_f_X12_term_87_i56 {h0 : AH} {cb : Nat → AH → Option (Int32 × AH)} (hcb : ∀ (h : AH), Agr W_X12_sum_i56 h0 h → Fm Prod.snd W_X12_sum_i56 h0 (cb 56 h)) {q5 : Nat → Int32 → AH → Option (Int32 × AH)} (hq5 : ∀ (y1 : Int32) (y2 : AH), Agr W_X12_sum_i56 h0 y2 → Fm Prod.snd W_X12_sum_i56 h0 (q5 56 y1 y2)) : ∀ (sl0 : Int64) (h : AH), Agr W_X12_sum_i56 h0 h → Fm Prod.snd W_X12_sum_i56 h0 (f_X12_term_87 cb q5 56 sl0 h) := by
  intro sl0 h a_h
  unfold f_X12_term_87
  refine fm_ob (w_f_X12_within _ _) rfl a_h (fun r_3 h_2 a_h_2 => ?_)
  exact hq5 _ _ a_h_2
theorem w_f_X12_term_45_i56 {h0 : AH} {cb : Nat → AH → Option (Int32 × AH)} (hcb : ∀ (h : AH), Agr W_X12_sum_i56 h0 h → Fm Prod.snd W_X12_sum_i56 h0 (cb 56 h)) {q5 : Nat → Int32 → AH → Option (Int32 × AH)} (hq5 : ∀ (y1 : Int32) (y2 : AH), Agr W_X12_sum_i56 h0 y2 → Fm Prod.snd W_X12_sum_i56 h0 (q5 56 y1 y2)) : ∀ (x1 : Int32) (s0 : Int32) (h : AH), Agr W_X12_sum_i56 h0 h → Fm Prod.snd W_X12_sum_i56 h0 (f_X12_term_45 cb q5 56 x1 s0 h) := by
  intro x1 s0 h a_h
  unfold f_X12_term_45
  refine fm_nh (agr_sI a_h rfl) (fun h_1 a_h_1 => ?_)
  refine fm_obi (w_f_X12_atom_i56 hcb _ a_h_1) (fun r_5 h_4 a_h_4 => ?_)
  refine fm_nm (fun l3_6 => ?_)
  refine fm_ite ?_ ?_
  · refine fm_ite ?_ ?_
    · exact w_f_X12_term_87_i56 hcb hq5 _ _ a_h_4
    · refine fm_og (fun hb1 => ?_)
      exact w_f_X12_term_87_i56 hcb hq5 _ _ a_h_4
  · exact w_f_X12_term_87_i56 hcb hq5 _ _ a_h_4
theorem w_f_X12_term_31_i56 {h0 : AH} {cb : Nat → AH → Option (Int32 × AH)} (hcb : ∀ (h : AH), Agr W_X12_sum_i56 h0 h → Fm Prod.snd W_X12_sum_i56 h0 (cb 56 h)) {q5 : Nat → Int32 → AH → Option (Int32 × AH)} (hq5 : ∀ (y1 : Int32) (y2 : AH), Agr W_X12_sum_i56 h0 y2 → Fm Prod.snd W_X12_sum_i56 h0 (q5 56 y1 y2)) : ∀ (x1 : Int32) (h : AH), Agr W_X12_sum_i56 h0 h → Fm Prod.snd W_X12_sum_i56 h0 (f_X12_term_31 cb q5 56 x1 h) := by
  intro x1 h a_h
  unfold f_X12_term_31
  refine fm_ob (w_f_X12_look_i56 _) rfl a_h (fun r_3 h_2 a_h_2 => ?_)
  refine fm_ite ?_ ?_
  · exact w_f_X12_term_45_i56 hcb hq5 _ _ _ a_h_2
  · exact w_f_X12_term_45_i56 hcb hq5 _ _ _ a_h_2
theorem w_f_X12_term_94_i56 {h0 : AH} {cb : Nat → AH → Option (Int32 × AH)} (hcb : ∀ (h : AH), Agr W_X12_sum_i56 h0 h → Fm Prod.snd W_X12_sum_i56 h0 (cb 56 h)) : ∀ (x1 : Int32) (h : AH), Agr W_X12_sum_i56 h0 h → Fm Prod.snd W_X12_sum_i56 h0 (f_X12_term_94 cb x1 h) := by
  intro x1 h a_h
  unfold f_X12_term_94
  exact fm_some a_h
theorem w_f_X12_term_5_i56 {h0 : AH} {cb : Nat → AH → Option (Int32 × AH)} (hcb : ∀ (h : AH), Agr W_X12_sum_i56 h0 h → Fm Prod.snd W_X12_sum_i56 h0 (cb 56 h)) : ∀ (n : Nat) (x1 : Int32) (h : AH), Agr W_X12_sum_i56 h0 h → Fm Prod.snd W_X12_sum_i56 h0 (f_X12_term_5 cb n 56 x1 h) := by
  intro n
  induction n with
  | zero => intro x1 h _; exact fm_none
  | succ n ih =>
    intro x1 h a_h
    rw [f_X12_term_5]
    refine fm_ite ?_ ?_
    · refine fm_ob (w_f_X12_look_i56 _) rfl a_h (fun r_4 h_3 a_h_3 => ?_)
      refine fm_ite ?_ ?_
      · exact w_f_X12_term_31_i56 hcb (fun y0 y1 a => ih y0 y1 a) _ _ a_h_3
      · refine fm_ob (w_f_X12_look_i56 _) rfl a_h_3 (fun r_8 h_7 a_h_7 => ?_)
        refine fm_ite ?_ ?_
        · exact w_f_X12_term_31_i56 hcb (fun y0 y1 a => ih y0 y1 a) _ _ a_h_7
        · exact w_f_X12_term_94_i56 hcb _ _ a_h_7
    · exact w_f_X12_term_94_i56 hcb _ _ a_h
theorem w_f_X12_term_i56 {h0 : AH} {cb : Nat → AH → Option (Int32 × AH)} (hcb : ∀ (h : AH), Agr W_X12_sum_i56 h0 h → Fm Prod.snd W_X12_sum_i56 h0 (cb 56 h)) : ∀ (h : AH), Agr W_X12_sum_i56 h0 h → Fm Prod.snd W_X12_sum_i56 h0 (f_X12_term cb 56 h) := by
  intro h a_h
  unfold f_X12_term
  refine fm_obi (w_f_X12_atom_i56 hcb _ a_h) (fun r_3 h_2 a_h_2 => ?_)
  exact w_f_X12_term_5_i56 hcb FU _ _ a_h_2
theorem w_f_X12_sum_77_i56 {h0 : AH} {cb : Nat → AH → Option (Int32 × AH)} (hcb : ∀ (h : AH), Agr W_X12_sum_i56 h0 h → Fm Prod.snd W_X12_sum_i56 h0 (cb 56 h)) {q5 : Nat → Int32 → AH → Option (Int32 × AH)} (hq5 : ∀ (y1 : Int32) (y2 : AH), Agr W_X12_sum_i56 h0 y2 → Fm Prod.snd W_X12_sum_i56 h0 (q5 56 y1 y2)) : ∀ (sl0 : Int64) (h : AH), Agr W_X12_sum_i56 h0 h → Fm Prod.snd W_X12_sum_i56 h0 (f_X12_sum_77 cb q5 56 sl0 h) := by
  intro sl0 h a_h
  unfold f_X12_sum_77
  refine fm_ob (w_f_X12_within _ _) rfl a_h (fun r_3 h_2 a_h_2 => ?_)
  exact hq5 _ _ a_h_2
theorem w_f_X12_sum_45_i56 {h0 : AH} {cb : Nat → AH → Option (Int32 × AH)} (hcb : ∀ (h : AH), Agr W_X12_sum_i56 h0 h → Fm Prod.snd W_X12_sum_i56 h0 (cb 56 h)) {q5 : Nat → Int32 → AH → Option (Int32 × AH)} (hq5 : ∀ (y1 : Int32) (y2 : AH), Agr W_X12_sum_i56 h0 y2 → Fm Prod.snd W_X12_sum_i56 h0 (q5 56 y1 y2)) : ∀ (x1 : Int32) (s0 : Int32) (h : AH), Agr W_X12_sum_i56 h0 h → Fm Prod.snd W_X12_sum_i56 h0 (f_X12_sum_45 cb q5 56 x1 s0 h) := by
  intro x1 s0 h a_h
  unfold f_X12_sum_45
  refine fm_nh (agr_sI a_h rfl) (fun h_1 a_h_1 => ?_)
  refine fm_obi (w_f_X12_term_i56 hcb _ a_h_1) (fun r_5 h_4 a_h_4 => ?_)
  refine fm_nm (fun l3_6 => ?_)
  refine fm_ite ?_ ?_
  · exact w_f_X12_sum_77_i56 hcb hq5 _ _ a_h_4
  · exact w_f_X12_sum_77_i56 hcb hq5 _ _ a_h_4
theorem w_f_X12_sum_31_i56 {h0 : AH} {cb : Nat → AH → Option (Int32 × AH)} (hcb : ∀ (h : AH), Agr W_X12_sum_i56 h0 h → Fm Prod.snd W_X12_sum_i56 h0 (cb 56 h)) {q5 : Nat → Int32 → AH → Option (Int32 × AH)} (hq5 : ∀ (y1 : Int32) (y2 : AH), Agr W_X12_sum_i56 h0 y2 → Fm Prod.snd W_X12_sum_i56 h0 (q5 56 y1 y2)) : ∀ (x1 : Int32) (h : AH), Agr W_X12_sum_i56 h0 h → Fm Prod.snd W_X12_sum_i56 h0 (f_X12_sum_31 cb q5 56 x1 h) := by
  intro x1 h a_h
  unfold f_X12_sum_31
  refine fm_ob (w_f_X12_look_i56 _) rfl a_h (fun r_3 h_2 a_h_2 => ?_)
  refine fm_ite ?_ ?_
  · exact w_f_X12_sum_45_i56 hcb hq5 _ _ _ a_h_2
  · exact w_f_X12_sum_45_i56 hcb hq5 _ _ _ a_h_2
theorem w_f_X12_sum_84_i56 {h0 : AH} {cb : Nat → AH → Option (Int32 × AH)} (hcb : ∀ (h : AH), Agr W_X12_sum_i56 h0 h → Fm Prod.snd W_X12_sum_i56 h0 (cb 56 h)) : ∀ (x1 : Int32) (h : AH), Agr W_X12_sum_i56 h0 h → Fm Prod.snd W_X12_sum_i56 h0 (f_X12_sum_84 cb x1 h) := by
  intro x1 h a_h
  unfold f_X12_sum_84
  exact fm_some a_h
theorem w_f_X12_sum_5_i56 {h0 : AH} {cb : Nat → AH → Option (Int32 × AH)} (hcb : ∀ (h : AH), Agr W_X12_sum_i56 h0 h → Fm Prod.snd W_X12_sum_i56 h0 (cb 56 h)) : ∀ (n : Nat) (x1 : Int32) (h : AH), Agr W_X12_sum_i56 h0 h → Fm Prod.snd W_X12_sum_i56 h0 (f_X12_sum_5 cb n 56 x1 h) := by
  intro n
  induction n with
  | zero => intro x1 h _; exact fm_none
  | succ n ih =>
    intro x1 h a_h
    rw [f_X12_sum_5]
    refine fm_ite ?_ ?_
    · refine fm_ob (w_f_X12_look_i56 _) rfl a_h (fun r_4 h_3 a_h_3 => ?_)
      refine fm_ite ?_ ?_
      · exact w_f_X12_sum_31_i56 hcb (fun y0 y1 a => ih y0 y1 a) _ _ a_h_3
      · refine fm_ob (w_f_X12_look_i56 _) rfl a_h_3 (fun r_8 h_7 a_h_7 => ?_)
        refine fm_ite ?_ ?_
        · exact w_f_X12_sum_31_i56 hcb (fun y0 y1 a => ih y0 y1 a) _ _ a_h_7
        · exact w_f_X12_sum_84_i56 hcb _ _ a_h_7
    · exact w_f_X12_sum_84_i56 hcb _ _ a_h
theorem w_f_X12_sum_i56 {h0 : AH} {cb : Nat → AH → Option (Int32 × AH)} (hcb : ∀ (h : AH), Agr W_X12_sum_i56 h0 h → Fm Prod.snd W_X12_sum_i56 h0 (cb 56 h)) : ∀ (h : AH), Agr W_X12_sum_i56 h0 h → Fm Prod.snd W_X12_sum_i56 h0 (f_X12_sum cb 56 h) := by
  intro h a_h
  unfold f_X12_sum
  refine fm_obi (w_f_X12_term_i56 hcb _ a_h) (fun r_3 h_2 a_h_2 => ?_)
  exact w_f_X12_sum_5_i56 hcb FU _ _ a_h_2
theorem w_r_X12_sum_i56 {h0 : AH} : ∀ (n : Nat) (h : AH), Agr W_X12_sum_i56 h0 h → Fm Prod.snd W_X12_sum_i56 h0 (r_X12_sum n 56 h) := by
  intro n
  induction n with
  | zero => intro h _; exact fm_none
  | succ n ih =>
    intro h a
    rw [r_X12_sum]
    exact w_f_X12_sum_i56 (fun h a => ih h a) _ a
def W_X12_isSign : List (Nat × Nat) := []
theorem w_f_X12_isSign_23 {h0 : AH} : ∀ (s0 : Int32) (h : AH), Agr W_X12_isSign h0 h → Fm Prod.snd W_X12_isSign h0 (f_X12_isSign_23 s0 h) := by
  intro s0 h a_h
  unfold f_X12_isSign_23
  refine fm_og (fun hb1 => ?_)
  exact fm_some a_h
theorem w_f_X12_isSign_18 {h0 : AH} : ∀ (h : AH), Agr W_X12_isSign h0 h → Fm Prod.snd W_X12_isSign h0 (f_X12_isSign_18 h) := by
  intro h a_h
  unfold f_X12_isSign_18
  exact w_f_X12_isSign_23  _ _ a_h
theorem w_f_X12_isSign (x0 : Int32) (h : AH) : Fm Prod.snd W_X12_isSign h (f_X12_isSign x0 h) := by
  unfold f_X12_isSign
  have a_h : Agr W_X12_isSign h h := agr_refl h
  refine fm_ite ?_ ?_
  · exact w_f_X12_isSign_18  _ a_h
  · refine fm_ite ?_ ?_
    · exact w_f_X12_isSign_18  _ a_h
    · refine fm_ite ?_ ?_
      · exact w_f_X12_isSign_18  _ a_h
      · exact w_f_X12_isSign_23  _ _ a_h
def W_X12_compares_i56 : List (Nat × Nat) := (56, 10) :: (56, 11) :: (56, 12) :: []
theorem w_f_X12_compares_111_i56 {h0 : AH} : ∀ (s0 : Int32) (h : AH), Agr W_X12_compares_i56 h0 h → Fm Prod.snd W_X12_compares_i56 h0 (f_X12_compares_111 s0 h) := by
  intro s0 h a_h
  unfold f_X12_compares_111
  refine fm_og (fun hb1 => ?_)
  exact fm_some a_h
theorem w_f_X12_compares_12_i56 {h0 : AH} : ∀ (s0 : Int32) (h : AH), Agr W_X12_compares_i56 h0 h → Fm Prod.snd W_X12_compares_i56 h0 (f_X12_compares_12 56 s0 h) := by
  intro s0 h a_h
  unfold f_X12_compares_12
  refine fm_ite ?_ ?_
  · refine fm_ob (w_f_X12_look_i56 _) rfl a_h (fun r_4 h_3 a_h_3 => ?_)
    refine fm_ob (w_f_X12_isSign _ _) rfl a_h_3 (fun r_7 h_6 a_h_6 => ?_)
    refine fm_ite ?_ ?_
    · refine fm_ob (w_f_X12_fails_i56 _) rfl a_h_6 (fun r_21 h_20 a_h_20 => ?_)
      refine fm_og (fun hb1 => ?_)
      exact fm_some a_h_20
    · refine fm_nh (agr_sI a_h_6 rfl) (fun h_9 a_h_9 => ?_)
      refine fm_ob (w_r_X12_sum_i56 12 _ (agr_refl _)) rfl a_h_9 (fun r_13 h_12 a_h_12 => ?_)
      refine fm_ite ?_ ?_
      · refine fm_ite ?_ ?_
        · exact w_f_X12_compares_111_i56  _ _ a_h_12
        · exact w_f_X12_compares_111_i56  _ _ a_h_12
      · refine fm_ite ?_ ?_
        · refine fm_ite ?_ ?_
          · exact w_f_X12_compares_111_i56  _ _ a_h_12
          · exact w_f_X12_compares_111_i56  _ _ a_h_12
        · refine fm_ite ?_ ?_
          · exact w_f_X12_compares_111_i56  _ _ a_h_12
          · exact w_f_X12_compares_111_i56  _ _ a_h_12
  · exact fm_some a_h
theorem w_f_X12_compares_i56 (x1 : Int32) (x2 : Int32) (h : AH) : Fm Prod.snd W_X12_compares_i56 h (f_X12_compares 56 x1 x2 h) := by
  unfold f_X12_compares
  have a_h : Agr W_X12_compares_i56 h h := agr_refl h
  refine fm_ite ?_ ?_
  · refine fm_ob (w_r_X12_sum_i56 12 _ (agr_refl _)) rfl a_h (fun r_4 h_3 a_h_3 => ?_)
    exact w_f_X12_compares_12_i56  _ _ a_h_3
  · exact w_f_X12_compares_12_i56  _ _ a_h
theorem w_f_X12_part_i56 {h0 : AH} {cb : Nat → AH → Option (Int32 × AH)} (hcb : ∀ (h : AH), Agr W_X12_unit_i56 h0 h → Fm Prod.snd W_X12_unit_i56 h0 (cb 56 h)) : ∀ (x1 : Int32) (x2 : Int32) (h : AH), Agr W_X12_unit_i56 h0 h → Fm Prod.snd W_X12_unit_i56 h0 (f_X12_part cb 56 x1 x2 h) := by
  intro x1 x2 h a_h
  unfold f_X12_part
  refine fm_ite ?_ ?_
  · refine fm_obi (hcb _ a_h) (fun r_4 h_3 a_h_3 => ?_)
    exact w_f_X12_part_17_i56 hcb _ _ a_h_3
  · refine fm_ob (w_f_X12_compares_i56 _ _ _) rfl a_h (fun r_7 h_6 a_h_6 => ?_)
    exact w_f_X12_part_17_i56 hcb _ _ a_h_6
theorem w_f_X12_condition_56_i56 {h0 : AH} {cb : Nat → AH → Option (Int32 × AH)} (hcb : ∀ (h : AH), Agr W_X12_unit_i56 h0 h → Fm Prod.snd W_X12_unit_i56 h0 (cb 56 h)) {q7 : Nat → Int32 → AH → Option (Int32 × AH)} (hq7 : ∀ (y1 : Int32) (y2 : AH), Agr W_X12_unit_i56 h0 y2 → Fm Prod.snd W_X12_unit_i56 h0 (q7 56 y1 y2)) : ∀ (s0 : Int32) (h : AH), Agr W_X12_unit_i56 h0 h → Fm Prod.snd W_X12_unit_i56 h0 (f_X12_condition_56 cb q7 56 s0 h) := by
  intro s0 h a_h
  unfold f_X12_condition_56
  exact hq7 _ _ a_h
theorem w_f_X12_condition_51_i56 {h0 : AH} {cb : Nat → AH → Option (Int32 × AH)} (hcb : ∀ (h : AH), Agr W_X12_unit_i56 h0 h → Fm Prod.snd W_X12_unit_i56 h0 (cb 56 h)) {q7 : Nat → Int32 → AH → Option (Int32 × AH)} (hq7 : ∀ (y1 : Int32) (y2 : AH), Agr W_X12_unit_i56 h0 y2 → Fm Prod.snd W_X12_unit_i56 h0 (q7 56 y1 y2)) : ∀ (h : AH), Agr W_X12_unit_i56 h0 h → Fm Prod.snd W_X12_unit_i56 h0 (f_X12_condition_51 cb q7 56 h) := by
  intro h a_h
  unfold f_X12_condition_51
  exact w_f_X12_condition_56_i56 hcb hq7 _ _ a_h
theorem w_f_X12_condition_60_i56 {h0 : AH} {cb : Nat → AH → Option (Int32 × AH)} (hcb : ∀ (h : AH), Agr W_X12_unit_i56 h0 h → Fm Prod.snd W_X12_unit_i56 h0 (cb 56 h)) : ∀ (x3 : Int32) (h : AH), Agr W_X12_unit_i56 h0 h → Fm Prod.snd W_X12_unit_i56 h0 (f_X12_condition_60 cb x3 h) := by
  intro x3 h a_h
  unfold f_X12_condition_60
  refine fm_og (fun hb1 => ?_)
  exact fm_some a_h
theorem w_f_X12_condition_7_i56 {h0 : AH} {cb : Nat → AH → Option (Int32 × AH)} (hcb : ∀ (h : AH), Agr W_X12_unit_i56 h0 h → Fm Prod.snd W_X12_unit_i56 h0 (cb 56 h)) : ∀ (n : Nat) (x3 : Int32) (h : AH), Agr W_X12_unit_i56 h0 h → Fm Prod.snd W_X12_unit_i56 h0 (f_X12_condition_7 cb n 56 x3 h) := by
  intro n
  induction n with
  | zero => intro x3 h _; exact fm_none
  | succ n ih =>
    intro x3 h a_h
    rw [f_X12_condition_7]
    refine fm_ite ?_ ?_
    · refine fm_ob (w_f_X12_look_i56 _) rfl a_h (fun r_4 h_3 a_h_3 => ?_)
      refine fm_ite ?_ ?_
      · refine fm_nh (agr_sI a_h_3 rfl) (fun h_6 a_h_6 => ?_)
        refine fm_obi (w_f_X12_part_i56 hcb _ _ _ a_h_6) (fun r_10 h_9 a_h_9 => ?_)
        refine fm_ite ?_ ?_
        · refine fm_ite ?_ ?_
          · exact w_f_X12_condition_56_i56 hcb (fun y0 y1 a => ih y0 y1 a) _ _ a_h_9
          · exact w_f_X12_condition_51_i56 hcb (fun y0 y1 a => ih y0 y1 a) _ a_h_9
        · exact w_f_X12_condition_51_i56 hcb (fun y0 y1 a => ih y0 y1 a) _ a_h_9
      · exact w_f_X12_condition_60_i56 hcb _ _ a_h_3
    · exact w_f_X12_condition_60_i56 hcb _ _ a_h
theorem w_f_X12_condition_i56 {h0 : AH} {cb : Nat → AH → Option (Int32 × AH)} (hcb : ∀ (h : AH), Agr W_X12_unit_i56 h0 h → Fm Prod.snd W_X12_unit_i56 h0 (cb 56 h)) : ∀ (x1 : Int32) (x2 : Int32) (h : AH), Agr W_X12_unit_i56 h0 h → Fm Prod.snd W_X12_unit_i56 h0 (f_X12_condition cb 56 x1 x2 h) := by
  intro x1 x2 h a_h
  unfold f_X12_condition
  refine fm_obi (w_f_X12_part_i56 hcb _ _ _ a_h) (fun r_3 h_2 a_h_2 => ?_)
  exact w_f_X12_condition_7_i56 hcb FU _ _ a_h_2
def W_X12_clause_i56 : List (Nat × Nat) := (56, 10) :: (56, 11) :: (56, 12) :: (56, 14) :: (56, 18) :: []
theorem w_f_X12_clause_161_i56 {h0 : AH} : ∀ (h : AH), Agr W_X12_clause_i56 h0 h → Fm id W_X12_clause_i56 h0 (f_X12_clause_161 h) := by
  intro h a_h
  unfold f_X12_clause_161
  exact fm_some a_h
theorem w_f_X12_clause_134_i56 {h0 : AH} : ∀ (x1 : Int32) (x2 : Int32) (x3 : Int32) (h : AH), Agr W_X12_clause_i56 h0 h → Fm id W_X12_clause_i56 h0 (f_X12_clause_134 56 x1 x2 x3 h) := by
  intro x1 x2 x3 h a_h
  unfold f_X12_clause_134
  refine fm_ite ?_ ?_
  · refine fm_ite ?_ ?_
    · refine fm_ite ?_ ?_
      · refine fm_ite ?_ ?_
        · exact w_f_X12_clause_161_i56  _ a_h
        · refine fm_nh (agr_sI a_h rfl) (fun h_5 a_h_5 => ?_)
          refine fm_nh (agr_sI a_h_5 rfl) (fun h_7 a_h_7 => ?_)
          exact fm_some a_h_7
      · exact w_f_X12_clause_161_i56  _ a_h
    · exact w_f_X12_clause_161_i56  _ a_h
  · exact w_f_X12_clause_161_i56  _ a_h
theorem w_f_X12_unit_44_i56 {h0 : AH} {cb : Nat → AH → Option (Int32 × AH)} (hcb : ∀ (h : AH), Agr W_X12_unit_i56 h0 h → Fm Prod.snd W_X12_unit_i56 h0 (cb 56 h)) : ∀ (s0 : Int32) (h : AH), Agr W_X12_unit_i56 h0 h → Fm Prod.snd W_X12_unit_i56 h0 (f_X12_unit_44 cb s0 h) := by
  intro s0 h a_h
  unfold f_X12_unit_44
  refine fm_og (fun hb1 => ?_)
  exact fm_some a_h
theorem w_f_X12_unit_i56 {h0 : AH} {cb : Nat → AH → Option (Int32 × AH)} (hcb : ∀ (h : AH), Agr W_X12_unit_i56 h0 h → Fm Prod.snd W_X12_unit_i56 h0 (cb 56 h)) : ∀ (h : AH), Agr W_X12_unit_i56 h0 h → Fm Prod.snd W_X12_unit_i56 h0 (f_X12_unit cb 56 h) := by
  intro h a_h
  unfold f_X12_unit
  refine fm_ob (w_f_X12_look_i56 _) rfl a_h (fun r_3 h_2 a_h_2 => ?_)
  refine fm_ite ?_ ?_
  · refine fm_ob (w_f_X12_goesIn_i56 _) rfl a_h_2 (fun r_26 h_25 a_h_25 => ?_)
    refine fm_ite ?_ ?_
    · exact fm_some a_h_25
    · refine fm_obi (hcb _ a_h_25) (fun r_30 h_29 a_h_29 => ?_)
      refine fm_nh (agr_sI a_h_29 rfl) (fun h_31 a_h_31 => ?_)
      refine fm_ite ?_ ?_
      · exact w_f_X12_unit_44_i56 hcb _ _ a_h_31
      · exact w_f_X12_unit_44_i56 hcb _ _ a_h_31
  · refine fm_ite ?_ ?_
    · refine fm_ob (w_f_X12_goesIn_i56 _) rfl a_h_2 (fun r_12 h_11 a_h_11 => ?_)
      refine fm_ite ?_ ?_
      · exact fm_some a_h_11
      · refine fm_obi (w_f_X12_condition_i56 hcb _ _ _ a_h_11) (fun r_16 h_15 a_h_15 => ?_)
        refine fm_ob (w_f_X12_takes_i56 _ _) rfl a_h_15 (fun r_19 h_18 a_h_18 => ?_)
        refine fm_ite ?_ ?_
        · exact fm_some a_h_18
        · refine fm_nh (agr_sI a_h_18 rfl) (fun h_21 a_h_21 => ?_)
          refine fm_og (fun hb1 => ?_)
          exact fm_some a_h_21
    · refine fm_ob (w_f_X12_compares_i56 _ _ _) rfl a_h_2 (fun r_8 h_7 a_h_7 => ?_)
      refine fm_og (fun hb2 => ?_)
      exact fm_some a_h_7
theorem w_r_X12_unit_i56 {h0 : AH} : ∀ (n : Nat) (h : AH), Agr W_X12_unit_i56 h0 h → Fm Prod.snd W_X12_unit_i56 h0 (r_X12_unit n 56 h) := by
  intro n
  induction n with
  | zero => intro h _; exact fm_none
  | succ n ih =>
    intro h a
    rw [r_X12_unit]
    exact w_f_X12_unit_i56 (fun h a => ih h a) _ a
theorem w_f_X12_clause_64_i56 {h0 : AH} : ∀ (x1 : Int32) (h : AH), Agr W_X12_clause_i56 h0 h → Fm id W_X12_clause_i56 h0 (f_X12_clause_64 56 x1 h) := by
  intro x1 h a_h
  unfold f_X12_clause_64
  refine fm_ob (w_f_X12_condition_i56 (fun y0 a => w_r_X12_unit_i56 12 y0 a) _ _ _ (agr_refl _)) rfl a_h (fun r_3 h_2 a_h_2 => ?_)
  refine fm_ob (w_f_X12_takes_i56 _ _) rfl a_h_2 (fun r_6 h_5 a_h_5 => ?_)
  refine fm_ite ?_ ?_
  · exact fm_some a_h_5
  · refine fm_ob (w_r_X12_sum_i56 12 _ (agr_refl _)) rfl a_h_5 (fun r_10 h_9 a_h_9 => ?_)
    exact w_f_X12_clause_134_i56  _ _ _ _ a_h_9
theorem w_f_X12_clause_i56 (h : AH) : Fm id W_X12_clause_i56 h (f_X12_clause 56 h) := by
  unfold f_X12_clause
  have a_h : Agr W_X12_clause_i56 h h := agr_refl h
  refine fm_ob (w_f_X12_look_i56 _) rfl a_h (fun r_3 h_2 a_h_2 => ?_)
  refine fm_ob (w_f_X12_isAmong_i1002 _ _) rfl a_h_2 (fun r_6 h_5 a_h_5 => ?_)
  refine fm_ite ?_ ?_
  · refine fm_ob (w_f_X12_fails_i56 _) rfl a_h_5 (fun r_42 h_41 a_h_41 => ?_)
    exact fm_some a_h_41
  · refine fm_nh (agr_sI a_h_5 rfl) (fun h_8 a_h_8 => ?_)
    refine fm_ob (w_f_X12_takes_i56 _ _) rfl a_h_8 (fun r_12 h_11 a_h_11 => ?_)
    refine fm_ite ?_ ?_
    · exact fm_some a_h_11
    · refine fm_ob (w_f_X12_look_i56 _) rfl a_h_11 (fun r_16 h_15 a_h_15 => ?_)
      refine fm_ite ?_ ?_
      · exact w_f_X12_clause_64_i56  _ _ a_h_15
      · refine fm_ite ?_ ?_
        · exact w_f_X12_clause_64_i56  _ _ a_h_15
        · refine fm_ob (w_r_X12_sum_i56 12 _ (agr_refl _)) rfl a_h_15 (fun r_21 h_20 a_h_20 => ?_)
          refine fm_ite ?_ ?_
          · refine fm_ob (w_f_X12_look_i56 _) rfl a_h_20 (fun r_25 h_24 a_h_24 => ?_)
            refine fm_ob (w_f_X12_isSign _ _) rfl a_h_24 (fun r_28 h_27 a_h_27 => ?_)
            refine fm_ite ?_ ?_
            · exact w_f_X12_clause_134_i56  _ _ _ _ a_h_27
            · refine fm_ob (w_f_X12_condition_i56 (fun y0 a => w_r_X12_unit_i56 12 y0 a) _ _ _ (agr_refl _)) rfl a_h_27 (fun r_32 h_31 a_h_31 => ?_)
              refine fm_ob (w_f_X12_takes_i56 _ _) rfl a_h_31 (fun r_35 h_34 a_h_34 => ?_)
              refine fm_ite ?_ ?_
              · exact fm_some a_h_34
              · refine fm_ob (w_r_X12_sum_i56 12 _ (agr_refl _)) rfl a_h_34 (fun r_39 h_38 a_h_38 => ?_)
                exact w_f_X12_clause_134_i56  _ _ _ _ a_h_38
          · exact w_f_X12_clause_134_i56  _ _ _ _ a_h_20
def W_X12_goThrough_i56_57 : List (Nat × Nat) := (56, 8) :: (56, 9) :: (56, 10) :: (56, 11) :: (56, 12) :: (56, 13) :: (56, 14) :: (56, 18) :: (201, 0) :: []
theorem w_f_X12_goThrough_87_i56_57 {h0 : AH} : ∀ (h : AH), Agr W_X12_goThrough_i56_57 h0 h → Fm id W_X12_goThrough_i56_57 h0 (f_X12_goThrough_87 h) := by
  intro h a_h
  unfold f_X12_goThrough_87
  exact fm_some a_h
theorem w_f_X12_goThrough_66_i56_57 {h0 : AH} : ∀ (h : AH), Agr W_X12_goThrough_i56_57 h0 h → Fm id W_X12_goThrough_i56_57 h0 (f_X12_goThrough_66 56 h) := by
  intro h a_h
  unfold f_X12_goThrough_66
  refine fm_ite ?_ ?_
  · refine fm_ob (w_f_X12_look_i56 _) rfl a_h (fun r_4 h_3 a_h_3 => ?_)
    refine fm_ite ?_ ?_
    · exact w_f_X12_goThrough_87_i56_57  _ a_h_3
    · refine fm_ob (w_f_X12_fails_i56 _) rfl a_h_3 (fun r_8 h_7 a_h_7 => ?_)
      exact w_f_X12_goThrough_87_i56_57  _ a_h_7
  · exact w_f_X12_goThrough_87_i56_57  _ a_h
theorem w_f_X12_goThrough_32_i56_57 {h0 : AH} : ∀ (n : Nat) (h : AH), Agr W_X12_goThrough_i56_57 h0 h → Fm id W_X12_goThrough_i56_57 h0 (f_X12_goThrough_32 n 56 h) := by
  intro n
  induction n with
  | zero => intro h _; exact fm_none
  | succ n ih =>
    intro h a_h
    rw [f_X12_goThrough_32]
    refine fm_ite ?_ ?_
    · refine fm_ob (w_f_X12_look_i56 _) rfl a_h (fun r_4 h_3 a_h_3 => ?_)
      refine fm_ite ?_ ?_
      · refine fm_nh (agr_sI a_h_3 rfl) (fun h_6 a_h_6 => ?_)
        refine fm_ov (w_f_X12_clause_i56 _) rfl a_h_6 (fun h_9 a_h_9 => ?_)
        exact ih _ a_h_9
      · exact w_f_X12_goThrough_66_i56_57  _ a_h_3
    · exact w_f_X12_goThrough_66_i56_57  _ a_h
theorem w_f_X12_goThrough_i56_57 (x2 : Int32) (x3 : Int32) (h : AH) : Fm id W_X12_goThrough_i56_57 h (f_X12_goThrough 56 57 x2 x3 h) := by
  unfold f_X12_goThrough
  have a_h : Agr W_X12_goThrough_i56_57 h h := agr_refl h
  refine fm_ov (w_f_X12_opens_i56_57 _ _ _) rfl a_h (fun h_2 a_h_2 => ?_)
  refine fm_nh (agr_sI a_h_2 rfl) (fun h_3 a_h_3 => ?_)
  refine fm_nh (agr_sI a_h_3 rfl) (fun h_5 a_h_5 => ?_)
  refine fm_nh (agr_sI a_h_5 rfl) (fun h_7 a_h_7 => ?_)
  refine fm_nh (agr_sI a_h_7 rfl) (fun h_9 a_h_9 => ?_)
  refine fm_ov (w_f_X12_clause_i56 _) rfl a_h_9 (fun h_12 a_h_12 => ?_)
  exact w_f_X12_goThrough_32_i56_57  FU _ a_h_12
theorem w_f_X12_fault_i56 (x1 : Int32) (h : AH) : Fm Prod.snd W_X12_fault_i56 h (f_X12_fault 56 x1 h) := by
  unfold f_X12_fault
  have a_h : Agr W_X12_fault_i56 h h := agr_refl h
  refine fm_nh (agr_sI a_h rfl) (fun h_1 a_h_1 => ?_)
  refine fm_ob (w_f_X12_isIn _ _ _ _) rfl a_h_1 (fun r_5 h_4 a_h_4 => ?_)
  refine fm_ite ?_ ?_
  · exact fm_some a_h_4
  · refine fm_ite ?_ ?_
    · refine fm_ov (w_f_X12_readPeople_i56 _) rfl a_h_4 (fun h_11 a_h_11 => ?_)
      exact w_f_X12_fault_42_i56  _ a_h_11
    · refine fm_ov (w_f_X12_goThrough_i56_57 _ _ _) rfl a_h_4 (fun h_9 a_h_9 => ?_)
      exact w_f_X12_fault_42_i56  _ a_h_9
def W_J7_fill_53178_i5 : List (Nat × Nat) := (5, 1000) :: []
theorem w_f_J7_fill_53178_5_i5 {h0 : AH} : ∀ (n : Nat) (x1 : Int32) (x2 : Int32) (x3 : Int32) (h : AH), Agr W_J7_fill_53178_i5 h0 h → Fm id W_J7_fill_53178_i5 h0 (f_J7_fill_53178_5 n 5 x1 x2 x3 h) := by
  intro n
  induction n with
  | zero => intro x1 x2 x3 h _; exact fm_none
  | succ n ih =>
    intro x1 x2 x3 h a_h
    rw [f_J7_fill_53178_5]
    refine fm_ite ?_ ?_
    · exact fm_some a_h
    · refine fm_og (fun hb1 => ?_)
      refine fm_nh (agr_sI a_h rfl) (fun h_3 a_h_3 => ?_)
      refine fm_nm (fun x2_5 => ?_)
      exact ih _ _ _ _ a_h_3
theorem w_f_J7_fill_53178_i5 (x1 : Int32) (h : AH) : Fm id W_J7_fill_53178_i5 h (f_J7_fill_53178 5 x1 h) := by
  unfold f_J7_fill_53178
  have a_h : Agr W_J7_fill_53178_i5 h h := agr_refl h
  refine fm_nm (fun x3_1 => ?_)
  exact w_f_J7_fill_53178_5_i5  FU _ _ _ _ a_h
def W_X6_copy_i3_6 : List (Nat × Nat) := (3, 2) :: (4, 1000) :: (5, 1000) :: []
theorem w_f_X6_copy_i3_6 (h : AH) : Fm id W_X6_copy_i3_6 h (f_X6_copy 3 6 h) := by
  unfold f_X6_copy
  have a_h : Agr W_X6_copy_i3_6 h h := agr_refl h
  refine fm_og (fun hb1 => ?_)
  refine fm_nh (agr_sA a_h (fun _ => rfl)) (fun h_2 a_h_2 => ?_)
  refine fm_ov (w_f_J7_fill_53178_i5 _ _) rfl a_h_2 (fun h_5 a_h_5 => ?_)
  refine fm_nh (agr_sI a_h_5 rfl) (fun h_6 a_h_6 => ?_)
  exact fm_some a_h_6
def W_X9_begin_i24_3 : List (Nat × Nat) := (25, 1000) :: (26, 1000) :: (27, 1000) :: []
theorem w_f_X9_begin_71_i24_3 {h0 : AH} {q2 : Nat → Nat → Int32 → AH → Option AH} (hq2 : ∀ (y2 : Int32) (y3 : AH), Agr W_X9_begin_i24_3 h0 y3 → Fm id W_X9_begin_i24_3 h0 (q2 24 3 y2 y3)) : ∀ (x2 : Int32) (s0 : Int32) (s1 : Int32) (h : AH), Agr W_X9_begin_i24_3 h0 h → Fm id W_X9_begin_i24_3 h0 (f_X9_begin_71 q2 24 3 x2 s0 s1 27 h) := by
  intro x2 s0 s1 h a_h
  unfold f_X9_begin_71
  refine fm_og (fun hb1 => ?_)
  refine fm_nh (agr_sI a_h rfl) (fun h_2 a_h_2 => ?_)
  refine fm_nm (fun x2_4 => ?_)
  exact hq2 _ _ a_h_2
theorem w_f_X9_begin_51_i24_3 {h0 : AH} {q2 : Nat → Nat → Int32 → AH → Option AH} (hq2 : ∀ (y2 : Int32) (y3 : AH), Agr W_X9_begin_i24_3 h0 y3 → Fm id W_X9_begin_i24_3 h0 (q2 24 3 y2 y3)) : ∀ (x2 : Int32) (x3 : Int32) (s0 : Int32) (s1 : Int32) (h : AH), Agr W_X9_begin_i24_3 h0 h → Fm id W_X9_begin_i24_3 h0 (f_X9_begin_51 q2 24 3 x2 x3 s0 s1 26 h) := by
  intro x2 x3 s0 s1 h a_h
  unfold f_X9_begin_51
  refine fm_og (fun hb1 => ?_)
  refine fm_nh (agr_sI a_h rfl) (fun h_2 a_h_2 => ?_)
  refine fm_ite ?_ ?_
  · exact w_f_X9_begin_71_i24_3 hq2 _ _ _ _ a_h_2
  · refine fm_ob (w_f_X6_item_i3 _ _ _) rfl a_h_2 (fun r_7 h_6 a_h_6 => ?_)
    exact w_f_X9_begin_71_i24_3 hq2 _ _ _ _ a_h_6
theorem w_f_X9_begin_36_i24_3 {h0 : AH} {q2 : Nat → Nat → Int32 → AH → Option AH} (hq2 : ∀ (y2 : Int32) (y3 : AH), Agr W_X9_begin_i24_3 h0 y3 → Fm id W_X9_begin_i24_3 h0 (q2 24 3 y2 y3)) : ∀ (x2 : Int32) (x3 : Int32) (s0 : Int32) (s1 : Int32) (h : AH), Agr W_X9_begin_i24_3 h0 h → Fm id W_X9_begin_i24_3 h0 (f_X9_begin_36 q2 24 3 x2 x3 s0 s1 25 h) := by
  intro x2 x3 s0 s1 h a_h
  unfold f_X9_begin_36
  refine fm_og (fun hb1 => ?_)
  refine fm_nh (agr_sI a_h rfl) (fun h_2 a_h_2 => ?_)
  refine fm_ite ?_ ?_
  · exact w_f_X9_begin_51_i24_3 hq2 _ _ _ _ _ a_h_2
  · exact w_f_X9_begin_51_i24_3 hq2 _ _ _ _ _ a_h_2
theorem w_f_X9_begin_21_i24_3 {h0 : AH} {q2 : Nat → Nat → Int32 → AH → Option AH} (hq2 : ∀ (y2 : Int32) (y3 : AH), Agr W_X9_begin_i24_3 h0 y3 → Fm id W_X9_begin_i24_3 h0 (q2 24 3 y2 y3)) : ∀ (x2 : Int32) (s0 : Int32) (h : AH), Agr W_X9_begin_i24_3 h0 h → Fm id W_X9_begin_i24_3 h0 (f_X9_begin_21 q2 24 3 x2 s0 h) := by
  intro x2 s0 h a_h
  unfold f_X9_begin_21
  refine fm_ite ?_ ?_
  · exact w_f_X9_begin_36_i24_3 hq2 _ _ _ _ _ a_h
  · exact w_f_X9_begin_36_i24_3 hq2 _ _ _ _ _ a_h
theorem w_f_X9_begin_2_i24_3 {h0 : AH} : ∀ (n : Nat) (x2 : Int32) (h : AH), Agr W_X9_begin_i24_3 h0 h → Fm id W_X9_begin_i24_3 h0 (f_X9_begin_2 n 24 3 x2 h) := by
  intro n
  induction n with
  | zero => intro x2 h _; exact fm_none
  | succ n ih =>
    intro x2 h a_h
    rw [f_X9_begin_2]
    refine fm_ite ?_ ?_
    · exact fm_some a_h
    · refine fm_ite ?_ ?_
      · exact w_f_X9_begin_21_i24_3 (fun y0 y1 a => ih y0 y1 a) _ _ _ a_h
      · exact w_f_X9_begin_21_i24_3 (fun y0 y1 a => ih y0 y1 a) _ _ _ a_h
theorem w_f_X9_begin_i24_3 (h : AH) : Fm id W_X9_begin_i24_3 h (f_X9_begin 24 3 h) := by
  unfold f_X9_begin
  have a_h : Agr W_X9_begin_i24_3 h h := agr_refl h
  exact w_f_X9_begin_2_i24_3  FU _ _ a_h
def W_X1_clear_i32 : List (Nat × Nat) := (32, 2) :: (32, 3) :: []
theorem w_f_X1_clear_i32 (h : AH) : Fm id W_X1_clear_i32 h (f_X1_clear 32 h) := by
  unfold f_X1_clear
  have a_h : Agr W_X1_clear_i32 h h := agr_refl h
  refine fm_nh (agr_sI a_h rfl) (fun h_1 a_h_1 => ?_)
  refine fm_nh (agr_sI a_h_1 rfl) (fun h_3 a_h_3 => ?_)
  exact fm_some a_h_3
def W_X11_takePeople_i0 : List (Nat × Nat) := (0, 8) :: (1, 1) :: (3, 2) :: (4, 1000) :: (5, 1000) :: (25, 1000) :: (26, 1000) :: (27, 1000) :: (32, 2) :: (32, 3) :: []
theorem w_f_X11_takePeople_i0 (h : AH) : Fm Prod.snd W_X11_takePeople_i0 h (f_X11_takePeople 0 h) := by
  unfold f_X11_takePeople
  have a_h : Agr W_X11_takePeople_i0 h h := agr_refl h
  refine fm_ov (w_f_X6_copy_i3_6 _) rfl a_h (fun h_2 a_h_2 => ?_)
  refine fm_ov (w_f_X9_begin_i24_3 _) rfl a_h_2 (fun h_4 a_h_4 => ?_)
  refine fm_ov (w_f_X1_clear_i32 _) rfl a_h_4 (fun h_6 a_h_6 => ?_)
  refine fm_nh (agr_sI a_h_6 rfl) (fun h_7 a_h_7 => ?_)
  refine fm_nh (agr_sI a_h_7 rfl) (fun h_9 a_h_9 => ?_)
  exact fm_some a_h_9
def W_X11_text_i0 : List (Nat × Nat) := (0, 5) :: (0, 8) :: (1, 1) :: (1, 2) :: (3, 2) :: (4, 1000) :: (5, 1000) :: (6, 2) :: (7, 1000) :: (9, 2) :: (10, 1000) :: (12, 2) :: (13, 1000) :: (15, 2) :: (16, 1000) :: (18, 2) :: (19, 1000) :: (21, 2) :: (22, 1000) :: (25, 1000) :: (26, 1000) :: (27, 1000) :: (32, 2) :: (32, 3) :: []
theorem w_f_X11_text_53_i0 {h0 : AH} : ∀ (h : AH), Agr W_X11_text_i0 h0 h → Fm Prod.snd W_X11_text_i0 h0 (f_X11_text_53 h) := by
  intro h a_h
  unfold f_X11_text_53
  exact fm_some a_h
theorem w_f_X11_text_24_i0 {h0 : AH} : ∀ (x1 : Int32) (h : AH), Agr W_X11_text_i0 h0 h → Fm Prod.snd W_X11_text_i0 h0 (f_X11_text_24 0 x1 h) := by
  intro x1 h a_h
  unfold f_X11_text_24
  refine fm_ite ?_ ?_
  · refine fm_ite ?_ ?_
    · exact w_f_X11_text_53_i0  _ a_h
    · refine fm_ob (w_f_X8_read_i9 _) rfl a_h (fun r_5 h_4 a_h_4 => ?_)
      refine fm_ite ?_ ?_
      · refine fm_ob (w_f_X11_takeRule _) rfl a_h_4 (fun r_9 h_8 a_h_8 => ?_)
        exact fm_some a_h_8
      · exact w_f_X11_text_53_i0  _ a_h_4
  · exact w_f_X11_text_53_i0  _ a_h
theorem w_f_X11_text_i0 (x1 : Int32) (h : AH) : Fm Prod.snd W_X11_text_i0 h (f_X11_text 0 x1 h) := by
  unfold f_X11_text
  have a_h : Agr W_X11_text_i0 h h := agr_refl h
  refine fm_ite ?_ ?_
  · refine fm_ob (w_f_X6_read_i6_1 _) rfl a_h (fun r_4 h_3 a_h_3 => ?_)
    refine fm_ite ?_ ?_
    · refine fm_ob (w_f_X11_takePeople_i0 _) rfl a_h_3 (fun r_8 h_7 a_h_7 => ?_)
      exact fm_some a_h_7
    · exact w_f_X11_text_24_i0  _ _ a_h_3
  · exact w_f_X11_text_24_i0  _ _ a_h
def W_X12_text_i56 : List (Nat × Nat) := (56, 0) :: (56, 6) :: (56, 7) :: (56, 8) :: (56, 9) :: (56, 10) :: (56, 11) :: (56, 12) :: (56, 13) :: (56, 14) :: (56, 18) :: (56, 20) :: (56, 21) :: (56, 32) :: (56, 50) :: (56, 57) :: (58, 1000) :: (59, 1000) :: (61, 1000) :: (62, 1000) :: (63, 1000) :: (64, 1000) :: (65, 1000) :: (66, 1000) :: (201, 0) :: []
theorem w_f_X12_text_37_i56 {h0 : AH} : ∀ (h : AH), Agr W_X12_text_i56 h0 h → Fm Prod.snd W_X12_text_i56 h0 (f_X12_text_37 h) := by
  intro h a_h
  unfold f_X12_text_37
  exact fm_some a_h
theorem w_f_X12_text_56_i56 {h0 : AH} : ∀ (n : Nat) (x2 : Int32) (x3 : Int32) (h : AH), Agr W_X12_text_i56 h0 h → Fm Prod.snd W_X12_text_i56 h0 (f_X12_text_56 n 56 x2 x3 h) := by
  intro n
  induction n with
  | zero => intro x2 x3 h _; exact fm_none
  | succ n ih =>
    intro x2 x3 h a_h
    rw [f_X12_text_56]
    refine fm_ite ?_ ?_
    · refine fm_og (fun hb1 => ?_)
      refine fm_nh (agr_sI a_h rfl) (fun h_3 a_h_3 => ?_)
      refine fm_nh (agr_sI a_h_3 rfl) (fun h_5 a_h_5 => ?_)
      exact fm_some a_h_5
    · refine fm_og (fun hb2 => ?_)
      refine fm_og (fun hb3 => ?_)
      refine fm_nh (agr_sI a_h rfl) (fun h_9 a_h_9 => ?_)
      refine fm_nm (fun x3_11 => ?_)
      exact ih _ _ _ a_h_9
theorem w_f_X12_text_154_i56 {h0 : AH} : ∀ (n : Nat) (x3 : Int32) (h : AH), Agr W_X12_text_i56 h0 h → Fm Prod.snd W_X12_text_i56 h0 (f_X12_text_154 n 56 x3 h) := by
  intro n
  induction n with
  | zero => intro x3 h _; exact fm_none
  | succ n ih =>
    intro x3 h a_h
    rw [f_X12_text_154]
    refine fm_ite ?_ ?_
    · refine fm_nh (agr_sI a_h rfl) (fun h_2 a_h_2 => ?_)
      refine fm_nh (agr_sI a_h_2 rfl) (fun h_4 a_h_4 => ?_)
      refine fm_nh (agr_sI a_h_4 rfl) (fun h_6 a_h_6 => ?_)
      exact fm_some a_h_6
    · refine fm_og (fun hb1 => ?_)
      refine fm_nh (agr_sI a_h rfl) (fun h_9 a_h_9 => ?_)
      refine fm_og (fun hb2 => ?_)
      refine fm_nh (agr_sI a_h_9 rfl) (fun h_12 a_h_12 => ?_)
      refine fm_og (fun hb3 => ?_)
      refine fm_og (fun hb4 => ?_)
      refine fm_nh (agr_sI a_h_12 rfl) (fun h_16 a_h_16 => ?_)
      refine fm_og (fun hb5 => ?_)
      refine fm_og (fun hb6 => ?_)
      refine fm_nh (agr_sI a_h_16 rfl) (fun h_20 a_h_20 => ?_)
      refine fm_og (fun hb7 => ?_)
      refine fm_nh (agr_sI a_h_20 rfl) (fun h_23 a_h_23 => ?_)
      refine fm_nm (fun x3_25 => ?_)
      exact ih _ _ a_h_23
theorem w_f_X12_text_125_i56 {h0 : AH} : ∀ (n : Nat) (x3 : Int32) (h : AH), Agr W_X12_text_i56 h0 h → Fm Prod.snd W_X12_text_i56 h0 (f_X12_text_125 n 56 x3 h) := by
  intro n
  induction n with
  | zero => intro x3 h _; exact fm_none
  | succ n ih =>
    intro x3 h a_h
    rw [f_X12_text_125]
    refine fm_ite ?_ ?_
    · exact w_f_X12_text_154_i56  FU _ _ a_h
    · refine fm_og (fun hb1 => ?_)
      refine fm_og (fun hb2 => ?_)
      refine fm_nh (agr_sI a_h rfl) (fun h_4 a_h_4 => ?_)
      refine fm_nm (fun x3_6 => ?_)
      exact ih _ _ a_h_4
theorem w_f_X12_text_28_i56 {h0 : AH} : ∀ (x1 : Int32) (h : AH), Agr W_X12_text_i56 h0 h → Fm Prod.snd W_X12_text_i56 h0 (f_X12_text_28 56 x1 h) := by
  intro x1 h a_h
  unfold f_X12_text_28
  refine fm_ob (w_f_X12_fault_i56 _ _) rfl a_h (fun r_3 h_2 a_h_2 => ?_)
  refine fm_ite ?_ ?_
  · refine fm_nm (fun x2_5 => ?_)
    refine fm_nh (agr_sI a_h_2 rfl) (fun h_7 a_h_7 => ?_)
    refine fm_ite ?_ ?_
    · exact w_f_X12_text_56_i56  FU _ _ _ a_h_7
    · refine fm_nh (agr_sI a_h_7 rfl) (fun h_10 a_h_10 => ?_)
      exact w_f_X12_text_125_i56  FU _ _ a_h_10
  · exact w_f_X12_text_37_i56  _ a_h_2
theorem w_f_X12_text_i56 (x1 : Int32) (h : AH) : Fm Prod.snd W_X12_text_i56 h (f_X12_text 56 x1 h) := by
  unfold f_X12_text
  have a_h : Agr W_X12_text_i56 h h := agr_refl h
  refine fm_nh (agr_sI a_h rfl) (fun h_1 a_h_1 => ?_)
  refine fm_ob (w_f_X12_isIn _ _ _ _) rfl a_h_1 (fun r_5 h_4 a_h_4 => ?_)
  refine fm_ite ?_ ?_
  · exact w_f_X12_text_37_i56  _ a_h_4
  · refine fm_ite ?_ ?_
    · refine fm_ite ?_ ?_
      · exact w_f_X12_text_37_i56  _ a_h_4
      · exact w_f_X12_text_28_i56  _ _ a_h_4
    · exact w_f_X12_text_28_i56  _ _ a_h_4
def W_X12_isPerson_i56 : List (Nat × Nat) := []
theorem w_f_X12_isPerson_17_i56 {h0 : AH} : ∀ (s0 : Int32) (h : AH), Agr W_X12_isPerson_i56 h0 h → Fm Prod.snd W_X12_isPerson_i56 h0 (f_X12_isPerson_17 s0 h) := by
  intro s0 h a_h
  unfold f_X12_isPerson_17
  refine fm_og (fun hb1 => ?_)
  exact fm_some a_h
theorem w_f_X12_isPerson_16_i56 {h0 : AH} : ∀ (h : AH), Agr W_X12_isPerson_i56 h0 h → Fm Prod.snd W_X12_isPerson_i56 h0 (f_X12_isPerson_16 h) := by
  intro h a_h
  unfold f_X12_isPerson_16
  exact w_f_X12_isPerson_17_i56  _ _ a_h
theorem w_f_X12_isPerson_i56 (x1 : Int32) (h : AH) : Fm Prod.snd W_X12_isPerson_i56 h (f_X12_isPerson 56 x1 h) := by
  unfold f_X12_isPerson
  have a_h : Agr W_X12_isPerson_i56 h h := agr_refl h
  refine fm_ite ?_ ?_
  · exact w_f_X12_isPerson_16_i56  _ a_h
  · refine fm_ite ?_ ?_
    · exact w_f_X12_isPerson_16_i56  _ a_h
    · exact w_f_X12_isPerson_17_i56  _ _ a_h
def W_X12_partOf_i56 : List (Nat × Nat) := []
theorem w_f_X12_partOf_i56 (x1 : Int32) (x2 : Int32) (h : AH) : Fm Prod.snd W_X12_partOf_i56 h (f_X12_partOf 56 x1 x2 h) := by
  unfold f_X12_partOf
  have a_h : Agr W_X12_partOf_i56 h h := agr_refl h
  refine fm_og (fun hb1 => ?_)
  exact fm_some a_h
def W_X12_person_i56 : List (Nat × Nat) := (56, 0) :: []
theorem w_f_X12_person_26_i56 {h0 : AH} : ∀ (x1 : Int32) (x2 : Int32) (s0 : Int32) (h : AH), Agr W_X12_person_i56 h0 h → Fm Prod.snd W_X12_person_i56 h0 (f_X12_person_26 56 x1 x2 s0 56 h) := by
  intro x1 x2 s0 h a_h
  unfold f_X12_person_26
  refine fm_nh (agr_sI a_h rfl) (fun h_1 a_h_1 => ?_)
  refine fm_ite ?_ ?_
  · refine fm_ite ?_ ?_
    · refine fm_ob (w_f_X12_partOf_i56 _ _ _) rfl a_h_1 (fun r_7 h_6 a_h_6 => ?_)
      exact fm_some a_h_6
    · refine fm_ite ?_ ?_
      · refine fm_ob (w_f_X12_partOf_i56 _ _ _) rfl a_h_1 (fun r_11 h_10 a_h_10 => ?_)
        exact fm_some a_h_10
      · refine fm_ite ?_ ?_
        · refine fm_ob (w_f_X12_partOf_i56 _ _ _) rfl a_h_1 (fun r_15 h_14 a_h_14 => ?_)
          exact fm_some a_h_14
        · refine fm_ite ?_ ?_
          · refine fm_ob (w_f_X12_partOf_i56 _ _ _) rfl a_h_1 (fun r_19 h_18 a_h_18 => ?_)
            exact fm_some a_h_18
          · refine fm_ite ?_ ?_
            · refine fm_ob (w_f_X12_partOf_i56 _ _ _) rfl a_h_1 (fun r_23 h_22 a_h_22 => ?_)
              exact fm_some a_h_22
            · refine fm_ite ?_ ?_
              · refine fm_og (fun hb1 => ?_)
                exact fm_some a_h_1
              · refine fm_og (fun hb2 => ?_)
                exact fm_some a_h_1
  · exact fm_some a_h_1
theorem w_f_X12_person_25_i56 {h0 : AH} : ∀ (x1 : Int32) (x2 : Int32) (h : AH), Agr W_X12_person_i56 h0 h → Fm Prod.snd W_X12_person_i56 h0 (f_X12_person_25 56 x1 x2 56 h) := by
  intro x1 x2 h a_h
  unfold f_X12_person_25
  exact w_f_X12_person_26_i56  _ _ _ _ a_h
theorem w_f_X12_person_i56 (x1 : Int32) (x2 : Int32) (h : AH) : Fm Prod.snd W_X12_person_i56 h (f_X12_person 56 x1 x2 h) := by
  unfold f_X12_person
  have a_h : Agr W_X12_person_i56 h h := agr_refl h
  refine fm_ob (w_f_X12_isPerson_i56 _ _) rfl a_h (fun r_3 h_2 a_h_2 => ?_)
  refine fm_ite ?_ ?_
  · exact w_f_X12_person_25_i56  _ _ _ a_h_2
  · refine fm_ob (w_f_X12_isIn _ _ _ _) rfl a_h_2 (fun r_7 h_6 a_h_6 => ?_)
    refine fm_ite ?_ ?_
    · exact w_f_X12_person_25_i56  _ _ _ a_h_6
    · exact w_f_X12_person_26_i56  _ _ _ _ a_h_6
def W_X11_isKnown_i0 : List (Nat × Nat) := []
theorem w_f_X11_isKnown_20_i0 {h0 : AH} : ∀ (s0 : Int32) (h : AH), Agr W_X11_isKnown_i0 h0 h → Fm Prod.snd W_X11_isKnown_i0 h0 (f_X11_isKnown_20 s0 h) := by
  intro s0 h a_h
  unfold f_X11_isKnown_20
  refine fm_og (fun hb1 => ?_)
  exact fm_some a_h
theorem w_f_X11_isKnown_19_i0 {h0 : AH} : ∀ (h : AH), Agr W_X11_isKnown_i0 h0 h → Fm Prod.snd W_X11_isKnown_i0 h0 (f_X11_isKnown_19 h) := by
  intro h a_h
  unfold f_X11_isKnown_19
  exact w_f_X11_isKnown_20_i0  _ _ a_h
theorem w_f_X11_isKnown_i0 (x1 : Int32) (h : AH) : Fm Prod.snd W_X11_isKnown_i0 h (f_X11_isKnown 0 x1 h) := by
  unfold f_X11_isKnown
  have a_h : Agr W_X11_isKnown_i0 h h := agr_refl h
  refine fm_ite ?_ ?_
  · exact w_f_X11_isKnown_19_i0  _ a_h
  · refine fm_ite ?_ ?_
    · exact w_f_X11_isKnown_19_i0  _ a_h
    · exact w_f_X11_isKnown_20_i0  _ _ a_h
def W_X11_pair_i0 : List (Nat × Nat) := []
theorem w_f_X11_pair_i0 (x1 : Int32) (x2 : Int32) (h : AH) : Fm Prod.snd W_X11_pair_i0 h (f_X11_pair 0 x1 x2 h) := by
  unfold f_X11_pair
  have a_h : Agr W_X11_pair_i0 h h := agr_refl h
  refine fm_ob (w_f_X11_isKnown_i0 _ _) rfl a_h (fun r_3 h_2 a_h_2 => ?_)
  refine fm_ite ?_ ?_
  · exact fm_some a_h_2
  · refine fm_ite ?_ ?_
    · refine fm_ob (w_f_X6_item_i3 _ _ _) rfl a_h_2 (fun r_8 h_7 a_h_7 => ?_)
      exact fm_some a_h_7
    · refine fm_ite ?_ ?_
      · refine fm_og (fun hb1 => ?_)
        exact fm_some a_h_2
      · refine fm_ite ?_ ?_
        · refine fm_og (fun hb2 => ?_)
          exact fm_some a_h_2
        · exact fm_some a_h_2
def W_X12_pair_i56 : List (Nat × Nat) := (56, 0) :: []
theorem w_f_X12_pair_25_i56 {h0 : AH} : ∀ (h : AH), Agr W_X12_pair_i56 h0 h → Fm Prod.snd W_X12_pair_i56 h0 (f_X12_pair_25 h) := by
  intro h a_h
  unfold f_X12_pair_25
  exact fm_some a_h
theorem w_f_X12_pair_60_i56 {h0 : AH} : ∀ (s0 : Int32) (h : AH), Agr W_X12_pair_i56 h0 h → Fm Prod.snd W_X12_pair_i56 h0 (f_X12_pair_60 s0 h) := by
  intro s0 h a_h
  unfold f_X12_pair_60
  exact fm_some a_h
theorem w_f_X12_pair_i56 (x1 : Int32) (x2 : Int32) (h : AH) : Fm Prod.snd W_X12_pair_i56 h (f_X12_pair 56 x1 x2 h) := by
  unfold f_X12_pair
  have a_h : Agr W_X12_pair_i56 h h := agr_refl h
  refine fm_nh (agr_sI a_h rfl) (fun h_1 a_h_1 => ?_)
  refine fm_ob (w_f_X12_isPerson_i56 _ _) rfl a_h_1 (fun r_5 h_4 a_h_4 => ?_)
  refine fm_ite ?_ ?_
  · exact w_f_X12_pair_25_i56  _ a_h_4
  · refine fm_ob (w_f_X12_isIn _ _ _ _) rfl a_h_4 (fun r_9 h_8 a_h_8 => ?_)
    refine fm_ite ?_ ?_
    · exact w_f_X12_pair_25_i56  _ a_h_8
    · refine fm_ite ?_ ?_
      · refine fm_og (fun hb1 => ?_)
        exact w_f_X12_pair_60_i56  _ _ a_h_8
      · refine fm_ite ?_ ?_
        · refine fm_og (fun hb2 => ?_)
          exact w_f_X12_pair_60_i56  _ _ a_h_8
        · refine fm_og (fun hb3 => ?_)
          exact w_f_X12_pair_60_i56  _ _ a_h_8
def W_X11_fits_i0 : List (Nat × Nat) := []
theorem w_f_X11_fits_16_i0 {h0 : AH} : ∀ (h : AH), Agr W_X11_fits_i0 h0 h → Fm Prod.snd W_X11_fits_i0 h0 (f_X11_fits_16 h) := by
  intro h a_h
  unfold f_X11_fits_16
  exact fm_some a_h
theorem w_f_X11_fits_43_i0 {h0 : AH} : ∀ (s0 : Int32) (h : AH), Agr W_X11_fits_i0 h0 h → Fm Prod.snd W_X11_fits_i0 h0 (f_X11_fits_43 s0 h) := by
  intro s0 h a_h
  unfold f_X11_fits_43
  exact fm_some a_h
theorem w_f_X11_fits_i0 (x1 : Int32) (x2 : Int32) (h : AH) : Fm Prod.snd W_X11_fits_i0 h (f_X11_fits 0 x1 x2 h) := by
  unfold f_X11_fits
  have a_h : Agr W_X11_fits_i0 h h := agr_refl h
  refine fm_ob (w_f_X11_isKnown_i0 _ _) rfl a_h (fun r_3 h_2 a_h_2 => ?_)
  refine fm_ite ?_ ?_
  · exact w_f_X11_fits_16_i0  _ a_h_2
  · refine fm_ob (w_f_X11_isKnown_i0 _ _) rfl a_h_2 (fun r_7 h_6 a_h_6 => ?_)
    refine fm_ite ?_ ?_
    · exact w_f_X11_fits_16_i0  _ a_h_6
    · refine fm_ob (w_f_X6_item_i3 _ _ _) rfl a_h_6 (fun r_11 h_10 a_h_10 => ?_)
      refine fm_ob (w_f_X6_canWear_i3 _ _ _) rfl a_h_10 (fun r_14 h_13 a_h_13 => ?_)
      refine fm_ite ?_ ?_
      · exact w_f_X11_fits_43_i0  _ _ a_h_13
      · exact w_f_X11_fits_43_i0  _ _ a_h_13
def W_X12_fits_i56 : List (Nat × Nat) := (56, 0) :: []
theorem w_f_X12_fits_39_i56 {h0 : AH} : ∀ (s0 : Int32) (h : AH), Agr W_X12_fits_i56 h0 h → Fm Prod.snd W_X12_fits_i56 h0 (f_X12_fits_39 s0 h) := by
  intro s0 h a_h
  unfold f_X12_fits_39
  exact fm_some a_h
theorem w_f_X12_fits_21_i56 {h0 : AH} : ∀ (h : AH), Agr W_X12_fits_i56 h0 h → Fm Prod.snd W_X12_fits_i56 h0 (f_X12_fits_21 h) := by
  intro h a_h
  unfold f_X12_fits_21
  exact w_f_X12_fits_39_i56  _ _ a_h
def W_X12_doesFit_i56 : List (Nat × Nat) := []
theorem w_f_X12_doesFit_i56 (x1 : Int32) (x2 : Int32) (h : AH) : Fm Prod.snd W_X12_doesFit_i56 h (f_X12_doesFit 56 x1 x2 h) := by
  unfold f_X12_doesFit
  have a_h : Agr W_X12_doesFit_i56 h h := agr_refl h
  refine fm_og (fun hb1 => ?_)
  refine fm_ob (w_f_X12_partOf_i56 _ _ _) rfl a_h (fun r_4 h_3 a_h_3 => ?_)
  refine fm_ob (w_f_X12_partOf_i56 _ _ _) rfl a_h_3 (fun r_7 h_6 a_h_6 => ?_)
  refine fm_ob (w_f_X12_partOf_i56 _ _ _) rfl a_h_6 (fun r_10 h_9 a_h_9 => ?_)
  refine fm_ob (w_f_X12_isIn _ _ _ _) rfl a_h_9 (fun r_13 h_12 a_h_12 => ?_)
  refine fm_og (fun hb2 => ?_)
  exact fm_some a_h_12
theorem w_f_X12_fits_i56 (x1 : Int32) (x2 : Int32) (h : AH) : Fm Prod.snd W_X12_fits_i56 h (f_X12_fits 56 x1 x2 h) := by
  unfold f_X12_fits
  have a_h : Agr W_X12_fits_i56 h h := agr_refl h
  refine fm_nh (agr_sI a_h rfl) (fun h_1 a_h_1 => ?_)
  refine fm_ob (w_f_X12_isPerson_i56 _ _) rfl a_h_1 (fun r_5 h_4 a_h_4 => ?_)
  refine fm_ite ?_ ?_
  · exact w_f_X12_fits_21_i56  _ a_h_4
  · refine fm_ob (w_f_X12_isPerson_i56 _ _) rfl a_h_4 (fun r_9 h_8 a_h_8 => ?_)
    refine fm_ite ?_ ?_
    · exact w_f_X12_fits_21_i56  _ a_h_8
    · refine fm_ob (w_f_X12_doesFit_i56 _ _ _) rfl a_h_8 (fun r_13 h_12 a_h_12 => ?_)
      refine fm_ite ?_ ?_
      · exact w_f_X12_fits_39_i56  _ _ a_h_12
      · exact w_f_X12_fits_39_i56  _ _ a_h_12
def W_X11_rule_i0 : List (Nat × Nat) := (5, 1000) :: []
theorem w_f_X11_rule_21_i0 {h0 : AH} : ∀ (h : AH), Agr W_X11_rule_i0 h0 h → Fm Prod.snd W_X11_rule_i0 h0 (f_X11_rule_21 h) := by
  intro h a_h
  unfold f_X11_rule_21
  exact fm_some a_h
theorem w_f_X11_rule_i0 (x1 : Int32) (x2 : Int32) (h : AH) : Fm Prod.snd W_X11_rule_i0 h (f_X11_rule 0 x1 x2 h) := by
  unfold f_X11_rule
  have a_h : Agr W_X11_rule_i0 h h := agr_refl h
  refine fm_ob (w_f_X11_isKnown_i0 _ _) rfl a_h (fun r_3 h_2 a_h_2 => ?_)
  refine fm_ite ?_ ?_
  · exact w_f_X11_rule_21_i0  _ a_h_2
  · refine fm_ite ?_ ?_
    · exact w_f_X11_rule_21_i0  _ a_h_2
    · refine fm_ite ?_ ?_
      · refine fm_og (fun hb1 => ?_)
        refine fm_nh (agr_sI a_h_2 rfl) (fun h_8 a_h_8 => ?_)
        exact fm_some a_h_8
      · exact w_f_X11_rule_21_i0  _ a_h_2
def W_X12_rule_i56 : List (Nat × Nat) := (56, 0) :: (66, 1000) :: []
theorem w_f_X12_rule_34_i56 {h0 : AH} : ∀ (h : AH), Agr W_X12_rule_i56 h0 h → Fm Prod.snd W_X12_rule_i56 h0 (f_X12_rule_34 h) := by
  intro h a_h
  unfold f_X12_rule_34
  exact fm_some a_h
theorem w_f_X12_rule_36_i56 {h0 : AH} : ∀ (x1 : Int32) (x2 : Int32) (h : AH), Agr W_X12_rule_i56 h0 h → Fm Prod.snd W_X12_rule_i56 h0 (f_X12_rule_36 56 x1 x2 h) := by
  intro x1 x2 h a_h
  unfold f_X12_rule_36
  refine fm_og (fun hb1 => ?_)
  refine fm_nh (agr_sI a_h rfl) (fun h_2 a_h_2 => ?_)
  exact fm_some a_h_2
theorem w_f_X12_rule_i56 (x1 : Int32) (x2 : Int32) (h : AH) : Fm Prod.snd W_X12_rule_i56 h (f_X12_rule 56 x1 x2 h) := by
  unfold f_X12_rule
  have a_h : Agr W_X12_rule_i56 h h := agr_refl h
  refine fm_nh (agr_sI a_h rfl) (fun h_1 a_h_1 => ?_)
  refine fm_ob (w_f_X12_isPerson_i56 _ _) rfl a_h_1 (fun r_5 h_4 a_h_4 => ?_)
  refine fm_ite ?_ ?_
  · exact w_f_X12_rule_34_i56  _ a_h_4
  · refine fm_ite ?_ ?_
    · exact w_f_X12_rule_36_i56  _ _ _ a_h_4
    · refine fm_ob (w_f_X12_isIn _ _ _ _) rfl a_h_4 (fun r_10 h_9 a_h_9 => ?_)
      refine fm_ite ?_ ?_
      · exact w_f_X12_rule_34_i56  _ a_h_9
      · exact w_f_X12_rule_36_i56  _ _ _ a_h_9
def W_X11_isParty_i0 : List (Nat × Nat) := []
theorem w_f_X11_isParty_26_i0 {h0 : AH} : ∀ (s0 : Int32) (h : AH), Agr W_X11_isParty_i0 h0 h → Fm Prod.snd W_X11_isParty_i0 h0 (f_X11_isParty_26 s0 h) := by
  intro s0 h a_h
  unfold f_X11_isParty_26
  refine fm_og (fun hb1 => ?_)
  exact fm_some a_h
theorem w_f_X11_isParty_25_i0 {h0 : AH} : ∀ (h : AH), Agr W_X11_isParty_i0 h0 h → Fm Prod.snd W_X11_isParty_i0 h0 (f_X11_isParty_25 h) := by
  intro h a_h
  unfold f_X11_isParty_25
  exact w_f_X11_isParty_26_i0  _ _ a_h
def W_X11_everybody_i0 : List (Nat × Nat) := []
theorem w_f_X11_everybody_i0 (h : AH) : Fm Prod.snd W_X11_everybody_i0 h (f_X11_everybody 0 h) := by
  unfold f_X11_everybody
  have a_h : Agr W_X11_everybody_i0 h h := agr_refl h
  exact fm_some a_h
theorem w_f_X11_isParty_i0 (x1 : Int32) (x2 : Int32) (h : AH) : Fm Prod.snd W_X11_isParty_i0 h (f_X11_isParty 0 x1 x2 h) := by
  unfold f_X11_isParty
  have a_h : Agr W_X11_isParty_i0 h h := agr_refl h
  refine fm_ite ?_ ?_
  · exact w_f_X11_isParty_25_i0  _ a_h
  · refine fm_ite ?_ ?_
    · exact w_f_X11_isParty_25_i0  _ a_h
    · refine fm_ite ?_ ?_
      · exact w_f_X11_isParty_25_i0  _ a_h
      · refine fm_ob (w_f_X11_everybody_i0 _) rfl a_h (fun r_6 h_5 a_h_5 => ?_)
        refine fm_ite ?_ ?_
        · exact w_f_X11_isParty_25_i0  _ a_h_5
        · exact w_f_X11_isParty_26_i0  _ _ a_h_5
def W_X11_evening_i0 : List (Nat × Nat) := (14, 1000) :: (17, 1000) :: (20, 1000) :: (23, 1000) :: (25, 1000) :: (26, 1000) :: (27, 1000) :: (32, 2) :: (33, 1000) :: (36, 1000) :: (37, 1000) :: (38, 1000) :: (39, 1000) :: (40, 1000) :: (41, 2) :: (42, 1000) :: (43, 1000) :: (44, 1000) :: []
theorem w_f_X11_evening_21_i0 {h0 : AH} : ∀ (h : AH), Agr W_X11_evening_i0 h0 h → Fm Prod.snd W_X11_evening_i0 h0 (f_X11_evening_21 h) := by
  intro h a_h
  unfold f_X11_evening_21
  exact fm_some a_h
def W_J6_bitCount_0f7a4 : List (Nat × Nat) := []
theorem w_f_J6_bitCount_0f7a4 (x0 : Int32) (h : AH) : Fm Prod.snd W_J6_bitCount_0f7a4 h (f_J6_bitCount_0f7a4 x0 h) := by
  unfold f_J6_bitCount_0f7a4
  have a_h : Agr W_J6_bitCount_0f7a4 h h := agr_refl h
  refine fm_nm (fun x0_1 => ?_)
  refine fm_nm (fun x0_3 => ?_)
  refine fm_nm (fun x0_5 => ?_)
  refine fm_nm (fun x0_7 => ?_)
  refine fm_nm (fun x0_9 => ?_)
  exact fm_some a_h
def W_X5_readOrder_i41 : List (Nat × Nat) := (41, 2) :: (42, 1000) :: []
theorem w_f_X5_readOrder_90_i41 {h0 : AH} : ∀ (s0 : Int32) (h : AH), Agr W_X5_readOrder_i41 h0 h → Fm Prod.snd W_X5_readOrder_i41 h0 (f_X5_readOrder_90 s0 h) := by
  intro s0 h a_h
  unfold f_X5_readOrder_90
  refine fm_og (fun hb1 => ?_)
  exact fm_some a_h
theorem w_f_X5_readOrder_89_i41 {h0 : AH} : ∀ (h : AH), Agr W_X5_readOrder_i41 h0 h → Fm Prod.snd W_X5_readOrder_i41 h0 (f_X5_readOrder_89 h) := by
  intro h a_h
  unfold f_X5_readOrder_89
  exact w_f_X5_readOrder_90_i41  _ _ a_h
theorem w_f_X5_readOrder_44_i41 {h0 : AH} : ∀ (h : AH), Agr W_X5_readOrder_i41 h0 h → Fm Prod.snd W_X5_readOrder_i41 h0 (f_X5_readOrder_44 h) := by
  intro h a_h
  unfold f_X5_readOrder_44
  exact fm_some a_h
theorem w_f_X5_readOrder_21_i41 {h0 : AH} : ∀ (n : Nat) (x2 : Int32) (x3 : Int32) (x4 : Int32) (x5 : Int32) (h : AH), Agr W_X5_readOrder_i41 h0 h → Fm Prod.snd W_X5_readOrder_i41 h0 (f_X5_readOrder_21 n 41 x2 x3 x4 x5 h) := by
  intro n
  induction n with
  | zero => intro x2 x3 x4 x5 h _; exact fm_none
  | succ n ih =>
    intro x2 x3 x4 x5 h a_h
    rw [f_X5_readOrder_21]
    refine fm_ite ?_ ?_
    · refine fm_ite ?_ ?_
      · refine fm_ite ?_ ?_
        · exact w_f_X5_readOrder_90_i41  _ _ a_h
        · exact w_f_X5_readOrder_89_i41  _ a_h
      · exact w_f_X5_readOrder_89_i41  _ a_h
    · refine fm_nm (fun x6_4 => ?_)
      refine fm_ite ?_ ?_
      · exact w_f_X5_readOrder_44_i41  _ a_h
      · refine fm_ite ?_ ?_
        · refine fm_og (fun hb1 => ?_)
          refine fm_nh (agr_sI a_h rfl) (fun h_9 a_h_9 => ?_)
          refine fm_nm (fun x4_11 => ?_)
          refine fm_nm (fun x3_13 => ?_)
          refine fm_nm (fun x5_15 => ?_)
          exact ih _ _ _ _ _ a_h_9
        · exact w_f_X5_readOrder_44_i41  _ a_h
theorem w_f_X5_readOrder_i41 (x1 : Int32) (x2 : Int32) (h : AH) : Fm Prod.snd W_X5_readOrder_i41 h (f_X5_readOrder 41 x1 x2 h) := by
  unfold f_X5_readOrder
  have a_h : Agr W_X5_readOrder_i41 h h := agr_refl h
  refine fm_ob (w_f_J6_bitCount_0f7a4 _ _) rfl a_h (fun r_3 h_2 a_h_2 => ?_)
  refine fm_nh (agr_sI a_h_2 rfl) (fun h_4 a_h_4 => ?_)
  refine fm_nm (fun x5_6 => ?_)
  exact w_f_X5_readOrder_21_i41  FU _ _ _ _ _ a_h_4
def W_J7_fill_53178_i38 : List (Nat × Nat) := (38, 1000) :: []
theorem w_f_J7_fill_53178_5_i38 {h0 : AH} : ∀ (n : Nat) (x1 : Int32) (x2 : Int32) (x3 : Int32) (h : AH), Agr W_J7_fill_53178_i38 h0 h → Fm id W_J7_fill_53178_i38 h0 (f_J7_fill_53178_5 n 38 x1 x2 x3 h) := by
  intro n
  induction n with
  | zero => intro x1 x2 x3 h _; exact fm_none
  | succ n ih =>
    intro x1 x2 x3 h a_h
    rw [f_J7_fill_53178_5]
    refine fm_ite ?_ ?_
    · exact fm_some a_h
    · refine fm_og (fun hb1 => ?_)
      refine fm_nh (agr_sI a_h rfl) (fun h_3 a_h_3 => ?_)
      refine fm_nm (fun x2_5 => ?_)
      exact ih _ _ _ _ a_h_3
theorem w_f_J7_fill_53178_i38 (x1 : Int32) (h : AH) : Fm id W_J7_fill_53178_i38 h (f_J7_fill_53178 38 x1 h) := by
  unfold f_J7_fill_53178
  have a_h : Agr W_J7_fill_53178_i38 h h := agr_refl h
  refine fm_nm (fun x3_1 => ?_)
  exact w_f_J7_fill_53178_5_i38  FU _ _ _ _ a_h
def W_J7_fill_53178_i39 : List (Nat × Nat) := (39, 1000) :: []
theorem w_f_J7_fill_53178_5_i39 {h0 : AH} : ∀ (n : Nat) (x1 : Int32) (x2 : Int32) (x3 : Int32) (h : AH), Agr W_J7_fill_53178_i39 h0 h → Fm id W_J7_fill_53178_i39 h0 (f_J7_fill_53178_5 n 39 x1 x2 x3 h) := by
  intro n
  induction n with
  | zero => intro x1 x2 x3 h _; exact fm_none
  | succ n ih =>
    intro x1 x2 x3 h a_h
    rw [f_J7_fill_53178_5]
    refine fm_ite ?_ ?_
    · exact fm_some a_h
    · refine fm_og (fun hb1 => ?_)
      refine fm_nh (agr_sI a_h rfl) (fun h_3 a_h_3 => ?_)
      refine fm_nm (fun x2_5 => ?_)
      exact ih _ _ _ _ a_h_3
theorem w_f_J7_fill_53178_i39 (x1 : Int32) (h : AH) : Fm id W_J7_fill_53178_i39 h (f_J7_fill_53178 39 x1 h) := by
  unfold f_J7_fill_53178
  have a_h : Agr W_J7_fill_53178_i39 h h := agr_refl h
  refine fm_nm (fun x3_1 => ?_)
  exact w_f_J7_fill_53178_5_i39  FU _ _ _ _ a_h
def W_X2_forget_i35 : List (Nat × Nat) := (38, 1000) :: (39, 1000) :: []
theorem w_f_X2_forget_i35 (h : AH) : Fm id W_X2_forget_i35 h (f_X2_forget 35 h) := by
  unfold f_X2_forget
  have a_h : Agr W_X2_forget_i35 h h := agr_refl h
  refine fm_ov (w_f_J7_fill_53178_i38 _ _) rfl a_h (fun h_2 a_h_2 => ?_)
  refine fm_ov (w_f_J7_fill_53178_i39 _ _) rfl a_h_2 (fun h_4 a_h_4 => ?_)
  exact fm_some a_h_4
def W_X2_open_i35_24 : List (Nat × Nat) := (36, 1000) :: (37, 1000) :: (38, 1000) :: (39, 1000) :: []
theorem w_f_X2_open_2_i35_24 {h0 : AH} : ∀ (n : Nat) (x2 : Int32) (h : AH), Agr W_X2_open_i35_24 h0 h → Fm id W_X2_open_i35_24 h0 (f_X2_open_2 n 35 24 x2 h) := by
  intro n
  induction n with
  | zero => intro x2 h _; exact fm_none
  | succ n ih =>
    intro x2 h a_h
    rw [f_X2_open_2]
    refine fm_ite ?_ ?_
    · refine fm_ov (w_f_X2_forget_i35 _) rfl a_h (fun h_3 a_h_3 => ?_)
      exact fm_some a_h_3
    · refine fm_ob (w_f_X6_item_i3 _ _ _) rfl a_h (fun r_6 h_5 a_h_5 => ?_)
      refine fm_og (fun hb1 => ?_)
      refine fm_nh (agr_sI a_h_5 rfl) (fun h_8 a_h_8 => ?_)
      refine fm_og (fun hb2 => ?_)
      refine fm_og (fun hb3 => ?_)
      refine fm_nh (agr_sI a_h_8 rfl) (fun h_12 a_h_12 => ?_)
      refine fm_nm (fun x2_14 => ?_)
      exact ih _ _ a_h_12
theorem w_f_X2_open_i35_24 (h : AH) : Fm id W_X2_open_i35_24 h (f_X2_open 35 24 h) := by
  unfold f_X2_open
  have a_h : Agr W_X2_open_i35_24 h h := agr_refl h
  exact w_f_X2_open_2_i35_24  FU _ _ a_h
def W_X9_pairsAt_i24 : List (Nat × Nat) := []
theorem w_f_X9_pairsAt_70_i24 {h0 : AH} {q5 : Nat → Int32 → Int32 → Int32 → Int32 → AH → Option (Int32 × AH)} (hq5 : ∀ (y1 : Int32) (y2 : Int32) (y3 : Int32) (y4 : Int32) (y5 : AH), Agr W_X9_pairsAt_i24 h0 y5 → Fm Prod.snd W_X9_pairsAt_i24 h0 (q5 24 y1 y2 y3 y4 y5)) : ∀ (x1 : Int32) (x2 : Int32) (x3 : Int32) (x4 : Int32) (h : AH), Agr W_X9_pairsAt_i24 h0 h → Fm Prod.snd W_X9_pairsAt_i24 h0 (f_X9_pairsAt_70 q5 24 x1 x2 x3 x4 h) := by
  intro x1 x2 x3 x4 h a_h
  unfold f_X9_pairsAt_70
  refine fm_nm (fun x4_1 => ?_)
  exact hq5 _ _ _ _ _ a_h
theorem w_f_X9_pairsAt_63_i24 {h0 : AH} {q5 : Nat → Int32 → Int32 → Int32 → Int32 → AH → Option (Int32 × AH)} (hq5 : ∀ (y1 : Int32) (y2 : Int32) (y3 : Int32) (y4 : Int32) (y5 : AH), Agr W_X9_pairsAt_i24 h0 y5 → Fm Prod.snd W_X9_pairsAt_i24 h0 (q5 24 y1 y2 y3 y4 y5)) : ∀ (x1 : Int32) (x2 : Int32) (x3 : Int32) (x4 : Int32) (h : AH), Agr W_X9_pairsAt_i24 h0 h → Fm Prod.snd W_X9_pairsAt_i24 h0 (f_X9_pairsAt_63 q5 24 x1 x2 x3 x4 h) := by
  intro x1 x2 x3 x4 h a_h
  unfold f_X9_pairsAt_63
  refine fm_nm (fun x3_1 => ?_)
  exact w_f_X9_pairsAt_70_i24 hq5 _ _ _ _ _ a_h
theorem w_f_X9_pairsAt_38_i24 {h0 : AH} {q5 : Nat → Int32 → Int32 → Int32 → Int32 → AH → Option (Int32 × AH)} (hq5 : ∀ (y1 : Int32) (y2 : Int32) (y3 : Int32) (y4 : Int32) (y5 : AH), Agr W_X9_pairsAt_i24 h0 y5 → Fm Prod.snd W_X9_pairsAt_i24 h0 (q5 24 y1 y2 y3 y4 y5)) : ∀ (x1 : Int32) (x2 : Int32) (x3 : Int32) (x4 : Int32) (x5 : Int32) (s0 : Int32) (h : AH), Agr W_X9_pairsAt_i24 h0 h → Fm Prod.snd W_X9_pairsAt_i24 h0 (f_X9_pairsAt_38 q5 24 x1 x2 x3 x4 x5 s0 h) := by
  intro x1 x2 x3 x4 x5 s0 h a_h
  unfold f_X9_pairsAt_38
  refine fm_ite ?_ ?_
  · exact w_f_X9_pairsAt_63_i24 hq5 _ _ _ _ _ a_h
  · refine fm_ite ?_ ?_
    · exact w_f_X9_pairsAt_70_i24 hq5 _ _ _ _ _ a_h
    · refine fm_ob (w_f_X11_isIn _ _ _) rfl a_h (fun r_5 h_4 a_h_4 => ?_)
      refine fm_ite ?_ ?_
      · exact w_f_X9_pairsAt_70_i24 hq5 _ _ _ _ _ a_h_4
      · exact w_f_X9_pairsAt_63_i24 hq5 _ _ _ _ _ a_h_4
theorem w_f_X9_pairsAt_37_i24 {h0 : AH} {q5 : Nat → Int32 → Int32 → Int32 → Int32 → AH → Option (Int32 × AH)} (hq5 : ∀ (y1 : Int32) (y2 : Int32) (y3 : Int32) (y4 : Int32) (y5 : AH), Agr W_X9_pairsAt_i24 h0 y5 → Fm Prod.snd W_X9_pairsAt_i24 h0 (q5 24 y1 y2 y3 y4 y5)) : ∀ (x1 : Int32) (x2 : Int32) (x3 : Int32) (x4 : Int32) (x5 : Int32) (h : AH), Agr W_X9_pairsAt_i24 h0 h → Fm Prod.snd W_X9_pairsAt_i24 h0 (f_X9_pairsAt_37 q5 24 x1 x2 x3 x4 x5 h) := by
  intro x1 x2 x3 x4 x5 h a_h
  unfold f_X9_pairsAt_37
  exact w_f_X9_pairsAt_38_i24 hq5 _ _ _ _ _ _ _ a_h
theorem w_f_X9_pairsAt_5_i24 {h0 : AH} : ∀ (n : Nat) (x1 : Int32) (x2 : Int32) (x3 : Int32) (x4 : Int32) (h : AH), Agr W_X9_pairsAt_i24 h0 h → Fm Prod.snd W_X9_pairsAt_i24 h0 (f_X9_pairsAt_5 n 24 x1 x2 x3 x4 h) := by
  intro n
  induction n with
  | zero => intro x1 x2 x3 x4 h _; exact fm_none
  | succ n ih =>
    intro x1 x2 x3 x4 h a_h
    rw [f_X9_pairsAt_5]
    refine fm_ite ?_ ?_
    · exact fm_some a_h
    · refine fm_og (fun hb1 => ?_)
      refine fm_nm (fun x5_3 => ?_)
      refine fm_ite ?_ ?_
      · exact w_f_X9_pairsAt_37_i24 (fun y0 y1 y2 y3 y4 a => ih y0 y1 y2 y3 y4 a) _ _ _ _ _ _ a_h
      · refine fm_ite ?_ ?_
        · exact w_f_X9_pairsAt_37_i24 (fun y0 y1 y2 y3 y4 a => ih y0 y1 y2 y3 y4 a) _ _ _ _ _ _ a_h
        · exact w_f_X9_pairsAt_38_i24 (fun y0 y1 y2 y3 y4 a => ih y0 y1 y2 y3 y4 a) _ _ _ _ _ _ _ a_h
theorem w_f_X9_pairsAt_i24 (x1 : Int32) (x2 : Int32) (h : AH) : Fm Prod.snd W_X9_pairsAt_i24 h (f_X9_pairsAt 24 x1 x2 h) := by
  unfold f_X9_pairsAt
  have a_h : Agr W_X9_pairsAt_i24 h h := agr_refl h
  exact w_f_X9_pairsAt_5_i24  FU _ _ _ _ _ a_h
def W_X11_openDoor_i0 : List (Nat × Nat) := (36, 1000) :: (37, 1000) :: (38, 1000) :: (39, 1000) :: []
theorem w_f_X11_openDoor_i0 (x1 : Int32) (x2 : Int32) (h : AH) : Fm Prod.snd W_X11_openDoor_i0 h (f_X11_openDoor 0 x1 x2 h) := by
  unfold f_X11_openDoor
  have a_h : Agr W_X11_openDoor_i0 h h := agr_refl h
  refine fm_ov (w_f_X2_open_i35_24 _) rfl a_h (fun h_2 a_h_2 => ?_)
  refine fm_ob (w_f_X9_pairsAt_i24 _ _ _) rfl a_h_2 (fun r_5 h_4 a_h_4 => ?_)
  exact fm_some a_h_4
def W_X5_begin_i41 : List (Nat × Nat) := (44, 1000) :: []
theorem w_f_X5_begin_i41 (x1 : Int32) (h : AH) : Fm id W_X5_begin_i41 h (f_X5_begin 41 x1 h) := by
  unfold f_X5_begin
  have a_h : Agr W_X5_begin_i41 h h := agr_refl h
  refine fm_og (fun hb1 => ?_)
  refine fm_nh (agr_sI a_h rfl) (fun h_2 a_h_2 => ?_)
  exact fm_some a_h_2
def W_X2_pick_i35 : List (Nat × Nat) := (14, 1000) :: (17, 1000) :: (20, 1000) :: (23, 1000) :: (38, 1000) :: (39, 1000) :: (40, 1000) :: []
theorem w_f_X2_pick_95_i35 {h0 : AH} {q35 : Nat → Int32 → Int32 → Int32 → Int32 → Int32 → Int32 → AH → Option (Int32 × AH)} (hq35 : ∀ (y1 : Int32) (y2 : Int32) (y3 : Int32) (y4 : Int32) (y5 : Int32) (y6 : Int32) (y7 : AH), Agr W_X2_pick_i35 h0 y7 → Fm Prod.snd W_X2_pick_i35 h0 (q35 35 y1 y2 y3 y4 y5 y6 y7)) : ∀ (x1 : Int32) (x2 : Int32) (x4 : Int32) (x5 : Int32) (x6 : Int32) (x7 : Int32) (h : AH), Agr W_X2_pick_i35 h0 h → Fm Prod.snd W_X2_pick_i35 h0 (f_X2_pick_95 q35 35 x1 x2 x4 x5 x6 x7 h) := by
  intro x1 x2 x4 x5 x6 x7 h a_h
  unfold f_X2_pick_95
  refine fm_nm (fun x7_1 => ?_)
  exact hq35 _ _ _ _ _ _ _ a_h
theorem w_f_X2_pick_87_i35 {h0 : AH} {q35 : Nat → Int32 → Int32 → Int32 → Int32 → Int32 → Int32 → AH → Option (Int32 × AH)} (hq35 : ∀ (y1 : Int32) (y2 : Int32) (y3 : Int32) (y4 : Int32) (y5 : Int32) (y6 : Int32) (y7 : AH), Agr W_X2_pick_i35 h0 y7 → Fm Prod.snd W_X2_pick_i35 h0 (q35 35 y1 y2 y3 y4 y5 y6 y7)) : ∀ (x1 : Int32) (x2 : Int32) (x4 : Int32) (x7 : Int32) (x8 : Int32) (h : AH), Agr W_X2_pick_i35 h0 h → Fm Prod.snd W_X2_pick_i35 h0 (f_X2_pick_87 q35 35 x1 x2 x4 x7 x8 h) := by
  intro x1 x2 x4 x7 x8 h a_h
  unfold f_X2_pick_87
  exact w_f_X2_pick_95_i35 hq35 _ _ _ _ _ _ _ a_h
theorem w_f_X2_pick_35_i35 {h0 : AH} : ∀ (n : Nat) (x1 : Int32) (x2 : Int32) (x4 : Int32) (x5 : Int32) (x6 : Int32) (x7 : Int32) (h : AH), Agr W_X2_pick_i35 h0 h → Fm Prod.snd W_X2_pick_i35 h0 (f_X2_pick_35 n 35 x1 x2 x4 x5 x6 x7 h) := by
  intro n
  induction n with
  | zero => intro x1 x2 x4 x5 x6 x7 h _; exact fm_none
  | succ n ih =>
    intro x1 x2 x4 x5 x6 x7 h a_h
    rw [f_X2_pick_35]
    refine fm_ite ?_ ?_
    · refine fm_og (fun hb1 => ?_)
      refine fm_nh (agr_sI a_h rfl) (fun h_3 a_h_3 => ?_)
      exact fm_some a_h_3
    · refine fm_ob (w_f_X11_isIn _ _ _) rfl a_h (fun r_7 h_6 a_h_6 => ?_)
      refine fm_ite ?_ ?_
      · exact w_f_X2_pick_95_i35 (fun y0 y1 y2 y3 y4 y5 y6 a => ih y0 y1 y2 y3 y4 y5 y6 a) _ _ _ _ _ _ _ a_h_6
      · refine fm_ob (w_f_X2_desire_i35 _ _ _ _) rfl a_h_6 (fun r_11 h_10 a_h_10 => ?_)
        refine fm_ite ?_ ?_
        · exact w_f_X2_pick_87_i35 (fun y0 y1 y2 y3 y4 y5 y6 a => ih y0 y1 y2 y3 y4 y5 y6 a) _ _ _ _ _ _ a_h_10
        · refine fm_ite ?_ ?_
          · refine fm_ite ?_ ?_
            · exact w_f_X2_pick_95_i35 (fun y0 y1 y2 y3 y4 y5 y6 a => ih y0 y1 y2 y3 y4 y5 y6 a) _ _ _ _ _ _ _ a_h_10
            · refine fm_ite ?_ ?_
              · exact w_f_X2_pick_87_i35 (fun y0 y1 y2 y3 y4 y5 y6 a => ih y0 y1 y2 y3 y4 y5 y6 a) _ _ _ _ _ _ a_h_10
              · exact w_f_X2_pick_95_i35 (fun y0 y1 y2 y3 y4 y5 y6 a => ih y0 y1 y2 y3 y4 y5 y6 a) _ _ _ _ _ _ _ a_h_10
          · exact w_f_X2_pick_95_i35 (fun y0 y1 y2 y3 y4 y5 y6 a => ih y0 y1 y2 y3 y4 y5 y6 a) _ _ _ _ _ _ _ a_h_10
theorem w_f_X2_pick_i35 (x1 : Int32) (x2 : Int32) (h : AH) : Fm Prod.snd W_X2_pick_i35 h (f_X2_pick 35 x1 x2 h) := by
  unfold f_X2_pick
  have a_h : Agr W_X2_pick_i35 h h := agr_refl h
  refine fm_og (fun hb1 => ?_)
  refine fm_nm (fun x3_2 => ?_)
  refine fm_ite ?_ ?_
  · refine fm_ob (w_f_J6_bitCount_0f7a4 _ _) rfl a_h (fun r_7 h_6 a_h_6 => ?_)
    exact w_f_X2_pick_35_i35  FU _ _ _ _ _ _ _ a_h_6
  · exact fm_some a_h
def W_X5_go_i41 : List (Nat × Nat) := (14, 1000) :: (17, 1000) :: (20, 1000) :: (23, 1000) :: (38, 1000) :: (39, 1000) :: (40, 1000) :: (43, 1000) :: (44, 1000) :: []
theorem w_f_X5_go_76_i41 {h0 : AH} {q2 : Nat → Int32 → AH → Option AH} (hq2 : ∀ (y1 : Int32) (y2 : AH), Agr W_X5_go_i41 h0 y2 → Fm id W_X5_go_i41 h0 (q2 41 y1 y2)) : ∀ (x2 : Int32) (s0 : Int32) (s1 : Int32) (h : AH), Agr W_X5_go_i41 h0 h → Fm id W_X5_go_i41 h0 (f_X5_go_76 q2 41 x2 s0 s1 44 h) := by
  intro x2 s0 s1 h a_h
  unfold f_X5_go_76
  refine fm_og (fun hb1 => ?_)
  refine fm_nh (agr_sI a_h rfl) (fun h_2 a_h_2 => ?_)
  refine fm_nm (fun x2_4 => ?_)
  exact hq2 _ _ a_h_2
theorem w_f_X5_go_2_i41 {h0 : AH} : ∀ (n : Nat) (x2 : Int32) (h : AH), Agr W_X5_go_i41 h0 h → Fm id W_X5_go_i41 h0 (f_X5_go_2 n 41 x2 h) := by
  intro n
  induction n with
  | zero => intro x2 h _; exact fm_none
  | succ n ih =>
    intro x2 h a_h
    rw [f_X5_go_2]
    refine fm_ite ?_ ?_
    · exact fm_some a_h
    · refine fm_og (fun hb1 => ?_)
      refine fm_nm (fun x3_3 => ?_)
      refine fm_og (fun hb2 => ?_)
      refine fm_ob (w_f_X2_pick_i35 _ _ _) rfl a_h (fun r_8 h_7 a_h_7 => ?_)
      refine fm_og (fun hb3 => ?_)
      refine fm_nh (agr_sI a_h_7 rfl) (fun h_10 a_h_10 => ?_)
      refine fm_ite ?_ ?_
      · refine fm_og (fun hb4 => ?_)
        exact w_f_X5_go_76_i41 (fun y0 y1 a => ih y0 y1 a) _ _ _ _ a_h_10
      · refine fm_og (fun hb5 => ?_)
        exact w_f_X5_go_76_i41 (fun y0 y1 a => ih y0 y1 a) _ _ _ _ a_h_10
theorem w_f_X5_go_i41 (x1 : Int32) (h : AH) : Fm id W_X5_go_i41 h (f_X5_go 41 x1 h) := by
  unfold f_X5_go
  have a_h : Agr W_X5_go_i41 h h := agr_refl h
  exact w_f_X5_go_2_i41  FU _ _ a_h
def W_X9_settle_i24_41_3 : List (Nat × Nat) := (25, 1000) :: (26, 1000) :: (27, 1000) :: []
theorem w_f_X9_settle_117_i24_41_3 {h0 : AH} {q39 : Nat → Nat → Nat → Int32 → AH → Option AH} (hq39 : ∀ (y3 : Int32) (y4 : AH), Agr W_X9_settle_i24_41_3 h0 y4 → Fm id W_X9_settle_i24_41_3 h0 (q39 24 41 3 y3 y4)) : ∀ (x5 : Int32) (h : AH), Agr W_X9_settle_i24_41_3 h0 h → Fm id W_X9_settle_i24_41_3 h0 (f_X9_settle_117 q39 24 41 3 x5 h) := by
  intro x5 h a_h
  unfold f_X9_settle_117
  refine fm_nm (fun x5_1 => ?_)
  exact hq39 _ _ a_h
theorem w_f_X9_settle_39_i24_41_3 {h0 : AH} : ∀ (n : Nat) (x5 : Int32) (h : AH), Agr W_X9_settle_i24_41_3 h0 h → Fm id W_X9_settle_i24_41_3 h0 (f_X9_settle_39 n 24 41 3 x5 h) := by
  intro n
  induction n with
  | zero => intro x5 h _; exact fm_none
  | succ n ih =>
    intro x5 h a_h
    rw [f_X9_settle_39]
    refine fm_ite ?_ ?_
    · exact fm_some a_h
    · refine fm_og (fun hb1 => ?_)
      refine fm_nm (fun x6_3 => ?_)
      refine fm_og (fun hb2 => ?_)
      refine fm_nm (fun x7_6 => ?_)
      refine fm_og (fun hb3 => ?_)
      refine fm_nh (agr_sI a_h rfl) (fun h_9 a_h_9 => ?_)
      refine fm_ite ?_ ?_
      · exact w_f_X9_settle_117_i24_41_3 (fun y0 y1 a => ih y0 y1 a) _ _ a_h_9
      · refine fm_og (fun hb4 => ?_)
        refine fm_nh (agr_sI a_h_9 rfl) (fun h_13 a_h_13 => ?_)
        refine fm_og (fun hb5 => ?_)
        refine fm_ob (w_f_X6_item_i3 _ _ _) rfl a_h_13 (fun r_18 h_17 a_h_17 => ?_)
        refine fm_og (fun hb6 => ?_)
        refine fm_nh (agr_sI a_h_17 rfl) (fun h_20 a_h_20 => ?_)
        exact w_f_X9_settle_117_i24_41_3 (fun y0 y1 a => ih y0 y1 a) _ _ a_h_20
theorem w_f_X9_settle_30_i24_41_3 {h0 : AH} {q3 : Nat → Int32 → Int32 → Nat → Nat → Int32 → AH → Option AH} (hq3 : ∀ (y1 : Int32) (y2 : Int32) (y5 : Int32) (y6 : AH), Agr W_X9_settle_i24_41_3 h0 y6 → Fm id W_X9_settle_i24_41_3 h0 (q3 24 y1 y2 41 3 y5 y6)) : ∀ (x1 : Int32) (x2 : Int32) (x5 : Int32) (h : AH), Agr W_X9_settle_i24_41_3 h0 h → Fm id W_X9_settle_i24_41_3 h0 (f_X9_settle_30 q3 24 x1 x2 41 3 x5 h) := by
  intro x1 x2 x5 h a_h
  unfold f_X9_settle_30
  refine fm_nm (fun x5_1 => ?_)
  exact hq3 _ _ _ _ a_h
theorem w_f_X9_settle_3_i24_41_3 {h0 : AH} : ∀ (n : Nat) (x1 : Int32) (x2 : Int32) (x5 : Int32) (h : AH), Agr W_X9_settle_i24_41_3 h0 h → Fm id W_X9_settle_i24_41_3 h0 (f_X9_settle_3 n 24 x1 x2 41 3 x5 h) := by
  intro n
  induction n with
  | zero => intro x1 x2 x5 h _; exact fm_none
  | succ n ih =>
    intro x1 x2 x5 h a_h
    rw [f_X9_settle_3]
    refine fm_ite ?_ ?_
    · exact w_f_X9_settle_39_i24_41_3  FU _ _ a_h
    · refine fm_ob (w_f_X11_isIn _ _ _) rfl a_h (fun r_4 h_3 a_h_3 => ?_)
      refine fm_ite ?_ ?_
      · exact w_f_X9_settle_30_i24_41_3 (fun y0 y1 y2 y3 a => ih y0 y1 y2 y3 a) _ _ _ _ a_h_3
      · refine fm_og (fun hb1 => ?_)
        refine fm_nh (agr_sI a_h_3 rfl) (fun h_7 a_h_7 => ?_)
        exact w_f_X9_settle_30_i24_41_3 (fun y0 y1 y2 y3 a => ih y0 y1 y2 y3 a) _ _ _ _ a_h_7
theorem w_f_X9_settle_i24_41_3 (x1 : Int32) (x2 : Int32) (h : AH) : Fm id W_X9_settle_i24_41_3 h (f_X9_settle 24 x1 x2 41 3 h) := by
  unfold f_X9_settle
  have a_h : Agr W_X9_settle_i24_41_3 h h := agr_refl h
  exact w_f_X9_settle_3_i24_41_3  FU _ _ _ _ a_h
def W_X1_write_i32_24 : List (Nat × Nat) := (32, 2) :: (33, 1000) :: []
theorem w_f_X1_write_40_i32_24 {h0 : AH} : ∀ (h : AH), Agr W_X1_write_i32_24 h0 h → Fm id W_X1_write_i32_24 h0 (f_X1_write_40 h) := by
  intro h a_h
  unfold f_X1_write_40
  exact fm_some a_h
theorem w_f_X1_write_i32_24 (h : AH) : Fm id W_X1_write_i32_24 h (f_X1_write 32 24 h) := by
  unfold f_X1_write
  have a_h : Agr W_X1_write_i32_24 h h := agr_refl h
  refine fm_ite ?_ ?_
  · exact w_f_X1_write_40_i32_24  _ a_h
  · refine fm_og (fun hb1 => ?_)
    refine fm_nh (agr_sA a_h (fun _ => rfl)) (fun h_3 a_h_3 => ?_)
    refine fm_nh (agr_sI a_h_3 rfl) (fun h_5 a_h_5 => ?_)
    exact w_f_X1_write_40_i32_24  _ a_h_5
def W_X11_holdEvening_i0 : List (Nat × Nat) := (14, 1000) :: (17, 1000) :: (20, 1000) :: (23, 1000) :: (25, 1000) :: (26, 1000) :: (27, 1000) :: (32, 2) :: (33, 1000) :: (36, 1000) :: (37, 1000) :: (38, 1000) :: (39, 1000) :: (40, 1000) :: (43, 1000) :: (44, 1000) :: []
theorem w_f_X11_holdEvening_i0 (x1 : Int32) (x2 : Int32) (h : AH) : Fm id W_X11_holdEvening_i0 h (f_X11_holdEvening 0 x1 x2 h) := by
  unfold f_X11_holdEvening
  have a_h : Agr W_X11_holdEvening_i0 h h := agr_refl h
  refine fm_ob (w_f_X11_openDoor_i0 _ _ _) rfl a_h (fun r_3 h_2 a_h_2 => ?_)
  refine fm_ov (w_f_X5_begin_i41 _ _) rfl a_h_2 (fun h_5 a_h_5 => ?_)
  refine fm_ov (w_f_X5_go_i41 _ _) rfl a_h_5 (fun h_7 a_h_7 => ?_)
  refine fm_ov (w_f_X9_settle_i24_41_3 _ _ _) rfl a_h_7 (fun h_9 a_h_9 => ?_)
  refine fm_ov (w_f_X1_write_i32_24 _) rfl a_h_9 (fun h_11 a_h_11 => ?_)
  exact fm_some a_h_11
theorem w_f_X11_evening_i0 (x1 : Int32) (x2 : Int32) (x3 : Int32) (h : AH) : Fm Prod.snd W_X11_evening_i0 h (f_X11_evening 0 x1 x2 x3 h) := by
  unfold f_X11_evening
  have a_h : Agr W_X11_evening_i0 h h := agr_refl h
  refine fm_ob (w_f_X11_isParty_i0 _ _ _) rfl a_h (fun r_3 h_2 a_h_2 => ?_)
  refine fm_ite ?_ ?_
  · exact w_f_X11_evening_21_i0  _ a_h_2
  · refine fm_ob (w_f_X5_readOrder_i41 _ _ _) rfl a_h_2 (fun r_7 h_6 a_h_6 => ?_)
    refine fm_ite ?_ ?_
    · exact w_f_X11_evening_21_i0  _ a_h_6
    · refine fm_ov (w_f_X11_holdEvening_i0 _ _ _) rfl a_h_6 (fun h_10 a_h_10 => ?_)
      exact fm_some a_h_10
def W_X12_isVisit_i56 : List (Nat × Nat) := []
theorem w_f_X12_isVisit_27_i56 {h0 : AH} : ∀ (s0 : Int32) (h : AH), Agr W_X12_isVisit_i56 h0 h → Fm Prod.snd W_X12_isVisit_i56 h0 (f_X12_isVisit_27 s0 h) := by
  intro s0 h a_h
  unfold f_X12_isVisit_27
  refine fm_og (fun hb1 => ?_)
  exact fm_some a_h
theorem w_f_X12_isVisit_26_i56 {h0 : AH} : ∀ (h : AH), Agr W_X12_isVisit_i56 h0 h → Fm Prod.snd W_X12_isVisit_i56 h0 (f_X12_isVisit_26 h) := by
  intro h a_h
  unfold f_X12_isVisit_26
  exact w_f_X12_isVisit_27_i56  _ _ a_h
def W_X12_isHouse : List (Nat × Nat) := []
theorem w_f_X12_isHouse (x0 : Int32) (h : AH) : Fm Prod.snd W_X12_isHouse h (f_X12_isHouse x0 h) := by
  unfold f_X12_isHouse
  have a_h : Agr W_X12_isHouse h h := agr_refl h
  refine fm_ob (w_f_X12_isIn _ _ _ _) rfl a_h (fun r_3 h_2 a_h_2 => ?_)
  refine fm_og (fun hb1 => ?_)
  exact fm_some a_h_2
def W_X12_areGuests_i56 : List (Nat × Nat) := []
theorem w_f_X12_areGuests_19_i56 {h0 : AH} : ∀ (s0 : Int32) (h : AH), Agr W_X12_areGuests_i56 h0 h → Fm Prod.snd W_X12_areGuests_i56 h0 (f_X12_areGuests_19 s0 h) := by
  intro s0 h a_h
  unfold f_X12_areGuests_19
  refine fm_og (fun hb1 => ?_)
  exact fm_some a_h
theorem w_f_X12_areGuests_18_i56 {h0 : AH} : ∀ (h : AH), Agr W_X12_areGuests_i56 h0 h → Fm Prod.snd W_X12_areGuests_i56 h0 (f_X12_areGuests_18 h) := by
  intro h a_h
  unfold f_X12_areGuests_18
  exact w_f_X12_areGuests_19_i56  _ _ a_h
