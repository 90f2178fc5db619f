theorem lg_cmp_self (x : Int64) : lg_cmp x x = 0 := by
  unfold lg_cmp
  rw [if_neg (by show ¬ x < x; exact Int64.lt_irrefl), if_pos rfl]
theorem MV_X11_feed : MVk K_X11_feed 5 11 := ⟨⟨cd_X11_feed, in_X11, ⟨by decide, by decide, by decide +kernel⟩, by decide⟩, im_X11_feed, se_X11_feed, _, _, rfl⟩
theorem MV_X12_feed : MVk K_X12_feed 5 12 := ⟨⟨cd_X12_feed, in_X12, ⟨by decide, by decide, by decide +kernel⟩, by decide⟩, im_X12_feed, se_X12_feed, _, _, rfl⟩
theorem MV_X11_end : MVk K_X11_end 1 11 := ⟨⟨cd_X11_end, in_X11, ⟨by decide, by decide, by decide +kernel⟩, by decide⟩, im_X11_end, se_X11_end, _, _, rfl⟩
theorem MV_X12_end : MVk K_X12_end 1 12 := ⟨⟨cd_X12_end, in_X12, ⟨by decide, by decide, by decide +kernel⟩, by decide⟩, im_X12_end, se_X12_end, _, _, rfl⟩
theorem MV_X11_fault : MVk K_X11_fault 1 11 := ⟨⟨cd_X11_fault, in_X11, ⟨by decide, by decide, by decide +kernel⟩, by decide⟩, im_X11_fault, se_X11_fault, _, _, rfl⟩
theorem MV_X11_text : MVk K_X11_text 1 11 := ⟨⟨cd_X11_text, in_X11, ⟨by decide, by decide, by decide +kernel⟩, by decide⟩, im_X11_text, se_X11_text, _, _, rfl⟩
theorem MV_X12_text : MVk K_X12_text 1 12 := ⟨⟨cd_X12_text, in_X12, ⟨by decide, by decide, by decide +kernel⟩, by decide⟩, im_X12_text, se_X12_text, _, _, rfl⟩
theorem MV_X12_person : MVk K_X12_person 2 12 := ⟨⟨cd_X12_person, in_X12, ⟨by decide, by decide, by decide +kernel⟩, by decide⟩, im_X12_person, se_X12_person, _, _, rfl⟩
theorem MV_X12_thrown : MVk K_X12_thrown 0 12 := ⟨⟨cd_X12_thrown, in_X12, ⟨by decide, by decide, by decide +kernel⟩, by decide⟩, im_X12_thrown, se_X12_thrown, _, _, rfl⟩
theorem MV_X11_pair : MVk K_X11_pair 2 11 := ⟨⟨cd_X11_pair, in_X11, ⟨by decide, by decide, by decide +kernel⟩, by decide⟩, im_X11_pair, se_X11_pair, _, _, rfl⟩
theorem MV_X12_pair : MVk K_X12_pair 2 12 := ⟨⟨cd_X12_pair, in_X12, ⟨by decide, by decide, by decide +kernel⟩, by decide⟩, im_X12_pair, se_X12_pair, _, _, rfl⟩
theorem MV_X11_fits : MVk K_X11_fits 2 11 := ⟨⟨cd_X11_fits, in_X11, ⟨by decide, by decide, by decide +kernel⟩, by decide⟩, im_X11_fits, se_X11_fits, _, _, rfl⟩
theorem MV_X12_fits : MVk K_X12_fits 2 12 := ⟨⟨cd_X12_fits, in_X12, ⟨by decide, by decide, by decide +kernel⟩, by decide⟩, im_X12_fits, se_X12_fits, _, _, rfl⟩
theorem MV_X11_rule : MVk K_X11_rule 2 11 := ⟨⟨cd_X11_rule, in_X11, ⟨by decide, by decide, by decide +kernel⟩, by decide⟩, im_X11_rule, se_X11_rule, _, _, rfl⟩
theorem MV_X12_rule : MVk K_X12_rule 2 12 := ⟨⟨cd_X12_rule, in_X12, ⟨by decide, by decide, by decide +kernel⟩, by decide⟩, im_X12_rule, se_X12_rule, _, _, rfl⟩
theorem MV_X11_evening : MVk K_X11_evening 3 11 := ⟨⟨cd_X11_evening, in_X11, ⟨by decide, by decide, by decide +kernel⟩, by decide⟩, im_X11_evening, se_X11_evening, _, _, rfl⟩
theorem MV_X12_evening : MVk K_X12_evening 3 12 := ⟨⟨cd_X12_evening, in_X12, ⟨by decide, by decide, by decide +kernel⟩, by decide⟩, im_X12_evening, se_X12_evening, _, _, rfl⟩
theorem MV_X11_tried : MVk K_X11_tried 4 11 := ⟨⟨cd_X11_tried, in_X11, ⟨by decide, by decide, by decide +kernel⟩, by decide⟩, im_X11_tried, se_X11_tried, _, _, rfl⟩
theorem MV_X12_tried : MVk K_X12_tried 4 12 := ⟨⟨cd_X12_tried, in_X12, ⟨by decide, by decide, by decide +kernel⟩, by decide⟩, im_X12_tried, se_X12_tried, _, _, rfl⟩
theorem MV_X11_orders : MVk K_X11_orders 4 11 := ⟨⟨cd_X11_orders, in_X11, ⟨by decide, by decide, by decide +kernel⟩, by decide⟩, im_X11_orders, se_X11_orders, _, _, rfl⟩
theorem MV_X12_orders : MVk K_X12_orders 4 12 := ⟨⟨cd_X12_orders, in_X12, ⟨by decide, by decide, by decide +kernel⟩, by decide⟩, im_X12_orders, se_X12_orders, _, _, rfl⟩
theorem MV_X11_worst : MVk K_X11_worst 3 11 := ⟨⟨cd_X11_worst, in_X11, ⟨by decide, by decide, by decide +kernel⟩, by decide⟩, im_X11_worst, se_X11_worst, _, _, rfl⟩
theorem MV_X12_worst : MVk K_X12_worst 3 12 := ⟨⟨cd_X12_worst, in_X12, ⟨by decide, by decide, by decide +kernel⟩, by decide⟩, im_X12_worst, se_X12_worst, _, _, rfl⟩
theorem MV_X11_host : MVk K_X11_host 4 11 := ⟨⟨cd_X11_host, in_X11, ⟨by decide, by decide, by decide +kernel⟩, by decide⟩, im_X11_host, se_X11_host, _, _, rfl⟩
theorem MV_X12_host : MVk K_X12_host 4 12 := ⟨⟨cd_X12_host, in_X12, ⟨by decide, by decide, by decide +kernel⟩, by decide⟩, im_X12_host, se_X12_host, _, _, rfl⟩
theorem MV_X11_hide : MVk K_X11_hide 5 11 := ⟨⟨cd_X11_hide, in_X11, ⟨by decide, by decide, by decide +kernel⟩, by decide⟩, im_X11_hide, se_X11_hide, _, _, rfl⟩
theorem MV_X12_hide : MVk K_X12_hide 5 12 := ⟨⟨cd_X12_hide, in_X12, ⟨by decide, by decide, by decide +kernel⟩, by decide⟩, im_X12_hide, se_X12_hide, _, _, rfl⟩
theorem MV_X11_rests : MVk K_X11_rests 4 11 := ⟨⟨cd_X11_rests, in_X11, ⟨by decide, by decide, by decide +kernel⟩, by decide⟩, im_X11_rests, se_X11_rests, _, _, rfl⟩
theorem MV_X12_rests : MVk K_X12_rests 4 12 := ⟨⟨cd_X12_rests, in_X12, ⟨by decide, by decide, by decide +kernel⟩, by decide⟩, im_X12_rests, se_X12_rests, _, _, rfl⟩
theorem MV_X11_quiet : MVk K_X11_quiet 2 11 := ⟨⟨cd_X11_quiet, in_X11, ⟨by decide, by decide, by decide +kernel⟩, by decide⟩, im_X11_quiet, se_X11_quiet, _, _, rfl⟩
theorem MV_X12_quiet : MVk K_X12_quiet 2 12 := ⟨⟨cd_X12_quiet, in_X12, ⟨by decide, by decide, by decide +kernel⟩, by decide⟩, im_X12_quiet, se_X12_quiet, _, _, rfl⟩
theorem MV_X11_year : MVk K_X11_year 2 11 := ⟨⟨cd_X11_year, in_X11, ⟨by decide, by decide, by decide +kernel⟩, by decide⟩, im_X11_year, se_X11_year, _, _, rfl⟩
theorem MV_X12_year : MVk K_X12_year 2 12 := ⟨⟨cd_X12_year, in_X12, ⟨by decide, by decide, by decide +kernel⟩, by decide⟩, im_X12_year, se_X12_year, _, _, rfl⟩
theorem MV_X11_likely : MVk K_X11_likely 3 11 := ⟨⟨cd_X11_likely, in_X11, ⟨by decide, by decide, by decide +kernel⟩, by decide⟩, im_X11_likely, se_X11_likely, _, _, rfl⟩
theorem MV_X12_likely : MVk K_X12_likely 3 12 := ⟨⟨cd_X12_likely, in_X12, ⟨by decide, by decide, by decide +kernel⟩, by decide⟩, im_X12_likely, se_X12_likely, _, _, rfl⟩
theorem MV_X11_cobbler : MVk K_X11_cobbler 5 11 := ⟨⟨cd_X11_cobbler, in_X11, ⟨by decide, by decide, by decide +kernel⟩, by decide⟩, im_X11_cobbler, se_X11_cobbler, _, _, rfl⟩
theorem MV_X12_cobbler : MVk K_X12_cobbler 5 12 := ⟨⟨cd_X12_cobbler, in_X12, ⟨by decide, by decide, by decide +kernel⟩, by decide⟩, im_X12_cobbler, se_X12_cobbler, _, _, rfl⟩
theorem MV_X11_odd : MVk K_X11_odd 3 11 := ⟨⟨cd_X11_odd, in_X11, ⟨by decide, by decide, by decide +kernel⟩, by decide⟩, im_X11_odd, se_X11_odd, _, _, rfl⟩
theorem MV_X12_odd : MVk K_X12_odd 3 12 := ⟨⟨cd_X12_odd, in_X12, ⟨by decide, by decide, by decide +kernel⟩, by decide⟩, im_X12_odd, se_X12_odd, _, _, rfl⟩
theorem MV_X11_sight : MVk K_X11_sight 3 11 := ⟨⟨cd_X11_sight, in_X11, ⟨by decide, by decide, by decide +kernel⟩, by decide⟩, im_X11_sight, se_X11_sight, _, _, rfl⟩
theorem MV_X12_sight : MVk K_X12_sight 3 12 := ⟨⟨cd_X12_sight, in_X12, ⟨by decide, by decide, by decide +kernel⟩, by decide⟩, im_X12_sight, se_X12_sight, _, _, rfl⟩
theorem MV_X11_agree : MVk K_X11_agree 0 11 := ⟨⟨cd_X11_agree, in_X11, ⟨by decide, by decide, by decide +kernel⟩, by decide⟩, im_X11_agree, se_X11_agree, _, _, rfl⟩
theorem MV_X12_agree : MVk K_X12_agree 0 12 := ⟨⟨cd_X12_agree, in_X12, ⟨by decide, by decide, by decide +kernel⟩, by decide⟩, im_X12_agree, se_X12_agree, _, _, rfl⟩
theorem MV_X11_been : MVk K_X11_been 2 11 := ⟨⟨cd_X11_been, in_X11, ⟨by decide, by decide, by decide +kernel⟩, by decide⟩, im_X11_been, se_X11_been, _, _, rfl⟩
theorem MV_X12_been : MVk K_X12_been 2 12 := ⟨⟨cd_X12_been, in_X12, ⟨by decide, by decide, by decide +kernel⟩, by decide⟩, im_X12_been, se_X12_been, _, _, rfl⟩
theorem MV_X11_left : MVk K_X11_left 3 11 := ⟨⟨cd_X11_left, in_X11, ⟨by decide, by decide, by decide +kernel⟩, by decide⟩, im_X11_left, se_X11_left, _, _, rfl⟩
theorem MV_X12_left : MVk K_X12_left 3 12 := ⟨⟨cd_X12_left, in_X12, ⟨by decide, by decide, by decide +kernel⟩, by decide⟩, im_X12_left, se_X12_left, _, _, rfl⟩
theorem MV_X11_swap : MVk K_X11_swap 5 11 := ⟨⟨cd_X11_swap, in_X11, ⟨by decide, by decide, by decide +kernel⟩, by decide⟩, im_X11_swap, se_X11_swap, _, _, rfl⟩
theorem MV_X12_swap : MVk K_X12_swap 5 12 := ⟨⟨cd_X12_swap, in_X12, ⟨by decide, by decide, by decide +kernel⟩, by decide⟩, im_X12_swap, se_X12_swap, _, _, rfl⟩
theorem MV_X11_dream : MVk K_X11_dream 3 11 := ⟨⟨cd_X11_dream, in_X11, ⟨by decide, by decide, by decide +kernel⟩, by decide⟩, im_X11_dream, se_X11_dream, _, _, rfl⟩
theorem MV_X12_dream : MVk K_X12_dream 3 12 := ⟨⟨cd_X12_dream, in_X12, ⟨by decide, by decide, by decide +kernel⟩, by decide⟩, im_X12_dream, se_X12_dream, _, _, rfl⟩
theorem MV_X11_bring : MVk K_X11_bring 2 11 := ⟨⟨cd_X11_bring, in_X11, ⟨by decide, by decide, by decide +kernel⟩, by decide⟩, im_X11_bring, se_X11_bring, _, _, rfl⟩
theorem MV_X12_bring : MVk K_X12_bring 2 12 := ⟨⟨cd_X12_bring, in_X12, ⟨by decide, by decide, by decide +kernel⟩, by decide⟩, im_X12_bring, se_X12_bring, _, _, rfl⟩
theorem MV_X11_steady : MVk K_X11_steady 0 11 := ⟨⟨cd_X11_steady, in_X11, ⟨by decide, by decide, by decide +kernel⟩, by decide⟩, im_X11_steady, se_X11_steady, _, _, rfl⟩
theorem MV_X12_steady : MVk K_X12_steady 0 12 := ⟨⟨cd_X12_steady, in_X12, ⟨by decide, by decide, by decide +kernel⟩, by decide⟩, im_X12_steady, se_X12_steady, _, _, rfl⟩
theorem MV_X11_lost : MVk K_X11_lost 0 11 := ⟨⟨cd_X11_lost, in_X11, ⟨by decide, by decide, by decide +kernel⟩, by decide⟩, im_X11_lost, se_X11_lost, _, _, rfl⟩
theorem MV_X12_lost : MVk K_X12_lost 0 12 := ⟨⟨cd_X12_lost, in_X12, ⟨by decide, by decide, by decide +kernel⟩, by decide⟩, im_X12_lost, se_X12_lost, _, _, rfl⟩
theorem MV_X11_envy : MVk K_X11_envy 1 11 := ⟨⟨cd_X11_envy, in_X11, ⟨by decide, by decide, by decide +kernel⟩, by decide⟩, im_X11_envy, se_X11_envy, _, _, rfl⟩
theorem MV_X12_envy : MVk K_X12_envy 1 12 := ⟨⟨cd_X12_envy, in_X12, ⟨by decide, by decide, by decide +kernel⟩, by decide⟩, im_X12_envy, se_X12_envy, _, _, rfl⟩
theorem MV_X11_image : MVk K_X11_image 0 11 := ⟨⟨cd_X11_image, in_X11, ⟨by decide, by decide, by decide +kernel⟩, by decide⟩, im_X11_image, se_X11_image, _, _, rfl⟩
theorem MV_X12_image : MVk K_X12_image 0 12 := ⟨⟨cd_X12_image, in_X12, ⟨by decide, by decide, by decide +kernel⟩, by decide⟩, im_X12_image, se_X12_image, _, _, rfl⟩
theorem MV_X11_back : MVk K_X11_back 0 11 := ⟨⟨cd_X11_back, in_X11, ⟨by decide, by decide, by decide +kernel⟩, by decide⟩, im_X11_back, se_X11_back, _, _, rfl⟩
theorem MV_X12_back : MVk K_X12_back 0 12 := ⟨⟨cd_X12_back, in_X12, ⟨by decide, by decide, by decide +kernel⟩, by decide⟩, im_X12_back, se_X12_back, _, _, rfl⟩
theorem MV_X11_count : MVk K_X11_count 1 11 := ⟨⟨cd_X11_count, in_X11, ⟨by decide, by decide, by decide +kernel⟩, by decide⟩, im_X11_count, se_X11_count, _, _, rfl⟩
theorem MV_X12_count : MVk K_X12_count 1 12 := ⟨⟨cd_X12_count, in_X12, ⟨by decide, by decide, by decide +kernel⟩, by decide⟩, im_X12_count, se_X12_count, _, _, rfl⟩
def G0 (P : AH → Prop) : Prop := ∀ h, P h → ∀ (a1 : Int32) (a2 : Int32) (a3 : Int32) (a4 : Int32) (a5 : Int32), ∃ r h1 h2, f_X11_feed 0 a1 a2 a3 a4 a5 h = some (r, h1) ∧ f_X12_feed 56 a1 a2 a3 a4 a5 h1 = some (r, h2) ∧ P h2
set_option maxHeartbeats 4000000 in
set_option maxRecDepth 100000 in
theorem law_c0 {P : AH → Prop} {E : EV} {S0 : State} {b Ln : Nat} {xs : Nat → Int32} {x4 : Int32} {cs ss : Nat} {h : AH} (C0 : LCtx E S0 b Ln xs) (i1 : ix (x4 + 1) Ln = true) (i2 : ix (x4 + 2) Ln = true) (i3 : ix (x4 + 3) Ln = true) (i4 : ix (x4 + 4) Ln = true) (i5 : ix (x4 + 5) Ln = true) (hcs : cs ≤ 10000) (hss : ss ≤ 100000) (hG : ∃ r h1 h2, f_X11_feed 0 (xs (x4 + 1).toNatClampNeg) (xs (x4 + 2).toNatClampNeg) (xs (x4 + 3).toNatClampNeg) (xs (x4 + 4).toNatClampNeg) (xs (x4 + 5).toNatClampNeg) h = some (r, h1) ∧ f_X12_feed 56 (xs (x4 + 1).toNatClampNeg) (xs (x4 + 2).toNatClampNeg) (xs (x4 + 3).toNatClampNeg) (xs (x4 + 4).toNatClampNeg) (xs (x4 + 5).toNatClampNeg) h1 = some (r, h2) ∧ P h2) (knext : ∀ (h2 : AH) (c2 s2 : Nat), c2 ≤ cs + 1 → s2 ≤ ss + 6 → P h2 → VC E room_1 K_L S0 (AL S0) QFl (wld E h2) (LL E b x4) [] c2 s2 1616) : VC E room_1 K_L S0 (AL S0) QFl (wld E h) (LL E b x4) [] cs ss 188 := by
  obtain ⟨r, h1, h2, e1, e2, hp⟩ := hG
  have hSK := C0.1
  have hAA := C0.2.2.2.1
  refine C_aload_n 1 dL_law_188 rfl rfl ?_
  refine C_aload_n 0 dL_law_189 rfl rfl ?_
  refine C_iload 4 dL_law_190 rfl ?_
  refine C_iconst (v := 1) dL_law_192 (by decide) ?_
  refine C_iadd dL_law_193 ?_
  refine C_sld C0 i1 dL_law_194 ?_
  refine C_aload_n 0 dL_law_195 rfl rfl ?_
  refine C_iload 4 dL_law_196 rfl ?_
  refine C_iconst (v := 2) dL_law_198 (by decide) ?_
  refine C_iadd dL_law_199 ?_
  refine C_sld C0 i2 dL_law_200 ?_
  refine C_aload_n 0 dL_law_201 rfl rfl ?_
  refine C_iload 4 dL_law_202 rfl ?_
  refine C_iconst (v := 3) dL_law_204 (by decide) ?_
  refine C_iadd dL_law_205 ?_
  refine C_sld C0 i3 dL_law_206 ?_
  refine C_aload_n 0 dL_law_207 rfl rfl ?_
  refine C_iload 4 dL_law_208 rfl ?_
  refine C_iconst (v := 4) dL_law_210 (by decide) ?_
  refine C_iadd dL_law_211 ?_
  refine C_sld C0 i4 dL_law_212 ?_
  refine C_aload_n 0 dL_law_213 rfl rfl ?_
  refine C_iload 4 dL_law_214 rfl ?_
  refine C_iconst (v := 5) dL_law_216 (by decide) ?_
  refine C_iadd dL_law_217 ?_
  refine C_sld C0 i5 dL_law_218 ?_
  refine C_cvi (d := 1500) (As := [.int (xs (x4 + 1).toNatClampNeg), .int (xs (x4 + 2).toNatClampNeg), .int (xs (x4 + 3).toNatClampNeg), .int (xs (x4 + 4).toNatClampNeg), .int (xs (x4 + 5).toNatClampNeg)]) (rest := []) hSK hAA (c_X11_feed (d := 1500) (Nat.le_of_ble_eq_true rfl) e1 rfl) (Or.inl ml_L_19) MV_X11_feed rfl rfl rfl rfl (Nat.le_of_ble_eq_true rfl) ⟨(Nat.le_of_ble_eq_true rfl), (Nat.le_of_ble_eq_true rfl)⟩ ⟨by show cs ≤ 601024; omega, by show ss ≤ 7293034; omega⟩ dL_law_219 ?_
  refine C_aload_n 2 dL_law_222 rfl rfl ?_
  refine C_aload_n 0 dL_law_223 rfl rfl ?_
  refine C_iload 4 dL_law_224 rfl ?_
  refine C_iconst (v := 1) dL_law_226 (by decide) ?_
  refine C_iadd dL_law_227 ?_
  refine C_sld C0 i1 dL_law_228 ?_
  refine C_aload_n 0 dL_law_229 rfl rfl ?_
  refine C_iload 4 dL_law_230 rfl ?_
  refine C_iconst (v := 2) dL_law_232 (by decide) ?_
  refine C_iadd dL_law_233 ?_
  refine C_sld C0 i2 dL_law_234 ?_
  refine C_aload_n 0 dL_law_235 rfl rfl ?_
  refine C_iload 4 dL_law_236 rfl ?_
  refine C_iconst (v := 3) dL_law_238 (by decide) ?_
  refine C_iadd dL_law_239 ?_
  refine C_sld C0 i3 dL_law_240 ?_
  refine C_aload_n 0 dL_law_241 rfl rfl ?_
  refine C_iload 4 dL_law_242 rfl ?_
  refine C_iconst (v := 4) dL_law_244 (by decide) ?_
  refine C_iadd dL_law_245 ?_
  refine C_sld C0 i4 dL_law_246 ?_
  refine C_aload_n 0 dL_law_247 rfl rfl ?_
  refine C_iload 4 dL_law_248 rfl ?_
  refine C_iconst (v := 5) dL_law_250 (by decide) ?_
  refine C_iadd dL_law_251 ?_
  refine C_sld C0 i5 dL_law_252 ?_
  refine C_cvi (d := 1500) (As := [.int (xs (x4 + 1).toNatClampNeg), .int (xs (x4 + 2).toNatClampNeg), .int (xs (x4 + 3).toNatClampNeg), .int (xs (x4 + 4).toNatClampNeg), .int (xs (x4 + 5).toNatClampNeg)]) (rest := [.int r]) hSK hAA (c_X12_feed (d := 1500) (Nat.le_of_ble_eq_true rfl) e2 rfl) (Or.inl ml_L_23) MV_X12_feed rfl rfl rfl rfl (Nat.le_of_ble_eq_true rfl) ⟨(Nat.le_of_ble_eq_true rfl), (Nat.le_of_ble_eq_true rfl)⟩ ⟨by show cs ≤ 601024; omega, by show ss ≤ 7293034; omega⟩ dL_law_253 ?_
  refine C_ic_eq (tgt := 1616) dL_law_256 (by decide) (fun c1 => ?_) (fun c1 => absurd rfl c1)
  exact knext h2 cs ss (Nat.le_succ _) (Nat.le_add_right _ _) hp
def G1 (P : AH → Prop) : Prop := ∀ h, P h → ∀ (a1 : Int32), ∃ r h1 h2, f_X11_end 0 a1 h = some (r, h1) ∧ f_X12_end 56 a1 h1 = some (r, h2) ∧ P h2
set_option maxHeartbeats 4000000 in
set_option maxRecDepth 100000 in
theorem law_c1 {P : AH → Prop} {E : EV} {S0 : State} {b Ln : Nat} {xs : Nat → Int32} {x4 : Int32} {cs ss : Nat} {h : AH} (C0 : LCtx E S0 b Ln xs) (i1 : ix (x4 + 1) Ln = true) (i2 : ix (x4 + 2) Ln = true) (i3 : ix (x4 + 3) Ln = true) (i4 : ix (x4 + 4) Ln = true) (i5 : ix (x4 + 5) Ln = true) (hcs : cs ≤ 10000) (hss : ss ≤ 100000) (hG : ∃ r h1 h2, f_X11_end 0 (xs (x4 + 1).toNatClampNeg) h = some (r, h1) ∧ f_X12_end 56 (xs (x4 + 1).toNatClampNeg) h1 = some (r, h2) ∧ P h2) (knext : ∀ (h2 : AH) (c2 s2 : Nat), c2 ≤ cs + 1 → s2 ≤ ss + 6 → P h2 → VC E room_1 K_L S0 (AL S0) QFl (wld E h2) (LL E b x4) [] c2 s2 1616) : VC E room_1 K_L S0 (AL S0) QFl (wld E h) (LL E b x4) [] cs ss 261 := by
  obtain ⟨r, h1, h2, e1, e2, hp⟩ := hG
  have hSK := C0.1
  have hAA := C0.2.2.2.1
  refine C_aload_n 1 dL_law_261 rfl rfl ?_
  refine C_aload_n 0 dL_law_262 rfl rfl ?_
  refine C_iload 4 dL_law_263 rfl ?_
  refine C_iconst (v := 1) dL_law_265 (by decide) ?_
  refine C_iadd dL_law_266 ?_
  refine C_sld C0 i1 dL_law_267 ?_
  refine C_cvi (d := 1500) (As := [.int (xs (x4 + 1).toNatClampNeg)]) (rest := []) hSK hAA (c_X11_end (d := 1500) (Nat.le_of_ble_eq_true rfl) e1 rfl) (Or.inl ml_L_24) MV_X11_end rfl rfl rfl rfl (Nat.le_of_ble_eq_true rfl) ⟨(Nat.le_of_ble_eq_true rfl), (Nat.le_of_ble_eq_true rfl)⟩ ⟨by show cs ≤ 601024; omega, by show ss ≤ 7293034; omega⟩ dL_law_268 ?_
  refine C_aload_n 2 dL_law_271 rfl rfl ?_
  refine C_aload_n 0 dL_law_272 rfl rfl ?_
  refine C_iload 4 dL_law_273 rfl ?_
  refine C_iconst (v := 1) dL_law_275 (by decide) ?_
  refine C_iadd dL_law_276 ?_
  refine C_sld C0 i1 dL_law_277 ?_
  refine C_cvi (d := 1500) (As := [.int (xs (x4 + 1).toNatClampNeg)]) (rest := [.int r]) hSK hAA (c_X12_end (d := 1500) (Nat.le_of_ble_eq_true rfl) e2 rfl) (Or.inl ml_L_28) MV_X12_end rfl rfl rfl rfl (Nat.le_of_ble_eq_true rfl) ⟨(Nat.le_of_ble_eq_true rfl), (Nat.le_of_ble_eq_true rfl)⟩ ⟨by show cs ≤ 601024; omega, by show ss ≤ 7293034; omega⟩ dL_law_278 ?_
  refine C_ic_eq (tgt := 1616) dL_law_281 (by decide) (fun c1 => ?_) (fun c1 => absurd rfl c1)
  exact knext h2 cs ss (Nat.le_succ _) (Nat.le_add_right _ _) hp
def G2 (P : AH → Prop) : Prop := ∀ h, P h → ∀ (a1 : Int32), ∃ r h1 h2, f_X11_fault 0 a1 h = some (r, h1) ∧ f_X12_fault 56 a1 h1 = some (r, h2) ∧ P h2
set_option maxHeartbeats 4000000 in
set_option maxRecDepth 100000 in
theorem law_c2 {P : AH → Prop} {E : EV} {S0 : State} {b Ln : Nat} {xs : Nat → Int32} {x4 : Int32} {cs ss : Nat} {h : AH} (C0 : LCtx E S0 b Ln xs) (i1 : ix (x4 + 1) Ln = true) (i2 : ix (x4 + 2) Ln = true) (i3 : ix (x4 + 3) Ln = true) (i4 : ix (x4 + 4) Ln = true) (i5 : ix (x4 + 5) Ln = true) (hcs : cs ≤ 10000) (hss : ss ≤ 100000) (hG : ∃ r h1 h2, f_X11_fault 0 (xs (x4 + 1).toNatClampNeg) h = some (r, h1) ∧ f_X12_fault 56 (xs (x4 + 1).toNatClampNeg) h1 = some (r, h2) ∧ P h2) (knext : ∀ (h2 : AH) (c2 s2 : Nat), c2 ≤ cs + 1 → s2 ≤ ss + 6 → P h2 → VC E room_1 K_L S0 (AL S0) QFl (wld E h2) (LL E b x4) [] c2 s2 1616) : VC E room_1 K_L S0 (AL S0) QFl (wld E h) (LL E b x4) [] cs ss 286 := by
  obtain ⟨r, h1, h2, e1, e2, hp⟩ := hG
  have hSK := C0.1
  have hAA := C0.2.2.2.1
  refine C_aload_n 1 dL_law_286 rfl rfl ?_
  refine C_aload_n 0 dL_law_287 rfl rfl ?_
  refine C_iload 4 dL_law_288 rfl ?_
  refine C_iconst (v := 1) dL_law_290 (by decide) ?_
  refine C_iadd dL_law_291 ?_
  refine C_sld C0 i1 dL_law_292 ?_
  refine C_cvi (d := 1500) (As := [.int (xs (x4 + 1).toNatClampNeg)]) (rest := []) hSK hAA (c_X11_fault (d := 1500) (Nat.le_of_ble_eq_true rfl) e1 rfl) (Or.inl ml_L_29) MV_X11_fault rfl rfl rfl rfl (Nat.le_of_ble_eq_true rfl) ⟨(Nat.le_of_ble_eq_true rfl), (Nat.le_of_ble_eq_true rfl)⟩ ⟨by show cs ≤ 601024; omega, by show ss ≤ 7293034; omega⟩ dL_law_293 ?_
  refine C_aload_n 2 dL_law_296 rfl rfl ?_
  refine C_aload_n 0 dL_law_297 rfl rfl ?_
  refine C_iload 4 dL_law_298 rfl ?_
  refine C_iconst (v := 1) dL_law_300 (by decide) ?_
  refine C_iadd dL_law_301 ?_
  refine C_sld C0 i1 dL_law_302 ?_
  refine C_cvi (d := 1500) (As := [.int (xs (x4 + 1).toNatClampNeg)]) (rest := [.int r]) hSK hAA (c_X12_fault (d := 1500) (Nat.le_of_ble_eq_true rfl) e2 rfl) (Or.inl ml_L_33) MV_X12_fault rfl rfl rfl rfl (Nat.le_of_ble_eq_true rfl) ⟨(Nat.le_of_ble_eq_true rfl), (Nat.le_of_ble_eq_true rfl)⟩ ⟨by show cs ≤ 601024; omega, by show ss ≤ 7293034; omega⟩ dL_law_303 ?_
  refine C_ic_eq (tgt := 1616) dL_law_306 (by decide) (fun c1 => ?_) (fun c1 => absurd rfl c1)
  exact knext h2 cs ss (Nat.le_succ _) (Nat.le_add_right _ _) hp
def G3 (P : AH → Prop) : Prop := ∀ h, P h → ∀ (a1 : Int32), ∃ r h1 h2, f_X11_text 0 a1 h = some (r, h1) ∧ f_X12_text 56 a1 h1 = some (r, h2) ∧ P h2
set_option maxHeartbeats 4000000 in
set_option maxRecDepth 100000 in
theorem law_c3 {P : AH → Prop} {E : EV} {S0 : State} {b Ln : Nat} {xs : Nat → Int32} {x4 : Int32} {cs ss : Nat} {h : AH} (C0 : LCtx E S0 b Ln xs) (i1 : ix (x4 + 1) Ln = true) (i2 : ix (x4 + 2) Ln = true) (i3 : ix (x4 + 3) Ln = true) (i4 : ix (x4 + 4) Ln = true) (i5 : ix (x4 + 5) Ln = true) (hcs : cs ≤ 10000) (hss : ss ≤ 100000) (hG : ∃ r h1 h2, f_X11_text 0 (xs (x4 + 1).toNatClampNeg) h = some (r, h1) ∧ f_X12_text 56 (xs (x4 + 1).toNatClampNeg) h1 = some (r, h2) ∧ P h2) (knext : ∀ (h2 : AH) (c2 s2 : Nat), c2 ≤ cs + 1 → s2 ≤ ss + 6 → P h2 → VC E room_1 K_L S0 (AL S0) QFl (wld E h2) (LL E b x4) [] c2 s2 1616) : VC E room_1 K_L S0 (AL S0) QFl (wld E h) (LL E b x4) [] cs ss 311 := by
  obtain ⟨r, h1, h2, e1, e2, hp⟩ := hG
  have hSK := C0.1
  have hAA := C0.2.2.2.1
  refine C_aload_n 1 dL_law_311 rfl rfl ?_
  refine C_aload_n 0 dL_law_312 rfl rfl ?_
  refine C_iload 4 dL_law_313 rfl ?_
  refine C_iconst (v := 1) dL_law_315 (by decide) ?_
  refine C_iadd dL_law_316 ?_
  refine C_sld C0 i1 dL_law_317 ?_
  refine C_cvi (d := 1500) (As := [.int (xs (x4 + 1).toNatClampNeg)]) (rest := []) hSK hAA (c_X11_text (d := 1500) (Nat.le_of_ble_eq_true rfl) e1 rfl) (Or.inl ml_L_34) MV_X11_text rfl rfl rfl rfl (Nat.le_of_ble_eq_true rfl) ⟨(Nat.le_of_ble_eq_true rfl), (Nat.le_of_ble_eq_true rfl)⟩ ⟨by show cs ≤ 601024; omega, by show ss ≤ 7293034; omega⟩ dL_law_318 ?_
  refine C_aload_n 2 dL_law_321 rfl rfl ?_
  refine C_aload_n 0 dL_law_322 rfl rfl ?_
  refine C_iload 4 dL_law_323 rfl ?_
  refine C_iconst (v := 1) dL_law_325 (by decide) ?_
  refine C_iadd dL_law_326 ?_
  refine C_sld C0 i1 dL_law_327 ?_
  refine C_cvi (d := 1500) (As := [.int (xs (x4 + 1).toNatClampNeg)]) (rest := [.int r]) hSK hAA (c_X12_text (d := 1500) (Nat.le_of_ble_eq_true rfl) e2 rfl) (Or.inl ml_L_37) MV_X12_text rfl rfl rfl rfl (Nat.le_of_ble_eq_true rfl) ⟨(Nat.le_of_ble_eq_true rfl), (Nat.le_of_ble_eq_true rfl)⟩ ⟨by show cs ≤ 601024; omega, by show ss ≤ 7293034; omega⟩ dL_law_328 ?_
  refine C_ic_eq (tgt := 1616) dL_law_331 (by decide) (fun c1 => ?_) (fun c1 => absurd rfl c1)
  exact knext h2 cs ss (Nat.le_succ _) (Nat.le_add_right _ _) hp
def G4 (P : AH → Prop) : Prop := ∀ h, P h → ∀ a1 a2 : Int32, ∃ r h1 v h2 h3, lpR a1 a2 h r h1 ∧ f_X12_person 56 a1 a2 h1 = some (v, h2) ∧ f_X12_thrown 56 h2 = some (r, h3) ∧ (r = 0 → h3.2.1 87 = v.toInt64) ∧ P h3
set_option maxHeartbeats 4000000 in
set_option maxRecDepth 100000 in
theorem law_c4 {P : AH → Prop} {E : EV} {S0 : State} {b Ln : Nat} {xs : Nat → Int32} {x4 : Int32} {cs ss : Nat} {h : AH} (C0 : LCtx E S0 b Ln xs) (i1 : ix (x4 + 1) Ln = true) (i2 : ix (x4 + 2) Ln = true) (i3 : ix (x4 + 3) Ln = true) (i4 : ix (x4 + 4) Ln = true) (i5 : ix (x4 + 5) Ln = true) (hcs : cs ≤ 10000) (hss : ss ≤ 100000) (hG : ∃ r h1 v h2 h3, lpR (xs (x4 + 1).toNatClampNeg) (xs (x4 + 2).toNatClampNeg) h r h1 ∧ f_X12_person 56 (xs (x4 + 1).toNatClampNeg) (xs (x4 + 2).toNatClampNeg) h1 = some (v, h2) ∧ f_X12_thrown 56 h2 = some (r, h3) ∧ (r = 0 → h3.2.1 87 = v.toInt64) ∧ P h3) (knext : ∀ (h2 : AH) (c2 s2 : Nat), c2 ≤ cs + 1 → s2 ≤ ss + 6 → P h2 → VC E room_1 K_L S0 (AL S0) QFl (wld E h2) (LL E b x4) [] c2 s2 1616) : VC E room_1 K_L S0 (AL S0) QFl (wld E h) (LL E b x4) [] cs ss 336 := by
  obtain ⟨r, h1, v, h2, h3, e1, e2, e3, e4, hp⟩ := hG
  have hSK := C0.1
  have hAA := C0.2.2.2.1
  refine C_aload_n 1 dL_law_336 rfl rfl ?_
  refine C_aload_n 0 dL_law_337 rfl rfl ?_
  refine C_iload 4 dL_law_338 rfl ?_
  refine C_iconst (v := 1) dL_law_340 (by decide) ?_
  refine C_iadd dL_law_341 ?_
  refine C_sld C0 i1 dL_law_342 ?_
  refine C_aload_n 0 dL_law_343 rfl rfl ?_
  refine C_iload 4 dL_law_344 rfl ?_
  refine C_iconst (v := 2) dL_law_346 (by decide) ?_
  refine C_iadd dL_law_347 ?_
  refine C_sld C0 i2 dL_law_348 ?_
  refine C_aload_n 3 dL_law_349 rfl rfl ?_
  refine L_person C0 e1 (by omega) (by omega) dL_law_350 ?_
  refine C_istore (L' := [(5, .int r), (0, .ref b), (1, .ref (E.2.2.2 0)), (2, .ref (E.2.2.2 56)), (3, .ref (E.2.2.2 87)), (4, .int x4)]) dL_law_353 (Nat.le_of_ble_eq_true rfl) rfl ?_
  refine C_aload_n 3 dL_law_355 rfl rfl ?_
  refine C_aload_n 1 dL_law_356 rfl rfl ?_
  refine C_iload 5 dL_law_357 rfl ?_
  refine C_iconst (v := 1) dL_law_359 (by decide) ?_
  refine C_iadd dL_law_360 ?_
  refine C_sld C0 i1 dL_law_361 ?_
  refine C_aload_n 1 dL_law_362 rfl rfl ?_
  refine C_iload 5 dL_law_363 rfl ?_
  refine C_iconst (v := 2) dL_law_365 (by decide) ?_
  refine C_iadd dL_law_366 ?_
  refine C_sld C0 i2 dL_law_367 ?_
  refine C_cvi (d := 1500) (As := [.int (xs (x4 + 1).toNatClampNeg), .int (xs (x4 + 2).toNatClampNeg)]) (rest := []) hSK hAA (c_X12_person (d := 1500) (Nat.le_of_ble_eq_true rfl) e2 rfl) (Or.inl ml_L_43) MV_X12_person rfl rfl rfl rfl (Nat.le_of_ble_eq_true rfl) ⟨(Nat.le_of_ble_eq_true rfl), (Nat.le_of_ble_eq_true rfl)⟩ ⟨by show cs + 1 ≤ 601024; omega, by show ss + 6 ≤ 7293034; omega⟩ dL_law_368 ?_
  refine C_istore (L' := [(6, .int v), (5, .int r), (0, .ref b), (1, .ref (E.2.2.2 0)), (2, .ref (E.2.2.2 56)), (3, .ref (E.2.2.2 87)), (4, .int x4)]) dL_law_371 (Nat.le_of_ble_eq_true rfl) rfl ?_
  refine C_aload_n 4 dL_law_373 rfl rfl ?_
  refine C_cvi (d := 1500) (As := []) (rest := []) hSK hAA (c_X12_thrown (d := 1500) (Nat.le_of_ble_eq_true rfl) e3 rfl) (Or.inl ml_L_44) MV_X12_thrown rfl rfl rfl rfl (Nat.le_of_ble_eq_true rfl) ⟨(Nat.le_of_ble_eq_true rfl), (Nat.le_of_ble_eq_true rfl)⟩ ⟨by show cs + 1 ≤ 601024; omega, by show ss + 6 ≤ 7293034; omega⟩ dL_law_374 ?_
  refine C_iload 1 dL_law_377 rfl ?_
  refine C_ic_eq (tgt := 384) dL_law_379 (by decide) (fun c1 => ?_) (fun c1 => absurd rfl c1)
  refine C_iload 1 dL_law_384 rfl ?_
  refine C_if_ne (tgt := 401) dL_law_386 (by decide) (fun c2 => ?_) (fun c2 => ?_)
  · refine C_goto (tgt := 1616) dL_law_401 (by decide) ?_
    refine C_sub [2, 3, 4, 5, 6] rfl ?_
    exact knext h3 (cs + 1) (ss + 6) (Nat.le_refl _) (Nat.le_refl _) hp
  · refine C_aload_n 5 dL_law_389 rfl rfl ?_
    refine C_iconst (v := 0) dL_law_390 (by decide) ?_
    refine C_lald dL_law_391 ?_
    refine C_iload 0 dL_law_392 rfl ?_
    refine C_i2l dL_law_394 ?_
    refine C_lcmp dL_law_395 ?_
    refine C_if_eq (tgt := 401) dL_law_396 (by decide) (fun c3 => ?_) (fun c3 => absurd (by rw [e4 c2]; exact lg_cmp_self _) c3)
    refine C_goto (tgt := 1616) dL_law_401 (by decide) ?_
    refine C_sub [2, 3, 4, 5, 6] rfl ?_
    exact knext h3 (cs + 1) (ss + 6) (Nat.le_refl _) (Nat.le_refl _) hp
def G5 (P : AH → Prop) : Prop := ∀ h, P h → ∀ (a1 : Int32) (a2 : Int32), ∃ r h1 h2, f_X11_pair 0 a1 a2 h = some (r, h1) ∧ f_X12_pair 56 a1 a2 h1 = some (r, h2) ∧ P h2
set_option maxHeartbeats 4000000 in
set_option maxRecDepth 100000 in
theorem law_c5 {P : AH → Prop} {E : EV} {S0 : State} {b Ln : Nat} {xs : Nat → Int32} {x4 : Int32} {cs ss : Nat} {h : AH} (C0 : LCtx E S0 b Ln xs) (i1 : ix (x4 + 1) Ln = true) (i2 : ix (x4 + 2) Ln = true) (i3 : ix (x4 + 3) Ln = true) (i4 : ix (x4 + 4) Ln = true) (i5 : ix (x4 + 5) Ln = true) (hcs : cs ≤ 10000) (hss : ss ≤ 100000) (hG : ∃ r h1 h2, f_X11_pair 0 (xs (x4 + 1).toNatClampNeg) (xs (x4 + 2).toNatClampNeg) h = some (r, h1) ∧ f_X12_pair 56 (xs (x4 + 1).toNatClampNeg) (xs (x4 + 2).toNatClampNeg) h1 = some (r, h2) ∧ P h2) (knext : ∀ (h2 : AH) (c2 s2 : Nat), c2 ≤ cs + 1 → s2 ≤ ss + 6 → P h2 → VC E room_1 K_L S0 (AL S0) QFl (wld E h2) (LL E b x4) [] c2 s2 1616) : VC E room_1 K_L S0 (AL S0) QFl (wld E h) (LL E b x4) [] cs ss 404 := by
  obtain ⟨r, h1, h2, e1, e2, hp⟩ := hG
  have hSK := C0.1
  have hAA := C0.2.2.2.1
  refine C_aload_n 1 dL_law_404 rfl rfl ?_
  refine C_aload_n 0 dL_law_405 rfl rfl ?_
  refine C_iload 4 dL_law_406 rfl ?_
  refine C_iconst (v := 1) dL_law_408 (by decide) ?_
  refine C_iadd dL_law_409 ?_
  refine C_sld C0 i1 dL_law_410 ?_
  refine C_aload_n 0 dL_law_411 rfl rfl ?_
  refine C_iload 4 dL_law_412 rfl ?_
  refine C_iconst (v := 2) dL_law_414 (by decide) ?_
  refine C_iadd dL_law_415 ?_
  refine C_sld C0 i2 dL_law_416 ?_
  refine C_cvi (d := 1500) (As := [.int (xs (x4 + 1).toNatClampNeg), .int (xs (x4 + 2).toNatClampNeg)]) (rest := []) hSK hAA (c_X11_pair (d := 1500) (Nat.le_of_ble_eq_true rfl) e1 rfl) (Or.inl ml_L_48) MV_X11_pair rfl rfl rfl rfl (Nat.le_of_ble_eq_true rfl) ⟨(Nat.le_of_ble_eq_true rfl), (Nat.le_of_ble_eq_true rfl)⟩ ⟨by show cs ≤ 601024; omega, by show ss ≤ 7293034; omega⟩ dL_law_417 ?_
  refine C_aload_n 2 dL_law_420 rfl rfl ?_
  refine C_aload_n 0 dL_law_421 rfl rfl ?_
  refine C_iload 4 dL_law_422 rfl ?_
  refine C_iconst (v := 1) dL_law_424 (by decide) ?_
  refine C_iadd dL_law_425 ?_
  refine C_sld C0 i1 dL_law_426 ?_
  refine C_aload_n 0 dL_law_427 rfl rfl ?_
  refine C_iload 4 dL_law_428 rfl ?_
  refine C_iconst (v := 2) dL_law_430 (by decide) ?_
  refine C_iadd dL_law_431 ?_
  refine C_sld C0 i2 dL_law_432 ?_
  refine C_cvi (d := 1500) (As := [.int (xs (x4 + 1).toNatClampNeg), .int (xs (x4 + 2).toNatClampNeg)]) (rest := [.int r]) hSK hAA (c_X12_pair (d := 1500) (Nat.le_of_ble_eq_true rfl) e2 rfl) (Or.inl ml_L_51) MV_X12_pair rfl rfl rfl rfl (Nat.le_of_ble_eq_true rfl) ⟨(Nat.le_of_ble_eq_true rfl), (Nat.le_of_ble_eq_true rfl)⟩ ⟨by show cs ≤ 601024; omega, by show ss ≤ 7293034; omega⟩ dL_law_433 ?_
  refine C_ic_eq (tgt := 1616) dL_law_436 (by decide) (fun c1 => ?_) (fun c1 => absurd rfl c1)
  exact knext h2 cs ss (Nat.le_succ _) (Nat.le_add_right _ _) hp
def G6 (P : AH → Prop) : Prop := ∀ h, P h → ∀ (a1 : Int32) (a2 : Int32), ∃ r h1 h2, f_X11_fits 0 a1 a2 h = some (r, h1) ∧ f_X12_fits 56 a1 a2 h1 = some (r, h2) ∧ P h2
set_option maxHeartbeats 4000000 in
set_option maxRecDepth 100000 in
theorem law_c6 {P : AH → Prop} {E : EV} {S0 : State} {b Ln : Nat} {xs : Nat → Int32} {x4 : Int32} {cs ss : Nat} {h : AH} (C0 : LCtx E S0 b Ln xs) (i1 : ix (x4 + 1) Ln = true) (i2 : ix (x4 + 2) Ln = true) (i3 : ix (x4 + 3) Ln = true) (i4 : ix (x4 + 4) Ln = true) (i5 : ix (x4 + 5) Ln = true) (hcs : cs ≤ 10000) (hss : ss ≤ 100000) (hG : ∃ r h1 h2, f_X11_fits 0 (xs (x4 + 1).toNatClampNeg) (xs (x4 + 2).toNatClampNeg) h = some (r, h1) ∧ f_X12_fits 56 (xs (x4 + 1).toNatClampNeg) (xs (x4 + 2).toNatClampNeg) h1 = some (r, h2) ∧ P h2) (knext : ∀ (h2 : AH) (c2 s2 : Nat), c2 ≤ cs + 1 → s2 ≤ ss + 6 → P h2 → VC E room_1 K_L S0 (AL S0) QFl (wld E h2) (LL E b x4) [] c2 s2 1616) : VC E room_1 K_L S0 (AL S0) QFl (wld E h) (LL E b x4) [] cs ss 441 := by
  obtain ⟨r, h1, h2, e1, e2, hp⟩ := hG
  have hSK := C0.1
  have hAA := C0.2.2.2.1
  refine C_aload_n 1 dL_law_441 rfl rfl ?_
  refine C_aload_n 0 dL_law_442 rfl rfl ?_
  refine C_iload 4 dL_law_443 rfl ?_
  refine C_iconst (v := 1) dL_law_445 (by decide) ?_
  refine C_iadd dL_law_446 ?_
  refine C_sld C0 i1 dL_law_447 ?_
  refine C_aload_n 0 dL_law_448 rfl rfl ?_
  refine C_iload 4 dL_law_449 rfl ?_
  refine C_iconst (v := 2) dL_law_451 (by decide) ?_
  refine C_iadd dL_law_452 ?_
  refine C_sld C0 i2 dL_law_453 ?_
  refine C_cvi (d := 1500) (As := [.int (xs (x4 + 1).toNatClampNeg), .int (xs (x4 + 2).toNatClampNeg)]) (rest := []) hSK hAA (c_X11_fits (d := 1500) (Nat.le_of_ble_eq_true rfl) e1 rfl) (Or.inl ml_L_52) MV_X11_fits rfl rfl rfl rfl (Nat.le_of_ble_eq_true rfl) ⟨(Nat.le_of_ble_eq_true rfl), (Nat.le_of_ble_eq_true rfl)⟩ ⟨by show cs ≤ 601024; omega, by show ss ≤ 7293034; omega⟩ dL_law_454 ?_
  refine C_aload_n 2 dL_law_457 rfl rfl ?_
  refine C_aload_n 0 dL_law_458 rfl rfl ?_
  refine C_iload 4 dL_law_459 rfl ?_
  refine C_iconst (v := 1) dL_law_461 (by decide) ?_
  refine C_iadd dL_law_462 ?_
  refine C_sld C0 i1 dL_law_463 ?_
  refine C_aload_n 0 dL_law_464 rfl rfl ?_
  refine C_iload 4 dL_law_465 rfl ?_
  refine C_iconst (v := 2) dL_law_467 (by decide) ?_
  refine C_iadd dL_law_468 ?_
  refine C_sld C0 i2 dL_law_469 ?_
  refine C_cvi (d := 1500) (As := [.int (xs (x4 + 1).toNatClampNeg), .int (xs (x4 + 2).toNatClampNeg)]) (rest := [.int r]) hSK hAA (c_X12_fits (d := 1500) (Nat.le_of_ble_eq_true rfl) e2 rfl) (Or.inl ml_L_55) MV_X12_fits rfl rfl rfl rfl (Nat.le_of_ble_eq_true rfl) ⟨(Nat.le_of_ble_eq_true rfl), (Nat.le_of_ble_eq_true rfl)⟩ ⟨by show cs ≤ 601024; omega, by show ss ≤ 7293034; omega⟩ dL_law_470 ?_
  refine C_ic_eq (tgt := 1616) dL_law_473 (by decide) (fun c1 => ?_) (fun c1 => absurd rfl c1)
  exact knext h2 cs ss (Nat.le_succ _) (Nat.le_add_right _ _) hp
def G7 (P : AH → Prop) : Prop := ∀ h, P h → ∀ (a1 : Int32) (a2 : Int32), ∃ r h1 h2, f_X11_rule 0 a1 a2 h = some (r, h1) ∧ f_X12_rule 56 a1 a2 h1 = some (r, h2) ∧ P h2
set_option maxHeartbeats 4000000 in
set_option maxRecDepth 100000 in
theorem law_c7 {P : AH → Prop} {E : EV} {S0 : State} {b Ln : Nat} {xs : Nat → Int32} {x4 : Int32} {cs ss : Nat} {h : AH} (C0 : LCtx E S0 b Ln xs) (i1 : ix (x4 + 1) Ln = true) (i2 : ix (x4 + 2) Ln = true) (i3 : ix (x4 + 3) Ln = true) (i4 : ix (x4 + 4) Ln = true) (i5 : ix (x4 + 5) Ln = true) (hcs : cs ≤ 10000) (hss : ss ≤ 100000) (hG : ∃ r h1 h2, f_X11_rule 0 (xs (x4 + 1).toNatClampNeg) (xs (x4 + 2).toNatClampNeg) h = some (r, h1) ∧ f_X12_rule 56 (xs (x4 + 1).toNatClampNeg) (xs (x4 + 2).toNatClampNeg) h1 = some (r, h2) ∧ P h2) (knext : ∀ (h2 : AH) (c2 s2 : Nat), c2 ≤ cs + 1 → s2 ≤ ss + 6 → P h2 → VC E room_1 K_L S0 (AL S0) QFl (wld E h2) (LL E b x4) [] c2 s2 1616) : VC E room_1 K_L S0 (AL S0) QFl (wld E h) (LL E b x4) [] cs ss 478 := by
  obtain ⟨r, h1, h2, e1, e2, hp⟩ := hG
  have hSK := C0.1
  have hAA := C0.2.2.2.1
  refine C_aload_n 1 dL_law_478 rfl rfl ?_
  refine C_aload_n 0 dL_law_479 rfl rfl ?_
  refine C_iload 4 dL_law_480 rfl ?_
  refine C_iconst (v := 1) dL_law_482 (by decide) ?_
  refine C_iadd dL_law_483 ?_
  refine C_sld C0 i1 dL_law_484 ?_
  refine C_aload_n 0 dL_law_485 rfl rfl ?_
  refine C_iload 4 dL_law_486 rfl ?_
  refine C_iconst (v := 2) dL_law_488 (by decide) ?_
  refine C_iadd dL_law_489 ?_
  refine C_sld C0 i2 dL_law_490 ?_
  refine C_cvi (d := 1500) (As := [.int (xs (x4 + 1).toNatClampNeg), .int (xs (x4 + 2).toNatClampNeg)]) (rest := []) hSK hAA (c_X11_rule (d := 1500) (Nat.le_of_ble_eq_true rfl) e1 rfl) (Or.inl ml_L_56) MV_X11_rule rfl rfl rfl rfl (Nat.le_of_ble_eq_true rfl) ⟨(Nat.le_of_ble_eq_true rfl), (Nat.le_of_ble_eq_true rfl)⟩ ⟨by show cs ≤ 601024; omega, by show ss ≤ 7293034; omega⟩ dL_law_491 ?_
  refine C_aload_n 2 dL_law_494 rfl rfl ?_
  refine C_aload_n 0 dL_law_495 rfl rfl ?_
  refine C_iload 4 dL_law_496 rfl ?_
  refine C_iconst (v := 1) dL_law_498 (by decide) ?_
  refine C_iadd dL_law_499 ?_
  refine C_sld C0 i1 dL_law_500 ?_
  refine C_aload_n 0 dL_law_501 rfl rfl ?_
  refine C_iload 4 dL_law_502 rfl ?_
  refine C_iconst (v := 2) dL_law_504 (by decide) ?_
  refine C_iadd dL_law_505 ?_
  refine C_sld C0 i2 dL_law_506 ?_
  refine C_cvi (d := 1500) (As := [.int (xs (x4 + 1).toNatClampNeg), .int (xs (x4 + 2).toNatClampNeg)]) (rest := [.int r]) hSK hAA (c_X12_rule (d := 1500) (Nat.le_of_ble_eq_true rfl) e2 rfl) (Or.inl ml_L_60) MV_X12_rule rfl rfl rfl rfl (Nat.le_of_ble_eq_true rfl) ⟨(Nat.le_of_ble_eq_true rfl), (Nat.le_of_ble_eq_true rfl)⟩ ⟨by show cs ≤ 601024; omega, by show ss ≤ 7293034; omega⟩ dL_law_507 ?_
  refine C_ic_eq (tgt := 1616) dL_law_510 (by decide) (fun c1 => ?_) (fun c1 => absurd rfl c1)
  exact knext h2 cs ss (Nat.le_succ _) (Nat.le_add_right _ _) hp
def G8 (P : AH → Prop) : Prop := ∀ h, P h → ∀ (a1 : Int32) (a2 : Int32) (a3 : Int32), ∃ r h1 h2, f_X11_evening 0 a1 a2 a3 h = some (r, h1) ∧ f_X12_evening 56 a1 a2 a3 h1 = some (r, h2) ∧ P h2
set_option maxHeartbeats 4000000 in
set_option maxRecDepth 100000 in
theorem law_c8 {P : AH → Prop} {E : EV} {S0 : State} {b Ln : Nat} {xs : Nat → Int32} {x4 : Int32} {cs ss : Nat} {h : AH} (C0 : LCtx E S0 b Ln xs) (i1 : ix (x4 + 1) Ln = true) (i2 : ix (x4 + 2) Ln = true) (i3 : ix (x4 + 3) Ln = true) (i4 : ix (x4 + 4) Ln = true) (i5 : ix (x4 + 5) Ln = true) (hcs : cs ≤ 10000) (hss : ss ≤ 100000) (hG : ∃ r h1 h2, f_X11_evening 0 (xs (x4 + 1).toNatClampNeg) (xs (x4 + 2).toNatClampNeg) (xs (x4 + 3).toNatClampNeg) h = some (r, h1) ∧ f_X12_evening 56 (xs (x4 + 1).toNatClampNeg) (xs (x4 + 2).toNatClampNeg) (xs (x4 + 3).toNatClampNeg) h1 = some (r, h2) ∧ P h2) (knext : ∀ (h2 : AH) (c2 s2 : Nat), c2 ≤ cs + 1 → s2 ≤ ss + 6 → P h2 → VC E room_1 K_L S0 (AL S0) QFl (wld E h2) (LL E b x4) [] c2 s2 1616) : VC E room_1 K_L S0 (AL S0) QFl (wld E h) (LL E b x4) [] cs ss 515 := by
  obtain ⟨r, h1, h2, e1, e2, hp⟩ := hG
  have hSK := C0.1
  have hAA := C0.2.2.2.1
  refine C_aload_n 1 dL_law_515 rfl rfl ?_
  refine C_aload_n 0 dL_law_516 rfl rfl ?_
  refine C_iload 4 dL_law_517 rfl ?_
  refine C_iconst (v := 1) dL_law_519 (by decide) ?_
  refine C_iadd dL_law_520 ?_
  refine C_sld C0 i1 dL_law_521 ?_
  refine C_aload_n 0 dL_law_522 rfl rfl ?_
  refine C_iload 4 dL_law_523 rfl ?_
  refine C_iconst (v := 2) dL_law_525 (by decide) ?_
  refine C_iadd dL_law_526 ?_
  refine C_sld C0 i2 dL_law_527 ?_
  refine C_aload_n 0 dL_law_528 rfl rfl ?_
  refine C_iload 4 dL_law_529 rfl ?_
  refine C_iconst (v := 3) dL_law_531 (by decide) ?_
  refine C_iadd dL_law_532 ?_
  refine C_sld C0 i3 dL_law_533 ?_
  refine C_cvi (d := 1500) (As := [.int (xs (x4 + 1).toNatClampNeg), .int (xs (x4 + 2).toNatClampNeg), .int (xs (x4 + 3).toNatClampNeg)]) (rest := []) hSK hAA (c_X11_evening (d := 1500) (Nat.le_of_ble_eq_true rfl) e1 rfl) (Or.inl ml_L_61) MV_X11_evening rfl rfl rfl rfl (Nat.le_of_ble_eq_true rfl) ⟨(Nat.le_of_ble_eq_true rfl), (Nat.le_of_ble_eq_true rfl)⟩ ⟨by show cs ≤ 601024; omega, by show ss ≤ 7293034; omega⟩ dL_law_534 ?_
  refine C_aload_n 2 dL_law_537 rfl rfl ?_
  refine C_aload_n 0 dL_law_538 rfl rfl ?_
  refine C_iload 4 dL_law_539 rfl ?_
  refine C_iconst (v := 1) dL_law_541 (by decide) ?_
  refine C_iadd dL_law_542 ?_
  refine C_sld C0 i1 dL_law_543 ?_
  refine C_aload_n 0 dL_law_544 rfl rfl ?_
  refine C_iload 4 dL_law_545 rfl ?_
  refine C_iconst (v := 2) dL_law_547 (by decide) ?_
  refine C_iadd dL_law_548 ?_
  refine C_sld C0 i2 dL_law_549 ?_
  refine C_aload_n 0 dL_law_550 rfl rfl ?_
  refine C_iload 4 dL_law_551 rfl ?_
  refine C_iconst (v := 3) dL_law_553 (by decide) ?_
  refine C_iadd dL_law_554 ?_
  refine C_sld C0 i3 dL_law_555 ?_
  refine C_cvi (d := 1500) (As := [.int (xs (x4 + 1).toNatClampNeg), .int (xs (x4 + 2).toNatClampNeg), .int (xs (x4 + 3).toNatClampNeg)]) (rest := [.int r]) hSK hAA (c_X12_evening (d := 1500) (Nat.le_of_ble_eq_true rfl) e2 rfl) (Or.inl ml_L_65) MV_X12_evening rfl rfl rfl rfl (Nat.le_of_ble_eq_true rfl) ⟨(Nat.le_of_ble_eq_true rfl), (Nat.le_of_ble_eq_true rfl)⟩ ⟨by show cs ≤ 601024; omega, by show ss ≤ 7293034; omega⟩ dL_law_556 ?_
  refine C_ic_eq (tgt := 1616) dL_law_559 (by decide) (fun c1 => ?_) (fun c1 => absurd rfl c1)
  exact knext h2 cs ss (Nat.le_succ _) (Nat.le_add_right _ _) hp
def G9 (P : AH → Prop) : Prop := ∀ h, P h → ∀ (a1 : Int32) (a2 : Int32) (a3 : Int32) (a4 : Int32), ∃ r h1 h2, f_X11_tried 0 a1 a2 a3 a4 h = some (r, h1) ∧ f_X12_tried 56 a1 a2 a3 a4 h1 = some (r, h2) ∧ P h2
set_option maxHeartbeats 4000000 in
set_option maxRecDepth 100000 in
theorem law_c9 {P : AH → Prop} {E : EV} {S0 : State} {b Ln : Nat} {xs : Nat → Int32} {x4 : Int32} {cs ss : Nat} {h : AH} (C0 : LCtx E S0 b Ln xs) (i1 : ix (x4 + 1) Ln = true) (i2 : ix (x4 + 2) Ln = true) (i3 : ix (x4 + 3) Ln = true) (i4 : ix (x4 + 4) Ln = true) (i5 : ix (x4 + 5) Ln = true) (hcs : cs ≤ 10000) (hss : ss ≤ 100000) (hG : ∃ r h1 h2, f_X11_tried 0 (xs (x4 + 1).toNatClampNeg) (xs (x4 + 2).toNatClampNeg) (xs (x4 + 3).toNatClampNeg) (xs (x4 + 4).toNatClampNeg) h = some (r, h1) ∧ f_X12_tried 56 (xs (x4 + 1).toNatClampNeg) (xs (x4 + 2).toNatClampNeg) (xs (x4 + 3).toNatClampNeg) (xs (x4 + 4).toNatClampNeg) h1 = some (r, h2) ∧ P h2) (knext : ∀ (h2 : AH) (c2 s2 : Nat), c2 ≤ cs + 1 → s2 ≤ ss + 6 → P h2 → VC E room_1 K_L S0 (AL S0) QFl (wld E h2) (LL E b x4) [] c2 s2 1616) : VC E room_1 K_L S0 (AL S0) QFl (wld E h) (LL E b x4) [] cs ss 564 := by
  obtain ⟨r, h1, h2, e1, e2, hp⟩ := hG
  have hSK := C0.1
  have hAA := C0.2.2.2.1
  refine C_aload_n 1 dL_law_564 rfl rfl ?_
  refine C_aload_n 0 dL_law_565 rfl rfl ?_
  refine C_iload 4 dL_law_566 rfl ?_
  refine C_iconst (v := 1) dL_law_568 (by decide) ?_
  refine C_iadd dL_law_569 ?_
  refine C_sld C0 i1 dL_law_570 ?_
  refine C_aload_n 0 dL_law_571 rfl rfl ?_
  refine C_iload 4 dL_law_572 rfl ?_
  refine C_iconst (v := 2) dL_law_574 (by decide) ?_
  refine C_iadd dL_law_575 ?_
  refine C_sld C0 i2 dL_law_576 ?_
  refine C_aload_n 0 dL_law_577 rfl rfl ?_
  refine C_iload 4 dL_law_578 rfl ?_
  refine C_iconst (v := 3) dL_law_580 (by decide) ?_
  refine C_iadd dL_law_581 ?_
  refine C_sld C0 i3 dL_law_582 ?_
  refine C_aload_n 0 dL_law_583 rfl rfl ?_
  refine C_iload 4 dL_law_584 rfl ?_
  refine C_iconst (v := 4) dL_law_586 (by decide) ?_
  refine C_iadd dL_law_587 ?_
  refine C_sld C0 i4 dL_law_588 ?_
  refine C_cvi (d := 1500) (As := [.int (xs (x4 + 1).toNatClampNeg), .int (xs (x4 + 2).toNatClampNeg), .int (xs (x4 + 3).toNatClampNeg), .int (xs (x4 + 4).toNatClampNeg)]) (rest := []) hSK hAA (c_X11_tried (d := 1500) (Nat.le_of_ble_eq_true rfl) e1 rfl) (Or.inl ml_L_66) MV_X11_tried rfl rfl rfl rfl (Nat.le_of_ble_eq_true rfl) ⟨(Nat.le_of_ble_eq_true rfl), (Nat.le_of_ble_eq_true rfl)⟩ ⟨by show cs ≤ 601024; omega, by show ss ≤ 7293034; omega⟩ dL_law_589 ?_
  refine C_aload_n 2 dL_law_592 rfl rfl ?_
  refine C_aload_n 0 dL_law_593 rfl rfl ?_
  refine C_iload 4 dL_law_594 rfl ?_
  refine C_iconst (v := 1) dL_law_596 (by decide) ?_
  refine C_iadd dL_law_597 ?_
  refine C_sld C0 i1 dL_law_598 ?_
  refine C_aload_n 0 dL_law_599 rfl rfl ?_
  refine C_iload 4 dL_law_600 rfl ?_
  refine C_iconst (v := 2) dL_law_602 (by decide) ?_
  refine C_iadd dL_law_603 ?_
  refine C_sld C0 i2 dL_law_604 ?_
  refine C_aload_n 0 dL_law_605 rfl rfl ?_
  refine C_iload 4 dL_law_606 rfl ?_
  refine C_iconst (v := 3) dL_law_608 (by decide) ?_
  refine C_iadd dL_law_609 ?_
  refine C_sld C0 i3 dL_law_610 ?_
  refine C_aload_n 0 dL_law_611 rfl rfl ?_
  refine C_iload 4 dL_law_612 rfl ?_
  refine C_iconst (v := 4) dL_law_614 (by decide) ?_
  refine C_iadd dL_law_615 ?_
  refine C_sld C0 i4 dL_law_616 ?_
  refine C_cvi (d := 1500) (As := [.int (xs (x4 + 1).toNatClampNeg), .int (xs (x4 + 2).toNatClampNeg), .int (xs (x4 + 3).toNatClampNeg), .int (xs (x4 + 4).toNatClampNeg)]) (rest := [.int r]) hSK hAA (c_X12_tried (d := 1500) (Nat.le_of_ble_eq_true rfl) e2 rfl) (Or.inl ml_L_70) MV_X12_tried rfl rfl rfl rfl (Nat.le_of_ble_eq_true rfl) ⟨(Nat.le_of_ble_eq_true rfl), (Nat.le_of_ble_eq_true rfl)⟩ ⟨by show cs ≤ 601024; omega, by show ss ≤ 7293034; omega⟩ dL_law_617 ?_
  refine C_ic_eq (tgt := 1616) dL_law_620 (by decide) (fun c1 => ?_) (fun c1 => absurd rfl c1)
  exact knext h2 cs ss (Nat.le_succ _) (Nat.le_add_right _ _) hp
def G10 (P : AH → Prop) : Prop := ∀ h, P h → ∀ (a1 : Int32) (a2 : Int32) (a3 : Int32) (a4 : Int32), ∃ r h1 h2, f_X11_orders 0 a1 a2 a3 a4 h = some (r, h1) ∧ f_X12_orders 56 a1 a2 a3 a4 h1 = some (r, h2) ∧ P h2
set_option maxHeartbeats 4000000 in
set_option maxRecDepth 100000 in
theorem law_c10 {P : AH → Prop} {E : EV} {S0 : State} {b Ln : Nat} {xs : Nat → Int32} {x4 : Int32} {cs ss : Nat} {h : AH} (C0 : LCtx E S0 b Ln xs) (i1 : ix (x4 + 1) Ln = true) (i2 : ix (x4 + 2) Ln = true) (i3 : ix (x4 + 3) Ln = true) (i4 : ix (x4 + 4) Ln = true) (i5 : ix (x4 + 5) Ln = true) (hcs : cs ≤ 10000) (hss : ss ≤ 100000) (hG : ∃ r h1 h2, f_X11_orders 0 (xs (x4 + 1).toNatClampNeg) (xs (x4 + 2).toNatClampNeg) (xs (x4 + 3).toNatClampNeg) (xs (x4 + 4).toNatClampNeg) h = some (r, h1) ∧ f_X12_orders 56 (xs (x4 + 1).toNatClampNeg) (xs (x4 + 2).toNatClampNeg) (xs (x4 + 3).toNatClampNeg) (xs (x4 + 4).toNatClampNeg) h1 = some (r, h2) ∧ P h2) (knext : ∀ (h2 : AH) (c2 s2 : Nat), c2 ≤ cs + 1 → s2 ≤ ss + 6 → P h2 → VC E room_1 K_L S0 (AL S0) QFl (wld E h2) (LL E b x4) [] c2 s2 1616) : VC E room_1 K_L S0 (AL S0) QFl (wld E h) (LL E b x4) [] cs ss 625 := by
  obtain ⟨r, h1, h2, e1, e2, hp⟩ := hG
  have hSK := C0.1
  have hAA := C0.2.2.2.1
  refine C_aload_n 1 dL_law_625 rfl rfl ?_
  refine C_aload_n 0 dL_law_626 rfl rfl ?_
  refine C_iload 4 dL_law_627 rfl ?_
  refine C_iconst (v := 1) dL_law_629 (by decide) ?_
  refine C_iadd dL_law_630 ?_
  refine C_sld C0 i1 dL_law_631 ?_
  refine C_aload_n 0 dL_law_632 rfl rfl ?_
  refine C_iload 4 dL_law_633 rfl ?_
  refine C_iconst (v := 2) dL_law_635 (by decide) ?_
  refine C_iadd dL_law_636 ?_
  refine C_sld C0 i2 dL_law_637 ?_
  refine C_aload_n 0 dL_law_638 rfl rfl ?_
  refine C_iload 4 dL_law_639 rfl ?_
  refine C_iconst (v := 3) dL_law_641 (by decide) ?_
  refine C_iadd dL_law_642 ?_
  refine C_sld C0 i3 dL_law_643 ?_
  refine C_aload_n 0 dL_law_644 rfl rfl ?_
  refine C_iload 4 dL_law_645 rfl ?_
  refine C_iconst (v := 4) dL_law_647 (by decide) ?_
  refine C_iadd dL_law_648 ?_
  refine C_sld C0 i4 dL_law_649 ?_
  refine C_cvi (d := 1500) (As := [.int (xs (x4 + 1).toNatClampNeg), .int (xs (x4 + 2).toNatClampNeg), .int (xs (x4 + 3).toNatClampNeg), .int (xs (x4 + 4).toNatClampNeg)]) (rest := []) hSK hAA (c_X11_orders (d := 1500) (Nat.le_of_ble_eq_true rfl) e1 rfl) (Or.inl ml_L_71) MV_X11_orders rfl rfl rfl rfl (Nat.le_of_ble_eq_true rfl) ⟨(Nat.le_of_ble_eq_true rfl), (Nat.le_of_ble_eq_true rfl)⟩ ⟨by show cs ≤ 601024; omega, by show ss ≤ 7293034; omega⟩ dL_law_650 ?_
  refine C_aload_n 2 dL_law_653 rfl rfl ?_
  refine C_aload_n 0 dL_law_654 rfl rfl ?_
  refine C_iload 4 dL_law_655 rfl ?_
  refine C_iconst (v := 1) dL_law_657 (by decide) ?_
  refine C_iadd dL_law_658 ?_
  refine C_sld C0 i1 dL_law_659 ?_
  refine C_aload_n 0 dL_law_660 rfl rfl ?_
  refine C_iload 4 dL_law_661 rfl ?_
  refine C_iconst (v := 2) dL_law_663 (by decide) ?_
  refine C_iadd dL_law_664 ?_
  refine C_sld C0 i2 dL_law_665 ?_
  refine C_aload_n 0 dL_law_666 rfl rfl ?_
  refine C_iload 4 dL_law_667 rfl ?_
  refine C_iconst (v := 3) dL_law_669 (by decide) ?_
  refine C_iadd dL_law_670 ?_
  refine C_sld C0 i3 dL_law_671 ?_
  refine C_aload_n 0 dL_law_672 rfl rfl ?_
  refine C_iload 4 dL_law_673 rfl ?_
  refine C_iconst (v := 4) dL_law_675 (by decide) ?_
  refine C_iadd dL_law_676 ?_
  refine C_sld C0 i4 dL_law_677 ?_
  refine C_cvi (d := 1500) (As := [.int (xs (x4 + 1).toNatClampNeg), .int (xs (x4 + 2).toNatClampNeg), .int (xs (x4 + 3).toNatClampNeg), .int (xs (x4 + 4).toNatClampNeg)]) (rest := [.int r]) hSK hAA (c_X12_orders (d := 1500) (Nat.le_of_ble_eq_true rfl) e2 rfl) (Or.inl ml_L_74) MV_X12_orders rfl rfl rfl rfl (Nat.le_of_ble_eq_true rfl) ⟨(Nat.le_of_ble_eq_true rfl), (Nat.le_of_ble_eq_true rfl)⟩ ⟨by show cs ≤ 601024; omega, by show ss ≤ 7293034; omega⟩ dL_law_678 ?_
  refine C_ic_eq (tgt := 1616) dL_law_681 (by decide) (fun c1 => ?_) (fun c1 => absurd rfl c1)
  exact knext h2 cs ss (Nat.le_succ _) (Nat.le_add_right _ _) hp
def G11 (P : AH → Prop) : Prop := ∀ h, P h → ∀ (a1 : Int32) (a2 : Int32) (a3 : Int32), ∃ r h1 h2, f_X11_worst 0 a1 a2 a3 h = some (r, h1) ∧ f_X12_worst 56 a1 a2 a3 h1 = some (r, h2) ∧ P h2
set_option maxHeartbeats 4000000 in
set_option maxRecDepth 100000 in
theorem law_c11 {P : AH → Prop} {E : EV} {S0 : State} {b Ln : Nat} {xs : Nat → Int32} {x4 : Int32} {cs ss : Nat} {h : AH} (C0 : LCtx E S0 b Ln xs) (i1 : ix (x4 + 1) Ln = true) (i2 : ix (x4 + 2) Ln = true) (i3 : ix (x4 + 3) Ln = true) (i4 : ix (x4 + 4) Ln = true) (i5 : ix (x4 + 5) Ln = true) (hcs : cs ≤ 10000) (hss : ss ≤ 100000) (hG : ∃ r h1 h2, f_X11_worst 0 (xs (x4 + 1).toNatClampNeg) (xs (x4 + 2).toNatClampNeg) (xs (x4 + 3).toNatClampNeg) h = some (r, h1) ∧ f_X12_worst 56 (xs (x4 + 1).toNatClampNeg) (xs (x4 + 2).toNatClampNeg) (xs (x4 + 3).toNatClampNeg) h1 = some (r, h2) ∧ P h2) (knext : ∀ (h2 : AH) (c2 s2 : Nat), c2 ≤ cs + 1 → s2 ≤ ss + 6 → P h2 → VC E room_1 K_L S0 (AL S0) QFl (wld E h2) (LL E b x4) [] c2 s2 1616) : VC E room_1 K_L S0 (AL S0) QFl (wld E h) (LL E b x4) [] cs ss 686 := by
  obtain ⟨r, h1, h2, e1, e2, hp⟩ := hG
  have hSK := C0.1
  have hAA := C0.2.2.2.1
  refine C_aload_n 1 dL_law_686 rfl rfl ?_
  refine C_aload_n 0 dL_law_687 rfl rfl ?_
  refine C_iload 4 dL_law_688 rfl ?_
  refine C_iconst (v := 1) dL_law_690 (by decide) ?_
  refine C_iadd dL_law_691 ?_
  refine C_sld C0 i1 dL_law_692 ?_
  refine C_aload_n 0 dL_law_693 rfl rfl ?_
  refine C_iload 4 dL_law_694 rfl ?_
  refine C_iconst (v := 2) dL_law_696 (by decide) ?_
  refine C_iadd dL_law_697 ?_
  refine C_sld C0 i2 dL_law_698 ?_
  refine C_aload_n 0 dL_law_699 rfl rfl ?_
  refine C_iload 4 dL_law_700 rfl ?_
  refine C_iconst (v := 3) dL_law_702 (by decide) ?_
  refine C_iadd dL_law_703 ?_
  refine C_sld C0 i3 dL_law_704 ?_
  refine C_cvi (d := 1500) (As := [.int (xs (x4 + 1).toNatClampNeg), .int (xs (x4 + 2).toNatClampNeg), .int (xs (x4 + 3).toNatClampNeg)]) (rest := []) hSK hAA (c_X11_worst (d := 1500) (Nat.le_of_ble_eq_true rfl) e1 rfl) (Or.inl ml_L_75) MV_X11_worst rfl rfl rfl rfl (Nat.le_of_ble_eq_true rfl) ⟨(Nat.le_of_ble_eq_true rfl), (Nat.le_of_ble_eq_true rfl)⟩ ⟨by show cs ≤ 601024; omega, by show ss ≤ 7293034; omega⟩ dL_law_705 ?_
  refine C_aload_n 2 dL_law_708 rfl rfl ?_
  refine C_aload_n 0 dL_law_709 rfl rfl ?_
  refine C_iload 4 dL_law_710 rfl ?_
  refine C_iconst (v := 1) dL_law_712 (by decide) ?_
  refine C_iadd dL_law_713 ?_
  refine C_sld C0 i1 dL_law_714 ?_
  refine C_aload_n 0 dL_law_715 rfl rfl ?_
  refine C_iload 4 dL_law_716 rfl ?_
  refine C_iconst (v := 2) dL_law_718 (by decide) ?_
  refine C_iadd dL_law_719 ?_
  refine C_sld C0 i2 dL_law_720 ?_
  refine C_aload_n 0 dL_law_721 rfl rfl ?_
  refine C_iload 4 dL_law_722 rfl ?_
  refine C_iconst (v := 3) dL_law_724 (by decide) ?_
  refine C_iadd dL_law_725 ?_
  refine C_sld C0 i3 dL_law_726 ?_
  refine C_cvi (d := 1500) (As := [.int (xs (x4 + 1).toNatClampNeg), .int (xs (x4 + 2).toNatClampNeg), .int (xs (x4 + 3).toNatClampNeg)]) (rest := [.int r]) hSK hAA (c_X12_worst (d := 1500) (Nat.le_of_ble_eq_true rfl) e2 rfl) (Or.inl ml_L_78) MV_X12_worst rfl rfl rfl rfl (Nat.le_of_ble_eq_true rfl) ⟨(Nat.le_of_ble_eq_true rfl), (Nat.le_of_ble_eq_true rfl)⟩ ⟨by show cs ≤ 601024; omega, by show ss ≤ 7293034; omega⟩ dL_law_727 ?_
  refine C_ic_eq (tgt := 1616) dL_law_730 (by decide) (fun c1 => ?_) (fun c1 => absurd rfl c1)
  exact knext h2 cs ss (Nat.le_succ _) (Nat.le_add_right _ _) hp
def G12 (P : AH → Prop) : Prop := ∀ h, P h → ∀ (a1 : Int32) (a2 : Int32) (a3 : Int32) (a4 : Int32), ∃ r h1 h2, f_X11_host 0 a1 a2 a3 a4 h = some (r, h1) ∧ f_X12_host 56 a1 a2 a3 a4 h1 = some (r, h2) ∧ P h2
set_option maxHeartbeats 4000000 in
set_option maxRecDepth 100000 in
theorem law_c12 {P : AH → Prop} {E : EV} {S0 : State} {b Ln : Nat} {xs : Nat → Int32} {x4 : Int32} {cs ss : Nat} {h : AH} (C0 : LCtx E S0 b Ln xs) (i1 : ix (x4 + 1) Ln = true) (i2 : ix (x4 + 2) Ln = true) (i3 : ix (x4 + 3) Ln = true) (i4 : ix (x4 + 4) Ln = true) (i5 : ix (x4 + 5) Ln = true) (hcs : cs ≤ 10000) (hss : ss ≤ 100000) (hG : ∃ r h1 h2, f_X11_host 0 (xs (x4 + 1).toNatClampNeg) (xs (x4 + 2).toNatClampNeg) (xs (x4 + 3).toNatClampNeg) (xs (x4 + 4).toNatClampNeg) h = some (r, h1) ∧ f_X12_host 56 (xs (x4 + 1).toNatClampNeg) (xs (x4 + 2).toNatClampNeg) (xs (x4 + 3).toNatClampNeg) (xs (x4 + 4).toNatClampNeg) h1 = some (r, h2) ∧ P h2) (knext : ∀ (h2 : AH) (c2 s2 : Nat), c2 ≤ cs + 1 → s2 ≤ ss + 6 → P h2 → VC E room_1 K_L S0 (AL S0) QFl (wld E h2) (LL E b x4) [] c2 s2 1616) : VC E room_1 K_L S0 (AL S0) QFl (wld E h) (LL E b x4) [] cs ss 735 := by
  obtain ⟨r, h1, h2, e1, e2, hp⟩ := hG
  have hSK := C0.1
  have hAA := C0.2.2.2.1
  refine C_aload_n 1 dL_law_735 rfl rfl ?_
  refine C_aload_n 0 dL_law_736 rfl rfl ?_
  refine C_iload 4 dL_law_737 rfl ?_
  refine C_iconst (v := 1) dL_law_739 (by decide) ?_
  refine C_iadd dL_law_740 ?_
  refine C_sld C0 i1 dL_law_741 ?_
  refine C_aload_n 0 dL_law_742 rfl rfl ?_
  refine C_iload 4 dL_law_743 rfl ?_
  refine C_iconst (v := 2) dL_law_745 (by decide) ?_
  refine C_iadd dL_law_746 ?_
  refine C_sld C0 i2 dL_law_747 ?_
  refine C_aload_n 0 dL_law_748 rfl rfl ?_
  refine C_iload 4 dL_law_749 rfl ?_
  refine C_iconst (v := 3) dL_law_751 (by decide) ?_
  refine C_iadd dL_law_752 ?_
  refine C_sld C0 i3 dL_law_753 ?_
  refine C_aload_n 0 dL_law_754 rfl rfl ?_
  refine C_iload 4 dL_law_755 rfl ?_
  refine C_iconst (v := 4) dL_law_757 (by decide) ?_
  refine C_iadd dL_law_758 ?_
  refine C_sld C0 i4 dL_law_759 ?_
  refine C_cvi (d := 1500) (As := [.int (xs (x4 + 1).toNatClampNeg), .int (xs (x4 + 2).toNatClampNeg), .int (xs (x4 + 3).toNatClampNeg), .int (xs (x4 + 4).toNatClampNeg)]) (rest := []) hSK hAA (c_X11_host (d := 1500) (Nat.le_of_ble_eq_true rfl) e1 rfl) (Or.inl ml_L_79) MV_X11_host rfl rfl rfl rfl (Nat.le_of_ble_eq_true rfl) ⟨(Nat.le_of_ble_eq_true rfl), (Nat.le_of_ble_eq_true rfl)⟩ ⟨by show cs ≤ 601024; omega, by show ss ≤ 7293034; omega⟩ dL_law_760 ?_
  refine C_aload_n 2 dL_law_763 rfl rfl ?_
  refine C_aload_n 0 dL_law_764 rfl rfl ?_
  refine C_iload 4 dL_law_765 rfl ?_
  refine C_iconst (v := 1) dL_law_767 (by decide) ?_
  refine C_iadd dL_law_768 ?_
  refine C_sld C0 i1 dL_law_769 ?_
  refine C_aload_n 0 dL_law_770 rfl rfl ?_
  refine C_iload 4 dL_law_771 rfl ?_
  refine C_iconst (v := 2) dL_law_773 (by decide) ?_
  refine C_iadd dL_law_774 ?_
  refine C_sld C0 i2 dL_law_775 ?_
  refine C_aload_n 0 dL_law_776 rfl rfl ?_
  refine C_iload 4 dL_law_777 rfl ?_
  refine C_iconst (v := 3) dL_law_779 (by decide) ?_
  refine C_iadd dL_law_780 ?_
  refine C_sld C0 i3 dL_law_781 ?_
  refine C_aload_n 0 dL_law_782 rfl rfl ?_
  refine C_iload 4 dL_law_783 rfl ?_
  refine C_iconst (v := 4) dL_law_785 (by decide) ?_
  refine C_iadd dL_law_786 ?_
  refine C_sld C0 i4 dL_law_787 ?_
  refine C_cvi (d := 1500) (As := [.int (xs (x4 + 1).toNatClampNeg), .int (xs (x4 + 2).toNatClampNeg), .int (xs (x4 + 3).toNatClampNeg), .int (xs (x4 + 4).toNatClampNeg)]) (rest := [.int r]) hSK hAA (c_X12_host (d := 1500) (Nat.le_of_ble_eq_true rfl) e2 rfl) (Or.inl ml_L_82) MV_X12_host rfl rfl rfl rfl (Nat.le_of_ble_eq_true rfl) ⟨(Nat.le_of_ble_eq_true rfl), (Nat.le_of_ble_eq_true rfl)⟩ ⟨by show cs ≤ 601024; omega, by show ss ≤ 7293034; omega⟩ dL_law_788 ?_
  refine C_ic_eq (tgt := 1616) dL_law_791 (by decide) (fun c1 => ?_) (fun c1 => absurd rfl c1)
  exact knext h2 cs ss (Nat.le_succ _) (Nat.le_add_right _ _) hp
def G13 (P : AH → Prop) : Prop := ∀ h, P h → ∀ (a1 : Int32) (a2 : Int32) (a3 : Int32) (a4 : Int32) (a5 : Int32), ∃ r h1 h2, f_X11_hide 0 a1 a2 a3 a4 a5 h = some (r, h1) ∧ f_X12_hide 56 a1 a2 a3 a4 a5 h1 = some (r, h2) ∧ P h2
set_option maxHeartbeats 4000000 in
set_option maxRecDepth 100000 in
theorem law_c13 {P : AH → Prop} {E : EV} {S0 : State} {b Ln : Nat} {xs : Nat → Int32} {x4 : Int32} {cs ss : Nat} {h : AH} (C0 : LCtx E S0 b Ln xs) (i1 : ix (x4 + 1) Ln = true) (i2 : ix (x4 + 2) Ln = true) (i3 : ix (x4 + 3) Ln = true) (i4 : ix (x4 + 4) Ln = true) (i5 : ix (x4 + 5) Ln = true) (hcs : cs ≤ 10000) (hss : ss ≤ 100000) (hG : ∃ r h1 h2, f_X11_hide 0 (xs (x4 + 1).toNatClampNeg) (xs (x4 + 2).toNatClampNeg) (xs (x4 + 3).toNatClampNeg) (xs (x4 + 4).toNatClampNeg) (xs (x4 + 5).toNatClampNeg) h = some (r, h1) ∧ f_X12_hide 56 (xs (x4 + 1).toNatClampNeg) (xs (x4 + 2).toNatClampNeg) (xs (x4 + 3).toNatClampNeg) (xs (x4 + 4).toNatClampNeg) (xs (x4 + 5).toNatClampNeg) h1 = some (r, h2) ∧ P h2) (knext : ∀ (h2 : AH) (c2 s2 : Nat), c2 ≤ cs + 1 → s2 ≤ ss + 6 → P h2 → VC E room_1 K_L S0 (AL S0) QFl (wld E h2) (LL E b x4) [] c2 s2 1616) : VC E room_1 K_L S0 (AL S0) QFl (wld E h) (LL E b x4) [] cs ss 796 := by
  obtain ⟨r, h1, h2, e1, e2, hp⟩ := hG
  have hSK := C0.1
  have hAA := C0.2.2.2.1
  refine C_aload_n 1 dL_law_796 rfl rfl ?_
  refine C_aload_n 0 dL_law_797 rfl rfl ?_
  refine C_iload 4 dL_law_798 rfl ?_
  refine C_iconst (v := 1) dL_law_800 (by decide) ?_
  refine C_iadd dL_law_801 ?_
  refine C_sld C0 i1 dL_law_802 ?_
  refine C_aload_n 0 dL_law_803 rfl rfl ?_
  refine C_iload 4 dL_law_804 rfl ?_
  refine C_iconst (v := 2) dL_law_806 (by decide) ?_
  refine C_iadd dL_law_807 ?_
  refine C_sld C0 i2 dL_law_808 ?_
  refine C_aload_n 0 dL_law_809 rfl rfl ?_
  refine C_iload 4 dL_law_810 rfl ?_
  refine C_iconst (v := 3) dL_law_812 (by decide) ?_
  refine C_iadd dL_law_813 ?_
  refine C_sld C0 i3 dL_law_814 ?_
  refine C_aload_n 0 dL_law_815 rfl rfl ?_
  refine C_iload 4 dL_law_816 rfl ?_
  refine C_iconst (v := 4) dL_law_818 (by decide) ?_
  refine C_iadd dL_law_819 ?_
  refine C_sld C0 i4 dL_law_820 ?_
  refine C_aload_n 0 dL_law_821 rfl rfl ?_
  refine C_iload 4 dL_law_822 rfl ?_
  refine C_iconst (v := 5) dL_law_824 (by decide) ?_
  refine C_iadd dL_law_825 ?_
  refine C_sld C0 i5 dL_law_826 ?_
  refine C_cvi (d := 1500) (As := [.int (xs (x4 + 1).toNatClampNeg), .int (xs (x4 + 2).toNatClampNeg), .int (xs (x4 + 3).toNatClampNeg), .int (xs (x4 + 4).toNatClampNeg), .int (xs (x4 + 5).toNatClampNeg)]) (rest := []) hSK hAA (c_X11_hide (d := 1500) (Nat.le_of_ble_eq_true rfl) e1 rfl) (Or.inl ml_L_83) MV_X11_hide rfl rfl rfl rfl (Nat.le_of_ble_eq_true rfl) ⟨(Nat.le_of_ble_eq_true rfl), (Nat.le_of_ble_eq_true rfl)⟩ ⟨by show cs ≤ 601024; omega, by show ss ≤ 7293034; omega⟩ dL_law_827 ?_
  refine C_aload_n 2 dL_law_830 rfl rfl ?_
  refine C_aload_n 0 dL_law_831 rfl rfl ?_
  refine C_iload 4 dL_law_832 rfl ?_
  refine C_iconst (v := 1) dL_law_834 (by decide) ?_
  refine C_iadd dL_law_835 ?_
  refine C_sld C0 i1 dL_law_836 ?_
  refine C_aload_n 0 dL_law_837 rfl rfl ?_
  refine C_iload 4 dL_law_838 rfl ?_
  refine C_iconst (v := 2) dL_law_840 (by decide) ?_
  refine C_iadd dL_law_841 ?_
  refine C_sld C0 i2 dL_law_842 ?_
  refine C_aload_n 0 dL_law_843 rfl rfl ?_
  refine C_iload 4 dL_law_844 rfl ?_
  refine C_iconst (v := 3) dL_law_846 (by decide) ?_
  refine C_iadd dL_law_847 ?_
  refine C_sld C0 i3 dL_law_848 ?_
  refine C_aload_n 0 dL_law_849 rfl rfl ?_
  refine C_iload 4 dL_law_850 rfl ?_
  refine C_iconst (v := 4) dL_law_852 (by decide) ?_
  refine C_iadd dL_law_853 ?_
  refine C_sld C0 i4 dL_law_854 ?_
  refine C_aload_n 0 dL_law_855 rfl rfl ?_
  refine C_iload 4 dL_law_856 rfl ?_
  refine C_iconst (v := 5) dL_law_858 (by decide) ?_
  refine C_iadd dL_law_859 ?_
  refine C_sld C0 i5 dL_law_860 ?_
  refine C_cvi (d := 1500) (As := [.int (xs (x4 + 1).toNatClampNeg), .int (xs (x4 + 2).toNatClampNeg), .int (xs (x4 + 3).toNatClampNeg), .int (xs (x4 + 4).toNatClampNeg), .int (xs (x4 + 5).toNatClampNeg)]) (rest := [.int r]) hSK hAA (c_X12_hide (d := 1500) (Nat.le_of_ble_eq_true rfl) e2 rfl) (Or.inl ml_L_86) MV_X12_hide rfl rfl rfl rfl (Nat.le_of_ble_eq_true rfl) ⟨(Nat.le_of_ble_eq_true rfl), (Nat.le_of_ble_eq_true rfl)⟩ ⟨by show cs ≤ 601024; omega, by show ss ≤ 7293034; omega⟩ dL_law_861 ?_
  refine C_ic_eq (tgt := 1616) dL_law_864 (by decide) (fun c1 => ?_) (fun c1 => absurd rfl c1)
  exact knext h2 cs ss (Nat.le_succ _) (Nat.le_add_right _ _) hp
def G14 (P : AH → Prop) : Prop := ∀ h, P h → ∀ (a1 : Int32) (a2 : Int32) (a3 : Int32) (a4 : Int32), ∃ r h1 h2, f_X11_rests 0 a1 a2 a3 a4 h = some (r, h1) ∧ f_X12_rests 56 a1 a2 a3 a4 h1 = some (r, h2) ∧ P h2
set_option maxHeartbeats 4000000 in
set_option maxRecDepth 100000 in
theorem law_c14 {P : AH → Prop} {E : EV} {S0 : State} {b Ln : Nat} {xs : Nat → Int32} {x4 : Int32} {cs ss : Nat} {h : AH} (C0 : LCtx E S0 b Ln xs) (i1 : ix (x4 + 1) Ln = true) (i2 : ix (x4 + 2) Ln = true) (i3 : ix (x4 + 3) Ln = true) (i4 : ix (x4 + 4) Ln = true) (i5 : ix (x4 + 5) Ln = true) (hcs : cs ≤ 10000) (hss : ss ≤ 100000) (hG : ∃ r h1 h2, f_X11_rests 0 (xs (x4 + 1).toNatClampNeg) (xs (x4 + 2).toNatClampNeg) (xs (x4 + 3).toNatClampNeg) (xs (x4 + 4).toNatClampNeg) h = some (r, h1) ∧ f_X12_rests 56 (xs (x4 + 1).toNatClampNeg) (xs (x4 + 2).toNatClampNeg) (xs (x4 + 3).toNatClampNeg) (xs (x4 + 4).toNatClampNeg) h1 = some (r, h2) ∧ P h2) (knext : ∀ (h2 : AH) (c2 s2 : Nat), c2 ≤ cs + 1 → s2 ≤ ss + 6 → P h2 → VC E room_1 K_L S0 (AL S0) QFl (wld E h2) (LL E b x4) [] c2 s2 1616) : VC E room_1 K_L S0 (AL S0) QFl (wld E h) (LL E b x4) [] cs ss 869 := by
  obtain ⟨r, h1, h2, e1, e2, hp⟩ := hG
  have hSK := C0.1
  have hAA := C0.2.2.2.1
  refine C_aload_n 1 dL_law_869 rfl rfl ?_
  refine C_aload_n 0 dL_law_870 rfl rfl ?_
  refine C_iload 4 dL_law_871 rfl ?_
  refine C_iconst (v := 1) dL_law_873 (by decide) ?_
  refine C_iadd dL_law_874 ?_
  refine C_sld C0 i1 dL_law_875 ?_
  refine C_aload_n 0 dL_law_876 rfl rfl ?_
  refine C_iload 4 dL_law_877 rfl ?_
  refine C_iconst (v := 2) dL_law_879 (by decide) ?_
  refine C_iadd dL_law_880 ?_
  refine C_sld C0 i2 dL_law_881 ?_
  refine C_aload_n 0 dL_law_882 rfl rfl ?_
  refine C_iload 4 dL_law_883 rfl ?_
  refine C_iconst (v := 3) dL_law_885 (by decide) ?_
  refine C_iadd dL_law_886 ?_
  refine C_sld C0 i3 dL_law_887 ?_
  refine C_aload_n 0 dL_law_888 rfl rfl ?_
  refine C_iload 4 dL_law_889 rfl ?_
  refine C_iconst (v := 4) dL_law_891 (by decide) ?_
  refine C_iadd dL_law_892 ?_
  refine C_sld C0 i4 dL_law_893 ?_
  refine C_cvi (d := 1500) (As := [.int (xs (x4 + 1).toNatClampNeg), .int (xs (x4 + 2).toNatClampNeg), .int (xs (x4 + 3).toNatClampNeg), .int (xs (x4 + 4).toNatClampNeg)]) (rest := []) hSK hAA (c_X11_rests (d := 1500) (Nat.le_of_ble_eq_true rfl) e1 rfl) (Or.inl ml_L_87) MV_X11_rests rfl rfl rfl rfl (Nat.le_of_ble_eq_true rfl) ⟨(Nat.le_of_ble_eq_true rfl), (Nat.le_of_ble_eq_true rfl)⟩ ⟨by show cs ≤ 601024; omega, by show ss ≤ 7293034; omega⟩ dL_law_894 ?_
  refine C_aload_n 2 dL_law_897 rfl rfl ?_
  refine C_aload_n 0 dL_law_898 rfl rfl ?_
  refine C_iload 4 dL_law_899 rfl ?_
  refine C_iconst (v := 1) dL_law_901 (by decide) ?_
  refine C_iadd dL_law_902 ?_
  refine C_sld C0 i1 dL_law_903 ?_
  refine C_aload_n 0 dL_law_904 rfl rfl ?_
  refine C_iload 4 dL_law_905 rfl ?_
  refine C_iconst (v := 2) dL_law_907 (by decide) ?_
  refine C_iadd dL_law_908 ?_
  refine C_sld C0 i2 dL_law_909 ?_
  refine C_aload_n 0 dL_law_910 rfl rfl ?_
  refine C_iload 4 dL_law_911 rfl ?_
  refine C_iconst (v := 3) dL_law_913 (by decide) ?_
  refine C_iadd dL_law_914 ?_
  refine C_sld C0 i3 dL_law_915 ?_
  refine C_aload_n 0 dL_law_916 rfl rfl ?_
  refine C_iload 4 dL_law_917 rfl ?_
  refine C_iconst (v := 4) dL_law_919 (by decide) ?_
  refine C_iadd dL_law_920 ?_
  refine C_sld C0 i4 dL_law_921 ?_
  refine C_cvi (d := 1500) (As := [.int (xs (x4 + 1).toNatClampNeg), .int (xs (x4 + 2).toNatClampNeg), .int (xs (x4 + 3).toNatClampNeg), .int (xs (x4 + 4).toNatClampNeg)]) (rest := [.int r]) hSK hAA (c_X12_rests (d := 1500) (Nat.le_of_ble_eq_true rfl) e2 rfl) (Or.inl ml_L_90) MV_X12_rests rfl rfl rfl rfl (Nat.le_of_ble_eq_true rfl) ⟨(Nat.le_of_ble_eq_true rfl), (Nat.le_of_ble_eq_true rfl)⟩ ⟨by show cs ≤ 601024; omega, by show ss ≤ 7293034; omega⟩ dL_law_922 ?_
  refine C_ic_eq (tgt := 1616) dL_law_925 (by decide) (fun c1 => ?_) (fun c1 => absurd rfl c1)
  exact knext h2 cs ss (Nat.le_succ _) (Nat.le_add_right _ _) hp
def G15 (P : AH → Prop) : Prop := ∀ h, P h → ∀ (a1 : Int32) (a2 : Int32), ∃ r h1 h2, f_X11_quiet 0 a1 a2 h = some (r, h1) ∧ f_X12_quiet 56 a1 a2 h1 = some (r, h2) ∧ P h2
set_option maxHeartbeats 4000000 in
set_option maxRecDepth 100000 in
theorem law_c15 {P : AH → Prop} {E : EV} {S0 : State} {b Ln : Nat} {xs : Nat → Int32} {x4 : Int32} {cs ss : Nat} {h : AH} (C0 : LCtx E S0 b Ln xs) (i1 : ix (x4 + 1) Ln = true) (i2 : ix (x4 + 2) Ln = true) (i3 : ix (x4 + 3) Ln = true) (i4 : ix (x4 + 4) Ln = true) (i5 : ix (x4 + 5) Ln = true) (hcs : cs ≤ 10000) (hss : ss ≤ 100000) (hG : ∃ r h1 h2, f_X11_quiet 0 (xs (x4 + 1).toNatClampNeg) (xs (x4 + 2).toNatClampNeg) h = some (r, h1) ∧ f_X12_quiet 56 (xs (x4 + 1).toNatClampNeg) (xs (x4 + 2).toNatClampNeg) h1 = some (r, h2) ∧ P h2) (knext : ∀ (h2 : AH) (c2 s2 : Nat), c2 ≤ cs + 1 → s2 ≤ ss + 6 → P h2 → VC E room_1 K_L S0 (AL S0) QFl (wld E h2) (LL E b x4) [] c2 s2 1616) : VC E room_1 K_L S0 (AL S0) QFl (wld E h) (LL E b x4) [] cs ss 930 := by
  obtain ⟨r, h1, h2, e1, e2, hp⟩ := hG
  have hSK := C0.1
  have hAA := C0.2.2.2.1
  refine C_aload_n 1 dL_law_930 rfl rfl ?_
  refine C_aload_n 0 dL_law_931 rfl rfl ?_
  refine C_iload 4 dL_law_932 rfl ?_
  refine C_iconst (v := 1) dL_law_934 (by decide) ?_
  refine C_iadd dL_law_935 ?_
  refine C_sld C0 i1 dL_law_936 ?_
  refine C_aload_n 0 dL_law_937 rfl rfl ?_
  refine C_iload 4 dL_law_938 rfl ?_
  refine C_iconst (v := 2) dL_law_940 (by decide) ?_
  refine C_iadd dL_law_941 ?_
  refine C_sld C0 i2 dL_law_942 ?_
  refine C_cvi (d := 1500) (As := [.int (xs (x4 + 1).toNatClampNeg), .int (xs (x4 + 2).toNatClampNeg)]) (rest := []) hSK hAA (c_X11_quiet (d := 1500) (Nat.le_of_ble_eq_true rfl) e1 rfl) (Or.inl ml_L_91) MV_X11_quiet rfl rfl rfl rfl (Nat.le_of_ble_eq_true rfl) ⟨(Nat.le_of_ble_eq_true rfl), (Nat.le_of_ble_eq_true rfl)⟩ ⟨by show cs ≤ 601024; omega, by show ss ≤ 7293034; omega⟩ dL_law_943 ?_
  refine C_aload_n 2 dL_law_946 rfl rfl ?_
  refine C_aload_n 0 dL_law_947 rfl rfl ?_
  refine C_iload 4 dL_law_948 rfl ?_
  refine C_iconst (v := 1) dL_law_950 (by decide) ?_
  refine C_iadd dL_law_951 ?_
  refine C_sld C0 i1 dL_law_952 ?_
  refine C_aload_n 0 dL_law_953 rfl rfl ?_
  refine C_iload 4 dL_law_954 rfl ?_
  refine C_iconst (v := 2) dL_law_956 (by decide) ?_
  refine C_iadd dL_law_957 ?_
  refine C_sld C0 i2 dL_law_958 ?_
  refine C_cvi (d := 1500) (As := [.int (xs (x4 + 1).toNatClampNeg), .int (xs (x4 + 2).toNatClampNeg)]) (rest := [.int r]) hSK hAA (c_X12_quiet (d := 1500) (Nat.le_of_ble_eq_true rfl) e2 rfl) (Or.inl ml_L_94) MV_X12_quiet rfl rfl rfl rfl (Nat.le_of_ble_eq_true rfl) ⟨(Nat.le_of_ble_eq_true rfl), (Nat.le_of_ble_eq_true rfl)⟩ ⟨by show cs ≤ 601024; omega, by show ss ≤ 7293034; omega⟩ dL_law_959 ?_
  refine C_ic_eq (tgt := 1616) dL_law_962 (by decide) (fun c1 => ?_) (fun c1 => absurd rfl c1)
  exact knext h2 cs ss (Nat.le_succ _) (Nat.le_add_right _ _) hp
def G16 (P : AH → Prop) : Prop := ∀ h, P h → ∀ (a1 : Int32) (a2 : Int64), ∃ r h1 h2, f_X11_year 0 a1 a2 h = some (r, h1) ∧ f_X12_year 56 a1 a2 h1 = some (r, h2) ∧ P h2
set_option maxHeartbeats 4000000 in
set_option maxRecDepth 100000 in
theorem law_c16 {P : AH → Prop} {E : EV} {S0 : State} {b Ln : Nat} {xs : Nat → Int32} {x4 : Int32} {cs ss : Nat} {h : AH} (C0 : LCtx E S0 b Ln xs) (i1 : ix (x4 + 1) Ln = true) (i2 : ix (x4 + 2) Ln = true) (i3 : ix (x4 + 3) Ln = true) (i4 : ix (x4 + 4) Ln = true) (i5 : ix (x4 + 5) Ln = true) (hcs : cs ≤ 10000) (hss : ss ≤ 100000) (hG : ∃ r h1 h2, f_X11_year 0 (xs (x4 + 1).toNatClampNeg) (((xs (x4 + 2).toNatClampNeg).toInt64 <<< ((32 : Int32).toInt64 &&& 63)) ||| ((xs (x4 + 3).toNatClampNeg).toInt64 &&& 4294967295)) h = some (r, h1) ∧ f_X12_year 56 (xs (x4 + 1).toNatClampNeg) (((xs (x4 + 2).toNatClampNeg).toInt64 <<< ((32 : Int32).toInt64 &&& 63)) ||| ((xs (x4 + 3).toNatClampNeg).toInt64 &&& 4294967295)) h1 = some (r, h2) ∧ P h2) (knext : ∀ (h2 : AH) (c2 s2 : Nat), c2 ≤ cs + 1 → s2 ≤ ss + 6 → P h2 → VC E room_1 K_L S0 (AL S0) QFl (wld E h2) (LL E b x4) [] c2 s2 1616) : VC E room_1 K_L S0 (AL S0) QFl (wld E h) (LL E b x4) [] cs ss 967 := by
  obtain ⟨r, h1, h2, e1, e2, hp⟩ := hG
  have hSK := C0.1
  have hAA := C0.2.2.2.1
  refine C_aload_n 1 dL_law_967 rfl rfl ?_
  refine C_aload_n 0 dL_law_968 rfl rfl ?_
  refine C_iload 4 dL_law_969 rfl ?_
  refine C_iconst (v := 1) dL_law_971 (by decide) ?_
  refine C_iadd dL_law_972 ?_
  refine C_sld C0 i1 dL_law_973 ?_
  refine C_aload_n 0 dL_law_974 rfl rfl ?_
  refine C_iload 4 dL_law_975 rfl ?_
  refine C_iconst (v := 2) dL_law_977 (by decide) ?_
  refine C_iadd dL_law_978 ?_
  refine C_sld C0 i2 dL_law_979 ?_
  refine C_i2l dL_law_980 ?_
  refine C_bipush (v := 32) dL_law_981 (by decide) ?_
  refine C_lshl dL_law_983 ?_
  refine C_aload_n 0 dL_law_984 rfl rfl ?_
  refine C_iload 4 dL_law_985 rfl ?_
  refine C_iconst (v := 3) dL_law_987 (by decide) ?_
  refine C_iadd dL_law_988 ?_
  refine C_sld C0 i3 dL_law_989 ?_
  refine C_i2l dL_law_990 ?_
  refine C_ldc2 (v := 4294967295) rfl kl_L_95 dL_law_991 ?_
  refine C_land dL_law_994 ?_
  refine C_lor dL_law_995 ?_
  refine C_cvi (d := 1500) (As := [.int (xs (x4 + 1).toNatClampNeg), .long (((xs (x4 + 2).toNatClampNeg).toInt64 <<< ((32 : Int32).toInt64 &&& 63)) ||| ((xs (x4 + 3).toNatClampNeg).toInt64 &&& 4294967295))]) (rest := []) hSK hAA (c_X11_year (d := 1500) (Nat.le_of_ble_eq_true rfl) e1 rfl) (Or.inl ml_L_97) MV_X11_year rfl rfl rfl rfl (Nat.le_of_ble_eq_true rfl) ⟨(Nat.le_of_ble_eq_true rfl), (Nat.le_of_ble_eq_true rfl)⟩ ⟨by show cs ≤ 601024; omega, by show ss ≤ 7293034; omega⟩ dL_law_996 ?_
  refine C_aload_n 2 dL_law_999 rfl rfl ?_
  refine C_aload_n 0 dL_law_1000 rfl rfl ?_
  refine C_iload 4 dL_law_1001 rfl ?_
  refine C_iconst (v := 1) dL_law_1003 (by decide) ?_
  refine C_iadd dL_law_1004 ?_
  refine C_sld C0 i1 dL_law_1005 ?_
  refine C_aload_n 0 dL_law_1006 rfl rfl ?_
  refine C_iload 4 dL_law_1007 rfl ?_
  refine C_iconst (v := 2) dL_law_1009 (by decide) ?_
  refine C_iadd dL_law_1010 ?_
  refine C_sld C0 i2 dL_law_1011 ?_
  refine C_i2l dL_law_1012 ?_
  refine C_bipush (v := 32) dL_law_1013 (by decide) ?_
  refine C_lshl dL_law_1015 ?_
  refine C_aload_n 0 dL_law_1016 rfl rfl ?_
  refine C_iload 4 dL_law_1017 rfl ?_
  refine C_iconst (v := 3) dL_law_1019 (by decide) ?_
  refine C_iadd dL_law_1020 ?_
  refine C_sld C0 i3 dL_law_1021 ?_
  refine C_i2l dL_law_1022 ?_
  refine C_ldc2 (v := 4294967295) rfl kl_L_95 dL_law_1023 ?_
  refine C_land dL_law_1026 ?_
  refine C_lor dL_law_1027 ?_
  refine C_cvi (d := 1500) (As := [.int (xs (x4 + 1).toNatClampNeg), .long (((xs (x4 + 2).toNatClampNeg).toInt64 <<< ((32 : Int32).toInt64 &&& 63)) ||| ((xs (x4 + 3).toNatClampNeg).toInt64 &&& 4294967295))]) (rest := [.int r]) hSK hAA (c_X12_year (d := 1500) (Nat.le_of_ble_eq_true rfl) e2 rfl) (Or.inl ml_L_101) MV_X12_year rfl rfl rfl rfl (Nat.le_of_ble_eq_true rfl) ⟨(Nat.le_of_ble_eq_true rfl), (Nat.le_of_ble_eq_true rfl)⟩ ⟨by show cs ≤ 601024; omega, by show ss ≤ 7293034; omega⟩ dL_law_1028 ?_
  refine C_ic_eq (tgt := 1616) dL_law_1031 (by decide) (fun c1 => ?_) (fun c1 => absurd rfl c1)
  exact knext h2 cs ss (Nat.le_succ _) (Nat.le_add_right _ _) hp
def G17 (P : AH → Prop) : Prop := ∀ h, P h → ∀ (a1 : Int32) (a2 : Int32) (a3 : Int32), ∃ r h1 h2, f_X11_likely 0 a1 a2 a3 h = some (r, h1) ∧ f_X12_likely 56 a1 a2 a3 h1 = some (r, h2) ∧ P h2
set_option maxHeartbeats 4000000 in
set_option maxRecDepth 100000 in
theorem law_c17 {P : AH → Prop} {E : EV} {S0 : State} {b Ln : Nat} {xs : Nat → Int32} {x4 : Int32} {cs ss : Nat} {h : AH} (C0 : LCtx E S0 b Ln xs) (i1 : ix (x4 + 1) Ln = true) (i2 : ix (x4 + 2) Ln = true) (i3 : ix (x4 + 3) Ln = true) (i4 : ix (x4 + 4) Ln = true) (i5 : ix (x4 + 5) Ln = true) (hcs : cs ≤ 10000) (hss : ss ≤ 100000) (hG : ∃ r h1 h2, f_X11_likely 0 (xs (x4 + 1).toNatClampNeg) (xs (x4 + 2).toNatClampNeg) (xs (x4 + 3).toNatClampNeg) h = some (r, h1) ∧ f_X12_likely 56 (xs (x4 + 1).toNatClampNeg) (xs (x4 + 2).toNatClampNeg) (xs (x4 + 3).toNatClampNeg) h1 = some (r, h2) ∧ P h2) (knext : ∀ (h2 : AH) (c2 s2 : Nat), c2 ≤ cs + 1 → s2 ≤ ss + 6 → P h2 → VC E room_1 K_L S0 (AL S0) QFl (wld E h2) (LL E b x4) [] c2 s2 1616) : VC E room_1 K_L S0 (AL S0) QFl (wld E h) (LL E b x4) [] cs ss 1036 := by
  obtain ⟨r, h1, h2, e1, e2, hp⟩ := hG
  have hSK := C0.1
  have hAA := C0.2.2.2.1
  refine C_aload_n 1 dL_law_1036 rfl rfl ?_
  refine C_aload_n 0 dL_law_1037 rfl rfl ?_
  refine C_iload 4 dL_law_1038 rfl ?_
  refine C_iconst (v := 1) dL_law_1040 (by decide) ?_
  refine C_iadd dL_law_1041 ?_
  refine C_sld C0 i1 dL_law_1042 ?_
  refine C_aload_n 0 dL_law_1043 rfl rfl ?_
  refine C_iload 4 dL_law_1044 rfl ?_
  refine C_iconst (v := 2) dL_law_1046 (by decide) ?_
  refine C_iadd dL_law_1047 ?_
  refine C_sld C0 i2 dL_law_1048 ?_
  refine C_aload_n 0 dL_law_1049 rfl rfl ?_
  refine C_iload 4 dL_law_1050 rfl ?_
  refine C_iconst (v := 3) dL_law_1052 (by decide) ?_
  refine C_iadd dL_law_1053 ?_
  refine C_sld C0 i3 dL_law_1054 ?_
  refine C_cvi (d := 1500) (As := [.int (xs (x4 + 1).toNatClampNeg), .int (xs (x4 + 2).toNatClampNeg), .int (xs (x4 + 3).toNatClampNeg)]) (rest := []) hSK hAA (c_X11_likely (d := 1500) (Nat.le_of_ble_eq_true rfl) e1 rfl) (Or.inl ml_L_102) MV_X11_likely rfl rfl rfl rfl (Nat.le_of_ble_eq_true rfl) ⟨(Nat.le_of_ble_eq_true rfl), (Nat.le_of_ble_eq_true rfl)⟩ ⟨by show cs ≤ 601024; omega, by show ss ≤ 7293034; omega⟩ dL_law_1055 ?_
  refine C_aload_n 2 dL_law_1058 rfl rfl ?_
  refine C_aload_n 0 dL_law_1059 rfl rfl ?_
  refine C_iload 4 dL_law_1060 rfl ?_
  refine C_iconst (v := 1) dL_law_1062 (by decide) ?_
  refine C_iadd dL_law_1063 ?_
  refine C_sld C0 i1 dL_law_1064 ?_
  refine C_aload_n 0 dL_law_1065 rfl rfl ?_
  refine C_iload 4 dL_law_1066 rfl ?_
  refine C_iconst (v := 2) dL_law_1068 (by decide) ?_
  refine C_iadd dL_law_1069 ?_
  refine C_sld C0 i2 dL_law_1070 ?_
  refine C_aload_n 0 dL_law_1071 rfl rfl ?_
  refine C_iload 4 dL_law_1072 rfl ?_
  refine C_iconst (v := 3) dL_law_1074 (by decide) ?_
  refine C_iadd dL_law_1075 ?_
  refine C_sld C0 i3 dL_law_1076 ?_
  refine C_cvi (d := 1500) (As := [.int (xs (x4 + 1).toNatClampNeg), .int (xs (x4 + 2).toNatClampNeg), .int (xs (x4 + 3).toNatClampNeg)]) (rest := [.int r]) hSK hAA (c_X12_likely (d := 1500) (Nat.le_of_ble_eq_true rfl) e2 rfl) (Or.inl ml_L_105) MV_X12_likely rfl rfl rfl rfl (Nat.le_of_ble_eq_true rfl) ⟨(Nat.le_of_ble_eq_true rfl), (Nat.le_of_ble_eq_true rfl)⟩ ⟨by show cs ≤ 601024; omega, by show ss ≤ 7293034; omega⟩ dL_law_1077 ?_
  refine C_ic_eq (tgt := 1616) dL_law_1080 (by decide) (fun c1 => ?_) (fun c1 => absurd rfl c1)
  exact knext h2 cs ss (Nat.le_succ _) (Nat.le_add_right _ _) hp
def G18 (P : AH → Prop) : Prop := ∀ h, P h → ∀ (a1 : Int32) (a2 : Int32) (a3 : Int32) (a4 : Int32) (a5 : Int32), ∃ r h1 h2, f_X11_cobbler 0 a1 a2 a3 a4 a5 h = some (r, h1) ∧ f_X12_cobbler 56 a1 a2 a3 a4 a5 h1 = some (r, h2) ∧ P h2
set_option maxHeartbeats 4000000 in
set_option maxRecDepth 100000 in
theorem law_c18 {P : AH → Prop} {E : EV} {S0 : State} {b Ln : Nat} {xs : Nat → Int32} {x4 : Int32} {cs ss : Nat} {h : AH} (C0 : LCtx E S0 b Ln xs) (i1 : ix (x4 + 1) Ln = true) (i2 : ix (x4 + 2) Ln = true) (i3 : ix (x4 + 3) Ln = true) (i4 : ix (x4 + 4) Ln = true) (i5 : ix (x4 + 5) Ln = true) (hcs : cs ≤ 10000) (hss : ss ≤ 100000) (hG : ∃ r h1 h2, f_X11_cobbler 0 (xs (x4 + 1).toNatClampNeg) (xs (x4 + 2).toNatClampNeg) (xs (x4 + 3).toNatClampNeg) (xs (x4 + 4).toNatClampNeg) (xs (x4 + 5).toNatClampNeg) h = some (r, h1) ∧ f_X12_cobbler 56 (xs (x4 + 1).toNatClampNeg) (xs (x4 + 2).toNatClampNeg) (xs (x4 + 3).toNatClampNeg) (xs (x4 + 4).toNatClampNeg) (xs (x4 + 5).toNatClampNeg) h1 = some (r, h2) ∧ P h2) (knext : ∀ (h2 : AH) (c2 s2 : Nat), c2 ≤ cs + 1 → s2 ≤ ss + 6 → P h2 → VC E room_1 K_L S0 (AL S0) QFl (wld E h2) (LL E b x4) [] c2 s2 1616) : VC E room_1 K_L S0 (AL S0) QFl (wld E h) (LL E b x4) [] cs ss 1085 := by
  obtain ⟨r, h1, h2, e1, e2, hp⟩ := hG
  have hSK := C0.1
  have hAA := C0.2.2.2.1
  refine C_aload_n 1 dL_law_1085 rfl rfl ?_
  refine C_aload_n 0 dL_law_1086 rfl rfl ?_
  refine C_iload 4 dL_law_1087 rfl ?_
  refine C_iconst (v := 1) dL_law_1089 (by decide) ?_
  refine C_iadd dL_law_1090 ?_
  refine C_sld C0 i1 dL_law_1091 ?_
  refine C_aload_n 0 dL_law_1092 rfl rfl ?_
  refine C_iload 4 dL_law_1093 rfl ?_
  refine C_iconst (v := 2) dL_law_1095 (by decide) ?_
  refine C_iadd dL_law_1096 ?_
  refine C_sld C0 i2 dL_law_1097 ?_
  refine C_aload_n 0 dL_law_1098 rfl rfl ?_
  refine C_iload 4 dL_law_1099 rfl ?_
  refine C_iconst (v := 3) dL_law_1101 (by decide) ?_
  refine C_iadd dL_law_1102 ?_
  refine C_sld C0 i3 dL_law_1103 ?_
  refine C_aload_n 0 dL_law_1104 rfl rfl ?_
  refine C_iload 4 dL_law_1105 rfl ?_
  refine C_iconst (v := 4) dL_law_1107 (by decide) ?_
  refine C_iadd dL_law_1108 ?_
  refine C_sld C0 i4 dL_law_1109 ?_
  refine C_aload_n 0 dL_law_1110 rfl rfl ?_
  refine C_iload 4 dL_law_1111 rfl ?_
  refine C_iconst (v := 5) dL_law_1113 (by decide) ?_
  refine C_iadd dL_law_1114 ?_
  refine C_sld C0 i5 dL_law_1115 ?_
  refine C_cvi (d := 1500) (As := [.int (xs (x4 + 1).toNatClampNeg), .int (xs (x4 + 2).toNatClampNeg), .int (xs (x4 + 3).toNatClampNeg), .int (xs (x4 + 4).toNatClampNeg), .int (xs (x4 + 5).toNatClampNeg)]) (rest := []) hSK hAA (c_X11_cobbler (d := 1500) (Nat.le_of_ble_eq_true rfl) e1 rfl) (Or.inl ml_L_106) MV_X11_cobbler rfl rfl rfl rfl (Nat.le_of_ble_eq_true rfl) ⟨(Nat.le_of_ble_eq_true rfl), (Nat.le_of_ble_eq_true rfl)⟩ ⟨by show cs ≤ 601024; omega, by show ss ≤ 7293034; omega⟩ dL_law_1116 ?_
  refine C_aload_n 2 dL_law_1119 rfl rfl ?_
  refine C_aload_n 0 dL_law_1120 rfl rfl ?_
  refine C_iload 4 dL_law_1121 rfl ?_
  refine C_iconst (v := 1) dL_law_1123 (by decide) ?_
  refine C_iadd dL_law_1124 ?_
  refine C_sld C0 i1 dL_law_1125 ?_
  refine C_aload_n 0 dL_law_1126 rfl rfl ?_
  refine C_iload 4 dL_law_1127 rfl ?_
  refine C_iconst (v := 2) dL_law_1129 (by decide) ?_
  refine C_iadd dL_law_1130 ?_
  refine C_sld C0 i2 dL_law_1131 ?_
  refine C_aload_n 0 dL_law_1132 rfl rfl ?_
  refine C_iload 4 dL_law_1133 rfl ?_
  refine C_iconst (v := 3) dL_law_1135 (by decide) ?_
  refine C_iadd dL_law_1136 ?_
  refine C_sld C0 i3 dL_law_1137 ?_
  refine C_aload_n 0 dL_law_1138 rfl rfl ?_
  refine C_iload 4 dL_law_1139 rfl ?_
  refine C_iconst (v := 4) dL_law_1141 (by decide) ?_
  refine C_iadd dL_law_1142 ?_
  refine C_sld C0 i4 dL_law_1143 ?_
  refine C_aload_n 0 dL_law_1144 rfl rfl ?_
  refine C_iload 4 dL_law_1145 rfl ?_
  refine C_iconst (v := 5) dL_law_1147 (by decide) ?_
  refine C_iadd dL_law_1148 ?_
  refine C_sld C0 i5 dL_law_1149 ?_
  refine C_cvi (d := 1500) (As := [.int (xs (x4 + 1).toNatClampNeg), .int (xs (x4 + 2).toNatClampNeg), .int (xs (x4 + 3).toNatClampNeg), .int (xs (x4 + 4).toNatClampNeg), .int (xs (x4 + 5).toNatClampNeg)]) (rest := [.int r]) hSK hAA (c_X12_cobbler (d := 1500) (Nat.le_of_ble_eq_true rfl) e2 rfl) (Or.inl ml_L_109) MV_X12_cobbler rfl rfl rfl rfl (Nat.le_of_ble_eq_true rfl) ⟨(Nat.le_of_ble_eq_true rfl), (Nat.le_of_ble_eq_true rfl)⟩ ⟨by show cs ≤ 601024; omega, by show ss ≤ 7293034; omega⟩ dL_law_1150 ?_
  refine C_ic_eq (tgt := 1616) dL_law_1153 (by decide) (fun c1 => ?_) (fun c1 => absurd rfl c1)
  exact knext h2 cs ss (Nat.le_succ _) (Nat.le_add_right _ _) hp
def G19 (P : AH → Prop) : Prop := ∀ h, P h → ∀ (a1 : Int32) (a2 : Int32) (a3 : Int32), ∃ r h1 h2, f_X11_odd 0 a1 a2 a3 h = some (r, h1) ∧ f_X12_odd 56 a1 a2 a3 h1 = some (r, h2) ∧ P h2
set_option maxHeartbeats 4000000 in
set_option maxRecDepth 100000 in
theorem law_c19 {P : AH → Prop} {E : EV} {S0 : State} {b Ln : Nat} {xs : Nat → Int32} {x4 : Int32} {cs ss : Nat} {h : AH} (C0 : LCtx E S0 b Ln xs) (i1 : ix (x4 + 1) Ln = true) (i2 : ix (x4 + 2) Ln = true) (i3 : ix (x4 + 3) Ln = true) (i4 : ix (x4 + 4) Ln = true) (i5 : ix (x4 + 5) Ln = true) (hcs : cs ≤ 10000) (hss : ss ≤ 100000) (hG : ∃ r h1 h2, f_X11_odd 0 (xs (x4 + 1).toNatClampNeg) (xs (x4 + 2).toNatClampNeg) (xs (x4 + 3).toNatClampNeg) h = some (r, h1) ∧ f_X12_odd 56 (xs (x4 + 1).toNatClampNeg) (xs (x4 + 2).toNatClampNeg) (xs (x4 + 3).toNatClampNeg) h1 = some (r, h2) ∧ P h2) (knext : ∀ (h2 : AH) (c2 s2 : Nat), c2 ≤ cs + 1 → s2 ≤ ss + 6 → P h2 → VC E room_1 K_L S0 (AL S0) QFl (wld E h2) (LL E b x4) [] c2 s2 1616) : VC E room_1 K_L S0 (AL S0) QFl (wld E h) (LL E b x4) [] cs ss 1158 := by
  obtain ⟨r, h1, h2, e1, e2, hp⟩ := hG
  have hSK := C0.1
  have hAA := C0.2.2.2.1
  refine C_aload_n 1 dL_law_1158 rfl rfl ?_
  refine C_aload_n 0 dL_law_1159 rfl rfl ?_
  refine C_iload 4 dL_law_1160 rfl ?_
  refine C_iconst (v := 1) dL_law_1162 (by decide) ?_
  refine C_iadd dL_law_1163 ?_
  refine C_sld C0 i1 dL_law_1164 ?_
  refine C_aload_n 0 dL_law_1165 rfl rfl ?_
  refine C_iload 4 dL_law_1166 rfl ?_
  refine C_iconst (v := 2) dL_law_1168 (by decide) ?_
  refine C_iadd dL_law_1169 ?_
  refine C_sld C0 i2 dL_law_1170 ?_
  refine C_aload_n 0 dL_law_1171 rfl rfl ?_
  refine C_iload 4 dL_law_1172 rfl ?_
  refine C_iconst (v := 3) dL_law_1174 (by decide) ?_
  refine C_iadd dL_law_1175 ?_
  refine C_sld C0 i3 dL_law_1176 ?_
  refine C_cvi (d := 1500) (As := [.int (xs (x4 + 1).toNatClampNeg), .int (xs (x4 + 2).toNatClampNeg), .int (xs (x4 + 3).toNatClampNeg)]) (rest := []) hSK hAA (c_X11_odd (d := 1500) (Nat.le_of_ble_eq_true rfl) e1 rfl) (Or.inl ml_L_110) MV_X11_odd rfl rfl rfl rfl (Nat.le_of_ble_eq_true rfl) ⟨(Nat.le_of_ble_eq_true rfl), (Nat.le_of_ble_eq_true rfl)⟩ ⟨by show cs ≤ 601024; omega, by show ss ≤ 7293034; omega⟩ dL_law_1177 ?_
  refine C_aload_n 2 dL_law_1180 rfl rfl ?_
  refine C_aload_n 0 dL_law_1181 rfl rfl ?_
  refine C_iload 4 dL_law_1182 rfl ?_
  refine C_iconst (v := 1) dL_law_1184 (by decide) ?_
  refine C_iadd dL_law_1185 ?_
  refine C_sld C0 i1 dL_law_1186 ?_
  refine C_aload_n 0 dL_law_1187 rfl rfl ?_
  refine C_iload 4 dL_law_1188 rfl ?_
  refine C_iconst (v := 2) dL_law_1190 (by decide) ?_
  refine C_iadd dL_law_1191 ?_
  refine C_sld C0 i2 dL_law_1192 ?_
  refine C_aload_n 0 dL_law_1193 rfl rfl ?_
  refine C_iload 4 dL_law_1194 rfl ?_
  refine C_iconst (v := 3) dL_law_1196 (by decide) ?_
  refine C_iadd dL_law_1197 ?_
  refine C_sld C0 i3 dL_law_1198 ?_
  refine C_cvi (d := 1500) (As := [.int (xs (x4 + 1).toNatClampNeg), .int (xs (x4 + 2).toNatClampNeg), .int (xs (x4 + 3).toNatClampNeg)]) (rest := [.int r]) hSK hAA (c_X12_odd (d := 1500) (Nat.le_of_ble_eq_true rfl) e2 rfl) (Or.inl ml_L_113) MV_X12_odd rfl rfl rfl rfl (Nat.le_of_ble_eq_true rfl) ⟨(Nat.le_of_ble_eq_true rfl), (Nat.le_of_ble_eq_true rfl)⟩ ⟨by show cs ≤ 601024; omega, by show ss ≤ 7293034; omega⟩ dL_law_1199 ?_
  refine C_ic_eq (tgt := 1616) dL_law_1202 (by decide) (fun c1 => ?_) (fun c1 => absurd rfl c1)
  exact knext h2 cs ss (Nat.le_succ _) (Nat.le_add_right _ _) hp
def G20 (P : AH → Prop) : Prop := ∀ h, P h → ∀ (a1 : Int32) (a2 : Int32) (a3 : Int32), ∃ r h1 h2, f_X11_sight 0 a1 a2 a3 h = some (r, h1) ∧ f_X12_sight 56 a1 a2 a3 h1 = some (r, h2) ∧ P h2
set_option maxHeartbeats 4000000 in
set_option maxRecDepth 100000 in
theorem law_c20 {P : AH → Prop} {E : EV} {S0 : State} {b Ln : Nat} {xs : Nat → Int32} {x4 : Int32} {cs ss : Nat} {h : AH} (C0 : LCtx E S0 b Ln xs) (i1 : ix (x4 + 1) Ln = true) (i2 : ix (x4 + 2) Ln = true) (i3 : ix (x4 + 3) Ln = true) (i4 : ix (x4 + 4) Ln = true) (i5 : ix (x4 + 5) Ln = true) (hcs : cs ≤ 10000) (hss : ss ≤ 100000) (hG : ∃ r h1 h2, f_X11_sight 0 (xs (x4 + 1).toNatClampNeg) (xs (x4 + 2).toNatClampNeg) (xs (x4 + 3).toNatClampNeg) h = some (r, h1) ∧ f_X12_sight 56 (xs (x4 + 1).toNatClampNeg) (xs (x4 + 2).toNatClampNeg) (xs (x4 + 3).toNatClampNeg) h1 = some (r, h2) ∧ P h2) (knext : ∀ (h2 : AH) (c2 s2 : Nat), c2 ≤ cs + 1 → s2 ≤ ss + 6 → P h2 → VC E room_1 K_L S0 (AL S0) QFl (wld E h2) (LL E b x4) [] c2 s2 1616) : VC E room_1 K_L S0 (AL S0) QFl (wld E h) (LL E b x4) [] cs ss 1207 := by
  obtain ⟨r, h1, h2, e1, e2, hp⟩ := hG
  have hSK := C0.1
  have hAA := C0.2.2.2.1
  refine C_aload_n 1 dL_law_1207 rfl rfl ?_
  refine C_aload_n 0 dL_law_1208 rfl rfl ?_
  refine C_iload 4 dL_law_1209 rfl ?_
  refine C_iconst (v := 1) dL_law_1211 (by decide) ?_
  refine C_iadd dL_law_1212 ?_
  refine C_sld C0 i1 dL_law_1213 ?_
  refine C_aload_n 0 dL_law_1214 rfl rfl ?_
  refine C_iload 4 dL_law_1215 rfl ?_
  refine C_iconst (v := 2) dL_law_1217 (by decide) ?_
  refine C_iadd dL_law_1218 ?_
  refine C_sld C0 i2 dL_law_1219 ?_
  refine C_aload_n 0 dL_law_1220 rfl rfl ?_
  refine C_iload 4 dL_law_1221 rfl ?_
  refine C_iconst (v := 3) dL_law_1223 (by decide) ?_
  refine C_iadd dL_law_1224 ?_
  refine C_sld C0 i3 dL_law_1225 ?_
  refine C_cvi (d := 1500) (As := [.int (xs (x4 + 1).toNatClampNeg), .int (xs (x4 + 2).toNatClampNeg), .int (xs (x4 + 3).toNatClampNeg)]) (rest := []) hSK hAA (c_X11_sight (d := 1500) (Nat.le_of_ble_eq_true rfl) e1 rfl) (Or.inl ml_L_114) MV_X11_sight rfl rfl rfl rfl (Nat.le_of_ble_eq_true rfl) ⟨(Nat.le_of_ble_eq_true rfl), (Nat.le_of_ble_eq_true rfl)⟩ ⟨by show cs ≤ 601024; omega, by show ss ≤ 7293034; omega⟩ dL_law_1226 ?_
  refine C_aload_n 2 dL_law_1229 rfl rfl ?_
  refine C_aload_n 0 dL_law_1230 rfl rfl ?_
  refine C_iload 4 dL_law_1231 rfl ?_
  refine C_iconst (v := 1) dL_law_1233 (by decide) ?_
  refine C_iadd dL_law_1234 ?_
  refine C_sld C0 i1 dL_law_1235 ?_
  refine C_aload_n 0 dL_law_1236 rfl rfl ?_
  refine C_iload 4 dL_law_1237 rfl ?_
  refine C_iconst (v := 2) dL_law_1239 (by decide) ?_
  refine C_iadd dL_law_1240 ?_
  refine C_sld C0 i2 dL_law_1241 ?_
  refine C_aload_n 0 dL_law_1242 rfl rfl ?_
  refine C_iload 4 dL_law_1243 rfl ?_
  refine C_iconst (v := 3) dL_law_1245 (by decide) ?_
  refine C_iadd dL_law_1246 ?_
  refine C_sld C0 i3 dL_law_1247 ?_
  refine C_cvi (d := 1500) (As := [.int (xs (x4 + 1).toNatClampNeg), .int (xs (x4 + 2).toNatClampNeg), .int (xs (x4 + 3).toNatClampNeg)]) (rest := [.int r]) hSK hAA (c_X12_sight (d := 1500) (Nat.le_of_ble_eq_true rfl) e2 rfl) (Or.inl ml_L_117) MV_X12_sight rfl rfl rfl rfl (Nat.le_of_ble_eq_true rfl) ⟨(Nat.le_of_ble_eq_true rfl), (Nat.le_of_ble_eq_true rfl)⟩ ⟨by show cs ≤ 601024; omega, by show ss ≤ 7293034; omega⟩ dL_law_1248 ?_
  refine C_ic_eq (tgt := 1616) dL_law_1251 (by decide) (fun c1 => ?_) (fun c1 => absurd rfl c1)
  exact knext h2 cs ss (Nat.le_succ _) (Nat.le_add_right _ _) hp
def G21 (P : AH → Prop) : Prop := ∀ h, P h → ∃ r h1 h2, f_X11_agree 0 h = some (r, h1) ∧ f_X12_agree 56 h1 = some (r, h2) ∧ P h2
set_option maxHeartbeats 4000000 in
set_option maxRecDepth 100000 in
theorem law_c21 {P : AH → Prop} {E : EV} {S0 : State} {b Ln : Nat} {xs : Nat → Int32} {x4 : Int32} {cs ss : Nat} {h : AH} (C0 : LCtx E S0 b Ln xs) (i1 : ix (x4 + 1) Ln = true) (i2 : ix (x4 + 2) Ln = true) (i3 : ix (x4 + 3) Ln = true) (i4 : ix (x4 + 4) Ln = true) (i5 : ix (x4 + 5) Ln = true) (hcs : cs ≤ 10000) (hss : ss ≤ 100000) (hG : ∃ r h1 h2, f_X11_agree 0 h = some (r, h1) ∧ f_X12_agree 56 h1 = some (r, h2) ∧ P h2) (knext : ∀ (h2 : AH) (c2 s2 : Nat), c2 ≤ cs + 1 → s2 ≤ ss + 6 → P h2 → VC E room_1 K_L S0 (AL S0) QFl (wld E h2) (LL E b x4) [] c2 s2 1616) : VC E room_1 K_L S0 (AL S0) QFl (wld E h) (LL E b x4) [] cs ss 1256 := by
  obtain ⟨r, h1, h2, e1, e2, hp⟩ := hG
  have hSK := C0.1
  have hAA := C0.2.2.2.1
  refine C_aload_n 1 dL_law_1256 rfl rfl ?_
  refine C_cvi (d := 1500) (As := []) (rest := []) hSK hAA (c_X11_agree (d := 1500) (Nat.le_of_ble_eq_true rfl) e1 rfl) (Or.inl ml_L_118) MV_X11_agree rfl rfl rfl rfl (Nat.le_of_ble_eq_true rfl) ⟨(Nat.le_of_ble_eq_true rfl), (Nat.le_of_ble_eq_true rfl)⟩ ⟨by show cs ≤ 601024; omega, by show ss ≤ 7293034; omega⟩ dL_law_1257 ?_
  refine C_aload_n 2 dL_law_1260 rfl rfl ?_
  refine C_cvi (d := 1500) (As := []) (rest := [.int r]) hSK hAA (c_X12_agree (d := 1500) (Nat.le_of_ble_eq_true rfl) e2 rfl) (Or.inl ml_L_121) MV_X12_agree rfl rfl rfl rfl (Nat.le_of_ble_eq_true rfl) ⟨(Nat.le_of_ble_eq_true rfl), (Nat.le_of_ble_eq_true rfl)⟩ ⟨by show cs ≤ 601024; omega, by show ss ≤ 7293034; omega⟩ dL_law_1261 ?_
  refine C_ic_eq (tgt := 1616) dL_law_1264 (by decide) (fun c1 => ?_) (fun c1 => absurd rfl c1)
  exact knext h2 cs ss (Nat.le_succ _) (Nat.le_add_right _ _) hp
def G22 (P : AH → Prop) : Prop := ∀ h, P h → ∀ (a1 : Int32) (a2 : Int32), ∃ r h1 h2, f_X11_been 0 a1 a2 h = some (r, h1) ∧ f_X12_been 56 a1 a2 h1 = some (r, h2) ∧ P h2
set_option maxHeartbeats 4000000 in
set_option maxRecDepth 100000 in
theorem law_c22 {P : AH → Prop} {E : EV} {S0 : State} {b Ln : Nat} {xs : Nat → Int32} {x4 : Int32} {cs ss : Nat} {h : AH} (C0 : LCtx E S0 b Ln xs) (i1 : ix (x4 + 1) Ln = true) (i2 : ix (x4 + 2) Ln = true) (i3 : ix (x4 + 3) Ln = true) (i4 : ix (x4 + 4) Ln = true) (i5 : ix (x4 + 5) Ln = true) (hcs : cs ≤ 10000) (hss : ss ≤ 100000) (hG : ∃ r h1 h2, f_X11_been 0 (xs (x4 + 1).toNatClampNeg) (xs (x4 + 2).toNatClampNeg) h = some (r, h1) ∧ f_X12_been 56 (xs (x4 + 1).toNatClampNeg) (xs (x4 + 2).toNatClampNeg) h1 = some (r, h2) ∧ P h2) (knext : ∀ (h2 : AH) (c2 s2 : Nat), c2 ≤ cs + 1 → s2 ≤ ss + 6 → P h2 → VC E room_1 K_L S0 (AL S0) QFl (wld E h2) (LL E b x4) [] c2 s2 1616) : VC E room_1 K_L S0 (AL S0) QFl (wld E h) (LL E b x4) [] cs ss 1269 := by
  obtain ⟨r, h1, h2, e1, e2, hp⟩ := hG
  have hSK := C0.1
  have hAA := C0.2.2.2.1
  refine C_aload_n 1 dL_law_1269 rfl rfl ?_
  refine C_aload_n 0 dL_law_1270 rfl rfl ?_
  refine C_iload 4 dL_law_1271 rfl ?_
  refine C_iconst (v := 1) dL_law_1273 (by decide) ?_
  refine C_iadd dL_law_1274 ?_
  refine C_sld C0 i1 dL_law_1275 ?_
  refine C_aload_n 0 dL_law_1276 rfl rfl ?_
  refine C_iload 4 dL_law_1277 rfl ?_
  refine C_iconst (v := 2) dL_law_1279 (by decide) ?_
  refine C_iadd dL_law_1280 ?_
  refine C_sld C0 i2 dL_law_1281 ?_
  refine C_cvi (d := 1500) (As := [.int (xs (x4 + 1).toNatClampNeg), .int (xs (x4 + 2).toNatClampNeg)]) (rest := []) hSK hAA (c_X11_been (d := 1500) (Nat.le_of_ble_eq_true rfl) e1 rfl) (Or.inl ml_L_122) MV_X11_been rfl rfl rfl rfl (Nat.le_of_ble_eq_true rfl) ⟨(Nat.le_of_ble_eq_true rfl), (Nat.le_of_ble_eq_true rfl)⟩ ⟨by show cs ≤ 601024; omega, by show ss ≤ 7293034; omega⟩ dL_law_1282 ?_
  refine C_aload_n 2 dL_law_1285 rfl rfl ?_
  refine C_aload_n 0 dL_law_1286 rfl rfl ?_
  refine C_iload 4 dL_law_1287 rfl ?_
  refine C_iconst (v := 1) dL_law_1289 (by decide) ?_
  refine C_iadd dL_law_1290 ?_
  refine C_sld C0 i1 dL_law_1291 ?_
  refine C_aload_n 0 dL_law_1292 rfl rfl ?_
  refine C_iload 4 dL_law_1293 rfl ?_
  refine C_iconst (v := 2) dL_law_1295 (by decide) ?_
  refine C_iadd dL_law_1296 ?_
  refine C_sld C0 i2 dL_law_1297 ?_
  refine C_cvi (d := 1500) (As := [.int (xs (x4 + 1).toNatClampNeg), .int (xs (x4 + 2).toNatClampNeg)]) (rest := [.int r]) hSK hAA (c_X12_been (d := 1500) (Nat.le_of_ble_eq_true rfl) e2 rfl) (Or.inl ml_L_125) MV_X12_been rfl rfl rfl rfl (Nat.le_of_ble_eq_true rfl) ⟨(Nat.le_of_ble_eq_true rfl), (Nat.le_of_ble_eq_true rfl)⟩ ⟨by show cs ≤ 601024; omega, by show ss ≤ 7293034; omega⟩ dL_law_1298 ?_
  refine C_ic_eq (tgt := 1616) dL_law_1301 (by decide) (fun c1 => ?_) (fun c1 => absurd rfl c1)
  exact knext h2 cs ss (Nat.le_succ _) (Nat.le_add_right _ _) hp
def G23 (P : AH → Prop) : Prop := ∀ h, P h → ∀ (a1 : Int32) (a2 : Int32) (a3 : Int32), ∃ r h1 h2, f_X11_left 0 a1 a2 a3 h = some (r, h1) ∧ f_X12_left 56 a1 a2 a3 h1 = some (r, h2) ∧ P h2
set_option maxHeartbeats 4000000 in
set_option maxRecDepth 100000 in
theorem law_c23 {P : AH → Prop} {E : EV} {S0 : State} {b Ln : Nat} {xs : Nat → Int32} {x4 : Int32} {cs ss : Nat} {h : AH} (C0 : LCtx E S0 b Ln xs) (i1 : ix (x4 + 1) Ln = true) (i2 : ix (x4 + 2) Ln = true) (i3 : ix (x4 + 3) Ln = true) (i4 : ix (x4 + 4) Ln = true) (i5 : ix (x4 + 5) Ln = true) (hcs : cs ≤ 10000) (hss : ss ≤ 100000) (hG : ∃ r h1 h2, f_X11_left 0 (xs (x4 + 1).toNatClampNeg) (xs (x4 + 2).toNatClampNeg) (xs (x4 + 3).toNatClampNeg) h = some (r, h1) ∧ f_X12_left 56 (xs (x4 + 1).toNatClampNeg) (xs (x4 + 2).toNatClampNeg) (xs (x4 + 3).toNatClampNeg) h1 = some (r, h2) ∧ P h2) (knext : ∀ (h2 : AH) (c2 s2 : Nat), c2 ≤ cs + 1 → s2 ≤ ss + 6 → P h2 → VC E room_1 K_L S0 (AL S0) QFl (wld E h2) (LL E b x4) [] c2 s2 1616) : VC E room_1 K_L S0 (AL S0) QFl (wld E h) (LL E b x4) [] cs ss 1306 := by
  obtain ⟨r, h1, h2, e1, e2, hp⟩ := hG
  have hSK := C0.1
  have hAA := C0.2.2.2.1
  refine C_aload_n 1 dL_law_1306 rfl rfl ?_
  refine C_aload_n 0 dL_law_1307 rfl rfl ?_
  refine C_iload 4 dL_law_1308 rfl ?_
  refine C_iconst (v := 1) dL_law_1310 (by decide) ?_
  refine C_iadd dL_law_1311 ?_
  refine C_sld C0 i1 dL_law_1312 ?_
  refine C_aload_n 0 dL_law_1313 rfl rfl ?_
  refine C_iload 4 dL_law_1314 rfl ?_
  refine C_iconst (v := 2) dL_law_1316 (by decide) ?_
  refine C_iadd dL_law_1317 ?_
  refine C_sld C0 i2 dL_law_1318 ?_
  refine C_aload_n 0 dL_law_1319 rfl rfl ?_
  refine C_iload 4 dL_law_1320 rfl ?_
  refine C_iconst (v := 3) dL_law_1322 (by decide) ?_
  refine C_iadd dL_law_1323 ?_
  refine C_sld C0 i3 dL_law_1324 ?_
  refine C_cvi (d := 1500) (As := [.int (xs (x4 + 1).toNatClampNeg), .int (xs (x4 + 2).toNatClampNeg), .int (xs (x4 + 3).toNatClampNeg)]) (rest := []) hSK hAA (c_X11_left (d := 1500) (Nat.le_of_ble_eq_true rfl) e1 rfl) (Or.inl ml_L_126) MV_X11_left rfl rfl rfl rfl (Nat.le_of_ble_eq_true rfl) ⟨(Nat.le_of_ble_eq_true rfl), (Nat.le_of_ble_eq_true rfl)⟩ ⟨by show cs ≤ 601024; omega, by show ss ≤ 7293034; omega⟩ dL_law_1325 ?_
  refine C_aload_n 2 dL_law_1328 rfl rfl ?_
  refine C_aload_n 0 dL_law_1329 rfl rfl ?_
  refine C_iload 4 dL_law_1330 rfl ?_
  refine C_iconst (v := 1) dL_law_1332 (by decide) ?_
  refine C_iadd dL_law_1333 ?_
  refine C_sld C0 i1 dL_law_1334 ?_
  refine C_aload_n 0 dL_law_1335 rfl rfl ?_
  refine C_iload 4 dL_law_1336 rfl ?_
  refine C_iconst (v := 2) dL_law_1338 (by decide) ?_
  refine C_iadd dL_law_1339 ?_
  refine C_sld C0 i2 dL_law_1340 ?_
  refine C_aload_n 0 dL_law_1341 rfl rfl ?_
  refine C_iload 4 dL_law_1342 rfl ?_
  refine C_iconst (v := 3) dL_law_1344 (by decide) ?_
  refine C_iadd dL_law_1345 ?_
  refine C_sld C0 i3 dL_law_1346 ?_
  refine C_cvi (d := 1500) (As := [.int (xs (x4 + 1).toNatClampNeg), .int (xs (x4 + 2).toNatClampNeg), .int (xs (x4 + 3).toNatClampNeg)]) (rest := [.int r]) hSK hAA (c_X12_left (d := 1500) (Nat.le_of_ble_eq_true rfl) e2 rfl) (Or.inl ml_L_129) MV_X12_left rfl rfl rfl rfl (Nat.le_of_ble_eq_true rfl) ⟨(Nat.le_of_ble_eq_true rfl), (Nat.le_of_ble_eq_true rfl)⟩ ⟨by show cs ≤ 601024; omega, by show ss ≤ 7293034; omega⟩ dL_law_1347 ?_
  refine C_ic_eq (tgt := 1616) dL_law_1350 (by decide) (fun c1 => ?_) (fun c1 => absurd rfl c1)
  exact knext h2 cs ss (Nat.le_succ _) (Nat.le_add_right _ _) hp
def G24 (P : AH → Prop) : Prop := ∀ h, P h → ∀ (a1 : Int32) (a2 : Int32) (a3 : Int32) (a4 : Int32) (a5 : Int32), ∃ r h1 h2, f_X11_swap 0 a1 a2 a3 a4 a5 h = some (r, h1) ∧ f_X12_swap 56 a1 a2 a3 a4 a5 h1 = some (r, h2) ∧ P h2
set_option maxHeartbeats 4000000 in
set_option maxRecDepth 100000 in
theorem law_c24 {P : AH → Prop} {E : EV} {S0 : State} {b Ln : Nat} {xs : Nat → Int32} {x4 : Int32} {cs ss : Nat} {h : AH} (C0 : LCtx E S0 b Ln xs) (i1 : ix (x4 + 1) Ln = true) (i2 : ix (x4 + 2) Ln = true) (i3 : ix (x4 + 3) Ln = true) (i4 : ix (x4 + 4) Ln = true) (i5 : ix (x4 + 5) Ln = true) (hcs : cs ≤ 10000) (hss : ss ≤ 100000) (hG : ∃ r h1 h2, f_X11_swap 0 (xs (x4 + 1).toNatClampNeg) (xs (x4 + 2).toNatClampNeg) (xs (x4 + 3).toNatClampNeg) (xs (x4 + 4).toNatClampNeg) (xs (x4 + 5).toNatClampNeg) h = some (r, h1) ∧ f_X12_swap 56 (xs (x4 + 1).toNatClampNeg) (xs (x4 + 2).toNatClampNeg) (xs (x4 + 3).toNatClampNeg) (xs (x4 + 4).toNatClampNeg) (xs (x4 + 5).toNatClampNeg) h1 = some (r, h2) ∧ P h2) (knext : ∀ (h2 : AH) (c2 s2 : Nat), c2 ≤ cs + 1 → s2 ≤ ss + 6 → P h2 → VC E room_1 K_L S0 (AL S0) QFl (wld E h2) (LL E b x4) [] c2 s2 1616) : VC E room_1 K_L S0 (AL S0) QFl (wld E h) (LL E b x4) [] cs ss 1355 := by
  obtain ⟨r, h1, h2, e1, e2, hp⟩ := hG
  have hSK := C0.1
  have hAA := C0.2.2.2.1
  refine C_aload_n 1 dL_law_1355 rfl rfl ?_
  refine C_aload_n 0 dL_law_1356 rfl rfl ?_
  refine C_iload 4 dL_law_1357 rfl ?_
  refine C_iconst (v := 1) dL_law_1359 (by decide) ?_
  refine C_iadd dL_law_1360 ?_
  refine C_sld C0 i1 dL_law_1361 ?_
  refine C_aload_n 0 dL_law_1362 rfl rfl ?_
  refine C_iload 4 dL_law_1363 rfl ?_
  refine C_iconst (v := 2) dL_law_1365 (by decide) ?_
  refine C_iadd dL_law_1366 ?_
  refine C_sld C0 i2 dL_law_1367 ?_
  refine C_aload_n 0 dL_law_1368 rfl rfl ?_
  refine C_iload 4 dL_law_1369 rfl ?_
  refine C_iconst (v := 3) dL_law_1371 (by decide) ?_
  refine C_iadd dL_law_1372 ?_
  refine C_sld C0 i3 dL_law_1373 ?_
  refine C_aload_n 0 dL_law_1374 rfl rfl ?_
  refine C_iload 4 dL_law_1375 rfl ?_
  refine C_iconst (v := 4) dL_law_1377 (by decide) ?_
  refine C_iadd dL_law_1378 ?_
  refine C_sld C0 i4 dL_law_1379 ?_
  refine C_aload_n 0 dL_law_1380 rfl rfl ?_
  refine C_iload 4 dL_law_1381 rfl ?_
  refine C_iconst (v := 5) dL_law_1383 (by decide) ?_
  refine C_iadd dL_law_1384 ?_
  refine C_sld C0 i5 dL_law_1385 ?_
  refine C_cvi (d := 1500) (As := [.int (xs (x4 + 1).toNatClampNeg), .int (xs (x4 + 2).toNatClampNeg), .int (xs (x4 + 3).toNatClampNeg), .int (xs (x4 + 4).toNatClampNeg), .int (xs (x4 + 5).toNatClampNeg)]) (rest := []) hSK hAA (c_X11_swap (d := 1500) (Nat.le_of_ble_eq_true rfl) e1 rfl) (Or.inl ml_L_130) MV_X11_swap rfl rfl rfl rfl (Nat.le_of_ble_eq_true rfl) ⟨(Nat.le_of_ble_eq_true rfl), (Nat.le_of_ble_eq_true rfl)⟩ ⟨by show cs ≤ 601024; omega, by show ss ≤ 7293034; omega⟩ dL_law_1386 ?_
  refine C_aload_n 2 dL_law_1389 rfl rfl ?_
  refine C_aload_n 0 dL_law_1390 rfl rfl ?_
  refine C_iload 4 dL_law_1391 rfl ?_
  refine C_iconst (v := 1) dL_law_1393 (by decide) ?_
  refine C_iadd dL_law_1394 ?_
  refine C_sld C0 i1 dL_law_1395 ?_
  refine C_aload_n 0 dL_law_1396 rfl rfl ?_
  refine C_iload 4 dL_law_1397 rfl ?_
  refine C_iconst (v := 2) dL_law_1399 (by decide) ?_
  refine C_iadd dL_law_1400 ?_
  refine C_sld C0 i2 dL_law_1401 ?_
  refine C_aload_n 0 dL_law_1402 rfl rfl ?_
  refine C_iload 4 dL_law_1403 rfl ?_
  refine C_iconst (v := 3) dL_law_1405 (by decide) ?_
  refine C_iadd dL_law_1406 ?_
  refine C_sld C0 i3 dL_law_1407 ?_
  refine C_aload_n 0 dL_law_1408 rfl rfl ?_
  refine C_iload 4 dL_law_1409 rfl ?_
  refine C_iconst (v := 4) dL_law_1411 (by decide) ?_
  refine C_iadd dL_law_1412 ?_
  refine C_sld C0 i4 dL_law_1413 ?_
  refine C_aload_n 0 dL_law_1414 rfl rfl ?_
  refine C_iload 4 dL_law_1415 rfl ?_
  refine C_iconst (v := 5) dL_law_1417 (by decide) ?_
  refine C_iadd dL_law_1418 ?_
  refine C_sld C0 i5 dL_law_1419 ?_
  refine C_cvi (d := 1500) (As := [.int (xs (x4 + 1).toNatClampNeg), .int (xs (x4 + 2).toNatClampNeg), .int (xs (x4 + 3).toNatClampNeg), .int (xs (x4 + 4).toNatClampNeg), .int (xs (x4 + 5).toNatClampNeg)]) (rest := [.int r]) hSK hAA (c_X12_swap (d := 1500) (Nat.le_of_ble_eq_true rfl) e2 rfl) (Or.inl ml_L_133) MV_X12_swap rfl rfl rfl rfl (Nat.le_of_ble_eq_true rfl) ⟨(Nat.le_of_ble_eq_true rfl), (Nat.le_of_ble_eq_true rfl)⟩ ⟨by show cs ≤ 601024; omega, by show ss ≤ 7293034; omega⟩ dL_law_1420 ?_
  refine C_ic_eq (tgt := 1616) dL_law_1423 (by decide) (fun c1 => ?_) (fun c1 => absurd rfl c1)
  exact knext h2 cs ss (Nat.le_succ _) (Nat.le_add_right _ _) hp
def G25 (P : AH → Prop) : Prop := ∀ h, P h → ∀ (a1 : Int32) (a2 : Int32) (a3 : Int32), ∃ r h1 h2, f_X11_dream 0 a1 a2 a3 h = some (r, h1) ∧ f_X12_dream 56 a1 a2 a3 h1 = some (r, h2) ∧ P h2
set_option maxHeartbeats 4000000 in
set_option maxRecDepth 100000 in
theorem law_c25 {P : AH → Prop} {E : EV} {S0 : State} {b Ln : Nat} {xs : Nat → Int32} {x4 : Int32} {cs ss : Nat} {h : AH} (C0 : LCtx E S0 b Ln xs) (i1 : ix (x4 + 1) Ln = true) (i2 : ix (x4 + 2) Ln = true) (i3 : ix (x4 + 3) Ln = true) (i4 : ix (x4 + 4) Ln = true) (i5 : ix (x4 + 5) Ln = true) (hcs : cs ≤ 10000) (hss : ss ≤ 100000) (hG : ∃ r h1 h2, f_X11_dream 0 (xs (x4 + 1).toNatClampNeg) (xs (x4 + 2).toNatClampNeg) (xs (x4 + 3).toNatClampNeg) h = some (r, h1) ∧ f_X12_dream 56 (xs (x4 + 1).toNatClampNeg) (xs (x4 + 2).toNatClampNeg) (xs (x4 + 3).toNatClampNeg) h1 = some (r, h2) ∧ P h2) (knext : ∀ (h2 : AH) (c2 s2 : Nat), c2 ≤ cs + 1 → s2 ≤ ss + 6 → P h2 → VC E room_1 K_L S0 (AL S0) QFl (wld E h2) (LL E b x4) [] c2 s2 1616) : VC E room_1 K_L S0 (AL S0) QFl (wld E h) (LL E b x4) [] cs ss 1428 := by
  obtain ⟨r, h1, h2, e1, e2, hp⟩ := hG
  have hSK := C0.1
  have hAA := C0.2.2.2.1
  refine C_aload_n 1 dL_law_1428 rfl rfl ?_
  refine C_aload_n 0 dL_law_1429 rfl rfl ?_
  refine C_iload 4 dL_law_1430 rfl ?_
  refine C_iconst (v := 1) dL_law_1432 (by decide) ?_
  refine C_iadd dL_law_1433 ?_
  refine C_sld C0 i1 dL_law_1434 ?_
  refine C_aload_n 0 dL_law_1435 rfl rfl ?_
  refine C_iload 4 dL_law_1436 rfl ?_
  refine C_iconst (v := 2) dL_law_1438 (by decide) ?_
  refine C_iadd dL_law_1439 ?_
  refine C_sld C0 i2 dL_law_1440 ?_
  refine C_aload_n 0 dL_law_1441 rfl rfl ?_
  refine C_iload 4 dL_law_1442 rfl ?_
  refine C_iconst (v := 3) dL_law_1444 (by decide) ?_
  refine C_iadd dL_law_1445 ?_
  refine C_sld C0 i3 dL_law_1446 ?_
  refine C_cvi (d := 1500) (As := [.int (xs (x4 + 1).toNatClampNeg), .int (xs (x4 + 2).toNatClampNeg), .int (xs (x4 + 3).toNatClampNeg)]) (rest := []) hSK hAA (c_X11_dream (d := 1500) (Nat.le_of_ble_eq_true rfl) e1 rfl) (Or.inl ml_L_134) MV_X11_dream rfl rfl rfl rfl (Nat.le_of_ble_eq_true rfl) ⟨(Nat.le_of_ble_eq_true rfl), (Nat.le_of_ble_eq_true rfl)⟩ ⟨by show cs ≤ 601024; omega, by show ss ≤ 7293034; omega⟩ dL_law_1447 ?_
  refine C_aload_n 2 dL_law_1450 rfl rfl ?_
  refine C_aload_n 0 dL_law_1451 rfl rfl ?_
  refine C_iload 4 dL_law_1452 rfl ?_
  refine C_iconst (v := 1) dL_law_1454 (by decide) ?_
  refine C_iadd dL_law_1455 ?_
  refine C_sld C0 i1 dL_law_1456 ?_
  refine C_aload_n 0 dL_law_1457 rfl rfl ?_
  refine C_iload 4 dL_law_1458 rfl ?_
  refine C_iconst (v := 2) dL_law_1460 (by decide) ?_
  refine C_iadd dL_law_1461 ?_
  refine C_sld C0 i2 dL_law_1462 ?_
  refine C_aload_n 0 dL_law_1463 rfl rfl ?_
  refine C_iload 4 dL_law_1464 rfl ?_
  refine C_iconst (v := 3) dL_law_1466 (by decide) ?_
  refine C_iadd dL_law_1467 ?_
  refine C_sld C0 i3 dL_law_1468 ?_
  refine C_cvi (d := 1500) (As := [.int (xs (x4 + 1).toNatClampNeg), .int (xs (x4 + 2).toNatClampNeg), .int (xs (x4 + 3).toNatClampNeg)]) (rest := [.int r]) hSK hAA (c_X12_dream (d := 1500) (Nat.le_of_ble_eq_true rfl) e2 rfl) (Or.inl ml_L_137) MV_X12_dream rfl rfl rfl rfl (Nat.le_of_ble_eq_true rfl) ⟨(Nat.le_of_ble_eq_true rfl), (Nat.le_of_ble_eq_true rfl)⟩ ⟨by show cs ≤ 601024; omega, by show ss ≤ 7293034; omega⟩ dL_law_1469 ?_
  refine C_ic_eq (tgt := 1616) dL_law_1472 (by decide) (fun c1 => ?_) (fun c1 => absurd rfl c1)
  exact knext h2 cs ss (Nat.le_succ _) (Nat.le_add_right _ _) hp
def G26 (P : AH → Prop) : Prop := ∀ h, P h → ∀ (a1 : Int32) (a2 : Int32), ∃ r h1 h2, f_X11_bring 0 a1 a2 h = some (r, h1) ∧ f_X12_bring 56 a1 a2 h1 = some (r, h2) ∧ P h2
set_option maxHeartbeats 4000000 in
set_option maxRecDepth 100000 in
theorem law_c26 {P : AH → Prop} {E : EV} {S0 : State} {b Ln : Nat} {xs : Nat → Int32} {x4 : Int32} {cs ss : Nat} {h : AH} (C0 : LCtx E S0 b Ln xs) (i1 : ix (x4 + 1) Ln = true) (i2 : ix (x4 + 2) Ln = true) (i3 : ix (x4 + 3) Ln = true) (i4 : ix (x4 + 4) Ln = true) (i5 : ix (x4 + 5) Ln = true) (hcs : cs ≤ 10000) (hss : ss ≤ 100000) (hG : ∃ r h1 h2, f_X11_bring 0 (xs (x4 + 1).toNatClampNeg) (xs (x4 + 2).toNatClampNeg) h = some (r, h1) ∧ f_X12_bring 56 (xs (x4 + 1).toNatClampNeg) (xs (x4 + 2).toNatClampNeg) h1 = some (r, h2) ∧ P h2) (knext : ∀ (h2 : AH) (c2 s2 : Nat), c2 ≤ cs + 1 → s2 ≤ ss + 6 → P h2 → VC E room_1 K_L S0 (AL S0) QFl (wld E h2) (LL E b x4) [] c2 s2 1616) : VC E room_1 K_L S0 (AL S0) QFl (wld E h) (LL E b x4) [] cs ss 1477 := by
  obtain ⟨r, h1, h2, e1, e2, hp⟩ := hG
  have hSK := C0.1
  have hAA := C0.2.2.2.1
  refine C_aload_n 1 dL_law_1477 rfl rfl ?_
  refine C_aload_n 0 dL_law_1478 rfl rfl ?_
  refine C_iload 4 dL_law_1479 rfl ?_
  refine C_iconst (v := 1) dL_law_1481 (by decide) ?_
  refine C_iadd dL_law_1482 ?_
  refine C_sld C0 i1 dL_law_1483 ?_
  refine C_aload_n 0 dL_law_1484 rfl rfl ?_
  refine C_iload 4 dL_law_1485 rfl ?_
  refine C_iconst (v := 2) dL_law_1487 (by decide) ?_
  refine C_iadd dL_law_1488 ?_
  refine C_sld C0 i2 dL_law_1489 ?_
  refine C_cvi (d := 1500) (As := [.int (xs (x4 + 1).toNatClampNeg), .int (xs (x4 + 2).toNatClampNeg)]) (rest := []) hSK hAA (c_X11_bring (d := 1500) (Nat.le_of_ble_eq_true rfl) e1 rfl) (Or.inl ml_L_138) MV_X11_bring rfl rfl rfl rfl (Nat.le_of_ble_eq_true rfl) ⟨(Nat.le_of_ble_eq_true rfl), (Nat.le_of_ble_eq_true rfl)⟩ ⟨by show cs ≤ 601024; omega, by show ss ≤ 7293034; omega⟩ dL_law_1490 ?_
  refine C_aload_n 2 dL_law_1493 rfl rfl ?_
  refine C_aload_n 0 dL_law_1494 rfl rfl ?_
  refine C_iload 4 dL_law_1495 rfl ?_
  refine C_iconst (v := 1) dL_law_1497 (by decide) ?_
  refine C_iadd dL_law_1498 ?_
  refine C_sld C0 i1 dL_law_1499 ?_
  refine C_aload_n 0 dL_law_1500 rfl rfl ?_
  refine C_iload 4 dL_law_1501 rfl ?_
  refine C_iconst (v := 2) dL_law_1503 (by decide) ?_
  refine C_iadd dL_law_1504 ?_
  refine C_sld C0 i2 dL_law_1505 ?_
  refine C_cvi (d := 1500) (As := [.int (xs (x4 + 1).toNatClampNeg), .int (xs (x4 + 2).toNatClampNeg)]) (rest := [.int r]) hSK hAA (c_X12_bring (d := 1500) (Nat.le_of_ble_eq_true rfl) e2 rfl) (Or.inl ml_L_141) MV_X12_bring rfl rfl rfl rfl (Nat.le_of_ble_eq_true rfl) ⟨(Nat.le_of_ble_eq_true rfl), (Nat.le_of_ble_eq_true rfl)⟩ ⟨by show cs ≤ 601024; omega, by show ss ≤ 7293034; omega⟩ dL_law_1506 ?_
  refine C_ic_eq (tgt := 1616) dL_law_1509 (by decide) (fun c1 => ?_) (fun c1 => absurd rfl c1)
  exact knext h2 cs ss (Nat.le_succ _) (Nat.le_add_right _ _) hp
def G27 (P : AH → Prop) : Prop := ∀ h, P h → ∃ r h1 h2, f_X11_steady 0 h = some (r, h1) ∧ f_X12_steady 56 h1 = some (r, h2) ∧ P h2
set_option maxHeartbeats 4000000 in
set_option maxRecDepth 100000 in
theorem law_c27 {P : AH → Prop} {E : EV} {S0 : State} {b Ln : Nat} {xs : Nat → Int32} {x4 : Int32} {cs ss : Nat} {h : AH} (C0 : LCtx E S0 b Ln xs) (i1 : ix (x4 + 1) Ln = true) (i2 : ix (x4 + 2) Ln = true) (i3 : ix (x4 + 3) Ln = true) (i4 : ix (x4 + 4) Ln = true) (i5 : ix (x4 + 5) Ln = true) (hcs : cs ≤ 10000) (hss : ss ≤ 100000) (hG : ∃ r h1 h2, f_X11_steady 0 h = some (r, h1) ∧ f_X12_steady 56 h1 = some (r, h2) ∧ P h2) (knext : ∀ (h2 : AH) (c2 s2 : Nat), c2 ≤ cs + 1 → s2 ≤ ss + 6 → P h2 → VC E room_1 K_L S0 (AL S0) QFl (wld E h2) (LL E b x4) [] c2 s2 1616) : VC E room_1 K_L S0 (AL S0) QFl (wld E h) (LL E b x4) [] cs ss 1514 := by
  obtain ⟨r, h1, h2, e1, e2, hp⟩ := hG
  have hSK := C0.1
  have hAA := C0.2.2.2.1
  refine C_aload_n 1 dL_law_1514 rfl rfl ?_
  refine C_cvi (d := 1500) (As := []) (rest := []) hSK hAA (c_X11_steady (d := 1500) (Nat.le_of_ble_eq_true rfl) e1 rfl) (Or.inl ml_L_142) MV_X11_steady rfl rfl rfl rfl (Nat.le_of_ble_eq_true rfl) ⟨(Nat.le_of_ble_eq_true rfl), (Nat.le_of_ble_eq_true rfl)⟩ ⟨by show cs ≤ 601024; omega, by show ss ≤ 7293034; omega⟩ dL_law_1515 ?_
  refine C_aload_n 2 dL_law_1518 rfl rfl ?_
  refine C_cvi (d := 1500) (As := []) (rest := [.int r]) hSK hAA (c_X12_steady (d := 1500) (Nat.le_of_ble_eq_true rfl) e2 rfl) (Or.inl ml_L_145) MV_X12_steady rfl rfl rfl rfl (Nat.le_of_ble_eq_true rfl) ⟨(Nat.le_of_ble_eq_true rfl), (Nat.le_of_ble_eq_true rfl)⟩ ⟨by show cs ≤ 601024; omega, by show ss ≤ 7293034; omega⟩ dL_law_1519 ?_
  refine C_ic_eq (tgt := 1616) dL_law_1522 (by decide) (fun c1 => ?_) (fun c1 => absurd rfl c1)
  exact knext h2 cs ss (Nat.le_succ _) (Nat.le_add_right _ _) hp
def G28 (P : AH → Prop) : Prop := ∀ h, P h → ∃ r h1 h2, f_X11_lost 0 h = some (r, h1) ∧ f_X12_lost 56 h1 = some (r, h2) ∧ P h2
set_option maxHeartbeats 4000000 in
set_option maxRecDepth 100000 in
theorem law_c28 {P : AH → Prop} {E : EV} {S0 : State} {b Ln : Nat} {xs : Nat → Int32} {x4 : Int32} {cs ss : Nat} {h : AH} (C0 : LCtx E S0 b Ln xs) (i1 : ix (x4 + 1) Ln = true) (i2 : ix (x4 + 2) Ln = true) (i3 : ix (x4 + 3) Ln = true) (i4 : ix (x4 + 4) Ln = true) (i5 : ix (x4 + 5) Ln = true) (hcs : cs ≤ 10000) (hss : ss ≤ 100000) (hG : ∃ r h1 h2, f_X11_lost 0 h = some (r, h1) ∧ f_X12_lost 56 h1 = some (r, h2) ∧ P h2) (knext : ∀ (h2 : AH) (c2 s2 : Nat), c2 ≤ cs + 1 → s2 ≤ ss + 6 → P h2 → VC E room_1 K_L S0 (AL S0) QFl (wld E h2) (LL E b x4) [] c2 s2 1616) : VC E room_1 K_L S0 (AL S0) QFl (wld E h) (LL E b x4) [] cs ss 1527 := by
  obtain ⟨r, h1, h2, e1, e2, hp⟩ := hG
  have hSK := C0.1
  have hAA := C0.2.2.2.1
  refine C_aload_n 1 dL_law_1527 rfl rfl ?_
  refine C_cvi (d := 1500) (As := []) (rest := []) hSK hAA (c_X11_lost (d := 1500) (Nat.le_of_ble_eq_true rfl) e1 rfl) (Or.inl ml_L_146) MV_X11_lost rfl rfl rfl rfl (Nat.le_of_ble_eq_true rfl) ⟨(Nat.le_of_ble_eq_true rfl), (Nat.le_of_ble_eq_true rfl)⟩ ⟨by show cs ≤ 601024; omega, by show ss ≤ 7293034; omega⟩ dL_law_1528 ?_
  refine C_aload_n 2 dL_law_1531 rfl rfl ?_
  refine C_cvi (d := 1500) (As := []) (rest := [.int r]) hSK hAA (c_X12_lost (d := 1500) (Nat.le_of_ble_eq_true rfl) e2 rfl) (Or.inl ml_L_149) MV_X12_lost rfl rfl rfl rfl (Nat.le_of_ble_eq_true rfl) ⟨(Nat.le_of_ble_eq_true rfl), (Nat.le_of_ble_eq_true rfl)⟩ ⟨by show cs ≤ 601024; omega, by show ss ≤ 7293034; omega⟩ dL_law_1532 ?_
  refine C_ic_eq (tgt := 1616) dL_law_1535 (by decide) (fun c1 => ?_) (fun c1 => absurd rfl c1)
  exact knext h2 cs ss (Nat.le_succ _) (Nat.le_add_right _ _) hp
def G29 (P : AH → Prop) : Prop := ∀ h, P h → ∀ (a1 : Int32), ∃ r h1 h2, f_X11_envy 0 a1 h = some (r, h1) ∧ f_X12_envy 56 a1 h1 = some (r, h2) ∧ P h2
set_option maxHeartbeats 4000000 in
set_option maxRecDepth 100000 in
theorem law_c29 {P : AH → Prop} {E : EV} {S0 : State} {b Ln : Nat} {xs : Nat → Int32} {x4 : Int32} {cs ss : Nat} {h : AH} (C0 : LCtx E S0 b Ln xs) (i1 : ix (x4 + 1) Ln = true) (i2 : ix (x4 + 2) Ln = true) (i3 : ix (x4 + 3) Ln = true) (i4 : ix (x4 + 4) Ln = true) (i5 : ix (x4 + 5) Ln = true) (hcs : cs ≤ 10000) (hss : ss ≤ 100000) (hG : ∃ r h1 h2, f_X11_envy 0 (xs (x4 + 1).toNatClampNeg) h = some (r, h1) ∧ f_X12_envy 56 (xs (x4 + 1).toNatClampNeg) h1 = some (r, h2) ∧ P h2) (knext : ∀ (h2 : AH) (c2 s2 : Nat), c2 ≤ cs + 1 → s2 ≤ ss + 6 → P h2 → VC E room_1 K_L S0 (AL S0) QFl (wld E h2) (LL E b x4) [] c2 s2 1616) : VC E room_1 K_L S0 (AL S0) QFl (wld E h) (LL E b x4) [] cs ss 1540 := by
  obtain ⟨r, h1, h2, e1, e2, hp⟩ := hG
  have hSK := C0.1
  have hAA := C0.2.2.2.1
  refine C_aload_n 1 dL_law_1540 rfl rfl ?_
  refine C_aload_n 0 dL_law_1541 rfl rfl ?_
  refine C_iload 4 dL_law_1542 rfl ?_
  refine C_iconst (v := 1) dL_law_1544 (by decide) ?_
  refine C_iadd dL_law_1545 ?_
  refine C_sld C0 i1 dL_law_1546 ?_
  refine C_cvi (d := 1500) (As := [.int (xs (x4 + 1).toNatClampNeg)]) (rest := []) hSK hAA (c_X11_envy (d := 1500) (Nat.le_of_ble_eq_true rfl) e1 rfl) (Or.inl ml_L_150) MV_X11_envy rfl rfl rfl rfl (Nat.le_of_ble_eq_true rfl) ⟨(Nat.le_of_ble_eq_true rfl), (Nat.le_of_ble_eq_true rfl)⟩ ⟨by show cs ≤ 601024; omega, by show ss ≤ 7293034; omega⟩ dL_law_1547 ?_
  refine C_aload_n 2 dL_law_1550 rfl rfl ?_
  refine C_aload_n 0 dL_law_1551 rfl rfl ?_
  refine C_iload 4 dL_law_1552 rfl ?_
  refine C_iconst (v := 1) dL_law_1554 (by decide) ?_
  refine C_iadd dL_law_1555 ?_
  refine C_sld C0 i1 dL_law_1556 ?_
  refine C_cvi (d := 1500) (As := [.int (xs (x4 + 1).toNatClampNeg)]) (rest := [.int r]) hSK hAA (c_X12_envy (d := 1500) (Nat.le_of_ble_eq_true rfl) e2 rfl) (Or.inl ml_L_153) MV_X12_envy rfl rfl rfl rfl (Nat.le_of_ble_eq_true rfl) ⟨(Nat.le_of_ble_eq_true rfl), (Nat.le_of_ble_eq_true rfl)⟩ ⟨by show cs ≤ 601024; omega, by show ss ≤ 7293034; omega⟩ dL_law_1557 ?_
  refine C_ic_eq (tgt := 1616) dL_law_1560 (by decide) (fun c1 => ?_) (fun c1 => absurd rfl c1)
  exact knext h2 cs ss (Nat.le_succ _) (Nat.le_add_right _ _) hp
def G30 (P : AH → Prop) : Prop := ∀ h, P h → ∃ r h1 h2, f_X11_image 0 h = some (r, h1) ∧ f_X12_image 56 h1 = some (r, h2) ∧ P h2
set_option maxHeartbeats 4000000 in
set_option maxRecDepth 100000 in
theorem law_c30 {P : AH → Prop} {E : EV} {S0 : State} {b Ln : Nat} {xs : Nat → Int32} {x4 : Int32} {cs ss : Nat} {h : AH} (C0 : LCtx E S0 b Ln xs) (i1 : ix (x4 + 1) Ln = true) (i2 : ix (x4 + 2) Ln = true) (i3 : ix (x4 + 3) Ln = true) (i4 : ix (x4 + 4) Ln = true) (i5 : ix (x4 + 5) Ln = true) (hcs : cs ≤ 10000) (hss : ss ≤ 100000) (hG : ∃ r h1 h2, f_X11_image 0 h = some (r, h1) ∧ f_X12_image 56 h1 = some (r, h2) ∧ P h2) (knext : ∀ (h2 : AH) (c2 s2 : Nat), c2 ≤ cs + 1 → s2 ≤ ss + 6 → P h2 → VC E room_1 K_L S0 (AL S0) QFl (wld E h2) (LL E b x4) [] c2 s2 1616) : VC E room_1 K_L S0 (AL S0) QFl (wld E h) (LL E b x4) [] cs ss 1565 := by
  obtain ⟨r, h1, h2, e1, e2, hp⟩ := hG
  have hSK := C0.1
  have hAA := C0.2.2.2.1
  refine C_aload_n 1 dL_law_1565 rfl rfl ?_
  refine C_cvi (d := 1500) (As := []) (rest := []) hSK hAA (c_X11_image (d := 1500) (Nat.le_of_ble_eq_true rfl) e1 rfl) (Or.inl ml_L_154) MV_X11_image rfl rfl rfl rfl (Nat.le_of_ble_eq_true rfl) ⟨(Nat.le_of_ble_eq_true rfl), (Nat.le_of_ble_eq_true rfl)⟩ ⟨by show cs ≤ 601024; omega, by show ss ≤ 7293034; omega⟩ dL_law_1566 ?_
  refine C_aload_n 2 dL_law_1569 rfl rfl ?_
  refine C_cvi (d := 1500) (As := []) (rest := [.int r]) hSK hAA (c_X12_image (d := 1500) (Nat.le_of_ble_eq_true rfl) e2 rfl) (Or.inl ml_L_157) MV_X12_image rfl rfl rfl rfl (Nat.le_of_ble_eq_true rfl) ⟨(Nat.le_of_ble_eq_true rfl), (Nat.le_of_ble_eq_true rfl)⟩ ⟨by show cs ≤ 601024; omega, by show ss ≤ 7293034; omega⟩ dL_law_1570 ?_
  refine C_ic_eq (tgt := 1616) dL_law_1573 (by decide) (fun c1 => ?_) (fun c1 => absurd rfl c1)
  exact knext h2 cs ss (Nat.le_succ _) (Nat.le_add_right _ _) hp
def G31 (P : AH → Prop) : Prop := ∀ h, P h → ∃ r h1 h2, f_X11_back 0 h = some (r, h1) ∧ f_X12_back 56 h1 = some (r, h2) ∧ P h2
set_option maxHeartbeats 4000000 in
set_option maxRecDepth 100000 in
theorem law_c31 {P : AH → Prop} {E : EV} {S0 : State} {b Ln : Nat} {xs : Nat → Int32} {x4 : Int32} {cs ss : Nat} {h : AH} (C0 : LCtx E S0 b Ln xs) (i1 : ix (x4 + 1) Ln = true) (i2 : ix (x4 + 2) Ln = true) (i3 : ix (x4 + 3) Ln = true) (i4 : ix (x4 + 4) Ln = true) (i5 : ix (x4 + 5) Ln = true) (hcs : cs ≤ 10000) (hss : ss ≤ 100000) (hG : ∃ r h1 h2, f_X11_back 0 h = some (r, h1) ∧ f_X12_back 56 h1 = some (r, h2) ∧ P h2) (knext : ∀ (h2 : AH) (c2 s2 : Nat), c2 ≤ cs + 1 → s2 ≤ ss + 6 → P h2 → VC E room_1 K_L S0 (AL S0) QFl (wld E h2) (LL E b x4) [] c2 s2 1616) : VC E room_1 K_L S0 (AL S0) QFl (wld E h) (LL E b x4) [] cs ss 1578 := by
  obtain ⟨r, h1, h2, e1, e2, hp⟩ := hG
  have hSK := C0.1
  have hAA := C0.2.2.2.1
  refine C_aload_n 1 dL_law_1578 rfl rfl ?_
  refine C_cvi (d := 1500) (As := []) (rest := []) hSK hAA (c_X11_back (d := 1500) (Nat.le_of_ble_eq_true rfl) e1 rfl) (Or.inl ml_L_158) MV_X11_back rfl rfl rfl rfl (Nat.le_of_ble_eq_true rfl) ⟨(Nat.le_of_ble_eq_true rfl), (Nat.le_of_ble_eq_true rfl)⟩ ⟨by show cs ≤ 601024; omega, by show ss ≤ 7293034; omega⟩ dL_law_1579 ?_
  refine C_aload_n 2 dL_law_1582 rfl rfl ?_
  refine C_cvi (d := 1500) (As := []) (rest := [.int r]) hSK hAA (c_X12_back (d := 1500) (Nat.le_of_ble_eq_true rfl) e2 rfl) (Or.inl ml_L_161) MV_X12_back rfl rfl rfl rfl (Nat.le_of_ble_eq_true rfl) ⟨(Nat.le_of_ble_eq_true rfl), (Nat.le_of_ble_eq_true rfl)⟩ ⟨by show cs ≤ 601024; omega, by show ss ≤ 7293034; omega⟩ dL_law_1583 ?_
  refine C_ic_eq (tgt := 1616) dL_law_1586 (by decide) (fun c1 => ?_) (fun c1 => absurd rfl c1)
  exact knext h2 cs ss (Nat.le_succ _) (Nat.le_add_right _ _) hp
def G32 (P : AH → Prop) : Prop := ∀ h, P h → ∀ (a1 : Int32), ∃ r h1 h2, f_X11_count 0 a1 h = some (r, h1) ∧ f_X12_count 56 a1 h1 = some (r, h2) ∧ P h2
set_option maxHeartbeats 4000000 in
set_option maxRecDepth 100000 in
theorem law_c32 {P : AH → Prop} {E : EV} {S0 : State} {b Ln : Nat} {xs : Nat → Int32} {x4 : Int32} {cs ss : Nat} {h : AH} (C0 : LCtx E S0 b Ln xs) (i1 : ix (x4 + 1) Ln = true) (i2 : ix (x4 + 2) Ln = true) (i3 : ix (x4 + 3) Ln = true) (i4 : ix (x4 + 4) Ln = true) (i5 : ix (x4 + 5) Ln = true) (hcs : cs ≤ 10000) (hss : ss ≤ 100000) (hG : ∃ r h1 h2, f_X11_count 0 (xs (x4 + 1).toNatClampNeg) h = some (r, h1) ∧ f_X12_count 56 (xs (x4 + 1).toNatClampNeg) h1 = some (r, h2) ∧ P h2) (knext : ∀ (h2 : AH) (c2 s2 : Nat), c2 ≤ cs + 1 → s2 ≤ ss + 6 → P h2 → VC E room_1 K_L S0 (AL S0) QFl (wld E h2) (LL E b x4) [] c2 s2 1616) : VC E room_1 K_L S0 (AL S0) QFl (wld E h) (LL E b x4) [] cs ss 1591 := by
  obtain ⟨r, h1, h2, e1, e2, hp⟩ := hG
  have hSK := C0.1
  have hAA := C0.2.2.2.1
  refine C_aload_n 1 dL_law_1591 rfl rfl ?_
  refine C_aload_n 0 dL_law_1592 rfl rfl ?_
  refine C_iload 4 dL_law_1593 rfl ?_
  refine C_iconst (v := 1) dL_law_1595 (by decide) ?_
  refine C_iadd dL_law_1596 ?_
  refine C_sld C0 i1 dL_law_1597 ?_
  refine C_cvi (d := 1500) (As := [.int (xs (x4 + 1).toNatClampNeg)]) (rest := []) hSK hAA (c_X11_count (d := 1500) (Nat.le_of_ble_eq_true rfl) e1 rfl) (Or.inl ml_L_162) MV_X11_count rfl rfl rfl rfl (Nat.le_of_ble_eq_true rfl) ⟨(Nat.le_of_ble_eq_true rfl), (Nat.le_of_ble_eq_true rfl)⟩ ⟨by show cs ≤ 601024; omega, by show ss ≤ 7293034; omega⟩ dL_law_1598 ?_
  refine C_aload_n 2 dL_law_1601 rfl rfl ?_
  refine C_aload_n 0 dL_law_1602 rfl rfl ?_
  refine C_iload 4 dL_law_1603 rfl ?_
  refine C_iconst (v := 1) dL_law_1605 (by decide) ?_
  refine C_iadd dL_law_1606 ?_
  refine C_sld C0 i1 dL_law_1607 ?_
  refine C_cvi (d := 1500) (As := [.int (xs (x4 + 1).toNatClampNeg)]) (rest := [.int r]) hSK hAA (c_X12_count (d := 1500) (Nat.le_of_ble_eq_true rfl) e2 rfl) (Or.inl ml_L_165) MV_X12_count rfl rfl rfl rfl (Nat.le_of_ble_eq_true rfl) ⟨(Nat.le_of_ble_eq_true rfl), (Nat.le_of_ble_eq_true rfl)⟩ ⟨by show cs ≤ 601024; omega, by show ss ≤ 7293034; omega⟩ dL_law_1608 ?_
  refine C_ic_eq (tgt := 1616) dL_law_1611 (by decide) (fun c1 => ?_) (fun c1 => absurd rfl c1)
  exact knext h2 cs ss (Nat.le_succ _) (Nat.le_add_right _ _) hp
