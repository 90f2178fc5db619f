/-! what is owed -/
theorem i_vc : Claimed_1_1 ∧ Claimed_1_2 := i_vc_open (good_of g17 g26) rel2_init
