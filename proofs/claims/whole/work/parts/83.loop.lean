/-! going by all orders -/
theorem wChk_G {G : Nat} (g0 : 0 < G) (hG : G < 64) : wChk G = true := by
  have := List.all_eq_true.mp wChk_all (G - 1) (List.mem_range.mpr (by omega))
  rw [show G - 1 + 1 = G by omega] at this
  exact this
def rw_ (G k j : Nat) : Nat := ((WG G).getD k []).getD j 0
def nW (G : Nat) : Nat := (WG G).length
def oChk (G : Nat) (l : List Nat) : Bool := mOk 6 G (pcN G) (num l) 0 && ((List.range (pcN G)).all (fun j => Nat.beq (rowN (num l) (pcN G) j) (l.getD j 0)) && Nat.blt (num l) 1000000)
theorem oChk_all : (List.range 63).all (fun k => (WG (k + 1)).all (oChk (k + 1)) && Nat.ble (WG (k + 1)).length 720) = true := by decide +kernel
theorem sT3 : ∀ m, m < 7 → sT 3 m = nI (sT 3 m).toNatClampNeg := by decide +kernel
theorem sN3 : sN 3 = 7 := rfl
theorem W_parts {G : Nat} (g0 : 0 < G) (hG : G < 64) : (∃ t, WG G = gl G 6 :: t) ∧ chn (pc G) (WG G) = true ∧ (∀ k, k < nW G → rChk G ((WG G).getD k []) = true) ∧ sT 3 (pc G) = nI (nW G) ∧ nW G ≤ 720 ∧ 0 < nW G := by
  have h := wChk_G g0 hG
  have o := List.all_eq_true.mp oChk_all (G - 1) (List.mem_range.mpr (by omega))
  rw [show G - 1 + 1 = G by omega, Bool.and_eq_true] at o
  have o2 := Nat.le_of_ble_eq_true o.2
  have p7 := (pc_ok G hG).2
  unfold wChk at h
  rw [Bool.and_eq_true, Bool.and_eq_true, Bool.and_eq_true, List.all_eq_true, ← pc_N G hG] at h
  obtain ⟨h1, h2, h3, h4⟩ := h
  have e : ∃ t, WG G = gl G 6 :: t := by
    cases w : WG G with
    | nil =>
      rw [w] at h1
      cases h1
    | cons a t =>
      rw [w] at h1
      have := of_decide_eq_true h1
      exact ⟨t, by rw [this]⟩
  refine ⟨e, h2, fun k hk => h3 _ ?_, ?_, o2, ?_⟩
  · unfold nW at hk
    rw [List.getD_eq_getElem?_getD, List.getElem?_eq_getElem hk]
    exact List.getElem_mem hk
  · rw [sT3 _ p7, ← Nat.eq_of_beq_eq_true h4]
    rfl
  · obtain ⟨t, w⟩ := e
    unfold nW
    rw [w]
    simp
theorem W_row {n G : Nat} (hn : n ≤ 6) (hG : G < 2 ^ n) (g0 : 0 < G) {k : Nat} (hk : k < nW G) : gRow n G (rw_ G k) := (rChk_ok hn hG ((W_parts g0 (Nat.lt_of_lt_of_le hG (pow_le6 hn))).2.2.1 k hk)).2
theorem chn_k {m : Nat} : ∀ (L : List (List Nat)) k, chn m L = true → k + 1 < L.length → fitsL m (advF (fun j => (L.getD k []).getD j 0) m) (L.getD k []) (L.getD (k + 1) []) = true := by
  intro L
  induction L with
  | nil => intro k _ h; simp at h
  | cons a t ih =>
    intro k h hk
    cases t with
    | nil => simp at hk
    | cons b t =>
      have h : (fitsL m (advF (fun j => a.getD j 0) m) a b && chn m (b :: t)) = true := h
      rw [Bool.and_eq_true] at h
      cases k with
      | zero => exact h.1
      | succ k => exact ih k h.2 (by simpa using hk)
theorem W_adv {G : Nat} (g0 : 0 < G) (hG : G < 64) {k : Nat} (hk : k + 1 < nW G) : (advF (rw_ G k) (pc G)).1 ≤ pc G ∧ (∀ j, j < pc G → (advF (rw_ G k) (pc G)).2 j = rw_ G (k + 1) j) ∧ ∀ j, j < (advF (rw_ G k) (pc G)).1 → rw_ G k j = rw_ G (k + 1) j := by
  have := chn_k (WG G) k (W_parts g0 hG).2.1 hk
  unfold fitsL at this
  rw [Bool.and_eq_true, Bool.and_eq_true, List.all_eq_true, List.all_eq_true] at this
  exact ⟨Nat.le_of_ble_eq_true this.1, fun j hj => Nat.eq_of_beq_eq_true (this.2.1 j (List.mem_range.mpr hj)), fun j hj => Nat.eq_of_beq_eq_true (this.2.2 j (List.mem_range.mpr hj))⟩
theorem mOk_n {n G : Nat} (hG : G < 2 ^ n) : ∀ k N S, mOk 6 G k N S = true → mOk n G k N S = true := by
  intro k
  induction k with
  | zero => intro N S h; exact h
  | succ k ih =>
    intro N S h
    rw [mOk, Bool.and_eq_true, Bool.and_eq_true, Bool.and_eq_true] at h ⊢
    exact ⟨decide_eq_true (tb_lt hG h.2.1), h.2.1, h.2.2.1, ih _ _ h.2.2.2⟩
theorem W_num {n G : Nat} (hn : n ≤ 6) (hG : G < 2 ^ n) (g0 : 0 < G) {k : Nat} (hk : k < nW G) : num ((WG G).getD k []) < 1000000 ∧ ordB n G (nI (num ((WG G).getD k []))) = true ∧ ∀ j, j < pc G → rowN (num ((WG G).getD k [])) (pc G) j = rw_ G k j := by
  have h64 := pow_le6 hn
  have o := List.all_eq_true.mp oChk_all (G - 1) (List.mem_range.mpr (by omega))
  rw [show G - 1 + 1 = G by omega, Bool.and_eq_true, List.all_eq_true] at o
  have q := o.1 ((WG G).getD k []) (by
    unfold nW at hk
    rw [List.getD_eq_getElem?_getD, List.getElem?_eq_getElem hk]
    exact List.getElem_mem hk)
  unfold oChk at q
  rw [Bool.and_eq_true, Bool.and_eq_true, List.all_eq_true, ← pc_N G (by omega)] at q
  have lt : num ((WG G).getD k []) < 1000000 := Nat.le_of_ble_eq_true q.2.2
  refine ⟨lt, ?_, fun j hj => Nat.eq_of_beq_eq_true (q.2.1 j (List.mem_range.mpr hj))⟩
  unfold ordB
  rw [decide_eq_true (nI_pos (by omega)), Bool.true_and, nI_clamp (by omega)]
  exact mOk_n hG _ _ _ q.1
/-- the class's loop -/
def cI (v : Wd) (sz wo : Nat → Nat) (G D k : Nat) (x : Int32) (h : AH) : Prop := cZ v sz wo h ∧ (k < nW G → ∃ f, f ≤ pc G ∧ x = nI f ∧ cRw (rw_ G k) (pc G) h ∧ cSt v sz wo (rw_ G k) D f h)
theorem c_first {v : Wd} {sz wo : Nat → Nat} {G D : Nat} {h : AH} (hn : v.n ≤ 6) (hG : G < 2 ^ v.n) (g0 : 0 < G) (Z : cZ v sz wo h) : ∃ h', f_X5_first 41 (nI D) (nI G) h = some (nI (nW G), h') ∧ cI v sz wo G D 0 0 h' ∧ Agr W_X5_first_i41 h h' := by
  have h64 := pow_le6 hn
  have p7 := (pc_ok G (by omega)).2
  obtain ⟨⟨t, wt⟩, _, w3, w4, _, w6⟩ := W_parts g0 (show G < 64 by omega)
  obtain ⟨h1, e1, c1⟩ := e_lowest (show G < 64 by omega) h
  have w0 : (WG G).getD 0 [] = gl G 6 := by rw [wt]; rfl
  have r0 := rChk_ok hn hG (w3 0 w6)
  rw [w0] at r0
  rw [r0.1] at c1
  have E : f_X5_first 41 (nI D) (nI G) h = some (nI (nW G), sI h1 44 0 (nI D)) := by
    unfold f_X5_first f_X5_begin
    rw [e1, ov_some, rv_41_4, an_44, og_t (by decide), nm_id, ov_some, lc0, sI_n (Or.inl (by decide)), c1.1, sN3, og_ix p7 (by omega), nI_clamp (by omega), w4]
  have ag : Agr W_X5_first_i41 h (sI h1 44 0 (nI D)) := w_f_X5_first_i41 _ _ _ _ E
  refine ⟨_, E, ⟨cZ_agr ag rfl Z, fun _ => ⟨0, Nat.zero_le _, rfl, ⟨?_, fun j hj => ?_⟩, fun j hj => ?_, fun j hj => absurd hj (by omega)⟩⟩, ag⟩
  · rw [sI_n (Or.inl (by decide))]
    exact c1.1
  · rw [sI_n (Or.inl (by decide)), c1.2 j hj]
    unfold rw_
    rw [w0]
  · have : j = 0 := by omega
    subst this
    rw [sI_s]
    rfl
theorem c_step {v : Wd} {sz wo : Nat → Nat} {G D k : Nat} {x : Int32} {h : AH} (hG : G < 2 ^ v.n) (g0 : 0 < G) (hD : D < 2 ^ v.n) (I : cI v sz wo G D k x h) (hk : k < nW G) : ∃ h3, f_X5_go 41 x h = some h3 ∧ cGo v sz wo (rw_ G k) (pc G) D h3 ∧ Agr W_X5_go_i41 h h3 := by
  obtain ⟨Z, I2⟩ := I
  obtain ⟨f, hf, rfl, Rw, St⟩ := I2 hk
  obtain ⟨h3, e, a, b, c⟩ := e_go (W_row Z.1.1.1.1 hG g0 hk).1 hD hf Z Rw St
  exact ⟨h3, e, ⟨a, b, c⟩, w_f_X5_go_i41 _ _ _ e⟩
theorem cGo_agr {W : List (Nat × Nat)} {v : Wd} {sz wo : Nat → Nat} {row : Nat → Nat} {m D : Nat} {h0 h : AH} (a : Agr W h0 h) (d : Wdis W ((38, 1000) :: (39, 1000) :: (41, 2) :: (42, 1000) :: (43, 1000) :: (44, 1000) :: STc) = true) (g : cGo v sz wo row m D h0) : cGo v sz wo row m D h := by
  have e := agr_on a d
  have e' : EqOn ((38, 1000) :: (39, 1000) :: (41, 2) :: (42, 1000) :: (43, 1000) :: (44, 1000) :: STc) h0 h := e
  refine ⟨⟨cF_eq (eqOn_sub e' rfl) g.1.1, cK_eq (eqOn_c e' 38 (fun _ => rfl)) (eqOn_c e' 39 (fun _ => rfl)) g.1.2⟩, ?_, ?_⟩
  · have := g.2.1
    unfold cRw at this ⊢
    rw [e' 41 2 rfl, eqOn_c e' 42 (fun _ => rfl)]
    exact this
  · have := g.2.2
    unfold cSt at this ⊢
    rw [eqOn_c e' 43 (fun _ => rfl), eqOn_c e' 44 (fun _ => rfl)]
    exact this
theorem c_nxt {v : Wd} {sz wo : Nat → Nat} {G D k : Nat} {h : AH} (hG : G < 2 ^ v.n) (g0 : 0 < G) (g : cGo v sz wo (rw_ G k) (pc G) D h) (hk : k < nW G) : ∃ y h4, f_X5_advance 41 h = some (y, h4) ∧ cI v sz wo G D (k + 1) y h4 ∧ Agr W_X5_advance_i41 h h4 := by
  have hn := g.1.1.1.1.1
  have h64 := pow_le6 hn
  have ro := (W_row hn hG g0 hk).1
  obtain ⟨h4, e4, c4⟩ := e_advance g.2.1 ro hn (pc_pos G (by omega) g0)
  have ag : Agr W_X5_advance_i41 h h4 := w_f_X5_advance_i41 _ _ e4
  refine ⟨_, h4, e4, ⟨cZ_agr ag rfl g.1, fun hk1 => ?_⟩, ag⟩
  obtain ⟨a1, a2, a3⟩ := W_adv g0 (show G < 64 by omega) hk1
  refine ⟨_, a1, rfl, cRw_cong a2 c4, fun j hj => ?_, fun j hj => ?_⟩
  · rw [agr_cell ag 44 rfl, g.2.2.1 j (by omega), stS_cong j (fun i hi => a3 i (by omega))]
  · rw [agr_cell ag 43 rfl, ← a3 j hj, g.2.2.2 j (by omega)]
    exact tkS_cong (fun i hi => a3 i (by omega))
theorem c_it {v : Wd} {sz wo : Nat → Nat} {G D k : Nat} {x : Int32} {h : AH} (hG : G < 2 ^ v.n) (g0 : 0 < G) (hD : D < 2 ^ v.n) (I : cI v sz wo G D k x h) (hk : k < nW G) : ∃ h3 y h4, f_X5_go 41 x h = some h3 ∧ cGo v sz wo (rw_ G k) (pc G) D h3 ∧ f_X5_advance 41 h3 = some (y, h4) ∧ cI v sz wo G D (k + 1) y h4 := by
  obtain ⟨h3, e3, g3, _⟩ := c_step hG g0 hD I hk
  obtain ⟨y, h4, e4, I4, _⟩ := c_nxt hG g0 g3 hk
  exact ⟨h3, y, h4, e3, g3, e4, I4⟩
/-- the model's loop -/
def mW (G : Nat) (h : AH) : Prop := h.1 56 34 = nI (nW G) ∧ ∀ k, k < nW G → h.1 70 k = nI (num ((WG G).getD k []))
theorem mW_agr {W : List (Nat × Nat)} {G : Nat} {h0 h : AH} (a : Agr W h0 h) (d : Wdis W ((56, 34) :: (70, 1000) :: []) = true) (g : mW G h0) : mW G h := by
  have e := agr_on a d
  unfold mW at g ⊢
  rw [e 56 34 rfl, eqOn_c e 70 (fun _ => rfl)]
  exact g
theorem m_all {n G : Nat} (hn : n ≤ 6) (hG : G < 2 ^ n) (g0 : 0 < G) {h : AH} (h20 : h.1 56 20 = nI n) : ∃ h', f_X12_allWays 56 (nI G) h = some h' ∧ mW G h' ∧ Agr W_X12_allWays_i56 h h' := by
  have h64 := pow_le6 hn
  have p7 := pc_ok G (by omega)
  obtain ⟨_, _, _, _, w5, _⟩ := W_parts g0 (show G < 64 by omega)
  have lay := e_layWays hn hG 12 0 [] 0 (sI h 56 34 0) (by decide) (fun i _ q => by simp at q) (by rw [← pc_N G (by omega)]; show pc G < 0 + 12; omega) (by rw [Nat.zero_add]; exact w5) (by decide) h20 (sI_s ..)
  obtain ⟨h1, e1, m1⟩ := lay
  have E : f_X12_allWays 56 (nI G) h = some h1 := by
    unfold f_X12_allWays
    rw [nm_id]
    have e1' : r_X12_layWays 12 56 (nI G) 0 0 (sI h 56 34 0) = some h1 := e1
    rw [e1', ov_some]
  refine ⟨h1, E, ⟨?_, fun k hk => ?_⟩, w_f_X12_allWays_i56 _ _ _ E⟩
  · rw [m1.1, Nat.zero_add]
    rfl
  · have := m1.2.2 k hk
    rw [Nat.zero_add] at this
    exact this
theorem mRw_cong {row row' : Nat → Nat} {m : Nat} {h : AH} (e : ∀ j, j < m → row j = row' j) (c : mRw row m h) : mRw row' m h := ⟨c.1, fun j hj => by rw [c.2 j hj, e j hj]⟩
theorem m_way {v : Wd} {sz wo : Nat → Nat} {G D k : Nat} {h : AH} (hG : G < 2 ^ v.n) (g0 : 0 < G) (hD : D < 2 ^ v.n) (Z : mG v sz wo h) (M : mW G h) (hk : k < nW G) : ∃ h', f_X12_goWay 56 (nI k) (nI G) (nI D) h = some h' ∧ mGo v sz wo (rw_ G k) (pc G) D h' ∧ mW G h' ∧ Agr W_X12_goWay_i56 h h' := by
  have hn := Z.1.1.1
  have h64 := pow_le6 hn
  obtain ⟨_, _, _, _, w5, _⟩ := W_parts g0 (show G < 64 by omega)
  obtain ⟨n1, n2, n3⟩ := W_num hn hG g0 hk
  obtain ⟨h1, e1, f1⟩ := e_layM hn hG g0 (nI (num ((WG G).getD k []))) h Z.1.2.1
  have a1 : Agr W_X12_layOrder_i56 h h1 := w_f_X12_layOrder_i56 _ _ _ _ e1
  have Rw := f1 n2
  rw [nI_clamp (by omega)] at Rw
  obtain ⟨h5, e5, g5, a5⟩ := m_go0 (mG_agr a1 rfl Z) (mRw_cong n3 Rw) (W_row hn hG g0 hk).1 hD
  have E : f_X12_goWay 56 (nI k) (nI G) (nI D) h = some h5 := by
    unfold f_X12_goWay
    rw [rv_56_33, an_70, og_ix (by omega) (by omega), nI_clamp (by omega), M.2 k hk, e1, ob_some, e5, ov_some]
  exact ⟨h5, E, g5, mW_agr a5 rfl (mW_agr a1 rfl M), w_f_X12_goWay_i56 _ _ _ _ _ E⟩
/-! orders -/
def cnF (v : Wd) (sz wo : Nat → Nat) (G D p : Nat) (x : Int32) (k : Nat) : Int32 := if tkP v sz wo (rw_ G k) (pc G) D p = x then 1 else 0
theorem e_countC {v : Wd} {sz wo : Nat → Nat} {G D p : Nat} {h : AH} (x : Int32) (hG : G < 2 ^ v.n) (g0 : 0 < G) (hD : D < 2 ^ v.n) (Z : cZ v sz wo h) (hp : p < v.n) (pb : G.testBit p = true) : ∃ h', f_X5_countOrders 41 (nI D) (nI G) (nI p) x h = some (zs (cnF v sz wo G D p x) (nW G), h') ∧ cZ v sz wo h' := by
  have hn := Z.1.1.1.1
  have h64 := pow_le6 hn
  obtain ⟨_, _, _, _, w5, _⟩ := W_parts g0 (show G < 64 by omega)
  obtain ⟨h1, e1, I1, _⟩ := c_first (D := D) hn hG g0 Z
  unfold f_X5_countOrders
  rw [e1, ob_some]
  refine lp (fun n i (s : Int32 × Int32 × AH) => ∃ h', f_X5_countOrders_17 n 41 (nI p) x (nI (nW G)) s.1 s.2.1 (nI i) s.2.2 = some (zs (cnF v sz wo G D p x) (nW G), h') ∧ cZ v sz wo h') (fun i s => s.1 = zs (cnF v sz wo G D p x) i ∧ cI v sz wo G D i s.2.1 s.2.2) (nW G) (by omega) ?_ ?_ (s := (0, 0, h1)) ⟨rfl, I1⟩
  · rintro n ⟨s, y, g⟩ ⟨rfl, I⟩
    simp only
    rw [f_X5_countOrders_17, if_pos (by rw [nI_leI (by omega) (by omega)]; omega)]
    exact ⟨g, rfl, I.1⟩
  · rintro n i ⟨s, y, g⟩ hi ⟨rfl, I⟩ K
    simp only at K ⊢
    have I : cI v sz wo G D i y g := I
    obtain ⟨h3, y', h4, e3, g3, e4, I4⟩ := c_it hG g0 hD I hi
    rw [f_X5_countOrders_17, if_neg (by rw [nI_leI (by omega) (by omega)]; omega), e3, ov_some, rv_41_3, an_43, og_ix (by omega) (by omega), nI_clamp (by omega), cGo_t g3 (W_row hn hG g0 hi) pb]
    by_cases c : tkP v sz wo (rw_ G i) (pc G) D p = x
    · rw [if_pos c, f_X5_countOrders_48, nm_id, e4, ob_some, nm_id, nI_1]
      exact K (_, y', h4) ⟨by rw [zs, cnF, if_pos c], I4⟩
    · rw [if_neg c, f_X5_countOrders_48, nm_id, e4, ob_some, nm_id, nI_1]
      exact K (_, y', h4) ⟨by rw [zs, cnF, if_neg c], I4⟩
theorem e_ordersM {v : Wd} {G u p : Nat} {h : AH} (x : Int32) (hG : G < 2 ^ v.n) (g0 : 0 < G) (hu : u < 4) (B : mB v h) (M : mW G h) (hp : p < v.n) (pb : G.testBit p = true) : ∃ h', f_X12_orders_39 FU 56 (nI u) (nI G) (nI p) x 0 0 h = some (zs (cnF v (fun q => v.it q 3) v.wo G (door v u G) p x) (nW G), h') := by
  have hn := B.n6
  have h64 := pow_le6 hn
  obtain ⟨_, _, _, _, w5, _⟩ := W_parts g0 (show G < 64 by omega)
  refine lp (fun n i (s : Int32 × AH) => ∃ h', f_X12_orders_39 n 56 (nI u) (nI G) (nI p) x s.1 (nI i) s.2 = some (zs (cnF v (fun q => v.it q 3) v.wo G (door v u G) p x) (nW G), h')) (fun i s => s.1 = zs (cnF v (fun q => v.it q 3) v.wo G (door v u G) p x) i ∧ mB v s.2 ∧ mW G s.2) (nW G) (by omega) ?_ ?_ (s := (0, h)) ⟨rfl, B, M⟩
  · rintro n ⟨s, g⟩ ⟨rfl, B, M⟩
    have M : mW G g := M
    simp only
    rw [f_X12_orders_39, M.1, if_pos (by rw [nI_leI (by omega) (by omega)]; omega)]
    exact ⟨g, rfl⟩
  · rintro n i ⟨s, g⟩ hi ⟨rfl, B, M⟩ K
    simp only at K ⊢
    have M : mW G g := M
    have B : mB v g := B
    obtain ⟨h3, e3, g3, M3, a3⟩ := m_way hG g0 (door_lt v u G) B.1 M hi
    rw [f_X12_orders_39, M.1, if_neg (by rw [nI_leI (by omega) (by omega)]; omega), B.door hu (by omega), ob_some, e3, ov_some, rv_56_28, an_68, og_ix (by omega) (by omega), nI_clamp (by omega), mGo_t g3 (W_row hn hG g0 hi) pb]
    by_cases c : tkP v (fun q => v.it q 3) v.wo (rw_ G i) (pc G) (door v u G) p = x
    · rw [if_pos c, f_X12_orders_79, nm_id, nm_id, nI_1]
      exact K (_, h3) ⟨by rw [zs, cnF, if_pos c], mB_agr a3 rfl B, M3⟩
    · rw [if_neg c, f_X12_orders_79, nm_id, nm_id, nI_1]
      exact K (_, h3) ⟨by rw [zs, cnF, if_neg c], mB_agr a3 rfl B, M3⟩
theorem g10 : G10 Rel := by
  intro h ⟨v, R⟩ a1 a2 a3 a4
  have hn := R.n6
  have h64 := pow_le6 hn
  suffices H : ∃ r h1 h2, f_X11_orders 0 a1 a2 a3 a4 h = some (r, h1) ∧ f_X12_orders 56 a1 a2 a3 a4 h1 = some (r, h2) by
    obtain ⟨r, h1, h2, e1, e2⟩ := H
    exact ⟨r, h1, h2, e1, e2, G_of R (w_f_X11_orders_i0 _ _ _ _ _ _ e1) (w_f_X12_orders_i56 _ _ _ _ _ _ e2) rfl rfl⟩
  have R2 := R.thr (x := 0)
  cases hp : ptB v.n a1 a2 with
  | false =>
    refine ⟨-1000000, h, sI h 56 0 0, ?_, ?_⟩
    · unfold f_X11_orders
      simp only [e_isParty hn R.cn, hp, ob_some, zi, f_X11_orders_27, Bool.false_eq_true, if_false]
    · unfold f_X12_orders
      simp only [nm_id, e_isGuestM hn R2.mn, hp, Bool.false_and, ob_some, zi, f_X12_orders_24, Bool.false_eq_true, if_false]
  | true =>
    obtain ⟨u, G, hu, rfl, g0, hG, rfl⟩ := (ptB_iff hn).mp hp
    have n0 := n_of_G g0 hG
    cases hg : guB v.n (nI G) a3 with
    | false =>
      refine ⟨-1000000, h, sI h 56 0 0, ?_, ?_⟩
      · unfold f_X11_orders
        simp only [e_isParty hn R.cn, hp, ob_some, zi, f_X11_orders_27, if_true, e_isGuestC R.cn, hg, Bool.false_eq_true, if_false]
      · unfold f_X12_orders
        simp only [nm_id, e_isGuestM hn R2.mn, hp, hg, Bool.true_and, ob_some, zi, f_X12_orders_24, Bool.false_eq_true, if_false]
    | true =>
      cases hk : koB v.n a4 with
      | false =>
        refine ⟨-1000000, h, sI h 56 0 0, ?_, ?_⟩
        · unfold f_X11_orders
          simp only [e_isParty hn R.cn, hp, ob_some, zi, f_X11_orders_27, if_true, e_isGuestC R.cn, hg, e_known1 R.cn, hk, Bool.false_eq_true, if_false]
        · unfold f_X12_orders
          simp only [nm_id, e_isGuestM hn R2.mn, hp, hg, Bool.true_and, ob_some, zi, if_true, e_isPair R2.mn, hk, f_X12_orders_24, Bool.false_eq_true, if_false]
      | true =>
        obtain ⟨p, hp', rfl, pb⟩ := (guB_iff hn (by omega)).mp hg
        obtain ⟨h3, e3, B3, Z3, a3'⟩ := e_openDoor (R.cB n0) hu (show G < 64 by omega)
        obtain ⟨h4, e4, _⟩ := e_countC a4 hG g0 (door_lt v u G) Z3 hp' pb
        have E1 : f_X11_orders 0 (nI u) (nI G) (nI p) a4 h = some (zs (cnF v (fun q => v.it q 3) v.wo G (door v u G) p a4) (nW G), h4) := by
          unfold f_X11_orders
          simp only [e_isParty hn R.cn, hp, ob_some, zi, if_true, e_isGuestC R.cn, hg, e_known1 R.cn, hk, rv_0_0, rv_0_1, rv_0_2, rv_0_3, rv_0_4, rv_0_6, rv_0_7, rv_0_9, rv_0_10, rv_0_11, rv_0_12, rv_0_13, rv_0_14, rv_1_0, an_2, rv_3_0, rv_3_1, an_4, an_5, rv_6_0, rv_6_1, an_7, an_8, rv_9_0, rv_9_1, an_10, an_11, rv_12_0, rv_12_1, an_13, an_14, rv_15_0, rv_15_1, an_16, an_17, rv_18_0, rv_18_1, an_19, an_20, rv_21_0, rv_21_1, an_22, an_23, rv_24_0, rv_24_1, rv_24_2, an_25, an_26, an_27, rv_28_0, rv_28_1, rv_28_2, an_29, an_30, an_31, rv_32_0, rv_32_1, an_33, an_34, rv_35_0, rv_35_1, rv_35_2, rv_35_3, rv_35_4, rv_35_5, rv_35_6, an_36, an_37, an_38, an_39, an_40, rv_41_0, rv_41_1, rv_41_3, rv_41_4, rv_41_5, an_42, an_43, an_44, an_45, rv_46_0, rv_46_1, rv_46_2, rv_46_3, rv_46_4, rv_46_6, an_47, an_48, rv_49_0, rv_49_1, an_50, rv_51_0, rv_51_1, rv_51_2, rv_51_3, rv_51_4, rv_51_6, rv_51_7, an_52, an_53, an_54, an_55, rv_56_1, rv_56_2, rv_56_3, rv_56_4, rv_56_15, rv_56_16, rv_56_17, rv_56_19, rv_56_22, rv_56_23, rv_56_24, rv_56_25, rv_56_26, rv_56_27, rv_56_28, rv_56_31, rv_56_33, rv_56_35, rv_56_36, rv_56_37, rv_56_39, rv_56_40, rv_56_41, rv_56_42, rv_56_43, rv_56_44, rv_56_46, rv_56_47, rv_56_48, rv_56_49, rv_56_51, rv_56_52, rv_56_54, an_57, an_58, an_59, an_60, an_61, an_62, an_63, an_64, an_65, an_66, an_67, an_68, an_69, an_70, an_71, an_72, an_73, an_74, an_75, an_76, an_77, an_78, an_79, an_80, an_81, an_82, an_83, an_84, an_85, an_86, an_87, e3, e4]
        have R5 : RelV v h4 := rel_agr (w_f_X11_orders_i0 _ _ _ _ _ _ E1) rfl R
        have R6 := R5.thr (x := 0)
        obtain ⟨h6, e6, M6, a6⟩ := m_all hn hG g0 R6.mn
        have R7 : RelV v h6 := rel_agr a6 rfl R6
        obtain ⟨h7, e7⟩ := e_ordersM a4 hG g0 hu (R7.mB n0) M6 hp' pb
        refine ⟨_, h4, h7, E1, ?_⟩
        unfold f_X12_orders
        simp only [nm_id, e_isGuestM hn R6.mn, hp, hg, Bool.true_and, ob_some, zi, if_true, e_isPair R6.mn, hk, e6, ov_some, e7]
