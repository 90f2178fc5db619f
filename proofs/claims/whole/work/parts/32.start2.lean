theorem rcell {cA : ClassId} {f g : Nat → Option Nat} (h : ∀ j, j < 4 → f j = g j) : vp_cell cA (4, .inr (.inr (.inr (.inr f)))) = vp_cell cA (4, .inr (.inr (.inr (.inr g)))) := by
  show arrV cA 4 (fun j => va_rf (f j)) = arrV cA 4 (fun j => va_rf (g j))
  unfold arrV
  congr 1
  congr 1
  funext j
  show va_rf (f j.val) = va_rf (g j.val)
  rw [h j.val j.isLt]
theorem ocell {cA : ClassId} : vp_cell cA (1, .inr (.inl (fun _ => (0 : Int64)))) = vp_cell cA (1, .inr (.inl (fun i => if i = 0 then (0 : Int64) else 0))) := by
  have : (fun _ : Nat => (0 : Int64)) = (fun i => if i = 0 then (0 : Int64) else 0) := by
    funext i
    by_cases hi : i = 0 <;> simp [hi]
  rw [this]
set_option maxHeartbeats 40000000 in
set_option maxRecDepth 1000000 in
theorem start_loop {P : AH → Prop} (hG : Good P) (hI : P hInit) {l : Launch} {D : va_G} {ca : Nat → ClassId} {ad : Nat → Nat} {s : State} (hE : EFs l D ca ad s) (hst : l.stackTraces = false) {b Ln : Nat} {xs : Nat → Int32} (hL : Ln ≤ 3072) (hX : va_X b Ln xs s s.heap) (hbl : b < s.heap.size) {q0 qM qo : Nat} {u u2 : List Nat} : VC (l, D, ca, ad) room_1 K_L s (AL s) QFl (ws0 (l, D, ca, ad) q0 qM qo u u2) [(4, .int 0), (3, .ref qo), (2, .ref qM), (1, .ref q0), (0, .ref b)] [] 88 11897 23 := by
  intro p e m args below meth c H locs ls C hP hD hS hl
  have hE1 : EFs l D ca (adW q0 qM qo u u2 ad) s := EFs.cast (fun k hk => by
    unfold adW
    rw [if_neg (by omega), if_neg (by omega), if_neg (by omega), if_neg (by omega), if_neg (by omega)]) hE
  have at11 : va_at D vwCl (u.getD 10 0, .inl (ca 4, 4, .inr (.inr (.inr (.inr (fun i => some (adW q0 qM qo u u2 ad (rf 11 i)))))))) H := by
    have h11 := hP 11 _ rfl
    refine Eq.trans h11 (congrArg some (rcell (fun j hj => ?_)))
    match j, hj with
    | 0, _ => rfl
    | 1, _ => rfl
    | 2, _ => rfl
    | 3, _ => rfl
  have hP1 := hP.set hD (p := 11) rfl at11 (fun _ _ => rfl)
  have hD1 := hD.set (p := 11) (e := .inl (ca 4, 4, .inr (.inr (.inr (.inr (fun i => some (adW q0 qM qo u u2 ad (rf 11 i)))))))) rfl
  have at87 : va_at D vwCl (qo, .inl (ca 5, 1, .inr (.inl (fun i => if i = 0 then (0 : Int64) else 0)))) H := by
    have h87 := hP 87 _ rfl
    exact Eq.trans h87 (congrArg some ocell)
  have hP2 := hP1.set hD1 (p := 87) rfl at87 (fun _ _ => rfl)
  have hD2 := hD1.set (p := 87) (e := .inl (ca 5, 1, .inr (.inl (fun i => if i = 0 then (0 : Int64) else 0)))) rfl
  rw [ws_eq] at hP2 hD2
  have inj : ∀ i j, i < 88 → j < 88 → adW q0 qM qo u u2 ad i = adW q0 qM qo u u2 ad j → i = j := fun i j hi hj q => hD2.1 i j _ _ (wld_at hi) (wld_at hj) q
  have hAA : ∀ q, AA (l, D, ca, adW q0 qM qo u u2 ad) q → AL s q := fun q ⟨k, hk, hq⟩ => by
    rw [hq]
    exact hD2.2 k _ (wld_at hk)
  have C1 : LCtx (l, D, ca, adW q0 qM qo u u2 ad) s b Ln xs := ⟨⟨hE1.1, inj, hE1.2.1, hE1.2.2.1⟩, hE1.2.2.2.1, hE1.2.2.2.2, hAA, hX, hbl, hst⟩
  have hl2 : lv_has ls 7 (LL (l, D, ca, adW q0 qM qo u u2 ad) b 0) := lv_sub hl [4, 3, 2, 1, 0] rfl
  obtain ⟨c1, c2, c3, c4, c5, c6, c7, c8, c9, c10⟩ := C
  exact law_loop hG hL C1 (Ln + 1) 0 0 88 11897 hInit (Nat.zero_le _) (by omega) nI_0.symm (Nat.le_refl _) (Nat.le_refl _) hI p e m args below meth c H locs ls ⟨c1, c2, c3, c4, c5, c6, c7, c8, c9, hE1.1⟩ hP2 hD2 hS hl2
set_option maxHeartbeats 40000000 in
set_option maxRecDepth 1000000 in
theorem start_walk {P : AH → Prop} (hG : Good P) (hI : P hInit) {l : Launch} {D : va_G} {ca : Nat → ClassId} {ad : Nat → Nat} {s : State} (hE : EFs l D ca ad s) (hst : l.stackTraces = false) {b Ln : Nat} {xs : Nat → Int32} (hL : Ln ≤ 3072) (hX : va_X b Ln xs s s.heap) (hbl : b < s.heap.size) : VC (l, D, ca, ad) room_1 K_L s (AL s) QFl [] [(0, .ref b)] [] 0 0 0 := by
  refine C_new (ci := 11) tyX11 [.null, .null, .null, .null, .null, .int 0, .null, .null, .int 0, .null, .null, .null, .null, .null, .null, .long 0] rfl iw_X11 tyX11_ok cl_L_8 is_X11 in_X11 rfl (by decide +kernel) (Nat.le_of_ble_eq_true rfl) (Nat.le_of_ble_eq_true rfl) dL_law_0 (fun q0 => ?_)
  refine C_dup dL_law_3 rfl ?_
  refine C_init (E := (l, D, ca, ad)) (K := K_L) (nn := 0) (wr := []) (As := []) (rest := [.ref q0]) k_X11 ⟨cd_X11_init, in_X11, ⟨by decide, by decide, by decide +kernel⟩, by decide⟩ im_X11_init (Or.inl ml_L_15) rfl rfl rfl rfl rfl (Nat.le_of_ble_eq_true rfl) ⟨(Nat.le_of_ble_eq_true rfl), (Nat.le_of_ble_eq_true rfl)⟩ ⟨(Nat.le_of_ble_eq_true rfl), (Nat.le_of_ble_eq_true rfl)⟩ dL_law_4 (fun u hu => ?_)
  refine C_ws (ws' := w_X11 (l, D, ca, ad) q0 u) rfl ?_
  refine C_astore_n (L' := [(1, .ref q0), (0, .ref b)]) dL_law_7 rfl (Nat.le_of_ble_eq_true rfl) rfl ?_
  refine C_new (ci := 12) tyX12 (.int 0 :: .null :: .null :: .null :: .null :: .null :: .int 0 :: .int 0 :: .int 0 :: .int 0 :: .int 0 :: .int 0 :: .int 0 :: .int 0 :: .int 0 :: .null :: .null :: .null :: .int 0 :: .null :: .int 0 :: .int 0 :: .null :: .null :: .null :: .null :: .null :: .null :: .null :: .int 0 :: .int 0 :: .null :: .int 0 :: .null :: .int 0 :: .null :: .null :: .null :: .long 0 :: .null :: .null :: .null :: .null :: .null :: .null :: .int 0 :: .null :: .null :: .null :: .null :: .int 0 :: .null :: .null :: .int 0 :: .null :: .int 0 :: .int 0 :: .int 0 :: []) rfl iw_X12 tyX12_ok cl_L_16 is_X12 in_X12 rfl (by decide +kernel) (Nat.le_of_ble_eq_true rfl) (Nat.le_of_ble_eq_true rfl) dL_law_8 (fun qM => ?_)
  refine C_dup dL_law_11 rfl ?_
  refine C_init (E := (l, D, ca, ad)) (K := K_L) (nn := 0) (wr := w_X11 (l, D, ca, ad) q0 u) (As := []) (rest := [.ref qM]) k_X12 ⟨cd_X12_init, in_X12, ⟨by decide, by decide, by decide +kernel⟩, by decide⟩ im_X12_init (Or.inl ml_L_18) rfl rfl rfl rfl rfl (Nat.le_of_ble_eq_true rfl) ⟨(Nat.le_of_ble_eq_true rfl), (Nat.le_of_ble_eq_true rfl)⟩ ⟨(Nat.le_of_ble_eq_true rfl), (Nat.le_of_ble_eq_true rfl)⟩ dL_law_12 (fun u2 hu2 => ?_)
  refine C_astore_n (L' := [(2, .ref qM), (1, .ref q0), (0, .ref b)]) dL_law_15 rfl (Nat.le_of_ble_eq_true rfl) rfl ?_
  refine C_iconst (v := 1) dL_law_16 (by decide) ?_
  refine C_new_long (N := 1) (by decide) (by decide) (by decide) (Nat.le_of_ble_eq_true rfl) (Nat.le_of_ble_eq_true rfl) dL_law_17 (fun qo => ?_)
  refine C_astore_n (L' := [(3, .ref qo), (2, .ref qM), (1, .ref q0), (0, .ref b)]) dL_law_19 rfl (Nat.le_of_ble_eq_true rfl) rfl ?_
  refine C_iconst (v := 0) dL_law_20 (by decide) ?_
  refine C_istore (L' := [(4, .int 0), (3, .ref qo), (2, .ref qM), (1, .ref q0), (0, .ref b)]) dL_law_21 (Nat.le_of_ble_eq_true rfl) rfl ?_
  exact start_loop hG hI hE hst hL hX hbl
theorem whole_start {P : AH → Prop} (hG : Good P) (hI : P hInit) {p : Program} {e : Env} {s : State} {m : MethodId} {below : List Frame} {meth : Method} {c : Code} (l : Launch) (hst : l.stackTraces = false) (htab : c.exceptionTable.toList = []) {b L : Nat} {xs : Nat → Int32} (hL : L ≤ 3072) (C0 : lw_At p s m meth c b L xs) : W p l e room_1 s m #[Value.ref b] below meth c s.heap [] 0 0 (lw_Z below #[Value.ref b] s) (entryFrame m ([Value.ref b] : List Value).toArray 7) := by
  obtain ⟨hx, hb, hr, hml, hown, hts, hX, hbl, hlocks, hgv⟩ := C0
  obtain ⟨D, ca, ad, hE⟩ := start_E (l := l) hts hgv
  have hl := lv_entry ([.ref b]) (n := 7) (Nat.le_of_ble_eq_true rfl)
  rw [lg_entry_eq]
  exact start_walk hG hI hE hst hL hX hbl p e m _ below meth c s.heap [] _ ⟨hx, hb, hr, hml, hown, fun w hw => hts w (wAll_in hw), hlocks, fun q h => h, ⟨fun z => absurd z (by decide), htab⟩, hE.1⟩ (fun k q h => by simp at h) ⟨fun i j p q h => by simp at h, fun k q h => by simp at h⟩ va_S.rf hl
set_option maxHeartbeats 4000000 in
theorem lw_walk {P : AH → Prop} (hG : Good P) (hI : P hInit) (l : Launch) (hst : l.stackTraces = false) (b : Addr) (xs : List Int32) : MetFree l x (headSpec (Jvm.Cond.code x code maxLocals ret :: tables_1) room_1) (lw_P b xs) (fun _ _ _ _ _ => True) lw_Q := by
  refine MetFree.of_bodyS (code := code) (maxLocals := maxLocals) (ret := ret) (by decide) ?_ ?_
  · intro args s m h hn
    obtain ⟨meth, c, h1, h2, h3, h4, h5, h6, -, -⟩ := Cond.code_spec hn (atoms_spec (ws := Jvm.Cond.code x code maxLocals ret :: tables_1) h _ List.mem_cons_self)
    exact ⟨meth, c, h1, h2, h3, h4, h5, h6⟩
  · intro p e s m args below meth c s₁ B hml0 hP _
    obtain ⟨rfl, hx, hbd, hgv⟩ := hP
    obtain ⟨scr, harrAt, hlist, hof, hsmall⟩ := hx
    obtain ⟨hcb, hkn, -, -⟩ := State.arrayAt?_spec harrAt
    have hown : s.vm.findClass R_law = some m.cls := findClass_of_methodNamed B.named
    have hts0 : ∀ c ∈ (Jvm.Cond.code x code maxLocals ret :: tables_1), c.before #[Value.ref b] s = true := atoms_spec (ws := Jvm.Cond.code x code maxLocals ret :: tables_1) B.pre
    have hts : ∀ w ∈ lw_tbl, w.before #[Value.ref b] s = true := k2_hts_sels lw_privs (fun w hw => hts0 w (List.mem_cons_of_mem _ hw)) lw_privs_ok
    have hml : c.maxLocals = 7 := B.maxLocals_eq (hts0 _ List.mem_cons_self)
    have X₀ : Stand p l e room_1 s m #[Value.ref b] below meth c s₁ [] 0 0 := Stand.of_body B
    have hh0 : s₁.heap = s.heap := by rw [B.state]; rfl
    have hsz : scr.slots.size = xs.length := by rw [← Array.length_toList, hlist, List.length_map]
    have hval : ∀ j : Nat, j < xs.length → scr.slots[j]? = some (.int (xs.getD j 0)) := fun j hj => by
      rw [← Array.getElem?_toList, hlist]
      simp [hj]
    have hbl : b < s.heap.size := (Array.getElem?_eq_some_iff.mp hcb).1
    have hX : va_X b xs.length (fun j => xs.getD j 0) s s.heap := ⟨scr, hcb, hof, hkn, hsz, hval⟩
    have K : W p l e room_1 s m #[Value.ref b] below meth c s₁.heap [] 0 0 (lw_Z below #[Value.ref b] s) (entryFrame m ([Value.ref b] : List Value).toArray 7) := by
      rw [hh0]
      exact whole_start hG hI l hst (code_tab B.named B.method (Stand.of_body B).code (hts0 _ List.mem_cons_self)) hbd ⟨B.exec, B.bytes, B.returns, hml, hown, hts, hX, hbl, B.notSynchronized, hgv⟩
    obtain ⟨t, a1, o, b1, b2, b3⟩ := K s₁ rfl X₀
    exact ⟨t, o, a1, b1, b2, b3⟩
theorem lw_pre_spec {args : Array Value} {s : State} (h : (Jvm.Cond.and given_1 narrow_1).before args s = true) (hr : rest_1_c.before args s = true) : ∃ (b : Addr) (xs : List Int32), lw_P b xs args s := by
  have hs := flat_of_before _ h
  have hq := flat_of_before _ hr
  have hc : (Cond.count 1).before args s = true := hs _ (by decide +kernel)
  have harr : (Cond.arrayOf (.arg 0) .int).before args s = true := hs _ (by decide +kernel)
  have hle : (Cond.le (.length (.arg 0)) (.int 3072)).before args s = true := hs _ (by decide +kernel)
  have hlen : (Cond.isInt (.length (.arg 0))).before args s = true := hq _ (by decide +kernel)
  have hall : (Cond.all (.arg 0) (.isInt (.elem (.arg 0) (.index 0)))).before args s = true := hq _ (by decide +kernel)
  obtain ⟨b, xs, hb, hx⟩ := State.ints_of_pre rfl harr hlen hall
  have hsm : xs.length < 2 ^ 31 := hx.choose_spec.2.2.2
  have hev : (Term.length (.arg 0)).eval args s none [] s = some (.int xs.length.toInt32) := hx.length_eval hb
  have hv := Cond.le_ints hev (show (Term.int 3072).eval args s none [] s = some (.int 3072) from rfl)
  have hd : xs.length.toInt32 ≤ 3072 := by
    simpa [Cond.before, Cond.holds, hv] using hle
  have hN : xs.length ≤ 3072 := (Int32.ofNat_le_ofNat hsm (by decide)).mp (show Int32.ofNat xs.length ≤ Int32.ofNat 3072 from hd)
  exact ⟨b, xs, Cond.one_arg hc (show args[0]? = some (.ref b) from hb), hx, hN, h⟩
theorem lw_comes {P : AH → Prop} (hG : Good P) (hI : P hInit) (l : Launch) (hst : l.stackTraces = false) : Comes l x (Jvm.Cond.code x code maxLocals ret :: tables_1) room_1 (fun tb e args s => Calls_1 tb e args s ∧ rest_1 tb e args s ∧ Pre_1 tb e args s)
    (fun _ _ args s o t => lw_Q args s o t) := by
  intro p e ha hc hk s m args below hf hfit hheap happ hpre
  obtain ⟨b, xs, hP⟩ := lw_pre_spec hpre.2.2 hpre.2.1
  obtain ⟨k, o, h1, h2, h3, hQ⟩ := lw_walk hG hI l hst b xs p e ha hc hk s m args below hf ((Spec.applies_iff_loose hf).mp happ).1 hP trivial
  exact ⟨k, o, h1, h2, h3, hQ⟩
theorem lw_frame {s t : State} {o : Outcome} {args : Array Value} (h : Framed s o t [] 601024 7293034) :
    Framed s o t (fieldLocs frame_1_writes args s ++ arrayLocs frame_1_arrays args s ++ staticLocs frame_1_statics s) 601024 7293034 := h
theorem lw_limb {P : AH → Prop} (hG : Good P) (hI : P hInit) (L : Cond) (hL : ∀ (args : Array Value) (s t : State), L.after args s (.returned (some (.int 1))) t = true) :
    ArmFor flags0 classFile x code maxLocals ret World_1 tables_1 room_1 Calls_1 rest_1 Pre_1
      (fun tb e a s o t => postC L tb e a s o t ∧ Framed s o t (fieldLocs frame_1_writes a s ++ arrayLocs frame_1_arrays a s ++ staticLocs frame_1_statics s) 601024 7293034) := by
  intro l hfl _ _ p e ha hc hk s m args below hf hfit hheap happ hpre
  obtain ⟨k, o, h1, h2, h3, rfl, hF⟩ := lw_comes hG hI l (by unfold Launch.stackTraces; rw [hfl]; decide +kernel) p e ha hc hk s m args below hf hfit hheap happ hpre
  exact ⟨k, _, h1, h2, h3, hL args s _, lw_frame hF⟩
theorem i_vc_open {P : AH → Prop} (hG : Good P) (hI : P hInit) : Claimed_1_1 ∧ Claimed_1_2 := ⟨lw_limb hG hI limb_1_1 (fun args s t => by simp [limb_1_1, Cond.after, Cond.holds, Cond.value]), lw_limb hG hI limb_1_2 (fun args s t => Cond.after_iff.mpr (by
  first | (rw [show limb_1_2 = Cond.eq .result (.int 1) from rfl, Cond.eq_ints (x := 1) (y := 1) rfl rfl]; simp; done) | (simp [limb_1_2, Cond.value, Term.eval]; done)))⟩

