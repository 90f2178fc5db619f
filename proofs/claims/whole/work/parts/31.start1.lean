/-! from the start to the law's loop -/
def hInit : AH := (fun _ _ => 0, fun _ => 0, fun _ => 57)
def EFs (l : Launch) (D : va_G) (ca : Nat → ClassId) (ad : Nat → Nat) (s : State) : Prop := CK (l, D, ca, ad) (AL s) s s.heap ∧ (∀ i, i < 7 → va_Z (stN.getD i ("", "")).1 (stN.getD i ("", "")).2 "[I" (.ref (ad (2000 + i))) (AL s) s s.heap ∧ va_T .int (ad (2000 + i)) (sN i) (fun j => .int (sT i j)) (AL s) s s.heap) ∧ (va_Z "jdk/internal/util/Preconditions" "SIOOBE_FORMATTER" "Ljava/util/function/BiFunction;" .null (AL s) s s.heap ∨ va_Z "jdk/internal/util/Preconditions" "SIOOBE_FORMATTER" "Ljava/util/function/BiFunction;" (.ref (ad 3000)) (AL s) s s.heap) ∧ TW s ∧ TZ (AL s) s s.heap
theorem EFs.cast {l : Launch} {D : va_G} {ca : Nat → ClassId} {ad ad1 : Nat → Nat} {s : State} (hq : ∀ k, 88 ≤ k → ad1 k = ad k) (h : EFs l D ca ad s) : EFs l D ca ad1 s := by
  obtain ⟨⟨k1, k2, k3, k4, k5, k6⟩, h2, h3, h4, h5⟩ := h
  have e1 : (fun i => ad1 (1000 + i)) = (fun i => ad (1000 + i)) := funext fun i => hq _ (by omega)
  have e2 : (fun i => ad1 (1100 + i)) = (fun i => ad (1100 + i)) := funext fun i => hq _ (by omega)
  have h88 : ∀ q ∈ strR, 88 ≤ q.2.2.2 := by decide
  refine ⟨⟨k1, k2, ?_, k4, k5, fun q hm => ?_⟩, fun i hi => ?_, ?_, h4, h5⟩
  · show vk_S 3 strL strB (fun i => ad1 (1000 + i)) (fun i => ad1 (1100 + i)) (AL s) s s.heap
    rw [e1, e2]
    exact k3
  · show vk_R q.1 q.2.1 q.2.2.1 (ad1 q.2.2.2) s
    rw [hq _ (h88 q hm)]
    exact k6 q hm
  · rw [hq _ (by omega)]
    exact h2 i hi
  · rw [hq _ (by omega)]
    exact h3
set_option maxHeartbeats 4000000 in
theorem start_E {l : Launch} {args : Array Value} {s : State} (hts : ∀ w ∈ lw_tbl, w.before args s = true) (hgv : nar args s) : ∃ (D : va_G) (ca : Nat → ClassId) (ad : Nat → Nat), EFs l D ca ad s := by
  have hA : ∀ a : Nat, a < s.heap.size → ¬ AL s a := fun a ha => Nat.not_le.mpr ha
  have hs := flat_of_before _ hgv
  obtain ⟨dC, dI, hK⟩ := cls_K hts
  obtain ⟨ca, hca⟩ := arr_K hts
  obtain ⟨adK, adV, hS, hev⟩ := str_0 hgv hA
  obtain ⟨t0, z0, y0⟩ := sta_0 hgv hts hA
  obtain ⟨t1, z1, y1⟩ := sta_1 hgv hts hA
  obtain ⟨t2, z2, y2⟩ := sta_2 hgv hts hA
  obtain ⟨t3, z3, y3⟩ := sta_3 hgv hts hA
  obtain ⟨t4, z4, y4⟩ := sta_4 hgv hts hA
  obtain ⟨t5, z5, y5⟩ := sta_5 hgv hts hA
  obtain ⟨t6, z6, y6⟩ := sta_6 hgv hts hA
  obtain ⟨tF, hF⟩ : ∃ t : Nat, va_Z "jdk/internal/util/Preconditions" "SIOOBE_FORMATTER" "Ljava/util/function/BiFunction;" .null (AL s) s s.heap ∨ va_Z "jdk/internal/util/Preconditions" "SIOOBE_FORMATTER" "Ljava/util/function/BiFunction;" (.ref t) (AL s) s s.heap := by
    rcases va_Zqof (hts _ ls_SIO) (hts _ ini_jdk_internal_util_Preconditions) (hs _ (by decide +kernel)) hA with h | ⟨t, h⟩
    · exact ⟨0, Or.inl h⟩
    · exact ⟨t, Or.inr h⟩
  refine ⟨(dC, dI), ca, adT0 adK adV (fun i => [t0, t1, t2, t3, t4, t5, t6].getD i 0) tF, ⟨⟨hK, hca⟩, fun w hw => va_Nw.of (nst_tab hw) (hts w (nstL_in hw)), ?_, va_Zof (hts _ ls_COMPACT) (hts _ (wAll_in in_J0)) (va_eqi (hs _ (by decide +kernel))) hA, va_AO.of (hts _ ao_rule), str_R hgv hts hev rfl rfl rfl⟩, fun i hi => ?_, hF, fun w hw hg => ?_, vx_Zqof (hts _ ls_UNA) (hts _ ini_java_lang_Throwable) (hs _ (by decide +kernel)) hA, vx_Zqof (hts _ ls_SUP) (hts _ ini_java_lang_Throwable) (hs _ (by decide +kernel)) hA⟩
  · refine ⟨fun i hi => ?_, fun i j hi hj e => ?_⟩
    · match i, hi with
      | 0, _ => exact hS.1 0 (by decide)
      | 1, _ => exact hS.1 1 (by decide)
      | 2, _ => exact hS.1 2 (by decide)
    · have key : ∀ i, i < 3 → adT0 adK adV (fun i => [t0, t1, t2, t3, t4, t5, t6].getD i 0) tF (1000 + i) = adK i := by
        intro i hi
        match i, hi with
        | 0, _ => rfl
        | 1, _ => rfl
        | 2, _ => rfl
      exact hS.2 i j hi hj ((key i hi).symm.trans (e.trans (key j hj)))
  · match i, hi with
    | 0, _ => exact ⟨z0, y0⟩
    | 1, _ => exact ⟨z1, y1⟩
    | 2, _ => exact ⟨z2, y2⟩
    | 3, _ => exact ⟨z3, y3⟩
    | 4, _ => exact ⟨z4, y4⟩
    | 5, _ => exact ⟨z5, y5⟩
    | 6, _ => exact ⟨z6, y6⟩
  · rcases nse_form hw hg with ⟨_, _, rfl⟩ | ⟨_, rfl⟩
    · exact va_Nw.of rfl (hts _ (nse_tbl _ hw))
    · exact va_Nw.of rfl (hts _ (nse_tbl _ hw))
/-- the addresses of the 88 cells -/
def adW (q0 qM qo : Nat) (u u2 : List Nat) (ad : Nat → Nat) : Nat → Nat := fun k => if k = 0 then q0 else if k < 56 then u.getD (k - 1) 0 else if k = 56 then qM else if k < 87 then u2.getD (k - 57) 0 else if k = 87 then qo else ad k
def ws0 (E : EV) (q0 qM qo : Nat) (u u2 : List Nat) : va_W := (w_X11 E q0 u ++ w_X12 E qM u2) ++ [(qo, .inl (E.2.2.1 5, 1, .inr (.inl (fun _ => 0))))]
set_option maxHeartbeats 40000000 in
set_option maxRecDepth 1000000 in
theorem ws_eq (l : Launch) (D : va_G) (ca : Nat → ClassId) (ad : Nat → Nat) (q0 qM qo : Nat) (u u2 : List Nat) : ((ws0 (l, D, ca, ad) q0 qM qo u u2).set 11 (u.getD 10 0, .inl (ca 4, 4, .inr (.inr (.inr (.inr (fun i => some (adW q0 qM qo u u2 ad (rf 11 i))))))))).set 87 (qo, .inl (ca 5, 1, .inr (.inl (fun i => if i = 0 then (0 : Int64) else 0)))) = wld (l, D, ca, adW q0 qM qo u u2 ad) hInit := by
  rfl
