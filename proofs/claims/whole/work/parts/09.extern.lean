section VRT
variable {E : EV} {d : Nat} {K : MK} {Z : Array Value → State → Outcome → State → Prop} {h : AH} {L : List (Nat × Value)} {st : List Value} {pc : Nat}
theorem V_acopyT {o : String} {idx i a0 a1 : Nat} {sp dp n : Int32} {h' : AH} (hl1 : Cond.methodLink o idx arraycopyName ∈ wAll) (ho : K.1.cls = o) (hi7 : i < 7) (ha : 2000 + i = a0) (h1 : (kd a1).1 = 1) (hc : cok sp dp n (sN i) (an a1) = true) (hh : h' = sCt h i sp a1 dp n) (hr : (st.map fun v => v.category).sum ≤ 8) (dd : decode K.2.1 pc = .ok (.invokestatic idx, 3)) (k : V E (d + 1) K Z h' L st (pc + 3)) : V E (d + 1) K Z h L (.int n :: .int dp :: .ref a1 :: .int sp :: .ref a0 :: st) pc := sorry
end VRT
theorem c_X11_indexIn {E : EV} {d : Nat} (hd : 1 + 1 ≤ d) {k0 : Nat} {x1 : Int32} {h : AH} {r0 : Int32} {h0 : AH} (hf : f_X11_indexIn k0 x1 h = some (r0, h0)) : Con E d K_X11_indexIn (ZI E r0 h0) [.ref k0, .int x1] h := sorry
theorem c_X12_placeOf {E : EV} {d : Nat} (hd : 1 + 1 ≤ d) {k0 : Nat} {x1 : Int32} {h : AH} {r0 : Int32} {h0 : AH} (hf : f_X12_placeOf k0 x1 h = some (r0, h0)) : Con E d K_X12_placeOf (ZI E r0 h0) [.ref k0, .int x1] h := sorry
theorem c_X12_isAmong {E : EV} {d : Nat} (hd : 1 + 1 ≤ d) {k0 : Nat} {x1 : Int32} {h : AH} {r0 : Int32} {h0 : AH} (hf : f_X12_isAmong k0 x1 h = some (r0, h0)) : Con E d K_X12_isAmong (ZI E r0 h0) [.ref k0, .int x1] h := sorry
