/-! ===== calls ===== -/
/-- a method by its code, as the tables have it -/
def zO (y : MethodName) (cc : ByteArray) (nL : Nat) (ret : Option FieldType) (n : Nat) : Prop :=
  Cond.code y cc nL ret ∈ zT ∧ Cond.initialized y.cls ∈ zT ∧ (y.cls ≠ "java/lang/invoke/MethodHandle" ∧ y.cls ≠ "java/lang/invoke/VarHandle" ∧ (parseMethodDescriptor y.desc).map (fun d => d.parameters.length) = some n)
theorem zO_good {y : MethodName} {cc : ByteArray} {nL : Nat} {ret : Option FieldType} {n : Nat} (O : zO y cc nL ret n) : GoodIn zT (.code y cc nL ret :: zT) := fun w hw => (List.mem_cons.mp hw).elim (fun q => by subst q; exact zT_good _ O.1) (fun q => zT_good w q)
section ZC
variable {s0 : State} {D : va_G} {tys : List (ClassId × FieldType)} {y : MethodName} {cc : ByteArray} {nL : Nat} {ret : Option FieldType} {rF rL mc ms pc : Nat} {lo : List (Nat × Value)} {hi hm : zHp} {nx : Nat} {Q : Option Value → zHp → zHp → Nat → Prop}
variable {y2 : MethodName} {cc2 : ByteArray} {nL2 : Nat} {ret2 : Option FieldType} {rF2 rL2 mc2 ms2 : Nat} {As rest : List Value} {Q2 : Option Value → zHp → zHp → Nat → Prop} {n idx : Nat}
theorem zFB {av : List Value} : FrameBlind (va_Pc av (fun U => s0.WarmedH U.vm ∧ z_W s0 D hi hm nx U.heap)) := fun a U g mk q => q
theorem zPre {av : List Value} {s : State} {H : Heap} (f8 : s0.WarmedH s.vm) (f11 : z_W s0 D hi hm nx H) : ∀ U : State, U.heap = H → s.WarmedH U.vm → va_Pc av (fun U => s0.WarmedH U.vm ∧ z_W s0 D hi hm nx U.heap) av.toArray U := fun U hU hW => ⟨rfl, State.WarmedH.trans f8 hW, by rw [hU]; exact f11⟩
theorem z_call {p : Program} {l : Launch} {e : Env} {R : Room} {s : State} {m : MethodId} {args : Array Value} {below : List Frame} {meth : Method} {c : Code} {H : Heap} {locs : List Loc} {cells slots : Nat} {ls : Array Slot} {st0 : List Value} {a : Array Value} {Qz : State → Prop}
    (hr : va_Run p l e R s m args below meth c H locs cells slots mc2 ms2 (F0 m pc ls st0) rest (zQc s0 D Q2 a) (zA s0)) (hS : va_S (zA s0) s.heap H locs)
    (kk : ∀ (v : Option Value) (hi' hm' : zHp) (nx' : Nat) (H1 : Heap) (locs1 : List Loc), Q2 v hi' hm' nx' → z_W s0 D hi' hm' nx' H1 → va_S (zA s0) s.heap H1 locs1 → W p l e R s m args below meth c H1 locs1 (cells + mc2) (slots + ms2) Qz (F0 m (pc + 3) ls (v.toList ++ rest))) : W p l e R s m args below meth c H locs cells slots Qz (F0 m pc ls st0) := by
  intro T hT X
  obtain ⟨v, st₀, t, T', L, h0, X', hL, e1, e2, ⟨⟨v', hi', hm', nx', hv, hq, hw⟩, hz, hk⟩, st⟩ := hr T hT X
  cases hv
  rw [h0] at hz hk
  obtain ⟨t2, a1, b1⟩ := kk v hi' hm' nx' T'.heap (locs ++ L) hq (by rw [e1]; exact hw) ⟨Nat.le_trans hS.1 (by rw [e1]; exact hz), fun q h1 h2 => by rw [e1, hk q (Nat.lt_of_lt_of_le h1 hS.1) h2]; exact hS.2.1 q h1 h2, fun q hq => by
      rcases List.mem_append.mp hq with h | h
      · exact hS.2.2 q h
      · exact hL q h⟩ T' rfl X'
  exact ⟨t2, st t2 a1, b1⟩
/-- static, of any class -/
theorem zV_callS (hM : zM s0 D tys y2 cc2 nL2 ret2 rF2 rL2 mc2 ms2 As hi hm nx Q2) (O : zO y2 cc2 nL2 ret2 n) (hlink : Cond.methodLink y.cls idx y2 ∈ zT) (hstat : Cond.static y2 ∈ zT) (hn : As.length = n) {st : List Value} (hst : st = As.reverse ++ rest) (hrest : (rest.map fun v => v.category).sum ≤ 8) (hR : rF2 + 1 ≤ rF ∧ 8 + (nL2 + 11) + rL2 ≤ rL) (hmc : mc2 ≤ mc ∧ ms2 ≤ ms) (hd : decode cc pc = .ok (.invokestatic idx, 3))
    (k : ∀ (v : Option Value) (hi' hm' : zHp) (nx' : Nat), Q2 v hi' hm' nx' → zV s0 D tys y cc nL ret rF rL (mc - mc2) (ms - ms2) (pc + 3) lo (v.toList ++ rest) hi' hm' nx' Q) : zV s0 D tys y cc nL ret rF rL mc ms pc lo st hi hm nx Q := by
  intro l p e R s m args below meth c H locs cells slots ls G F
  obtain ⟨f1, f2, f3, f4, f5, f6, f7, f8, f9, f10, f11, f12, f13, f14⟩ := F
  have hts := zG_w G f8 args
  have hB : CallB R s args y.cls idx y2 cc2 nL2 ret2 (.code y2 cc2 nL2 ret2 :: zT) { frames := rF2, cells := mc2, slots := ms2, locals := rL2 } mc2 ms2 n := callB_of n hts (zO_good O) rfl rfl rfl (hts _ O.2.1) (hts _ hlink) O.2.2 ⟨Nat.le_trans hR.1 f9.1, Nat.le_trans hR.2 f9.2⟩
  refine z_call (va_runS (As := As) (rest := rest) ⟨f1, f2, f4, f5, hts⟩ (hM l G) ⟨hB, hts _ hstat⟩ ⟨zFB, zPre f8 f11⟩ rfl hn f14.1 hst (lv_room hrest) hd ⟨by omega, by omega⟩) f12 ?_
  intro v hi' hm' nx' H1 locs1 hq hw hS
  exact k v hi' hm' nx' hq l p e R s m args below meth c H1 locs1 _ _ ls G ⟨f1, f2, f3, f4, f5, f6, f7, f8, f9, ⟨by omega, by omega⟩, hw, hS, f13, f14⟩
theorem zRecv {s : State} {H : Heap} {b ci N : Nat} {fs : List Value} {C : String} {T : u_T} (G : zG D tys s0) (f8 : s0.WarmedH s.vm) (f11 : z_W s0 D hi hm nx H) (he : zE hi hm b (.inr (ci, fs))) (hc : zcl[ci]? = some (C, T, N)) : ∃ cellB : Cell, H[b]? = some cellB ∧ cellB.vm.isStatics = false ∧ s.vm.findClass C = some cellB.cls := va_recv (ws := [(b, .inr (ci, fs))]) (zG_K G f8) (he.P f11) (q0 := 0) hc rfl
/-- of an object of just that class -/
theorem zV_callV {b ci N : Nat} {fs : List Value} {T : u_T} (hM : zM s0 D tys y2 cc2 nL2 ret2 rF2 rL2 mc2 ms2 (.ref b :: As) hi hm nx Q2) (O : zO y2 cc2 nL2 ret2 n) (he : zE hi hm b (.inr (ci, fs))) (hc : zcl[ci]? = some (y2.cls, T, N)) (hlink : Cond.methodLink y.cls idx y2 ∈ zT) (hinst : Cond.instanceMethod y2 ∈ zT) (hsel : Cond.selects y2.cls y2 y2 ∈ zT) (hn : As.length = n) {st : List Value} (hst : st = As.reverse ++ .ref b :: rest) (hrest : (rest.map fun v => v.category).sum ≤ 8) (hR : rF2 + 1 ≤ rF ∧ 8 + (nL2 + 11) + rL2 ≤ rL) (hmc : mc2 ≤ mc ∧ ms2 ≤ ms) (hd : decode cc pc = .ok (.invokevirtual idx, 3))
    (k : ∀ (v : Option Value) (hi' hm' : zHp) (nx' : Nat), Q2 v hi' hm' nx' → zV s0 D tys y cc nL ret rF rL (mc - mc2) (ms - ms2) (pc + 3) lo (v.toList ++ rest) hi' hm' nx' Q) : zV s0 D tys y cc nL ret rF rL mc ms pc lo st hi hm nx Q := by
  intro l p e R s m args below meth c H locs cells slots ls G F
  obtain ⟨f1, f2, f3, f4, f5, f6, f7, f8, f9, f10, f11, f12, f13, f14⟩ := F
  have hts := zG_w G f8 args
  have hB : CallB R s args y.cls idx y2 cc2 nL2 ret2 (.code y2 cc2 nL2 ret2 :: zT) { frames := rF2, cells := mc2, slots := ms2, locals := rL2 } mc2 ms2 n := callB_of n hts (zO_good O) rfl rfl rfl (hts _ O.2.1) (hts _ hlink) O.2.2 ⟨Nat.le_trans hR.1 f9.1, Nat.le_trans hR.2 f9.2⟩
  refine z_call (va_runV (As := As) (rest := rest) (b := b) ⟨f1, f2, f4, f5, hts⟩ (hM l G) ⟨hB, hts _ hinst, hts _ hsel⟩ ⟨zFB, zRecv G f8 f11 he hc, zPre f8 f11⟩ rfl hn f14.1 hst (lv_room hrest) hd ⟨by omega, by omega⟩) f12 ?_
  intro v hi' hm' nx' H1 locs1 hq hw hS
  exact k v hi' hm' nx' hq l p e R s m args below meth c H1 locs1 _ _ ls G ⟨f1, f2, f3, f4, f5, f6, f7, f8, f9, ⟨by omega, by omega⟩, hw, hS, f13, f14⟩
/-- a constructor -/
theorem zV_callI {b : Nat} (hM : zM s0 D tys y2 cc2 nL2 none rF2 rL2 mc2 ms2 (.ref b :: As) hi hm nx Q2) (O : zO y2 cc2 nL2 none n) (hyi : y2.name = "<init>") (hlink : Cond.methodLink y.cls idx y2 ∈ zT) (hinst : Cond.instanceMethod y2 ∈ zT) (hn : As.length = n) {st : List Value} (hst : st = As.reverse ++ .ref b :: rest) (hrest : (rest.map fun v => v.category).sum ≤ 8) (hR : rF2 + 1 ≤ rF ∧ 8 + (nL2 + 11) + rL2 ≤ rL) (hmc : mc2 ≤ mc ∧ ms2 ≤ ms) (hd : decode cc pc = .ok (.invokespecial idx, 3))
    (k : ∀ (v : Option Value) (hi' hm' : zHp) (nx' : Nat), Q2 v hi' hm' nx' → zV s0 D tys y cc nL ret rF rL (mc - mc2) (ms - ms2) (pc + 3) lo (v.toList ++ rest) hi' hm' nx' Q) : zV s0 D tys y cc nL ret rF rL mc ms pc lo st hi hm nx Q := by
  intro l p e R s m args below meth c H locs cells slots ls G F
  obtain ⟨f1, f2, f3, f4, f5, f6, f7, f8, f9, f10, f11, f12, f13, f14⟩ := F
  have hts := zG_w G f8 args
  have hB : CallB R s args y.cls idx y2 cc2 nL2 none (.code y2 cc2 nL2 none :: zT) { frames := rF2, cells := mc2, slots := ms2, locals := rL2 } mc2 ms2 n := callB_of n hts (zO_good O) rfl rfl rfl (hts _ O.2.1) (hts _ hlink) O.2.2 ⟨Nat.le_trans hR.1 f9.1, Nat.le_trans hR.2 f9.2⟩
  refine z_call (va_runI (As := As) (rest := rest) (b := b) ⟨f1, f2, f4, f5, hts⟩ (hM l G) ⟨hB, hyi, hts _ hinst⟩ ⟨zFB, zPre f8 f11⟩ rfl hn f14.1 hst (lv_room hrest) hd ⟨by omega, by omega⟩) f12 ?_
  intro v hi' hm' nx' H1 locs1 hq hw hS
  exact k v hi' hm' nx' hq l p e R s m args below meth c H1 locs1 _ _ ls G ⟨f1, f2, f3, f4, f5, f6, f7, f8, f9, ⟨by omega, by omega⟩, hw, hS, f13, f14⟩
/-- a nest mate's private static method -/
theorem zV_callSN {host : String} (hM : zM s0 D tys y2 cc2 nL2 ret2 rF2 rL2 mc2 ms2 As hi hm nx Q2) (O : zO y2 cc2 nL2 ret2 n) (hlink : Cond.methodLinkNest y.cls idx y2 host ∈ lw_tbl) (hstat : Cond.static y2 ∈ zT) (hn : As.length = n) {st : List Value} (hst : st = As.reverse ++ rest) (hrest : (rest.map fun v => v.category).sum ≤ 8) (hR : rF2 + 1 ≤ rF ∧ 8 + (nL2 + 11) + rL2 ≤ rL) (hmc : mc2 ≤ mc ∧ ms2 ≤ ms) (hd : decode cc pc = .ok (.invokestatic idx, 3))
    (k : ∀ (v : Option Value) (hi' hm' : zHp) (nx' : Nat), Q2 v hi' hm' nx' → zV s0 D tys y cc nL ret rF rL (mc - mc2) (ms - ms2) (pc + 3) lo (v.toList ++ rest) hi' hm' nx' Q) : zV s0 D tys y cc nL ret rF rL mc ms pc lo st hi hm nx Q := by
  intro l p e R s m args below meth c H locs cells slots ls G F
  obtain ⟨f1, f2, f3, f4, f5, f6, f7, f8, f9, f10, f11, f12, f13, f14⟩ := F
  have hts := zG_w G f8 args
  have hB : va_CN R s args y.cls idx y2 host cc2 nL2 ret2 (.code y2 cc2 nL2 ret2 :: zT) { frames := rF2, cells := mc2, slots := ms2, locals := rL2 } mc2 ms2 n := va_cnB n hts (zO_good O) rfl rfl rfl (zG_N G f8 hlink rfl) (hts _ O.2.1) O.2.2 ⟨Nat.le_trans hR.1 f9.1, Nat.le_trans hR.2 f9.2⟩
  refine z_call (va_runSN (As := As) (rest := rest) ⟨f1, f2, f4, f5, hts⟩ (hM l G) ⟨hB, hts _ hstat, trivial⟩ ⟨zFB, zPre f8 f11⟩ rfl hn f14.1 hst (lv_room hrest) hd ⟨by omega, by omega⟩) f12 ?_
  intro v hi' hm' nx' H1 locs1 hq hw hS
  exact k v hi' hm' nx' hq l p e R s m args below meth c H1 locs1 _ _ ls G ⟨f1, f2, f3, f4, f5, f6, f7, f8, f9, ⟨by omega, by omega⟩, hw, hS, f13, f14⟩
/-- a nest mate's private constructor -/
theorem zV_callIN {host : String} {b : Nat} (hM : zM s0 D tys y2 cc2 nL2 none rF2 rL2 mc2 ms2 (.ref b :: As) hi hm nx Q2) (O : zO y2 cc2 nL2 none n) (hyi : y2.name = "<init>") (hlink : Cond.methodLinkNest y.cls idx y2 host ∈ lw_tbl) (hinst : Cond.instanceMethod y2 ∈ zT) (hn : As.length = n) {st : List Value} (hst : st = As.reverse ++ .ref b :: rest) (hrest : (rest.map fun v => v.category).sum ≤ 8) (hR : rF2 + 1 ≤ rF ∧ 8 + (nL2 + 11) + rL2 ≤ rL) (hmc : mc2 ≤ mc ∧ ms2 ≤ ms) (hd : decode cc pc = .ok (.invokespecial idx, 3))
    (k : ∀ (v : Option Value) (hi' hm' : zHp) (nx' : Nat), Q2 v hi' hm' nx' → zV s0 D tys y cc nL ret rF rL (mc - mc2) (ms - ms2) (pc + 3) lo (v.toList ++ rest) hi' hm' nx' Q) : zV s0 D tys y cc nL ret rF rL mc ms pc lo st hi hm nx Q := by
  intro l p e R s m args below meth c H locs cells slots ls G F
  obtain ⟨f1, f2, f3, f4, f5, f6, f7, f8, f9, f10, f11, f12, f13, f14⟩ := F
  have hts := zG_w G f8 args
  have hB : va_CN R s args y.cls idx y2 host cc2 nL2 none (.code y2 cc2 nL2 none :: zT) { frames := rF2, cells := mc2, slots := ms2, locals := rL2 } mc2 ms2 n := va_cnB n hts (zO_good O) rfl rfl rfl (zG_N G f8 hlink rfl) (hts _ O.2.1) O.2.2 ⟨Nat.le_trans hR.1 f9.1, Nat.le_trans hR.2 f9.2⟩
  refine z_call (va_runIN (As := As) (rest := rest) (b := b) ⟨f1, f2, f4, f5, hts⟩ (hM l G) ⟨hB, hyi, hts _ hinst⟩ ⟨zFB, zPre f8 f11⟩ rfl hn f14.1 hst (lv_room hrest) hd ⟨by omega, by omega⟩) f12 ?_
  intro v hi' hm' nx' H1 locs1 hq hw hS
  exact k v hi' hm' nx' hq l p e R s m args below meth c H1 locs1 _ _ ls G ⟨f1, f2, f3, f4, f5, f6, f7, f8, f9, ⟨by omega, by omega⟩, hw, hS, f13, f14⟩
/-- of an object of a subclass, by the name of the class above: the method is y2, named x, which stands in 'owner' with code of its own -/
theorem zV_callU {x : MethodName} {owner C : String} {b ci N : Nat} {fs : List Value} {T : u_T} {b0 : ByteArray} {m0 : Nat} {r0 : Option FieldType} (hM : zM s0 D tys y2 cc2 nL2 ret2 rF2 rL2 mc2 ms2 (.ref b :: As) hi hm nx Q2) (O : zO y2 cc2 nL2 ret2 n) (he : zE hi hm b (.inr (ci, fs))) (hc : zcl[ci]? = some (C, T, N)) (hlink : Cond.methodLink y.cls idx x ∈ zT) (hsame : Cond.sameMethod x.cls owner x.name x.desc ∈ zT) (hinst0 : Cond.instanceMethod ⟨owner, x.name, x.desc⟩ ∈ zT) (hsel : Cond.selects C x y2 ∈ zT) (hinst : Cond.instanceMethod y2 ∈ zT) (h0 : Cond.code ⟨owner, x.name, x.desc⟩ b0 m0 r0 ∈ zT) (hdx : owner ≠ "java/lang/invoke/MethodHandle" ∧ owner ≠ "java/lang/invoke/VarHandle" ∧ (parseMethodDescriptor x.desc).map (fun d => d.parameters.length) = some n) (hn : As.length = n) {st : List Value} (hst : st = As.reverse ++ .ref b :: rest) (hrest : (rest.map fun v => v.category).sum ≤ 8) (hR : rF2 + 1 ≤ rF ∧ 8 + (nL2 + 11) + rL2 ≤ rL) (hmc : mc2 ≤ mc ∧ ms2 ≤ ms) (hd : decode cc pc = .ok (.invokevirtual idx, 3))
    (k : ∀ (v : Option Value) (hi' hm' : zHp) (nx' : Nat), Q2 v hi' hm' nx' → zV s0 D tys y cc nL ret rF rL (mc - mc2) (ms - ms2) (pc + 3) lo (v.toList ++ rest) hi' hm' nx' Q) : zV s0 D tys y cc nL ret rF rL mc ms pc lo st hi hm nx Q := by
  intro l p e R s m args below meth c H locs cells slots ls G F
  obtain ⟨f1, f2, f3, f4, f5, f6, f7, f8, f9, f10, f11, f12, f13, f14⟩ := F
  have hts := zG_w G f8 args
  have hGo : GoodIn zT (va_wsO y.cls idx C owner x y2 (.code y2 cc2 nL2 ret2 :: zT)) := by
    intro w hw
    unfold va_wsO at hw
    rcases List.mem_append.mp hw with hw | hw
    · simp only [List.mem_cons, List.not_mem_nil, or_false] at hw
      rcases hw with rfl | rfl | rfl | rfl | rfl | rfl
      · exact zT_good _ hlink
      · exact zT_good _ hsame
      · exact zT_good _ hinst0
      · exact zT_good _ hsel
      · exact zT_good _ hinst
      · exact zT_good _ O.2.1
    · exact zO_good O w hw
  have hB : va_CU R s args y.cls C owner idx x y2 cc2 nL2 ret2 (.code y2 cc2 nL2 ret2 :: zT) { frames := rF2, cells := mc2, slots := ms2, locals := rL2 } mc2 ms2 n := va_cwO n hts hGo rfl rfl rfl h0 hdx ⟨Nat.le_trans hR.1 f9.1, Nat.le_trans hR.2 f9.2⟩
  refine z_call (va_runU (As := As) (rest := rest) (b := b) ⟨f1, f2, f4, f5, hts⟩ (hM l G) hB ⟨zFB, zRecv G f8 f11 he hc, zPre f8 f11⟩ rfl hn f14.1 hst (lv_room hrest) hd ⟨by omega, by omega⟩) f12 ?_
  intro v hi' hm' nx' H1 locs1 hq hw hS
  exact k v hi' hm' nx' hq l p e R s m args below meth c H1 locs1 _ _ ls G ⟨f1, f2, f3, f4, f5, f6, f7, f8, f9, ⟨by omega, by omega⟩, hw, hS, f13, f14⟩
end ZC
