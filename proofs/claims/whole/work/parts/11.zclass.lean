/-! ===== the class's objects that nobody writes any more: what they hold, as values ===== -/
abbrev vArr : Type := Nat × (Nat → Int32)
abbrev vFrame : Type := Int32 × Int32 × vArr × Int32 × Int32 × Int32
abbrev vTrue : Type := Int32 × Int32 × Int32 × Int32 × Int32
abbrev vEven : Type := Int32 × Int32 × Int32
abbrev vRow : Type := vArr × Int32
abbrev vLaw : Type := Unit ⊕ vEven ⊕ vArr ⊕ vRow
abbrev vDes : Type := vFrame × vLaw × vTrue
abbrev vFra : Type := Int64 × Int64
def iArr (cI : ClassId) (hi : zHp) (a : Nat) (v : vArr) : Prop := hi a = some (.inl (cI, v.1, .inl v.2))
def iFrame (cI : ClassId) (hi : zHp) (a : Nat) (v : vFrame) : Prop := ∃ b : Nat, hi a = some (.inr (3, [.int v.1, .int v.2.1, .ref b, .int v.2.2.2.1, .int v.2.2.2.2.1, .int v.2.2.2.2.2])) ∧ iArr cI hi b v.2.2.1
def iTrue (hi : zHp) (a : Nat) (v : vTrue) : Prop := hi a = some (.inr (10, [.int v.1, .int v.2.1, .int v.2.2.1, .int v.2.2.2.1, .int v.2.2.2.2]))
def iFra (hi : zHp) (a : Nat) (v : vFra) : Prop := hi a = some (.inr (2, [.long v.1, .long v.2]))
def iNone (hi : zHp) (a : Nat) : Prop := hi a = some (.inr (6, []))
def iEven (hi : zHp) (a : Nat) (v : vEven) : Prop := hi a = some (.inr (1, [.int v.1, .int v.2.1, .int v.2.2]))
def iLadder (cI : ClassId) (hi : zHp) (a : Nat) (v : vArr) : Prop := ∃ b : Nat, hi a = some (.inr (5, [.ref b])) ∧ iArr cI hi b v
def iRow (cI : ClassId) (hi : zHp) (a : Nat) (v : vRow) : Prop := ∃ b : Nat, hi a = some (.inr (8, [.ref b, .int v.2])) ∧ iArr cI hi b v.1
def iLaw (cI : ClassId) (hi : zHp) (a : Nat) : vLaw → Prop
  | .inl _ => iNone hi a
  | .inr (.inl v) => iEven hi a v
  | .inr (.inr (.inl v)) => iLadder cI hi a v
  | .inr (.inr (.inr v)) => iRow cI hi a v
def iDes (cI : ClassId) (hi : zHp) (a : Nat) (v : vDes) : Prop := ∃ b c d : Nat, hi a = some (.inr (0, [.ref b, .ref c, .ref d])) ∧ iFrame cI hi b v.1 ∧ iLaw cI hi c v.2.1 ∧ iTrue hi d v.2.2
/-- more cells, the old ones as they were -/
def zX (h h' : zHp) : Prop := ∀ a e, h a = some e → h' a = some e
theorem zX.rf {h : zHp} : zX h h := fun _ _ q => q
theorem zX.tr {a b c : zHp} (x : zX a b) (z : zX b c) : zX a c := fun q e h => z q e (x q e h)
theorem iArr.mono {cI : ClassId} {h h' : zHp} (x : zX h h') {a : Nat} {v : vArr} (i : iArr cI h a v) : iArr cI h' a v := x _ _ i
theorem iFrame.mono {cI : ClassId} {h h' : zHp} (x : zX h h') {a : Nat} {v : vFrame} (i : iFrame cI h a v) : iFrame cI h' a v := by
  obtain ⟨b, h1, h2⟩ := i
  exact ⟨b, x _ _ h1, h2.mono x⟩
theorem iTrue.mono {h h' : zHp} (x : zX h h') {a : Nat} {v : vTrue} (i : iTrue h a v) : iTrue h' a v := x _ _ i
theorem iFra.mono {h h' : zHp} (x : zX h h') {a : Nat} {v : vFra} (i : iFra h a v) : iFra h' a v := x _ _ i
theorem iLaw.mono {cI : ClassId} {h h' : zHp} (x : zX h h') {a : Nat} : ∀ {v : vLaw}, iLaw cI h a v → iLaw cI h' a v
  | .inl _, i => x _ _ i
  | .inr (.inl _), i => x _ _ i
  | .inr (.inr (.inl _)), i => by obtain ⟨b, h1, h2⟩ := i; exact ⟨b, x _ _ h1, h2.mono x⟩
  | .inr (.inr (.inr _)), i => by obtain ⟨b, h1, h2⟩ := i; exact ⟨b, x _ _ h1, h2.mono x⟩
theorem iDes.mono {cI : ClassId} {h h' : zHp} (x : zX h h') {a : Nat} {v : vDes} (i : iDes cI h a v) : iDes cI h' a v := by
  obtain ⟨b, c, d, h1, h2, h3, h4⟩ := i
  exact ⟨b, c, d, x _ _ h1, h2.mono x, h3.mono x, h4.mono x⟩
section ZK
variable {s0 : State} {D : va_G} {tys : List (ClassId × FieldType)} {y : MethodName} {cc : ByteArray} {nL : Nat} {ret : Option FieldType} {rF rL mc ms pc : Nat} {lo : List (Nat × Value)} {st : List Value} {hi hm : zHp} {nx : Nat} {Q : Option Value → zHp → zHp → Nat → Prop}
theorem zV_ixor {x z : Int32} (hd : decode cc pc = .ok (.ixor, 1)) (k : zV s0 D tys y cc nL ret rF rL mc ms (pc + 1) lo (.int (x ^^^ z) :: st) hi hm nx Q) : zV s0 D tys y cc nL ret rF rL mc ms pc lo (.int z :: .int x :: st) hi hm nx Q := by
  intro l p e R s m args below meth c H locs cells slots ls G F
  have F2 := F
  obtain ⟨f1, f2, f3, f4, f5, f6, f7, f8, f9, f10, f11, f12, f13, f14⟩ := F2
  exact lv_ixor f1 f2 hd (k l p e R s m args below meth c H locs cells slots ls G F)
theorem zV_lxor {x z : Int64} (hd : decode cc pc = .ok (.lxor, 1)) (k : zV s0 D tys y cc nL ret rF rL mc ms (pc + 1) lo (.long (x ^^^ z) :: st) hi hm nx Q) : zV s0 D tys y cc nL ret rF rL mc ms pc lo (.long z :: .long x :: st) hi hm nx Q := by
  intro l p e R s m args below meth c H locs cells slots ls G F
  have F2 := F
  obtain ⟨f1, f2, f3, f4, f5, f6, f7, f8, f9, f10, f11, f12, f13, f14⟩ := F2
  exact lv_lxor f1 f2 hd (k l p e R s m args below meth c H locs cells slots ls G F)
/-- a new object, its cell among those that may be written -/
theorem zV_newX {ci idx N : Nat} {fs : List Value} {C : String} {T : u_T} (ty0 : Nat → FieldType) (hc : zcl[ci]? = some (C, T, N)) (hin : ∀ w ∈ u_ws C T N, w ∈ zT) (hty : ∀ k, k < N → parseFieldDescriptor (T k).2.2.1 = some (ty0 k)) (hcl : Cond.classLink y.cls idx C ∈ zT) (hinst : Cond.instantiable C N ∈ zT) (hini : Cond.initialized C ∈ zT) (hfs : ∀ j, j < N → defaultValue (ty0 j) = vp_V fs j) (hd : decode cc pc = .ok (.new idx, 3))
    (kk : hi nx = none → hm nx = none → zV s0 D tys y cc nL ret rF rL mc ms (pc + 3) lo (.ref nx :: st) hi (va_up hm nx (some (.inr (ci, fs)))) (nx + 1) Q) : zV s0 D tys y cc nL ret rF rL (mc + 1) (ms + N) pc lo st hi hm nx Q := by
  intro l p e R s m args below meth c H locs cells slots ls G F
  have hw : z_W s0 D hi hm nx H := F.2.2.2.2.2.2.2.2.2.2.1
  have n1 : hi nx = none := by
    cases hq : hi nx with
    | none => rfl
    | some e' => have h1 := (hw.2.2.2.1 nx e' hq).1.lt; have h2 := hw.1; exact absurd h1 (by show ¬ nx < H.size; omega)
  have n2 : hm nx = none := by
    cases hq : hm nx with
    | none => rfl
    | some e' => have h1 := (hw.2.2.2.2.1 nx e' hq).1.lt; have h2 := hw.1; exact absurd h1 (by show ¬ nx < H.size; omega)
  exact zV_new ty0 hc hin hty hcl hinst hini hfs hd (kk n1 n2) l p e R s m args below meth c H locs cells slots ls G F
/-- a cell that is done: it goes over to those that stay -/
theorem zV_done {a : Nat} {e : va_E} (ha : hm a = some e) (h0 : hi a = none) (kk : ∀ hi', zX hi hi' → hi' a = some e → zV s0 D tys y cc nL ret rF rL mc ms pc lo st hi' (va_up hm a none) nx Q) : zV s0 D tys y cc nL ret rF rL mc ms pc lo st hi hm nx Q := by
  refine zV_world (fun H hw => hw.freeze ha) (kk _ (fun q e' hq => ?_) (by simp [va_up]))
  unfold va_up
  by_cases hqa : q = a
  · subst hqa; rw [h0] at hq; cases hq
  · rw [if_neg hqa]; exact hq
theorem va_up_back {h : zHp} {a : Nat} {e : Option va_E} (h0 : h a = none) : va_up (va_up h a e) a none = h := by
  funext q
  unfold va_up
  by_cases hq : q = a
  · subst hq; rw [if_pos rfl, h0]
  · rw [if_neg hq, if_neg hq]
variable {y2 : MethodName} {cc2 : ByteArray} {nL2 : Nat} {ret2 : Option FieldType} {rF2 rL2 mc2 ms2 : Nat} {As rest : List Value} {n idx : Nat} {v : Value}
/-- calls that change nothing -/
theorem zV_roS (hM : ∀ Q2 : Option Value → zHp → zHp → Nat → Prop, Q2 (some v) hi hm nx → zM s0 D tys y2 cc2 nL2 ret2 rF2 rL2 0 0 As hi hm nx Q2) (O : zO y2 cc2 nL2 ret2 n) (hlink : Cond.methodLink y.cls idx y2 ∈ zT) (hstat : Cond.static y2 ∈ zT) (hn : As.length = n) (hst : st = As.reverse ++ rest) (hrest : (rest.map fun v => v.category).sum ≤ 8) (hR : rF2 + 1 ≤ rF ∧ 8 + (nL2 + 11) + rL2 ≤ rL) (hd : decode cc pc = .ok (.invokestatic idx, 3))
    (k : zV s0 D tys y cc nL ret rF rL mc ms (pc + 3) lo (v :: rest) hi hm nx Q) : zV s0 D tys y cc nL ret rF rL mc ms pc lo st hi hm nx Q := by
  refine zV_callS (hM (fun v' hi' hm' nx' => v' = some v ∧ hi' = hi ∧ hm' = hm ∧ nx' = nx) ⟨rfl, rfl, rfl, rfl⟩) O hlink hstat hn hst hrest hR ⟨Nat.zero_le _, Nat.zero_le _⟩ hd ?_
  rintro v' hi' hm' nx' ⟨rfl, rfl, rfl, rfl⟩
  exact k
theorem zV_roV {b ci N : Nat} {fs : List Value} {T : u_T} (hM : ∀ Q2 : Option Value → zHp → zHp → Nat → Prop, Q2 (some v) hi hm nx → zM s0 D tys y2 cc2 nL2 ret2 rF2 rL2 0 0 (.ref b :: As) hi hm nx Q2) (O : zO y2 cc2 nL2 ret2 n) (he : zE hi hm b (.inr (ci, fs))) (hc : zcl[ci]? = some (y2.cls, T, N)) (hlink : Cond.methodLink y.cls idx y2 ∈ zT) (hinst : Cond.instanceMethod y2 ∈ zT) (hsel : Cond.selects y2.cls y2 y2 ∈ zT) (hn : As.length = n) (hst : st = As.reverse ++ .ref b :: rest) (hrest : (rest.map fun v => v.category).sum ≤ 8) (hR : rF2 + 1 ≤ rF ∧ 8 + (nL2 + 11) + rL2 ≤ rL) (hd : decode cc pc = .ok (.invokevirtual idx, 3))
    (k : zV s0 D tys y cc nL ret rF rL mc ms (pc + 3) lo (v :: rest) hi hm nx Q) : zV s0 D tys y cc nL ret rF rL mc ms pc lo st hi hm nx Q := by
  refine zV_callV (hM (fun v' hi' hm' nx' => v' = some v ∧ hi' = hi ∧ hm' = hm ∧ nx' = nx) ⟨rfl, rfl, rfl, rfl⟩) O he hc hlink hinst hsel hn hst hrest hR ⟨Nat.zero_le _, Nat.zero_le _⟩ hd ?_
  rintro v' hi' hm' nx' ⟨rfl, rfl, rfl, rfl⟩
  exact k
theorem zV_roU {x : MethodName} {owner C : String} {b ci N : Nat} {fs : List Value} {T : u_T} {b0 : ByteArray} {m0 : Nat} {r0 : Option FieldType} (hM : ∀ Q2 : Option Value → zHp → zHp → Nat → Prop, Q2 (some v) hi hm nx → zM s0 D tys y2 cc2 nL2 ret2 rF2 rL2 0 0 (.ref b :: As) hi hm nx Q2) (O : zO y2 cc2 nL2 ret2 n) (he : zE hi hm b (.inr (ci, fs))) (hc : zcl[ci]? = some (C, T, N)) (hlink : Cond.methodLink y.cls idx x ∈ zT) (hsame : Cond.sameMethod x.cls owner x.name x.desc ∈ zT) (hinst0 : Cond.instanceMethod ⟨owner, x.name, x.desc⟩ ∈ zT) (hsel : Cond.selects C x y2 ∈ zT) (hinst : Cond.instanceMethod y2 ∈ zT) (h0 : Cond.code ⟨owner, x.name, x.desc⟩ b0 m0 r0 ∈ zT) (hdx : owner ≠ "java/lang/invoke/MethodHandle" ∧ owner ≠ "java/lang/invoke/VarHandle" ∧ (parseMethodDescriptor x.desc).map (fun d => d.parameters.length) = some n) (hn : As.length = n) (hst : st = As.reverse ++ .ref b :: rest) (hrest : (rest.map fun v => v.category).sum ≤ 8) (hR : rF2 + 1 ≤ rF ∧ 8 + (nL2 + 11) + rL2 ≤ rL) (hd : decode cc pc = .ok (.invokevirtual idx, 3))
    (k : zV s0 D tys y cc nL ret rF rL mc ms (pc + 3) lo (v :: rest) hi hm nx Q) : zV s0 D tys y cc nL ret rF rL mc ms pc lo st hi hm nx Q := by
  refine zV_callU (hM (fun v' hi' hm' nx' => v' = some v ∧ hi' = hi ∧ hm' = hm ∧ nx' = nx) ⟨rfl, rfl, rfl, rfl⟩) O he hc hlink hsame hinst0 hsel hinst h0 hdx hn hst hrest hR ⟨Nat.zero_le _, Nat.zero_le _⟩ hd ?_
  rintro v' hi' hm' nx' ⟨rfl, rfl, rfl, rfl⟩
  exact k
end ZK
/-- by what sort of law: an even one, or another -/
def zEv {α : Type} (v : vLaw) (f : vEven → Option α) (g : Option α) : Option α := match v with
  | .inr (.inl e) => f e
  | _ => g
/-- a contract out of the walk of the body, for a class of which some other methods are native -/
theorem zM_ofF {s0 : State} {D : va_G} {tys : List (ClassId × FieldType)} {y : MethodName} {cc : ByteArray} {nL : Nat} {ret : Option FieldType} {rF rL mc ms : Nat} {av : List Value} {hi hm : zHp} {nx : Nat} {Q : Option Value → zHp → zHp → Nat → Prop} (hy : plainFor y = true) (hl : (lg_sl av).length ≤ nL)
    (h : zV s0 D tys y cc nL ret rF rL mc ms 0 (lv_args 0 av) [] hi hm nx Q) : zM s0 D tys y cc nL ret rF rL mc ms av hi hm nx Q := by
  intro l G
  refine MetFree.of_bodySF (code := cc) (maxLocals := nL) (ret := ret) hy ?_ ?_
  · intro args s m h hn
    obtain ⟨meth, c, h1, h2, h3, h4, h5, h6, -, -⟩ := Cond.code_spec hn (atoms_spec (ws := .code y cc nL ret :: zT) h _ List.mem_cons_self)
    exact ⟨meth, c, h1, h2, h3, h4, h5, h6⟩
  · intro p e s m args below meth c s₁ B hml hv _
    have hh0 : s₁.heap = s.heap := by rw [B.state]; rfl
    obtain ⟨rfl, hW, hw⟩ := hv
    have hown : s.vm.findClass y.cls = some m.cls := findClass_of_methodNamed B.named
    have hnm : meth.name = y.name := (name_of_methodNamed B.named B.method).1
    have hl1 := lv_entry av (n := nL) hl
    have K : W p l e (headSpec (.code y cc nL ret :: zT) { frames := rF, cells := mc, slots := ms, locals := rL }).room s m av.toArray below meth c s.heap [] 0 0 (MQ below (zQc s0 D Q) av.toArray s mc ms (zA s0)) (entryFrame m av.toArray nL) := by
      rw [lg_entry_eq]
      generalize (lg_sl av ++ List.replicate (nL - (lg_sl av).length) Slot.unset).toArray = ls at hl1 ⊢
      exact h l p e _ s m _ below meth c s.heap [] 0 0 ls G ⟨B.exec, B.bytes, B.returns, hml, hown, hnm, B.notSynchronized, hW, ⟨Nat.le_refl _, Nat.le_refl _⟩, ⟨Nat.le_of_eq (Nat.zero_add _), Nat.le_of_eq (Nat.zero_add _)⟩, hw, va_S.rf, by have := hw.1; have := hw.2.1; omega, hl1⟩
    obtain ⟨t, a1, o, b1, b2, b3⟩ := K s₁ hh0 (Stand.of_body B)
    exact ⟨t, o, a1, b1, b2, ⟨b3.1, b3.2⟩⟩
section ZKN
variable {s0 : State} {D : va_G} {tys : List (ClassId × FieldType)} {y : MethodName} {cc : ByteArray} {nL : Nat} {ret : Option FieldType} {rF rL mc ms pc : Nat} {lo : List (Nat × Value)} {st : List Value} {hi hm : zHp} {nx : Nat} {Q : Option Value → zHp → zHp → Nat → Prop}
variable {y2 : MethodName} {cc2 : ByteArray} {nL2 : Nat} {ret2 : Option FieldType} {rF2 rL2 : Nat} {As rest : List Value} {n idx : Nat} {v : Value}
theorem zV_roSN {host : String} (hM : ∀ Q2 : Option Value → zHp → zHp → Nat → Prop, Q2 (some v) hi hm nx → zM s0 D tys y2 cc2 nL2 ret2 rF2 rL2 0 0 As hi hm nx Q2) (O : zO y2 cc2 nL2 ret2 n) (hlink : Cond.methodLinkNest y.cls idx y2 host ∈ lw_tbl) (hstat : Cond.static y2 ∈ zT) (hn : As.length = n) (hst : st = As.reverse ++ rest) (hrest : (rest.map fun v => v.category).sum ≤ 8) (hR : rF2 + 1 ≤ rF ∧ 8 + (nL2 + 11) + rL2 ≤ rL) (hd : decode cc pc = .ok (.invokestatic idx, 3))
    (k : zV s0 D tys y cc nL ret rF rL mc ms (pc + 3) lo (v :: rest) hi hm nx Q) : zV s0 D tys y cc nL ret rF rL mc ms pc lo st hi hm nx Q := by
  refine zV_callSN (hM (fun v' hi' hm' nx' => v' = some v ∧ hi' = hi ∧ hm' = hm ∧ nx' = nx) ⟨rfl, rfl, rfl, rfl⟩) O hlink hstat hn hst hrest hR ⟨Nat.zero_le _, Nat.zero_le _⟩ hd ?_
  rintro v' hi' hm' nx' ⟨rfl, rfl, rfl, rfl⟩
  exact k
end ZKN
