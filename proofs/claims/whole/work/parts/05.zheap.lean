/-! ===== the heap: fields, arrays, new cells ===== -/
abbrev zty (cB cI cJ cD : ClassId) : List (ClassId × FieldType) := [(cB, .byte), (cI, .int), (cJ, .long), (cD, .object RX0)]
def zE (hi hm : zHp) (a : Nat) (e : va_E) : Prop := hi a = some e ∨ hm a = some e
theorem zE.at {s0 : State} {D : va_G} {hi hm : zHp} {nx : Nat} {H : Heap} (hw : z_W s0 D hi hm nx H) {a : Nat} {e : va_E} (h : zE hi hm a e) : va_at D zcl (a, e) H := by
  rcases h with h | h
  · exact (hw.2.2.2.1 a e h).1
  · exact (hw.2.2.2.2.1 a e h).1
theorem zE.P {s0 : State} {D : va_G} {hi hm : zHp} {nx : Nat} {H : Heap} (hw : z_W s0 D hi hm nx H) {a : Nat} {e : va_E} (h : zE hi hm a e) : va_P D zcl [(a, e)] H := by
  intro k q hk
  have h1 := List.mem_of_getElem? hk
  rw [List.mem_singleton.mp h1]
  exact h.at hw
theorem z_W.set {s0 : State} {D : va_G} {hi hm : zHp} {nx : Nat} {H H1 : Heap} (hw : z_W s0 D hi hm nx H) {a : Nat} {e0 e : va_E} (ha : hm a = some e0) (z : H1.size = H.size) (oq : ∀ q : Nat, q ≠ a → H1[q]? = H[q]?) (he : va_at D zcl (a, e) H1) : z_W s0 D hi (va_up hm a (some e)) nx H1 := by
  obtain ⟨h1, h2, h3, h4, h5, h6⟩ := hw
  have hb := (h5 a e0 ha).2
  have hna : ∀ q e', hi q = some e' → q ≠ a := fun q e' hq z => by subst z; rw [h6 q e' hq] at ha; cases ha
  refine ⟨z.trans h1, h2, fun q hq => (oq q (by omega)).trans (h3 q hq), fun q e' hq => ⟨(h4 q e' hq).1.kept (oq q (hna q e' hq)), (h4 q e' hq).2⟩, fun q e' hq => ?_, fun q e' hq => ?_⟩
  · unfold va_up at hq
    by_cases hqa : q = a
    · subst hqa
      rw [if_pos rfl] at hq
      cases hq
      exact ⟨he, hb⟩
    · rw [if_neg hqa] at hq
      exact ⟨(h5 q e' hq).1.kept (oq q hqa), (h5 q e' hq).2⟩
  · unfold va_up
    rw [if_neg (hna q e' hq)]
    exact h6 q e' hq
theorem z_W.push {s0 : State} {D : va_G} {hi hm : zHp} {nx : Nat} {H H1 : Heap} (hw : z_W s0 D hi hm nx H) {e : va_E} (z : H1.size = H.size + 1) (oq : ∀ q : Nat, q < H.size → H1[q]? = H[q]?) (he : va_at D zcl (H.size, e) H1) : z_W s0 D hi (va_up hm nx (some e)) (nx + 1) H1 := by
  obtain ⟨h1, h2, h3, h4, h5, h6⟩ := hw
  subst h1
  have hlt : ∀ q e', va_at D zcl (q, e') H → q < H.size := fun q e' h => h.lt
  refine ⟨z, Nat.le_succ_of_le h2, fun q hq => (oq q (by omega)).trans (h3 q hq), fun q e' hq => ⟨(h4 q e' hq).1.kept (oq q (hlt _ _ (h4 q e' hq).1)), (h4 q e' hq).2⟩, fun q e' hq => ?_, fun q e' hq => ?_⟩
  · unfold va_up at hq
    by_cases hqa : q = H.size
    · subst hqa
      rw [if_pos rfl] at hq
      cases hq
      exact ⟨he, h2⟩
    · rw [if_neg hqa] at hq
      exact ⟨(h5 q e' hq).1.kept (oq q (hlt _ _ (h5 q e' hq).1)), (h5 q e' hq).2⟩
  · have := hlt _ _ (h4 q e' hq).1
    unfold va_up
    rw [if_neg (by omega)]
    exact h6 q e' hq
theorem va_S.pushed {A : Nat → Prop} {H0 H H1 : Heap} {locs : List Loc} (hS : va_S A H0 H locs) (z : H1.size = H.size + 1) (oq : ∀ q : Nat, q < H.size → H1[q]? = H[q]?) : va_S A H0 H1 locs := ⟨Nat.le_trans hS.1 (by omega), fun x h1 h2 => (oq x (Nat.lt_of_lt_of_le h1 hS.1)).trans (hS.2.1 x h1 h2), hS.2.2⟩
section ZH
variable {s0 : State} {D : va_G} {tys : List (ClassId × FieldType)} {y : MethodName} {cc : ByteArray} {nL : Nat} {ret : Option FieldType} {rF rL mc ms pc : Nat} {lo : List (Nat × Value)} {st : List Value} {hi hm : zHp} {nx : Nat} {Q : Option Value → zHp → zHp → Nat → Prop}
/-- another picture of the same heap -/
theorem zV_world {hi2 hm2 : zHp} (h : ∀ H, z_W s0 D hi hm nx H → z_W s0 D hi2 hm2 nx H) (k : zV s0 D tys y cc nL ret rF rL mc ms pc lo st hi2 hm2 nx Q) : zV s0 D tys y cc nL ret rF rL mc ms pc lo st hi hm nx Q := by
  intro l p e R s m args below meth c H locs cells slots ls G F
  obtain ⟨f1, f2, f3, f4, f5, f6, f7, f8, f9, f10, f11, f12, f13, f14⟩ := F
  exact k l p e R s m args below meth c H locs cells slots ls G ⟨f1, f2, f3, f4, f5, f6, f7, f8, f9, f10, h H f11, f12, f13, f14⟩
theorem z_W.freeze {H : Heap} (hw : z_W s0 D hi hm nx H) {a : Nat} {e : va_E} (ha : hm a = some e) : z_W s0 D (va_up hi a (some e)) (va_up hm a none) nx H := by
  obtain ⟨h1, h2, h3, h4, h5, h6⟩ := hw
  refine ⟨h1, h2, h3, fun q e' hq => ?_, fun q e' hq => ?_, fun q e' hq => ?_⟩
  · unfold va_up at hq
    by_cases hqa : q = a
    · subst hqa
      rw [if_pos rfl] at hq
      cases hq
      exact h5 q e ha
    · rw [if_neg hqa] at hq
      exact h4 q e' hq
  · unfold va_up at hq
    by_cases hqa : q = a
    · rw [if_pos hqa] at hq
      cases hq
    · rw [if_neg hqa] at hq
      exact h5 q e' hq
  · unfold va_up at hq ⊢
    by_cases hqa : q = a
    · rw [if_pos hqa]
    · rw [if_neg hqa] at hq ⊢
      exact h6 q e' hq
theorem zV_get {a ci idx k N : Nat} {fs : List Value} {C : String} {T : u_T} {v : Value} (he : zE hi hm a (.inr (ci, fs))) (hc : zcl[ci]? = some (C, T, N)) (hin : ∀ w ∈ u_ws C T N, w ∈ zT) (hk : k < N) (hlink : Cond.fieldLink y.cls idx (T k).1 (T k).2.1 (T k).2.2.1 ∈ zT) (hv : fs[k]? = some v) (hd : decode cc pc = .ok (.getfield idx, 3))
    (kk : zV s0 D tys y cc nL ret rF rL mc ms (pc + 3) lo (v :: st) hi hm nx Q) : zV s0 D tys y cc nL ret rF rL mc ms pc lo (.ref a :: st) hi hm nx Q := by
  intro l p e R s m args below meth c H locs cells slots ls G F
  have F2 := F
  obtain ⟨f1, f2, f3, f4, f5, f6, f7, f8, f9, f10, f11, f12, f13, f14⟩ := F2
  exact va_get (ws := [(a, .inr (ci, fs))]) f1 f2 (zG_w G f8 args) hin f5 (zG_K G f8) (he.P f11) 0 rfl hc k hk (zG_w G f8 args _ hlink) (fun _ h => h) hv hd (kk l p e R s m args below meth c H locs cells slots ls G F)
theorem zV_put {a ci idx k N : Nat} {fs : List Value} {C : String} {T : u_T} {v : Value} {ty : FieldType} (ty0 : Nat → FieldType) (he : hm a = some (.inr (ci, fs))) (hc : zcl[ci]? = some (C, T, N)) (hin : ∀ w ∈ u_ws C T N, w ∈ zT) (hty : ∀ k, k < N → parseFieldDescriptor (T k).2.2.1 = some (ty0 k)) (hnm : ∀ a, a < N → ∀ b, b < N → a ≠ b → (T a).2.1 ≠ (T b).2.1) (hk : k < N) (hlink : Cond.fieldLink y.cls idx (T k).1 (T k).2.1 (T k).2.2.1 ∈ zT) (hfin : (T k).2.2.2 = false) (ht : ty0 k = ty) (hn : narrow ty v = v) (hfit : fits ty v = true) (hl : k < fs.length) (hd : decode cc pc = .ok (.putfield idx, 3))
    (kk : zV s0 D tys y cc nL ret rF rL mc ms (pc + 3) lo st hi (va_up hm a (some (.inr (ci, fs.set k v)))) nx Q) : zV s0 D tys y cc nL ret rF rL mc ms pc lo (v :: .ref a :: st) hi hm nx Q := by
  intro l p e R s m args below meth c H locs cells slots ls G F
  obtain ⟨f1, f2, f3, f4, f5, f6, f7, f8, f9, f10, f11, f12, f13, f14⟩ := F
  have hts := zG_w G f8 args
  have hK := zG_K G f8
  have hap := va_apart (own := y.cls) hts hin ty0 hty hnm hK hc
  obtain ⟨r, h1, cell, q1, q2, q3, q4⟩ := (f11.2.2.2.2.1 a _ he).1
  have hr : r = (C, T, N) := Option.some.inj (h1.symm.trans hc)
  subst hr
  obtain ⟨hS, hfc, kC, hkC, hkind⟩ := hK.1 ci _ hc
  obtain ⟨cf, kf, fi, f, hi', hsl⟩ := hS k hk
  have hlay := hts _ (hin _ (u_in_lay hk))
  unfold u_lay at hlay
  rw [if_neg (by rw [hfin]; decide)] at hlay
  have hst := (u_facts hfc hkC (u_lays hts hin hk) hi').1
  have h6 := u_store hfc hkC hkind hlay hi' ((hty k hk).trans (congrArg some ht)) hn hfit
  refine W.putK f1 f2 (f := f) ⟨f5, hts _ hlink, ⟨_, _, _, hi'⟩, hst⟩ (by rw [q2]; exact h6) q1 q3 (by rw [hsl]; exact k2_hasslot (q4 k hk)) rfl rfl hd fun H' e1 e2 e3 => ?_
  rw [hsl] at e1
  exact kk l p e R s m args below meth c H' _ cells slots ls G ⟨f1, f2, f3, f4, f5, f6, f7, f8, f9, f10, f11.set he e2 e3 ⟨_, hc, t_OB.to (V := updV (vp_V fs) k v) ⟨_, e1, q2, q3, t_set q4 hap hk v⟩ (fun j _ => vp_updV_set hl v j)⟩, f12.put e2 e3 (f11.2.2.2.2.1 a _ he).2, f13, f14⟩
theorem zV_putF {a ci idx k N : Nat} {fs : List Value} {C : String} {T : u_T} {v : Value} {ty : FieldType} (ty0 : Nat → FieldType) (he : hm a = some (.inr (ci, fs))) (hc : zcl[ci]? = some (C, T, N)) (hin : ∀ w ∈ u_ws C T N, w ∈ zT) (hty : ∀ k, k < N → parseFieldDescriptor (T k).2.2.1 = some (ty0 k)) (hnm : ∀ a, a < N → ∀ b, b < N → a ≠ b → (T a).2.1 ≠ (T b).2.1) (hk : k < N) (hlink : Cond.fieldLink y.cls idx (T k).1 (T k).2.1 (T k).2.2.1 ∈ zT) (hfin : (T k).2.2.2 = true) (hyi : y.name = "<init>") (hdecl : (T k).1 = y.cls) (ht : ty0 k = ty) (hn : narrow ty v = v) (hfit : fits ty v = true) (hl : k < fs.length) (hd : decode cc pc = .ok (.putfield idx, 3))
    (kk : zV s0 D tys y cc nL ret rF rL mc ms (pc + 3) lo st hi (va_up hm a (some (.inr (ci, fs.set k v)))) nx Q) : zV s0 D tys y cc nL ret rF rL mc ms pc lo (v :: .ref a :: st) hi hm nx Q := by
  intro l p e R s m args below meth c H locs cells slots ls G F
  obtain ⟨f1, f2, f3, f4, f5, f6, f7, f8, f9, f10, f11, f12, f13, f14⟩ := F
  have hts := zG_w G f8 args
  have hK := zG_K G f8
  have hap := va_apart (own := y.cls) hts hin ty0 hty hnm hK hc
  obtain ⟨r, h1, cell, q1, q2, q3, q4⟩ := (f11.2.2.2.2.1 a _ he).1
  have hr : r = (C, T, N) := Option.some.inj (h1.symm.trans hc)
  subst hr
  obtain ⟨hS, hfc, kC, hkC, hkind⟩ := hK.1 ci _ hc
  obtain ⟨cf, kf, fi, f, hi', hsl⟩ := hS k hk
  have hlay := hts _ (hin _ (u_in_lay hk))
  unfold u_lay at hlay
  rw [if_pos hfin] at hlay
  have hst := (u_facts hfc hkC (u_lays hts hin hk) hi').1
  have hcf : m.cls = cf := by
    obtain ⟨_, _, c', _, _, _, -, -, hf', -, -, -, hown2, -⟩ := Cond.laysFinal_spec hlay
    have e1 : c' = cf := by have := hi'.symm.trans hf'; simp at this; exact this.1.symm
    rw [hdecl] at hown2
    rw [← e1]; exact Option.some.inj (f5.symm.trans hown2)
  have h6 := u_fits hfc hkC hkind (Or.inr hlay) hi' ((hty k hk).trans (congrArg some ht)) hn hfit
  refine W.putFinK f1 f2 f5 (hts _ hlink) hi' hst hcf (f6.trans hyi) (by rw [q2]; exact h6) q1 q3 (by rw [hsl]; exact k2_hasslot (q4 k hk)) rfl rfl hd fun H' e1 e2 e3 => ?_
  rw [hsl] at e1
  exact kk l p e R s m args below meth c H' _ cells slots ls G ⟨f1, f2, f3, f4, f5, f6, f7, f8, f9, f10, f11.set he e2 e3 ⟨_, hc, t_OB.to (V := updV (vp_V fs) k v) ⟨_, e1, q2, q3, t_set q4 hap hk v⟩ (fun j _ => vp_updV_set hl v j)⟩, f12.put e2 e3 (f11.2.2.2.2.1 a _ he).2, f13, f14⟩
theorem zV_new {ci idx N : Nat} {fs : List Value} {C : String} {T : u_T} (ty0 : Nat → FieldType) (hc : zcl[ci]? = some (C, T, N)) (hin : ∀ w ∈ u_ws C T N, w ∈ zT) (hty : ∀ k, k < N → parseFieldDescriptor (T k).2.2.1 = some (ty0 k)) (hcl : Cond.classLink y.cls idx C ∈ zT) (hinst : Cond.instantiable C N ∈ zT) (hini : Cond.initialized C ∈ zT) (hfs : ∀ j, j < N → defaultValue (ty0 j) = vp_V fs j) (hd : decode cc pc = .ok (.new idx, 3))
    (kk : zV s0 D tys y cc nL ret rF rL mc ms (pc + 3) lo (.ref nx :: st) hi (va_up hm nx (some (.inr (ci, fs)))) (nx + 1) Q) : zV s0 D tys y cc nL ret rF rL (mc + 1) (ms + N) pc lo st hi hm nx Q := by
  intro l p e R s m args below meth c H locs cells slots ls G F
  obtain ⟨f1, f2, f3, f4, f5, f6, f7, f8, f9, f10, f11, f12, f13, f14⟩ := F
  have hts := zG_w G f8 args
  have hK := zG_K G f8
  have hKn := hK.1 ci _ hc
  have hnx := f11.1
  refine W.newcK f1 f2 f5 (hts _ hcl) (hts _ hinst) (hts _ hini) rfl hd (by omega) (by omega) hKn.2.1 rfl fun H1 kC hkC e1 z1 o1 => ?_
  rw [hnx]
  refine kk l p e R s m args below meth c H1 locs (cells + 1) (slots + N) ls G ⟨f1, f2, f3, f4, f5, f6, f7, f8, f9, ⟨by omega, by omega⟩, f11.push z1 o1 ?_, f12.pushed z1 o1, f13, f14⟩
  exact ⟨_, hc, (u_born ty0 hts hin hKn hkC e1 hty).to hfs⟩
theorem zV_alen {a : Nat} {cA : ClassId} {x : vp_A} {ty : FieldType} (t0 : Nat) (he : zE hi hm a (.inl (cA, x))) (ht : tys[t0]? = some (cA, ty)) (hd : decode cc pc = .ok (.arraylength, 1))
    (kk : zV s0 D tys y cc nL ret rF rL mc ms (pc + 1) lo (.int (nI x.1) :: st) hi hm nx Q) : zV s0 D tys y cc nL ret rF rL mc ms pc lo (.ref a :: st) hi hm nx Q := by
  intro l p e R s m args below meth c H locs cells slots ls G F
  have F2 := F
  obtain ⟨f1, f2, f3, f4, f5, f6, f7, f8, f9, f10, f11, f12, f13, f14⟩ := F2
  exact va_alen (ws := [(a, .inl (cA, x))]) f1 f2 (zG_K G f8) (he.P f11) 0 t0 rfl ht rfl hd (kk l p e R s m args below meth c H locs cells slots ls G F)
theorem zV_iald {a n : Nat} {cA : ClassId} {f : Nat → Int32} {i : Int32} (t0 : Nat) (he : zE hi hm a (.inl (cA, n, .inl f))) (ht : tys[t0]? = some (cA, .int)) (hin : vp_in i n) (hd : decode cc pc = .ok (.iaload, 1))
    (kk : zV s0 D tys y cc nL ret rF rL mc ms (pc + 1) lo (.int (f i.toNatClampNeg) :: st) hi hm nx Q) : zV s0 D tys y cc nL ret rF rL mc ms pc lo (.int i :: .ref a :: st) hi hm nx Q := by
  intro l p e R s m args below meth c H locs cells slots ls G F
  have F2 := F
  obtain ⟨f1, f2, f3, f4, f5, f6, f7, f8, f9, f10, f11, f12, f13, f14⟩ := F2
  exact va_iald (ws := [(a, .inl (cA, n, .inl f))]) f1 f2 (zG_K G f8) (he.P f11) 0 t0 rfl ht hin hd (kk l p e R s m args below meth c H locs cells slots ls G F)
theorem zV_bald {a n : Nat} {cA : ClassId} {f : Nat → Int32} {i : Int32} (t0 : Nat) (he : zE hi hm a (.inl (cA, n, .inl f))) (ht : tys[t0]? = some (cA, .byte)) (hin : vp_in i n) (hd : decode cc pc = .ok (.baload, 1))
    (kk : zV s0 D tys y cc nL ret rF rL mc ms (pc + 1) lo (.int (f i.toNatClampNeg) :: st) hi hm nx Q) : zV s0 D tys y cc nL ret rF rL mc ms pc lo (.int i :: .ref a :: st) hi hm nx Q := by
  intro l p e R s m args below meth c H locs cells slots ls G F
  have F2 := F
  obtain ⟨f1, f2, f3, f4, f5, f6, f7, f8, f9, f10, f11, f12, f13, f14⟩ := F2
  exact va_bald (ws := [(a, .inl (cA, n, .inl f))]) f1 f2 (zG_K G f8) (he.P f11) 0 t0 rfl ht hin hd (kk l p e R s m args below meth c H locs cells slots ls G F)
theorem zV_lald {a n : Nat} {cA : ClassId} {f : Nat → Int64} {i : Int32} (t0 : Nat) (he : zE hi hm a (.inl (cA, n, .inr (.inl f)))) (ht : tys[t0]? = some (cA, .long)) (hin : vp_in i n) (hd : decode cc pc = .ok (.laload, 1))
    (kk : zV s0 D tys y cc nL ret rF rL mc ms (pc + 1) lo (.long (f i.toNatClampNeg) :: st) hi hm nx Q) : zV s0 D tys y cc nL ret rF rL mc ms pc lo (.int i :: .ref a :: st) hi hm nx Q := by
  intro l p e R s m args below meth c H locs cells slots ls G F
  have F2 := F
  obtain ⟨f1, f2, f3, f4, f5, f6, f7, f8, f9, f10, f11, f12, f13, f14⟩ := F2
  exact va_lald (ws := [(a, .inl (cA, n, .inr (.inl f)))]) f1 f2 (zG_K G f8) (he.P f11) 0 t0 rfl ht hin hd (kk l p e R s m args below meth c H locs cells slots ls G F)
theorem zV_aald {a n : Nat} {cA : ClassId} {C : String} {f : Nat → Option Nat} {i : Int32} (t0 : Nat) (he : zE hi hm a (.inl (cA, n, .inr (.inr (.inr (.inr f)))))) (ht : tys[t0]? = some (cA, .object C)) (hin : vp_in i n) (hd : decode cc pc = .ok (.aaload, 1))
    (kk : zV s0 D tys y cc nL ret rF rL mc ms (pc + 1) lo (va_rf (f i.toNatClampNeg) :: st) hi hm nx Q) : zV s0 D tys y cc nL ret rF rL mc ms pc lo (.int i :: .ref a :: st) hi hm nx Q := by
  intro l p e R s m args below meth c H locs cells slots ls G F
  have F2 := F
  obtain ⟨f1, f2, f3, f4, f5, f6, f7, f8, f9, f10, f11, f12, f13, f14⟩ := F2
  exact va_aldq (ws := [(a, .inl (cA, n, .inr (.inr (.inr (.inr f)))))]) f1 f2 (zG_K G f8) (he.P f11) 0 t0 rfl ht hin hd (kk l p e R s m args below meth c H locs cells slots ls G F)
theorem zV_iast {a n : Nat} {cA : ClassId} {f : Nat → Int32} {i x : Int32} (t0 : Nat) (he : hm a = some (.inl (cA, n, .inl f))) (ht : tys[t0]? = some (cA, .int)) (hin : vp_in i n) (hd : decode cc pc = .ok (.iastore, 1))
    (kk : zV s0 D tys y cc nL ret rF rL mc ms (pc + 1) lo st hi (va_up hm a (some (.inl (cA, n, .inl (upd f i.toNatClampNeg x))))) nx Q) : zV s0 D tys y cc nL ret rF rL mc ms pc lo (.int x :: .int i :: .ref a :: st) hi hm nx Q := by
  intro l p e R s m args below meth c H locs cells slots ls G F
  obtain ⟨f1, f2, f3, f4, f5, f6, f7, f8, f9, f10, f11, f12, f13, f14⟩ := F
  refine W.iast f1 f2 (f11.2.2.2.2.1 a _ he).1 (((zG_K G f8).2 t0 _ ht).1 n (fun j => .int (f j))) (fun q => by cases q) (by show ¬ (i < 0 ∨ (arrV _ _ _).slots.size ≤ _); rw [arrV_size]; exact hin) rfl rfl hd fun H1 e' z oq => ?_
  refine kk l p e R s m args below meth c H1 _ cells slots ls G ⟨f1, f2, f3, f4, f5, f6, f7, f8, f9, f10, f11.set he z oq ?_, f12.put z oq (f11.2.2.2.2.1 a _ he).2, f13, f14⟩
  show H1[a]? = some (vp_cell _ _)
  rw [e', vp_cell_i, vp_cell_i, arrV_store]
  congr 2
  funext q
  by_cases hq : q = i.toNatClampNeg
  · subst hq
    simp [updV, upd]
  · simp [updV, upd, hq]
theorem zV_bast {a n : Nat} {cA : ClassId} {f : Nat → Int32} {i x : Int32} (t0 : Nat) (he : hm a = some (.inl (cA, n, .inl f))) (ht : tys[t0]? = some (cA, .byte)) (hin : vp_in i n) (hd : decode cc pc = .ok (.bastore, 1))
    (kk : zV s0 D tys y cc nL ret rF rL mc ms (pc + 1) lo st hi (va_up hm a (some (.inl (cA, n, .inl (upd f i.toNatClampNeg (vp_nar .byte x)))))) nx Q) : zV s0 D tys y cc nL ret rF rL mc ms pc lo (.int x :: .int i :: .ref a :: st) hi hm nx Q := by
  intro l p e R s m args below meth c H locs cells slots ls G F
  obtain ⟨f1, f2, f3, f4, f5, f6, f7, f8, f9, f10, f11, f12, f13, f14⟩ := F
  refine W.bast f1 f2 (f11.2.2.2.2.1 a _ he).1 (((zG_K G f8).2 t0 _ ht).1 n (fun j => .int (f j))) (fun q => by cases q) (by show ¬ (i < 0 ∨ (arrV _ _ _).slots.size ≤ _); rw [arrV_size]; exact hin) rfl rfl hd fun H1 e' z oq => ?_
  refine kk l p e R s m args below meth c H1 _ cells slots ls G ⟨f1, f2, f3, f4, f5, f6, f7, f8, f9, f10, f11.set he z oq ?_, f12.put z oq (f11.2.2.2.2.1 a _ he).2, f13, f14⟩
  show H1[a]? = some (vp_cell _ _)
  rw [e', vp_cell_i, vp_cell_i, arrV_store]
  congr 2
  funext q
  by_cases hq : q = i.toNatClampNeg
  · subst hq
    simp [updV, upd, vp_nar]
    try rfl
  · simp [updV, upd, hq]
theorem zV_last {a n : Nat} {cA : ClassId} {f : Nat → Int64} {i : Int32} {x : Int64} (t0 : Nat) (he : hm a = some (.inl (cA, n, .inr (.inl f)))) (ht : tys[t0]? = some (cA, .long)) (hin : vp_in i n) (hd : decode cc pc = .ok (.lastore, 1))
    (kk : zV s0 D tys y cc nL ret rF rL mc ms (pc + 1) lo st hi (va_up hm a (some (.inl (cA, n, .inr (.inl (vp_updL f i.toNatClampNeg x)))))) nx Q) : zV s0 D tys y cc nL ret rF rL mc ms pc lo (.long x :: .int i :: .ref a :: st) hi hm nx Q := by
  intro l p e R s m args below meth c H locs cells slots ls G F
  obtain ⟨f1, f2, f3, f4, f5, f6, f7, f8, f9, f10, f11, f12, f13, f14⟩ := F
  refine W.last f1 f2 (f11.2.2.2.2.1 a _ he).1 (((zG_K G f8).2 t0 _ ht).1 n (fun j => .long (f j))) (fun q => by cases q) (by show ¬ (i < 0 ∨ (arrV _ _ _).slots.size ≤ _); rw [arrV_size]; exact hin) rfl rfl hd fun H1 e' z oq => ?_
  refine kk l p e R s m args below meth c H1 _ cells slots ls G ⟨f1, f2, f3, f4, f5, f6, f7, f8, f9, f10, f11.set he z oq ?_, f12.put z oq (f11.2.2.2.2.1 a _ he).2, f13, f14⟩
  show H1[a]? = some (vp_cell _ _)
  rw [e', vp_cell_l, vp_cell_l, arrV_store]
  congr 2
  funext q
  by_cases hq : q = i.toNatClampNeg
  · subst hq
    simp [updV, vp_updL]
  · simp [updV, vp_updL, hq]
theorem zV_aast {a n ci v : Nat} {cA : ClassId} {r : vw_C} {vs : List Value} {f : Nat → Option Nat} {i : Int32} (t0 : Nat) (he : hm a = some (.inl (cA, n, .inr (.inr (.inr (.inr f)))))) (ht : tys[t0]? = some (cA, .object r.1)) (hv : zE hi hm v (.inr (ci, vs))) (hc : zcl[ci]? = some r) (hin : vp_in i n) (hd : decode cc pc = .ok (.aastore, 1))
    (kk : zV s0 D tys y cc nL ret rF rL mc ms (pc + 1) lo st hi (va_up hm a (some (.inl (cA, n, .inr (.inr (.inr (.inr (va_up f i.toNatClampNeg (some v))))))))) nx Q) : zV s0 D tys y cc nL ret rF rL mc ms pc lo (.ref v :: .int i :: .ref a :: st) hi hm nx Q := by
  intro l p e R s m args below meth c H locs cells slots ls G F
  obtain ⟨f1, f2, f3, f4, f5, f6, f7, f8, f9, f10, f11, f12, f13, f14⟩ := F
  have hK := zG_K G f8
  have hlt : i.toNatClampNeg < n := Nat.not_le.mp fun q => hin (Or.inr q)
  have h0 : ¬ i < 0 := fun q => hin (Or.inl q)
  obtain ⟨r', hr', cellV, g1, g2, g3, -⟩ := hv.at f11
  have hcls := (hK.1 ci r hc).2
  obtain ⟨kA, comp, k1, k2, k3, -⟩ := (hK.2 t0 _ ht).2
  have hcomp : comp = D.1 ci := Option.some.inj (k3.symm.trans hcls.1)
  subst hcomp
  obtain ⟨kC, hkC, -⟩ := hcls.2
  refine W.aast f1 f2 (f11.2.2.2.2.1 a _ he).1 (fun q h => by cases h) (fun h => by cases h) k1 k2 rfl hkC ⟨h0, by show _ < (arrV _ _ _).slots.size; rw [arrV_size]; exact hlt⟩ g1 (fun q h => by rw [g3] at h; cases h) (by rw [g2]; exact hkC) (by rw [g2]; exact va_assign hcls) rfl rfl hd fun H1 e' z oq => ?_
  refine kk l p e R s m args below meth c H1 _ cells slots ls G ⟨f1, f2, f3, f4, f5, f6, f7, f8, f9, f10, f11.set he z oq ?_, f12.put z oq (f11.2.2.2.2.1 a _ he).2, f13, f14⟩
  show H1[a]? = some (vp_cell _ _)
  rw [e', vp_cell_q, vp_cell_q, arrV_store]
  congr 2
  funext q
  by_cases hq : q = i.toNatClampNeg
  · subst hq
    simp [updV, va_up, va_rf]
  · simp [updV, va_up, hq]
theorem zV_aastN {a n : Nat} {cA : ClassId} {C : String} {f : Nat → Option Nat} {i : Int32} (t0 : Nat) (he : hm a = some (.inl (cA, n, .inr (.inr (.inr (.inr f)))))) (ht : tys[t0]? = some (cA, .object C)) (hin : vp_in i n) (hd : decode cc pc = .ok (.aastore, 1))
    (kk : zV s0 D tys y cc nL ret rF rL mc ms (pc + 1) lo st hi (va_up hm a (some (.inl (cA, n, .inr (.inr (.inr (.inr (va_up f i.toNatClampNeg none)))))))) nx Q) : zV s0 D tys y cc nL ret rF rL mc ms pc lo (.null :: .int i :: .ref a :: st) hi hm nx Q := by
  intro l p e R s m args below meth c H locs cells slots ls G F
  obtain ⟨f1, f2, f3, f4, f5, f6, f7, f8, f9, f10, f11, f12, f13, f14⟩ := F
  refine va_WaastN (C := C) f1 f2 (f11.2.2.2.2.1 a _ he).1 (((zG_K G f8).2 t0 _ ht).1 n (fun j => va_rf (f j))) (fun h => by cases h) (by show ¬ (i < 0 ∨ (arrV _ _ _).slots.size ≤ _); rw [arrV_size]; exact hin) rfl rfl hd fun H1 e' z oq => ?_
  refine kk l p e R s m args below meth c H1 _ cells slots ls G ⟨f1, f2, f3, f4, f5, f6, f7, f8, f9, f10, f11.set he z oq ?_, f12.put z oq (f11.2.2.2.2.1 a _ he).2, f13, f14⟩
  show H1[a]? = some (vp_cell _ _)
  rw [e', vp_cell_q, vp_cell_q, arrV_store]
  congr 2
  funext q
  by_cases hq : q = i.toNatClampNeg
  · subst hq
    simp [updV, va_up, va_rf]
  · simp [updV, va_up, hq]
theorem zV_newp {cA : ClassId} {atype : ArrayType} {ty : FieldType} {a0 : vp_A} {n : Int32} {N : Nat} (t0 : Nat) (hty : newarray.typeOf atype = ty) (ht : tys[t0]? = some (cA, ty)) (hra : ∀ U cA', va_RA U cA' ty = (U.vm.findClass ("[" ++ ty.toString) = some cA')) (harr : Cond.arrayClass ty ∈ zT) (ha : ∀ cA : ClassId, vp_cell cA a0 = arrV cA N (fun _ => defaultValue ty)) (hn : ¬ n < 0) (hN : n.toNatClampNeg = N) (hbytes : N * componentBytes ty ≤ 536870912) (hd : decode cc pc = .ok (.newarray atype, 2))
    (kk : zV s0 D tys y cc nL ret rF rL mc ms (pc + 2) lo (.ref nx :: st) hi (va_up hm nx (some (.inl (cA, a0)))) (nx + 1) Q) : zV s0 D tys y cc nL ret rF rL (mc + 1) (ms + N) pc lo (.int n :: st) hi hm nx Q := by
  intro l p e R s m args below meth c H locs cells slots ls G F
  obtain ⟨f1, f2, f3, f4, f5, f6, f7, f8, f9, f10, f11, f12, f13, f14⟩ := F
  have hnx := f11.1
  subst hty
  have hK := zG_K G f8
  have hRA := (hK.2 t0 _ ht).2
  rw [hra] at hRA
  refine va_newaK f1 f2 (zG_w G f8 args _ harr) rfl hd rfl hn hN hbytes (by omega) (by omega) hnx fun H1 cA1 e1 z1 o1 hAr hNm => ?_
  have hcA : cA = cA1 := Option.some.inj (hRA.symm.trans hNm)
  subst hcA
  have z2 : H1.size = H.size + 1 := by rw [hnx]; exact z1
  have o2 : ∀ q : Nat, q < H.size → H1[q]? = H[q]? := fun q hq => o1 q (by omega)
  refine kk l p e R s m args below meth c H1 locs (cells + 1) (slots + N) ls G ⟨f1, f2, f3, f4, f5, f6, f7, f8, f9, ⟨by omega, by omega⟩, f11.push z2 o2 ?_, f12.pushed z2 o2, f13, f14⟩
  show H1[H.size]? = some (vp_cell _ _)
  rw [ha, hnx]
  exact e1
theorem zV_objInit {a idx : Nat} (hlink : Cond.methodLink y.cls idx Lib.objectInit ∈ zT) (hinst : Cond.instanceMethod Lib.objectInit ∈ zT) (hcode : Cond.code Lib.objectInit ⟨#[0xb1]⟩ 1 none ∈ zT) (hrF : 1 ≤ rF) (hrL : (st.map fun v => v.category).sum + 12 ≤ rL) (hd : decode cc pc = .ok (.invokespecial idx, 3))
    (kk : zV s0 D tys y cc nL ret rF rL mc ms (pc + 3) lo st hi hm nx Q) : zV s0 D tys y cc nL ret rF rL mc ms pc lo (.ref a :: st) hi hm nx Q := by
  intro l p e R s m args below meth c H locs cells slots ls G F
  have F2 := F
  obtain ⟨f1, f2, f3, f4, f5, f6, f7, f8, f9, f10, f11, f12, f13, f14⟩ := F2
  have hts := zG_w G f8 args
  have hz : 2 * (F0 m pc ls (.ref a :: st)).monitorRoom = 0 := by
    have := lv_room (m := m) (pc := pc) (ls := ls) (rest := .ref a :: st) (st := []) (Nat.zero_le _)
    first | rfl | simp_all
  exact W.objInit f1 f2 f5 (hts _ hlink) (hts _ hinst) (hts _ hcode) rfl (f14.1.trans f4.symm) rfl hd (by omega) (by rw [hz]; omega) (kk l p e R s m args below meth c H locs cells slots ls G F)
theorem zV_instY {a ci idx N : Nat} {fs : List Value} {C : String} {T : u_T} (he : zE hi hm a (.inr (ci, fs))) (hc : zcl[ci]? = some (C, T, N)) (hlink : Cond.classLink y.cls idx C ∈ zT) (hd : decode cc pc = .ok (.instanceof idx, 3))
    (kk : zV s0 D tys y cc nL ret rF rL mc ms (pc + 3) lo (.int 1 :: st) hi hm nx Q) : zV s0 D tys y cc nL ret rF rL mc ms pc lo (.ref a :: st) hi hm nx Q := by
  intro l p e R s m args below meth c H locs cells slots ls G F
  have F2 := F
  obtain ⟨f1, f2, f3, f4, f5, f6, f7, f8, f9, f10, f11, f12, f13, f14⟩ := F2
  have hK := zG_K G f8
  exact va_instS f1 f2 f5 (zG_w G f8 args _ hlink) (hK.1 ci _ hc).2 (va_recv (ws := [(a, .inr (ci, fs))]) hK (he.P f11) (q0 := 0) hc rfl) hd (kk l p e R s m args below meth c H locs cells slots ls G F)
theorem zV_castY {a ci idx N : Nat} {fs : List Value} {C : String} {T : u_T} (he : zE hi hm a (.inr (ci, fs))) (hc : zcl[ci]? = some (C, T, N)) (hlink : Cond.classLink y.cls idx C ∈ zT) (hd : decode cc pc = .ok (.checkcast idx, 3))
    (kk : zV s0 D tys y cc nL ret rF rL mc ms (pc + 3) lo (.ref a :: st) hi hm nx Q) : zV s0 D tys y cc nL ret rF rL mc ms pc lo (.ref a :: st) hi hm nx Q := by
  intro l p e R s m args below meth c H locs cells slots ls G F
  have F2 := F
  obtain ⟨f1, f2, f3, f4, f5, f6, f7, f8, f9, f10, f11, f12, f13, f14⟩ := F2
  have hK := zG_K G f8
  exact va_castS f1 f2 f5 (zG_w G f8 args _ hlink) (hK.1 ci _ hc).2 (va_recv (ws := [(a, .inr (ci, fs))]) hK (he.P f11) (q0 := 0) hc rfl) hd (kk l p e R s m args below meth c H locs cells slots ls G F)
theorem zV_instNo {a ci idx N : Nat} {fs : List Value} {C nm : String} {T : u_T} (he : zE hi hm a (.inr (ci, fs))) (hc : zcl[ci]? = some (C, T, N)) (hlink : Cond.classLink y.cls idx nm ∈ zT) (hno : Cond.not (.castable C nm) ∈ flatC (Jvm.Cond.and given_1 narrow_1)) (hd : decode cc pc = .ok (.instanceof idx, 3))
    (kk : zV s0 D tys y cc nL ret rF rL mc ms (pc + 3) lo (.int 0 :: st) hi hm nx Q) : zV s0 D tys y cc nL ret rF rL mc ms pc lo (.ref a :: st) hi hm nx Q := by
  intro l p e R s m args below meth c H locs cells slots ls G F
  have F2 := F
  obtain ⟨f1, f2, f3, f4, f5, f6, f7, f8, f9, f10, f11, f12, f13, f14⟩ := F2
  have hK := zG_K G f8
  have hNc : va_Nc C nm s := by
    obtain ⟨b, -, h2, -⟩ := G
    exact (va_Nc.of (flat_of_before _ h2 _ hno)).moved f8.alike
  exact va_instNo f1 f2 f5 (zG_w G f8 args _ hlink) hNc (va_recv (ws := [(a, .inr (ci, fs))]) hK (he.P f11) (q0 := 0) hc rfl) hd (kk l p e R s m args below meth c H locs cells slots ls G F)
end ZH
