/-! ===== the z-kit: one judgement 'zV' over an abstract heap (hi: cells that no one writes any more, hm: cells that may be written), rows of it out of the kit's rows ===== -/
abbrev zHp : Type := Nat → Option va_E
/-- the classes of the objects -/
abbrev zcl : List vw_C := [(RX0, TX0, 3), (RX1, TX1, 3), (RX2, TX2, 2), (RX3, TX3, 6), (RX4, TX4, 4), (RX5, TX5, 1), (RX6, TX6, 0), (RX7, TX7, 12), (RX8, TX8, 2), (RX9, TX9, 7), (RX10, TX10, 5), (RX11, TX11, 14), (RX12, TX12, 26), (RJ4, TJ4, 4)]
/-- the tables' words that every callee keeps -/
def zT : List Cond := lw_tbl.filter goodWord
theorem zT_mem {w : Cond} (i : Nat) (h : lw_tbl[i]? = some w) (hg : goodWord w = true) : w ∈ zT := List.mem_filter.mpr ⟨List.mem_of_getElem? h, hg⟩
theorem zT_good : GoodIn zT zT := fun w hw => ⟨hw, good_of_word (List.mem_filter.mp hw).2⟩
theorem zT_all (ws : List Cond) (ps : List Nat) (h : ps.map (fun i => lw_tbl[i]?) = ws.map some) (hg : ws.all goodWord = true) : ∀ w ∈ ws, w ∈ zT := by
  intro w hw
  have h1 : some w ∈ ws.map some := List.mem_map.mpr ⟨w, hw, rfl⟩
  rw [← h] at h1
  obtain ⟨i, -, hi⟩ := List.mem_map.mp h1
  exact zT_mem i hi (List.all_eq_true.mp hg w hw)
/-- words of nest mates and casts, kept by hand -/
def zNk : Cond → Bool
  | .methodLinkNest _ _ _ _ => true
  | .fieldLinkNest _ _ _ _ _ _ => true
  | .castable _ _ => true
  | _ => false
theorem zNk_warm {w : Cond} (h : zNk w = true) {s U : State} (hW : s.WarmedH U.vm) (hZ : va_Nw w s) : va_Nw w U := by
  cases w <;> first | exact va_Nw.warmM hW hZ | exact va_Nw.warmF hW hZ | exact va_Nw.warmC hW hZ | cases h
theorem zNk_on {w : Cond} (h : zNk w = true) : w.onTables = true := by
  cases w <;> first | rfl | cases h
/-- what holds of the start of all: the tables, what the Statement gives, the classes -/
def zG (D : va_G) (tys : List (ClassId × FieldType)) (s0 : State) : Prop :=
  ∃ b : Nat, (∀ w ∈ lw_tbl, w.before #[Value.ref b] s0 = true) ∧ (Jvm.Cond.and given_1 narrow_1).before #[Value.ref b] s0 = true ∧ va_K D zcl tys s0
/-- the abstract heap is held by the heap -/
def z_W (s0 : State) (D : va_G) (hi hm : zHp) (nx : Nat) (H : Heap) : Prop :=
  H.size = nx ∧ s0.heap.size ≤ nx ∧ (∀ q, q < s0.heap.size → H[q]? = s0.heap[q]?) ∧ (∀ a e, hi a = some e → va_at D zcl (a, e) H ∧ s0.heap.size ≤ a) ∧ (∀ a e, hm a = some e → va_at D zcl (a, e) H ∧ s0.heap.size ≤ a) ∧ ∀ a e, hi a = some e → hm a = none
def zA (s0 : State) : Nat → Prop := fun q => s0.heap.size ≤ q
def zQc (s0 : State) (D : va_G) (Q : Option Value → zHp → zHp → Nat → Prop) : Array Value → State → Outcome → State → Prop := fun _ st oc t =>
  (∃ (v : Option Value) (hi hm : zHp) (nx : Nat), oc = .returned v ∧ Q v hi hm nx ∧ z_W s0 D hi hm nx t.heap) ∧ va_F (zA s0) st t
/-- what stands at every instruction of a method's walk -/
def zF (s0 : State) (D : va_G) (y : MethodName) (cc : ByteArray) (nL : Nat) (ret : Option FieldType) (rF rL mc ms : Nat) (lo : List (Nat × Value)) (hi hm : zHp) (nx : Nat) (p : Program) (R : Room) (s : State) (m : MethodId) (meth : Method) (c : Code) (H : Heap) (locs : List Loc) (cells slots : Nat) (ls : Array Slot) : Prop :=
  p.tables.exec = Jvm.exec ∧ c.code = cc ∧ meth.sig.returnType = ret ∧ c.maxLocals = nL ∧ s.vm.findClass y.cls = some m.cls ∧ meth.name = y.name ∧ meth.locks = false ∧ s0.WarmedH s.vm ∧ (rF ≤ R.frames ∧ rL ≤ R.locals) ∧ (cells + mc ≤ R.cells ∧ slots + ms ≤ R.slots) ∧ z_W s0 D hi hm nx H ∧ va_S (zA s0) s.heap H locs ∧ s0.heap.size ≤ s.heap.size ∧ lv_has ls nL lo
def zV (s0 : State) (D : va_G) (tys : List (ClassId × FieldType)) (y : MethodName) (cc : ByteArray) (nL : Nat) (ret : Option FieldType) (rF rL mc ms pc : Nat) (lo : List (Nat × Value)) (st : List Value) (hi hm : zHp) (nx : Nat) (Q : Option Value → zHp → zHp → Nat → Prop) : Prop :=
  ∀ (l : Launch) (p : Program) (e : Env) (R : Room) (s : State) (m : MethodId) (args : Array Value) (below : List Frame) (meth : Method) (c : Code) (H : Heap) (locs : List Loc) (cells slots : Nat) (ls : Array Slot),
    zG D tys s0 → zF s0 D y cc nL ret rF rL mc ms lo hi hm nx p R s m meth c H locs cells slots ls →
    W p l e R s m args below meth c H locs cells slots (MQ below (zQc s0 D Q) args s R.cells R.slots (zA s0)) (F0 m pc ls st)
/-- a method's contract at its arguments and its heap -/
def zM (s0 : State) (D : va_G) (tys : List (ClassId × FieldType)) (y : MethodName) (cc : ByteArray) (nL : Nat) (ret : Option FieldType) (rF rL mc ms : Nat) (av : List Value) (hi hm : zHp) (nx : Nat) (Q : Option Value → zHp → zHp → Nat → Prop) : Prop :=
  ∀ l : Launch, zG D tys s0 → Met l y (.code y cc nL ret :: zT) { frames := rF, cells := mc, slots := ms, locals := rL } (va_Pc av (fun U => s0.WarmedH U.vm ∧ z_W s0 D hi hm nx U.heap)) (zQc s0 D Q) mc ms (zA s0)
theorem zG_w {D : va_G} {tys : List (ClassId × FieldType)} {s0 s : State} (G : zG D tys s0) (hW : s0.WarmedH s.vm) (args : Array Value) : ∀ w ∈ zT, w.before args s = true := by
  obtain ⟨b, h1, h2, h3⟩ := G
  exact fun w hw => word_at hW (zT_good w hw).2 (h1 w (List.mem_filter.mp hw).1)
theorem zG_K {D : va_G} {tys : List (ClassId × FieldType)} {s0 s : State} (G : zG D tys s0) (hW : s0.WarmedH s.vm) : va_K D zcl tys s := by
  obtain ⟨b, h1, h2, h3⟩ := G
  exact va_K.moved hW.alike h3
theorem zG_N {D : va_G} {tys : List (ClassId × FieldType)} {s0 s : State} (G : zG D tys s0) (hW : s0.WarmedH s.vm) {w : Cond} (h : w ∈ lw_tbl) (hk : zNk w = true) : va_Nw w s := by
  obtain ⟨b, h1, h2, h3⟩ := G
  exact zNk_warm hk hW (va_Nw.of (zNk_on hk) (h1 w h))
/-- a contract out of the walk of the body -/
theorem zM_of {s0 : State} {D : va_G} {tys : List (ClassId × FieldType)} {y : MethodName} {cc : ByteArray} {nL : Nat} {ret : Option FieldType} {rF rL mc ms : Nat} {av : List Value} {hi hm : zHp} {nx : Nat} {Q : Option Value → zHp → zHp → Nat → Prop} (hy : plainName y.cls = true) (hl : (lg_sl av).length ≤ nL)
    (h : zV s0 D tys y cc nL ret rF rL mc ms 0 (lv_args 0 av) [] hi hm nx Q) : zM s0 D tys y cc nL ret rF rL mc ms av hi hm nx Q := by
  intro l G
  refine Met.ofW (cc := cc) (maxL := nL) (ret := ret) hy rfl ?_
  intro p e s m args below meth c s₁ B hml hv
  obtain ⟨rfl, hW, hw⟩ := hv
  have hown : s.vm.findClass y.cls = some m.cls := findClass_of_methodNamed B.named
  have hnm : meth.name = y.name := (name_of_methodNamed B.named B.method).1
  have hl1 := lv_entry av (n := nL) hl
  rw [lg_entry_eq]
  generalize (lg_sl av ++ List.replicate (nL - (lg_sl av).length) Slot.unset).toArray = ls at hl1 ⊢
  exact h l p e _ s m _ below meth c s.heap [] 0 0 ls G ⟨B.exec, B.bytes, B.returns, hml, hown, hnm, B.notSynchronized, hW, ⟨Nat.le_refl _, Nat.le_refl _⟩, ⟨Nat.le_of_eq (Nat.zero_add _), Nat.le_of_eq (Nat.zero_add _)⟩, hw, va_S.rf, by have := hw.1; have := hw.2.1; omega, hl1⟩
section ZR
variable {s0 : State} {D : va_G} {tys : List (ClassId × FieldType)} {y : MethodName} {cc : ByteArray} {nL : Nat} {ret : Option FieldType} {rF rL mc ms pc : Nat} {lo : List (Nat × Value)} {st : List Value} {hi hm : zHp} {nx : Nat} {Q : Option Value → zHp → zHp → Nat → Prop}
theorem zV_eq {pc2 : Nat} {lo2 : List (Nat × Value)} {st2 : List Value} {hm2 : zHp} (h1 : pc = pc2) (h2 : lo = lo2) (h3 : st = st2) (h4 : hm = hm2) (k : zV s0 D tys y cc nL ret rF rL mc ms pc2 lo2 st2 hi hm2 nx Q) : zV s0 D tys y cc nL ret rF rL mc ms pc lo st hi hm nx Q := by subst h1; subst h2; subst h3; subst h4; exact k
/-- less room is asked -/
theorem zV_less {mc' ms' : Nat} (h1 : mc' ≤ mc) (h2 : ms' ≤ ms) (k : zV s0 D tys y cc nL ret rF rL mc' ms' pc lo st hi hm nx Q) : zV s0 D tys y cc nL ret rF rL mc ms pc lo st hi hm nx Q := by
  intro l p e R s m args below meth c H locs cells slots ls G F
  obtain ⟨f1, f2, f3, f4, f5, f6, f7, f8, f9, f10, f11⟩ := F
  exact k l p e R s m args below meth c H locs cells slots ls G ⟨f1, f2, f3, f4, f5, f6, f7, f8, f9, ⟨by omega, by omega⟩, f11⟩
theorem zV_imp {Q' : Option Value → zHp → zHp → Nat → Prop} (h : ∀ v hi' hm' nx', Q' v hi' hm' nx' → Q v hi' hm' nx') (k : zV s0 D tys y cc nL ret rF rL mc ms pc lo st hi hm nx Q') : zV s0 D tys y cc nL ret rF rL mc ms pc lo st hi hm nx Q := by
  intro l p e R s m args below meth c H locs cells slots ls G F T hT X
  obtain ⟨t, a, o, b1, b2, ⟨⟨v, hi', hm', nx', c1, c2, c3⟩, c4⟩, b4⟩ := k l p e R s m args below meth c H locs cells slots ls G F T hT X
  exact ⟨t, a, o, b1, b2, ⟨⟨v, hi', hm', nx', c1, h _ _ _ _ c2, c3⟩, c4⟩, b4⟩
theorem zV_locals {lo2 : List (Nat × Value)} (h : ∀ q ∈ lo2, q ∈ lo) (k : zV s0 D tys y cc nL ret rF rL mc ms pc lo2 st hi hm nx Q) : zV s0 D tys y cc nL ret rF rL mc ms pc lo st hi hm nx Q := by
  intro l p e R s m args below meth c H locs cells slots ls G F
  obtain ⟨f1, f2, f3, f4, f5, f6, f7, f8, f9, f10, f11, f12, f13, f14⟩ := F
  exact k l p e R s m args below meth c H locs cells slots ls G ⟨f1, f2, f3, f4, f5, f6, f7, f8, f9, f10, f11, f12, f13, f14.1, f14.2.1, fun q hq => f14.2.2 q (h q hq)⟩
end ZR
