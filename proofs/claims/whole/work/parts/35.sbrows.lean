/-! ===== rows for the text builder: private and upper methods, arraycopy, static rows of bytes ===== -/
theorem z_selP {C : String} {y : MethodName} {s : State} {args : Array Value} {n : Nat} (hy : y.cls ≠ "java/lang/invoke/MethodHandle" ∧ y.cls ≠ "java/lang/invoke/VarHandle") (hins : (Cond.instantiable C n).before args s = true) (hpriv : (Cond.privateMethod y).before args s = true) (hinst : (Cond.instanceMethod y).before args s = true) (hsame : (Cond.sameMethod y.cls y.cls y.name y.desc).before args s = true) :
    (Cond.selects C y y).before args s = true := by
  obtain ⟨c, k, hc, hk, -, hniab, -, -⟩ := Cond.instantiable_spec hins
  obtain ⟨mk, methM, hnamed, hmethM, -, -⟩ := Cond.instanceMethod_spec hinst
  have hfound : s.methodFound? y.cls y.name y.desc = some mk := State.methodFound?_of_named hnamed hy
  have hsel : selectMethod {} s.vm c mk = .method mk := selectMethod_private hmethM (Cond.privateMethod_at hpriv mk methM hnamed hmethM)
  obtain ⟨-, k2, hk2, hni⟩ := Cond.sameMethod_spec (findClass_of_methodNamed hnamed) hfound hsame
  simp only [Cond.before, Cond.holds, Cond.value, hc, hfound, hnamed, hsel, hk]
  simp [hk2, hni]
section ZSB
variable {s0 : State} {D : va_G} {tys : List (ClassId × FieldType)} {y : MethodName} {cc : ByteArray} {nL : Nat} {ret : Option FieldType} {rF rL mc ms pc : Nat} {lo : List (Nat × Value)} {hi hm : zHp} {nx : Nat} {Q : Option Value → zHp → zHp → Nat → Prop}
variable {y2 : MethodName} {cc2 : ByteArray} {nL2 : Nat} {ret2 : Option FieldType} {rF2 rL2 mc2 ms2 : Nat} {As rest : List Value} {Q2 : Option Value → zHp → zHp → Nat → Prop} {n idx : Nat}
theorem zO_pay {s : State} {args : Array Value} (G : zG D tys s0) (f8 : s0.WarmedH s.vm) (O : zO y2 cc2 nL2 ret2 n) : ∀ w ∈ Cond.code y2 cc2 nL2 ret2 :: zT, ∀ (a' : Array Value) (U : State), s.WarmedH U.vm → w.before a' U = true := pay_in (zG_w G f8 args) (zO_good O)
/-- a private method of the class above, of an object of a subclass -/
theorem zV_callP {C : String} {b ci N : Nat} {fs : List Value} {T : u_T} (hM : zM s0 D tys y2 cc2 nL2 ret2 rF2 rL2 mc2 ms2 (.ref b :: As) hi hm nx Q2) (O : zO y2 cc2 nL2 ret2 n) (he : zE hi hm b (.inr (ci, fs))) (hc : zcl[ci]? = some (C, T, N)) (hlink : Cond.methodLink y.cls idx y2 ∈ zT) (hsame : Cond.sameMethod y2.cls y2.cls y2.name y2.desc ∈ zT) (hins : Cond.instantiable C N ∈ zT) (hpriv : Cond.privateMethod y2 ∈ lw_tbl) (hinst : Cond.instanceMethod y2 ∈ zT) (hdx : y2.cls ≠ "java/lang/invoke/MethodHandle" ∧ y2.cls ≠ "java/lang/invoke/VarHandle" ∧ (parseMethodDescriptor y2.desc).map (fun d => d.parameters.length) = some n) (hn : As.length = n) {st : List Value} (hst : st = As.reverse ++ .ref b :: rest) (hrest : (rest.map fun v => v.category).sum ≤ 8) (hR : rF2 + 1 ≤ rF ∧ 8 + (nL2 + 11) + rL2 ≤ rL) (hmc : mc2 ≤ mc ∧ ms2 ≤ ms) (hd : decode cc pc = .ok (.invokevirtual idx, 3))
    (k : ∀ (v : Option Value) (hi' hm' : zHp) (nx' : Nat), Q2 v hi' hm' nx' → zV s0 D tys y cc nL ret rF rL (mc - mc2) (ms - ms2) (pc + 3) lo (v.toList ++ rest) hi' hm' nx' Q) : zV s0 D tys y cc nL ret rF rL mc ms pc lo st hi hm nx Q := by
  intro l p e R s m args below meth c H locs cells slots ls G F
  obtain ⟨f1, f2, f3, f4, f5, f6, f7, f8, f9, f10, f11, f12, f13, f14⟩ := F
  have hts := zG_w G f8 args
  have hcode : Cond.code y2 cc2 nL2 ret2 ∈ zT := O.1
  have hsel : (Cond.selects C y2 y2).before args s = true := by
    obtain ⟨b0, g1, -, -⟩ := id G
    have t0 : ∀ w ∈ zT, w.before #[Value.ref b0] s0 = true := fun w hw => g1 w (List.mem_filter.mp hw).1
    exact word_at f8 (good_of_word (w := Cond.selects C y2 y2) rfl) (z_selP ⟨hdx.1, hdx.2.1⟩ (t0 _ hins) (g1 _ hpriv) (t0 _ hinst) (t0 _ hsame))
  have hB : va_CU R s args y.cls C y2.cls idx y2 y2 cc2 nL2 ret2 (.code y2 cc2 nL2 ret2 :: zT) { frames := rF2, cells := mc2, slots := ms2, locals := rL2 } mc2 ms2 n := by
    refine ⟨⟨rfl, rfl, Nat.le_trans hR.1 f9.1, Nat.le_trans hR.2 f9.2, zO_pay (args := args) G f8 O, List.mem_cons_self⟩, hts _ hcode, hts _ O.2.1, ⟨hdx.1, hdx.2.1⟩, fun sig h => ?_, hts _ hlink, hts _ hsame, va_Decl.of (hts _ hinst) (hts _ hcode), hsel, hts _ hinst⟩
    have h2 := hdx.2.2
    rw [h] at h2
    exact (Option.some.inj h2).symm
  refine z_call (va_runU (As := As) (rest := rest) (b := b) ⟨f1, f2, f4, f5, hts⟩ (hM l G) hB ⟨zFB, zRecv G f8 f11 he hc, zPre f8 f11⟩ rfl hn f14.1 hst (lv_room hrest) hd ⟨by omega, by omega⟩) f12 ?_
  intro v hi' hm' nx' H1 locs1 hq hw hS
  exact k v hi' hm' nx' hq l p e R s m args below meth c H1 locs1 _ _ ls G ⟨f1, f2, f3, f4, f5, f6, f7, f8, f9, ⟨by omega, by omega⟩, hw, hS, f13, f14⟩
/-- a method of the class above, by super -/
theorem zV_callSU {C : String} {b ci N : Nat} {fs : List Value} {T : u_T} (hM : zM s0 D tys y2 cc2 nL2 ret2 rF2 rL2 mc2 ms2 (.ref b :: As) hi hm nx Q2) (O : zO y2 cc2 nL2 ret2 n) (he : zE hi hm b (.inr (ci, fs))) (hc : zcl[ci]? = some (C, T, N)) (hlink : Cond.methodLink y.cls idx y2 ∈ zT) (hsame : Cond.sameMethod y2.cls y2.cls y2.name y2.desc ∈ zT) (hsup : Cond.superclass y.cls y2.cls ∈ zT) (hinst : Cond.instanceMethod y2 ∈ zT) (hno : y2.name ≠ "<init>") (hdx : (parseMethodDescriptor y2.desc).map (fun d => d.parameters.length) = some n) (hn : As.length = n) {st : List Value} (hst : st = As.reverse ++ .ref b :: rest) (hrest : (rest.map fun v => v.category).sum ≤ 8) (hR : rF2 + 1 ≤ rF ∧ 8 + (nL2 + 11) + rL2 ≤ rL) (hmc : mc2 ≤ mc ∧ ms2 ≤ ms) (hd : decode cc pc = .ok (.invokespecial idx, 3))
    (k : ∀ (v : Option Value) (hi' hm' : zHp) (nx' : Nat), Q2 v hi' hm' nx' → zV s0 D tys y cc nL ret rF rL (mc - mc2) (ms - ms2) (pc + 3) lo (v.toList ++ rest) hi' hm' nx' Q) : zV s0 D tys y cc nL ret rF rL mc ms pc lo st hi hm nx Q := by
  intro l p e R s m args below meth c H locs cells slots ls G F
  obtain ⟨f1, f2, f3, f4, f5, f6, f7, f8, f9, f10, f11, f12, f13, f14⟩ := F
  have hts := zG_w G f8 args
  have hcode : Cond.code y2 cc2 nL2 ret2 ∈ zT := O.1
  have hB : va_CS R s args y.cls idx y2 cc2 nL2 ret2 (.code y2 cc2 nL2 ret2 :: zT) { frames := rF2, cells := mc2, slots := ms2, locals := rL2 } mc2 ms2 n := by
    refine ⟨⟨rfl, rfl, Nat.le_trans hR.1 f9.1, Nat.le_trans hR.2 f9.2, zO_pay (args := args) G f8 O, List.mem_cons_self⟩, hts _ hlink, hts _ hsame, hts _ hsup, hts _ hinst, hts _ O.2.1, hts _ hcode, hno, fun sig h => ?_⟩
    have h2 := hdx
    rw [h] at h2
    exact (Option.some.inj h2).symm
  refine z_call (va_runSU (As := As) (rest := rest) (b := b) ((zG_K G f8).1 ci _ hc).2 ⟨f1, f2, f4, f5, hts⟩ (hM l G) hB ⟨zFB, zRecv G f8 f11 he hc, zPre f8 f11⟩ rfl hn f14.1 hst (lv_room hrest) hd ⟨by omega, by omega⟩) f12 ?_
  intro v hi' hm' nx' H1 locs1 hq hw hS
  exact k v hi' hm' nx' hq l p e R s m args below meth c H1 locs1 _ _ ls G ⟨f1, f2, f3, f4, f5, f6, f7, f8, f9, ⟨by omega, by omega⟩, hw, hS, f13, f14⟩
theorem zclamp {z : Int32} (hz : ¬ z < 0) : z.toInt = (z.toNatClampNeg : Int) := by
  have h0 := Int32.le_iff_toInt_le.mp (Int32.not_lt.mp hz)
  have h1 : (0 : Int32).toInt = 0 := rfl
  rw [h1] at h0
  show z.toInt = ((z.toInt.toNat : Nat) : Int)
  omega
theorem z_W.cp {H : Heap} (hw : z_W s0 D hi hm nx H) {a : Nat} {cA : ClassId} {x x' : vp_A} (ha : hm a = some (.inl (cA, x))) : z_W s0 D hi (va_up hm a (some (.inl (cA, x')))) nx (H.setIfInBounds a (vp_cell cA x')) ∧ ∀ q : Nat, q ≠ a → (H.setIfInBounds a (vp_cell cA x'))[q]? = H[q]? := by
  have hc1 : H[a]? = some (vp_cell cA x) := (hw.2.2.2.2.1 a _ ha).1
  have hl : a < H.size := (Array.getElem?_eq_some_iff.mp hc1).1
  have oq : ∀ q : Nat, q ≠ a → (H.setIfInBounds a (vp_cell cA x'))[q]? = H[q]? := fun q hq => by simp [Array.getElem?_setIfInBounds, Ne.symm hq]
  exact ⟨hw.set ha (by simp) oq (show (H.setIfInBounds a _)[a]? = some _ by simp [Array.getElem?_setIfInBounds, hl]), oq⟩
/-- where the bytes come from: a text of the start's heap, or a row of ours -/
def zSrc (s0 : State) (D : va_G) (tys : List (ClassId × FieldType)) (hi hm : zHp) (nx b0 n0 : Nat) (f : Nat → Int32) : Prop := ∀ (s : State) (H : Heap) (locs : List Loc), zG D tys s0 → s0.WarmedH s.vm → z_W s0 D hi hm nx H → va_S (zA s0) s.heap H locs → s0.heap.size ≤ s.heap.size → ∃ scr : Cell, H[b0]? = some scr ∧ s.isArrayOf scr .byte ∧ scr.vm ≠ .unknown ∧ n0 ≤ scr.slots.size ∧ ∀ j : Nat, j < n0 → scr.slots[j]? = some (.int (f j))
/-- System.arraycopy: out of a row that nobody writes here into one of ours, of bytes -/
theorem zV_cpy {b0 a n0 n1 : Nat} {cA : ClassId} {f g : Nat → Int32} {sp dp k : Int32} (t1 : Nat) (hx : zSrc s0 D tys hi hm nx b0 n0 f)
    (ha : hm a = some (.inl (cA, n1, .inl g))) (ht1 : tys[t1]? = some (cA, .byte)) (h1 : ¬ sp < 0) (h2 : ¬ dp < 0) (h3 : ¬ k < 0) (h4 : sp.toNatClampNeg + k.toNatClampNeg ≤ n0) (h5 : dp.toNatClampNeg + k.toNatClampNeg ≤ n1) (hfit : ∀ i : Nat, i < k.toNatClampNeg → fits .byte (.int (f (sp.toNatClampNeg + i))) = true)
    (hlink : Cond.methodLink y.cls idx arraycopyName ∈ zT) (hnat : Cond.native arraycopyName ∈ zT) (hstat : Cond.static arraycopyName ∈ zT) (hini : Cond.initialized "java/lang/System" ∈ zT) (hR : 1 ≤ rF ∧ (rest.map fun v => v.category).sum + (nativeFrameWords "java/lang/System" "arraycopy" 5 + 11) ≤ rL) (hd : decode cc pc = .ok (.invokestatic idx, 3))
    (kk : zV s0 D tys y cc nL ret rF rL mc ms (pc + 3) lo rest hi (va_up hm a (some (.inl (cA, n1, .inl (va_cpy f g sp.toNatClampNeg dp.toNatClampNeg k.toNatClampNeg))))) nx Q) : zV s0 D tys y cc nL ret rF rL mc ms pc lo (.int k :: .int dp :: .ref a :: .int sp :: .ref b0 :: rest) hi hm nx Q := by
  intro l p e R s m args below meth c H locs cells slots ls G F
  obtain ⟨f1, f2, f3, f4, f5, f6, f7, f8, f9, f10, f11, f12, f13, f14⟩ := F
  have hts := zG_w G f8 args
  obtain ⟨scr, hs1, hs2, hs3, hs4, hs5⟩ := hx s H locs G f8 f11 f12 f13
  intro T hT X
  have hc1 : H[a]? = some (vp_cell cA (n1, .inl g)) := (f11.2.2.2.2.1 a _ ha).1
  obtain ⟨hs6, k0, hk0, cm0, hkk0⟩ := hs2
  obtain ⟨-, k1, hk1, cm1, hkk1⟩ := ((zG_K G f8).2 t1 _ ht1).1 n1 (fun j => .int (g j))
  obtain ⟨vm', X', step⟩ := X.arraycopy f1 f5 (hts _ hlink) (hts _ hnat) (hts _ hstat) (hts _ hini) (src := b0) (dst := a) (cs := scr) (cd := vp_cell cA (n1, .inl g)) (srcPos := sp) (destPos := dp) (n := k) (by rw [hT]; exact hs1) (by rw [hT]; exact hc1)
    hs6 (fun _ h => by cases h) hs3 (fun h => by cases h) hk0 hk1 hkk0 hkk1 (by simp [refKind]) h1 h2 h3
    (by rw [zclamp h1, zclamp h3]; omega)
    (by rw [zclamp h2, zclamp h3]; show ¬ _ > ((arrV cA n1 (fun j => .int (g j))).slots.size : Int); rw [arrV_size]; omega)
    (fun vm₁ _ i hi => by
      have e : scr.slots.getD (sp.toNatClampNeg + i) .null = .int (f (sp.toNatClampNeg + i)) := by
        rw [Array.getD_eq_getD_getElem?, hs5 _ (by omega)]
        rfl
      exact ⟨by rw [e]; exact hfit i hi, by rw [e]; exact trivial⟩)
    (g := F0 m pc ls (.int k :: .int dp :: .ref a :: .int sp :: .ref b0 :: rest)) rfl (by show ls.size = c.maxLocals; rw [f4]; exact f14.1) (rest := rest) rfl (by rw [f2]; exact hd) (Nat.le_trans hR.1 f9.1) (by show 2 * 0 + _ + _ ≤ _; have := Nat.le_trans hR.2 f9.2; omega)
  have e1 : copied scr (vp_cell cA (n1, .inl g)) sp dp k = vp_cell cA (n1, .inl (va_cpy f g sp.toNatClampNeg dp.toNatClampNeg k.toNatClampNeg)) := va_copiedX (fun z => .int z) scr cA f g hs5 h4
  rw [e1] at X' step
  obtain ⟨w1, oq⟩ := f11.cp (x' := (n1, .inl (va_cpy f g sp.toNatClampNeg dp.toNatClampNeg k.toNatClampNeg))) ha
  have hA : zA s0 a := (f11.2.2.2.2.1 a _ ha).2
  obtain ⟨t, b1, b2⟩ := kk l p e R s m args below meth c _ _ cells slots ls G ⟨f1, f2, f3, f4, f5, f6, f7, f8, f9, f10, w1, ⟨by simp; exact f12.1, fun q g1 g2 => by
      rw [oq q (fun e => g2 (e ▸ hA))]
      exact f12.2.1 q g1 g2, fun q hq => by
      rcases List.mem_append.mp hq with h | h
      · exact f12.2.2 q h
      · obtain ⟨z, -, hz⟩ := List.mem_map.mp h
        rw [← hz]
        exact hA⟩, f13, f14⟩ _ (by rw [← hT]; rfl) X'
  exact ⟨t, step t b1, b2⟩
theorem zSrc_byt {b0 n0 : Nat} {f : Nat → Int32} (hs : iByt s0 b0 n0 f) : zSrc s0 D tys hi hm nx b0 n0 f := by
  intro s H locs G f8 f11 f12 f13
  obtain ⟨cell, k1, k2, k3, k4, k5, k6, k7⟩ := va_T.moved f8.alike (va_T.kept hs (z_old f11 f12 f13))
  exact ⟨cell, (f12.2.1 b0 (Array.getElem?_eq_some_iff.mp k1).1 k7).trans k1, k2, k3, k4, k6⟩
theorem zSrc_hm {b0 n0 : Nat} {cA : ClassId} {f : Nat → Int32} (t1 : Nat) (hb : zE hi hm b0 (.inl (cA, n0, .inl f))) (ht1 : tys[t1]? = some (cA, .byte)) : zSrc s0 D tys hi hm nx b0 n0 f := by
  intro s H locs G f8 f11 f12 f13
  have hc : H[b0]? = some (vp_cell cA (n0, .inl f)) := hb.at f11
  refine ⟨_, hc, ((zG_K G f8).2 t1 _ ht1).1 n0 (fun j => .int (f j)), (fun h => by cases h), ?_, fun j hj => ?_⟩
  · show n0 ≤ (arrV cA n0 (fun j => .int (f j))).slots.size
    rw [arrV_size]; exact Nat.le_refl _
  · exact arrV_read _ _ hj
theorem zV_statB {C nm : String} {st : List Value} (N : Nat) (f : Nat → Int32) (hN : N < 2 ^ 31) (hl : Cond.laysStatic C nm "[B" ∈ lw_tbl) (hini : Cond.initialized C ∈ lw_tbl) (harr : Cond.arrayOf (.static C nm "[B") .byte ∈ flatC (Jvm.Cond.and given_1 narrow_1)) (hlen : Cond.eq (.length (.static C nm "[B")) (.int (Int32.ofNat N)) ∈ flatC (Jvm.Cond.and given_1 narrow_1)) (hel : ∀ j : Nat, j < N → Cond.eq (.elem (.static C nm "[B") (.int (Int32.ofNat j))) (.int (f j)) ∈ flatC (Jvm.Cond.and given_1 narrow_1)) (hlink : Cond.fieldLink y.cls idx C nm "[B" ∈ zT) (hd : decode cc pc = .ok (.getstatic idx, 3))
    (kk : ∀ t, iByt s0 t N f → zV s0 D tys y cc nL ret rF rL mc ms (pc + 3) lo (.ref t :: st) hi hm nx Q) : zV s0 D tys y cc nL ret rF rL mc ms pc lo st hi hm nx Q := by
  intro l p e R s m args below meth c H locs cells slots ls G F
  have F2 := F
  obtain ⟨f1, f2, f3, f4, f5, f6, f7, f8, f9, f10, f11, f12, f13, f14⟩ := F2
  obtain ⟨b, g1, g2, -⟩ := id G
  have fl := flat_of_before _ g2
  obtain ⟨t, ht, hT⟩ := va_Tof (tm := .static C nm "[B") (ty := .byte) (N := N) (f := fun j => .int (f j)) (A := zA s0) hN (fl _ harr) (va_eqt (fl _ hlen)) (fun j hj => va_eqt (fl _ (hel j hj))) z_outA
  have hZ := va_Zref (g1 _ hl) (g1 _ hini) ht z_outA
  exact va_gets f1 f2 (va_Z.moved f8.alike (va_Z.kept hZ (z_old f11 f12 f13))) f12 f5 (zG_w G f8 args _ hlink) (fun _ h => h) hd (kk t hT l p e R s m args below meth c H locs cells slots ls G F)
end ZSB
