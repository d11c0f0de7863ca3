/-! ===== the literals: Strings of the heap of the start, which nobody writes ===== -/
def iByt (s0 : State) (v n : Nat) (f : Nat → Int32) : Prop := va_T .byte v n (fun j => .int (f j)) (zA s0) s0 s0.heap
def iStr (s0 : State) (a n : Nat) (f : Nat → Int32) : Prop := va_O "java/lang/String" a (zA s0) s0 s0.heap ∧ va_OF "java/lang/String" "coder" "B" (.int 0) a (zA s0) s0 s0.heap ∧ ∃ v, va_OF "java/lang/String" "value" "[B" (.ref v) a (zA s0) s0 s0.heap ∧ iByt s0 v n f
section ZST
variable {s0 : State} {D : va_G} {tys : List (ClassId × FieldType)} {y : MethodName} {cc : ByteArray} {nL : Nat} {ret : Option FieldType} {rF rL mc ms pc : Nat} {lo : List (Nat × Value)} {st : List Value} {hi hm : zHp} {nx : Nat} {Q : Option Value → zHp → zHp → Nat → Prop} {idx n a : Nat} {f : Nat → Int32}
theorem z_old {s : State} {H : Heap} {locs : List Loc} (f11 : z_W s0 D hi hm nx H) (f12 : va_S (zA s0) s.heap H locs) (f13 : s0.heap.size ≤ s.heap.size) : ∀ q : Nat, q < s0.heap.size → ¬ zA s0 q → s.heap[q]? = s0.heap[q]? := fun q h1 h2 => (f12.2.1 q (Nat.lt_of_lt_of_le h1 f13) h2).symm.trans (f11.2.2.1 q h1)
theorem z_outA : ∀ q : Nat, q < s0.heap.size → ¬ zA s0 q := fun q h1 h2 => Nat.lt_irrefl _ (Nat.lt_of_lt_of_le h1 h2)
theorem zV_ldcS {tx : String} (n : Nat) (bs : List Int32) (hn : n < 2 ^ 31) (hR : Cond.stringRef y.cls idx tx ∈ lw_tbl) (hex : Cond.exactly (.string y.cls idx) "java/lang/String" ∈ flatC (Jvm.Cond.and given_1 narrow_1)) (hco : Cond.eq (.field (.string y.cls idx) "java/lang/String" "coder" "B") (.int 0) ∈ flatC (Jvm.Cond.and given_1 narrow_1)) (har : Cond.arrayOf (.field (.string y.cls idx) "java/lang/String" "value" "[B") .byte ∈ flatC (Jvm.Cond.and given_1 narrow_1))
    (hle : Cond.eq (.length (.field (.string y.cls idx) "java/lang/String" "value" "[B")) (.int (Int32.ofNat n)) ∈ flatC (Jvm.Cond.and given_1 narrow_1)) (hel : ∀ j : Nat, j < n → Cond.eq (.elem (.field (.string y.cls idx) "java/lang/String" "value" "[B") (.int (Int32.ofNat j))) (.int (bs.getD j 0)) ∈ flatC (Jvm.Cond.and given_1 narrow_1)) (hd : decode cc pc = .ok (.ldc idx, 2))
    (kk : ∀ a, iStr s0 a n (fun j => bs.getD j 0) → zV s0 D tys y cc nL ret rF rL mc ms (pc + 2) lo (.ref a :: st) hi hm nx Q) : zV s0 D tys y cc nL ret rF rL mc ms pc lo st hi hm nx Q := by
  intro l p e R s m args below meth c H locs cells slots ls G F
  have F2 := F
  obtain ⟨f1, f2, f3, f4, f5, f6, f7, f8, f9, f10, f11, f12, f13, f14⟩ := F2
  have G2 := G
  obtain ⟨b, g1, g2, g3⟩ := G2
  have fl := flat_of_before _ g2
  have one : ∀ i : Nat, i < 1 → i = 0 := fun i h => by omega
  obtain ⟨adK, adV, h1, h2⟩ := vk_Sof (N := 1) (tm := fun _ => .string y.cls idx) (len := [n]) (byt := [bs]) (A := zA s0) (args := #[.ref b]) (s := s0) (fun i h => by rw [one i h]; exact hn) (fun i _ => fl _ hex) (fun i _ => fl _ hco) (fun i _ => fl _ har) (fun i h => by rw [one i h]; exact fl _ hle) (fun i h j hj => by rw [one i h] at hj ⊢; exact fl _ (hel j hj)) (fun i j h1 h2 h3 => absurd ((one i h1).trans (one j h2).symm) h3) z_outA
  obtain ⟨k1, k2, k3, k4⟩ := h1.1 0 (by decide)
  have hZ : vk_R y.cls idx tx (adK 0) s0 := vk_R.of (g1 _ hR) (h2 0 (by decide))
  exact va_ldcS f1 f2 f5 (vk_R.warm f8 hZ) hd (kk (adK 0) ⟨k1, k2, adV 0, k3, k4⟩ l p e R s m args below meth c H locs cells slots ls G F)
theorem zV_sval (hs : iStr s0 a n f) (hlink : Cond.fieldLink y.cls idx "java/lang/String" "value" "[B" ∈ zT) (hd : decode cc pc = .ok (.getfield idx, 3)) (kk : ∀ v, iByt s0 v n f → zV s0 D tys y cc nL ret rF rL mc ms (pc + 3) lo (.ref v :: st) hi hm nx Q) : zV s0 D tys y cc nL ret rF rL mc ms pc lo (.ref a :: st) hi hm nx Q := by
  intro l p e R s m args below meth c H locs cells slots ls G F
  have F2 := F
  obtain ⟨f1, f2, f3, f4, f5, f6, f7, f8, f9, f10, f11, f12, f13, f14⟩ := F2
  obtain ⟨-, -, v, h3, h4⟩ := hs
  exact vk_getf f1 f2 (va_OF.moved f8.alike (h3.kept (z_old f11 f12 f13))) f12 f5 (zG_w G f8 args _ hlink) (fun _ h => h) hd (kk v h4 l p e R s m args below meth c H locs cells slots ls G F)
theorem zV_scod (hs : iStr s0 a n f) (hlink : Cond.fieldLink y.cls idx "java/lang/String" "coder" "B" ∈ zT) (hd : decode cc pc = .ok (.getfield idx, 3)) (kk : zV s0 D tys y cc nL ret rF rL mc ms (pc + 3) lo (.int 0 :: st) hi hm nx Q) : zV s0 D tys y cc nL ret rF rL mc ms pc lo (.ref a :: st) hi hm nx Q := by
  intro l p e R s m args below meth c H locs cells slots ls G F
  have F2 := F
  obtain ⟨f1, f2, f3, f4, f5, f6, f7, f8, f9, f10, f11, f12, f13, f14⟩ := F2
  exact vk_getf f1 f2 (va_OF.moved f8.alike (hs.2.1.kept (z_old f11 f12 f13))) f12 f5 (zG_w G f8 args _ hlink) (fun _ h => h) hd (kk l p e R s m args below meth c H locs cells slots ls G F)
theorem zV_blen (hs : iByt s0 a n f) (hd : decode cc pc = .ok (.arraylength, 1)) (kk : zV s0 D tys y cc nL ret rF rL mc ms (pc + 1) lo (.int (Int32.ofNat n) :: st) hi hm nx Q) : zV s0 D tys y cc nL ret rF rL mc ms pc lo (.ref a :: st) hi hm nx Q := by
  intro l p e R s m args below meth c H locs cells slots ls G F
  have F2 := F
  obtain ⟨f1, f2, f3, f4, f5, f6, f7, f8, f9, f10, f11, f12, f13, f14⟩ := F2
  exact va_tlen f1 f2 (va_T.moved f8.alike (va_T.kept hs (z_old f11 f12 f13))) f12 rfl hd (kk l p e R s m args below meth c H locs cells slots ls G F)
theorem zV_bld {i : Int32} (hs : iByt s0 a n f) (hin : zin i n = true) (hd : decode cc pc = .ok (.baload, 1)) (kk : zV s0 D tys y cc nL ret rF rL mc ms (pc + 1) lo (.int (f i.toNatClampNeg) :: st) hi hm nx Q) : zV s0 D tys y cc nL ret rF rL mc ms pc lo (.int i :: .ref a :: st) hi hm nx Q := by
  intro l p e R s m args below meth c H locs cells slots ls G F
  have F2 := F
  obtain ⟨f1, f2, f3, f4, f5, f6, f7, f8, f9, f10, f11, f12, f13, f14⟩ := F2
  exact va_tb f1 f2 (va_T.moved f8.alike (va_T.kept hs (z_old f11 f12 f13))) f12 (zin_in hin) rfl hd (kk l p e R s m args below meth c H locs cells slots ls G F)
theorem zV_stat {C nm d : String} {v : Int32} (hl : Cond.laysStatic C nm d ∈ lw_tbl) (hini : Cond.initialized C ∈ lw_tbl) (hv : Cond.eq (.static C nm d) (.int v) ∈ flatC (Jvm.Cond.and given_1 narrow_1)) (hlink : Cond.fieldLink y.cls idx C nm d ∈ zT) (hd : decode cc pc = .ok (.getstatic idx, 3)) (kk : zV s0 D tys y cc nL ret rF rL mc ms (pc + 3) lo (.int v :: st) hi hm nx Q) : zV s0 D tys y cc nL ret rF rL mc ms pc lo st hi hm nx Q := by
  intro l p e R s m args below meth c H locs cells slots ls G F
  have F2 := F
  obtain ⟨f1, f2, f3, f4, f5, f6, f7, f8, f9, f10, f11, f12, f13, f14⟩ := F2
  have hZ : va_Z C nm d (.int v) (zA s0) s0 s0.heap := by
    obtain ⟨b, g1, g2, -⟩ := G
    exact va_Zof (g1 _ hl) (g1 _ hini) (va_eqt (flat_of_before _ g2 _ hv)) z_outA
  exact va_gets f1 f2 (va_Z.moved f8.alike (va_Z.kept hZ (z_old f11 f12 f13))) f12 f5 (zG_w G f8 args _ hlink) (fun _ h => h) hd (kk l p e R s m args below meth c H locs cells slots ls G F)
variable {y2 : MethodName} {cc2 : ByteArray} {nL2 : Nat} {ret2 : Option FieldType} {rF2 rL2 k2 : Nat} {As rest : List Value} {v : Value}
/-- a method of a literal that changes nothing -/
theorem zV_callSt (hM : ∀ Q2 : Option Value → zHp → zHp → Nat → Prop, Q2 (some v) hi hm nx → zM s0 D tys y2 cc2 nL2 ret2 rF2 rL2 0 0 (.ref a :: As) hi hm nx Q2) (O : zO y2 cc2 nL2 ret2 k2) (hs : iStr s0 a n f) (hc : y2.cls = "java/lang/String") (hlink : Cond.methodLink y.cls idx y2 ∈ zT) (hinst : Cond.instanceMethod y2 ∈ zT) (hsel : Cond.selects y2.cls y2 y2 ∈ zT) (hn : As.length = k2) (hst : st = As.reverse ++ .ref a :: rest) (hrest : (rest.map fun v => v.category).sum ≤ 8) (hR : rF2 + 1 ≤ rF ∧ 8 + (nL2 + 11) + rL2 ≤ rL) (hd : decode cc pc = .ok (.invokevirtual idx, 3))
    (k : zV s0 D tys y cc nL ret rF rL mc ms (pc + 3) lo (v :: rest) hi hm nx Q) : zV s0 D tys y cc nL ret rF rL mc ms pc lo st hi hm nx Q := by
  intro l p e R s m args below meth c H locs cells slots ls G F
  obtain ⟨f1, f2, f3, f4, f5, f6, f7, f8, f9, f10, f11, f12, f13, f14⟩ := F
  have hts := zG_w G f8 args
  have hB : CallB R s args y.cls idx y2 cc2 nL2 ret2 (.code y2 cc2 nL2 ret2 :: zT) { frames := rF2, cells := 0, slots := 0, locals := rL2 } 0 0 k2 := callB_of k2 hts (zO_good O) rfl rfl rfl (hts _ O.2.1) (hts _ hlink) O.2.2 ⟨Nat.le_trans hR.1 f9.1, Nat.le_trans hR.2 f9.2⟩
  have hrc : ∃ cellB : Cell, H[a]? = some cellB ∧ cellB.vm.isStatics = false ∧ s.vm.findClass y2.cls = some cellB.cls := by
    obtain ⟨cell, h1, h2, h3, h4⟩ := (va_O.moved f8.alike (hs.1.kept (z_old f11 f12 f13))).kept f12.2.1
    exact ⟨cell, h1, h2, by rw [hc]; exact h3⟩
  refine z_call (va_runV (As := As) (rest := rest) (b := a) ⟨f1, f2, f4, f5, hts⟩ (hM (fun v' hi' hm' nx' => v' = some v ∧ hi' = hi ∧ hm' = hm ∧ nx' = nx) ⟨rfl, rfl, rfl, rfl⟩ l G) ⟨hB, hts _ hinst, hts _ hsel⟩ ⟨zFB, hrc, zPre f8 f11⟩ rfl hn f14.1 hst (lv_room hrest) hd ⟨by omega, by omega⟩) f12 ?_
  rintro v' hi' hm' nx' H1 locs1 ⟨rfl, rfl, rfl, rfl⟩ hw hS
  exact k l p e R s m args below meth c H1 locs1 _ _ ls G ⟨f1, f2, f3, f4, f5, f6, f7, f8, f9, ⟨by omega, by omega⟩, hw, hS, f13, f14⟩
end ZST
