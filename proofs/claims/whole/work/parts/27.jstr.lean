/-! ===== String.length, charAt of the literals ===== -/
section ZJS
variable {s0 : State} {D : va_G} {tys : List (ClassId × FieldType)} {y : MethodName} {cc : ByteArray} {nL : Nat} {ret : Option FieldType} {rF rL mc ms pc : Nat} {lo : List (Nat × Value)} {st : List Value} {hi hm : zHp} {nx : Nat} {Q : Option Value → zHp → zHp → Nat → Prop}
theorem zV_yret {v : Int32} (hr : ret = some .byte) (hv : narrow .byte (.int v) = .int v) (hd : decode cc pc = .ok (.ireturn, 1)) (hq : Q (some (.int v)) hi hm nx) : zV s0 D tys y cc nL ret rF rL mc ms pc lo [.int v] hi hm nx Q := by
  intro l p e R s m args below meth c H locs cells slots ls G F
  have F2 := F
  obtain ⟨f1, f2, f3, f4, f5, f6, f7, f8, f9, f10, f11, f12, f13, f14⟩ := F2
  refine W.widen (k := R.cells) (n := R.slots) (by omega) (by omega) ?_
  exact W.zret f1 f2 (f3.trans hr) hv (fun t ht hW => ⟨⟨_, hi, hm, nx, rfl, hq, by rw [ht]; exact f11⟩, f12.F ht⟩) f12.2.2 hd f7
theorem zV_cret {v : Int32} (hr : ret = some .char) (hv : narrow .char (.int v) = .int v) (hd : decode cc pc = .ok (.ireturn, 1)) (hq : Q (some (.int v)) hi hm nx) : zV s0 D tys y cc nL ret rF rL mc ms pc lo [.int v] hi hm nx Q := by
  intro l p e R s m args below meth c H locs cells slots ls G F
  have F2 := F
  obtain ⟨f1, f2, f3, f4, f5, f6, f7, f8, f9, f10, f11, f12, f13, f14⟩ := F2
  refine W.widen (k := R.cells) (n := R.slots) (by omega) (by omega) ?_
  exact W.zret f1 f2 (f3.trans hr) hv (fun t ht hW => ⟨⟨_, hi, hm, nx, rfl, hq, by rw [ht]; exact f11⟩, f12.F ht⟩) f12.2.2 hd f7
theorem zV_i2c {x : Int32} (hd : decode cc pc = .ok (.i2c, 1)) (kk : zV s0 D tys y cc nL ret rF rL mc ms (pc + 1) lo (.int (x.toUInt32 % 65536).toInt32 :: st) hi hm nx Q) : zV s0 D tys y cc nL ret rF rL mc ms pc lo (.int x :: st) hi hm nx Q := by
  intro l p e R s m args below meth c H locs cells slots ls G F
  have F2 := F
  obtain ⟨f1, f2, f3, f4, f5, f6, f7, f8, f9, f10, f11, f12, f13, f14⟩ := F2
  exact lv_i2c f1 f2 hd rfl (kk l p e R s m args below meth c H locs cells slots ls G F)
theorem zV_statR {C nm d : String} {idx : Nat} (hl : Cond.laysStatic C nm d ∈ lw_tbl) (hini : Cond.initialized C ∈ lw_tbl) (hv : Cond.isRef (.static C nm d) ∈ flatC (Jvm.Cond.and given_1 narrow_1)) (hlink : Cond.fieldLink y.cls idx C nm d ∈ zT) (hd : decode cc pc = .ok (.getstatic idx, 3)) (kk : ∀ r : Option Nat, zV s0 D tys y cc nL ret rF rL mc ms (pc + 3) lo (va_rf r :: st) hi hm nx Q) : zV s0 D tys y cc nL ret rF rL mc ms pc lo st hi hm nx Q := by
  intro l p e R s m args below meth c H locs cells slots ls G F
  have F2 := F
  obtain ⟨f1, f2, f3, f4, f5, f6, f7, f8, f9, f10, f11, f12, f13, f14⟩ := F2
  have hZ : va_Zq C nm d (zA s0) s0 s0.heap := by
    obtain ⟨b, g1, g2, -⟩ := G
    exact va_Zqof (g1 _ hl) (g1 _ hini) (flat_of_before _ g2 _ hv) z_outA
  rcases hZ with hZ | ⟨t, hZ⟩
  · exact va_gets f1 f2 (va_Z.moved f8.alike (va_Z.kept hZ (z_old f11 f12 f13))) f12 f5 (zG_w G f8 args _ hlink) (fun _ h => h) hd (kk none l p e R s m args below meth c H locs cells slots ls G F)
  · exact va_gets f1 f2 (va_Z.moved f8.alike (va_Z.kept hZ (z_old f11 f12 f13))) f12 f5 (zG_w G f8 args _ hlink) (fun _ h => h) hd (kk (some t) l p e R s m args below meth c H locs cells slots ls G F)
theorem z_nar (x : Int32) : narrow .char (.int ((x.toUInt32 % 65536).toInt32)) = .int ((x.toUInt32 % 65536).toInt32) := by
  have h : (x.toUInt32 % 65536).toInt32.toUInt32.toUInt16.toUInt32 = x.toUInt32 % 65536 := by
    apply UInt32.toNat_inj.mp
    simp
  simp only [narrow, h]
variable {y2 : MethodName} {cc2 : ByteArray} {nL2 : Nat} {ret2 : Option FieldType} {rF2 rL2 mc2 ms2 n idx : Nat} {As rest : List Value}
theorem zV_voS (hM : ∀ Q2 : Option Value → zHp → zHp → Nat → Prop, Q2 none hi hm nx → zM s0 D tys y2 cc2 nL2 ret2 rF2 rL2 0 0 As hi hm nx Q2) (O : zO y2 cc2 nL2 ret2 n) (hlink : Cond.methodLink y.cls idx y2 ∈ zT) (hstat : Cond.static y2 ∈ zT) (hn : As.length = n) (hst : st = As.reverse ++ rest) (hrest : (rest.map fun v => v.category).sum ≤ 8) (hR : rF2 + 1 ≤ rF ∧ 8 + (nL2 + 11) + rL2 ≤ rL) (hd : decode cc pc = .ok (.invokestatic idx, 3))
    (k : zV s0 D tys y cc nL ret rF rL mc ms (pc + 3) lo rest hi hm nx Q) : zV s0 D tys y cc nL ret rF rL mc ms pc lo st hi hm nx Q := by
  refine zV_callS (hM (fun v' hi' hm' nx' => v' = none ∧ hi' = hi ∧ hm' = hm ∧ nx' = nx) ⟨rfl, rfl, rfl, rfl⟩) O hlink hstat hn hst hrest hR ⟨Nat.zero_le _, Nat.zero_le _⟩ hd ?_
  rintro v' hi' hm' nx' ⟨rfl, rfl, rfl, rfl⟩
  exact k
end ZJS

theorem oJ0_coder : zO yJ0_coder_7d493 cJ0_coder_7d493 1 (some .byte) 0 := ⟨zT_mem 365 (by decide +kernel) rfl, (zT_mem 92 (by decide +kernel) rfl), by decide +kernel, by decide +kernel, by decide +kernel⟩
theorem cj_coder (s0 : State) (D : va_G) (tys : List (ClassId × FieldType)) (a n : Nat) (f : Nat → Int32) (hs : iStr s0 a n f) {hi hm : zHp} {nx : Nat} {Q : Option Value → zHp → zHp → Nat → Prop} (hQ : Q (some (.int 0)) hi hm nx) : zM s0 D tys yJ0_coder_7d493 cJ0_coder_7d493 1 (some .byte) 0 0 0 0 [.ref a] hi hm nx Q := by
  refine zM_ofF (by decide +kernel) (Nat.le_of_ble_eq_true rfl) ?_
  refine zV_eq (lo2 := [(0, .ref a)]) rfl rfl rfl rfl ?_
  refine zV_stat (idx := 38) (C := "java/lang/String") (nm := "COMPACT_STRINGS") (d := "Z") (v := 1) (List.mem_of_getElem? (i := 133) (by decide +kernel)) (List.mem_of_getElem? (i := 92) (by decide +kernel)) (by decide +kernel) (zT_mem 366 (by decide +kernel) rfl) (by decide +kernel) ?_
  refine zV_if_eq (tgt := 13) (off := 10) (by decide +kernel) (by decide) (fun q => absurd q (by decide +kernel)) (fun _ => ?_)
  refine zV_blk (pc' := 7) (lo' := [(0, .ref a)]) (st' := [.ref a]) [.aload_n 0] (by decide +kernel) rfl ?_
  refine zV_scod (idx := 15) hs (zT_mem 2104 (by decide +kernel) rfl) (by decide +kernel) ?_
  refine zV_goto (tgt := 14) (off := 4) (by decide +kernel) (by decide) ?_
  exact zV_yret rfl rfl (by decide +kernel) hQ
theorem oJ0_length : zO yJ0_length_8abf5 cJ0_length_8abf5 1 (some .int) 0 := ⟨zT_mem 361 (by decide +kernel) rfl, (zT_mem 92 (by decide +kernel) rfl), by decide +kernel, by decide +kernel, by decide +kernel⟩
theorem cj_length (s0 : State) (D : va_G) (tys : List (ClassId × FieldType)) (a n : Nat) (f : Nat → Int32) (hs : iStr s0 a n f) {hi hm : zHp} {nx : Nat} {Q : Option Value → zHp → zHp → Nat → Prop} (hQ : Q (some (.int (Int32.ofNat n >>> ((0 : Int32) &&& 31)))) hi hm nx) : zM s0 D tys yJ0_length_8abf5 cJ0_length_8abf5 1 (some .int) 1 20 0 0 [.ref a] hi hm nx Q := by
  refine zM_ofF (by decide +kernel) (Nat.le_of_ble_eq_true rfl) ?_
  refine zV_eq (lo2 := [(0, .ref a)]) rfl rfl rfl rfl ?_
  refine zV_blk (pc' := 1) (lo' := [(0, .ref a)]) (st' := [.ref a]) [.aload_n 0] (by decide +kernel) rfl ?_
  refine zV_sval (idx := 9) hs (zT_mem 2103 (by decide +kernel) rfl) (by decide +kernel) (fun v hv => ?_)
  refine zV_blen hv (by decide +kernel) ?_
  refine zV_blk (pc' := 6) (lo' := [(0, .ref a)]) (st' := [.ref a, .int (Int32.ofNat n)]) [.aload_n 0] (by decide +kernel) rfl ?_
  refine zV_callSt (idx := 335) (As := []) (rest := [.int (Int32.ofNat n)]) (fun Q2 hQ2 => cj_coder s0 D tys a n f hs hQ2) oJ0_coder hs rfl (zT_mem 362 (by decide +kernel) rfl) (zT_mem 363 (by decide +kernel) rfl) (zT_mem 364 (by decide +kernel) rfl) rfl rfl (Nat.le_of_ble_eq_true rfl) ⟨by decide, by decide⟩ (by decide +kernel) ?_
  refine zV_blk (pc' := 10) (lo' := [(0, .ref a)]) (st' := [.int (Int32.ofNat n >>> ((0 : Int32) &&& 31))]) [.ishr] (by decide +kernel) rfl ?_
  exact zV_iret rfl (by decide +kernel) hQ
theorem oJ0_isLatin1 : zO yJ0_isLatin1_aae02 cJ0_isLatin1_aae02 1 (some .boolean) 0 := ⟨zT_mem 374 (by decide +kernel) rfl, (zT_mem 92 (by decide +kernel) rfl), by decide +kernel, by decide +kernel, by decide +kernel⟩
theorem cj_isLatin1 (s0 : State) (D : va_G) (tys : List (ClassId × FieldType)) (a n : Nat) (f : Nat → Int32) (hs : iStr s0 a n f) {hi hm : zHp} {nx : Nat} {Q : Option Value → zHp → zHp → Nat → Prop} (hQ : Q (some (.int 1)) hi hm nx) : zM s0 D tys yJ0_isLatin1_aae02 cJ0_isLatin1_aae02 1 (some .boolean) 0 0 0 0 [.ref a] hi hm nx Q := by
  refine zM_ofF (by decide +kernel) (Nat.le_of_ble_eq_true rfl) ?_
  refine zV_eq (lo2 := [(0, .ref a)]) rfl rfl rfl rfl ?_
  refine zV_stat (idx := 38) (C := "java/lang/String") (nm := "COMPACT_STRINGS") (d := "Z") (v := 1) (List.mem_of_getElem? (i := 133) (by decide +kernel)) (List.mem_of_getElem? (i := 92) (by decide +kernel)) (by decide +kernel) (zT_mem 366 (by decide +kernel) rfl) (by decide +kernel) ?_
  refine zV_if_eq (tgt := 17) (off := 14) (by decide +kernel) (by decide) (fun q => absurd q (by decide +kernel)) (fun _ => ?_)
  refine zV_blk (pc' := 7) (lo' := [(0, .ref a)]) (st' := [.ref a]) [.aload_n 0] (by decide +kernel) rfl ?_
  refine zV_scod (idx := 15) hs (zT_mem 2104 (by decide +kernel) rfl) (by decide +kernel) ?_
  refine zV_if_ne (tgt := 17) (off := 7) (by decide +kernel) (by decide) (fun q => absurd rfl q) (fun _ => ?_)
  refine zV_blk (pc' := 14) (lo' := [(0, .ref a)]) (st' := [.int 1]) [.iconst 1] (by decide +kernel) rfl ?_
  refine zV_goto (tgt := 18) (off := 4) (by decide +kernel) (by decide) ?_
  exact zV_zret rfl (by decide +kernel) (by decide +kernel) hQ
theorem oJ3_checkIndex : zO yJ3_checkIndex_8e157 cJ3_checkIndex_8e157 3 (some .int) 3 := ⟨zT_mem 385 (by decide +kernel) rfl, (zT_mem 101 (by decide +kernel) rfl), by decide +kernel, by decide +kernel, by decide +kernel⟩
theorem cj_pcheckN (s0 : State) (D : va_G) (tys : List (ClassId × FieldType)) (i n : Int32) (h0 : ¬ i < 0) (h1 : i < n) {hi hm : zHp} {nx : Nat} {Q : Option Value → zHp → zHp → Nat → Prop} (hQ : Q (some (.int i)) hi hm nx) : zM s0 D tys yJ3_checkIndex_8e157 cJ3_checkIndex_8e157 3 (some .int) 0 0 0 0 [.int i, .int n, .null] hi hm nx Q := by
  refine zM_ofF (by decide +kernel) (Nat.le_of_ble_eq_true rfl) ?_
  refine zV_eq (lo2 := [(0, .int i), (1, .int n), (2, .null)]) rfl rfl rfl rfl ?_
  refine zV_blk (pc' := 1) (lo' := [(0, .int i), (1, .int n), (2, .null)]) (st' := [.int i]) [.iload_n 0] (by decide +kernel) rfl ?_
  refine zV_if_lt (tgt := 9) (off := 8) (by decide +kernel) (by decide) (fun q => absurd q h0) (fun _ => ?_)
  refine zV_blk (pc' := 6) (lo' := [(0, .int i), (1, .int n), (2, .null)]) (st' := [.int n, .int i]) [.iload_n 0, .iload_n 1] (by decide +kernel) rfl ?_
  refine zV_icmp_lt (tgt := 16) (off := 10) (by decide +kernel) (by decide) (fun _ => ?_) (fun q => absurd h1 q)
  refine zV_blk (pc' := 17) (lo' := [(0, .int i), (1, .int n), (2, .null)]) (st' := [.int i]) [.iload_n 0] (by decide +kernel) rfl ?_
  exact zV_iret rfl (by decide +kernel) hQ
theorem cj_pcheckS (s0 : State) (D : va_G) (tys : List (ClassId × FieldType)) (i n : Int32) (r : Nat) (h0 : ¬ i < 0) (h1 : i < n) {hi hm : zHp} {nx : Nat} {Q : Option Value → zHp → zHp → Nat → Prop} (hQ : Q (some (.int i)) hi hm nx) : zM s0 D tys yJ3_checkIndex_8e157 cJ3_checkIndex_8e157 3 (some .int) 0 0 0 0 [.int i, .int n, .ref r] hi hm nx Q := by
  refine zM_ofF (by decide +kernel) (Nat.le_of_ble_eq_true rfl) ?_
  refine zV_eq (lo2 := [(0, .int i), (1, .int n), (2, .ref r)]) rfl rfl rfl rfl ?_
  refine zV_blk (pc' := 1) (lo' := [(0, .int i), (1, .int n), (2, .ref r)]) (st' := [.int i]) [.iload_n 0] (by decide +kernel) rfl ?_
  refine zV_if_lt (tgt := 9) (off := 8) (by decide +kernel) (by decide) (fun q => absurd q h0) (fun _ => ?_)
  refine zV_blk (pc' := 6) (lo' := [(0, .int i), (1, .int n), (2, .ref r)]) (st' := [.int n, .int i]) [.iload_n 0, .iload_n 1] (by decide +kernel) rfl ?_
  refine zV_icmp_lt (tgt := 16) (off := 10) (by decide +kernel) (by decide) (fun _ => ?_) (fun q => absurd h1 q)
  refine zV_blk (pc' := 17) (lo' := [(0, .int i), (1, .int n), (2, .ref r)]) (st' := [.int i]) [.iload_n 0] (by decide +kernel) rfl ?_
  exact zV_iret rfl (by decide +kernel) hQ
theorem cj_pcheck (s0 : State) (D : va_G) (tys : List (ClassId × FieldType)) (i n : Int32) (r : Option Nat) (h0 : ¬ i < 0) (h1 : i < n) {hi hm : zHp} {nx : Nat} {Q : Option Value → zHp → zHp → Nat → Prop} (hQ : Q (some (.int i)) hi hm nx) : zM s0 D tys yJ3_checkIndex_8e157 cJ3_checkIndex_8e157 3 (some .int) 0 0 0 0 [.int i, .int n, va_rf r] hi hm nx Q := by
  cases r with
  | none => exact cj_pcheckN s0 D tys i n h0 h1 hQ
  | some r => exact cj_pcheckS s0 D tys i n r h0 h1 hQ
theorem oJ0_checkIndex : zO yJ0_checkIndex_df160 cJ0_checkIndex_df160 2 none 2 := ⟨zT_mem 380 (by decide +kernel) rfl, (zT_mem 92 (by decide +kernel) rfl), by decide +kernel, by decide +kernel, by decide +kernel⟩
theorem cj_check (s0 : State) (D : va_G) (tys : List (ClassId × FieldType)) (i n : Int32) (h0 : ¬ i < 0) (h1 : i < n) {hi hm : zHp} {nx : Nat} {Q : Option Value → zHp → zHp → Nat → Prop} (hQ : Q none hi hm nx) : zM s0 D tys yJ0_checkIndex_df160 cJ0_checkIndex_df160 2 none 1 22 0 0 [.int i, .int n] hi hm nx Q := by
  refine zM_ofF (by decide +kernel) (Nat.le_of_ble_eq_true rfl) ?_
  refine zV_eq (lo2 := [(0, .int i), (1, .int n)]) rfl rfl rfl rfl ?_
  refine zV_blk (pc' := 2) (lo' := [(0, .int i), (1, .int n)]) (st' := [.int n, .int i]) [.iload_n 0, .iload_n 1] (by decide +kernel) rfl ?_
  refine zV_statR (idx := 1053) (C := "jdk/internal/util/Preconditions") (nm := "SIOOBE_FORMATTER") (d := "Ljava/util/function/BiFunction;") (List.mem_of_getElem? (i := 382) (by decide +kernel)) (List.mem_of_getElem? (i := 101) (by decide +kernel)) (by decide +kernel) (zT_mem 381 (by decide +kernel) rfl) (by decide +kernel) (fun r => ?_)
  refine zV_roS (idx := 1059) (v := .int i) (As := [.int i, .int n, va_rf r]) (rest := []) (fun Q2 hQ2 => cj_pcheck s0 D tys i n r h0 h1 hQ2) oJ3_checkIndex (zT_mem 383 (by decide +kernel) rfl) (zT_mem 384 (by decide +kernel) rfl) rfl rfl (Nat.le_of_ble_eq_true rfl) ⟨by decide, by decide⟩ (by decide +kernel) ?_
  refine zV_blk (pc' := 9) (lo' := [(0, .int i), (1, .int n)]) (st' := []) [.pop] (by decide +kernel) rfl ?_
  exact zV_vret rfl (by decide +kernel) hQ
theorem oJ1_charAt : zO yJ1_charAt_3b067 cJ1_charAt_3b067 2 (some .char) 2 := ⟨zT_mem 377 (by decide +kernel) rfl, (zT_mem 100 (by decide +kernel) rfl), by decide +kernel, by decide +kernel, by decide +kernel⟩
theorem cj_lcharAt (s0 : State) (D : va_G) (tys : List (ClassId × FieldType)) (a n : Nat) (f : Nat → Int32) (i : Int32) (hs : iByt s0 a n f) (hin : zin i n = true) (h0 : ¬ i < 0) (h1 : i < Int32.ofNat n) {hi hm : zHp} {nx : Nat} {Q : Option Value → zHp → zHp → Nat → Prop} (hQ : Q (some (.int (((f i.toNatClampNeg &&& 255).toUInt32 % 65536).toInt32))) hi hm nx) : zM s0 D tys yJ1_charAt_3b067 cJ1_charAt_3b067 2 (some .char) 2 43 0 0 [.ref a, .int i] hi hm nx Q := by
  refine zM_ofF (by decide +kernel) (Nat.le_of_ble_eq_true rfl) ?_
  refine zV_eq (lo2 := [(0, .ref a), (1, .int i)]) rfl rfl rfl rfl ?_
  refine zV_blk (pc' := 2) (lo' := [(0, .ref a), (1, .int i)]) (st' := [.ref a, .int i]) [.iload_n 1, .aload_n 0] (by decide +kernel) rfl ?_
  refine zV_blen hs (by decide +kernel) ?_
  refine zV_voS (idx := 9) (As := [.int i, .int (Int32.ofNat n)]) (rest := []) (fun Q2 hQ2 => cj_check s0 D tys i (Int32.ofNat n) h0 h1 hQ2) oJ0_checkIndex (zT_mem 378 (by decide +kernel) rfl) (zT_mem 379 (by decide +kernel) rfl) rfl rfl (Nat.le_of_ble_eq_true rfl) ⟨by decide, by decide⟩ (by decide +kernel) ?_
  refine zV_blk (pc' := 8) (lo' := [(0, .ref a), (1, .int i)]) (st' := [.int i, .ref a]) [.aload_n 0, .iload_n 1] (by decide +kernel) rfl ?_
  refine zV_bld hs hin (by decide +kernel) ?_
  refine zV_blk (pc' := 13) (lo' := [(0, .ref a), (1, .int i)]) (st' := [.int (f i.toNatClampNeg &&& 255)]) [.sipush 255, .iand] (by decide +kernel) rfl ?_
  refine zV_i2c (by decide +kernel) ?_
  exact zV_cret rfl (z_nar _) (by decide +kernel) hQ
theorem oJ0_charAt : zO yJ0_charAt_5068e cJ0_charAt_5068e 2 (some .char) 1 := ⟨zT_mem 370 (by decide +kernel) rfl, (zT_mem 92 (by decide +kernel) rfl), by decide +kernel, by decide +kernel, by decide +kernel⟩
theorem cj_charAt (s0 : State) (D : va_G) (tys : List (ClassId × FieldType)) (a n : Nat) (f : Nat → Int32) (i : Int32) (hs : iStr s0 a n f) (hin : zin i n = true) (h0 : ¬ i < 0) (h1 : i < Int32.ofNat n) {hi hm : zHp} {nx : Nat} {Q : Option Value → zHp → zHp → Nat → Prop} (hQ : Q (some (.int (((f i.toNatClampNeg &&& 255).toUInt32 % 65536).toInt32))) hi hm nx) : zM s0 D tys yJ0_charAt_5068e cJ0_charAt_5068e 2 (some .char) 3 66 0 0 [.ref a, .int i] hi hm nx Q := by
  refine zM_ofF (by decide +kernel) (Nat.le_of_ble_eq_true rfl) ?_
  refine zV_eq (lo2 := [(0, .ref a), (1, .int i)]) rfl rfl rfl rfl ?_
  refine zV_blk (pc' := 1) (lo' := [(0, .ref a), (1, .int i)]) (st' := [.ref a]) [.aload_n 0] (by decide +kernel) rfl ?_
  refine zV_callSt (idx := 492) (As := []) (rest := []) (fun Q2 hQ2 => cj_isLatin1 s0 D tys a n f hs hQ2) oJ0_isLatin1 hs rfl (zT_mem 371 (by decide +kernel) rfl) (zT_mem 372 (by decide +kernel) rfl) (zT_mem 373 (by decide +kernel) rfl) rfl rfl (Nat.le_of_ble_eq_true rfl) ⟨by decide, by decide⟩ (by decide +kernel) ?_
  refine zV_if_eq (tgt := 16) (off := 12) (by decide +kernel) (by decide) (fun q => absurd q (by decide +kernel)) (fun _ => ?_)
  refine zV_blk (pc' := 8) (lo' := [(0, .ref a), (1, .int i)]) (st' := [.ref a]) [.aload_n 0] (by decide +kernel) rfl ?_
  refine zV_sval (idx := 9) hs (zT_mem 2103 (by decide +kernel) rfl) (by decide +kernel) (fun v hv => ?_)
  refine zV_blk (pc' := 12) (lo' := [(0, .ref a), (1, .int i)]) (st' := [.int i, .ref v]) [.iload_n 1] (by decide +kernel) rfl ?_
  refine zV_roS (idx := 495) (v := .int (((f i.toNatClampNeg &&& 255).toUInt32 % 65536).toInt32)) (As := [.ref v, .int i]) (rest := []) (fun Q2 hQ2 => cj_lcharAt s0 D tys v n f i hv hin h0 h1 hQ2) oJ1_charAt (zT_mem 375 (by decide +kernel) rfl) (zT_mem 376 (by decide +kernel) rfl) rfl rfl (Nat.le_of_ble_eq_true rfl) ⟨by decide, by decide⟩ (by decide +kernel) ?_
  exact zV_cret rfl (z_nar _) (by decide +kernel) hQ
