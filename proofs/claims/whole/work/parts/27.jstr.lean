/-! ===== String.length, charAt of the literals ===== -/
section ZJS
variable {s0 : State} {D : va_G} {tys : List (ClassId × FieldType)} {y : MethodName} {cc : ByteArray} {nL : Nat} {ret : Option FieldType} {rF rL mc ms pc : Nat} {lo : List (Nat × Value)} {st : List Value} {hi hm : zHp} {nx : Nat} {Q : Option Value → zHp → zHp → Nat → Prop}
theorem zV_yret {v : Int32} (hr : ret = some .byte) (hv : narrow .byte (.int v) = .int v) (hd : decode cc pc = .ok (.ireturn, 1)) (hq : Q (some (.int v)) hi hm nx) : zV s0 D tys y cc nL ret rF rL mc ms pc lo [.int v] hi hm nx Q := by
  intro l p e R s m args below meth c H locs cells slots ls G F
  have F2 := F
  obtain ⟨f1, f2, f3, f4, f5, f6, f7, f8, f9, f10, f11, f12, f13, f14⟩ := F2
  refine W.widen (k := R.cells) (n := R.slots) (by omega) (by omega) ?_
  exact W.zret f1 f2 (f3.trans hr) hv (fun t ht hW => ⟨⟨_, hi, hm, nx, rfl, hq, by rw [ht]; exact f11⟩, f12.F ht⟩) f12.2.2 hd f7
theorem zV_cret {v : Int32} (hr : ret = some .char) (hv : narrow .char (.int v) = .int v) (hd : decode cc pc = .ok (.ireturn, 1)) (hq : Q (some (.int v)) hi hm nx) : zV s0 D tys y cc nL ret rF rL mc ms pc lo [.int v] hi hm nx Q := by
  intro l p e R s m args below meth c H locs cells slots ls G F
  have F2 := F
  obtain ⟨f1, f2, f3, f4, f5, f6, f7, f8, f9, f10, f11, f12, f13, f14⟩ := F2
  refine W.widen (k := R.cells) (n := R.slots) (by omega) (by omega) ?_
  exact W.zret f1 f2 (f3.trans hr) hv (fun t ht hW => ⟨⟨_, hi, hm, nx, rfl, hq, by rw [ht]; exact f11⟩, f12.F ht⟩) f12.2.2 hd f7
theorem zV_i2c {x : Int32} (hd : decode cc pc = .ok (.i2c, 1)) (kk : zV s0 D tys y cc nL ret rF rL mc ms (pc + 1) lo (.int (x.toUInt32 % 65536).toInt32 :: st) hi hm nx Q) : zV s0 D tys y cc nL ret rF rL mc ms pc lo (.int x :: st) hi hm nx Q := by
  intro l p e R s m args below meth c H locs cells slots ls G F
  have F2 := F
  obtain ⟨f1, f2, f3, f4, f5, f6, f7, f8, f9, f10, f11, f12, f13, f14⟩ := F2
  exact lv_i2c f1 f2 hd rfl (kk l p e R s m args below meth c H locs cells slots ls G F)
end ZJS
theorem oJ0_coder : zO yJ0_coder_7d493 cJ0_coder_7d493 1 (some .byte) 0 := ⟨zT_mem 365 (by decide +kernel) rfl, zT_mem 92 (by decide +kernel) rfl, by decide +kernel, by decide +kernel, by decide +kernel⟩
theorem cj_coder (s0 : State) (D : va_G) (tys : List (ClassId × FieldType)) (a n : Nat) (f : Nat → Int32) (hs : iStr s0 a n f) {hi hm : zHp} {nx : Nat} {Q : Option Value → zHp → zHp → Nat → Prop} (hQ : Q (some (.int 0)) hi hm nx) : zM s0 D tys yJ0_coder_7d493 cJ0_coder_7d493 1 (some .byte) 0 0 0 0 [.ref a] hi hm nx Q := by
  refine zM_ofF (by decide +kernel) (Nat.le_of_ble_eq_true rfl) ?_
  refine zV_eq (lo2 := [(0, .ref a)]) rfl rfl rfl rfl ?_
  refine zV_stat (idx := 38) (C := "java/lang/String") (nm := "COMPACT_STRINGS") (d := "Z") (v := 1) (List.mem_of_getElem? (i := 133) (by decide +kernel)) (List.mem_of_getElem? (i := 92) (by decide +kernel)) (by decide +kernel) (zT_mem 366 (by decide +kernel) rfl) (by decide +kernel) ?_
  refine zV_if_eq (tgt := 13) (off := 10) (by decide +kernel) (by decide) (fun q => absurd q (by decide +kernel)) (fun _ => ?_)
  refine zV_blk (pc' := 7) (lo' := [(0, .ref a)]) (st' := [.ref a]) [.aload_n 0] (by decide +kernel) rfl ?_
  refine zV_scod (idx := 15) hs (zT_mem 2104 (by decide +kernel) rfl) (by decide +kernel) ?_
  refine zV_goto (tgt := 14) (off := 4) (by decide +kernel) (by decide) ?_
  exact zV_yret rfl rfl (by decide +kernel) hQ
theorem oJ0_length : zO yJ0_length_8abf5 cJ0_length_8abf5 1 (some .int) 0 := ⟨zT_mem 361 (by decide +kernel) rfl, zT_mem 92 (by decide +kernel) rfl, by decide +kernel, by decide +kernel, by decide +kernel⟩
theorem cj_length (s0 : State) (D : va_G) (tys : List (ClassId × FieldType)) (a n : Nat) (f : Nat → Int32) (hs : iStr s0 a n f) {hi hm : zHp} {nx : Nat} {Q : Option Value → zHp → zHp → Nat → Prop} (hQ : Q (some (.int (Int32.ofNat n >>> ((0 : Int32) &&& 31)))) hi hm nx) : zM s0 D tys yJ0_length_8abf5 cJ0_length_8abf5 1 (some .int) 1 20 0 0 [.ref a] hi hm nx Q := by
  refine zM_ofF (by decide +kernel) (Nat.le_of_ble_eq_true rfl) ?_
  refine zV_eq (lo2 := [(0, .ref a)]) rfl rfl rfl rfl ?_
  refine zV_blk (pc' := 1) (lo' := [(0, .ref a)]) (st' := [.ref a]) [.aload_n 0] (by decide +kernel) rfl ?_
  refine zV_sval (idx := 9) hs (zT_mem 2103 (by decide +kernel) rfl) (by decide +kernel) (fun v hv => ?_)
  refine zV_blen hv (by decide +kernel) ?_
  refine zV_blk (pc' := 6) (lo' := [(0, .ref a)]) (st' := [.ref a, .int (Int32.ofNat n)]) [.aload_n 0] (by decide +kernel) rfl ?_
  refine zV_callSt (idx := 335) (As := []) (rest := [.int (Int32.ofNat n)]) (fun Q2 hQ2 => cj_coder s0 D tys a n f hs hQ2) oJ0_coder hs rfl (zT_mem 362 (by decide +kernel) rfl) (zT_mem 363 (by decide +kernel) rfl) (zT_mem 364 (by decide +kernel) rfl) rfl rfl (Nat.le_of_ble_eq_true rfl) ⟨by decide, by decide⟩ (by decide +kernel) ?_
  refine zV_blk (pc' := 10) (lo' := [(0, .ref a)]) (st' := [.int (Int32.ofNat n >>> ((0 : Int32) &&& 31))]) [.ishr] (by decide +kernel) rfl ?_
  exact zV_iret rfl (by decide +kernel) hQ
theorem oJ0_isLatin1 : zO yJ0_isLatin1_aae02 cJ0_isLatin1_aae02 1 (some .boolean) 0 := ⟨zT_mem 374 (by decide +kernel) rfl, zT_mem 92 (by decide +kernel) rfl, by decide +kernel, by decide +kernel, by decide +kernel⟩
theorem cj_isLatin1 (s0 : State) (D : va_G) (tys : List (ClassId × FieldType)) (a n : Nat) (f : Nat → Int32) (hs : iStr s0 a n f) {hi hm : zHp} {nx : Nat} {Q : Option Value → zHp → zHp → Nat → Prop} (hQ : Q (some (.int 1)) hi hm nx) : zM s0 D tys yJ0_isLatin1_aae02 cJ0_isLatin1_aae02 1 (some .boolean) 0 0 0 0 [.ref a] hi hm nx Q := by
  refine zM_ofF (by decide +kernel) (Nat.le_of_ble_eq_true rfl) ?_
  refine zV_eq (lo2 := [(0, .ref a)]) rfl rfl rfl rfl ?_
  refine zV_stat (idx := 38) (C := "java/lang/String") (nm := "COMPACT_STRINGS") (d := "Z") (v := 1) (List.mem_of_getElem? (i := 133) (by decide +kernel)) (List.mem_of_getElem? (i := 92) (by decide +kernel)) (by decide +kernel) (zT_mem 366 (by decide +kernel) rfl) (by decide +kernel) ?_
  refine zV_if_eq (tgt := 17) (off := 14) (by decide +kernel) (by decide) (fun q => absurd q (by decide +kernel)) (fun _ => ?_)
  refine zV_blk (pc' := 7) (lo' := [(0, .ref a)]) (st' := [.ref a]) [.aload_n 0] (by decide +kernel) rfl ?_
  refine zV_scod (idx := 15) hs (zT_mem 2104 (by decide +kernel) rfl) (by decide +kernel) ?_
  refine zV_if_ne (tgt := 17) (off := 7) (by decide +kernel) (by decide) (fun q => absurd rfl q) (fun _ => ?_)
  refine zV_blk (pc' := 14) (lo' := [(0, .ref a)]) (st' := [.int 1]) [.iconst 1] (by decide +kernel) rfl ?_
  refine zV_goto (tgt := 18) (off := 4) (by decide +kernel) (by decide) ?_
  exact zV_zret rfl (by decide +kernel) (by decide +kernel) hQ
