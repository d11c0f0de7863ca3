/-! ===== the text builder: appending a text, a sign ===== -/
/-- a piece of text behind what stands -/
def sbPut (sb : vSB) (l : List Int32) : vSB := (sb.1 + l.length, (sbEns (sb.1 + l.length) sb).2.1, (sbEns (sb.1 + l.length) sb).2.2.1, va_cpy (fun j => l.getD j 0) (sbEns (sb.1 + l.length) sb).2.2.2 0 sb.1 l.length)
theorem sbPut_ok {sb : vSB} {l : List Int32} (h : sbOk sb) (hl : sb.1 + l.length ≤ 2400) (hf : ∀ i, fits .byte (.int (l.getD i 0)) = true) : sbOk (sbPut sb l) := by
  obtain ⟨⟨g1, g2, g3⟩, g4, g5, g6⟩ := sbEns_ok hl h
  exact ⟨g4, g2, va_cpy_fit hf g3 0 _ _⟩
theorem zV_dupx1 {s0 : State} {D : va_G} {tys : List (ClassId × FieldType)} {y : MethodName} {cc : ByteArray} {nL : Nat} {ret : Option FieldType} {rF rL mc ms pc : Nat} {lo : List (Nat × Value)} {st : List Value} {hi hm : zHp} {nx : Nat} {Q : Option Value → zHp → zHp → Nat → Prop} {va vb : Value} (hva : va.category = 1) (hvb : vb.category = 1) (hd : decode cc pc = .ok (.dup_x1, 1)) (k : zV s0 D tys y cc nL ret rF rL mc ms (pc + 1) lo (va :: vb :: va :: st) hi hm nx Q) : zV s0 D tys y cc nL ret rF rL mc ms pc lo (va :: vb :: st) hi hm nx Q := by
  intro l p e R s m args below meth c H locs cells slots ls G F
  have F2 := F
  obtain ⟨f1, f2, f3, f4, f5, f6, f7, f8, f9, f10, f11, f12, f13, f14⟩ := F2
  exact lv_dup_x1 f1 f2 hd hva hvb (k l p e R s m args below meth c H locs cells slots ls G F)
theorem oJ5_inflateIf : zO yJ5_inflateIfNeededFor_a7421 cJ5_inflateIfNeededFor_a7421 2 none 1 := ⟨zT_mem 865 (by decide +kernel) rfl, (zT_mem 90 (by decide +kernel) rfl), (by decide +kernel), (by decide +kernel), (by decide +kernel)⟩
set_option maxRecDepth 100000 in
theorem cs_inflateIf (s0 : State) (D : va_G) (cB cI cJ cD : ClassId) (b vb n : Nat) (fl : Int32) (aw k : Nat) (f : Nat → Int32) {hi hm : zHp} {nx : Nat} {Q : Option Value → zHp → zHp → Nat → Prop} (h1 : hm b = some (.inr (13, sbC vb fl n))) (hs : iStr s0 aw k f) (hQ : Q none hi hm nx) : zM s0 D (zty cB cI cJ cD) yJ5_inflateIfNeededFor_a7421 cJ5_inflateIfNeededFor_a7421 2 none 1 20 0 0 [.ref b, .ref aw] hi hm nx Q := by
  refine zM_ofF (by decide +kernel) (Nat.le_of_ble_eq_true rfl) ?_
  refine zV_eq (lo2 := [(0, .ref b), (1, .ref aw)]) rfl rfl rfl rfl ?_
  refine zV_stat (idx := 18) (C := "java/lang/String") (nm := "COMPACT_STRINGS") (d := "Z") (v := 1) (List.mem_of_getElem? (i := 133) (by decide +kernel)) (List.mem_of_getElem? (i := 92) (by decide +kernel)) (zFl_at 4 (by decide +kernel)) (zT_mem 132 (by decide +kernel) rfl) (by decide +kernel) ?_
  refine zV_if_eq (tgt := 21) (off := 18) (by decide +kernel) (by decide) (fun q => absurd q (by decide +kernel)) (fun _ => ?_)
  refine zV_blk (pc' := 7) (lo' := [(0, .ref b), (1, .ref aw)]) (st' := [.ref b]) [.aload_n 0] (by decide +kernel) rfl ?_
  refine zV_get (ci := 13) (idx := 22) (k := 1) (N := 4) (fs := (sbC vb fl n)) (v := .int 0) (Or.inr h1) rfl z_inJ4 (by decide) (zT_mem 142 (by decide +kernel) rfl) rfl (by decide +kernel) ?_
  refine zV_blk (pc' := 11) (lo' := [(0, .ref b), (1, .ref aw)]) (st' := [.ref aw, .int 0]) [.aload_n 1] (by decide +kernel) rfl ?_
  refine zV_callSt (idx := 40) (As := []) (rest := [.int 0]) (fun Q2 hQ2 => cj_coder s0 D (zty cB cI cJ cD) aw k f hs hQ2) oJ0_coder hs rfl (zT_mem 866 (by decide +kernel) rfl) (zT_mem 363 (by decide +kernel) rfl) (zT_mem 364 (by decide +kernel) rfl) rfl rfl (Nat.le_of_ble_eq_true rfl) ⟨by decide, by decide⟩ (by decide +kernel) ?_
  refine zV_icmp_eq (tgt := 21) (off := 7) (by decide +kernel) (by decide) (fun _ => ?_) (fun q => absurd rfl q)
  exact zV_vret rfl (by decide +kernel) hQ
theorem oJ0_getBytes : zO yJ0_getBytes_840e7 cJ0_getBytes_840e7 4 none 3 := ⟨zT_mem 889 (by decide +kernel) rfl, (zT_mem 92 (by decide +kernel) rfl), (by decide +kernel), (by decide +kernel), (by decide +kernel)⟩
set_option maxRecDepth 100000 in
theorem cs_getBytes (s0 : State) (D : va_G) (cB cI cJ cD : ClassId) (aw k vb m p : Nat) (f g : Nat → Int32) {hi hm : zHp} {nx : Nat} {Q : Option Value → zHp → zHp → Nat → Prop} (hs : iStr s0 aw k f) (h2 : hm vb = some (.inl (cB, m, .inl g))) (hf : ∀ i, fits .byte (.int (f i)) = true) (hp : p + k ≤ m ∧ m ≤ 5000) (hQ : Q none hi (va_up hm vb (some (.inl (cB, m, .inl (va_cpy f g 0 p k))))) nx) : zM s0 D (zty cB cI cJ cD) yJ0_getBytes_840e7 cJ0_getBytes_840e7 4 none 1 60 0 0 [.ref aw, .ref vb, .int (nI p), .int 0] hi hm nx Q := by
  refine zM_ofF (by decide +kernel) (Nat.le_of_ble_eq_true rfl) ?_
  refine zV_eq (lo2 := [(0, .ref aw), (1, .ref vb), (2, .int (nI p)), (3, .int 0)]) rfl rfl rfl rfl ?_
  refine zV_blk (pc' := 1) (lo' := [(0, .ref aw), (1, .ref vb), (2, .int (nI p)), (3, .int 0)]) (st' := [.ref aw]) [.aload_n 0] (by decide +kernel) rfl ?_
  refine zV_callSt (idx := 335) (As := []) (rest := []) (fun Q2 hQ2 => cj_coder s0 D (zty cB cI cJ cD) aw k f hs hQ2) oJ0_coder hs rfl (zT_mem 362 (by decide +kernel) rfl) (zT_mem 363 (by decide +kernel) rfl) (zT_mem 364 (by decide +kernel) rfl) rfl rfl (Nat.le_of_ble_eq_true rfl) ⟨by decide, by decide⟩ (by decide +kernel) ?_
  refine zV_blk (pc' := 5) (lo' := [(0, .ref aw), (1, .ref vb), (2, .int (nI p)), (3, .int 0)]) (st' := [.int 0, .int 0]) [.iload_n 3] (by decide +kernel) rfl ?_
  refine zV_icmp_ne (tgt := 28) (off := 23) (by decide +kernel) (by decide) (fun q => absurd rfl q) (fun _ => ?_)
  refine zV_blk (pc' := 9) (lo' := [(0, .ref aw), (1, .ref vb), (2, .int (nI p)), (3, .int 0)]) (st' := [.ref aw]) [.aload_n 0] (by decide +kernel) rfl ?_
  refine zV_sval (idx := 9) hs (zT_mem 2103 (by decide +kernel) rfl) (by decide +kernel) (fun v1 hv1 => ?_)
  refine zV_blk (pc' := 16) (lo' := [(0, .ref aw), (1, .ref vb), (2, .int (nI p)), (3, .int 0)]) (st' := [.int 0, .int (nI p), .ref vb, .int 0, .ref v1]) [.iconst 0, .aload_n 1, .iload_n 2, .iload_n 3] (by decide +kernel) rfl ?_
  refine zV_blk (pc' := 17) (lo' := [(0, .ref aw), (1, .ref vb), (2, .int (nI p)), (3, .int 0)]) (st' := [.int (nI p <<< ((0 : Int32) &&& 31)), .ref vb, .int 0, .ref v1]) [.ishl] (by decide +kernel) rfl ?_
  refine zV_eq (st2 := [.int (nI p), .ref vb, .int 0, .ref v1]) rfl rfl (by rw [sb_shl0]) rfl ?_
  refine zV_blk (pc' := 18) (lo' := [(0, .ref aw), (1, .ref vb), (2, .int (nI p)), (3, .int 0)]) (st' := [.ref aw, .int (nI p), .ref vb, .int 0, .ref v1]) [.aload_n 0] (by decide +kernel) rfl ?_
  refine zV_sval (idx := 9) hs (zT_mem 2103 (by decide +kernel) rfl) (by decide +kernel) (fun v2 hv2 => ?_)
  refine zV_blen hv2 (by decide +kernel) ?_
  refine zV_cpy (idx := 212) (sp := 0) (dp := nI p) (k := nI k) (n0 := k) (n1 := m) (f := f) (g := g) 0 (zSrc_byt hv1) h2 rfl (by decide) (nI_pos (by omega)) (nI_pos (by omega)) (by rw [nI_clamp (by omega), sb_cl0]; omega) (by rw [nI_clamp (by omega), nI_clamp (by omega)]; omega) (fun i _ => hf _) (zT_mem 890 (by decide +kernel) rfl) (zT_mem 803 (by decide +kernel) rfl) (zT_mem 802 (by decide +kernel) rfl) (zT_mem 110 (by decide +kernel) rfl) ⟨by decide, by decide⟩ (by decide +kernel) ?_
  rw [nI_clamp (show k < 2 ^ 31 by omega), nI_clamp (show p < 2 ^ 31 by omega), sb_cl0]
  refine zV_goto (tgt := 43) (off := 18) (by decide +kernel) (by decide) ?_
  exact zV_vret rfl (by decide +kernel) hQ
theorem oJ5_putStringAt : zO yJ5_putStringAt_47b60 cJ5_putStringAt_47b60 3 none 2 := ⟨zT_mem 861 (by decide +kernel) rfl, (zT_mem 90 (by decide +kernel) rfl), (by decide +kernel), (by decide +kernel), (by decide +kernel)⟩
section ZSV
variable {s0 : State} {D : va_G} {tys : List (ClassId × FieldType)} {y : MethodName} {cc : ByteArray} {nL : Nat} {ret : Option FieldType} {rF rL mc ms pc : Nat} {lo : List (Nat × Value)} {st : List Value} {hi hm hm2 : zHp} {nx : Nat} {Q : Option Value → zHp → zHp → Nat → Prop} {idx n a : Nat} {f : Nat → Int32}
variable {y2 : MethodName} {cc2 : ByteArray} {nL2 : Nat} {ret2 : Option FieldType} {rF2 rL2 k2 : Nat} {As rest : List Value}
/-- a method of a literal that gives nothing back and leaves another heap -/
theorem zV_callSv (hM : ∀ Q2 : Option Value → zHp → zHp → Nat → Prop, Q2 none hi hm2 nx → zM s0 D tys y2 cc2 nL2 ret2 rF2 rL2 0 0 (.ref a :: As) hi hm nx Q2) (O : zO y2 cc2 nL2 ret2 k2) (hs : iStr s0 a n f) (hc : y2.cls = "java/lang/String") (hlink : Cond.methodLink y.cls idx y2 ∈ zT) (hinst : Cond.instanceMethod y2 ∈ zT) (hsel : Cond.selects y2.cls y2 y2 ∈ zT) (hn : As.length = k2) (hst : st = As.reverse ++ .ref a :: rest) (hrest : (rest.map fun v => v.category).sum ≤ 8) (hR : rF2 + 1 ≤ rF ∧ 8 + (nL2 + 11) + rL2 ≤ rL) (hd : decode cc pc = .ok (.invokevirtual idx, 3))
    (k : zV s0 D tys y cc nL ret rF rL mc ms (pc + 3) lo rest hi hm2 nx Q) : zV s0 D tys y cc nL ret rF rL mc ms pc lo st hi hm nx Q := by
  intro l p e R s m args below meth c H locs cells slots ls G F
  obtain ⟨f1, f2, f3, f4, f5, f6, f7, f8, f9, f10, f11, f12, f13, f14⟩ := F
  have hts := zG_w G f8 args
  have hB : CallB R s args y.cls idx y2 cc2 nL2 ret2 (.code y2 cc2 nL2 ret2 :: zT) { frames := rF2, cells := 0, slots := 0, locals := rL2 } 0 0 k2 := callB_of k2 hts (zO_good O) rfl rfl rfl (hts _ O.2.1) (hts _ hlink) O.2.2 ⟨Nat.le_trans hR.1 f9.1, Nat.le_trans hR.2 f9.2⟩
  have hrc : ∃ cellB : Cell, H[a]? = some cellB ∧ cellB.vm.isStatics = false ∧ s.vm.findClass y2.cls = some cellB.cls := by
    obtain ⟨cell, h1, h2, h3, h4⟩ := (va_O.moved f8.alike (hs.1.kept (z_old f11 f12 f13))).kept f12.2.1
    exact ⟨cell, h1, h2, by rw [hc]; exact h3⟩
  refine z_call (va_runV (As := As) (rest := rest) (b := a) ⟨f1, f2, f4, f5, hts⟩ (hM (fun v' hi' hm' nx' => v' = none ∧ hi' = hi ∧ hm' = hm2 ∧ nx' = nx) ⟨rfl, rfl, rfl, rfl⟩ l G) ⟨hB, hts _ hinst, hts _ hsel⟩ ⟨zFB, hrc, zPre f8 f11⟩ rfl hn f14.1 hst (lv_room hrest) hd ⟨by omega, by omega⟩) f12 ?_
  rintro v' hi' hm' nx' H1 locs1 ⟨rfl, rfl, rfl, rfl⟩ hw hS
  exact k l p e R s m args below meth c H1 locs1 _ _ ls G ⟨f1, f2, f3, f4, f5, f6, f7, f8, f9, ⟨by omega, by omega⟩, hw, hS, f13, f14⟩
end ZSV
set_option maxRecDepth 100000 in
theorem cs_putStringAt (s0 : State) (D : va_G) (cB cI cJ cD : ClassId) (b vb n : Nat) (fl : Int32) (aw k m p : Nat) (f g : Nat → Int32) {hi hm : zHp} {nx : Nat} {Q : Option Value → zHp → zHp → Nat → Prop} (h1 : hm b = some (.inr (13, sbC vb fl n))) (hs : iStr s0 aw k f) (h2 : hm vb = some (.inl (cB, m, .inl g))) (hf : ∀ i, fits .byte (.int (f i)) = true) (hp : p + k ≤ m ∧ m ≤ 5000) (hQ : Q none hi (va_up hm vb (some (.inl (cB, m, .inl (va_cpy f g 0 p k))))) nx) : zM s0 D (zty cB cI cJ cD) yJ5_putStringAt_47b60 cJ5_putStringAt_47b60 3 none 2 83 0 0 [.ref b, .int (nI p), .ref aw] hi hm nx Q := by
  refine zM_ofF (by decide +kernel) (Nat.le_of_ble_eq_true rfl) ?_
  refine zV_eq (lo2 := [(0, .ref b), (1, .int (nI p)), (2, .ref aw)]) rfl rfl rfl rfl ?_
  refine zV_blk (pc' := 2) (lo' := [(0, .ref b), (1, .int (nI p)), (2, .ref aw)]) (st' := [.ref aw, .ref b]) [.aload_n 0, .aload_n 2] (by decide +kernel) rfl ?_
  refine zV_callP (idx := 397) (As := [.ref aw]) (rest := []) (C := RJ4) (T := TJ4) (N := 4) (cs_inflateIf s0 D cB cI cJ cD b vb n fl aw k f (Q := fun v' hi' hm' nx' => v' = none ∧ hi = hi' ∧ hm = hm' ∧ nx = nx') h1 hs ⟨rfl, rfl, rfl, rfl⟩) oJ5_inflateIf (Or.inr h1) rfl (zT_mem 862 (by decide +kernel) rfl) (zT_mem 2097 (by decide +kernel) rfl) (zT_mem 124 (by decide +kernel) rfl) (List.mem_of_getElem? (i := 863) (by decide +kernel)) (zT_mem 864 (by decide +kernel) rfl) ⟨(by decide +kernel), (by decide +kernel), (by decide +kernel)⟩ rfl rfl (Nat.le_of_ble_eq_true rfl) ⟨by decide, by decide⟩ ⟨Nat.zero_le _, Nat.zero_le _⟩ (by decide +kernel) ?_
  rintro _ _ _ _ ⟨rfl, rfl, rfl, rfl⟩
  refine zV_eq (st2 := []) rfl rfl rfl rfl ?_
  refine zV_blk (pc' := 7) (lo' := [(0, .ref b), (1, .int (nI p)), (2, .ref aw)]) (st' := [.ref b, .ref aw]) [.aload_n 2, .aload_n 0] (by decide +kernel) rfl ?_
  refine zV_get (ci := 13) (idx := 15) (k := 0) (N := 4) (fs := (sbC vb fl n)) (v := .ref vb) (Or.inr h1) rfl z_inJ4 (by decide) (zT_mem 141 (by decide +kernel) rfl) rfl (by decide +kernel) ?_
  refine zV_blk (pc' := 12) (lo' := [(0, .ref b), (1, .int (nI p)), (2, .ref aw)]) (st' := [.ref b, .int (nI p), .ref vb, .ref aw]) [.iload_n 1, .aload_n 0] (by decide +kernel) rfl ?_
  refine zV_get (ci := 13) (idx := 22) (k := 1) (N := 4) (fs := (sbC vb fl n)) (v := .int 0) (Or.inr h1) rfl z_inJ4 (by decide) (zT_mem 142 (by decide +kernel) rfl) rfl (by decide +kernel) ?_
  refine zV_callSv (idx := 399) (As := [.ref vb, .int (nI p), .int 0]) (rest := []) (fun Q2 hQ2 => cs_getBytes s0 D cB cI cJ cD aw k vb m p f g hs h2 hf hp hQ2) oJ0_getBytes hs rfl (zT_mem 886 (by decide +kernel) rfl) (zT_mem 887 (by decide +kernel) rfl) (zT_mem 888 (by decide +kernel) rfl) rfl rfl (Nat.le_of_ble_eq_true rfl) ⟨by decide, by decide⟩ (by decide +kernel) ?_
  exact zV_vret rfl (by decide +kernel) hQ
theorem oJ5_appendS : zO yJ5_append_cf1ce cJ5_append_cf1ce 3 (some (.object "java/lang/AbstractStringBuilder")) 1 := ⟨zT_mem 837 (by decide +kernel) rfl, (zT_mem 90 (by decide +kernel) rfl), (by decide +kernel), (by decide +kernel), (by decide +kernel)⟩
set_option maxRecDepth 100000 in
theorem cs_appendS5 (s0 : State) (D : va_G) (cB cI cJ cD : ClassId) (X : Nat → Prop) (b : Nat) (sb : vSB) (l : List Int32) (aw : Nat) {hi hm : zHp} {nx : Nat} {Q : Option Value → zHp → zHp → Nat → Prop} (hW : bW X cB b sb hm) (hok : sbOk sb) (hl : sb.1 + l.length ≤ 2400) (hs : iStr s0 aw l.length (fun j => l.getD j 0)) (hf : ∀ i, fits .byte (.int (l.getD i 0)) = true) (hQ : ∀ hm' nx', bW X cB b (sbPut sb l) hm' → lFr X hm hm' → Q (some (.ref b)) hi hm' nx') : zM s0 D (zty cB cI cJ cD) yJ5_append_cf1ce cJ5_append_cf1ce 3 (some (.object "java/lang/AbstractStringBuilder")) 4 105 (sbPhi sb.2.1 - sbPhi (sbPut sb l).2.1) (sbPhi sb.2.1 - sbPhi (sbPut sb l).2.1) [.ref b, .ref aw] hi hm nx Q := by
  refine zM_ofF (by decide +kernel) (Nat.le_of_ble_eq_true rfl) ?_
  refine zV_eq (lo2 := [(0, .ref b), (1, .ref aw)]) rfl rfl rfl rfl ?_
  refine zV_blk (pc' := 1) (lo' := [(0, .ref b), (1, .ref aw)]) (st' := [.ref aw]) [.aload_n 1] (by decide +kernel) rfl ?_
  refine zV_ifnonnull (r := some aw) (tgt := 9) (off := 8) (by decide +kernel) (by decide) (fun _ _ => ?_) (fun q => by cases q)
  refine zV_blk (pc' := 10) (lo' := [(0, .ref b), (1, .ref aw)]) (st' := [.ref aw]) [.aload_n 1] (by decide +kernel) rfl ?_
  refine zV_callSt (idx := 32) (As := []) (rest := []) (fun Q2 hQ2 => cj_length s0 D (zty cB cI cJ cD) aw l.length _ hs hQ2) oJ0_length hs rfl (zT_mem 857 (by decide +kernel) rfl) (zT_mem 359 (by decide +kernel) rfl) (zT_mem 360 (by decide +kernel) rfl) rfl rfl (Nat.le_of_ble_eq_true rfl) ⟨by decide, by decide⟩ (by decide +kernel) ?_
  refine zV_eq (st2 := [.int (nI l.length)]) rfl rfl (by rw [sb_shr0]; rfl) rfl ?_
  refine zV_blk (pc' := 16) (lo' := [(2, .int (nI l.length)), (0, .ref b), (1, .ref aw)]) (st' := [.ref b, .ref b]) [.istore_n 2, .aload_n 0, .aload_n 0] (by decide +kernel) rfl ?_
  obtain ⟨vb, h1, h2, h3, h4, h5⟩ := id hW
  refine zV_get (ci := 13) (idx := 79) (k := 3) (N := 4) (fs := (sbC vb sb.2.2.1 sb.1)) (v := .int (nI sb.1)) (Or.inr h1) rfl z_inJ4 (by decide) (zT_mem 144 (by decide +kernel) rfl) rfl (by decide +kernel) ?_
  clear h1 h2 h3 h4 h5
  clear vb
  refine zV_blk (pc' := 21) (lo' := [(2, .int (nI l.length)), (0, .ref b), (1, .ref aw)]) (st' := [.int ((nI sb.1) + (nI l.length)), .ref b]) [.iload_n 2, .iadd] (by decide +kernel) rfl ?_
  refine zV_eq (st2 := [.int (nI (sb.1 + l.length)), .ref b]) rfl rfl (by rw [nI_add]) rfl ?_
  obtain ⟨vb, h1, h2, h3, h4, h5⟩ := id hW
  refine zV_callP (idx := 100) (As := [.int (nI (sb.1 + l.length))]) (rest := []) (C := RJ4) (T := TJ4) (N := 4) (cs_ens s0 D cB cI cJ cD X b (sb.1 + l.length) sb (Q := fun v' hi' hm' nx' => v' = none ∧ hi = hi' ∧ bW X cB b (sbEns (sb.1 + l.length) sb) hm' ∧ lFr X hm hm') hW hok (by omega) (fun hm' nx' g1 g2 => ⟨rfl, rfl, g1, g2⟩)) oJ5_ens (Or.inr h1) rfl (zT_mem 773 (by decide +kernel) rfl) (zT_mem 2092 (by decide +kernel) rfl) (zT_mem 124 (by decide +kernel) rfl) (List.mem_of_getElem? (i := 774) (by decide +kernel)) (zT_mem 775 (by decide +kernel) rfl) ⟨(by decide +kernel), (by decide +kernel), (by decide +kernel)⟩ rfl rfl (Nat.le_of_ble_eq_true rfl) ⟨by decide, by decide⟩ ⟨Nat.le_refl _, Nat.le_refl _⟩ (by decide +kernel) ?_
  clear h1 h2 h3 h4 h5
  clear vb
  rintro _ _ hm2 nx2 ⟨rfl, rfl, hW2, hF2⟩
  obtain ⟨⟨k1, k2, k3⟩, k4, k5, k6⟩ := sbEns_ok (q := (sb.1 + l.length)) (sb := sb) (by omega) hok
  obtain ⟨vb, h1, h2, h3, h4, h5⟩ := hW2
  rw [k5] at h1
  refine zV_eq (st2 := []) rfl rfl rfl rfl ?_
  refine zV_blk (pc' := 26) (lo' := [(2, .int (nI l.length)), (0, .ref b), (1, .ref aw)]) (st' := [.ref b, .ref b]) [.aload_n 0, .aload_n 0] (by decide +kernel) rfl ?_
  refine zV_get (ci := 13) (idx := 79) (k := 3) (N := 4) (fs := (sbC vb (sbEns (sb.1 + l.length) sb).2.2.1 sb.1)) (v := .int (nI sb.1)) (Or.inr h1) rfl z_inJ4 (by decide) (zT_mem 144 (by decide +kernel) rfl) rfl (by decide +kernel) ?_
  refine zV_blk (pc' := 30) (lo' := [(2, .int (nI l.length)), (0, .ref b), (1, .ref aw)]) (st' := [.ref aw, .int (nI sb.1), .ref b]) [.aload_n 1] (by decide +kernel) rfl ?_
  refine zV_callP (idx := 208) (As := [.int (nI sb.1), .ref aw]) (rest := []) (C := RJ4) (T := TJ4) (N := 4) (cs_putStringAt s0 D cB cI cJ cD b vb sb.1 _ aw l.length _ sb.1 _ _ (Q := fun v' hi' hm' nx' => v' = none ∧ hi = hi' ∧ va_up hm2 vb (some (.inl (cB, (sbEns (sb.1 + l.length) sb).2.1, .inl (va_cpy (fun j => l.getD j 0) (sbEns (sb.1 + l.length) sb).2.2.2 0 sb.1 l.length)))) = hm') h1 hs h2 hf ⟨by omega, k2⟩ ⟨rfl, rfl, rfl⟩) oJ5_putStringAt (Or.inr h1) rfl (zT_mem 858 (by decide +kernel) rfl) (zT_mem 2096 (by decide +kernel) rfl) (zT_mem 124 (by decide +kernel) rfl) (List.mem_of_getElem? (i := 859) (by decide +kernel)) (zT_mem 860 (by decide +kernel) rfl) ⟨(by decide +kernel), (by decide +kernel), (by decide +kernel)⟩ rfl rfl (Nat.le_of_ble_eq_true rfl) ⟨by decide, by decide⟩ ⟨Nat.zero_le _, Nat.zero_le _⟩ (by decide +kernel) ?_
  rintro _ _ _ nx3 ⟨rfl, rfl, rfl⟩
  refine zV_eq (st2 := []) rfl rfl rfl rfl ?_
  obtain ⟨⟨vb2, j1, j2, j3, j4, j5⟩, hF3⟩ := bW.arr (g := va_cpy (fun j => l.getD j 0) (sbEns (sb.1 + l.length) sb).2.2.2 0 sb.1 l.length) h1 h2 h3 h4 h5
  generalize va_up hm2 vb _ = hm3 at j1 j2 j5 hF3 ⊢
  refine zV_blk (pc' := 35) (lo' := [(2, .int (nI l.length)), (0, .ref b), (1, .ref aw)]) (st' := [.ref b, .ref b]) [.aload_n 0, .dup] (by decide +kernel) rfl ?_
  refine zV_get (ci := 13) (idx := 79) (k := 3) (N := 4) (fs := (sbC vb2 (sbEns (sb.1 + l.length) sb).2.2.1 sb.1)) (v := .int (nI sb.1)) (Or.inr j1) rfl z_inJ4 (by decide) (zT_mem 144 (by decide +kernel) rfl) rfl (by decide +kernel) ?_
  refine zV_blk (pc' := 40) (lo' := [(2, .int (nI l.length)), (0, .ref b), (1, .ref aw)]) (st' := [.int ((nI sb.1) + (nI l.length)), .ref b]) [.iload_n 2, .iadd] (by decide +kernel) rfl ?_
  refine zV_eq (st2 := [.int (nI (sb.1 + l.length)), .ref b]) rfl rfl (by rw [nI_add]) rfl ?_
  refine zV_put (ci := 13) (idx := 79) (k := 3) (N := 4) (fs := sbC vb2 (sbEns (sb.1 + l.length) sb).2.2.1 sb.1) tyJ4 j1 rfl z_inJ4 tyJ4_ok nmJ4 (by decide) (zT_mem 144 (by decide +kernel) rfl) rfl rfl rfl rfl (by show 3 < 4; decide) (by decide +kernel) ?_
  obtain ⟨hW4, hF4⟩ := bW.put (fl' := (sbEns (sb.1 + l.length) sb).2.2.1) (n' := sb.1 + l.length) j1 j2 j3 j4 j5
  refine zV_blk (pc' := 44) (lo' := [(2, .int (nI l.length)), (0, .ref b), (1, .ref aw)]) (st' := [.ref b]) [.aload_n 0] (by decide +kernel) rfl ?_
  exact zV_aret rfl (Or.inl ⟨_, rfl⟩) (Or.inr ⟨_, rfl⟩) (by decide +kernel) (hQ _ _ hW4 ((hF2.tr hF3).tr hF4))
theorem oJ1_canEncode : zO yJ1_canEncode_fc78d cJ1_canEncode_fc78d 1 (some .boolean) 1 := ⟨zT_mem 927 (by decide +kernel) rfl, (zT_mem 100 (by decide +kernel) rfl), (by decide +kernel), (by decide +kernel), (by decide +kernel)⟩
set_option maxRecDepth 100000 in
theorem cs_canEncode (s0 : State) (D : va_G) (cB cI cJ cD : ClassId) (c : Int32) {hi hm : zHp} {nx : Nat} {Q : Option Value → zHp → zHp → Nat → Prop} (hc : ¬ (255 : Int32) < c) (hQ : Q (some (.int (zb true))) hi hm nx) : zM s0 D (zty cB cI cJ cD) yJ1_canEncode_fc78d cJ1_canEncode_fc78d 1 (some .boolean) 0 0 0 0 [.int c] hi hm nx Q := by
  refine zM_ofF (by decide +kernel) (Nat.le_of_ble_eq_true rfl) ?_
  refine zV_eq (lo2 := [(0, .int c)]) rfl rfl rfl rfl ?_
  refine zV_blk (pc' := 4) (lo' := [(0, .int c)]) (st' := [.int 255, .int c]) [.iload_n 0, .sipush 255] (by decide +kernel) rfl ?_
  refine zV_icmp_gt (tgt := 11) (off := 7) (by decide +kernel) (by decide) (fun q => absurd q hc) (fun _ => ?_)
  refine zV_blk (pc' := 8) (lo' := [(0, .int c)]) (st' := [.int 1]) [.iconst 1] (by decide +kernel) rfl ?_
  refine zV_goto (tgt := 12) (off := 4) (by decide +kernel) (by decide) ?_
  refine zV_eq (st2 := [.int (zb true)]) rfl rfl rfl rfl ?_
  exact zV_bret rfl (by decide +kernel) hQ
theorem oJ5_appendC : zO yJ5_append_3fe6f cJ5_append_3fe6f 2 (some (.object "java/lang/AbstractStringBuilder")) 1 := ⟨zT_mem 924 (by decide +kernel) rfl, (zT_mem 90 (by decide +kernel) rfl), (by decide +kernel), (by decide +kernel), (by decide +kernel)⟩
set_option maxRecDepth 100000 in
theorem cs_appendC5 (s0 : State) (D : va_G) (cB cI cJ cD : ClassId) (X : Nat → Prop) (b : Nat) (sb : vSB) (c : Int32) {hi hm : zHp} {nx : Nat} {Q : Option Value → zHp → zHp → Nat → Prop} (hW : bW X cB b sb hm) (hok : sbOk sb) (hl : sb.1 + [c].length ≤ 2400) (hc : ¬ (255 : Int32) < c) (hv : vp_nar .byte c.toInt8.toInt32 = c) (hQ : ∀ hm' nx', bW X cB b (sbPut sb [c]) hm' → lFr X hm hm' → Q (some (.ref b)) hi hm' nx') : zM s0 D (zty cB cI cJ cD) yJ5_append_3fe6f cJ5_append_3fe6f 2 (some (.object "java/lang/AbstractStringBuilder")) 4 104 (sbPhi sb.2.1 - sbPhi (sbPut sb [c]).2.1) (sbPhi sb.2.1 - sbPhi (sbPut sb [c]).2.1) [.ref b, .int c] hi hm nx Q := by
  refine zM_ofF (by decide +kernel) (Nat.le_of_ble_eq_true rfl) ?_
  refine zV_eq (lo2 := [(0, .ref b), (1, .int c)]) rfl rfl rfl rfl ?_
  have hl1 : [c].length = 1 := rfl
  refine zV_blk (pc' := 2) (lo' := [(0, .ref b), (1, .int c)]) (st' := [.ref b, .ref b]) [.aload_n 0, .aload_n 0] (by decide +kernel) rfl ?_
  obtain ⟨vb, h1, h2, h3, h4, h5⟩ := id hW
  refine zV_get (ci := 13) (idx := 79) (k := 3) (N := 4) (fs := (sbC vb sb.2.2.1 sb.1)) (v := .int (nI sb.1)) (Or.inr h1) rfl z_inJ4 (by decide) (zT_mem 144 (by decide +kernel) rfl) rfl (by decide +kernel) ?_
  clear h1 h2 h3 h4 h5
  clear vb
  refine zV_blk (pc' := 7) (lo' := [(0, .ref b), (1, .int c)]) (st' := [.int ((nI sb.1) + 1), .ref b]) [.iconst 1, .iadd] (by decide +kernel) rfl ?_
  refine zV_eq (st2 := [.int (nI (sb.1 + [c].length)), .ref b]) rfl rfl (by rw [nI_1]; rfl) rfl ?_
  obtain ⟨vb, h1, h2, h3, h4, h5⟩ := id hW
  refine zV_callP (idx := 100) (As := [.int (nI (sb.1 + [c].length))]) (rest := []) (C := RJ4) (T := TJ4) (N := 4) (cs_ens s0 D cB cI cJ cD X b (sb.1 + [c].length) sb (Q := fun v' hi' hm' nx' => v' = none ∧ hi = hi' ∧ bW X cB b (sbEns (sb.1 + [c].length) sb) hm' ∧ lFr X hm hm') hW hok (by omega) (fun hm' nx' g1 g2 => ⟨rfl, rfl, g1, g2⟩)) oJ5_ens (Or.inr h1) rfl (zT_mem 773 (by decide +kernel) rfl) (zT_mem 2092 (by decide +kernel) rfl) (zT_mem 124 (by decide +kernel) rfl) (List.mem_of_getElem? (i := 774) (by decide +kernel)) (zT_mem 775 (by decide +kernel) rfl) ⟨(by decide +kernel), (by decide +kernel), (by decide +kernel)⟩ rfl rfl (Nat.le_of_ble_eq_true rfl) ⟨by decide, by decide⟩ ⟨Nat.le_refl _, Nat.le_refl _⟩ (by decide +kernel) ?_
  clear h1 h2 h3 h4 h5
  clear vb
  rintro _ _ hm2 nx2 ⟨rfl, rfl, hW2, hF2⟩
  obtain ⟨⟨k1, k2, k3⟩, k4, k5, k6⟩ := sbEns_ok (q := (sb.1 + [c].length)) (sb := sb) (by omega) hok
  obtain ⟨vb, h1, h2, h3, h4, h5⟩ := hW2
  rw [k5] at h1
  refine zV_eq (st2 := []) rfl rfl rfl rfl ?_
  refine zV_blk (pc' := 11) (lo' := [(0, .ref b), (1, .int c)]) (st' := [.ref b]) [.aload_n 0] (by decide +kernel) rfl ?_
  refine zV_roU (x := yJ5_isLatin1_aae02) (y2 := yJ5_isLatin1_aae02) (owner := RJ5) (C := RJ4) (idx := 83) (As := []) (rest := []) (ci := 13) (N := 4) (T := TJ4) (fs := (sbC vb (sbEns (sb.1 + [c].length) sb).2.2.1 sb.1)) (b0 := cJ5_isLatin1_aae02) (m0 := 1) (r0 := some .boolean) (fun Q2 hQ2 => cs_isLatin1 s0 D cB cI cJ cD b vb _ _ h1 hQ2) oJ5_isLatin1 (Or.inr h1) rfl (zT_mem 804 (by decide +kernel) rfl) (zT_mem 806 (by decide +kernel) rfl) (zT_mem 805 (by decide +kernel) rfl) (zT_mem 807 (by decide +kernel) rfl) (zT_mem 805 (by decide +kernel) rfl) (zT_mem 808 (by decide +kernel) rfl) ⟨(by decide +kernel), (by decide +kernel), (by decide +kernel)⟩ rfl rfl (Nat.le_of_ble_eq_true rfl) ⟨by decide, by decide⟩ (by decide +kernel) ?_
  refine zV_eq (st2 := [.int (zb true)]) rfl rfl rfl rfl ?_
  refine zV_bif_eq (tgt := 45) (off := 31) (by decide +kernel) (by decide) (fun q => absurd rfl q) (fun _ => ?_)
  refine zV_blk (pc' := 18) (lo' := [(0, .ref b), (1, .int c)]) (st' := [.int c]) [.iload_n 1] (by decide +kernel) rfl ?_
  refine zV_roS (idx := 191) (rest := []) (fun Q2 hQ2 => cs_canEncode s0 D cB cI cJ cD c hc hQ2) oJ1_canEncode (zT_mem 925 (by decide +kernel) rfl) (zT_mem 926 (by decide +kernel) rfl) rfl rfl (Nat.le_of_ble_eq_true rfl) ⟨by decide, by decide⟩ (by decide +kernel) ?_
  refine zV_eq (st2 := [.int (zb true)]) rfl rfl rfl rfl ?_
  refine zV_bif_eq (tgt := 45) (off := 24) (by decide +kernel) (by decide) (fun q => absurd rfl q) (fun _ => ?_)
  refine zV_blk (pc' := 25) (lo' := [(0, .ref b), (1, .int c)]) (st' := [.ref b]) [.aload_n 0] (by decide +kernel) rfl ?_
  refine zV_get (ci := 13) (idx := 15) (k := 0) (N := 4) (fs := (sbC vb (sbEns (sb.1 + [c].length) sb).2.2.1 sb.1)) (v := .ref vb) (Or.inr h1) rfl z_inJ4 (by decide) (zT_mem 141 (by decide +kernel) rfl) rfl (by decide +kernel) ?_
  refine zV_blk (pc' := 30) (lo' := [(0, .ref b), (1, .int c)]) (st' := [.ref b, .ref b, .ref vb]) [.aload_n 0, .dup] (by decide +kernel) rfl ?_
  refine zV_get (ci := 13) (idx := 79) (k := 3) (N := 4) (fs := (sbC vb (sbEns (sb.1 + [c].length) sb).2.2.1 sb.1)) (v := .int (nI sb.1)) (Or.inr h1) rfl z_inJ4 (by decide) (zT_mem 144 (by decide +kernel) rfl) rfl (by decide +kernel) ?_
  refine zV_dupx1 rfl rfl (by decide +kernel) ?_
  refine zV_blk (pc' := 36) (lo' := [(0, .ref b), (1, .int c)]) (st' := [.int ((nI sb.1) + 1), .ref b, .int (nI sb.1), .ref vb]) [.iconst 1, .iadd] (by decide +kernel) rfl ?_
  refine zV_eq (st2 := [.int (nI (sb.1 + [c].length)), .ref b, .int (nI sb.1), .ref vb]) rfl rfl (by rw [nI_1]; rfl) rfl ?_
  refine zV_put (ci := 13) (idx := 79) (k := 3) (N := 4) (fs := (sbC vb (sbEns (sb.1 + [c].length) sb).2.2.1 sb.1)) tyJ4 h1 rfl z_inJ4 tyJ4_ok nmJ4 (by decide) (zT_mem 144 (by decide +kernel) rfl) rfl rfl rfl rfl (by show 3 < 4; decide) (by decide +kernel) ?_
  obtain ⟨-, hF3⟩ := bW.put (fl' := (sbEns (sb.1 + [c].length) sb).2.2.1) (n' := sb.1 + [c].length) h1 h2 h3 h4 h5
  have hnb := bW.nb h1 h2
  have j1 : va_up hm2 b (some (.inr (13, sbC vb (sbEns (sb.1 + [c].length) sb).2.2.1 (sb.1 + [c].length)))) b = some (.inr (13, sbC vb (sbEns (sb.1 + [c].length) sb).2.2.1 (sb.1 + [c].length))) := zUe
  have j2 : va_up hm2 b (some (.inr (13, sbC vb (sbEns (sb.1 + [c].length) sb).2.2.1 (sb.1 + [c].length)))) vb = some (.inl (cB, (sbEns (sb.1 + [c].length) sb).2.1, .inl (sbEns (sb.1 + [c].length) sb).2.2.2)) := zUn hnb h2
  have j5 : ∀ q, X q → va_up hm2 b (some (.inr (13, sbC vb (sbEns (sb.1 + [c].length) sb).2.2.1 (sb.1 + [c].length)))) q ≠ none := fun q hq => by rw [hF3 q hq]; exact h5 q hq
  show zV _ _ _ _ _ _ _ _ _ _ _ _ _ _ _ (va_up hm2 b (some (.inr (13, sbC vb (sbEns (sb.1 + [c].length) sb).2.2.1 (sb.1 + [c].length))))) _ _
  generalize va_up hm2 b _ = hm3 at j1 j2 j5 hF3 ⊢
  refine zV_blk (pc' := 41) (lo' := [(0, .ref b), (1, .int c)]) (st' := [.int (c : Int32).toInt8.toInt32, .int (nI sb.1), .ref vb]) [.iload_n 1, .i2b] (by decide +kernel) rfl ?_
  refine zV_bast 0 j2 rfl (nI_in (by omega) (by omega)) (by decide +kernel) ?_
  rw [nI_clamp (show sb.1 < 2 ^ 31 by omega), hv]
  obtain ⟨hW4, hF4⟩ := bW.arr (g := upd (sbEns (sb.1 + [c].length) sb).2.2.2 sb.1 c) j1 j2 h3 h4 j5
  have e9 : upd (sbEns (sb.1 + [c].length) sb).2.2.2 sb.1 c = va_cpy (fun j => [c].getD j 0) (sbEns (sb.1 + [c].length) sb).2.2.2 0 sb.1 [c].length := by
    funext j
    unfold upd va_cpy
    by_cases e : j = sb.1
    · subst e; rw [if_pos rfl, if_pos ⟨Nat.le_refl _, by rw [hl1]; omega⟩, Nat.sub_self]; rfl
    · rw [if_neg e, if_neg (by rw [hl1]; omega)]
  rw [e9] at hW4 hF4 ⊢
  refine zV_goto (tgt := 75) (off := 33) (by decide +kernel) (by decide) ?_
  refine zV_blk (pc' := 76) (lo' := [(0, .ref b), (1, .int c)]) (st' := [.ref b]) [.aload_n 0] (by decide +kernel) rfl ?_
  exact zV_aret rfl (Or.inl ⟨_, rfl⟩) (Or.inr ⟨_, rfl⟩) (by decide +kernel) (hQ _ _ hW4 ((hF2.tr hF3).tr hF4))
theorem oJ4_appendS : zO yJ4_append_15ec4 cJ4_append_15ec4 2 (some (.object "java/lang/StringBuilder")) 1 := ⟨zT_mem 834 (by decide +kernel) rfl, (zT_mem 91 (by decide +kernel) rfl), (by decide +kernel), (by decide +kernel), (by decide +kernel)⟩
set_option maxRecDepth 100000 in
theorem cs_appendS (s0 : State) (D : va_G) (cB cI cJ cD : ClassId) (X : Nat → Prop) (b : Nat) (sb : vSB) (l : List Int32) (aw : Nat) {hi hm : zHp} {nx : Nat} {Q : Option Value → zHp → zHp → Nat → Prop} (hW : bW X cB b sb hm) (hok : sbOk sb) (hl : sb.1 + l.length ≤ 2400) (hs : iStr s0 aw l.length (fun j => l.getD j 0)) (hf : ∀ i, fits .byte (.int (l.getD i 0)) = true) (hQ : ∀ hm' nx', bW X cB b (sbPut sb l) hm' → lFr X hm hm' → Q (some (.ref b)) hi hm' nx') : zM s0 D (zty cB cI cJ cD) yJ4_append_15ec4 cJ4_append_15ec4 2 (some (.object "java/lang/StringBuilder")) 5 127 (sbPhi sb.2.1 - sbPhi (sbPut sb l).2.1) (sbPhi sb.2.1 - sbPhi (sbPut sb l).2.1) [.ref b, .ref aw] hi hm nx Q := by
  refine zM_ofF (by decide +kernel) (Nat.le_of_ble_eq_true rfl) ?_
  refine zV_eq (lo2 := [(0, .ref b), (1, .ref aw)]) rfl rfl rfl rfl ?_
  refine zV_blk (pc' := 2) (lo' := [(0, .ref b), (1, .ref aw)]) (st' := [.ref aw, .ref b]) [.aload_n 0, .aload_n 1] (by decide +kernel) rfl ?_
  obtain ⟨vb, h1, h2, h3, h4, h5⟩ := id hW
  refine zV_callSU (idx := 29) (As := [.ref aw]) (rest := []) (C := RJ4) (T := TJ4) (N := 4) (cs_appendS5 s0 D cB cI cJ cD X b sb l aw (Q := fun v' hi' hm' nx' => v' = some (.ref b) ∧ hi = hi' ∧ bW X cB b (sbPut sb l) hm' ∧ lFr X hm hm') hW hok hl hs hf (fun hm' nx' g1 g2 => ⟨rfl, rfl, g1, g2⟩)) oJ5_appendS (Or.inr h1) rfl (zT_mem 835 (by decide +kernel) rfl) (zT_mem 2094 (by decide +kernel) rfl) (zT_mem 153 (by decide +kernel) rfl) (zT_mem 836 (by decide +kernel) rfl) (by decide +kernel) (by decide +kernel) rfl rfl (Nat.le_of_ble_eq_true rfl) ⟨by decide, by decide⟩ ⟨Nat.le_refl _, Nat.le_refl _⟩ (by decide +kernel) ?_
  rintro _ _ hm2 nx2 ⟨rfl, rfl, g1, g2⟩
  refine zV_eq (st2 := [.ref b]) rfl rfl rfl rfl ?_
  refine zV_blk (pc' := 7) (lo' := [(0, .ref b), (1, .ref aw)]) (st' := [.ref b]) [.pop, .aload_n 0] (by decide +kernel) rfl ?_
  exact zV_aret rfl (Or.inl ⟨_, rfl⟩) (Or.inr ⟨_, rfl⟩) (by decide +kernel) (hQ _ _ g1 g2)
theorem oJ4_appendC : zO yJ4_append_cf468 cJ4_append_cf468 2 (some (.object "java/lang/StringBuilder")) 1 := ⟨zT_mem 921 (by decide +kernel) rfl, (zT_mem 91 (by decide +kernel) rfl), (by decide +kernel), (by decide +kernel), (by decide +kernel)⟩
set_option maxRecDepth 100000 in
theorem cs_appendC (s0 : State) (D : va_G) (cB cI cJ cD : ClassId) (X : Nat → Prop) (b : Nat) (sb : vSB) (c : Int32) {hi hm : zHp} {nx : Nat} {Q : Option Value → zHp → zHp → Nat → Prop} (hW : bW X cB b sb hm) (hok : sbOk sb) (hl : sb.1 + [c].length ≤ 2400) (hc : ¬ (255 : Int32) < c) (hv : vp_nar .byte c.toInt8.toInt32 = c) (hQ : ∀ hm' nx', bW X cB b (sbPut sb [c]) hm' → lFr X hm hm' → Q (some (.ref b)) hi hm' nx') : zM s0 D (zty cB cI cJ cD) yJ4_append_cf468 cJ4_append_cf468 2 (some (.object "java/lang/StringBuilder")) 5 125 (sbPhi sb.2.1 - sbPhi (sbPut sb [c]).2.1) (sbPhi sb.2.1 - sbPhi (sbPut sb [c]).2.1) [.ref b, .int c] hi hm nx Q := by
  refine zM_ofF (by decide +kernel) (Nat.le_of_ble_eq_true rfl) ?_
  refine zV_eq (lo2 := [(0, .ref b), (1, .int c)]) rfl rfl rfl rfl ?_
  refine zV_blk (pc' := 2) (lo' := [(0, .ref b), (1, .int c)]) (st' := [.int c, .ref b]) [.aload_n 0, .iload_n 1] (by decide +kernel) rfl ?_
  obtain ⟨vb, h1, h2, h3, h4, h5⟩ := id hW
  refine zV_callSU (idx := 50) (As := [.int c]) (rest := []) (C := RJ4) (T := TJ4) (N := 4) (cs_appendC5 s0 D cB cI cJ cD X b sb c (Q := fun v' hi' hm' nx' => v' = some (.ref b) ∧ hi = hi' ∧ bW X cB b (sbPut sb [c]) hm' ∧ lFr X hm hm') hW hok hl hc hv (fun hm' nx' g1 g2 => ⟨rfl, rfl, g1, g2⟩)) oJ5_appendC (Or.inr h1) rfl (zT_mem 922 (by decide +kernel) rfl) (zT_mem 2100 (by decide +kernel) rfl) (zT_mem 153 (by decide +kernel) rfl) (zT_mem 923 (by decide +kernel) rfl) (by decide +kernel) (by decide +kernel) rfl rfl (Nat.le_of_ble_eq_true rfl) ⟨by decide, by decide⟩ ⟨Nat.le_refl _, Nat.le_refl _⟩ (by decide +kernel) ?_
  rintro _ _ hm2 nx2 ⟨rfl, rfl, g1, g2⟩
  refine zV_eq (st2 := [.ref b]) rfl rfl rfl rfl ?_
  refine zV_blk (pc' := 7) (lo' := [(0, .ref b), (1, .int c)]) (st' := [.ref b]) [.pop, .aload_n 0] (by decide +kernel) rfl ?_
  exact zV_aret rfl (Or.inl ⟨_, rfl⟩) (Or.inr ⟨_, rfl⟩) (by decide +kernel) (hQ _ _ g1 g2)
