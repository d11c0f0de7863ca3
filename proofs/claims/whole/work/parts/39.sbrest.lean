/-! ===== the text builder: numbers appended, its other methods ===== -/
theorem oJ5_appendI : zO yJ5_append_c97b9 cJ5_append_c97b9 4 (some (.object "java/lang/AbstractStringBuilder")) 1 := ⟨zT_mem 898 (by decide +kernel) rfl, (zT_mem 90 (by decide +kernel) rfl), (by decide +kernel), (by decide +kernel), (by decide +kernel)⟩
set_option maxRecDepth 100000 in
theorem cs_appendI5 (s0 : State) (D : va_G) (cB cI cJ cD : ClassId) (X : Nat → Prop) (b : Nat) (sb : vSB) (v : Nat) {hi hm : zHp} {nx : Nat} {Q : Option Value → zHp → zHp → Nat → Prop} (hW : bW X cB b sb hm) (hok : sbOk sb) (hl : sb.1 + (dec v).length ≤ 2400) (hv : v < 10 ^ 7) (hQ : ∀ hm' nx', bW X cB b (sbPut sb (dec v)) hm' → lFr X hm hm' → Q (some (.ref b)) hi hm' nx') : zM s0 D (zty cB cI cJ cD) yJ5_append_c97b9 cJ5_append_c97b9 4 (some (.object "java/lang/AbstractStringBuilder")) 4 104 (sbPhi sb.2.1 - sbPhi (sbPut sb (dec v)).2.1) (sbPhi sb.2.1 - sbPhi (sbPut sb (dec v)).2.1) [.ref b, .int (nI v)] hi hm nx Q := by
  refine zM_ofF (by decide +kernel) (Nat.le_of_ble_eq_true rfl) ?_
  refine zV_eq (lo2 := [(0, .ref b), (1, .int (nI v))]) rfl rfl rfl rfl ?_
  refine zV_blk (pc' := 1) (lo' := [(0, .ref b), (1, .int (nI v))]) (st' := [.ref b]) [.aload_n 0] (by decide +kernel) rfl ?_
  obtain ⟨vb, h1, h2, h3, h4, h5⟩ := id hW
  refine zV_get (ci := 13) (idx := 79) (k := 3) (N := 4) (fs := (sbC vb sb.2.2.1 sb.1)) (v := .int (nI sb.1)) (Or.inr h1) rfl z_inJ4 (by decide) (zT_mem 144 (by decide +kernel) rfl) rfl (by decide +kernel) ?_
  clear h1 h2 h3 h4 h5
  clear vb
  refine zV_blk (pc' := 7) (lo' := [(2, .int (nI sb.1)), (0, .ref b), (1, .int (nI v))]) (st' := [.int (nI v), .int (nI sb.1)]) [.istore_n 2, .iload_n 2, .iload_n 1] (by decide +kernel) rfl ?_
  refine zV_roS (idx := 245) (As := [.int (nI v)]) (rest := [.int (nI sb.1)]) (fun Q2 hQ2 => cs_stringSize s0 D cB cI cJ cD v hv hQ2) oJ6_stringSize (zT_mem 899 (by decide +kernel) rfl) (zT_mem 900 (by decide +kernel) rfl) rfl rfl (Nat.le_of_ble_eq_true rfl) ⟨by decide, by decide⟩ (by decide +kernel) ?_
  refine zV_blk (pc' := 11) (lo' := [(2, .int (nI sb.1)), (0, .ref b), (1, .int (nI v))]) (st' := [.int ((nI sb.1) + (nI (dec v).length))]) [.iadd] (by decide +kernel) rfl ?_
  refine zV_eq (st2 := [.int (nI (sb.1 + (dec v).length))]) rfl rfl (by rw [nI_add]) rfl ?_
  refine zV_blk (pc' := 14) (lo' := [(3, .int (nI (sb.1 + (dec v).length))), (2, .int (nI sb.1)), (0, .ref b), (1, .int (nI v))]) (st' := [.int (nI (sb.1 + (dec v).length)), .ref b]) [.istore_n 3, .aload_n 0, .iload_n 3] (by decide +kernel) rfl ?_
  obtain ⟨vb, h1, h2, h3, h4, h5⟩ := id hW
  refine zV_callP (idx := 100) (As := [.int (nI (sb.1 + (dec v).length))]) (rest := []) (C := RJ4) (T := TJ4) (N := 4) (cs_ens s0 D cB cI cJ cD X b (sb.1 + (dec v).length) sb (Q := fun v' hi' hm' nx' => v' = none ∧ hi = hi' ∧ bW X cB b (sbEns (sb.1 + (dec v).length) sb) hm' ∧ lFr X hm hm') hW hok (by omega) (fun hm' nx' g1 g2 => ⟨rfl, rfl, g1, g2⟩)) oJ5_ens (Or.inr h1) rfl (zT_mem 773 (by decide +kernel) rfl) (zT_mem 2092 (by decide +kernel) rfl) (zT_mem 124 (by decide +kernel) rfl) (List.mem_of_getElem? (i := 774) (by decide +kernel)) (zT_mem 775 (by decide +kernel) rfl) ⟨(by decide +kernel), (by decide +kernel), (by decide +kernel)⟩ rfl rfl (Nat.le_of_ble_eq_true rfl) ⟨by decide, by decide⟩ ⟨Nat.le_refl _, Nat.le_refl _⟩ (by decide +kernel) ?_
  clear h1 h2 h3 h4 h5
  clear vb
  rintro _ _ hm2 nx2 ⟨rfl, rfl, hW2, hF2⟩
  obtain ⟨⟨k1, k2, k3⟩, k4, k5, k6⟩ := sbEns_ok (q := (sb.1 + (dec v).length)) (sb := sb) (by omega) hok
  obtain ⟨vb, h1, h2, h3, h4, h5⟩ := hW2
  rw [k5] at h1
  refine zV_eq (st2 := []) rfl rfl rfl rfl ?_
  refine zV_blk (pc' := 18) (lo' := [(3, .int (nI (sb.1 + (dec v).length))), (2, .int (nI sb.1)), (0, .ref b), (1, .int (nI v))]) (st' := [.ref b]) [.aload_n 0] (by decide +kernel) rfl ?_
  refine zV_roU (x := yJ5_isLatin1_aae02) (y2 := yJ5_isLatin1_aae02) (owner := RJ5) (C := RJ4) (idx := 83) (As := []) (rest := []) (ci := 13) (N := 4) (T := TJ4) (fs := (sbC vb (sbEns (sb.1 + (dec v).length) sb).2.2.1 sb.1)) (b0 := cJ5_isLatin1_aae02) (m0 := 1) (r0 := some .boolean) (fun Q2 hQ2 => cs_isLatin1 s0 D cB cI cJ cD b vb _ _ h1 hQ2) oJ5_isLatin1 (Or.inr h1) rfl (zT_mem 804 (by decide +kernel) rfl) (zT_mem 806 (by decide +kernel) rfl) (zT_mem 805 (by decide +kernel) rfl) (zT_mem 807 (by decide +kernel) rfl) (zT_mem 805 (by decide +kernel) rfl) (zT_mem 808 (by decide +kernel) rfl) ⟨(by decide +kernel), (by decide +kernel), (by decide +kernel)⟩ rfl rfl (Nat.le_of_ble_eq_true rfl) ⟨by decide, by decide⟩ (by decide +kernel) ?_
  refine zV_eq (st2 := [.int (zb true)]) rfl rfl rfl rfl ?_
  refine zV_bif_eq (tgt := 37) (off := 16) (by decide +kernel) (by decide) (fun q => absurd rfl q) (fun _ => ?_)
  refine zV_blk (pc' := 27) (lo' := [(3, .int (nI (sb.1 + (dec v).length))), (2, .int (nI sb.1)), (0, .ref b), (1, .int (nI v))]) (st' := [.ref b, .int (nI (sb.1 + (dec v).length)), .int (nI v)]) [.iload_n 1, .iload_n 3, .aload_n 0] (by decide +kernel) rfl ?_
  refine zV_get (ci := 13) (idx := 15) (k := 0) (N := 4) (fs := (sbC vb (sbEns (sb.1 + (dec v).length) sb).2.2.1 sb.1)) (v := .ref vb) (Or.inr h1) rfl z_inJ4 (by decide) (zT_mem 141 (by decide +kernel) rfl) rfl (by decide +kernel) ?_
  refine zV_callS (idx := 248) (As := [.int (nI v), .int (nI (sb.1 + (dec v).length)), .ref vb]) (rest := []) (cs_getChars s0 D cB cI cJ cD vb _ v (sb.1 + (dec v).length) _ (Q := fun v' hi' hm' nx' => ∃ r, v' = some (.int r) ∧ hi = hi' ∧ va_up hm2 vb (some (.inl (cB, (sbEns (sb.1 + (dec v).length) sb).2.1, .inl (va_cpy (fun j => (dec v).getD j 0) (sbEns (sb.1 + (dec v).length) sb).2.2.2 0 (sb.1 + (dec v).length - (dec v).length) (dec v).length)))) = hm') h2 ⟨hv, k4, k2⟩ (by omega) (fun r nx' => ⟨r, rfl, rfl, rfl⟩)) oJ6_getChars (zT_mem 902 (by decide +kernel) rfl) (zT_mem 903 (by decide +kernel) rfl) rfl rfl (Nat.le_of_ble_eq_true rfl) ⟨by decide, by decide⟩ ⟨Nat.zero_le _, Nat.zero_le _⟩ (by decide +kernel) ?_
  rintro _ _ _ nx3 ⟨r, rfl, rfl, rfl⟩
  rw [Nat.add_sub_cancel]
  refine zV_eq (st2 := [.int r]) rfl rfl rfl rfl ?_
  obtain ⟨⟨vb2, j1, j2, j3, j4, j5⟩, hF3⟩ := bW.arr (g := va_cpy (fun j => (dec v).getD j 0) (sbEns (sb.1 + (dec v).length) sb).2.2.2 0 sb.1 (dec v).length) h1 h2 h3 h4 h5
  generalize va_up hm2 vb _ = hm3 at j1 j2 j5 hF3 ⊢
  refine zV_blk (pc' := 34) (lo' := [(3, .int (nI (sb.1 + (dec v).length))), (2, .int (nI sb.1)), (0, .ref b), (1, .int (nI v))]) (st' := []) [.pop] (by decide +kernel) rfl ?_
  refine zV_goto (tgt := 48) (off := 14) (by decide +kernel) (by decide) ?_
  refine zV_blk (pc' := 50) (lo' := [(3, .int (nI (sb.1 + (dec v).length))), (2, .int (nI sb.1)), (0, .ref b), (1, .int (nI v))]) (st' := [.int (nI (sb.1 + (dec v).length)), .ref b]) [.aload_n 0, .iload_n 3] (by decide +kernel) rfl ?_
  refine zV_put (ci := 13) (idx := 79) (k := 3) (N := 4) (fs := sbC vb2 (sbEns (sb.1 + (dec v).length) sb).2.2.1 sb.1) tyJ4 j1 rfl z_inJ4 tyJ4_ok nmJ4 (by decide) (zT_mem 144 (by decide +kernel) rfl) rfl rfl rfl rfl (by show 3 < 4; decide) (by decide +kernel) ?_
  obtain ⟨hW4, hF4⟩ := bW.put (fl' := (sbEns (sb.1 + (dec v).length) sb).2.2.1) (n' := sb.1 + (dec v).length) j1 j2 j3 j4 j5
  refine zV_blk (pc' := 54) (lo' := [(3, .int (nI (sb.1 + (dec v).length))), (2, .int (nI sb.1)), (0, .ref b), (1, .int (nI v))]) (st' := [.ref b]) [.aload_n 0] (by decide +kernel) rfl ?_
  exact zV_aret rfl (Or.inl ⟨_, rfl⟩) (Or.inr ⟨_, rfl⟩) (by decide +kernel) (hQ _ _ hW4 ((hF2.tr hF3).tr hF4))
theorem oJ4_appendI : zO yJ4_append_bf812 cJ4_append_bf812 2 (some (.object "java/lang/StringBuilder")) 1 := ⟨zT_mem 895 (by decide +kernel) rfl, (zT_mem 91 (by decide +kernel) rfl), (by decide +kernel), (by decide +kernel), (by decide +kernel)⟩
set_option maxRecDepth 100000 in
theorem cs_appendI (s0 : State) (D : va_G) (cB cI cJ cD : ClassId) (X : Nat → Prop) (b : Nat) (sb : vSB) (v : Nat) {hi hm : zHp} {nx : Nat} {Q : Option Value → zHp → zHp → Nat → Prop} (hW : bW X cB b sb hm) (hok : sbOk sb) (hl : sb.1 + (dec v).length ≤ 2400) (hv : v < 10 ^ 7) (hQ : ∀ hm' nx', bW X cB b (sbPut sb (dec v)) hm' → lFr X hm hm' → Q (some (.ref b)) hi hm' nx') : zM s0 D (zty cB cI cJ cD) yJ4_append_bf812 cJ4_append_bf812 2 (some (.object "java/lang/StringBuilder")) 5 127 (sbPhi sb.2.1 - sbPhi (sbPut sb (dec v)).2.1) (sbPhi sb.2.1 - sbPhi (sbPut sb (dec v)).2.1) [.ref b, .int (nI v)] hi hm nx Q := by
  refine zM_ofF (by decide +kernel) (Nat.le_of_ble_eq_true rfl) ?_
  refine zV_eq (lo2 := [(0, .ref b), (1, .int (nI v))]) rfl rfl rfl rfl ?_
  refine zV_blk (pc' := 2) (lo' := [(0, .ref b), (1, .int (nI v))]) (st' := [.int (nI v), .ref b]) [.aload_n 0, .iload_n 1] (by decide +kernel) rfl ?_
  obtain ⟨vb, h1, h2, h3, h4, h5⟩ := id hW
  refine zV_callSU (idx := 53) (As := [.int (nI v)]) (rest := []) (C := RJ4) (T := TJ4) (N := 4) (cs_appendI5 s0 D cB cI cJ cD X b sb v (Q := fun v' hi' hm' nx' => v' = some (.ref b) ∧ hi = hi' ∧ bW X cB b (sbPut sb (dec v)) hm' ∧ lFr X hm hm') hW hok hl hv (fun hm' nx' g1 g2 => ⟨rfl, rfl, g1, g2⟩)) oJ5_appendI (Or.inr h1) rfl (zT_mem 896 (by decide +kernel) rfl) (zT_mem 2099 (by decide +kernel) rfl) (zT_mem 153 (by decide +kernel) rfl) (zT_mem 897 (by decide +kernel) rfl) (by decide +kernel) (by decide +kernel) rfl rfl (Nat.le_of_ble_eq_true rfl) ⟨by decide, by decide⟩ ⟨Nat.le_refl _, Nat.le_refl _⟩ (by decide +kernel) ?_
  rintro _ _ hm2 nx2 ⟨rfl, rfl, g1, g2⟩
  refine zV_eq (st2 := [.ref b]) rfl rfl rfl rfl ?_
  refine zV_blk (pc' := 7) (lo' := [(0, .ref b), (1, .int (nI v))]) (st' := [.ref b]) [.pop, .aload_n 0] (by decide +kernel) rfl ?_
  exact zV_aret rfl (Or.inl ⟨_, rfl⟩) (Or.inr ⟨_, rfl⟩) (by decide +kernel) (hQ _ _ g1 g2)
def sbZero (sb : vSB) : vSB := (0, sb.2.1, if sb.1 = 0 then sb.2.2.1 else 1, sb.2.2.2)
theorem sbZero_ok {sb : vSB} (h : sbOk sb) : sbOk (sbZero sb) := ⟨Nat.zero_le _, h.2.1, h.2.2⟩
theorem sbEns_0 (sb : vSB) : sbEns 0 sb = sb := by unfold sbEns; rw [if_pos (Nat.zero_le _)]
theorem oJ5_setLength : zO yJ5_setLength_d00df cJ5_setLength_d00df 2 none 1 := ⟨zT_mem 772 (by decide +kernel) rfl, (zT_mem 90 (by decide +kernel) rfl), (by decide +kernel), (by decide +kernel), (by decide +kernel)⟩
set_option maxRecDepth 100000 in
theorem cs_setLength5 (s0 : State) (D : va_G) (cB cI cJ cD : ClassId) (X : Nat → Prop) (b : Nat) (sb : vSB) {hi hm : zHp} {nx : Nat} {Q : Option Value → zHp → zHp → Nat → Prop} (hW : bW X cB b sb hm) (hok : sbOk sb) (hQ : ∀ hm' nx', bW X cB b (sbZero sb) hm' → lFr X hm hm' → Q none hi hm' nx') : zM s0 D (zty cB cI cJ cD) yJ5_setLength_d00df cJ5_setLength_d00df 2 none 4 104 0 0 [.ref b, .int (nI 0)] hi hm nx Q := by
  refine zM_ofF (by decide +kernel) (Nat.le_of_ble_eq_true rfl) ?_
  refine zV_eq (lo2 := [(0, .ref b), (1, .int (nI 0))]) rfl rfl rfl rfl ?_
  refine zV_blk (pc' := 1) (lo' := [(0, .ref b), (1, .int (nI 0))]) (st' := [.int (nI 0)]) [.iload_n 1] (by decide +kernel) rfl ?_
  refine zV_if_ge (tgt := 13) (off := 12) (by decide +kernel) (by decide) (fun _ => ?_) (fun q => absurd (nI_pos' (by decide)) q)
  refine zV_blk (pc' := 15) (lo' := [(0, .ref b), (1, .int (nI 0))]) (st' := [.int (nI 0), .ref b]) [.aload_n 0, .iload_n 1] (by decide +kernel) rfl ?_
  obtain ⟨vb, h1, h2, h3, h4, h5⟩ := id hW
  refine zV_callP (idx := 100) (As := [.int (nI 0)]) (rest := []) (C := RJ4) (T := TJ4) (N := 4) (cs_ens s0 D cB cI cJ cD X b 0 sb (Q := fun v' hi' hm' nx' => v' = none ∧ hi = hi' ∧ bW X cB b sb hm' ∧ lFr X hm hm') hW hok (by decide) (fun hm' nx' g1 g2 => ⟨rfl, rfl, by rw [sbEns_0] at g1; exact g1, g2⟩)) oJ5_ens (Or.inr h1) rfl (zT_mem 773 (by decide +kernel) rfl) (zT_mem 2092 (by decide +kernel) rfl) (zT_mem 124 (by decide +kernel) rfl) (List.mem_of_getElem? (i := 774) (by decide +kernel)) (zT_mem 775 (by decide +kernel) rfl) ⟨(by decide +kernel), (by decide +kernel), (by decide +kernel)⟩ rfl rfl (Nat.le_of_ble_eq_true rfl) ⟨by decide, by decide⟩ ⟨by rw [sbEns_0, Nat.sub_self]; exact Nat.zero_le _, by rw [sbEns_0, Nat.sub_self]; exact Nat.zero_le _⟩ (by decide +kernel) ?_
  clear h1 h2 h3 h4 h5
  clear vb
  rintro _ _ hm2 nx2 ⟨rfl, rfl, hW2, hF2⟩
  obtain ⟨vb, h1, h2, h3, h4, h5⟩ := hW2
  refine zV_eq (st2 := []) rfl rfl rfl rfl ?_
  obtain ⟨o1, o2, o3⟩ := id hok
  refine zV_blk (pc' := 19) (lo' := [(0, .ref b), (1, .int (nI 0))]) (st' := [.ref b]) [.aload_n 0] (by decide +kernel) rfl ?_
  refine zV_get (ci := 13) (idx := 79) (k := 3) (N := 4) (fs := (sbC vb sb.2.2.1 sb.1)) (v := .int (nI sb.1)) (Or.inr h1) rfl z_inJ4 (by decide) (zT_mem 144 (by decide +kernel) rfl) rfl (by decide +kernel) ?_
  refine zV_blk (pc' := 23) (lo' := [(0, .ref b), (1, .int (nI 0))]) (st' := [.int (nI 0), .int (nI sb.1)]) [.iload_n 1] (by decide +kernel) rfl ?_
  refine zV_icmp_ge (tgt := 63) (off := 40) (by decide +kernel) (by decide) (fun _ => ?_) (fun q => absurd (nI_le (Nat.zero_le _) (by omega)) q)
  refine zV_blk (pc' := 64) (lo' := [(0, .ref b), (1, .int (nI 0))]) (st' := [.ref b]) [.aload_n 0] (by decide +kernel) rfl ?_
  refine zV_get (ci := 13) (idx := 79) (k := 3) (N := 4) (fs := (sbC vb sb.2.2.1 sb.1)) (v := .int (nI sb.1)) (Or.inr h1) rfl z_inJ4 (by decide) (zT_mem 144 (by decide +kernel) rfl) rfl (by decide +kernel) ?_
  refine zV_blk (pc' := 68) (lo' := [(0, .ref b), (1, .int (nI 0))]) (st' := [.int (nI 0), .int (nI sb.1)]) [.iload_n 1] (by decide +kernel) rfl ?_
  refine zV_icmp_le (tgt := 76) (off := 8) (by decide +kernel) (by decide) (fun q => ?_) (fun q => ?_)
  · rw [nI_leI (by omega) (by decide)] at q
    have e0 : sbZero sb = (0, sb.2.1, sb.2.2.1, sb.2.2.2) := by unfold sbZero; rw [if_pos (by omega)]
    refine zV_blk (pc' := 78) (lo' := [(0, .ref b), (1, .int (nI 0))]) (st' := [.int (nI 0), .ref b]) [.aload_n 0, .iload_n 1] (by decide +kernel) rfl ?_
    refine zV_put (ci := 13) (idx := 79) (k := 3) (N := 4) (fs := sbC vb sb.2.2.1 sb.1) tyJ4 h1 rfl z_inJ4 tyJ4_ok nmJ4 (by decide) (zT_mem 144 (by decide +kernel) rfl) rfl rfl rfl rfl (by show 3 < 4; decide) (by decide +kernel) ?_
    obtain ⟨hW4, hF4⟩ := bW.put (fl' := sb.2.2.1) (n' := 0) h1 h2 h3 h4 h5
    rw [e0] at hQ
    exact zV_vret rfl (by decide +kernel) (hQ _ _ hW4 (hF2.tr hF4))
  · rw [nI_leI (by omega) (by decide)] at q
    have e0 : sbZero sb = (0, sb.2.1, 1, sb.2.2.2) := by unfold sbZero; rw [if_neg (by omega)]
    refine zV_blk (pc' := 73) (lo' := [(0, .ref b), (1, .int (nI 0))]) (st' := [.int 1, .ref b]) [.aload_n 0, .iconst 1] (by decide +kernel) rfl ?_
    refine zV_put (ci := 13) (idx := 73) (k := 2) (N := 4) (fs := sbC vb sb.2.2.1 sb.1) tyJ4 h1 rfl z_inJ4 tyJ4_ok nmJ4 (by decide) (zT_mem 143 (by decide +kernel) rfl) rfl rfl rfl rfl (by show 2 < 4; decide) (by decide +kernel) ?_
    obtain ⟨⟨vb2, j1, j2, j3, j4, j5⟩, hF3⟩ := bW.put (fl' := 1) (n' := sb.1) h1 h2 h3 h4 h5
    show zV _ _ _ _ _ _ _ _ _ _ _ _ _ _ _ (va_up hm2 b (some (.inr (13, sbC vb 1 sb.1)))) _ _
    generalize va_up hm2 b _ = hm3 at j1 j2 j5 hF3 ⊢
    clear h1 h2
    refine zV_blk (pc' := 78) (lo' := [(0, .ref b), (1, .int (nI 0))]) (st' := [.int (nI 0), .ref b]) [.aload_n 0, .iload_n 1] (by decide +kernel) rfl ?_
    refine zV_put (ci := 13) (idx := 79) (k := 3) (N := 4) (fs := sbC vb2 1 sb.1) tyJ4 j1 rfl z_inJ4 tyJ4_ok nmJ4 (by decide) (zT_mem 144 (by decide +kernel) rfl) rfl rfl rfl rfl (by show 3 < 4; decide) (by decide +kernel) ?_
    obtain ⟨hW4, hF4⟩ := bW.put (fl' := 1) (n' := 0) j1 j2 j3 j4 j5
    rw [e0] at hQ
    exact zV_vret rfl (by decide +kernel) (hQ _ _ hW4 ((hF2.tr hF3).tr hF4))
theorem oJ4_setLength : zO yJ4_setLength_d00df cJ4_setLength_d00df 2 none 1 := ⟨zT_mem 769 (by decide +kernel) rfl, (zT_mem 91 (by decide +kernel) rfl), (by decide +kernel), (by decide +kernel), (by decide +kernel)⟩
set_option maxRecDepth 100000 in
theorem cs_setLength (s0 : State) (D : va_G) (cB cI cJ cD : ClassId) (X : Nat → Prop) (b : Nat) (sb : vSB) {hi hm : zHp} {nx : Nat} {Q : Option Value → zHp → zHp → Nat → Prop} (hW : bW X cB b sb hm) (hok : sbOk sb) (hQ : ∀ hm' nx', bW X cB b (sbZero sb) hm' → lFr X hm hm' → Q none hi hm' nx') : zM s0 D (zty cB cI cJ cD) yJ4_setLength_d00df cJ4_setLength_d00df 2 none 5 125 0 0 [.ref b, .int (nI 0)] hi hm nx Q := by
  refine zM_ofF (by decide +kernel) (Nat.le_of_ble_eq_true rfl) ?_
  refine zV_eq (lo2 := [(0, .ref b), (1, .int (nI 0))]) rfl rfl rfl rfl ?_
  refine zV_blk (pc' := 2) (lo' := [(0, .ref b), (1, .int (nI 0))]) (st' := [.int (nI 0), .ref b]) [.aload_n 0, .iload_n 1] (by decide +kernel) rfl ?_
  obtain ⟨vb, h1, h2, h3, h4, h5⟩ := id hW
  refine zV_callSU (idx := 333) (As := [.int (nI 0)]) (rest := []) (C := RJ4) (T := TJ4) (N := 4) (cs_setLength5 s0 D cB cI cJ cD X b sb (Q := fun v' hi' hm' nx' => v' = none ∧ hi = hi' ∧ bW X cB b (sbZero sb) hm' ∧ lFr X hm hm') hW hok (fun hm' nx' g1 g2 => ⟨rfl, rfl, g1, g2⟩)) oJ5_setLength (Or.inr h1) rfl (zT_mem 770 (by decide +kernel) rfl) (zT_mem 2091 (by decide +kernel) rfl) (zT_mem 153 (by decide +kernel) rfl) (zT_mem 771 (by decide +kernel) rfl) (by decide +kernel) (by decide +kernel) rfl rfl (Nat.le_of_ble_eq_true rfl) ⟨by decide, by decide⟩ ⟨Nat.zero_le _, Nat.zero_le _⟩ (by decide +kernel) ?_
  rintro _ _ hm2 nx2 ⟨rfl, rfl, g1, g2⟩
  refine zV_eq (st2 := []) rfl rfl rfl rfl ?_
  exact zV_vret rfl (by decide +kernel) (hQ _ _ g1 g2)
theorem oJ4_length : zO yJ4_length_8abf5 cJ4_length_8abf5 1 (some .int) 0 := ⟨zT_mem 987 (by decide +kernel) rfl, (zT_mem 91 (by decide +kernel) rfl), (by decide +kernel), (by decide +kernel), (by decide +kernel)⟩
set_option maxRecDepth 100000 in
theorem cs_length (s0 : State) (D : va_G) (cB cI cJ cD : ClassId) (X : Nat → Prop) (b : Nat) (sb : vSB) {hi hm : zHp} {nx : Nat} {Q : Option Value → zHp → zHp → Nat → Prop} (hW : bW X cB b sb hm) (hQ : Q (some (.int (nI sb.1))) hi hm nx) : zM s0 D (zty cB cI cJ cD) yJ4_length_8abf5 cJ4_length_8abf5 1 (some .int) 1 20 0 0 [.ref b] hi hm nx Q := by
  refine zM_ofF (by decide +kernel) (Nat.le_of_ble_eq_true rfl) ?_
  refine zV_eq (lo2 := [(0, .ref b)]) rfl rfl rfl rfl ?_
  refine zV_blk (pc' := 1) (lo' := [(0, .ref b)]) (st' := [.ref b]) [.aload_n 0] (by decide +kernel) rfl ?_
  obtain ⟨vb, h1, h2, h3, h4, h5⟩ := id hW
  refine zV_callSU (idx := 343) (As := []) (rest := []) (C := RJ4) (T := TJ4) (N := 4) (cs_length5 s0 D cB cI cJ cD b vb sb.1 sb.2.2.1 (Q := fun v' hi' hm' nx' => v' = some (.int (nI sb.1)) ∧ hi = hi' ∧ hm = hm' ∧ nx = nx') h1 ⟨rfl, rfl, rfl, rfl⟩) oJ5_length (Or.inr h1) rfl (zT_mem 988 (by decide +kernel) rfl) (zT_mem 2101 (by decide +kernel) rfl) (zT_mem 153 (by decide +kernel) rfl) (zT_mem 989 (by decide +kernel) rfl) (by decide +kernel) (by decide +kernel) rfl rfl (Nat.le_of_ble_eq_true rfl) ⟨by decide, by decide⟩ ⟨Nat.zero_le _, Nat.zero_le _⟩ (by decide +kernel) ?_
  rintro _ _ _ _ ⟨rfl, rfl, rfl, rfl⟩
  refine zV_eq (st2 := [.int (nI sb.1)]) rfl rfl rfl rfl ?_
  exact zV_iret rfl (by decide +kernel) hQ
theorem oJ5_charAt : zO yJ5_charAt_5068e cJ5_charAt_5068e 5 (some .char) 1 := ⟨zT_mem 1001 (by decide +kernel) rfl, (zT_mem 90 (by decide +kernel) rfl), (by decide +kernel), (by decide +kernel), (by decide +kernel)⟩
set_option maxRecDepth 100000 in
theorem cs_charAt5 (s0 : State) (D : va_G) (cB cI cJ cD : ClassId) (X : Nat → Prop) (b : Nat) (sb : vSB) (i : Nat) {hi hm : zHp} {nx : Nat} {Q : Option Value → zHp → zHp → Nat → Prop} (hW : bW X cB b sb hm) (hok : sbOk sb) (hi1 : i < sb.1) (hQ : Q (some (.int (((sb.2.2.2 i &&& 255).toUInt32 % 65536).toInt32))) hi hm nx) : zM s0 D (zty cB cI cJ cD) yJ5_charAt_5068e cJ5_charAt_5068e 5 (some .char) 2 43 0 0 [.ref b, .int (nI i)] hi hm nx Q := by
  refine zM_ofF (by decide +kernel) (Nat.le_of_ble_eq_true rfl) ?_
  refine zV_eq (lo2 := [(0, .ref b), (1, .int (nI i))]) rfl rfl rfl rfl ?_
  obtain ⟨vb, h1, h2, h3, h4, h5⟩ := id hW
  obtain ⟨o1, o2, o3⟩ := id hok
  refine zV_blk (pc' := 1) (lo' := [(0, .ref b), (1, .int (nI i))]) (st' := [.ref b]) [.aload_n 0] (by decide +kernel) rfl ?_
  refine zV_get (ci := 13) (idx := 22) (k := 1) (N := 4) (fs := (sbC vb sb.2.2.1 sb.1)) (v := .int 0) (Or.inr h1) rfl z_inJ4 (by decide) (zT_mem 142 (by decide +kernel) rfl) rfl (by decide +kernel) ?_
  refine zV_blk (pc' := 6) (lo' := [(2, .int 0), (0, .ref b), (1, .int (nI i))]) (st' := [.ref b]) [.istore_n 2, .aload_n 0] (by decide +kernel) rfl ?_
  refine zV_get (ci := 13) (idx := 15) (k := 0) (N := 4) (fs := (sbC vb sb.2.2.1 sb.1)) (v := .ref vb) (Or.inr h1) rfl z_inJ4 (by decide) (zT_mem 141 (by decide +kernel) rfl) rfl (by decide +kernel) ?_
  refine zV_blk (pc' := 11) (lo' := [(3, .ref vb), (2, .int 0), (0, .ref b), (1, .int (nI i))]) (st' := [.ref b]) [.astore_n 3, .aload_n 0] (by decide +kernel) rfl ?_
  refine zV_get (ci := 13) (idx := 79) (k := 3) (N := 4) (fs := (sbC vb sb.2.2.1 sb.1)) (v := .int (nI sb.1)) (Or.inr h1) rfl z_inJ4 (by decide) (zT_mem 144 (by decide +kernel) rfl) rfl (by decide +kernel) ?_
  refine zV_blk (pc' := 15) (lo' := [(3, .ref vb), (2, .int 0), (0, .ref b), (1, .int (nI i))]) (st' := [.ref vb, .int (nI sb.1)]) [.aload_n 3] (by decide +kernel) rfl ?_
  refine zV_alen 0 (Or.inr h2) rfl (by decide +kernel) ?_
  refine zV_blk (pc' := 17) (lo' := [(3, .ref vb), (2, .int 0), (0, .ref b), (1, .int (nI i))]) (st' := [.int 0, .int (nI sb.2.1), .int (nI sb.1)]) [.iload_n 2] (by decide +kernel) rfl ?_
  refine zV_blk (pc' := 18) (lo' := [(3, .ref vb), (2, .int 0), (0, .ref b), (1, .int (nI i))]) (st' := [.int (nI sb.2.1 >>> ((0 : Int32) &&& 31)), .int (nI sb.1)]) [.ishr] (by decide +kernel) rfl ?_
  refine zV_eq (st2 := [.int (nI sb.2.1), .int (nI sb.1)]) rfl rfl (by rw [sb_shr0]) rfl ?_
  have e1 : j_minI (nI sb.1) (nI sb.2.1) = some (nI sb.1) := by unfold j_minI; rw [if_neg (nI_nlt (by omega) (by omega))]
  refine zV_roS (idx := 138) (rest := []) (fun Q2 hQ2 => cj_minI s0 D cB cI cJ cD (nI sb.1) (nI sb.2.1) (nI sb.1) e1 hQ2) oJ9_min_7cf53 (zT_mem 1002 (by decide +kernel) rfl) (zT_mem 225 (by decide +kernel) rfl) rfl rfl (Nat.le_of_ble_eq_true rfl) ⟨by decide, by decide⟩ (by decide +kernel) ?_
  refine zV_blk (pc' := 26) (lo' := [(4, .int (nI sb.1)), (3, .ref vb), (2, .int 0), (0, .ref b), (1, .int (nI i))]) (st' := [.int (nI sb.1), .int (nI i)]) [.istore 4, .iload_n 1, .iload 4] (by decide +kernel) rfl ?_
  refine zV_voS (idx := 144) (As := [.int (nI i), .int (nI sb.1)]) (rest := []) (fun Q2 hQ2 => cj_check s0 D (zty cB cI cJ cD) (nI i) (nI sb.1) (nI_pos (by omega)) (nI_lt hi1 (by omega)) hQ2) oJ0_checkIndex (zT_mem 1003 (by decide +kernel) rfl) (zT_mem 379 (by decide +kernel) rfl) rfl rfl (Nat.le_of_ble_eq_true rfl) ⟨by decide, by decide⟩ (by decide +kernel) ?_
  refine zV_blk (pc' := 30) (lo' := [(4, .int (nI sb.1)), (3, .ref vb), (2, .int 0), (0, .ref b), (1, .int (nI i))]) (st' := [.int 0]) [.iload_n 2] (by decide +kernel) rfl ?_
  refine zV_if_ne (tgt := 42) (off := 12) (by decide +kernel) (by decide) (fun q => absurd rfl q) (fun _ => ?_)
  refine zV_blk (pc' := 35) (lo' := [(4, .int (nI sb.1)), (3, .ref vb), (2, .int 0), (0, .ref b), (1, .int (nI i))]) (st' := [.int (nI i), .ref vb]) [.aload_n 3, .iload_n 1] (by decide +kernel) rfl ?_
  refine zV_bald 0 (Or.inr h2) rfl (nI_in (by omega) (by omega)) (by decide +kernel) ?_
  rw [nI_clamp (show i < 2 ^ 31 by omega)]
  refine zV_blk (pc' := 40) (lo' := [(4, .int (nI sb.1)), (3, .ref vb), (2, .int 0), (0, .ref b), (1, .int (nI i))]) (st' := [.int ((sb.2.2.2 i) &&& 255)]) [.sipush 255, .iand] (by decide +kernel) rfl ?_
  refine zV_i2c (by decide +kernel) ?_
  exact zV_cret rfl (z_nar _) (by decide +kernel) hQ
theorem oJ4_charAt : zO yJ4_charAt_5068e cJ4_charAt_5068e 2 (some .char) 1 := ⟨zT_mem 998 (by decide +kernel) rfl, (zT_mem 91 (by decide +kernel) rfl), (by decide +kernel), (by decide +kernel), (by decide +kernel)⟩
set_option maxRecDepth 100000 in
theorem cs_charAt (s0 : State) (D : va_G) (cB cI cJ cD : ClassId) (X : Nat → Prop) (b : Nat) (sb : vSB) (i : Nat) {hi hm : zHp} {nx : Nat} {Q : Option Value → zHp → zHp → Nat → Prop} (hW : bW X cB b sb hm) (hok : sbOk sb) (hi1 : i < sb.1) (hQ : Q (some (.int (((sb.2.2.2 i &&& 255).toUInt32 % 65536).toInt32))) hi hm nx) : zM s0 D (zty cB cI cJ cD) yJ4_charAt_5068e cJ4_charAt_5068e 2 (some .char) 3 67 0 0 [.ref b, .int (nI i)] hi hm nx Q := by
  refine zM_ofF (by decide +kernel) (Nat.le_of_ble_eq_true rfl) ?_
  refine zV_eq (lo2 := [(0, .ref b), (1, .int (nI i))]) rfl rfl rfl rfl ?_
  refine zV_blk (pc' := 2) (lo' := [(0, .ref b), (1, .int (nI i))]) (st' := [.int (nI i), .ref b]) [.aload_n 0, .iload_n 1] (by decide +kernel) rfl ?_
  obtain ⟨vb, h1, h2, h3, h4, h5⟩ := id hW
  refine zV_callSU (idx := 329) (As := [.int (nI i)]) (rest := []) (C := RJ4) (T := TJ4) (N := 4) (cs_charAt5 s0 D cB cI cJ cD X b sb i (Q := fun v' hi' hm' nx' => v' = some (.int (((sb.2.2.2 i &&& 255).toUInt32 % 65536).toInt32)) ∧ hi = hi' ∧ hm = hm' ∧ nx = nx') hW hok hi1 ⟨rfl, rfl, rfl, rfl⟩) oJ5_charAt (Or.inr h1) rfl (zT_mem 999 (by decide +kernel) rfl) (zT_mem 2102 (by decide +kernel) rfl) (zT_mem 153 (by decide +kernel) rfl) (zT_mem 1000 (by decide +kernel) rfl) (by decide +kernel) (by decide +kernel) rfl rfl (Nat.le_of_ble_eq_true rfl) ⟨by decide, by decide⟩ ⟨Nat.zero_le _, Nat.zero_le _⟩ (by decide +kernel) ?_
  rintro _ _ _ _ ⟨rfl, rfl, rfl, rfl⟩
  refine zV_eq (st2 := [.int (((sb.2.2.2 i &&& 255).toUInt32 % 65536).toInt32)]) rfl rfl rfl rfl ?_
  exact zV_cret rfl (z_nar _) (by decide +kernel) hQ
theorem oJ5_init : zO yJ5_init_d00df cJ5_init_d00df 2 none 1 := ⟨zT_mem 130 (by decide +kernel) rfl, (zT_mem 90 (by decide +kernel) rfl), (by decide +kernel), (by decide +kernel), (by decide +kernel)⟩
set_option maxRecDepth 100000 in
theorem cs_init5 (s0 : State) (D : va_G) (cB cI cJ cD : ClassId) (b : Nat) {hi hm : zHp} {nx : Nat} {Q : Option Value → zHp → zHp → Nat → Prop} (hS : hm b = some (.inr (13, [.null, .int 0, .int 0, .int 0]))) (hQ : ∀ hm' nx' vb, hm vb = none → hm' b = some (.inr (13, sbC vb 0 0)) → hm' vb = some (.inl (cB, 16, .inl (fun _ => 0))) → (∀ q, q ≠ b → q ≠ vb → hm' q = hm q) → Q none hi hm' nx') : zM s0 D (zty cB cI cJ cD) yJ5_init_d00df cJ5_init_d00df 2 none 1 20 1 16 [.ref b, .int 16] hi hm nx Q := by
  refine zM_ofF (by decide +kernel) (Nat.le_of_ble_eq_true rfl) ?_
  refine zV_eq (lo2 := [(0, .ref b), (1, .int 16)]) rfl rfl rfl rfl ?_
  refine zV_blk (pc' := 1) (lo' := [(0, .ref b), (1, .int 16)]) (st' := [.ref b]) [.aload_n 0] (by decide +kernel) rfl ?_
  refine zV_objInit (idx := 3) (zT_mem 131 (by decide +kernel) rfl) (zT_mem 119 (by decide +kernel) rfl) (zT_mem 120 (by decide +kernel) rfl) (by decide) (Nat.le_of_ble_eq_true rfl) (by decide +kernel) ?_
  refine zV_stat (idx := 18) (C := "java/lang/String") (nm := "COMPACT_STRINGS") (d := "Z") (v := 1) (List.mem_of_getElem? (i := 133) (by decide +kernel)) (List.mem_of_getElem? (i := 92) (by decide +kernel)) (zFl_at 4 (by decide +kernel)) (zT_mem 132 (by decide +kernel) rfl) (by decide +kernel) ?_
  refine zV_if_eq (tgt := 25) (off := 18) (by decide +kernel) (by decide) (fun q => absurd q (by decide +kernel)) (fun _ => ?_)
  refine zV_blk (pc' := 12) (lo' := [(0, .ref b), (1, .int 16)]) (st' := [.int 16, .ref b]) [.aload_n 0, .iload_n 1] (by decide +kernel) rfl ?_
  refine zV_newB (mc := 0) (ms := 0) (n := 16) (N := 16) (zT_mem 154 (by decide +kernel) rfl) (by decide) (by decide) (by decide) (by decide +kernel) (fun _ hn => ?_)
  have nbx : b ≠ nx := fun e => by subst e; rw [hn] at hS; cases hS
  have hS1 : va_up hm nx (some (.inl (cB, 16, .inl (fun _ => 0)))) b = some (.inr (13, [.null, .int 0, .int 0, .int 0])) := zUn nbx hS
  refine zV_put (ci := 13) (idx := 15) (k := 0) (N := 4) (fs := [.null, .int 0, .int 0, .int 0]) tyJ4 hS1 rfl z_inJ4 tyJ4_ok nmJ4 (by decide) (zT_mem 141 (by decide +kernel) rfl) rfl rfl rfl rfl (by show 0 < 4; decide) (by decide +kernel) ?_
  refine zV_blk (pc' := 19) (lo' := [(0, .ref b), (1, .int 16)]) (st' := [.int 0, .ref b]) [.aload_n 0, .iconst 0] (by decide +kernel) rfl ?_
  refine zV_put (ci := 13) (idx := 22) (k := 1) (N := 4) (fs := [.ref nx, .int 0, .int 0, .int 0]) tyJ4 zUe rfl z_inJ4 tyJ4_ok nmJ4 (by decide) (zT_mem 142 (by decide +kernel) rfl) rfl rfl rfl rfl (by show 1 < 4; decide) (by decide +kernel) ?_
  refine zV_goto (tgt := 38) (off := 16) (by decide +kernel) (by decide) ?_
  refine zV_vret rfl (by decide +kernel) (hQ _ _ nx hn zUe (zUn nbx.symm (zUn nbx.symm zUe)) (fun q q1 q2 => by rw [zUn q1 rfl, zUn q1 rfl, zUn q2 rfl]))
theorem oJ4_init : zO yJ4_init_da8c8 cJ4_init_da8c8 1 none 0 := ⟨zT_mem 127 (by decide +kernel) rfl, (zT_mem 91 (by decide +kernel) rfl), (by decide +kernel), (by decide +kernel), (by decide +kernel)⟩
set_option maxRecDepth 100000 in
theorem cs_init (s0 : State) (D : va_G) (cB cI cJ cD : ClassId) (b : Nat) {hi hm : zHp} {nx : Nat} {Q : Option Value → zHp → zHp → Nat → Prop} (hS : hm b = some (.inr (13, [.null, .int 0, .int 0, .int 0]))) (hQ : ∀ hm' nx' vb, hm vb = none → hm' b = some (.inr (13, sbC vb 0 0)) → hm' vb = some (.inl (cB, 16, .inl (fun _ => 0))) → (∀ q, q ≠ b → q ≠ vb → hm' q = hm q) → Q none hi hm' nx') : zM s0 D (zty cB cI cJ cD) yJ4_init_da8c8 cJ4_init_da8c8 1 none 2 41 1 16 [.ref b] hi hm nx Q := by
  refine zM_ofF (by decide +kernel) (Nat.le_of_ble_eq_true rfl) ?_
  refine zV_eq (lo2 := [(0, .ref b)]) rfl rfl rfl rfl ?_
  refine zV_blk (pc' := 3) (lo' := [(0, .ref b)]) (st' := [.int 16, .ref b]) [.aload_n 0, .bipush 16] (by decide +kernel) rfl ?_
  refine zV_callI (idx := 1) (As := [.int 16]) (rest := []) (cs_init5 s0 D cB cI cJ cD b (Q := fun v' hi' hm' nx' => v' = none ∧ hi = hi' ∧ ∃ vb, hm vb = none ∧ hm' b = some (.inr (13, sbC vb 0 0)) ∧ hm' vb = some (.inl (cB, 16, .inl (fun _ => 0))) ∧ ∀ q, q ≠ b → q ≠ vb → hm' q = hm q) hS (fun hm' nx' vb g1 g2 g3 g4 => ⟨rfl, rfl, vb, g1, g2, g3, g4⟩)) oJ5_init rfl (zT_mem 128 (by decide +kernel) rfl) (zT_mem 129 (by decide +kernel) rfl) rfl rfl (Nat.le_of_ble_eq_true rfl) ⟨by decide, by decide⟩ ⟨Nat.le_refl _, Nat.le_refl _⟩ (by decide +kernel) ?_
  rintro _ _ hm2 nx2 ⟨rfl, rfl, vb, g1, g2, g3, g4⟩
  refine zV_eq (st2 := []) rfl rfl rfl rfl ?_
  exact zV_vret rfl (by decide +kernel) (hQ _ _ vb g1 g2 g3 g4)
