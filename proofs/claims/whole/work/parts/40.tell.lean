/-! ===== what a design tells: pieces of text, one behind the other ===== -/
def bApps : vSB → List (List Int32) → Option vSB
  | sb, [] => some sb
  | sb, l :: ps => if sb.1 + l.length ≤ 2400 then bApps (sbPut sb l) ps else none
theorem bApps_cons {sb x : vSB} {l : List Int32} {ps : List (List Int32)} (h : bApps sb (l :: ps) = some x) : sb.1 + l.length ≤ 2400 ∧ bApps (sbPut sb l) ps = some x := by
  rw [bApps] at h
  by_cases c : sb.1 + l.length ≤ 2400
  · rw [if_pos c] at h; exact ⟨c, h⟩
  · rw [if_neg c] at h; cases h
theorem bApps_app : ∀ (ps qs : List (List Int32)) (sb : vSB), bApps sb (ps ++ qs) = (bApps sb ps).bind (fun s => bApps s qs)
  | [], qs, sb => rfl
  | l :: ps, qs, sb => by
    rw [List.cons_append, bApps, bApps]
    by_cases c : sb.1 + l.length ≤ 2400
    · rw [if_pos c, if_pos c, bApps_app ps qs]
    · rw [if_neg c, if_neg c]; rfl
theorem sbPut_cap {sb : vSB} {l : List Int32} : sb.2.1 ≤ (sbPut sb l).2.1 := by
  show sb.2.1 ≤ (sbEns (sb.1 + l.length) sb).2.1
  unfold sbEns
  split
  · exact Nat.le_refl _
  · exact sbGrow_le.1
theorem bApps_mono : ∀ (ps : List (List Int32)) (sb x : vSB), bApps sb ps = some x → sb.2.1 ≤ x.2.1
  | [], sb, x, h => by cases h; exact Nat.le_refl _
  | l :: ps, sb, x, h => Nat.le_trans sbPut_cap (bApps_mono ps _ x (bApps_cons h).2)
def sbRho (sb x : vSB) : Nat := sbPhi sb.2.1 - sbPhi x.2.1
theorem sbRho_step {a b c : vSB} (h1 : a.2.1 ≤ b.2.1) (h2 : b.2.1 ≤ c.2.1) : sbRho a b ≤ sbRho a c ∧ sbRho b c ≤ sbRho a c - sbRho a b := by
  have g1 := sbPhi_mono h1
  have g2 := sbPhi_mono h2
  unfold sbRho
  omega
def cW (X : Nat → Prop) (cB : ClassId) (b : Nat) (sb : vSB) (hm : zHp) : Prop := bW X cB b sb hm ∧ sbOk sb
def iOk (x : Int32) : Prop := ¬ x < 0 ∧ x.toNatClampNeg < 10 ^ 7
def decI (x : Int32) : List Int32 := dec x.toNatClampNeg
theorem iOk_eq {x : Int32} (h : iOk x) : x = nI x.toNatClampNeg := by
  obtain ⟨j, h1, rfl⟩ := nI_of h.1
  rw [nI_clamp h1]
theorem iOk_nI {n : Nat} (h : n < 10 ^ 7) : iOk (nI n) ∧ decI (nI n) = dec n := by
  unfold iOk decI
  rw [nI_clamp (by omega)]
  exact ⟨⟨nI_pos (by omega), h⟩, rfl⟩
section BT
variable {s0 : State} {D : va_G} {X : Nat → Prop} {cB cI cJ cD : ClassId} {b : Nat} {sb x : vSB} {l : List Int32} {ps : List (List Int32)}
variable {y : MethodName} {cc : ByteArray} {nL : Nat} {ret : Option FieldType} {rF rL pc : Nat} {lo : List (Nat × Value)} {st : List Value} {hi hm : zHp} {nx : Nat} {Q : Option Value → zHp → zHp → Nat → Prop} {idx : Nat}
theorem b_S {aw : Nat} (hW : cW X cB b sb hm) (h : bApps sb (l :: ps) = some x) (hs : iStr s0 aw l.length (fun j => l.getD j 0)) (hf : ∀ c ∈ l, fits .byte (.int c) = true) (hlink : Cond.methodLink y.cls idx yJ4_append_15ec4 ∈ zT) (hrest : (st.map fun v => v.category).sum ≤ 8) (hR : 5 + 1 ≤ rF ∧ 148 ≤ rL) (hd : decode cc pc = .ok (.invokevirtual idx, 3))
    (kk : ∀ hm' nx', bApps (sbPut sb l) ps = some x → cW X cB b (sbPut sb l) hm' → lFr X hm hm' → zV s0 D (zty cB cI cJ cD) y cc nL ret rF rL (sbRho (sbPut sb l) x) (sbRho (sbPut sb l) x) (pc + 3) lo (.ref b :: st) hi hm' nx' Q) : zV s0 D (zty cB cI cJ cD) y cc nL ret rF rL (sbRho sb x) (sbRho sb x) pc lo (.ref aw :: .ref b :: st) hi hm nx Q := by
  obtain ⟨hl, h2⟩ := bApps_cons h
  obtain ⟨g1, g2⟩ := sbRho_step (a := sb) (b := sbPut sb l) (c := x) sbPut_cap (bApps_mono _ _ _ h2)
  obtain ⟨vb, h1, -⟩ := id hW.1
  refine zV_callV (As := [.ref aw]) (rest := st) (cs_appendS s0 D cB cI cJ cD X b sb l aw (Q := fun v' hi' hm' nx' => v' = some (.ref b) ∧ hi = hi' ∧ bW X cB b (sbPut sb l) hm' ∧ lFr X hm hm') hW.1 hW.2 hl hs (fit_getD hf) (fun hm' nx' k1 k2 => ⟨rfl, rfl, k1, k2⟩)) oJ4_appendS (Or.inr h1) (T := TJ4) (N := 4) rfl hlink (zT_mem 832 (by decide +kernel) rfl) (zT_mem 833 (by decide +kernel) rfl) rfl rfl hrest ⟨by omega, by omega⟩ ⟨g1, g1⟩ hd ?_
  rintro _ _ hm2 nx2 ⟨rfl, rfl, k1, k2⟩
  exact zV_less g2 g2 (kk hm2 nx2 h2 ⟨k1, sbPut_ok hW.2 hl (fit_getD hf)⟩ k2)
theorem b_I {v : Int32} (hW : cW X cB b sb hm) (h : bApps sb (decI v :: ps) = some x) (hv : iOk v) (hlink : Cond.methodLink y.cls idx yJ4_append_bf812 ∈ zT) (hrest : (st.map fun v => v.category).sum ≤ 8) (hR : 5 + 1 ≤ rF ∧ 148 ≤ rL) (hd : decode cc pc = .ok (.invokevirtual idx, 3))
    (kk : ∀ hm' nx', bApps (sbPut sb (decI v)) ps = some x → cW X cB b (sbPut sb (decI v)) hm' → lFr X hm hm' → zV s0 D (zty cB cI cJ cD) y cc nL ret rF rL (sbRho (sbPut sb (decI v)) x) (sbRho (sbPut sb (decI v)) x) (pc + 3) lo (.ref b :: st) hi hm' nx' Q) : zV s0 D (zty cB cI cJ cD) y cc nL ret rF rL (sbRho sb x) (sbRho sb x) pc lo (.int v :: .ref b :: st) hi hm nx Q := by
  obtain ⟨hl, h2⟩ := bApps_cons h
  obtain ⟨g1, g2⟩ := sbRho_step (a := sb) (b := sbPut sb (decI v)) (c := x) sbPut_cap (bApps_mono _ _ _ h2)
  obtain ⟨vb, h1, -⟩ := id hW.1
  refine zV_callV (As := [.int v]) (rest := st) (Q2 := fun v' hi' hm' nx' => v' = some (.ref b) ∧ hi = hi' ∧ bW X cB b (sbPut sb (decI v)) hm' ∧ lFr X hm hm') (by
    have k := cs_appendI s0 D cB cI cJ cD X b sb v.toNatClampNeg (hi := hi) (hm := hm) (nx := nx) (Q := fun v' hi' hm' nx' => v' = some (.ref b) ∧ hi = hi' ∧ bW X cB b (sbPut sb (decI v)) hm' ∧ lFr X hm hm') hW.1 hW.2 hl hv.2 (fun hm' nx' k1 k2 => ⟨rfl, rfl, k1, k2⟩)
    rw [← iOk_eq hv] at k
    exact k) oJ4_appendI (Or.inr h1) (T := TJ4) (N := 4) rfl hlink (zT_mem 893 (by decide +kernel) rfl) (zT_mem 894 (by decide +kernel) rfl) rfl rfl hrest ⟨by omega, by omega⟩ ⟨g1, g1⟩ hd ?_
  rintro _ _ hm2 nx2 ⟨rfl, rfl, k1, k2⟩
  exact zV_less g2 g2 (kk hm2 nx2 h2 ⟨k1, sbPut_ok hW.2 hl (fit_getD (dec_fit _))⟩ k2)
theorem b_C {c : Int32} (hW : cW X cB b sb hm) (h : bApps sb ([c] :: ps) = some x) (hf : fits .byte (.int c) = true) (hc : ¬ (255 : Int32) < c) (hv : vp_nar .byte c.toInt8.toInt32 = c) (hlink : Cond.methodLink y.cls idx yJ4_append_cf468 ∈ zT) (hrest : (st.map fun v => v.category).sum ≤ 8) (hR : 5 + 1 ≤ rF ∧ 146 ≤ rL) (hd : decode cc pc = .ok (.invokevirtual idx, 3))
    (kk : ∀ hm' nx', bApps (sbPut sb [c]) ps = some x → cW X cB b (sbPut sb [c]) hm' → lFr X hm hm' → zV s0 D (zty cB cI cJ cD) y cc nL ret rF rL (sbRho (sbPut sb [c]) x) (sbRho (sbPut sb [c]) x) (pc + 3) lo (.ref b :: st) hi hm' nx' Q) : zV s0 D (zty cB cI cJ cD) y cc nL ret rF rL (sbRho sb x) (sbRho sb x) pc lo (.int c :: .ref b :: st) hi hm nx Q := by
  obtain ⟨hl, h2⟩ := bApps_cons h
  obtain ⟨g1, g2⟩ := sbRho_step (a := sb) (b := sbPut sb [c]) (c := x) sbPut_cap (bApps_mono _ _ _ h2)
  obtain ⟨vb, h1, -⟩ := id hW.1
  refine zV_callV (As := [.int c]) (rest := st) (cs_appendC s0 D cB cI cJ cD X b sb c (Q := fun v' hi' hm' nx' => v' = some (.ref b) ∧ hi = hi' ∧ bW X cB b (sbPut sb [c]) hm' ∧ lFr X hm hm') hW.1 hW.2 hl hc hv (fun hm' nx' k1 k2 => ⟨rfl, rfl, k1, k2⟩)) oJ4_appendC (Or.inr h1) (T := TJ4) (N := 4) rfl hlink (zT_mem 919 (by decide +kernel) rfl) (zT_mem 920 (by decide +kernel) rfl) rfl rfl hrest ⟨by omega, by omega⟩ ⟨g1, g1⟩ hd ?_
  rintro _ _ hm2 nx2 ⟨rfl, rfl, k1, k2⟩
  exact zV_less g2 g2 (kk hm2 nx2 h2 ⟨k1, sbPut_ok hW.2 hl (fit_getD (fun c' hc' => by rw [List.mem_singleton.mp hc']; exact hf))⟩ k2)
end BT
def pYear (v : vFrame) : List (List Int32) := [L_year_, decI v.1, L_Sextra_, decI v.2.1, [59]]
theorem oX3_tellYear : zO yX3_tellYear cX3_tellYear 2 none 1 := ⟨zT_mem 829 (by decide +kernel) rfl, (zT_mem 106 (by decide +kernel) rfl), (by decide +kernel), (by decide +kernel), (by decide +kernel)⟩
def frOk (v : vFrame) : Prop := iOk v.1 ∧ iOk v.2.1 ∧ iOk v.2.2.2.1 ∧ iOk v.2.2.2.2.1 ∧ iOk v.2.2.2.2.2 ∧ v.2.2.1.1 < 1000 ∧ ∀ i, i < v.2.2.1.1 → iOk (v.2.2.1.2 i)
set_option maxRecDepth 100000 in
theorem ct_tellYear (s0 : State) (D : va_G) (cB cI cJ cD : ClassId) (X : Nat → Prop) (b : Nat) (sb x : vSB) (v : vFrame) (a : Nat) {hi hm : zHp} {nx : Nat} {Q : Option Value → zHp → zHp → Nat → Prop} (hv : frOk v) (ho : iFrame cI hi a v) (hW : cW X cB b sb hm) (h : bApps sb (pYear v) = some x) (hQ : ∀ hm' nx', cW X cB b x hm' → lFr X hm hm' → Q none hi hm' nx') : zM s0 D (zty cB cI cJ cD) yX3_tellYear cX3_tellYear 2 none 6 148 (sbRho sb x) (sbRho sb x) [.ref a, .ref b] hi hm nx Q := by
  refine zM_of (by decide +kernel) (Nat.le_of_ble_eq_true rfl) ?_
  refine zV_eq (lo2 := [(0, .ref a), (1, .ref b)]) rfl rfl rfl rfl ?_
  have hFr : lFr X hm hm := lFr.rf
  obtain ⟨bm, hc, hb⟩ := ho
  unfold pYear at h
  refine zV_blk (pc' := 1) (lo' := [(0, .ref a), (1, .ref b)]) (st' := [.ref b]) [.aload_n 1] (by decide +kernel) rfl ?_
  refine zl_RX3_47 rfl (by decide +kernel) (fun aw hs => ?_)
  refine b_S (idx := 49) (l := L_year_) hW h hs (by decide +kernel) (zT_mem 831 (by decide +kernel) rfl) (Nat.le_of_ble_eq_true rfl) ⟨by decide, by decide⟩ (by decide +kernel) (fun hm nx h hW hFr2 => ?_)
  replace hFr := hFr.tr hFr2; clear hFr2
  clear hs
  refine zV_blk (pc' := 7) (lo' := [(0, .ref a), (1, .ref b)]) (st' := [.ref a, .ref b]) [.aload_n 0] (by decide +kernel) rfl ?_
  refine zV_get (ci := 3) (idx := 7) (k := 0) (N := 6) (fs := [.int v.1, .int v.2.1, .ref bm, .int v.2.2.2.1, .int v.2.2.2.2.1, .int v.2.2.2.2.2]) (v := .int v.1) (Or.inl hc) rfl z_in3 (by decide) (zT_mem 532 (by decide +kernel) rfl) rfl (by decide +kernel) ?_
  refine b_I (idx := 55) (v := v.1) hW h hv.1 (zT_mem 892 (by decide +kernel) rfl) (Nat.le_of_ble_eq_true rfl) ⟨by decide, by decide⟩ (by decide +kernel) (fun hm nx h hW hFr2 => ?_)
  replace hFr := hFr.tr hFr2; clear hFr2
  refine zl_RX3_58 rfl (by decide +kernel) (fun aw hs => ?_)
  refine b_S (idx := 49) (l := L_Sextra_) hW h hs (by decide +kernel) (zT_mem 831 (by decide +kernel) rfl) (Nat.le_of_ble_eq_true rfl) ⟨by decide, by decide⟩ (by decide +kernel) (fun hm nx h hW hFr2 => ?_)
  replace hFr := hFr.tr hFr2; clear hFr2
  clear hs
  refine zV_blk (pc' := 19) (lo' := [(0, .ref a), (1, .ref b)]) (st' := [.ref a, .ref b]) [.aload_n 0] (by decide +kernel) rfl ?_
  refine zV_get (ci := 3) (idx := 13) (k := 1) (N := 6) (fs := [.int v.1, .int v.2.1, .ref bm, .int v.2.2.2.1, .int v.2.2.2.2.1, .int v.2.2.2.2.2]) (v := .int v.2.1) (Or.inl hc) rfl z_in3 (by decide) (zT_mem 535 (by decide +kernel) rfl) rfl (by decide +kernel) ?_
  refine b_I (idx := 55) (v := v.2.1) hW h hv.2.1 (zT_mem 892 (by decide +kernel) rfl) (Nat.le_of_ble_eq_true rfl) ⟨by decide, by decide⟩ (by decide +kernel) (fun hm nx h hW hFr2 => ?_)
  replace hFr := hFr.tr hFr2; clear hFr2
  refine zV_blk (pc' := 27) (lo' := [(0, .ref a), (1, .ref b)]) (st' := [.int 59, .ref b]) [.bipush 59] (by decide +kernel) rfl ?_
  refine b_C (idx := 60) (c := 59) hW h (by decide) (by decide) (by decide +kernel) (zT_mem 918 (by decide +kernel) rfl) (Nat.le_of_ble_eq_true rfl) ⟨by decide, by decide⟩ (by decide +kernel) (fun hm nx h hW hFr2 => ?_)
  replace hFr := hFr.tr hFr2; clear hFr2
  refine zV_blk (pc' := 31) (lo' := [(0, .ref a), (1, .ref b)]) (st' := []) [.pop] (by decide +kernel) rfl ?_
  obtain rfl := Option.some.inj h
  exact zV_vret rfl (by decide +kernel) (hQ _ _ hW hFr)
def pMonths (f : Nat → Int32) : Nat → Nat → List (List Int32)
  | _, 0 => []
  | i, k + 1 => [32] :: decI (f i) :: pMonths f (i + 1) k
def pWeek (v : vFrame) : List (List Int32) := [L__leap_, decI v.2.2.2.1, L_Sweek_, decI v.2.2.2.2.1, L__at_, decI v.2.2.2.2.2, [59]]
theorem oX3_tellMW : zO yX3_tellMonthsAndWeek cX3_tellMonthsAndWeek 3 none 1 := ⟨zT_mem 968 (by decide +kernel) rfl, (zT_mem 106 (by decide +kernel) rfl), (by decide +kernel), (by decide +kernel), (by decide +kernel)⟩
set_option maxRecDepth 100000 in
theorem ct_tellMW_9 (s0 : State) (D : va_G) (cB cI cJ cD : ClassId) (X : Nat → Prop) (b : Nat) (x : vSB) (v : vFrame) (a bm : Nat) (hm0 : zHp) {hi : zHp} {Q : Option Value → zHp → zHp → Nat → Prop} (hv : frOk v) (hc : hi a = some (.inr (3, [.int v.1, .int v.2.1, .ref bm, .int v.2.2.2.1, .int v.2.2.2.2.1, .int v.2.2.2.2.2]))) (hb : iArr cI hi bm v.2.2.1) (hQ : ∀ hm' nx', cW X cB b x hm' → lFr X hm0 hm' → Q none hi hm' nx') : ∀ (k i : Nat) (sb : vSB) (hm : zHp) (nx : Nat) (_ : i + k = v.2.2.1.1) (_ : cW X cB b sb hm) (_ : bApps sb (pMonths v.2.2.1.2 i k ++ pWeek v) = some x) (_ : lFr X hm0 hm), zV s0 D (zty cB cI cJ cD) yX3_tellMonthsAndWeek cX3_tellMonthsAndWeek 3 none 6 148 (sbRho sb x) (sbRho sb x) 9 [(0, .ref a), (1, .ref b), (2, .int (nI i))] [] hi hm nx Q
  | 0, i, sb, hm, nx, hk, hW, h, hFr => by
    obtain ⟨-, -, -, -, -, hlen, hmo⟩ := id hv
    refine zV_blk (pc' := 11) (lo' := [(0, .ref a), (1, .ref b), (2, .int (nI i))]) (st' := [.ref a, .int (nI i)]) [.iload_n 2, .aload_n 0] (by decide +kernel) rfl ?_
    refine zV_get (ci := 3) (idx := 16) (k := 2) (N := 6) (fs := [.int v.1, .int v.2.1, .ref bm, .int v.2.2.2.1, .int v.2.2.2.2.1, .int v.2.2.2.2.2]) (v := .ref bm) (Or.inl hc) rfl z_in3 (by decide) (zT_mem 538 (by decide +kernel) rfl) rfl (by decide +kernel) ?_
    refine zV_alen 1 (Or.inl hb) rfl (by decide +kernel) ?_
    refine zV_icmp_ge (tgt := 40) (off := 25) (by decide +kernel) (by decide) (fun _ => ?_) (fun q => absurd (nI_le (show v.2.2.1.1 ≤ i by omega) (by omega)) q)
    refine zV_pick (lo2 := [(0, .ref a), (1, .ref b)]) [0, 1] rfl ?_
    unfold pMonths pWeek at h
    rw [List.nil_append] at h
    refine zV_blk (pc' := 41) (lo' := [(0, .ref a), (1, .ref b)]) (st' := [.ref b]) [.aload_n 1] (by decide +kernel) rfl ?_
    refine zl_RX3_64 rfl (by decide +kernel) (fun aw hs => ?_)
    refine b_S (idx := 49) (l := L__leap_) hW h hs (by decide +kernel) (zT_mem 831 (by decide +kernel) rfl) (Nat.le_of_ble_eq_true rfl) ⟨by decide, by decide⟩ (by decide +kernel) (fun hm nx h hW hFr2 => ?_)
    replace hFr := hFr.tr hFr2; clear hFr2
    clear hs
    refine zV_blk (pc' := 47) (lo' := [(0, .ref a), (1, .ref b)]) (st' := [.ref a, .ref b]) [.aload_n 0] (by decide +kernel) rfl ?_
    refine zV_get (ci := 3) (idx := 20) (k := 3) (N := 6) (fs := [.int v.1, .int v.2.1, .ref bm, .int v.2.2.2.1, .int v.2.2.2.2.1, .int v.2.2.2.2.2]) (v := .int v.2.2.2.1) (Or.inl hc) rfl z_in3 (by decide) (zT_mem 540 (by decide +kernel) rfl) rfl (by decide +kernel) ?_
    refine b_I (idx := 55) (v := v.2.2.2.1) hW h hv.2.2.1 (zT_mem 892 (by decide +kernel) rfl) (Nat.le_of_ble_eq_true rfl) ⟨by decide, by decide⟩ (by decide +kernel) (fun hm nx h hW hFr2 => ?_)
    replace hFr := hFr.tr hFr2; clear hFr2
    refine zV_blk (pc' := 55) (lo' := [(0, .ref a), (1, .ref b)]) (st' := [.ref b]) [.pop, .aload_n 1] (by decide +kernel) rfl ?_
    refine zl_RX3_66 rfl (by decide +kernel) (fun aw hs => ?_)
    refine b_S (idx := 49) (l := L_Sweek_) hW h hs (by decide +kernel) (zT_mem 831 (by decide +kernel) rfl) (Nat.le_of_ble_eq_true rfl) ⟨by decide, by decide⟩ (by decide +kernel) (fun hm nx h hW hFr2 => ?_)
    replace hFr := hFr.tr hFr2; clear hFr2
    clear hs
    refine zV_blk (pc' := 61) (lo' := [(0, .ref a), (1, .ref b)]) (st' := [.ref a, .ref b]) [.aload_n 0] (by decide +kernel) rfl ?_
    refine zV_get (ci := 3) (idx := 29) (k := 4) (N := 6) (fs := [.int v.1, .int v.2.1, .ref bm, .int v.2.2.2.1, .int v.2.2.2.2.1, .int v.2.2.2.2.2]) (v := .int v.2.2.2.2.1) (Or.inl hc) rfl z_in3 (by decide) (zT_mem 542 (by decide +kernel) rfl) rfl (by decide +kernel) ?_
    refine b_I (idx := 55) (v := v.2.2.2.2.1) hW h hv.2.2.2.1 (zT_mem 892 (by decide +kernel) rfl) (Nat.le_of_ble_eq_true rfl) ⟨by decide, by decide⟩ (by decide +kernel) (fun hm nx h hW hFr2 => ?_)
    replace hFr := hFr.tr hFr2; clear hFr2
    refine zl_RX3_68 rfl (by decide +kernel) (fun aw hs => ?_)
    refine b_S (idx := 49) (l := L__at_) hW h hs (by decide +kernel) (zT_mem 831 (by decide +kernel) rfl) (Nat.le_of_ble_eq_true rfl) ⟨by decide, by decide⟩ (by decide +kernel) (fun hm nx h hW hFr2 => ?_)
    replace hFr := hFr.tr hFr2; clear hFr2
    clear hs
    refine zV_blk (pc' := 73) (lo' := [(0, .ref a), (1, .ref b)]) (st' := [.ref a, .ref b]) [.aload_n 0] (by decide +kernel) rfl ?_
    refine zV_get (ci := 3) (idx := 32) (k := 5) (N := 6) (fs := [.int v.1, .int v.2.1, .ref bm, .int v.2.2.2.1, .int v.2.2.2.2.1, .int v.2.2.2.2.2]) (v := .int v.2.2.2.2.2) (Or.inl hc) rfl z_in3 (by decide) (zT_mem 544 (by decide +kernel) rfl) rfl (by decide +kernel) ?_
    refine b_I (idx := 55) (v := v.2.2.2.2.2) hW h hv.2.2.2.2.1 (zT_mem 892 (by decide +kernel) rfl) (Nat.le_of_ble_eq_true rfl) ⟨by decide, by decide⟩ (by decide +kernel) (fun hm nx h hW hFr2 => ?_)
    replace hFr := hFr.tr hFr2; clear hFr2
    refine zV_blk (pc' := 81) (lo' := [(0, .ref a), (1, .ref b)]) (st' := [.int 59, .ref b]) [.bipush 59] (by decide +kernel) rfl ?_
    refine b_C (idx := 60) (c := 59) hW h (by decide) (by decide) (by decide +kernel) (zT_mem 918 (by decide +kernel) rfl) (Nat.le_of_ble_eq_true rfl) ⟨by decide, by decide⟩ (by decide +kernel) (fun hm nx h hW hFr2 => ?_)
    replace hFr := hFr.tr hFr2; clear hFr2
    refine zV_blk (pc' := 85) (lo' := [(0, .ref a), (1, .ref b)]) (st' := []) [.pop] (by decide +kernel) rfl ?_
    obtain rfl := Option.some.inj h
    exact zV_vret rfl (by decide +kernel) (hQ _ _ hW hFr)
  | k + 1, i, sb, hm, nx, hk, hW, h, hFr => by
    obtain ⟨-, -, -, -, -, hlen, hmo⟩ := id hv
    refine zV_blk (pc' := 11) (lo' := [(0, .ref a), (1, .ref b), (2, .int (nI i))]) (st' := [.ref a, .int (nI i)]) [.iload_n 2, .aload_n 0] (by decide +kernel) rfl ?_
    refine zV_get (ci := 3) (idx := 16) (k := 2) (N := 6) (fs := [.int v.1, .int v.2.1, .ref bm, .int v.2.2.2.1, .int v.2.2.2.2.1, .int v.2.2.2.2.2]) (v := .ref bm) (Or.inl hc) rfl z_in3 (by decide) (zT_mem 538 (by decide +kernel) rfl) rfl (by decide +kernel) ?_
    refine zV_alen 1 (Or.inl hb) rfl (by decide +kernel) ?_
    refine zV_icmp_ge (tgt := 40) (off := 25) (by decide +kernel) (by decide) (fun q => absurd q (nI_ge (show i < v.2.2.1.1 by omega) (by omega))) (fun _ => ?_)
    rw [pMonths, List.cons_append, List.cons_append] at h
    refine zV_blk (pc' := 21) (lo' := [(0, .ref a), (1, .ref b), (2, .int (nI i))]) (st' := [.int 32, .ref b]) [.aload_n 1, .bipush 32] (by decide +kernel) rfl ?_
    refine b_C (idx := 60) (c := 32) hW h (by decide) (by decide) (by decide +kernel) (zT_mem 918 (by decide +kernel) rfl) (Nat.le_of_ble_eq_true rfl) ⟨by decide, by decide⟩ (by decide +kernel) (fun hm nx h hW hFr2 => ?_)
    replace hFr := hFr.tr hFr2; clear hFr2
    refine zV_blk (pc' := 25) (lo' := [(0, .ref a), (1, .ref b), (2, .int (nI i))]) (st' := [.ref a, .ref b]) [.aload_n 0] (by decide +kernel) rfl ?_
    refine zV_get (ci := 3) (idx := 16) (k := 2) (N := 6) (fs := [.int v.1, .int v.2.1, .ref bm, .int v.2.2.2.1, .int v.2.2.2.2.1, .int v.2.2.2.2.2]) (v := .ref bm) (Or.inl hc) rfl z_in3 (by decide) (zT_mem 538 (by decide +kernel) rfl) rfl (by decide +kernel) ?_
    refine zV_blk (pc' := 29) (lo' := [(0, .ref a), (1, .ref b), (2, .int (nI i))]) (st' := [.int (nI i), .ref bm, .ref b]) [.iload_n 2] (by decide +kernel) rfl ?_
    refine zV_iald 1 (Or.inl hb) rfl (nI_in (by omega) (by omega)) (by decide +kernel) ?_
    rw [nI_clamp (show i < 2 ^ 31 by omega)]
    refine b_I (idx := 55) (v := v.2.2.1.2 i) hW h (hmo i (by omega)) (zT_mem 892 (by decide +kernel) rfl) (Nat.le_of_ble_eq_true rfl) ⟨by decide, by decide⟩ (by decide +kernel) (fun hm nx h hW hFr2 => ?_)
    replace hFr := hFr.tr hFr2; clear hFr2
    refine zV_blk (pc' := 37) (lo' := [(2, .int ((nI i) + 1)), (0, .ref a), (1, .ref b)]) (st' := []) [.pop, .iinc 2 1] (by decide +kernel) rfl ?_
    refine zV_goto (tgt := 9) (off := -28) (by decide +kernel) (by decide) ?_
    rw [show nI i + 1 = nI (i + 1) from nI_1 i]
    refine zV_pick (lo2 := [(0, .ref a), (1, .ref b), (2, .int (nI (i + 1)))]) [1, 2, 0] rfl ?_
    exact ct_tellMW_9 s0 D cB cI cJ cD X b x v a bm hm0 hv hc hb hQ k (i + 1) _ _ _ (by omega) hW h hFr
def pMW (v : vFrame) : List (List Int32) := L_months :: (pMonths v.2.2.1.2 0 v.2.2.1.1 ++ pWeek v)
set_option maxRecDepth 100000 in
theorem ct_tellMW (s0 : State) (D : va_G) (cB cI cJ cD : ClassId) (X : Nat → Prop) (b : Nat) (sb x : vSB) (v : vFrame) (a : Nat) {hi hm : zHp} {nx : Nat} {Q : Option Value → zHp → zHp → Nat → Prop} (hv : frOk v) (ho : iFrame cI hi a v) (hW : cW X cB b sb hm) (h : bApps sb (pMW v) = some x) (hQ : ∀ hm' nx', cW X cB b x hm' → lFr X hm hm' → Q none hi hm' nx') : zM s0 D (zty cB cI cJ cD) yX3_tellMonthsAndWeek cX3_tellMonthsAndWeek 3 none 6 148 (sbRho sb x) (sbRho sb x) [.ref a, .ref b] hi hm nx Q := by
  refine zM_of (by decide +kernel) (Nat.le_of_ble_eq_true rfl) ?_
  refine zV_eq (lo2 := [(0, .ref a), (1, .ref b)]) rfl rfl rfl rfl ?_
  have hFr : lFr X hm hm := lFr.rf
  obtain ⟨bm, hc, hb⟩ := ho
  unfold pMW at h
  refine zV_blk (pc' := 1) (lo' := [(0, .ref a), (1, .ref b)]) (st' := [.ref b]) [.aload_n 1] (by decide +kernel) rfl ?_
  refine zl_RX3_63 rfl (by decide +kernel) (fun aw hs => ?_)
  refine b_S (idx := 49) (l := L_months) hW h hs (by decide +kernel) (zT_mem 831 (by decide +kernel) rfl) (Nat.le_of_ble_eq_true rfl) ⟨by decide, by decide⟩ (by decide +kernel) (fun hm nx h hW hFr2 => ?_)
  replace hFr := hFr.tr hFr2; clear hFr2
  clear hs
  refine zV_blk (pc' := 9) (lo' := [(2, .int 0), (0, .ref a), (1, .ref b)]) (st' := []) [.pop, .iconst 0, .istore_n 2] (by decide +kernel) rfl ?_
  refine zV_pick (lo2 := [(0, .ref a), (1, .ref b), (2, .int (nI 0))]) [1, 2, 0] rfl ?_
  exact ct_tellMW_9 s0 D cB cI cJ cD X b x v a bm _ hv hc hb hQ v.2.2.1.1 0 _ _ _ (by omega) hW h hFr
def pTrue (v : vTrue) : List (List Int32) := [L_true_, decI v.1, L__and_, decI v.2.1, L__of_, decI v.2.2.1, L_Sbegins_, decI v.2.2.2.1, L__of_, decI v.2.2.2.2, [59]]
def tyOk (v : vTrue) : Prop := iOk v.1 ∧ iOk v.2.1 ∧ iOk v.2.2.1 ∧ iOk v.2.2.2.1 ∧ iOk v.2.2.2.2
theorem oX10_tell : zO yX10_tell cX10_tell 2 none 1 := ⟨zT_mem 976 (by decide +kernel) rfl, (zT_mem 99 (by decide +kernel) rfl), (by decide +kernel), (by decide +kernel), (by decide +kernel)⟩
set_option maxRecDepth 100000 in
theorem ct_true (s0 : State) (D : va_G) (cB cI cJ cD : ClassId) (X : Nat → Prop) (b : Nat) (sb x : vSB) (v : vTrue) (a : Nat) {hi hm : zHp} {nx : Nat} {Q : Option Value → zHp → zHp → Nat → Prop} (hv : tyOk v) (ho : iTrue hi a v) (hW : cW X cB b sb hm) (h : bApps sb (pTrue v) = some x) (hQ : ∀ hm' nx', cW X cB b x hm' → lFr X hm hm' → Q none hi hm' nx') : zM s0 D (zty cB cI cJ cD) yX10_tell cX10_tell 2 none 6 148 (sbRho sb x) (sbRho sb x) [.ref a, .ref b] hi hm nx Q := by
  refine zM_of (by decide +kernel) (Nat.le_of_ble_eq_true rfl) ?_
  refine zV_eq (lo2 := [(0, .ref a), (1, .ref b)]) rfl rfl rfl rfl ?_
  have hFr : lFr X hm hm := lFr.rf
  have hc := ho
  unfold pTrue at h
  refine zV_blk (pc' := 1) (lo' := [(0, .ref a), (1, .ref b)]) (st' := [.ref b]) [.aload_n 1] (by decide +kernel) rfl ?_
  refine zl_RX10_40 rfl (by decide +kernel) (fun aw hs => ?_)
  refine b_S (idx := 42) (l := L_true_) hW h hs (by decide +kernel) (zT_mem 978 (by decide +kernel) rfl) (Nat.le_of_ble_eq_true rfl) ⟨by decide, by decide⟩ (by decide +kernel) (fun hm nx h hW hFr2 => ?_)
  replace hFr := hFr.tr hFr2; clear hFr2
  clear hs
  refine zV_blk (pc' := 7) (lo' := [(0, .ref a), (1, .ref b)]) (st' := [.ref a, .ref b]) [.aload_n 0] (by decide +kernel) rfl ?_
  refine zV_get (ci := 10) (idx := 7) (k := 0) (N := 5) (fs := [.int v.1, .int v.2.1, .int v.2.2.1, .int v.2.2.2.1, .int v.2.2.2.2]) (v := .int v.1) (Or.inl hc) rfl z_in10 (by decide) (zT_mem 277 (by decide +kernel) rfl) rfl (by decide +kernel) ?_
  refine b_I (idx := 48) (v := v.1) hW h hv.1 (zT_mem 979 (by decide +kernel) rfl) (Nat.le_of_ble_eq_true rfl) ⟨by decide, by decide⟩ (by decide +kernel) (fun hm nx h hW hFr2 => ?_)
  replace hFr := hFr.tr hFr2; clear hFr2
  refine zl_RX10_51 rfl (by decide +kernel) (fun aw hs => ?_)
  refine b_S (idx := 42) (l := L__and_) hW h hs (by decide +kernel) (zT_mem 978 (by decide +kernel) rfl) (Nat.le_of_ble_eq_true rfl) ⟨by decide, by decide⟩ (by decide +kernel) (fun hm nx h hW hFr2 => ?_)
  replace hFr := hFr.tr hFr2; clear hFr2
  clear hs
  refine zV_blk (pc' := 19) (lo' := [(0, .ref a), (1, .ref b)]) (st' := [.ref a, .ref b]) [.aload_n 0] (by decide +kernel) rfl ?_
  refine zV_get (ci := 10) (idx := 13) (k := 1) (N := 5) (fs := [.int v.1, .int v.2.1, .int v.2.2.1, .int v.2.2.2.1, .int v.2.2.2.2]) (v := .int v.2.1) (Or.inl hc) rfl z_in10 (by decide) (zT_mem 279 (by decide +kernel) rfl) rfl (by decide +kernel) ?_
  refine b_I (idx := 48) (v := v.2.1) hW h hv.2.1 (zT_mem 979 (by decide +kernel) rfl) (Nat.le_of_ble_eq_true rfl) ⟨by decide, by decide⟩ (by decide +kernel) (fun hm nx h hW hFr2 => ?_)
  replace hFr := hFr.tr hFr2; clear hFr2
  refine zl_RX10_53 rfl (by decide +kernel) (fun aw hs => ?_)
  refine b_S (idx := 42) (l := L__of_) hW h hs (by decide +kernel) (zT_mem 978 (by decide +kernel) rfl) (Nat.le_of_ble_eq_true rfl) ⟨by decide, by decide⟩ (by decide +kernel) (fun hm nx h hW hFr2 => ?_)
  replace hFr := hFr.tr hFr2; clear hFr2
  clear hs
  refine zV_blk (pc' := 31) (lo' := [(0, .ref a), (1, .ref b)]) (st' := [.ref a, .ref b]) [.aload_n 0] (by decide +kernel) rfl ?_
  refine zV_get (ci := 10) (idx := 22) (k := 2) (N := 5) (fs := [.int v.1, .int v.2.1, .int v.2.2.1, .int v.2.2.2.1, .int v.2.2.2.2]) (v := .int v.2.2.1) (Or.inl hc) rfl z_in10 (by decide) (zT_mem 281 (by decide +kernel) rfl) rfl (by decide +kernel) ?_
  refine b_I (idx := 48) (v := v.2.2.1) hW h hv.2.2.1 (zT_mem 979 (by decide +kernel) rfl) (Nat.le_of_ble_eq_true rfl) ⟨by decide, by decide⟩ (by decide +kernel) (fun hm nx h hW hFr2 => ?_)
  replace hFr := hFr.tr hFr2; clear hFr2
  refine zV_blk (pc' := 39) (lo' := [(0, .ref a), (1, .ref b)]) (st' := [.ref b]) [.pop, .aload_n 1] (by decide +kernel) rfl ?_
  refine zl_RX10_55 rfl (by decide +kernel) (fun aw hs => ?_)
  refine b_S (idx := 42) (l := L_Sbegins_) hW h hs (by decide +kernel) (zT_mem 978 (by decide +kernel) rfl) (Nat.le_of_ble_eq_true rfl) ⟨by decide, by decide⟩ (by decide +kernel) (fun hm nx h hW hFr2 => ?_)
  replace hFr := hFr.tr hFr2; clear hFr2
  clear hs
  refine zV_blk (pc' := 45) (lo' := [(0, .ref a), (1, .ref b)]) (st' := [.ref a, .ref b]) [.aload_n 0] (by decide +kernel) rfl ?_
  refine zV_get (ci := 10) (idx := 25) (k := 3) (N := 5) (fs := [.int v.1, .int v.2.1, .int v.2.2.1, .int v.2.2.2.1, .int v.2.2.2.2]) (v := .int v.2.2.2.1) (Or.inl hc) rfl z_in10 (by decide) (zT_mem 284 (by decide +kernel) rfl) rfl (by decide +kernel) ?_
  refine b_I (idx := 48) (v := v.2.2.2.1) hW h hv.2.2.2.1 (zT_mem 979 (by decide +kernel) rfl) (Nat.le_of_ble_eq_true rfl) ⟨by decide, by decide⟩ (by decide +kernel) (fun hm nx h hW hFr2 => ?_)
  replace hFr := hFr.tr hFr2; clear hFr2
  refine zl_RX10_53 rfl (by decide +kernel) (fun aw hs => ?_)
  refine b_S (idx := 42) (l := L__of_) hW h hs (by decide +kernel) (zT_mem 978 (by decide +kernel) rfl) (Nat.le_of_ble_eq_true rfl) ⟨by decide, by decide⟩ (by decide +kernel) (fun hm nx h hW hFr2 => ?_)
  replace hFr := hFr.tr hFr2; clear hFr2
  clear hs
  refine zV_blk (pc' := 57) (lo' := [(0, .ref a), (1, .ref b)]) (st' := [.ref a, .ref b]) [.aload_n 0] (by decide +kernel) rfl ?_
  refine zV_get (ci := 10) (idx := 28) (k := 4) (N := 5) (fs := [.int v.1, .int v.2.1, .int v.2.2.1, .int v.2.2.2.1, .int v.2.2.2.2]) (v := .int v.2.2.2.2) (Or.inl hc) rfl z_in10 (by decide) (zT_mem 285 (by decide +kernel) rfl) rfl (by decide +kernel) ?_
  refine b_I (idx := 48) (v := v.2.2.2.2) hW h hv.2.2.2.2 (zT_mem 979 (by decide +kernel) rfl) (Nat.le_of_ble_eq_true rfl) ⟨by decide, by decide⟩ (by decide +kernel) (fun hm nx h hW hFr2 => ?_)
  replace hFr := hFr.tr hFr2; clear hFr2
  refine zV_blk (pc' := 65) (lo' := [(0, .ref a), (1, .ref b)]) (st' := [.int 59, .ref b]) [.bipush 59] (by decide +kernel) rfl ?_
  refine b_C (idx := 57) (c := 59) hW h (by decide) (by decide) (by decide +kernel) (zT_mem 983 (by decide +kernel) rfl) (Nat.le_of_ble_eq_true rfl) ⟨by decide, by decide⟩ (by decide +kernel) (fun hm nx h hW hFr2 => ?_)
  replace hFr := hFr.tr hFr2; clear hFr2
  refine zV_blk (pc' := 69) (lo' := [(0, .ref a), (1, .ref b)]) (st' := []) [.pop] (by decide +kernel) rfl ?_
  obtain rfl := Option.some.inj h
  exact zV_vret rfl (by decide +kernel) (hQ _ _ hW hFr)
theorem oX6_tell : zO yX6_tell cX6_tell 2 none 1 := ⟨zT_mem 964 (by decide +kernel) rfl, (zT_mem 98 (by decide +kernel) rfl), (by decide +kernel), (by decide +kernel), (by decide +kernel)⟩
set_option maxRecDepth 100000 in
theorem ct_none (s0 : State) (D : va_G) (cB cI cJ cD : ClassId) (X : Nat → Prop) (b : Nat) (sb x : vSB) (a : Nat) {hi hm : zHp} {nx : Nat} {Q : Option Value → zHp → zHp → Nat → Prop}  (hW : cW X cB b sb hm) (h : bApps sb ([]) = some x) (hQ : ∀ hm' nx', cW X cB b x hm' → lFr X hm hm' → Q none hi hm' nx') : zM s0 D (zty cB cI cJ cD) yX6_tell cX6_tell 2 none 6 148 (sbRho sb x) (sbRho sb x) [.ref a, .ref b] hi hm nx Q := by
  refine zM_of (by decide +kernel) (Nat.le_of_ble_eq_true rfl) ?_
  refine zV_eq (lo2 := [(0, .ref a), (1, .ref b)]) rfl rfl rfl rfl ?_
  have hFr : lFr X hm hm := lFr.rf
  rw [bApps] at h
  obtain rfl := Option.some.inj h
  exact zV_vret rfl (by decide +kernel) (hQ _ _ hW hFr)
def pEven (v : vEven) : List (List Int32) := [L_even_, decI v.1, L__of_, decI v.2.1, L__shift_, decI v.2.2, [59]]
theorem oX1_tell : zO yX1_tell cX1_tell 2 none 1 := ⟨zT_mem 937 (by decide +kernel) rfl, (zT_mem 102 (by decide +kernel) rfl), (by decide +kernel), (by decide +kernel), (by decide +kernel)⟩
set_option maxRecDepth 100000 in
theorem ct_even (s0 : State) (D : va_G) (cB cI cJ cD : ClassId) (X : Nat → Prop) (b : Nat) (sb x : vSB) (v : vEven) (a : Nat) {hi hm : zHp} {nx : Nat} {Q : Option Value → zHp → zHp → Nat → Prop} (hv : iOk v.1 ∧ iOk v.2.1 ∧ iOk v.2.2) (ho : iEven hi a v) (hW : cW X cB b sb hm) (h : bApps sb (pEven v) = some x) (hQ : ∀ hm' nx', cW X cB b x hm' → lFr X hm hm' → Q none hi hm' nx') : zM s0 D (zty cB cI cJ cD) yX1_tell cX1_tell 2 none 6 148 (sbRho sb x) (sbRho sb x) [.ref a, .ref b] hi hm nx Q := by
  refine zM_of (by decide +kernel) (Nat.le_of_ble_eq_true rfl) ?_
  refine zV_eq (lo2 := [(0, .ref a), (1, .ref b)]) rfl rfl rfl rfl ?_
  have hFr : lFr X hm hm := lFr.rf
  have hc := ho
  unfold pEven at h
  refine zV_blk (pc' := 1) (lo' := [(0, .ref a), (1, .ref b)]) (st' := [.ref b]) [.aload_n 1] (by decide +kernel) rfl ?_
  refine zl_RX1_31 rfl (by decide +kernel) (fun aw hs => ?_)
  refine b_S (idx := 33) (l := L_even_) hW h hs (by decide +kernel) (zT_mem 939 (by decide +kernel) rfl) (Nat.le_of_ble_eq_true rfl) ⟨by decide, by decide⟩ (by decide +kernel) (fun hm nx h hW hFr2 => ?_)
  replace hFr := hFr.tr hFr2; clear hFr2
  clear hs
  refine zV_blk (pc' := 7) (lo' := [(0, .ref a), (1, .ref b)]) (st' := [.ref a, .ref b]) [.aload_n 0] (by decide +kernel) rfl ?_
  refine zV_get (ci := 1) (idx := 7) (k := 0) (N := 3) (fs := [.int v.1, .int v.2.1, .int v.2.2]) (v := .int v.1) (Or.inl hc) rfl z_in1 (by decide) (zT_mem 438 (by decide +kernel) rfl) rfl (by decide +kernel) ?_
  refine b_I (idx := 39) (v := v.1) hW h hv.1 (zT_mem 940 (by decide +kernel) rfl) (Nat.le_of_ble_eq_true rfl) ⟨by decide, by decide⟩ (by decide +kernel) (fun hm nx h hW hFr2 => ?_)
  replace hFr := hFr.tr hFr2; clear hFr2
  refine zl_RX1_42 rfl (by decide +kernel) (fun aw hs => ?_)
  refine b_S (idx := 33) (l := L__of_) hW h hs (by decide +kernel) (zT_mem 939 (by decide +kernel) rfl) (Nat.le_of_ble_eq_true rfl) ⟨by decide, by decide⟩ (by decide +kernel) (fun hm nx h hW hFr2 => ?_)
  replace hFr := hFr.tr hFr2; clear hFr2
  clear hs
  refine zV_blk (pc' := 19) (lo' := [(0, .ref a), (1, .ref b)]) (st' := [.ref a, .ref b]) [.aload_n 0] (by decide +kernel) rfl ?_
  refine zV_get (ci := 1) (idx := 19) (k := 1) (N := 3) (fs := [.int v.1, .int v.2.1, .int v.2.2]) (v := .int v.2.1) (Or.inl hc) rfl z_in1 (by decide) (zT_mem 440 (by decide +kernel) rfl) rfl (by decide +kernel) ?_
  refine b_I (idx := 39) (v := v.2.1) hW h hv.2.1 (zT_mem 940 (by decide +kernel) rfl) (Nat.le_of_ble_eq_true rfl) ⟨by decide, by decide⟩ (by decide +kernel) (fun hm nx h hW hFr2 => ?_)
  replace hFr := hFr.tr hFr2; clear hFr2
  refine zl_RX1_44 rfl (by decide +kernel) (fun aw hs => ?_)
  refine b_S (idx := 33) (l := L__shift_) hW h hs (by decide +kernel) (zT_mem 939 (by decide +kernel) rfl) (Nat.le_of_ble_eq_true rfl) ⟨by decide, by decide⟩ (by decide +kernel) (fun hm nx h hW hFr2 => ?_)
  replace hFr := hFr.tr hFr2; clear hFr2
  clear hs
  refine zV_blk (pc' := 31) (lo' := [(0, .ref a), (1, .ref b)]) (st' := [.ref a, .ref b]) [.aload_n 0] (by decide +kernel) rfl ?_
  refine zV_get (ci := 1) (idx := 22) (k := 2) (N := 3) (fs := [.int v.1, .int v.2.1, .int v.2.2]) (v := .int v.2.2) (Or.inl hc) rfl z_in1 (by decide) (zT_mem 442 (by decide +kernel) rfl) rfl (by decide +kernel) ?_
  refine b_I (idx := 39) (v := v.2.2) hW h hv.2.2 (zT_mem 940 (by decide +kernel) rfl) (Nat.le_of_ble_eq_true rfl) ⟨by decide, by decide⟩ (by decide +kernel) (fun hm nx h hW hFr2 => ?_)
  replace hFr := hFr.tr hFr2; clear hFr2
  refine zV_blk (pc' := 39) (lo' := [(0, .ref a), (1, .ref b)]) (st' := [.int 59, .ref b]) [.bipush 59] (by decide +kernel) rfl ?_
  refine b_C (idx := 46) (c := 59) hW h (by decide) (by decide) (by decide +kernel) (zT_mem 943 (by decide +kernel) rfl) (Nat.le_of_ble_eq_true rfl) ⟨by decide, by decide⟩ (by decide +kernel) (fun hm nx h hW hFr2 => ?_)
  replace hFr := hFr.tr hFr2; clear hFr2
  refine zV_blk (pc' := 43) (lo' := [(0, .ref a), (1, .ref b)]) (st' := []) [.pop] (by decide +kernel) rfl ?_
  obtain rfl := Option.some.inj h
  exact zV_vret rfl (by decide +kernel) (hQ _ _ hW hFr)
def pStep (i : Nat) : List Int32 := if i = 0 then L_every_ else if i % 2 = 1 then L__not_ else L__but_
def pSteps (f : Nat → Int32) : Nat → Nat → List (List Int32)
  | _, 0 => []
  | i, k + 1 => pStep i :: decI (f i) :: pSteps f (i + 1) k
theorem oX5_tell : zO yX5_tell cX5_tell 3 none 1 := ⟨zT_mem 946 (by decide +kernel) rfl, (zT_mem 103 (by decide +kernel) rfl), (by decide +kernel), (by decide +kernel), (by decide +kernel)⟩
theorem nI_mod2 {i : Nat} (h : i < 2 ^ 30) : nI i - nI i / 2 * 2 = nI (i % 2) := by
  apply Int32.toInt_inj.mp
  have h2 : (2 : Int32).toInt = 2 := by decide
  have h1 : (nI i / 2).toInt = ((i / 2 : Nat) : Int) := by
    rw [Int32.toInt_div_of_ne_right _ _ (by decide), nI_toInt (by omega), h2, Int.tdiv_eq_ediv_of_nonneg (by omega)]
    omega
  have h3 : (nI i / 2 * 2).toInt = ((i / 2 * 2 : Nat) : Int) := by
    rw [Int32.toInt_mul, h1, h2, Int.bmod_eq_of_le (by omega) (by omega)]
    omega
  rw [Int32.toInt_sub, h3, nI_toInt (by omega), nI_toInt (by omega), Int.bmod_eq_of_le (by omega) (by omega)]
  omega
set_option maxHeartbeats 1000000 in
set_option maxRecDepth 100000 in
theorem ct_ladder_2 (s0 : State) (D : va_G) (cB cI cJ cD : ClassId) (X : Nat → Prop) (b : Nat) (x : vSB) (v : vArr) (a bm : Nat) (hm0 : zHp) {hi : zHp} {Q : Option Value → zHp → zHp → Nat → Prop} (hv : v.1 < 1000 ∧ ∀ i, i < v.1 → iOk (v.2 i)) (hc : hi a = some (.inr (5, [.ref bm]))) (hb : iArr cI hi bm v) (hQ : ∀ hm' nx', cW X cB b x hm' → lFr X hm0 hm' → Q none hi hm' nx') : ∀ (k i : Nat) (sb : vSB) (hm : zHp) (nx : Nat) (_ : i + k = v.1) (_ : cW X cB b sb hm) (_ : bApps sb (pSteps v.2 i k ++ [[59]]) = some x) (_ : lFr X hm0 hm), zV s0 D (zty cB cI cJ cD) yX5_tell cX5_tell 3 none 6 148 (sbRho sb x) (sbRho sb x) 2 [(0, .ref a), (1, .ref b), (2, .int (nI i))] [] hi hm nx Q
  | 0, i, sb, hm, nx, hk, hW, h, hFr => by
    refine zV_blk (pc' := 4) (lo' := [(0, .ref a), (1, .ref b), (2, .int (nI i))]) (st' := [.ref a, .int (nI i)]) [.iload_n 2, .aload_n 0] (by decide +kernel) rfl ?_
    refine zV_get (ci := 5) (idx := 7) (k := 0) (N := 1) (fs := [.ref bm]) (v := .ref bm) (Or.inl hc) rfl z_in5 (by decide) (zT_mem 471 (by decide +kernel) rfl) rfl (by decide +kernel) ?_
    refine zV_alen 1 (Or.inl hb) rfl (by decide +kernel) ?_
    refine zV_icmp_ge (tgt := 61) (off := 53) (by decide +kernel) (by decide) (fun _ => ?_) (fun q => absurd (nI_le (show v.1 ≤ i by omega) (by omega)) q)
    rw [pSteps, List.nil_append] at h
    refine zV_blk (pc' := 64) (lo' := [(0, .ref a), (1, .ref b), (2, .int (nI i))]) (st' := [.int 59, .ref b]) [.aload_n 1, .bipush 59] (by decide +kernel) rfl ?_
    refine b_C (idx := 34) (c := 59) hW h (by decide) (by decide) (by decide +kernel) (zT_mem 952 (by decide +kernel) rfl) (Nat.le_of_ble_eq_true rfl) ⟨by decide, by decide⟩ (by decide +kernel) (fun hm nx h hW hFr2 => ?_)
    replace hFr := hFr.tr hFr2; clear hFr2
    refine zV_blk (pc' := 68) (lo' := [(0, .ref a), (1, .ref b), (2, .int (nI i))]) (st' := []) [.pop] (by decide +kernel) rfl ?_
    obtain rfl := Option.some.inj h
    exact zV_vret rfl (by decide +kernel) (hQ _ _ hW hFr)
  | k + 1, i, sb, hm, nx, hk, hW, h, hFr => by
    refine zV_blk (pc' := 4) (lo' := [(0, .ref a), (1, .ref b), (2, .int (nI i))]) (st' := [.ref a, .int (nI i)]) [.iload_n 2, .aload_n 0] (by decide +kernel) rfl ?_
    refine zV_get (ci := 5) (idx := 7) (k := 0) (N := 1) (fs := [.ref bm]) (v := .ref bm) (Or.inl hc) rfl z_in5 (by decide) (zT_mem 471 (by decide +kernel) rfl) rfl (by decide +kernel) ?_
    refine zV_alen 1 (Or.inl hb) rfl (by decide +kernel) ?_
    refine zV_icmp_ge (tgt := 61) (off := 53) (by decide +kernel) (by decide) (fun q => absurd q (nI_ge (show i < v.1 by omega) (by omega))) (fun _ => ?_)
    rw [pSteps, List.cons_append, List.cons_append] at h
    have rest : ∀ (sb1 : vSB) (hm1 : zHp) (nx1 : Nat), bApps sb1 (decI (v.2 i) :: (pSteps v.2 (i + 1) k ++ [[59]])) = some x → cW X cB b sb1 hm1 → lFr X hm0 hm1 → zV s0 D (zty cB cI cJ cD) yX5_tell cX5_tell 3 none 6 148 (sbRho sb1 x) (sbRho sb1 x) 44 [(0, .ref a), (1, .ref b), (2, .int (nI i))] [] hi hm1 nx1 Q := by
      intro sb hm nx h hW hFr
      refine zV_blk (pc' := 46) (lo' := [(0, .ref a), (1, .ref b), (2, .int (nI i))]) (st' := [.ref a, .ref b]) [.aload_n 1, .aload_n 0] (by decide +kernel) rfl ?_
      refine zV_get (ci := 5) (idx := 7) (k := 0) (N := 1) (fs := [.ref bm]) (v := .ref bm) (Or.inl hc) rfl z_in5 (by decide) (zT_mem 471 (by decide +kernel) rfl) rfl (by decide +kernel) ?_
      refine zV_blk (pc' := 50) (lo' := [(0, .ref a), (1, .ref b), (2, .int (nI i))]) (st' := [.int (nI i), .ref bm, .ref b]) [.iload_n 2] (by decide +kernel) rfl ?_
      refine zV_iald 1 (Or.inl hb) rfl (nI_in (by omega) (by omega)) (by decide +kernel) ?_
      rw [nI_clamp (show i < 2 ^ 31 by omega)]
      refine b_I (idx := 31) (v := v.2 i) hW h (hv.2 i (by omega)) (zT_mem 951 (by decide +kernel) rfl) (Nat.le_of_ble_eq_true rfl) ⟨by decide, by decide⟩ (by decide +kernel) (fun hm nx h hW hFr2 => ?_)
      replace hFr := hFr.tr hFr2; clear hFr2
      refine zV_blk (pc' := 58) (lo' := [(2, .int ((nI i) + 1)), (0, .ref a), (1, .ref b)]) (st' := []) [.pop, .iinc 2 1] (by decide +kernel) rfl ?_
      refine zV_goto (tgt := 2) (off := -56) (by decide +kernel) (by decide) ?_
      rw [show nI i + 1 = nI (i + 1) from nI_1 i]
      refine zV_pick (lo2 := [(0, .ref a), (1, .ref b), (2, .int (nI (i + 1)))]) [1, 2, 0] rfl ?_
      exact ct_ladder_2 s0 D cB cI cJ cD X b x v a bm hm0 hv hc hb hQ k (i + 1) _ _ _ (by omega) hW h hFr
    refine zV_blk (pc' := 12) (lo' := [(0, .ref a), (1, .ref b), (2, .int (nI i))]) (st' := [.int (nI i)]) [.iload_n 2] (by decide +kernel) rfl ?_
    refine zV_if_ne (tgt := 25) (off := 13) (by decide +kernel) (by decide) (fun q => ?_) (fun q => ?_)
    · have hi0 : ¬ i = 0 := fun e => q (by rw [e]; rfl)
      refine zV_blk (pc' := 28) (lo' := [(0, .ref a), (1, .ref b), (2, .int (nI i))]) (st' := [.int 2, .int (nI i), .ref b]) [.aload_n 1, .iload_n 2, .iconst 2] (by decide +kernel) rfl ?_
      refine zV_irem (by decide +kernel) (by decide) ?_
      have er : nI i - nI i / 2 * 2 = nI (i % 2) := nI_mod2 (by omega)
      rw [er]
      refine zV_blk (pc' := 30) (lo' := [(0, .ref a), (1, .ref b), (2, .int (nI i))]) (st' := [.int 1, .int (nI (i % 2)), .ref b]) [.iconst 1] (by decide +kernel) rfl ?_
      refine zV_icmp_ne (tgt := 38) (off := 8) (by decide +kernel) (by decide) (fun q2 => ?_) (fun q2 => ?_)
      · have h1 : ¬ i % 2 = 1 := fun e => q2 (by rw [e]; rfl)
        refine zl_RX5_29 rfl (by decide +kernel) (fun aw hs => ?_)
        rw [show pStep i = L__but_ by unfold pStep; rw [if_neg hi0, if_neg h1]] at h
        refine b_S (idx := 21) (l := L__but_) hW h hs (by decide +kernel) (zT_mem 948 (by decide +kernel) rfl) (Nat.le_of_ble_eq_true rfl) ⟨by decide, by decide⟩ (by decide +kernel) (fun hm nx h hW hFr2 => ?_)
        replace hFr := hFr.tr hFr2; clear hFr2
        clear hs
        refine zV_blk (pc' := 44) (lo' := [(0, .ref a), (1, .ref b), (2, .int (nI i))]) (st' := []) [.pop] (by decide +kernel) rfl ?_
        exact rest _ _ _ h hW hFr
      · have h1 : i % 2 = 1 := (nI_eq (by omega) (by decide)).mp (show nI (i % 2) = nI 1 from q2)
        refine zl_RX5_27 rfl (by decide +kernel) (fun aw hs => ?_)
        refine zV_goto (tgt := 40) (off := 5) (by decide +kernel) (by decide) ?_
        rw [show pStep i = L__not_ by unfold pStep; rw [if_neg hi0, if_pos h1]] at h
        refine b_S (idx := 21) (l := L__not_) hW h hs (by decide +kernel) (zT_mem 948 (by decide +kernel) rfl) (Nat.le_of_ble_eq_true rfl) ⟨by decide, by decide⟩ (by decide +kernel) (fun hm nx h hW hFr2 => ?_)
        replace hFr := hFr.tr hFr2; clear hFr2
        clear hs
        refine zV_blk (pc' := 44) (lo' := [(0, .ref a), (1, .ref b), (2, .int (nI i))]) (st' := []) [.pop] (by decide +kernel) rfl ?_
        exact rest _ _ _ h hW hFr
    · have hi0 : i = 0 := (nI_eq (by omega) (by decide)).mp (show nI i = nI 0 from q)
      refine zV_blk (pc' := 16) (lo' := [(0, .ref a), (1, .ref b), (2, .int (nI i))]) (st' := [.ref b]) [.aload_n 1] (by decide +kernel) rfl ?_
      refine zl_RX5_19 rfl (by decide +kernel) (fun aw hs => ?_)
      rw [show pStep i = L_every_ by unfold pStep; rw [if_pos hi0]] at h
      refine b_S (idx := 21) (l := L_every_) hW h hs (by decide +kernel) (zT_mem 948 (by decide +kernel) rfl) (Nat.le_of_ble_eq_true rfl) ⟨by decide, by decide⟩ (by decide +kernel) (fun hm nx h hW hFr2 => ?_)
      replace hFr := hFr.tr hFr2; clear hFr2
      clear hs
      refine zV_blk (pc' := 22) (lo' := [(0, .ref a), (1, .ref b), (2, .int (nI i))]) (st' := []) [.pop] (by decide +kernel) rfl ?_
      refine zV_goto (tgt := 44) (off := 22) (by decide +kernel) (by decide) ?_
      exact rest _ _ _ h hW hFr
set_option maxRecDepth 100000 in
theorem ct_ladder (s0 : State) (D : va_G) (cB cI cJ cD : ClassId) (X : Nat → Prop) (b : Nat) (sb x : vSB) (v : vArr) (a : Nat) {hi hm : zHp} {nx : Nat} {Q : Option Value → zHp → zHp → Nat → Prop} (hv : v.1 < 1000 ∧ ∀ i, i < v.1 → iOk (v.2 i)) (ho : iLadder cI hi a v) (hW : cW X cB b sb hm) (h : bApps sb (pSteps v.2 0 v.1 ++ [[59]]) = some x) (hQ : ∀ hm' nx', cW X cB b x hm' → lFr X hm hm' → Q none hi hm' nx') : zM s0 D (zty cB cI cJ cD) yX5_tell cX5_tell 3 none 6 148 (sbRho sb x) (sbRho sb x) [.ref a, .ref b] hi hm nx Q := by
  refine zM_of (by decide +kernel) (Nat.le_of_ble_eq_true rfl) ?_
  refine zV_eq (lo2 := [(0, .ref a), (1, .ref b)]) rfl rfl rfl rfl ?_
  have hFr : lFr X hm hm := lFr.rf
  obtain ⟨bm, hc, hb⟩ := ho
  refine zV_blk (pc' := 2) (lo' := [(2, .int 0), (0, .ref a), (1, .ref b)]) (st' := []) [.iconst 0, .istore_n 2] (by decide +kernel) rfl ?_
  refine zV_pick (lo2 := [(0, .ref a), (1, .ref b), (2, .int (nI 0))]) [1, 2, 0] rfl ?_
  exact ct_ladder_2 s0 D cB cI cJ cD X b x v a bm _ hv hc hb hQ v.1 0 _ _ _ (by omega) hW h hFr
def pRowYear (v : vRow) (i : Nat) : List (List Int32) := if k_isLeap_Row v (nI i) = some true then [[32], dec i] else []
def pRowYears (v : vRow) : Nat → Nat → List (List Int32)
  | _, 0 => []
  | i, k + 1 => pRowYear v i ++ pRowYears v (i + 1) k
def pRow (v : vRow) : List (List Int32) := L_row_ :: decI v.2 :: (pRowYears v 0 v.2.toNatClampNeg ++ [[59]])
def roOk (v : vRow) : Prop := iOk v.2 ∧ v.2.toNatClampNeg < 1000 ∧ ∀ i, i < v.2.toNatClampNeg → ∃ r, k_isLeap_Row v (nI i) = some r
theorem oX8_tell : zO yX8_tell cX8_tell 3 none 1 := ⟨zT_mem 955 (by decide +kernel) rfl, (zT_mem 104 (by decide +kernel) rfl), (by decide +kernel), (by decide +kernel), (by decide +kernel)⟩
set_option maxHeartbeats 1000000 in
set_option maxRecDepth 100000 in
theorem ct_row_16 (s0 : State) (D : va_G) (cB cI cJ cD : ClassId) (X : Nat → Prop) (b : Nat) (x : vSB) (v : vRow) (a bm : Nat) (hm0 : zHp) {hi : zHp} {Q : Option Value → zHp → zHp → Nat → Prop} (hv : roOk v) (hc : hi a = some (.inr (8, [.ref bm, .int v.2]))) (hb : iArr cI hi bm v.1) (hQ : ∀ hm' nx', cW X cB b x hm' → lFr X hm0 hm' → Q none hi hm' nx') : ∀ (k i : Nat) (sb : vSB) (hm : zHp) (nx : Nat) (_ : i + k = v.2.toNatClampNeg) (_ : cW X cB b sb hm) (_ : bApps sb (pRowYears v i k ++ [[59]]) = some x) (_ : lFr X hm0 hm), zV s0 D (zty cB cI cJ cD) yX8_tell cX8_tell 3 none 6 148 (sbRho sb x) (sbRho sb x) 16 [(0, .ref a), (1, .ref b), (2, .int (nI i))] [] hi hm nx Q
  | 0, i, sb, hm, nx, hk, hW, h, hFr => by
    have hn := hv.2.1
    have e2 := iOk_eq hv.1
    refine zV_blk (pc' := 18) (lo' := [(0, .ref a), (1, .ref b), (2, .int (nI i))]) (st' := [.ref a, .int (nI i)]) [.iload_n 2, .aload_n 0] (by decide +kernel) rfl ?_
    refine zV_get (ci := 8) (idx := 13) (k := 1) (N := 2) (fs := [.ref bm, .int v.2]) (v := .int v.2) (Or.inl hc) rfl z_in8 (by decide) (zT_mem 487 (by decide +kernel) rfl) rfl (by decide +kernel) ?_
    rw [e2]
    refine zV_icmp_ge (tgt := 49) (off := 28) (by decide +kernel) (by decide) (fun _ => ?_) (fun q => absurd (nI_le (show v.2.toNatClampNeg ≤ i by omega) (by omega)) q)
    rw [pRowYears, List.nil_append] at h
    refine zV_blk (pc' := 52) (lo' := [(0, .ref a), (1, .ref b), (2, .int (nI i))]) (st' := [.int 59, .ref b]) [.aload_n 1, .bipush 59] (by decide +kernel) rfl ?_
    refine b_C (idx := 41) (c := 59) hW h (by decide) (by decide) (by decide +kernel) (zT_mem 963 (by decide +kernel) rfl) (Nat.le_of_ble_eq_true rfl) ⟨by decide, by decide⟩ (by decide +kernel) (fun hm nx h hW hFr2 => ?_)
    replace hFr := hFr.tr hFr2; clear hFr2
    refine zV_blk (pc' := 56) (lo' := [(0, .ref a), (1, .ref b), (2, .int (nI i))]) (st' := []) [.pop] (by decide +kernel) rfl ?_
    obtain rfl := Option.some.inj h
    exact zV_vret rfl (by decide +kernel) (hQ _ _ hW hFr)
  | k + 1, i, sb, hm, nx, hk, hW, h, hFr => by
    have hn := hv.2.1
    have e2 := iOk_eq hv.1
    refine zV_blk (pc' := 18) (lo' := [(0, .ref a), (1, .ref b), (2, .int (nI i))]) (st' := [.ref a, .int (nI i)]) [.iload_n 2, .aload_n 0] (by decide +kernel) rfl ?_
    refine zV_get (ci := 8) (idx := 13) (k := 1) (N := 2) (fs := [.ref bm, .int v.2]) (v := .int v.2) (Or.inl hc) rfl z_in8 (by decide) (zT_mem 487 (by decide +kernel) rfl) rfl (by decide +kernel) ?_
    rw [e2]
    refine zV_icmp_ge (tgt := 49) (off := 28) (by decide +kernel) (by decide) (fun q => absurd q (nI_ge (show i < v.2.toNatClampNeg by omega) (by omega))) (fun _ => ?_)
    rw [pRowYears, List.append_assoc] at h
    obtain ⟨r, hr⟩ := hv.2.2 i (by omega)
    refine zV_blk (pc' := 26) (lo' := [(0, .ref a), (1, .ref b), (2, .int (nI i))]) (st' := [.int (nI i), .ref a]) [.aload_n 0, .iload_n 2] (by decide +kernel) rfl ?_
    refine zV_roV (idx := 37) (As := [.int (nI i)]) (rest := []) (fs := [.ref bm, .int v.2]) (ci := 8) (fun Q2 hQ2 => ck_isLeap_Row s0 D cB cI cJ cD v (nI i) a r hr ⟨bm, hc, hb⟩ hQ2) oX8_isLeap (Or.inl hc) rfl (zT_mem 959 (by decide +kernel) rfl) (zT_mem 960 (by decide +kernel) rfl) (zT_mem 961 (by decide +kernel) rfl) rfl rfl (Nat.le_of_ble_eq_true rfl) ⟨by decide, by decide⟩ (by decide +kernel) ?_
    refine zV_eq (st2 := [.int (zb r)]) rfl rfl rfl rfl ?_
    refine zV_bif_eq (tgt := 43) (off := 14) (by decide +kernel) (by decide) (fun q => ?_) (fun q => ?_)
    · rw [show pRowYear v i = [] by unfold pRowYear; rw [if_neg (by rw [hr]; exact fun e => q (Option.some.inj e))], List.nil_append] at h
      refine zV_blk (pc' := 46) (lo' := [(2, .int ((nI i) + 1)), (0, .ref a), (1, .ref b)]) (st' := []) [.iinc 2 1] (by decide +kernel) rfl ?_
      refine zV_goto (tgt := 16) (off := -30) (by decide +kernel) (by decide) ?_
      rw [show nI i + 1 = nI (i + 1) from nI_1 i]
      refine zV_pick (lo2 := [(0, .ref a), (1, .ref b), (2, .int (nI (i + 1)))]) [1, 2, 0] rfl ?_
      exact ct_row_16 s0 D cB cI cJ cD X b x v a bm hm0 hv hc hb hQ k (i + 1) _ _ _ (by omega) hW h hFr
    · rw [show pRowYear v i = [[32], decI (nI i)] by unfold pRowYear; rw [if_pos (by rw [hr, q]), (iOk_nI (by omega)).2], List.cons_append, List.cons_append, List.nil_append] at h
      refine zV_blk (pc' := 35) (lo' := [(0, .ref a), (1, .ref b), (2, .int (nI i))]) (st' := [.int 32, .ref b]) [.aload_n 1, .bipush 32] (by decide +kernel) rfl ?_
      refine b_C (idx := 41) (c := 32) hW h (by decide) (by decide) (by decide +kernel) (zT_mem 963 (by decide +kernel) rfl) (Nat.le_of_ble_eq_true rfl) ⟨by decide, by decide⟩ (by decide +kernel) (fun hm nx h hW hFr2 => ?_)
      replace hFr := hFr.tr hFr2; clear hFr2
      refine zV_blk (pc' := 39) (lo' := [(0, .ref a), (1, .ref b), (2, .int (nI i))]) (st' := [.int (nI i), .ref b]) [.iload_n 2] (by decide +kernel) rfl ?_
      refine b_I (idx := 34) (v := nI i) hW h (iOk_nI (by omega)).1 (zT_mem 958 (by decide +kernel) rfl) (Nat.le_of_ble_eq_true rfl) ⟨by decide, by decide⟩ (by decide +kernel) (fun hm nx h hW hFr2 => ?_)
      replace hFr := hFr.tr hFr2; clear hFr2
      refine zV_blk (pc' := 43) (lo' := [(0, .ref a), (1, .ref b), (2, .int (nI i))]) (st' := []) [.pop] (by decide +kernel) rfl ?_
      refine zV_blk (pc' := 46) (lo' := [(2, .int ((nI i) + 1)), (0, .ref a), (1, .ref b)]) (st' := []) [.iinc 2 1] (by decide +kernel) rfl ?_
      refine zV_goto (tgt := 16) (off := -30) (by decide +kernel) (by decide) ?_
      rw [show nI i + 1 = nI (i + 1) from nI_1 i]
      refine zV_pick (lo2 := [(0, .ref a), (1, .ref b), (2, .int (nI (i + 1)))]) [1, 2, 0] rfl ?_
      exact ct_row_16 s0 D cB cI cJ cD X b x v a bm hm0 hv hc hb hQ k (i + 1) _ _ _ (by omega) hW h hFr
set_option maxRecDepth 100000 in
theorem ct_row (s0 : State) (D : va_G) (cB cI cJ cD : ClassId) (X : Nat → Prop) (b : Nat) (sb x : vSB) (v : vRow) (a : Nat) {hi hm : zHp} {nx : Nat} {Q : Option Value → zHp → zHp → Nat → Prop} (hv : roOk v) (ho : iRow cI hi a v) (hW : cW X cB b sb hm) (h : bApps sb (pRow v) = some x) (hQ : ∀ hm' nx', cW X cB b x hm' → lFr X hm hm' → Q none hi hm' nx') : zM s0 D (zty cB cI cJ cD) yX8_tell cX8_tell 3 none 6 148 (sbRho sb x) (sbRho sb x) [.ref a, .ref b] hi hm nx Q := by
  refine zM_of (by decide +kernel) (Nat.le_of_ble_eq_true rfl) ?_
  refine zV_eq (lo2 := [(0, .ref a), (1, .ref b)]) rfl rfl rfl rfl ?_
  have hFr : lFr X hm hm := lFr.rf
  obtain ⟨bm, hc, hb⟩ := ho
  unfold pRow at h
  refine zV_blk (pc' := 1) (lo' := [(0, .ref a), (1, .ref b)]) (st' := [.ref b]) [.aload_n 1] (by decide +kernel) rfl ?_
  refine zl_RX8_26 rfl (by decide +kernel) (fun aw hs => ?_)
  refine b_S (idx := 28) (l := L_row_) hW h hs (by decide +kernel) (zT_mem 957 (by decide +kernel) rfl) (Nat.le_of_ble_eq_true rfl) ⟨by decide, by decide⟩ (by decide +kernel) (fun hm nx h hW hFr2 => ?_)
  replace hFr := hFr.tr hFr2; clear hFr2
  clear hs
  refine zV_blk (pc' := 7) (lo' := [(0, .ref a), (1, .ref b)]) (st' := [.ref a, .ref b]) [.aload_n 0] (by decide +kernel) rfl ?_
  refine zV_get (ci := 8) (idx := 13) (k := 1) (N := 2) (fs := [.ref bm, .int v.2]) (v := .int v.2) (Or.inl hc) rfl z_in8 (by decide) (zT_mem 487 (by decide +kernel) rfl) rfl (by decide +kernel) ?_
  refine b_I (idx := 34) (v := v.2) hW h hv.1 (zT_mem 958 (by decide +kernel) rfl) (Nat.le_of_ble_eq_true rfl) ⟨by decide, by decide⟩ (by decide +kernel) (fun hm nx h hW hFr2 => ?_)
  replace hFr := hFr.tr hFr2; clear hFr2
  refine zV_blk (pc' := 16) (lo' := [(2, .int 0), (0, .ref a), (1, .ref b)]) (st' := []) [.pop, .iconst 0, .istore_n 2] (by decide +kernel) rfl ?_
  refine zV_pick (lo2 := [(0, .ref a), (1, .ref b), (2, .int (nI 0))]) [1, 2, 0] rfl ?_
  exact ct_row_16 s0 D cB cI cJ cD X b x v a bm _ hv hc hb hQ v.2.toNatClampNeg 0 _ _ _ (by omega) hW h hFr
