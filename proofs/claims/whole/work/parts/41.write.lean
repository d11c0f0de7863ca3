/-! ===== what a design tells, whole; write, octet ===== -/
def pLaw : vLaw → List (List Int32)
  | .inl _ => []
  | .inr (.inl v) => pEven v
  | .inr (.inr (.inl v)) => pSteps v.2 0 v.1 ++ [[59]]
  | .inr (.inr (.inr v)) => pRow v
def laOk : vLaw → Prop
  | .inl _ => True
  | .inr (.inl v) => iOk v.1 ∧ iOk v.2.1 ∧ iOk v.2.2
  | .inr (.inr (.inl v)) => v.1 < 1000 ∧ ∀ i, i < v.1 → iOk (v.2 i)
  | .inr (.inr (.inr v)) => roOk v
def deOk (v : vDes) : Prop := frOk v.1 ∧ laOk v.2.1 ∧ tyOk v.2.2
def pDes (v : vDes) : List (List Int32) := pYear v.1 ++ (pLaw v.2.1 ++ (pMW v.1 ++ pTrue v.2.2))
set_option maxRecDepth 100000 in
theorem dt_law (s0 : State) (D : va_G) (cB cI cJ cD : ClassId) (X : Nat → Prop) (b : Nat) (sb sb1 : vSB) (v : vLaw) (a : Nat) {y : MethodName} {cc : ByteArray} {nL : Nat} {ret : Option FieldType} {rF rL mc ms pc idx : Nat} {lo : List (Nat × Value)} {st rest : List Value} {hi hm : zHp} {nx : Nat} {Q : Option Value → zHp → zHp → Nat → Prop} (hv : laOk v) (ho : iLaw cI hi a v) (hW : cW X cB b sb hm) (h : bApps sb (pLaw v) = some sb1) (hlink : Cond.methodLink y.cls idx yX6_tell ∈ zT) (hst : st = .ref b :: .ref a :: rest) (hrest : (rest.map fun v => v.category).sum ≤ 8) (hR : 6 + 1 ≤ rF ∧ 170 ≤ rL) (hmc : sbRho sb sb1 ≤ mc ∧ sbRho sb sb1 ≤ ms) (hd : decode cc pc = .ok (.invokevirtual idx, 3)) (k : ∀ hm' nx', cW X cB b sb1 hm' → lFr X hm hm' → zV s0 D (zty cB cI cJ cD) y cc nL ret rF rL (mc - sbRho sb sb1) (ms - sbRho sb sb1) (pc + 3) lo rest hi hm' nx' Q) : zV s0 D (zty cB cI cJ cD) y cc nL ret rF rL mc ms pc lo st hi hm nx Q := by
  subst hst
  rcases v with u | v | v | v
  · have hk := ho
    refine zV_callV (idx := idx) (As := [.ref b]) (rest := rest) (ct_none s0 D cB cI cJ cD X b sb sb1 a (Q := fun v' hi' hm' nx' => v' = none ∧ hi = hi' ∧ cW X cB b sb1 hm' ∧ lFr X hm hm') hW h (fun hm' nx' g1 g2 => ⟨rfl, rfl, g1, g2⟩)) oX6_tell (ci := 6) (Or.inl hk) rfl hlink (zT_mem 932 (by decide +kernel) rfl) (zT_mem 933 (by decide +kernel) rfl) rfl rfl hrest ⟨by omega, by omega⟩ hmc hd ?_
    rintro _ _ hm2 nx2 ⟨rfl, rfl, g1, g2⟩
    exact k hm2 nx2 g1 g2
  · have hk := ho
    refine zV_callU (x := yX6_tell) (owner := RX6) (C := RX1) (idx := idx) (As := [.ref b]) (rest := rest) (ci := 1) (b0 := cX6_tell) (m0 := 2) (r0 := none) (ct_even s0 D cB cI cJ cD X b sb sb1 v a (Q := fun v' hi' hm' nx' => v' = none ∧ hi = hi' ∧ cW X cB b sb1 hm' ∧ lFr X hm hm') hv ho hW h (fun hm' nx' g1 g2 => ⟨rfl, rfl, g1, g2⟩)) oX1_tell (Or.inl hk) rfl hlink (zT_mem 934 (by decide +kernel) rfl) (zT_mem 932 (by decide +kernel) rfl) (zT_mem 935 (by decide +kernel) rfl) (zT_mem 936 (by decide +kernel) rfl) (zT_mem 964 (by decide +kernel) rfl) ⟨(by decide +kernel), (by decide +kernel), (by decide +kernel)⟩ rfl rfl hrest ⟨by omega, by omega⟩ hmc hd ?_
    rintro _ _ hm2 nx2 ⟨rfl, rfl, g1, g2⟩
    exact k hm2 nx2 g1 g2
  · obtain ⟨_, hk, _⟩ := id ho
    refine zV_callU (x := yX6_tell) (owner := RX6) (C := RX5) (idx := idx) (As := [.ref b]) (rest := rest) (ci := 5) (b0 := cX6_tell) (m0 := 2) (r0 := none) (ct_ladder s0 D cB cI cJ cD X b sb sb1 v a (Q := fun v' hi' hm' nx' => v' = none ∧ hi = hi' ∧ cW X cB b sb1 hm' ∧ lFr X hm hm') hv ho hW h (fun hm' nx' g1 g2 => ⟨rfl, rfl, g1, g2⟩)) oX5_tell (Or.inl hk) rfl hlink (zT_mem 934 (by decide +kernel) rfl) (zT_mem 932 (by decide +kernel) rfl) (zT_mem 944 (by decide +kernel) rfl) (zT_mem 945 (by decide +kernel) rfl) (zT_mem 964 (by decide +kernel) rfl) ⟨(by decide +kernel), (by decide +kernel), (by decide +kernel)⟩ rfl rfl hrest ⟨by omega, by omega⟩ hmc hd ?_
    rintro _ _ hm2 nx2 ⟨rfl, rfl, g1, g2⟩
    exact k hm2 nx2 g1 g2
  · obtain ⟨_, hk, _⟩ := id ho
    refine zV_callU (x := yX6_tell) (owner := RX6) (C := RX8) (idx := idx) (As := [.ref b]) (rest := rest) (ci := 8) (b0 := cX6_tell) (m0 := 2) (r0 := none) (ct_row s0 D cB cI cJ cD X b sb sb1 v a (Q := fun v' hi' hm' nx' => v' = none ∧ hi = hi' ∧ cW X cB b sb1 hm' ∧ lFr X hm hm') hv ho hW h (fun hm' nx' g1 g2 => ⟨rfl, rfl, g1, g2⟩)) oX8_tell (Or.inl hk) rfl hlink (zT_mem 934 (by decide +kernel) rfl) (zT_mem 932 (by decide +kernel) rfl) (zT_mem 953 (by decide +kernel) rfl) (zT_mem 954 (by decide +kernel) rfl) (zT_mem 964 (by decide +kernel) rfl) ⟨(by decide +kernel), (by decide +kernel), (by decide +kernel)⟩ rfl rfl hrest ⟨by omega, by omega⟩ hmc hd ?_
    rintro _ _ hm2 nx2 ⟨rfl, rfl, g1, g2⟩
    exact k hm2 nx2 g1 g2
theorem oX0_tell : zO yX0_tell cX0_tell 2 none 1 := ⟨zT_mem 825 (by decide +kernel) rfl, (zT_mem 105 (by decide +kernel) rfl), (by decide +kernel), (by decide +kernel), (by decide +kernel)⟩
set_option maxRecDepth 100000 in
theorem ct_des (s0 : State) (D : va_G) (cB cI cJ cD : ClassId) (X : Nat → Prop) (b : Nat) (sb x : vSB) (v : vDes) (a : Nat) {hi hm : zHp} {nx : Nat} {Q : Option Value → zHp → zHp → Nat → Prop} (hv : deOk v) (ho : iDes cI hi a v) (hW : cW X cB b sb hm) (h : bApps sb (pDes v) = some x) (hQ : ∀ hm' nx', cW X cB b x hm' → lFr X hm hm' → Q none hi hm' nx') : zM s0 D (zty cB cI cJ cD) yX0_tell cX0_tell 2 none 7 170 (sbRho sb x) (sbRho sb x) [.ref a, .ref b] hi hm nx Q := by
  refine zM_of (by decide +kernel) (Nat.le_of_ble_eq_true rfl) ?_
  refine zV_eq (lo2 := [(0, .ref a), (1, .ref b)]) rfl rfl rfl rfl ?_
  have hFr : lFr X hm hm := lFr.rf
  obtain ⟨e1, e2, e3, hc, i1, i2, i3⟩ := ho
  unfold pDes at h
  rw [bApps_app] at h
  obtain ⟨s1, hs1, h⟩ := zbind h
  have m1 := sbRho_step (bApps_mono _ _ _ hs1) (bApps_mono _ _ _ h)
  refine zV_blk (pc' := 1) (lo' := [(0, .ref a), (1, .ref b)]) (st' := [.ref a]) [.aload_n 0] (by decide +kernel) rfl ?_
  refine zV_get (ci := 0) (idx := 9) (k := 0) (N := 3) (fs := [.ref e1, .ref e2, .ref e3]) (v := .ref e1) (Or.inl hc) rfl z_in0 (by decide) (zT_mem 563 (by decide +kernel) rfl) rfl (by decide +kernel) ?_
  refine zV_blk (pc' := 5) (lo' := [(0, .ref a), (1, .ref b)]) (st' := [.ref b, .ref e1]) [.aload_n 1] (by decide +kernel) rfl ?_
  obtain ⟨bm, hcf, hbf⟩ := id i1
  refine zV_callV (idx := 26) (As := [.ref b]) (rest := []) (ct_tellYear s0 D cB cI cJ cD X b sb s1 v.1 e1 (Q := fun v' hi' hm' nx' => v' = none ∧ hi = hi' ∧ cW X cB b s1 hm' ∧ lFr X hm hm') hv.1 i1 hW hs1 (fun hm' nx' g1 g2 => ⟨rfl, rfl, g1, g2⟩)) oX3_tellYear (ci := 3) (Or.inl hcf) rfl (zT_mem 826 (by decide +kernel) rfl) (zT_mem 827 (by decide +kernel) rfl) (zT_mem 828 (by decide +kernel) rfl) rfl rfl (Nat.le_of_ble_eq_true rfl) ⟨by decide, by decide⟩ ⟨m1.1, m1.1⟩ (by decide +kernel) ?_
  rintro _ _ hms1 nxs1 ⟨rfl, rfl, hW2, hF2⟩
  clear hW; have hW := hW2; clear hW2; replace hFr := hFr.tr hF2; clear hF2
  refine zV_eq (st2 := []) rfl rfl rfl rfl ?_
  refine zV_less (mc' := sbRho s1 x) (ms' := sbRho s1 x) m1.2 m1.2 ?_
  rw [bApps_app] at h
  obtain ⟨s2, hs2, h⟩ := zbind h
  have m2 := sbRho_step (bApps_mono _ _ _ hs2) (bApps_mono _ _ _ h)
  refine zV_blk (pc' := 9) (lo' := [(0, .ref a), (1, .ref b)]) (st' := [.ref a]) [.aload_n 0] (by decide +kernel) rfl ?_
  refine zV_get (ci := 0) (idx := 15) (k := 1) (N := 3) (fs := [.ref e1, .ref e2, .ref e3]) (v := .ref e2) (Or.inl hc) rfl z_in0 (by decide) (zT_mem 565 (by decide +kernel) rfl) rfl (by decide +kernel) ?_
  refine zV_blk (pc' := 13) (lo' := [(0, .ref a), (1, .ref b)]) (st' := [.ref b, .ref e2]) [.aload_n 1] (by decide +kernel) rfl ?_
  refine dt_law s0 D cB cI cJ cD X b s1 s2 v.2.1 e2 (idx := 32) (rest := []) hv.2.1 i2 hW hs2 (zT_mem 931 (by decide +kernel) rfl) rfl (Nat.le_of_ble_eq_true rfl) ⟨by decide, by decide⟩ ⟨m2.1, m2.1⟩ (by decide +kernel) (fun hms2 nxs2 hW2 hF2 => ?_)
  clear hW; have hW := hW2; clear hW2; replace hFr := hFr.tr hF2; clear hF2
  refine zV_less (mc' := sbRho s2 x) (ms' := sbRho s2 x) m2.2 m2.2 ?_
  rw [bApps_app] at h
  obtain ⟨s3, hs3, h⟩ := zbind h
  have m3 := sbRho_step (bApps_mono _ _ _ hs3) (bApps_mono _ _ _ h)
  refine zV_blk (pc' := 17) (lo' := [(0, .ref a), (1, .ref b)]) (st' := [.ref a]) [.aload_n 0] (by decide +kernel) rfl ?_
  refine zV_get (ci := 0) (idx := 9) (k := 0) (N := 3) (fs := [.ref e1, .ref e2, .ref e3]) (v := .ref e1) (Or.inl hc) rfl z_in0 (by decide) (zT_mem 563 (by decide +kernel) rfl) rfl (by decide +kernel) ?_
  refine zV_blk (pc' := 21) (lo' := [(0, .ref a), (1, .ref b)]) (st' := [.ref b, .ref e1]) [.aload_n 1] (by decide +kernel) rfl ?_
  refine zV_callV (idx := 37) (As := [.ref b]) (rest := []) (ct_tellMW s0 D cB cI cJ cD X b s2 s3 v.1 e1 (Q := fun v' hi' hm' nx' => v' = none ∧ hi = hi' ∧ cW X cB b s3 hm' ∧ lFr X hms2 hm') hv.1 i1 hW hs3 (fun hm' nx' g1 g2 => ⟨rfl, rfl, g1, g2⟩)) oX3_tellMW (ci := 3) (Or.inl hcf) rfl (zT_mem 965 (by decide +kernel) rfl) (zT_mem 966 (by decide +kernel) rfl) (zT_mem 967 (by decide +kernel) rfl) rfl rfl (Nat.le_of_ble_eq_true rfl) ⟨by decide, by decide⟩ ⟨m3.1, m3.1⟩ (by decide +kernel) ?_
  rintro _ _ hms3 nxs3 ⟨rfl, rfl, hW2, hF2⟩
  clear hW; have hW := hW2; clear hW2; replace hFr := hFr.tr hF2; clear hF2
  refine zV_eq (st2 := []) rfl rfl rfl rfl ?_
  refine zV_less (mc' := sbRho s3 x) (ms' := sbRho s3 x) m3.2 m3.2 ?_
  refine zV_blk (pc' := 25) (lo' := [(0, .ref a), (1, .ref b)]) (st' := [.ref a]) [.aload_n 0] (by decide +kernel) rfl ?_
  refine zV_get (ci := 0) (idx := 19) (k := 2) (N := 3) (fs := [.ref e1, .ref e2, .ref e3]) (v := .ref e3) (Or.inl hc) rfl z_in0 (by decide) (zT_mem 567 (by decide +kernel) rfl) rfl (by decide +kernel) ?_
  refine zV_blk (pc' := 29) (lo' := [(0, .ref a), (1, .ref b)]) (st' := [.ref b, .ref e3]) [.aload_n 1] (by decide +kernel) rfl ?_
  have hx := h
  refine zV_callV (idx := 40) (As := [.ref b]) (rest := []) (ct_true s0 D cB cI cJ cD X b s3 x v.2.2 e3 (Q := fun v' hi' hm' nx' => v' = none ∧ hi = hi' ∧ cW X cB b x hm' ∧ lFr X hms3 hm') hv.2.2 i3 hW hx (fun hm' nx' g1 g2 => ⟨rfl, rfl, g1, g2⟩)) oX10_tell (ci := 10) (Or.inl i3) rfl (zT_mem 973 (by decide +kernel) rfl) (zT_mem 974 (by decide +kernel) rfl) (zT_mem 975 (by decide +kernel) rfl) rfl rfl (Nat.le_of_ble_eq_true rfl) ⟨by decide, by decide⟩ ⟨Nat.le_refl _, Nat.le_refl _⟩ (by decide +kernel) ?_
  rintro _ _ hmx nxx ⟨rfl, rfl, hW2, hF2⟩
  clear hW; have hW := hW2; clear hW2; replace hFr := hFr.tr hF2; clear hF2
  refine zV_eq (st2 := []) rfl rfl rfl rfl ?_
  exact zV_vret rfl (by decide +kernel) (hQ _ _ hW hFr)
theorem zAr.keepG {X : Nat → Prop} {hm hm' : zHp} {c : ClassId} {n : Nat} {r : Option Nat} {f : Option ((Nat → Int32) ⊕ (Nat → Int64))} (h : zAr X hm c n r f) (h1 : ∀ (q : Nat) (g : Nat → Int32), hm q = some (.inl (c, n, .inl g)) → hm' q = some (.inl (c, n, .inl g))) (h2 : ∀ (q : Nat) (g : Nat → Int64), hm q = some (.inl (c, n, .inr (.inl g))) → hm' q = some (.inl (c, n, .inr (.inl g)))) : zAr X hm' c n r f := by
  rcases h with h | ⟨a, g, e1, e2, e3, e4⟩ | ⟨a, g, e1, e2, e3, e4⟩
  · exact Or.inl h
  · exact Or.inr (Or.inl ⟨a, g, e1, e2, h1 _ _ e3, e4⟩)
  · exact Or.inr (Or.inr ⟨a, g, e1, e2, h2 _ _ e3, e4⟩)
theorem zAr.keepJ {X : Nat → Prop} {hm hm' : zHp} {c : ClassId} {n : Nat} {r : Option Nat} {f : Option (Nat → Int64)} (h : zAr X hm c n r (f.map .inr)) (h2 : ∀ (q : Nat) (g : Nat → Int64), hm q = some (.inl (c, n, .inr (.inl g))) → hm' q = some (.inl (c, n, .inr (.inl g)))) : zAr X hm' c n r (f.map .inr) := by
  rcases h with h | ⟨a, g, e1, e2, e3, e4⟩ | ⟨a, g, e1, e2, e3, e4⟩
  · exact Or.inl h
  · cases f with
    | none => cases e2
    | some f => cases e2
  · exact Or.inr (Or.inr ⟨a, g, e1, e2, h2 _ _ e3, e4⟩)
theorem lW.sbw {X : Nat → Prop} {cB cI cJ cD : ClassId} {al l1 l2 l3 l4 l5 : Nat} {A tp : Nat → Int32} {dv : Nat → Option vDes} {cs : Nat → Int32} {cv : Nat → Option vDes} {jv : Option vJoint} {bo : Option (Nat → Int32)} {hg lw : Option (Nat → Int64)} {sb : vSB} {hi hm : zHp} (h : lW X cB cI cJ cD al l1 l2 l3 l4 l5 A tp dv cs cv jv bo hg lw sb hi hm) : ∃ X', bW X' cB l5 sb hm ∧ ∀ sb' hm', bW X' cB l5 sb' hm' → lFr X' hm hm' → lW X cB cI cJ cD al l1 l2 l3 l4 l5 A tp dv cs cv jv bo hg lw sb' hi hm' ∧ lFr X hm hm' := by
  obtain ⟨dz, cz, jz, bz, hz, lz, vb, ⟨h1, h2, h3, h4, h5, h6, h7⟩, r, ⟨a1, a2, a3, a4⟩, ⟨o1, o2, o3, o4, o5, o6, o7, o8, o9⟩⟩ := h
  refine ⟨fun q => hm q ≠ none ∧ q ≠ l5 ∧ q ≠ vb, ⟨vb, h6, h7, fun z => z.2.1 rfl, fun z => z.2.2 rfl, fun q z => z.1⟩, fun sb' hm' hB hF => ?_⟩
  obtain ⟨vb', g1, g2, g3, g4, g5⟩ := hB
  have kp : ∀ q e, hm q = some e → q ≠ l5 → q ≠ vb → hm' q = some e := fun q e hq n1 n2 => (hF q ⟨by rw [hq]; simp, n1, n2⟩).trans hq
  have nX : ∀ q, X q → hm' q = hm q := fun q hq => hF q ⟨o9 q hq, fun e => o7 (e ▸ hq), fun e => o8 (e ▸ hq)⟩
  have ne : ∀ {q : Nat} {e e' : va_E}, hm q = some e → ∀ {q' : Nat}, hm q' = some e' → e ≠ e' → q ≠ q' := fun hq q' hq' he z => by subst z; rw [hq] at hq'; exact he (Option.some.inj hq')
  have hvl : vb' ≠ l1 := fun z => g4 (by rw [z]; exact ⟨by rw [h2]; simp, ne h2 h6 (by intro z; cases z), o1.2.symm⟩)
  have hvX : ¬ X vb' := fun z => g4 ⟨o9 _ z, fun e => o7 (e ▸ z), fun e => o8 (e ▸ z)⟩
  refine ⟨⟨dz, cz, jz, bz, hz, lz, vb', ⟨kp _ _ h1 (ne h1 h6 (by intro z; cases z)) (ne h1 h7 (by intro z; cases z)), kp _ _ h2 (ne h2 h6 (by intro z; cases z)) o1.2.symm, kp _ _ h3 (ne h3 h6 (by intro z; cases z)) (ne h3 h7 zneS), kp _ _ h4 (ne h4 h6 (by intro z; cases z)) (ne h4 h7 (zneC o1.1.symm)), kp _ _ h5 (ne h5 h6 (by intro z; cases z)) (ne h5 h7 zneS), g1, g2⟩, r, ⟨a1.keepG (fun q g hq => kp _ _ hq (ne hq h6 (by intro z; cases z)) (ne hq h7 (zneC o1.1.symm))) (fun q g hq => kp _ _ hq (ne hq h6 (by intro z; cases z)) (ne hq h7 zneS)), a2.keepJ (fun q g hq => kp _ _ hq (ne hq h6 (by intro z; cases z)) (ne hq h7 zneS)), a3.keepJ (fun q g hq => kp _ _ hq (ne hq h6 (by intro z; cases z)) (ne hq h7 zneS)), a4⟩, ⟨⟨o1.1, hvl⟩, o2, o3, o4, o5, o6, o7, hvX, fun q hq => by rw [nX q hq]; exact o9 q hq⟩⟩, nX⟩
theorem oX11_write : zO yX11_write cX11_write 3 (some .int) 1 := ⟨zT_mem 765 (by decide +kernel) rfl, (zT_mem 89 (by decide +kernel) rfl), (by decide +kernel), (by decide +kernel), (by decide +kernel)⟩
def w_write (dv : Nat → Option vDes) (sb : vSB) (x1 : Int32) : Option (Int32 × vSB) := (k_designAt dv x1).bind (fun v1 => zOm v1 (some (-1, sb)) (fun z => (bApps (sbZero sb) (pDes z)).bind (fun s => some (nI s.1, s))))
set_option maxRecDepth 100000 in
theorem cw_write (s0 : State) (D : va_G) (X : Nat → Prop) (cB cI cJ cD : ClassId) (al l1 l2 l3 l4 l5 : Nat) (A : Nat → Int32) (tp : Nat → Int32) (dv : Nat → Option vDes) (cs : Nat → Int32) (cv : Nat → Option vDes) (jv : Option vJoint) (bo : Option (Nat → Int32)) (hg : Option (Nat → Int64)) (lw : Option (Nat → Int64)) (sb : vSB) (x1 : Int32) (x : Int32 × vSB) (h : w_write dv sb x1 = some x) {hi hm : zHp} {nx : Nat} {Q : Option Value → zHp → zHp → Nat → Prop} (hok : sbOk sb) (hdo : ∀ z, k_designAt dv x1 = some (some z) → deOk z) (hW : lW X cB cI cJ cD al l1 l2 l3 l4 l5 A tp dv cs cv jv bo hg lw sb hi hm) (hQ0 : ∀ (hm' : zHp) (nx' : Nat), lW X cB cI cJ cD al l1 l2 l3 l4 l5 A tp dv cs cv jv bo hg lw x.2 hi hm' → lFr X hm hm' → Q (some (.int x.1)) hi hm' nx') : zM s0 D (zty cB cI cJ cD) yX11_write cX11_write 3 (some .int) 8 191 (sbRho (sbZero sb) x.2) (sbRho (sbZero sb) x.2) [.ref al, .int x1] hi hm nx Q := by
  refine zM_of (by decide +kernel) (Nat.le_of_ble_eq_true rfl) ?_
  refine zV_eq (lo2 := [(0, .ref al), (1, .int x1)]) rfl rfl rfl rfl ?_
  unfold w_write at h
  refine zV_blk (pc' := 2) (lo' := [(0, .ref al), (1, .int x1)]) (st' := [.int x1, .ref al]) [.aload_n 0, .iload_n 1] (by decide +kernel) rfl ?_
  obtain ⟨v1, hv1, h⟩ := zbind h
  refine zV_designAt (idx := 105) (rest := []) v1 hv1 hW.ld (zT_mem 603 (by decide +kernel) rfl) rfl (Nat.le_of_ble_eq_true rfl) ⟨by decide, by decide⟩ (by decide +kernel) (fun hx => ?_) (fun b z hx ho => ?_)
  · subst hx; replace h := zOm_none h
    refine zV_blk (pc' := 7) (lo' := [(2, .null), (0, .ref al), (1, .int x1)]) (st' := [.null]) [.astore_n 2, .aload_n 2] (by decide +kernel) rfl ?_
    refine zV_ifnonnull (r := none) (tgt := 12) (off := 5) (by decide +kernel) (by decide) (fun _ q => by cases q) (fun _ => ?_)
    refine zV_blk (pc' := 11) (lo' := [(2, .null), (0, .ref al), (1, .int x1)]) (st' := [.int (-1)]) [.iconst (-1)] (by decide +kernel) rfl ?_
    obtain rfl := Option.some.inj h
    exact zV_iret rfl (by decide +kernel) (hQ0 _ _ hW lFr.rf)
  · subst hx; replace h := zOm_some h
    obtain ⟨v2, hv2, h⟩ := zbind h
    obtain rfl := Option.some.inj h
    obtain ⟨X', hB, hback⟩ := hW.sbw
    refine zV_blk (pc' := 7) (lo' := [(2, .ref b), (0, .ref al), (1, .int x1)]) (st' := [.ref b]) [.astore_n 2, .aload_n 2] (by decide +kernel) rfl ?_
    refine zV_ifnonnull (r := some b) (tgt := 12) (off := 5) (by decide +kernel) (by decide) (fun _ _ => ?_) (fun q => by cases q)
    refine zV_blk (pc' := 13) (lo' := [(2, .ref b), (0, .ref al), (1, .int x1)]) (st' := [.ref al]) [.aload_n 0] (by decide +kernel) rfl ?_
    refine l_get (idx := 45) (k := 9) (v := .ref l5) hW (by decide) (zT_mem 165 (by decide +kernel) rfl) (fun _ _ _ _ => rfl) (by decide +kernel) ?_
    refine zV_blk (pc' := 17) (lo' := [(2, .ref b), (0, .ref al), (1, .int x1)]) (st' := [.int 0, .ref l5]) [.iconst 0] (by decide +kernel) rfl ?_
    refine zV_eq (st2 := [.int (nI 0), .ref l5]) rfl rfl rfl rfl ?_
    obtain ⟨vb, c1, -⟩ := id hB
    refine zV_callV (idx := 207) (As := [.int (nI 0)]) (rest := []) (cs_setLength s0 D cB cI cJ cD X' l5 sb (Q := fun v' hi' hm' nx' => v' = none ∧ hi = hi' ∧ bW X' cB l5 (sbZero sb) hm' ∧ lFr X' hm hm') hB hok (fun hm' nx' g1 g2 => ⟨rfl, rfl, g1, g2⟩)) oJ4_setLength (ci := 13) (T := TJ4) (N := 4) (Or.inr c1) rfl (zT_mem 766 (by decide +kernel) rfl) (zT_mem 767 (by decide +kernel) rfl) (zT_mem 768 (by decide +kernel) rfl) rfl rfl (Nat.le_of_ble_eq_true rfl) ⟨by decide, by decide⟩ ⟨Nat.zero_le _, Nat.zero_le _⟩ (by decide +kernel) ?_
    rintro _ _ hm2 nx2 ⟨rfl, rfl, hB2, hF2⟩
    clear c1 vb
    obtain ⟨hW2, -⟩ := hback _ _ hB2 hF2
    refine zV_eq (st2 := []) rfl rfl rfl rfl ?_
    refine zV_blk (pc' := 22) (lo' := [(2, .ref b), (0, .ref al), (1, .int x1)]) (st' := [.ref al, .ref b]) [.aload_n 2, .aload_n 0] (by decide +kernel) rfl ?_
    refine l_get (idx := 45) (k := 9) (v := .ref l5) hW2 (by decide) (zT_mem 165 (by decide +kernel) rfl) (fun _ _ _ _ => rfl) (by decide +kernel) ?_
    obtain ⟨e1, e2, e3, hcd, -⟩ := id ho
    refine zV_callV (idx := 210) (As := [.ref l5]) (rest := []) (ct_des s0 D cB cI cJ cD X' l5 (sbZero sb) v2 z b (Q := fun v' hi' hm' nx' => v' = none ∧ hi = hi' ∧ cW X' cB l5 v2 hm' ∧ lFr X' hm2 hm') (hdo z hv1) ho ⟨hB2, sbZero_ok hok⟩ hv2 (fun hm' nx' g1 g2 => ⟨rfl, rfl, g1, g2⟩)) oX0_tell (ci := 0) (Or.inl hcd) rfl (zT_mem 822 (by decide +kernel) rfl) (zT_mem 823 (by decide +kernel) rfl) (zT_mem 824 (by decide +kernel) rfl) rfl rfl (Nat.le_of_ble_eq_true rfl) ⟨by decide, by decide⟩ ⟨Nat.le_refl _, Nat.le_refl _⟩ (by decide +kernel) ?_
    rintro _ _ hm3 nx3 ⟨rfl, rfl, hB3, hF3⟩
    obtain ⟨hW3, hF9⟩ := hback _ _ hB3.1 (hF2.tr hF3)
    refine zV_eq (st2 := []) rfl rfl rfl rfl ?_
    refine zV_blk (pc' := 29) (lo' := [(2, .ref b), (0, .ref al), (1, .int x1)]) (st' := [.ref al]) [.aload_n 0] (by decide +kernel) rfl ?_
    refine l_get (idx := 45) (k := 9) (v := .ref l5) hW3 (by decide) (zT_mem 165 (by decide +kernel) rfl) (fun _ _ _ _ => rfl) (by decide +kernel) ?_
    obtain ⟨vb, c1, -⟩ := id hB3.1
    refine zV_roV (idx := 214) (As := []) (rest := []) (ci := 13) (T := TJ4) (N := 4) (fun Q2 hQ2 => cs_length s0 D cB cI cJ cD X' l5 v2 hB3.1 hQ2) oJ4_length (Or.inr c1) rfl (zT_mem 984 (by decide +kernel) rfl) (zT_mem 985 (by decide +kernel) rfl) (zT_mem 986 (by decide +kernel) rfl) rfl rfl (Nat.le_of_ble_eq_true rfl) ⟨by decide, by decide⟩ (by decide +kernel) ?_
    exact zV_iret rfl (by decide +kernel) (hQ0 _ _ hW3 hF9)
theorem oX11_octet : zO yX11_octet cX11_octet 2 (some .int) 1 := ⟨zT_mem 994 (by decide +kernel) rfl, (zT_mem 89 (by decide +kernel) rfl), (by decide +kernel), (by decide +kernel), (by decide +kernel)⟩
def w_octet (sb : vSB) (x1 : Int32) : Option Int32 := if x1 < 0 then some (-1) else if x1 < nI sb.1 then some (((sb.2.2.2 x1.toNatClampNeg &&& 255).toUInt32 % 65536).toInt32) else some (-1)
set_option maxRecDepth 100000 in
theorem cw_octet (s0 : State) (D : va_G) (X : Nat → Prop) (cB cI cJ cD : ClassId) (al l1 l2 l3 l4 l5 : Nat) (A : Nat → Int32) (tp : Nat → Int32) (dv : Nat → Option vDes) (cs : Nat → Int32) (cv : Nat → Option vDes) (jv : Option vJoint) (bo : Option (Nat → Int32)) (hg : Option (Nat → Int64)) (lw : Option (Nat → Int64)) (sb : vSB) (x1 : Int32) (x : Int32) (h : w_octet sb x1 = some x) {hi hm : zHp} {nx : Nat} {Q : Option Value → zHp → zHp → Nat → Prop} (hok : sbOk sb) (hW : lW X cB cI cJ cD al l1 l2 l3 l4 l5 A tp dv cs cv jv bo hg lw sb hi hm) (hQ0 : Q (some (.int x)) hi hm nx) : zM s0 D (zty cB cI cJ cD) yX11_octet cX11_octet 2 (some .int) 4 88 0 0 [.ref al, .int x1] hi hm nx Q := by
  refine zM_of (by decide +kernel) (Nat.le_of_ble_eq_true rfl) ?_
  refine zV_eq (lo2 := [(0, .ref al), (1, .int x1)]) rfl rfl rfl rfl ?_
  unfold w_octet at h
  obtain ⟨X', hB, -⟩ := hW.sbw
  obtain ⟨vb, c1, -⟩ := id hB
  obtain ⟨ok1, ok2, ok3⟩ := id hok
  refine zV_blk (pc' := 1) (lo' := [(0, .ref al), (1, .int x1)]) (st' := [.int x1]) [.iload_n 1] (by decide +kernel) rfl ?_
  refine zV_if_lt (tgt := 15) (off := 14) (by decide +kernel) (by decide) (fun q => ?_) (fun q => ?_)
  · replace h := zif_pos q h
    refine zV_blk (pc' := 16) (lo' := [(0, .ref al), (1, .int x1)]) (st' := [.int (-1)]) [.iconst (-1)] (by decide +kernel) rfl ?_
    obtain rfl := Option.some.inj h
    exact zV_iret rfl (by decide +kernel) hQ0
  · replace h := zif_neg q h
    refine zV_blk (pc' := 6) (lo' := [(0, .ref al), (1, .int x1)]) (st' := [.ref al, .int x1]) [.iload_n 1, .aload_n 0] (by decide +kernel) rfl ?_
    refine l_get (idx := 45) (k := 9) (v := .ref l5) hW (by decide) (zT_mem 165 (by decide +kernel) rfl) (fun _ _ _ _ => rfl) (by decide +kernel) ?_
    refine zV_roV (idx := 214) (As := []) (rest := [.int x1]) (ci := 13) (T := TJ4) (N := 4) (fun Q2 hQ2 => cs_length s0 D cB cI cJ cD X' l5 sb hB hQ2) oJ4_length (Or.inr c1) rfl (zT_mem 984 (by decide +kernel) rfl) (zT_mem 985 (by decide +kernel) rfl) (zT_mem 986 (by decide +kernel) rfl) rfl rfl (Nat.le_of_ble_eq_true rfl) ⟨by decide, by decide⟩ (by decide +kernel) ?_
    refine zV_eq (st2 := [.int (nI sb.1), .int x1]) rfl rfl rfl rfl ?_
    refine zV_icmp_lt (tgt := 17) (off := 5) (by decide +kernel) (by decide) (fun q2 => ?_) (fun q2 => ?_)
    · replace h := zif_pos q2 h
      obtain ⟨i, hi1, rfl⟩ := nI_of q
      rw [nI_ltI hi1 (by omega)] at q2
      rw [nI_clamp hi1] at h
      refine zV_blk (pc' := 18) (lo' := [(0, .ref al), (1, .int (nI i))]) (st' := [.ref al]) [.aload_n 0] (by decide +kernel) rfl ?_
      refine l_get (idx := 45) (k := 9) (v := .ref l5) hW (by decide) (zT_mem 165 (by decide +kernel) rfl) (fun _ _ _ _ => rfl) (by decide +kernel) ?_
      refine zV_blk (pc' := 22) (lo' := [(0, .ref al), (1, .int (nI i))]) (st' := [.int (nI i), .ref l5]) [.iload_n 1] (by decide +kernel) rfl ?_
      refine zV_roV (idx := 216) (As := [.int (nI i)]) (rest := []) (ci := 13) (T := TJ4) (N := 4) (fun Q2 hQ2 => cs_charAt s0 D cB cI cJ cD X' l5 sb i hB hok q2 hQ2) oJ4_charAt (Or.inr c1) rfl (zT_mem 995 (by decide +kernel) rfl) (zT_mem 996 (by decide +kernel) rfl) (zT_mem 997 (by decide +kernel) rfl) rfl rfl (Nat.le_of_ble_eq_true rfl) ⟨by decide, by decide⟩ (by decide +kernel) ?_
      obtain rfl := Option.some.inj h
      exact zV_iret rfl (by decide +kernel) hQ0
    · replace h := zif_neg q2 h
      refine zV_blk (pc' := 16) (lo' := [(0, .ref al), (1, .int x1)]) (st' := [.int (-1)]) [.iconst (-1)] (by decide +kernel) rfl ?_
      obtain rfl := Option.some.inj h
      exact zV_iret rfl (by decide +kernel) hQ0
