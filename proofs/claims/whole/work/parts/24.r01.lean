def w_asRow_41 (n : Nat) (A : Nat → Int32) (dv : Nat → Option vDes) (cs : Nat → Int32) (cv : Nat → Option vDes) (x1 : Int32) (x2 : vDes) (x3 : Int32) (N4 : Nat) (s : Int32 × (Nat → Int32)) : Option ((Int32 × (Nat → Int32)) ⊕ (Int32 × (Nat → Int32) × (Nat → Option vDes) × (Nat → Int32) × (Nat → Option vDes))) := (if (x3 : Int32) < (s.1 : Int32) then (k_newRow (N4, s.2)).bind (fun v5 => (k_withLaw x2 (.inr (.inr (.inr v5)))).bind (fun v9 => (w_change  A dv cs cv x1 (some v9)).bind (fun v20 => some (.inr (x3, v20.1, v20.2.1, v20.2.2.1, v20.2.2.2))))) else (d_leapsBefore n x2.2.1 s.1).bind (fun v29 => zck (zin (s.1) N4) (some (.inl ((s.1 + 1), (upd s.2 (s.1 : Int32).toNatClampNeg v29))))))
set_option maxHeartbeats 4000000 in
set_option maxRecDepth 100000 in
theorem cw_asRow_41 (s0 : State) (D : va_G) (X : Nat → Prop) (cB cI cJ cD : ClassId) (al l1 l2 l3 l4 l5 : Nat) (A : Nat → Int32) (tp : Nat → Int32) (dv : Nat → Option vDes) (cs : Nat → Int32) (cv : Nat → Option vDes) (jv : Option vJoint) (bo : Option (Nat → Int32)) (hg : Option (Nat → Int64)) (lw : Option (Nat → Int64)) (sb : vSB) (n : Nat) (x1 : Int32) (x2 : vDes) (x3 : Int32) (N4 : Nat) (a2 : Nat) (a4 : Nat) (s : Int32 × (Nat → Int32)) {x : (Int32 × (Nat → Int32)) ⊕ (Int32 × (Nat → Int32) × (Nat → Option vDes) × (Nat → Int32) × (Nat → Option vDes))} {hi0 hi hm0 hm : zHp} {nx : Nat} {Q : Option Value → zHp → zHp → Nat → Prop} (hW : lA X cB cI cJ cD al l1 l2 l3 l4 l5 A tp dv cs cv jv bo hg lw sb N4 a4 s.2 hi hm) (ho2 : iDes cI hi a2 x2) (hXX : zX hi0 hi) (hFr : lFr X hm0 hm) (h : w_asRow_41 n A dv cs cv x1 x2 x3 N4 s = some x) (hL41 : ∀ s : Int32 × (Nat → Int32), x = (.inl s) → ∀ (hi' hm' : zHp) (nx' : Nat), zX hi0 hi' → lA X cB cI cJ cD al l1 l2 l3 l4 l5 A tp dv cs cv jv bo hg lw sb N4 a4 s.2 hi' hm' → lFr X hm0 hm' → zV s0 D (zty cB cI cJ cD) yX11_asRow cX11_asRow 6 (some .int) 3 64 2 5 41 [(0, .ref al), (1, .int x1), (2, .ref a2), (3, .int x3), (4, .ref a4), (5, .int s.1)] [] hi' hm' nx' Q) (hQ : ∀ r : Int32 × (Nat → Int32) × (Nat → Option vDes) × (Nat → Int32) × (Nat → Option vDes), x = (.inr r) → ∀ (hi' hm' : zHp) (nx' : Nat), zX hi0 hi' → lW X cB cI cJ cD al l1 l2 l3 l4 l5 r.2.1 tp r.2.2.1 r.2.2.2.1 r.2.2.2.2 jv bo hg lw sb hi' hm' → lFr X hm0 hm' → Q (some (.int r.1)) hi' hm' nx') : zV s0 D (zty cB cI cJ cD) yX11_asRow cX11_asRow 6 (some .int) 3 64 2 5 41 [(0, .ref al), (1, .int x1), (2, .ref a2), (3, .int x3), (4, .ref a4), (5, .int s.1)] [] hi hm nx Q := by
  unfold w_asRow_41 at h
  refine zV_blk (pc' := 44) (lo' := [(0, .ref al), (1, .int x1), (2, .ref a2), (3, .int x3), (4, .ref a4), (5, .int s.1)]) (st' := [.int x3, .int s.1]) [.iload 5, .iload_n 3] (by decide +kernel) rfl ?_
  refine zV_icmp_gt (tgt := 67) (off := 23) (by decide +kernel) (by decide) (fun q => ?_) (fun q => ?_)
  · replace h := zif_pos q h
    clear q
    refine la_fr hW (fun hi2 hm2 hX hW2 hFr2 ho1 => ?_)
    replace ho2 := ho2.mono hX
    clear hW; have hW := hW2; clear hW2
    replace hXX := hXX.tr hX; clear hX
    replace hFr := hFr.tr hFr2; clear hFr2
    refine zV_blk (pc' := 70) (lo' := [(0, .ref al), (1, .int x1), (2, .ref a2), (3, .int x3), (4, .ref a4), (5, .int s.1)]) (st' := [.ref a2, .int x1, .ref al]) [.aload_n 0, .iload_n 1, .aload_n 2] (by decide +kernel) rfl ?_
    refine zV_newX (mc := 1) (ms := 3) (ci := 8) (idx := 394) (N := 2) (fs := [.null, .int 0]) tyX8 rfl z_in8 tyX8_ok (zT_mem 1383 (by decide +kernel) rfl) (zT_mem 481 (by decide +kernel) rfl) (zT_mem 104 (by decide +kernel) rfl) (fun j hj => by rcases (show j = 0 ∨ j = 1 by omega) with rfl | rfl <;> rfl) (by decide +kernel) (fun _ hn3 => ?_)
    obtain ⟨b4, heb4⟩ : ∃ z : Nat, z = nx := ⟨_, rfl⟩
    rw [← heb4] at hn3 ⊢
    obtain ⟨nb4, henb4⟩ : ∃ z : Nat, z = b4 + 1 := ⟨_, rfl⟩
    rw [← henb4]; clear henb4 heb4
    refine zV_blk (pc' := 76) (lo' := [(0, .ref al), (1, .int x1), (2, .ref a2), (3, .int x3), (4, .ref a4), (5, .int s.1)]) (st' := [.ref a4, .ref b4, .ref b4, .ref a2, .int x1, .ref al]) [.dup, .aload 4] (by decide +kernel) rfl ?_
    obtain ⟨v5, hv5, h⟩ := zbind h
    refine zV_mk (idx := 396) (As := [.ref a4]) (rest := [.ref b4, .ref a2, .int x1, .ref al]) (e := .inr (8, [.ref a4, .int v5.2])) (fun Q2 hQ2 => ck_newRow s0 D cB cI cJ cD (N4, s.2) b4 a4 v5 hv5 ho1 (by simp [va_up]) hQ2) oX8_init rfl (zT_mem 1384 (by decide +kernel) rfl) (zT_mem 483 (by decide +kernel) rfl) rfl rfl (Nat.le_of_ble_eq_true rfl) ⟨by decide, by decide⟩ (by decide +kernel) hn3 (fun hi2 hX hc6 => ?_)
    replace ho2 := ho2.mono hX
    replace ho1 := ho1.mono hX
    replace hW := hW.mono hX
    replace hXX := hXX.tr hX; clear hX
    have eq7 : v5.1 = (N4, s.2) := by have hv := hv5; unfold k_newRow at hv; first | (cases hv; rfl) | (obtain ⟨w, hw, hv⟩ := zbind hv; cases hv; rfl)
    have ho8 : iRow cI hi2 b4 v5 := ⟨a4, hc6, (by rw [eq7]; exact ho1)⟩
    obtain ⟨v9, hv9, h⟩ := zbind h
    obtain ⟨b10, b11, b12, hc13, hc14, hc15, hc16⟩ := ho2
    refine zV_alV (mc := 0) (ms := 0) (fun hi' v' => ∃ a' : Nat, v' = some (.ref a') ∧ iDes cI hi' a' v9) (idx := 188) (rest := [.int x1, .ref al]) (fs := [.ref b10, .ref b11, .ref b12]) (ci := 0) (fun Q2 hQ2 => ck_withLaw s0 D cB cI cJ cD x2 (.inr (.inr (.inr v5))) a2 b4 v9 hv9 ⟨b10, b11, b12, hc13, hc14, hc15, hc16⟩ ho8 (fun a' hi' nx' hX hr => hQ2 _ _ _ hX ⟨a', rfl, hr⟩)) oX0_withLaw (Or.inl hc13) rfl (zT_mem 742 (by decide +kernel) rfl) (zT_mem 743 (by decide +kernel) rfl) (zT_mem 744 (by decide +kernel) rfl) rfl rfl (Nat.le_of_ble_eq_true rfl) ⟨by decide, by decide⟩ (by decide +kernel) ?_
    rintro _ hi2 nx19 hX ⟨b17, rfl, ho18⟩
    replace hc13 := hX _ _ hc13
    replace hc14 := hc14.mono hX
    replace hc15 := hc15.mono hX
    replace hc16 := hc16.mono hX
    replace ho1 := ho1.mono hX
    replace hW := hW.mono hX
    replace hXX := hXX.tr hX; clear hX
    refine zV_eq (st2 := [.ref b17, .int x1, .ref al]) rfl rfl rfl rfl ?_
    obtain ⟨v20, hv20, h⟩ := zbind h
    refine l_call (mc := 0) (ms := 0) (idx := 91) (As := [.int x1, .ref b17]) (rest := []) hW (fun Q2 hQ2 => cw_change s0 D X cB cI cJ cD al l1 l2 l3 l4 l5 A tp dv cs cv jv bo hg lw sb x1 (some v9) (some b17) v20 hv20 hW (Or.inr ⟨_, _, rfl, rfl, ho18⟩) hQ2) oX11_change rfl (zT_mem 576 (by decide +kernel) rfl) (zT_mem 578 (by decide +kernel) rfl) (zT_mem 10 (by decide +kernel) rfl) rfl rfl (Nat.le_of_ble_eq_true rfl) ⟨by decide, by decide⟩ (by decide +kernel) ?_
    intro hi2 hm2 nx21 hX hW2 hFr2
    replace hc13 := hX _ _ hc13
    replace hc14 := hc14.mono hX
    replace hc15 := hc15.mono hX
    replace hc16 := hc16.mono hX
    replace ho1 := ho1.mono hX
    clear hW; have hW := hW2; clear hW2
    replace hXX := hXX.tr hX; clear hX
    replace hFr := hFr.tr hFr2; clear hFr2
    refine zV_eq (st2 := []) rfl rfl rfl rfl ?_
    refine zV_blk (pc' := 86) (lo' := [(0, .ref al), (1, .int x1), (2, .ref a2), (3, .int x3), (4, .ref a4), (5, .int s.1)]) (st' := [.int x3]) [.iload_n 3] (by decide +kernel) rfl ?_
    obtain rfl := Option.some.inj h
    exact zV_iret rfl (by decide +kernel) (hQ _ rfl _ _ _ hXX hW hFr)
  · replace h := zif_neg q h
    clear q
    refine zV_blk (pc' := 52) (lo' := [(0, .ref al), (1, .int x1), (2, .ref a2), (3, .int x3), (4, .ref a4), (5, .int s.1)]) (st' := [.ref a2, .int s.1, .ref a4]) [.aload 4, .iload 5, .aload_n 2] (by decide +kernel) rfl ?_
    obtain ⟨b22, b23, b24, hc25, hc26, hc27, hc28⟩ := ho2
    refine zV_get (ci := 0) (idx := 95) (k := 1) (N := 3) (fs := [.ref b22, .ref b23, .ref b24]) (v := .ref b23) (Or.inl hc25) rfl z_in0 (by decide) (zT_mem 566 (by decide +kernel) rfl) rfl (by decide +kernel) ?_
    refine zV_blk (pc' := 57) (lo' := [(0, .ref al), (1, .int x1), (2, .ref a2), (3, .int x3), (4, .ref a4), (5, .int s.1)]) (st' := [.int s.1, .ref b23, .int s.1, .ref a4]) [.iload 5] (by decide +kernel) rfl ?_
    obtain ⟨v29, hv29, h⟩ := zbind h
    refine dc_leapsBefore s0 D cB cI cJ cD (idx := 226) n x2.2.1 s.1 b23 v29 hv29 hc27 (zT_mem 1031 (by decide +kernel) rfl) (rest := [.int s.1, .ref a4]) rfl (Nat.le_of_ble_eq_true rfl) ⟨by decide, by decide⟩ (by decide +kernel) ?_
    refine zV_eq (st2 := [.int v29, .int s.1, .ref a4]) rfl rfl rfl rfl ?_
    obtain ⟨hz, h⟩ := zck_some h
    refine la_st hW hz (by decide +kernel) (fun hm hW hFr2 => ?_)
    replace hFr := hFr.tr hFr2; clear hFr2
    refine zV_blk (pc' := 64) (lo' := [(5, .int (s.1 + 1)), (0, .ref al), (1, .int x1), (2, .ref a2), (3, .int x3), (4, .ref a4)]) (st' := []) [.iinc 5 1] (by decide +kernel) rfl ?_
    refine zV_goto (tgt := 41) (off := -23) (by decide +kernel) (by decide) ?_
    obtain rfl := Option.some.inj h
    refine zV_pick (lo2 := [(0, .ref al), (1, .int x1), (2, .ref a2), (3, .int x3), (4, .ref a4), (5, .int (s.1 + 1))]) [1, 2, 3, 4, 5, 0] rfl ?_
    exact hL41 _ rfl _ _ _ hXX hW hFr
theorem cw_asRow_41L (s0 : State) (D : va_G) (X : Nat → Prop) (cB cI cJ cD : ClassId) (al l1 l2 l3 l4 l5 : Nat) (A : Nat → Int32) (tp : Nat → Int32) (dv : Nat → Option vDes) (cs : Nat → Int32) (cv : Nat → Option vDes) (jv : Option vJoint) (bo : Option (Nat → Int32)) (hg : Option (Nat → Int64)) (lw : Option (Nat → Int64)) (sb : vSB) (n : Nat) (x1 : Int32) (x2 : vDes) (x3 : Int32) (N4 : Nat) (a2 : Nat) (a4 : Nat) : ∀ (k : Nat) (s : Int32 × (Nat → Int32)) {hi0 hi hm0 hm : zHp} {nx : Nat} {Q : Option Value → zHp → zHp → Nat → Prop} (_ : lA X cB cI cJ cD al l1 l2 l3 l4 l5 A tp dv cs cv jv bo hg lw sb N4 a4 s.2 hi hm) (ho2 : iDes cI hi a2 x2) (_ : zX hi0 hi) (_ : lFr X hm0 hm) {x : Int32 × (Nat → Int32) × (Nat → Option vDes) × (Nat → Int32) × (Nat → Option vDes)} (_ : zloop (w_asRow_41 n A dv cs cv x1 x2 x3 N4) k s = some x) (hQ : ∀ r : Int32 × (Nat → Int32) × (Nat → Option vDes) × (Nat → Int32) × (Nat → Option vDes), x = r → ∀ (hi' hm' : zHp) (nx' : Nat), zX hi0 hi' → lW X cB cI cJ cD al l1 l2 l3 l4 l5 r.2.1 tp r.2.2.1 r.2.2.2.1 r.2.2.2.2 jv bo hg lw sb hi' hm' → lFr X hm0 hm' → Q (some (.int r.1)) hi' hm' nx'), zV s0 D (zty cB cI cJ cD) yX11_asRow cX11_asRow 6 (some .int) 3 64 2 5 41 [(0, .ref al), (1, .int x1), (2, .ref a2), (3, .int x3), (4, .ref a4), (5, .int s.1)] [] hi hm nx Q
  | 0, s, _, _, _, _, _, _, _, _, _, _, _, h, _ => by cases h
  | k + 1, s, hi0, hi, hm0, hm, nx, Q, hW, ho2, hXX, hFr, x, h, hQ => by
    obtain ⟨z, hz, h1, h2⟩ := zloop_succ h
    exact cw_asRow_41 s0 D X cB cI cJ cD al l1 l2 l3 l4 l5 A tp dv cs cv jv bo hg lw sb n x1 x2 x3 N4 a2 a4 s hW ho2 zX.rf hFr hz (fun s' hs hi' hm' nx' hX hW' hFr' => cw_asRow_41L s0 D X cB cI cJ cD al l1 l2 l3 l4 l5 A tp dv cs cv jv bo hg lw sb n x1 x2 x3 N4 a2 a4 k s' hW' (ho2.mono hX) (hXX.tr hX) hFr' (h1 s' hs) hQ) (fun r hr hi' hm' nx' hX hW' hFr' => hQ r (h2 _ hr).symm hi' hm' nx' (hXX.tr hX) hW' hFr')
def w_asRow (n : Nat) (A : Nat → Int32) (dv : Nat → Option vDes) (cs : Nat → Int32) (cv : Nat → Option vDes) (x1 : Int32) : Option (Int32 × (Nat → Int32) × (Nat → Option vDes) × (Nat → Int32) × (Nat → Option vDes)) := (k_designAt dv x1).bind (fun v1 => zOm (v1) (some ((-2), A, dv, cs, cv)) (fun z3 => (d_cycle z3.2.1).bind (fun v12 => (if (v12 : Int32) ≤ (400 : Int32) then zck (zin ((v12 + 1)) (401 + 1)) ((zloop (w_asRow_41 n A dv cs cv x1 z3 v12 ((v12 + 1) : Int32).toNatClampNeg) n (0, (fun _ => 0)))) else some ((-3), A, dv, cs, cv)))))
theorem oX11_asRow : zO yX11_asRow cX11_asRow 6 (some .int) 1 := ⟨zT_mem 1382 (by decide +kernel) rfl, zT_mem 89 (by decide +kernel) rfl, by decide +kernel, by decide +kernel, by decide +kernel⟩
set_option maxHeartbeats 4000000 in
set_option maxRecDepth 100000 in
theorem cw_asRow (s0 : State) (D : va_G) (X : Nat → Prop) (cB cI cJ cD : ClassId) (al l1 l2 l3 l4 l5 : Nat) (A : Nat → Int32) (tp : Nat → Int32) (dv : Nat → Option vDes) (cs : Nat → Int32) (cv : Nat → Option vDes) (jv : Option vJoint) (bo : Option (Nat → Int32)) (hg : Option (Nat → Int64)) (lw : Option (Nat → Int64)) (sb : vSB) (n : Nat) (x1 : Int32) (x : Int32 × (Nat → Int32) × (Nat → Option vDes) × (Nat → Int32) × (Nat → Option vDes)) (h : w_asRow n A dv cs cv x1 = some x) {hi hm : zHp} {nx : Nat} {Q : Option Value → zHp → zHp → Nat → Prop} (hW : lW X cB cI cJ cD al l1 l2 l3 l4 l5 A tp dv cs cv jv bo hg lw sb hi hm) (hQ0 : ∀ (hi' hm' : zHp) (nx' : Nat), zX hi hi' → lW X cB cI cJ cD al l1 l2 l3 l4 l5 x.2.1 tp x.2.2.1 x.2.2.2.1 x.2.2.2.2 jv bo hg lw sb hi' hm' → lFr X hm hm' → Q (some (.int x.1)) hi' hm' nx') : zM s0 D (zty cB cI cJ cD) yX11_asRow cX11_asRow 6 (some .int) 3 64 3 406 [.ref al, .int x1] hi hm nx Q := by
  have hQ : ∀ r : Int32 × (Nat → Int32) × (Nat → Option vDes) × (Nat → Int32) × (Nat → Option vDes), x = r → ∀ (hi' hm' : zHp) (nx' : Nat), zX hi hi' → lW X cB cI cJ cD al l1 l2 l3 l4 l5 r.2.1 tp r.2.2.1 r.2.2.2.1 r.2.2.2.2 jv bo hg lw sb hi' hm' → lFr X hm hm' → Q (some (.int r.1)) hi' hm' nx' := fun r hr => by subst hr; exact hQ0
  clear hQ0
  have hXX : zX hi hi := zX.rf
  have hFr : lFr X hm hm := lFr.rf
  refine zM_of (by decide +kernel) (Nat.le_of_ble_eq_true rfl) ?_
  unfold w_asRow at h
  refine zV_eq (lo2 := [(0, .ref al), (1, .int x1)]) rfl rfl rfl rfl ?_
  refine zV_blk (pc' := 2) (lo' := [(0, .ref al), (1, .int x1)]) (st' := [.int x1, .ref al]) [.aload_n 0, .iload_n 1] (by decide +kernel) rfl ?_
  obtain ⟨v1, hv1, h⟩ := zbind h
  refine zV_designAt (idx := 105) (rest := []) v1 hv1 hW.ld (zT_mem 603 (by decide +kernel) rfl) rfl (Nat.le_of_ble_eq_true rfl) ⟨by decide, by decide⟩ (by decide +kernel) (fun hx => ?_) (fun b2 z3 hx ho4 => ?_)
  · rw [hx] at h; replace h := zOm_none h
    refine zV_blk (pc' := 7) (lo' := [(2, .null), (0, .ref al), (1, .int x1)]) (st' := [.null]) [.astore_n 2, .aload_n 2] (by decide +kernel) rfl ?_
    refine zV_ifnonnull (r := none) (tgt := 13) (off := 6) (by decide +kernel) (by decide) (fun _ q => by cases q) (fun _ => ?_)
    refine zV_less (mc' := 0) (ms' := 0) (by decide) (by decide) ?_
    refine zV_blk (pc' := 12) (lo' := [(2, .null), (0, .ref al), (1, .int x1)]) (st' := [.int (-2)]) [.bipush (-2)] (by decide +kernel) rfl ?_
    obtain rfl := Option.some.inj h
    exact zV_iret rfl (by decide +kernel) (hQ _ rfl _ _ _ hXX hW hFr)
  · rw [hx] at h; replace h := zOm_some h
    refine zV_blk (pc' := 7) (lo' := [(2, .ref b2), (0, .ref al), (1, .int x1)]) (st' := [.ref b2]) [.astore_n 2, .aload_n 2] (by decide +kernel) rfl ?_
    refine zV_ifnonnull (r := some b2) (tgt := 13) (off := 6) (by decide +kernel) (by decide) (fun _ _ => ?_) (fun q => by cases q)
    refine zV_blk (pc' := 14) (lo' := [(2, .ref b2), (0, .ref al), (1, .int x1)]) (st' := [.ref b2]) [.aload_n 2] (by decide +kernel) rfl ?_
    obtain ⟨b5, b6, b7, hc8, hc9, hc10, hc11⟩ := ho4
    refine zV_get (ci := 0) (idx := 95) (k := 1) (N := 3) (fs := [.ref b5, .ref b6, .ref b7]) (v := .ref b6) (Or.inl hc8) rfl z_in0 (by decide) (zT_mem 566 (by decide +kernel) rfl) rfl (by decide +kernel) ?_
    obtain ⟨v12, hv12, h⟩ := zbind h
    refine dc_cycle s0 D cB cI cJ cD (idx := 99) z3.2.1 b6 v12 hv12 hc10 (zT_mem 581 (by decide +kernel) rfl) (rest := []) rfl (Nat.le_of_ble_eq_true rfl) ⟨by decide, by decide⟩ (by decide +kernel) ?_
    refine zV_eq (st2 := [.int v12]) rfl rfl rfl rfl ?_
    refine zV_blk (pc' := 25) (lo' := [(3, .int v12), (2, .ref b2), (0, .ref al), (1, .int x1)]) (st' := [.int 400, .int v12]) [.istore_n 3, .iload_n 3, .sipush 400] (by decide +kernel) rfl ?_
    refine zV_icmp_le (tgt := 31) (off := 6) (by decide +kernel) (by decide) (fun q => ?_) (fun q => ?_)
    · replace h := zif_pos q h
      clear q
      refine zV_blk (pc' := 34) (lo' := [(3, .int v12), (2, .ref b2), (0, .ref al), (1, .int x1)]) (st' := [.int (v12 + 1)]) [.iload_n 3, .iconst 1, .iadd] (by decide +kernel) rfl ?_
      obtain ⟨hz, h⟩ := zck_some h
      refine la_new (mc := 2) (ms := 5) 401 hW (zT_mem 155 (by decide +kernel) rfl) hz (by decide) (by decide +kernel) (fun hm2 nx14 hW2 hFr2 => ?_)
      obtain ⟨b13, heb13⟩ : ∃ z : Nat, z = nx := ⟨_, rfl⟩
      rw [← heb13] at hW2 ⊢; clear heb13
      clear hW; have hW := hW2; clear hW2
      replace hFr := hFr.tr hFr2; clear hFr2
      refine zV_blk (pc' := 41) (lo' := [(5, .int 0), (4, .ref b13), (3, .int v12), (2, .ref b2), (0, .ref al), (1, .int x1)]) (st' := []) [.astore 4, .iconst 0, .istore 5] (by decide +kernel) rfl ?_
      refine zV_pick (lo2 := [(0, .ref al), (1, .int x1), (2, .ref b2), (3, .int v12), (4, .ref b13), (5, .int 0)]) [4, 5, 3, 2, 1, 0] rfl ?_
      exact cw_asRow_41L s0 D X cB cI cJ cD al l1 l2 l3 l4 l5 A tp dv cs cv jv bo hg lw sb n x1 z3 v12 ((v12 + 1) : Int32).toNatClampNeg b2 b13 n (0, (fun _ => 0)) hW ⟨b5, b6, b7, hc8, hc9, hc10, hc11⟩ hXX hFr h hQ
    · replace h := zif_neg q h
      clear q
      refine zV_less (mc' := 0) (ms' := 0) (by decide) (by decide) ?_
      refine zV_blk (pc' := 30) (lo' := [(3, .int v12), (2, .ref b2), (0, .ref al), (1, .int x1)]) (st' := [.int (-3)]) [.bipush (-3)] (by decide +kernel) rfl ?_
      obtain rfl := Option.some.inj h
      exact zV_iret rfl (by decide +kernel) (hQ _ rfl _ _ _ hXX hW hFr)

